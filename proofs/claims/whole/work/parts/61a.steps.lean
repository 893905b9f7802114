section S1
variable {d n j : Nat} {l0 l1 l2 l3 : Option Value} {st : List Value} {k : Bool} {h : zz_H} {v w v1 v2 : Int32} {y y1 : Int64} {a a1 a2 : Nat} {b0 b1 b2 b3 b4 b5 b6 b7 b8 : Value} {I : Nat → Nat → Int32} {J : Nat → Nat → Int64} {ex : List (Nat × Nat)}
theorem p1 : zz_prog 1 = some zz_m1 := rfl
theorem e1 (g0 : Nat) (g1 : Int32) (g2 : Int32) (g3 : Int32) : zz_Call zz_prog (d + 1) 1 [.ref g0, .int g1, .int g2, .int g3] h = zz_Run zz_prog d 1 (0, [some (.ref g0), some (.int g1), some (.int g2), some (.int g3)], [], true, h) := rfl
theorem t1 (pc : Nat) (L : List (Option Value)) : zz_th d 1 pc a L k h = some (.inr a, k, h) := zz_th_out p1 rfl
theorem f1_0 : zz_fetch zz_prog 1 0 = some (.aload_n 0, 1, [], []) := zz_fetch_of p1 rfl rfl
theorem s1_0 : zz_Run zz_prog d 1 (0, [some (.ref a), l1, l2, l3], st, k, h) = zz_Run zz_prog d 1 (1, [some (.ref a), l1, l2, l3], .ref a :: st, k, h) := zz_k_num f1_0 rfl
theorem f1_1 : zz_fetch zz_prog 1 1 = some (.iconst 0, 1, [], []) := zz_fetch_of p1 rfl rfl
theorem s1_1 : zz_Run zz_prog d 1 (1, [l0, l1, l2, l3], st, k, h) = zz_Run zz_prog d 1 (2, [l0, l1, l2, l3], .int 0 :: st, k, h) := zz_k_num f1_1 rfl
theorem f1_2 : zz_fetch zz_prog 1 2 = some (.invokevirtual 35, 3, [0, 27, 2, 1], []) := zz_fetch_of p1 rfl rfl
theorem s1_2 : zz_Run zz_prog d 1 (2, [l0, l1, l2, l3], [b0, .ref 5], k, (zz_hp n I J ex)) = zz_ret (zz_Call zz_prog d 27 [.ref 5, b0] (zz_hp n I J ex)) (fun v k' h' => zz_Run zz_prog d 1 (5, [l0, l1, l2, l3], v.toList ++ [], k && k', h')) (fun a k' h' => zz_th d 1 2 a [l0, l1, l2, l3] (k && k') h') := zz_k_call f1_2 rfl rfl rfl
theorem f1_5 : zz_fetch zz_prog 1 5 = some (.iload_n 1, 1, [], []) := zz_fetch_of p1 rfl rfl
theorem s1_5 : zz_Run zz_prog d 1 (5, [l0, some (.int v), l2, l3], st, k, h) = zz_Run zz_prog d 1 (6, [l0, some (.int v), l2, l3], .int v :: st, k, h) := zz_k_num f1_5 rfl
theorem f1_6 : zz_fetch zz_prog 1 6 = some (.invokestatic 39, 3, [0, 30, 1], []) := zz_fetch_of p1 rfl rfl
theorem s1_6 : zz_Run zz_prog d 1 (6, [l0, l1, l2, l3], [b0], k, h) = zz_ret (zz_Call zz_prog d 30 [b0] h) (fun v k' h' => zz_Run zz_prog d 1 (9, [l0, l1, l2, l3], v.toList ++ [], k && k', h')) (fun a k' h' => zz_th d 1 6 a [l0, l1, l2, l3] (k && k') h') := zz_k_call f1_6 rfl rfl rfl
theorem f1_9 : zz_fetch zz_prog 1 9 = some (.ifCond .eq 11, 3, [20], []) := zz_fetch_of p1 rfl rfl
theorem s1_9 : zz_Run zz_prog d 1 (9, [l0, l1, l2, l3], .int v :: st, k, h) = if v = 0 then zz_Run zz_prog d 1 (20, [l0, l1, l2, l3], st, k, h) else zz_Run zz_prog d 1 (12, [l0, l1, l2, l3], st, k, h) := zz_k_br (v = 0) rfl (zz_k_num f1_9 rfl)
theorem f1_12 : zz_fetch zz_prog 1 12 = some (.iload_n 2, 1, [], []) := zz_fetch_of p1 rfl rfl
theorem s1_12 : zz_Run zz_prog d 1 (12, [l0, l1, some (.int v), l3], st, k, h) = zz_Run zz_prog d 1 (13, [l0, l1, some (.int v), l3], .int v :: st, k, h) := zz_k_num f1_12 rfl
theorem f1_13 : zz_fetch zz_prog 1 13 = some (.iload_n 3, 1, [], []) := zz_fetch_of p1 rfl rfl
theorem s1_13 : zz_Run zz_prog d 1 (13, [l0, l1, l2, some (.int v)], st, k, h) = zz_Run zz_prog d 1 (14, [l0, l1, l2, some (.int v)], .int v :: st, k, h) := zz_k_num f1_13 rfl
theorem f1_14 : zz_fetch zz_prog 1 14 = some (.invokestatic 43, 3, [0, 32, 2], []) := zz_fetch_of p1 rfl rfl
theorem s1_14 : zz_Run zz_prog d 1 (14, [l0, l1, l2, l3], [b0, b1], k, h) = zz_ret (zz_Call zz_prog d 32 [b1, b0] h) (fun v k' h' => zz_Run zz_prog d 1 (17, [l0, l1, l2, l3], v.toList ++ [], k && k', h')) (fun a k' h' => zz_th d 1 14 a [l0, l1, l2, l3] (k && k') h') := zz_k_call f1_14 rfl rfl rfl
theorem f1_17 : zz_fetch zz_prog 1 17 = some (.ifCond .ne 11, 3, [28], []) := zz_fetch_of p1 rfl rfl
theorem s1_17 : zz_Run zz_prog d 1 (17, [l0, l1, l2, l3], .int v :: st, k, h) = if ¬ v = 0 then zz_Run zz_prog d 1 (28, [l0, l1, l2, l3], st, k, h) else zz_Run zz_prog d 1 (20, [l0, l1, l2, l3], st, k, h) := zz_k_br (¬ v = 0) rfl (zz_k_num f1_17 rfl)
theorem f1_20 : zz_fetch zz_prog 1 20 = some (.new 47, 3, [4, 4], []) := zz_fetch_of p1 rfl rfl
theorem s1_20 : zz_Run zz_prog d 1 (20, [l0, l1, l2, l3], [], true, (zz_hp n I J ex)) = some (.inr (zz_exa ex), false, zz_hp n I J (ex ++ [(4, 4)])) := zz_k_throw f1_20 (by simp)
theorem f1_28 : zz_fetch zz_prog 1 28 = some (.aload_n 0, 1, [], []) := zz_fetch_of p1 rfl rfl
theorem s1_28 : zz_Run zz_prog d 1 (28, [some (.ref a), l1, l2, l3], st, k, h) = zz_Run zz_prog d 1 (29, [some (.ref a), l1, l2, l3], .ref a :: st, k, h) := zz_k_num f1_28 rfl
theorem f1_29 : zz_fetch zz_prog 1 29 = some (.getfield 9, 3, [1, 0, 3], []) := zz_fetch_of p1 rfl rfl
theorem s1_29 : zz_Run zz_prog d 1 (29, [l0, l1, l2, l3], .ref 5 :: st, k, (zz_hp n I J ex)) = zz_Run zz_prog d 1 (32, [l0, l1, l2, l3], .ref 6 :: st, k, (zz_hp n I J ex)) := zz_k_go f1_29 rfl rfl rfl
theorem f1_32 : zz_fetch zz_prog 1 32 = some (.iload_n 1, 1, [], []) := zz_fetch_of p1 rfl rfl
theorem s1_32 : zz_Run zz_prog d 1 (32, [l0, some (.int v), l2, l3], st, k, h) = zz_Run zz_prog d 1 (33, [l0, some (.int v), l2, l3], .int v :: st, k, h) := zz_k_num f1_32 rfl
theorem f1_33 : zz_fetch zz_prog 1 33 = some (.iload_n 2, 1, [], []) := zz_fetch_of p1 rfl rfl
theorem s1_33 : zz_Run zz_prog d 1 (33, [l0, l1, some (.int v), l3], st, k, h) = zz_Run zz_prog d 1 (34, [l0, l1, some (.int v), l3], .int v :: st, k, h) := zz_k_num f1_33 rfl
theorem f1_34 : zz_fetch zz_prog 1 34 = some (.iastore, 1, [], []) := zz_fetch_of p1 rfl rfl
theorem s1_34 (ha : zz_isar a = true) : zz_Run zz_prog d 1 (34, [l0, l1, l2, l3], .int w :: .int v :: .ref a :: st, k, (zz_hp n I J ex)) = zz_ck (zz_in v (zz_ary n a)) (zz_Run zz_prog d 1 (35, [l0, l1, l2, l3], st, false, (zz_hp n (zz_up I a v.toNatClampNeg w) J ex))) := zz_k_iast f1_34 ha
theorem f1_35 : zz_fetch zz_prog 1 35 = some (.aload_n 0, 1, [], []) := zz_fetch_of p1 rfl rfl
theorem s1_35 : zz_Run zz_prog d 1 (35, [some (.ref a), l1, l2, l3], st, k, h) = zz_Run zz_prog d 1 (36, [some (.ref a), l1, l2, l3], .ref a :: st, k, h) := zz_k_num f1_35 rfl
theorem f1_36 : zz_fetch zz_prog 1 36 = some (.getfield 13, 3, [1, 1, 3], []) := zz_fetch_of p1 rfl rfl
theorem s1_36 : zz_Run zz_prog d 1 (36, [l0, l1, l2, l3], .ref 5 :: st, k, (zz_hp n I J ex)) = zz_Run zz_prog d 1 (39, [l0, l1, l2, l3], .ref 7 :: st, k, (zz_hp n I J ex)) := zz_k_go f1_36 rfl rfl rfl
theorem f1_39 : zz_fetch zz_prog 1 39 = some (.iload_n 1, 1, [], []) := zz_fetch_of p1 rfl rfl
theorem s1_39 : zz_Run zz_prog d 1 (39, [l0, some (.int v), l2, l3], st, k, h) = zz_Run zz_prog d 1 (40, [l0, some (.int v), l2, l3], .int v :: st, k, h) := zz_k_num f1_39 rfl
theorem f1_40 : zz_fetch zz_prog 1 40 = some (.iload_n 3, 1, [], []) := zz_fetch_of p1 rfl rfl
theorem s1_40 : zz_Run zz_prog d 1 (40, [l0, l1, l2, some (.int v)], st, k, h) = zz_Run zz_prog d 1 (41, [l0, l1, l2, some (.int v)], .int v :: st, k, h) := zz_k_num f1_40 rfl
theorem f1_41 : zz_fetch zz_prog 1 41 = some (.iastore, 1, [], []) := zz_fetch_of p1 rfl rfl
theorem s1_41 (ha : zz_isar a = true) : zz_Run zz_prog d 1 (41, [l0, l1, l2, l3], .int w :: .int v :: .ref a :: st, k, (zz_hp n I J ex)) = zz_ck (zz_in v (zz_ary n a)) (zz_Run zz_prog d 1 (42, [l0, l1, l2, l3], st, false, (zz_hp n (zz_up I a v.toNatClampNeg w) J ex))) := zz_k_iast f1_41 ha
theorem f1_42 : zz_fetch zz_prog 1 42 = some (.return_, 1, [], []) := zz_fetch_of p1 rfl rfl
theorem s1_42 : zz_Run zz_prog d 1 (42, [l0, l1, l2, l3], [], k, h) = some (.inl none, k, h) := zz_k_stop f1_42 rfl rfl rfl
end S1
section S2
variable {d n j : Nat} {l0 l1 l2 l3 l4 : Option Value} {st : List Value} {k : Bool} {h : zz_H} {v w v1 v2 : Int32} {y y1 : Int64} {a a1 a2 : Nat} {b0 b1 b2 b3 b4 b5 b6 b7 b8 : Value} {I : Nat → Nat → Int32} {J : Nat → Nat → Int64} {ex : List (Nat × Nat)}
theorem p2 : zz_prog 2 = some zz_m2 := rfl
theorem e2 (g0 : Nat) (g1 : Int32) (g2 : Int32) : zz_Call zz_prog (d + 1) 2 [.ref g0, .int g1, .int g2] h = zz_Run zz_prog d 2 (0, [some (.ref g0), some (.int g1), some (.int g2), none, none], [], true, h) := rfl
theorem t2 (pc : Nat) (L : List (Option Value)) : zz_th d 2 pc a L k h = some (.inr a, k, h) := zz_th_out p2 rfl
theorem f2_0 : zz_fetch zz_prog 2 0 = some (.aload_n 0, 1, [], []) := zz_fetch_of p2 rfl rfl
theorem s2_0 : zz_Run zz_prog d 2 (0, [some (.ref a), l1, l2, l3, l4], st, k, h) = zz_Run zz_prog d 2 (1, [some (.ref a), l1, l2, l3, l4], .ref a :: st, k, h) := zz_k_num f2_0 rfl
theorem f2_1 : zz_fetch zz_prog 2 1 = some (.iconst 0, 1, [], []) := zz_fetch_of p2 rfl rfl
theorem s2_1 : zz_Run zz_prog d 2 (1, [l0, l1, l2, l3, l4], st, k, h) = zz_Run zz_prog d 2 (2, [l0, l1, l2, l3, l4], .int 0 :: st, k, h) := zz_k_num f2_1 rfl
theorem f2_2 : zz_fetch zz_prog 2 2 = some (.invokevirtual 35, 3, [0, 27, 2, 1], []) := zz_fetch_of p2 rfl rfl
theorem s2_2 : zz_Run zz_prog d 2 (2, [l0, l1, l2, l3, l4], [b0, .ref 5], k, (zz_hp n I J ex)) = zz_ret (zz_Call zz_prog d 27 [.ref 5, b0] (zz_hp n I J ex)) (fun v k' h' => zz_Run zz_prog d 2 (5, [l0, l1, l2, l3, l4], v.toList ++ [], k && k', h')) (fun a k' h' => zz_th d 2 2 a [l0, l1, l2, l3, l4] (k && k') h') := zz_k_call f2_2 rfl rfl rfl
theorem f2_5 : zz_fetch zz_prog 2 5 = some (.aload_n 0, 1, [], []) := zz_fetch_of p2 rfl rfl
theorem s2_5 : zz_Run zz_prog d 2 (5, [some (.ref a), l1, l2, l3, l4], st, k, h) = zz_Run zz_prog d 2 (6, [some (.ref a), l1, l2, l3, l4], .ref a :: st, k, h) := zz_k_num f2_5 rfl
theorem f2_6 : zz_fetch zz_prog 2 6 = some (.getfield 50, 3, [1, 3, 0], []) := zz_fetch_of p2 rfl rfl
theorem s2_6 : zz_Run zz_prog d 2 (6, [l0, l1, l2, l3, l4], .ref 5 :: st, k, (zz_hp n I J ex)) = zz_Run zz_prog d 2 (9, [l0, l1, l2, l3, l4], .int (I 5 3) :: st, k, (zz_hp n I J ex)) := zz_k_go f2_6 rfl rfl rfl
theorem f2_9 : zz_fetch zz_prog 2 9 = some (.bipush 9, 2, [], []) := zz_fetch_of p2 rfl rfl
theorem s2_9 : zz_Run zz_prog d 2 (9, [l0, l1, l2, l3, l4], st, k, h) = zz_Run zz_prog d 2 (11, [l0, l1, l2, l3, l4], .int 9 :: st, k, h) := zz_k_num f2_9 (congrArg (fun u => some (11, [l0, l1, l2, l3, l4], Value.int u :: st)) (by decide : (Int8.ofInt 9).toInt32 = 9))
theorem f2_11 : zz_fetch zz_prog 2 11 = some (.if_icmp .lt 11, 3, [22], []) := zz_fetch_of p2 rfl rfl
theorem s2_11 : zz_Run zz_prog d 2 (11, [l0, l1, l2, l3, l4], .int w :: .int v :: st, k, h) = if v < w then zz_Run zz_prog d 2 (22, [l0, l1, l2, l3, l4], st, k, h) else zz_Run zz_prog d 2 (14, [l0, l1, l2, l3, l4], st, k, h) := zz_k_br (v < w) rfl (zz_k_num f2_11 rfl)
theorem f2_14 : zz_fetch zz_prog 2 14 = some (.new 54, 3, [4, 3], []) := zz_fetch_of p2 rfl rfl
theorem s2_14 : zz_Run zz_prog d 2 (14, [l0, l1, l2, l3, l4], [], true, (zz_hp n I J ex)) = some (.inr (zz_exa ex), false, zz_hp n I J (ex ++ [(4, 3)])) := zz_k_throw f2_14 (by simp)
theorem f2_22 : zz_fetch zz_prog 2 22 = some (.iconst 0, 1, [], []) := zz_fetch_of p2 rfl rfl
theorem s2_22 : zz_Run zz_prog d 2 (22, [l0, l1, l2, l3, l4], st, k, h) = zz_Run zz_prog d 2 (23, [l0, l1, l2, l3, l4], .int 0 :: st, k, h) := zz_k_num f2_22 rfl
theorem f2_23 : zz_fetch zz_prog 2 23 = some (.iload_n 1, 1, [], []) := zz_fetch_of p2 rfl rfl
theorem s2_23 : zz_Run zz_prog d 2 (23, [l0, some (.int v), l2, l3, l4], st, k, h) = zz_Run zz_prog d 2 (24, [l0, some (.int v), l2, l3, l4], .int v :: st, k, h) := zz_k_num f2_23 rfl
theorem f2_24 : zz_fetch zz_prog 2 24 = some (.invokestatic 57, 3, [0, 33, 2], []) := zz_fetch_of p2 rfl rfl
theorem s2_24 : zz_Run zz_prog d 2 (24, [l0, l1, l2, l3, l4], [b0, b1], k, h) = zz_ret (zz_Call zz_prog d 33 [b1, b0] h) (fun v k' h' => zz_Run zz_prog d 2 (27, [l0, l1, l2, l3, l4], v.toList ++ [], k && k', h')) (fun a k' h' => zz_th d 2 24 a [l0, l1, l2, l3, l4] (k && k') h') := zz_k_call f2_24 rfl rfl rfl
theorem f2_27 : zz_fetch zz_prog 2 27 = some (.ifCond .eq 13, 3, [40], []) := zz_fetch_of p2 rfl rfl
theorem s2_27 : zz_Run zz_prog d 2 (27, [l0, l1, l2, l3, l4], .int v :: st, k, h) = if v = 0 then zz_Run zz_prog d 2 (40, [l0, l1, l2, l3, l4], st, k, h) else zz_Run zz_prog d 2 (30, [l0, l1, l2, l3, l4], st, k, h) := zz_k_br (v = 0) rfl (zz_k_num f2_27 rfl)
theorem f2_30 : zz_fetch zz_prog 2 30 = some (.iload_n 2, 1, [], []) := zz_fetch_of p2 rfl rfl
theorem s2_30 : zz_Run zz_prog d 2 (30, [l0, l1, some (.int v), l3, l4], st, k, h) = zz_Run zz_prog d 2 (31, [l0, l1, some (.int v), l3, l4], .int v :: st, k, h) := zz_k_num f2_30 rfl
theorem f2_31 : zz_fetch zz_prog 2 31 = some (.ifCond .lt 9, 3, [40], []) := zz_fetch_of p2 rfl rfl
theorem s2_31 : zz_Run zz_prog d 2 (31, [l0, l1, l2, l3, l4], .int v :: st, k, h) = if v < 0 then zz_Run zz_prog d 2 (40, [l0, l1, l2, l3, l4], st, k, h) else zz_Run zz_prog d 2 (34, [l0, l1, l2, l3, l4], st, k, h) := zz_k_br (v < 0) rfl (zz_k_num f2_31 rfl)
theorem f2_34 : zz_fetch zz_prog 2 34 = some (.iload_n 2, 1, [], []) := zz_fetch_of p2 rfl rfl
theorem s2_34 : zz_Run zz_prog d 2 (34, [l0, l1, some (.int v), l3, l4], st, k, h) = zz_Run zz_prog d 2 (35, [l0, l1, some (.int v), l3, l4], .int v :: st, k, h) := zz_k_num f2_34 rfl
theorem f2_35 : zz_fetch zz_prog 2 35 = some (.bipush 6, 2, [], []) := zz_fetch_of p2 rfl rfl
theorem s2_35 : zz_Run zz_prog d 2 (35, [l0, l1, l2, l3, l4], st, k, h) = zz_Run zz_prog d 2 (37, [l0, l1, l2, l3, l4], .int 6 :: st, k, h) := zz_k_num f2_35 (congrArg (fun u => some (37, [l0, l1, l2, l3, l4], Value.int u :: st)) (by decide : (Int8.ofInt 6).toInt32 = 6))
theorem f2_37 : zz_fetch zz_prog 2 37 = some (.if_icmp .lt 11, 3, [48], []) := zz_fetch_of p2 rfl rfl
theorem s2_37 : zz_Run zz_prog d 2 (37, [l0, l1, l2, l3, l4], .int w :: .int v :: st, k, h) = if v < w then zz_Run zz_prog d 2 (48, [l0, l1, l2, l3, l4], st, k, h) else zz_Run zz_prog d 2 (40, [l0, l1, l2, l3, l4], st, k, h) := zz_k_br (v < w) rfl (zz_k_num f2_37 rfl)
theorem f2_40 : zz_fetch zz_prog 2 40 = some (.new 47, 3, [4, 4], []) := zz_fetch_of p2 rfl rfl
theorem s2_40 : zz_Run zz_prog d 2 (40, [l0, l1, l2, l3, l4], [], true, (zz_hp n I J ex)) = some (.inr (zz_exa ex), false, zz_hp n I J (ex ++ [(4, 4)])) := zz_k_throw f2_40 (by simp)
theorem f2_48 : zz_fetch zz_prog 2 48 = some (.getstatic 60, 3, [3], []) := zz_fetch_of p2 rfl rfl
theorem s2_48 : zz_Run zz_prog d 2 (48, [l0, l1, l2, l3, l4], st, k, (zz_hp n I J ex)) = zz_Run zz_prog d 2 (51, [l0, l1, l2, l3, l4], .ref 3 :: st, k, (zz_hp n I J ex)) := zz_k_go f2_48 rfl rfl rfl
theorem f2_51 : zz_fetch zz_prog 2 51 = some (.iconst 2, 1, [], []) := zz_fetch_of p2 rfl rfl
theorem s2_51 : zz_Run zz_prog d 2 (51, [l0, l1, l2, l3, l4], st, k, h) = zz_Run zz_prog d 2 (52, [l0, l1, l2, l3, l4], .int 2 :: st, k, h) := zz_k_num f2_51 rfl
theorem f2_52 : zz_fetch zz_prog 2 52 = some (.iload_n 1, 1, [], []) := zz_fetch_of p2 rfl rfl
theorem s2_52 : zz_Run zz_prog d 2 (52, [l0, some (.int v), l2, l3, l4], st, k, h) = zz_Run zz_prog d 2 (53, [l0, some (.int v), l2, l3, l4], .int v :: st, k, h) := zz_k_num f2_52 rfl
theorem f2_53 : zz_fetch zz_prog 2 53 = some (.imul, 1, [], []) := zz_fetch_of p2 rfl rfl
theorem s2_53 : zz_Run zz_prog d 2 (53, [l0, l1, l2, l3, l4], .int w :: .int v :: st, k, h) = zz_Run zz_prog d 2 (54, [l0, l1, l2, l3, l4], .int (v * w) :: st, k, h) := zz_k_num f2_53 rfl
theorem f2_54 : zz_fetch zz_prog 2 54 = some (.iaload, 1, [], []) := zz_fetch_of p2 rfl rfl
theorem s2_54 (ha : zz_isrd a = true) : zz_Run zz_prog d 2 (54, [l0, l1, l2, l3, l4], .int v :: .ref a :: st, k, (zz_hp n I J ex)) = zz_ck (zz_in v (zz_ary n a)) (zz_Run zz_prog d 2 (55, [l0, l1, l2, l3, l4], .int (I a v.toNatClampNeg) :: st, k, (zz_hp n I J ex))) := zz_k_iald f2_54 ha
theorem f2_55 : zz_fetch zz_prog 2 55 = some (.istore_n 3, 1, [], []) := zz_fetch_of p2 rfl rfl
theorem s2_55 : zz_Run zz_prog d 2 (55, [l0, l1, l2, l3, l4], .int v :: st, k, h) = zz_sl l2 (zz_Run zz_prog d 2 (56, [l0, l1, l2, some (.int v), l4], st, k, h)) := zz_k_st (j := 3) (u := .int v) f2_55 rfl (fun q hq => by cases hq) rfl (show 3 < 5 by decide) (by cases l2 <;> rfl) rfl
theorem f2_56 : zz_fetch zz_prog 2 56 = some (.getstatic 60, 3, [3], []) := zz_fetch_of p2 rfl rfl
theorem s2_56 : zz_Run zz_prog d 2 (56, [l0, l1, l2, l3, l4], st, k, (zz_hp n I J ex)) = zz_Run zz_prog d 2 (59, [l0, l1, l2, l3, l4], .ref 3 :: st, k, (zz_hp n I J ex)) := zz_k_go f2_56 rfl rfl rfl
theorem f2_59 : zz_fetch zz_prog 2 59 = some (.iconst 2, 1, [], []) := zz_fetch_of p2 rfl rfl
theorem s2_59 : zz_Run zz_prog d 2 (59, [l0, l1, l2, l3, l4], st, k, h) = zz_Run zz_prog d 2 (60, [l0, l1, l2, l3, l4], .int 2 :: st, k, h) := zz_k_num f2_59 rfl
theorem f2_60 : zz_fetch zz_prog 2 60 = some (.iload_n 1, 1, [], []) := zz_fetch_of p2 rfl rfl
theorem s2_60 : zz_Run zz_prog d 2 (60, [l0, some (.int v), l2, l3, l4], st, k, h) = zz_Run zz_prog d 2 (61, [l0, some (.int v), l2, l3, l4], .int v :: st, k, h) := zz_k_num f2_60 rfl
theorem f2_61 : zz_fetch zz_prog 2 61 = some (.imul, 1, [], []) := zz_fetch_of p2 rfl rfl
theorem s2_61 : zz_Run zz_prog d 2 (61, [l0, l1, l2, l3, l4], .int w :: .int v :: st, k, h) = zz_Run zz_prog d 2 (62, [l0, l1, l2, l3, l4], .int (v * w) :: st, k, h) := zz_k_num f2_61 rfl
theorem f2_62 : zz_fetch zz_prog 2 62 = some (.iconst 1, 1, [], []) := zz_fetch_of p2 rfl rfl
theorem s2_62 : zz_Run zz_prog d 2 (62, [l0, l1, l2, l3, l4], st, k, h) = zz_Run zz_prog d 2 (63, [l0, l1, l2, l3, l4], .int 1 :: st, k, h) := zz_k_num f2_62 rfl
theorem f2_63 : zz_fetch zz_prog 2 63 = some (.iadd, 1, [], []) := zz_fetch_of p2 rfl rfl
theorem s2_63 : zz_Run zz_prog d 2 (63, [l0, l1, l2, l3, l4], .int w :: .int v :: st, k, h) = zz_Run zz_prog d 2 (64, [l0, l1, l2, l3, l4], .int (v + w) :: st, k, h) := zz_k_num f2_63 rfl
theorem f2_64 : zz_fetch zz_prog 2 64 = some (.iaload, 1, [], []) := zz_fetch_of p2 rfl rfl
theorem s2_64 (ha : zz_isrd a = true) : zz_Run zz_prog d 2 (64, [l0, l1, l2, l3, l4], .int v :: .ref a :: st, k, (zz_hp n I J ex)) = zz_ck (zz_in v (zz_ary n a)) (zz_Run zz_prog d 2 (65, [l0, l1, l2, l3, l4], .int (I a v.toNatClampNeg) :: st, k, (zz_hp n I J ex))) := zz_k_iald f2_64 ha
theorem f2_65 : zz_fetch zz_prog 2 65 = some (.istore 4, 2, [], []) := zz_fetch_of p2 rfl rfl
theorem s2_65 : zz_Run zz_prog d 2 (65, [l0, l1, l2, l3, l4], .int v :: st, k, h) = zz_sl l3 (zz_Run zz_prog d 2 (67, [l0, l1, l2, l3, some (.int v)], st, k, h)) := zz_k_st (j := 4) (u := .int v) f2_65 rfl (fun q hq => by cases hq) rfl (show 4 < 5 by decide) (by cases l3 <;> rfl) rfl
theorem f2_67 : zz_fetch zz_prog 2 67 = some (.iload_n 3, 1, [], []) := zz_fetch_of p2 rfl rfl
theorem s2_67 : zz_Run zz_prog d 2 (67, [l0, l1, l2, some (.int v), l4], st, k, h) = zz_Run zz_prog d 2 (68, [l0, l1, l2, some (.int v), l4], .int v :: st, k, h) := zz_k_num f2_67 rfl
theorem f2_68 : zz_fetch zz_prog 2 68 = some (.iload 4, 2, [], []) := zz_fetch_of p2 rfl rfl
theorem s2_68 : zz_Run zz_prog d 2 (68, [l0, l1, l2, l3, some (.int v)], st, k, h) = zz_Run zz_prog d 2 (70, [l0, l1, l2, l3, some (.int v)], .int v :: st, k, h) := zz_k_num f2_68 rfl
theorem f2_70 : zz_fetch zz_prog 2 70 = some (.invokestatic 63, 3, [0, 37, 2], []) := zz_fetch_of p2 rfl rfl
theorem s2_70 : zz_Run zz_prog d 2 (70, [l0, l1, l2, l3, l4], [b0, b1], k, h) = zz_ret (zz_Call zz_prog d 37 [b1, b0] h) (fun v k' h' => zz_Run zz_prog d 2 (73, [l0, l1, l2, l3, l4], v.toList ++ [], k && k', h')) (fun a k' h' => zz_th d 2 70 a [l0, l1, l2, l3, l4] (k && k') h') := zz_k_call f2_70 rfl rfl rfl
theorem f2_73 : zz_fetch zz_prog 2 73 = some (.ifCond .eq 24, 3, [97], []) := zz_fetch_of p2 rfl rfl
theorem s2_73 : zz_Run zz_prog d 2 (73, [l0, l1, l2, l3, l4], .int v :: st, k, h) = if v = 0 then zz_Run zz_prog d 2 (97, [l0, l1, l2, l3, l4], st, k, h) else zz_Run zz_prog d 2 (76, [l0, l1, l2, l3, l4], st, k, h) := zz_k_br (v = 0) rfl (zz_k_num f2_73 rfl)
theorem f2_76 : zz_fetch zz_prog 2 76 = some (.aload_n 0, 1, [], []) := zz_fetch_of p2 rfl rfl
theorem s2_76 : zz_Run zz_prog d 2 (76, [some (.ref a), l1, l2, l3, l4], st, k, h) = zz_Run zz_prog d 2 (77, [some (.ref a), l1, l2, l3, l4], .ref a :: st, k, h) := zz_k_num f2_76 rfl
theorem f2_77 : zz_fetch zz_prog 2 77 = some (.getfield 16, 3, [1, 2, 3], []) := zz_fetch_of p2 rfl rfl
theorem s2_77 : zz_Run zz_prog d 2 (77, [l0, l1, l2, l3, l4], .ref 5 :: st, k, (zz_hp n I J ex)) = zz_Run zz_prog d 2 (80, [l0, l1, l2, l3, l4], .ref 8 :: st, k, (zz_hp n I J ex)) := zz_k_go f2_77 rfl rfl rfl
theorem f2_80 : zz_fetch zz_prog 2 80 = some (.iload_n 3, 1, [], []) := zz_fetch_of p2 rfl rfl
theorem s2_80 : zz_Run zz_prog d 2 (80, [l0, l1, l2, some (.int v), l4], st, k, h) = zz_Run zz_prog d 2 (81, [l0, l1, l2, some (.int v), l4], .int v :: st, k, h) := zz_k_num f2_80 rfl
theorem f2_81 : zz_fetch zz_prog 2 81 = some (.iaload, 1, [], []) := zz_fetch_of p2 rfl rfl
theorem s2_81 (ha : zz_isrd a = true) : zz_Run zz_prog d 2 (81, [l0, l1, l2, l3, l4], .int v :: .ref a :: st, k, (zz_hp n I J ex)) = zz_ck (zz_in v (zz_ary n a)) (zz_Run zz_prog d 2 (82, [l0, l1, l2, l3, l4], .int (I a v.toNatClampNeg) :: st, k, (zz_hp n I J ex))) := zz_k_iald f2_81 ha
theorem f2_82 : zz_fetch zz_prog 2 82 = some (.iconst (-1), 1, [], []) := zz_fetch_of p2 rfl rfl
theorem s2_82 : zz_Run zz_prog d 2 (82, [l0, l1, l2, l3, l4], st, k, h) = zz_Run zz_prog d 2 (83, [l0, l1, l2, l3, l4], .int (-1) :: st, k, h) := zz_k_num f2_82 rfl
theorem f2_83 : zz_fetch zz_prog 2 83 = some (.if_icmp .ne 14, 3, [97], []) := zz_fetch_of p2 rfl rfl
theorem s2_83 : zz_Run zz_prog d 2 (83, [l0, l1, l2, l3, l4], .int w :: .int v :: st, k, h) = if ¬ v = w then zz_Run zz_prog d 2 (97, [l0, l1, l2, l3, l4], st, k, h) else zz_Run zz_prog d 2 (86, [l0, l1, l2, l3, l4], st, k, h) := zz_k_br (¬ v = w) rfl (zz_k_num f2_83 rfl)
theorem f2_86 : zz_fetch zz_prog 2 86 = some (.aload_n 0, 1, [], []) := zz_fetch_of p2 rfl rfl
theorem s2_86 : zz_Run zz_prog d 2 (86, [some (.ref a), l1, l2, l3, l4], st, k, h) = zz_Run zz_prog d 2 (87, [some (.ref a), l1, l2, l3, l4], .ref a :: st, k, h) := zz_k_num f2_86 rfl
theorem f2_87 : zz_fetch zz_prog 2 87 = some (.getfield 16, 3, [1, 2, 3], []) := zz_fetch_of p2 rfl rfl
theorem s2_87 : zz_Run zz_prog d 2 (87, [l0, l1, l2, l3, l4], .ref 5 :: st, k, (zz_hp n I J ex)) = zz_Run zz_prog d 2 (90, [l0, l1, l2, l3, l4], .ref 8 :: st, k, (zz_hp n I J ex)) := zz_k_go f2_87 rfl rfl rfl
theorem f2_90 : zz_fetch zz_prog 2 90 = some (.iload 4, 2, [], []) := zz_fetch_of p2 rfl rfl
theorem s2_90 : zz_Run zz_prog d 2 (90, [l0, l1, l2, l3, some (.int v)], st, k, h) = zz_Run zz_prog d 2 (92, [l0, l1, l2, l3, some (.int v)], .int v :: st, k, h) := zz_k_num f2_90 rfl
theorem f2_92 : zz_fetch zz_prog 2 92 = some (.iaload, 1, [], []) := zz_fetch_of p2 rfl rfl
theorem s2_92 (ha : zz_isrd a = true) : zz_Run zz_prog d 2 (92, [l0, l1, l2, l3, l4], .int v :: .ref a :: st, k, (zz_hp n I J ex)) = zz_ck (zz_in v (zz_ary n a)) (zz_Run zz_prog d 2 (93, [l0, l1, l2, l3, l4], .int (I a v.toNatClampNeg) :: st, k, (zz_hp n I J ex))) := zz_k_iald f2_92 ha
theorem f2_93 : zz_fetch zz_prog 2 93 = some (.iconst (-1), 1, [], []) := zz_fetch_of p2 rfl rfl
theorem s2_93 : zz_Run zz_prog d 2 (93, [l0, l1, l2, l3, l4], st, k, h) = zz_Run zz_prog d 2 (94, [l0, l1, l2, l3, l4], .int (-1) :: st, k, h) := zz_k_num f2_93 rfl
theorem f2_94 : zz_fetch zz_prog 2 94 = some (.if_icmp .eq 11, 3, [105], []) := zz_fetch_of p2 rfl rfl
theorem s2_94 : zz_Run zz_prog d 2 (94, [l0, l1, l2, l3, l4], .int w :: .int v :: st, k, h) = if v = w then zz_Run zz_prog d 2 (105, [l0, l1, l2, l3, l4], st, k, h) else zz_Run zz_prog d 2 (97, [l0, l1, l2, l3, l4], st, k, h) := zz_k_br (v = w) rfl (zz_k_num f2_94 rfl)
theorem f2_97 : zz_fetch zz_prog 2 97 = some (.new 66, 3, [4, 5], []) := zz_fetch_of p2 rfl rfl
theorem s2_97 : zz_Run zz_prog d 2 (97, [l0, l1, l2, l3, l4], [], true, (zz_hp n I J ex)) = some (.inr (zz_exa ex), false, zz_hp n I J (ex ++ [(4, 5)])) := zz_k_throw f2_97 (by simp)
theorem f2_105 : zz_fetch zz_prog 2 105 = some (.aload_n 0, 1, [], []) := zz_fetch_of p2 rfl rfl
theorem s2_105 : zz_Run zz_prog d 2 (105, [some (.ref a), l1, l2, l3, l4], st, k, h) = zz_Run zz_prog d 2 (106, [some (.ref a), l1, l2, l3, l4], .ref a :: st, k, h) := zz_k_num f2_105 rfl
theorem f2_106 : zz_fetch zz_prog 2 106 = some (.getfield 16, 3, [1, 2, 3], []) := zz_fetch_of p2 rfl rfl
theorem s2_106 : zz_Run zz_prog d 2 (106, [l0, l1, l2, l3, l4], .ref 5 :: st, k, (zz_hp n I J ex)) = zz_Run zz_prog d 2 (109, [l0, l1, l2, l3, l4], .ref 8 :: st, k, (zz_hp n I J ex)) := zz_k_go f2_106 rfl rfl rfl
theorem f2_109 : zz_fetch zz_prog 2 109 = some (.iload_n 3, 1, [], []) := zz_fetch_of p2 rfl rfl
theorem s2_109 : zz_Run zz_prog d 2 (109, [l0, l1, l2, some (.int v), l4], st, k, h) = zz_Run zz_prog d 2 (110, [l0, l1, l2, some (.int v), l4], .int v :: st, k, h) := zz_k_num f2_109 rfl
theorem f2_110 : zz_fetch zz_prog 2 110 = some (.iload_n 2, 1, [], []) := zz_fetch_of p2 rfl rfl
theorem s2_110 : zz_Run zz_prog d 2 (110, [l0, l1, some (.int v), l3, l4], st, k, h) = zz_Run zz_prog d 2 (111, [l0, l1, some (.int v), l3, l4], .int v :: st, k, h) := zz_k_num f2_110 rfl
theorem f2_111 : zz_fetch zz_prog 2 111 = some (.iastore, 1, [], []) := zz_fetch_of p2 rfl rfl
theorem s2_111 (ha : zz_isar a = true) : zz_Run zz_prog d 2 (111, [l0, l1, l2, l3, l4], .int w :: .int v :: .ref a :: st, k, (zz_hp n I J ex)) = zz_ck (zz_in v (zz_ary n a)) (zz_Run zz_prog d 2 (112, [l0, l1, l2, l3, l4], st, false, (zz_hp n (zz_up I a v.toNatClampNeg w) J ex))) := zz_k_iast f2_111 ha
theorem f2_112 : zz_fetch zz_prog 2 112 = some (.aload_n 0, 1, [], []) := zz_fetch_of p2 rfl rfl
theorem s2_112 : zz_Run zz_prog d 2 (112, [some (.ref a), l1, l2, l3, l4], st, k, h) = zz_Run zz_prog d 2 (113, [some (.ref a), l1, l2, l3, l4], .ref a :: st, k, h) := zz_k_num f2_112 rfl
theorem f2_113 : zz_fetch zz_prog 2 113 = some (.getfield 16, 3, [1, 2, 3], []) := zz_fetch_of p2 rfl rfl
theorem s2_113 : zz_Run zz_prog d 2 (113, [l0, l1, l2, l3, l4], .ref 5 :: st, k, (zz_hp n I J ex)) = zz_Run zz_prog d 2 (116, [l0, l1, l2, l3, l4], .ref 8 :: st, k, (zz_hp n I J ex)) := zz_k_go f2_113 rfl rfl rfl
theorem f2_116 : zz_fetch zz_prog 2 116 = some (.iload 4, 2, [], []) := zz_fetch_of p2 rfl rfl
theorem s2_116 : zz_Run zz_prog d 2 (116, [l0, l1, l2, l3, some (.int v)], st, k, h) = zz_Run zz_prog d 2 (118, [l0, l1, l2, l3, some (.int v)], .int v :: st, k, h) := zz_k_num f2_116 rfl
theorem f2_118 : zz_fetch zz_prog 2 118 = some (.iload_n 2, 1, [], []) := zz_fetch_of p2 rfl rfl
theorem s2_118 : zz_Run zz_prog d 2 (118, [l0, l1, some (.int v), l3, l4], st, k, h) = zz_Run zz_prog d 2 (119, [l0, l1, some (.int v), l3, l4], .int v :: st, k, h) := zz_k_num f2_118 rfl
theorem f2_119 : zz_fetch zz_prog 2 119 = some (.iastore, 1, [], []) := zz_fetch_of p2 rfl rfl
theorem s2_119 (ha : zz_isar a = true) : zz_Run zz_prog d 2 (119, [l0, l1, l2, l3, l4], .int w :: .int v :: .ref a :: st, k, (zz_hp n I J ex)) = zz_ck (zz_in v (zz_ary n a)) (zz_Run zz_prog d 2 (120, [l0, l1, l2, l3, l4], st, false, (zz_hp n (zz_up I a v.toNatClampNeg w) J ex))) := zz_k_iast f2_119 ha
theorem f2_120 : zz_fetch zz_prog 2 120 = some (.aload_n 0, 1, [], []) := zz_fetch_of p2 rfl rfl
theorem s2_120 : zz_Run zz_prog d 2 (120, [some (.ref a), l1, l2, l3, l4], st, k, h) = zz_Run zz_prog d 2 (121, [some (.ref a), l1, l2, l3, l4], .ref a :: st, k, h) := zz_k_num f2_120 rfl
theorem f2_121 : zz_fetch zz_prog 2 121 = some (.dup, 1, [], []) := zz_fetch_of p2 rfl rfl
theorem s2_121 : zz_Run zz_prog d 2 (121, [l0, l1, l2, l3, l4], .ref a :: st, k, h) = zz_Run zz_prog d 2 (122, [l0, l1, l2, l3, l4], .ref a :: .ref a :: st, k, h) := zz_k_num f2_121 rfl
theorem f2_122 : zz_fetch zz_prog 2 122 = some (.getfield 50, 3, [1, 3, 0], []) := zz_fetch_of p2 rfl rfl
theorem s2_122 : zz_Run zz_prog d 2 (122, [l0, l1, l2, l3, l4], .ref 5 :: st, k, (zz_hp n I J ex)) = zz_Run zz_prog d 2 (125, [l0, l1, l2, l3, l4], .int (I 5 3) :: st, k, (zz_hp n I J ex)) := zz_k_go f2_122 rfl rfl rfl
theorem f2_125 : zz_fetch zz_prog 2 125 = some (.iconst 1, 1, [], []) := zz_fetch_of p2 rfl rfl
theorem s2_125 : zz_Run zz_prog d 2 (125, [l0, l1, l2, l3, l4], st, k, h) = zz_Run zz_prog d 2 (126, [l0, l1, l2, l3, l4], .int 1 :: st, k, h) := zz_k_num f2_125 rfl
theorem f2_126 : zz_fetch zz_prog 2 126 = some (.iadd, 1, [], []) := zz_fetch_of p2 rfl rfl
theorem s2_126 : zz_Run zz_prog d 2 (126, [l0, l1, l2, l3, l4], .int w :: .int v :: st, k, h) = zz_Run zz_prog d 2 (127, [l0, l1, l2, l3, l4], .int (v + w) :: st, k, h) := zz_k_num f2_126 rfl
theorem f2_127 : zz_fetch zz_prog 2 127 = some (.putfield 50, 3, [1, 3, 0], []) := zz_fetch_of p2 rfl rfl
theorem s2_127 : zz_Run zz_prog d 2 (127, [l0, l1, l2, l3, l4], .int v :: .ref 5 :: st, k, (zz_hp n I J ex)) = zz_Run zz_prog d 2 (130, [l0, l1, l2, l3, l4], st, false, (zz_hp n (zz_up I 5 3 v) J ex)) := zz_k_go f2_127 rfl rfl rfl
theorem f2_130 : zz_fetch zz_prog 2 130 = some (.aload_n 0, 1, [], []) := zz_fetch_of p2 rfl rfl
theorem s2_130 : zz_Run zz_prog d 2 (130, [some (.ref a), l1, l2, l3, l4], st, k, h) = zz_Run zz_prog d 2 (131, [some (.ref a), l1, l2, l3, l4], .ref a :: st, k, h) := zz_k_num f2_130 rfl
theorem f2_131 : zz_fetch zz_prog 2 131 = some (.getfield 50, 3, [1, 3, 0], []) := zz_fetch_of p2 rfl rfl
theorem s2_131 : zz_Run zz_prog d 2 (131, [l0, l1, l2, l3, l4], .ref 5 :: st, k, (zz_hp n I J ex)) = zz_Run zz_prog d 2 (134, [l0, l1, l2, l3, l4], .int (I 5 3) :: st, k, (zz_hp n I J ex)) := zz_k_go f2_131 rfl rfl rfl
theorem f2_134 : zz_fetch zz_prog 2 134 = some (.ireturn, 1, [0], []) := zz_fetch_of p2 rfl rfl
theorem s2_134 : zz_Run zz_prog d 2 (134, [l0, l1, l2, l3, l4], [.int v], k, h) = some (.inl (some (.int v)), k, h) := zz_k_stop f2_134 rfl rfl rfl
end S2
section S3
variable {d n j : Nat} {l0 l1 l2 : Option Value} {st : List Value} {k : Bool} {h : zz_H} {v w v1 v2 : Int32} {y y1 : Int64} {a a1 a2 : Nat} {b0 b1 b2 b3 b4 b5 b6 b7 b8 : Value} {I : Nat → Nat → Int32} {J : Nat → Nat → Int64} {ex : List (Nat × Nat)}
theorem p3 : zz_prog 3 = some zz_m3 := rfl
theorem e3 (g0 : Nat) (g1 : Int64) : zz_Call zz_prog (d + 1) 3 [.ref g0, .long g1] h = zz_Run zz_prog d 3 (0, [some (.ref g0), some (.long g1), none], [], true, h) := rfl
theorem t3 (pc : Nat) (L : List (Option Value)) : zz_th d 3 pc a L k h = some (.inr a, k, h) := zz_th_out p3 rfl
theorem f3_0 : zz_fetch zz_prog 3 0 = some (.aload_n 0, 1, [], []) := zz_fetch_of p3 rfl rfl
theorem s3_0 : zz_Run zz_prog d 3 (0, [some (.ref a), l1, l2], st, k, h) = zz_Run zz_prog d 3 (1, [some (.ref a), l1, l2], .ref a :: st, k, h) := zz_k_num f3_0 rfl
theorem f3_1 : zz_fetch zz_prog 3 1 = some (.iconst 0, 1, [], []) := zz_fetch_of p3 rfl rfl
theorem s3_1 : zz_Run zz_prog d 3 (1, [l0, l1, l2], st, k, h) = zz_Run zz_prog d 3 (2, [l0, l1, l2], .int 0 :: st, k, h) := zz_k_num f3_1 rfl
theorem f3_2 : zz_fetch zz_prog 3 2 = some (.invokevirtual 35, 3, [0, 27, 2, 1], []) := zz_fetch_of p3 rfl rfl
theorem s3_2 : zz_Run zz_prog d 3 (2, [l0, l1, l2], [b0, .ref 5], k, (zz_hp n I J ex)) = zz_ret (zz_Call zz_prog d 27 [.ref 5, b0] (zz_hp n I J ex)) (fun v k' h' => zz_Run zz_prog d 3 (5, [l0, l1, l2], v.toList ++ [], k && k', h')) (fun a k' h' => zz_th d 3 2 a [l0, l1, l2] (k && k') h') := zz_k_call f3_2 rfl rfl rfl
theorem f3_5 : zz_fetch zz_prog 3 5 = some (.aload_n 0, 1, [], []) := zz_fetch_of p3 rfl rfl
theorem s3_5 : zz_Run zz_prog d 3 (5, [some (.ref a), l1, l2], st, k, h) = zz_Run zz_prog d 3 (6, [some (.ref a), l1, l2], .ref a :: st, k, h) := zz_k_num f3_5 rfl
theorem f3_6 : zz_fetch zz_prog 3 6 = some (.lload_n 1, 1, [], []) := zz_fetch_of p3 rfl rfl
theorem s3_6 : zz_Run zz_prog d 3 (6, [l0, some (.long y), l2], st, k, h) = zz_Run zz_prog d 3 (7, [l0, some (.long y), l2], .long y :: st, k, h) := zz_k_num f3_6 rfl
theorem f3_7 : zz_fetch zz_prog 3 7 = some (.putfield 69, 3, [1, 4, 2], []) := zz_fetch_of p3 rfl rfl
theorem s3_7 : zz_Run zz_prog d 3 (7, [l0, l1, l2], .long y :: .ref 5 :: st, k, (zz_hp n I J ex)) = zz_Run zz_prog d 3 (10, [l0, l1, l2], st, false, (zz_hp n I (zz_up J 5 4 y) ex)) := zz_k_go f3_7 rfl rfl rfl
theorem f3_10 : zz_fetch zz_prog 3 10 = some (.return_, 1, [], []) := zz_fetch_of p3 rfl rfl
theorem s3_10 : zz_Run zz_prog d 3 (10, [l0, l1, l2], [], k, h) = some (.inl none, k, h) := zz_k_stop f3_10 rfl rfl rfl
end S3
section S4
variable {d n j : Nat} {l0 l1 l2 : Option Value} {st : List Value} {k : Bool} {h : zz_H} {v w v1 v2 : Int32} {y y1 : Int64} {a a1 a2 : Nat} {b0 b1 b2 b3 b4 b5 b6 b7 b8 : Value} {I : Nat → Nat → Int32} {J : Nat → Nat → Int64} {ex : List (Nat × Nat)}
theorem p4 : zz_prog 4 = some zz_m4 := rfl
theorem e4 (g0 : Nat) (g1 : Int32) (g2 : Int32) : zz_Call zz_prog (d + 1) 4 [.ref g0, .int g1, .int g2] h = zz_Run zz_prog d 4 (0, [some (.ref g0), some (.int g1), some (.int g2)], [], true, h) := rfl
theorem t4 (pc : Nat) (L : List (Option Value)) : zz_th d 4 pc a L k h = some (.inr a, k, h) := zz_th_out p4 rfl
theorem f4_0 : zz_fetch zz_prog 4 0 = some (.aload_n 0, 1, [], []) := zz_fetch_of p4 rfl rfl
theorem s4_0 : zz_Run zz_prog d 4 (0, [some (.ref a), l1, l2], st, k, h) = zz_Run zz_prog d 4 (1, [some (.ref a), l1, l2], .ref a :: st, k, h) := zz_k_num f4_0 rfl
theorem f4_1 : zz_fetch zz_prog 4 1 = some (.iconst 0, 1, [], []) := zz_fetch_of p4 rfl rfl
theorem s4_1 : zz_Run zz_prog d 4 (1, [l0, l1, l2], st, k, h) = zz_Run zz_prog d 4 (2, [l0, l1, l2], .int 0 :: st, k, h) := zz_k_num f4_1 rfl
theorem f4_2 : zz_fetch zz_prog 4 2 = some (.invokevirtual 35, 3, [0, 27, 2, 1], []) := zz_fetch_of p4 rfl rfl
theorem s4_2 : zz_Run zz_prog d 4 (2, [l0, l1, l2], [b0, .ref 5], k, (zz_hp n I J ex)) = zz_ret (zz_Call zz_prog d 27 [.ref 5, b0] (zz_hp n I J ex)) (fun v k' h' => zz_Run zz_prog d 4 (5, [l0, l1, l2], v.toList ++ [], k && k', h')) (fun a k' h' => zz_th d 4 2 a [l0, l1, l2] (k && k') h') := zz_k_call f4_2 rfl rfl rfl
theorem f4_5 : zz_fetch zz_prog 4 5 = some (.iload_n 1, 1, [], []) := zz_fetch_of p4 rfl rfl
theorem s4_5 : zz_Run zz_prog d 4 (5, [l0, some (.int v), l2], st, k, h) = zz_Run zz_prog d 4 (6, [l0, some (.int v), l2], .int v :: st, k, h) := zz_k_num f4_5 rfl
theorem f4_6 : zz_fetch zz_prog 4 6 = some (.iconst 2, 1, [], []) := zz_fetch_of p4 rfl rfl
theorem s4_6 : zz_Run zz_prog d 4 (6, [l0, l1, l2], st, k, h) = zz_Run zz_prog d 4 (7, [l0, l1, l2], .int 2 :: st, k, h) := zz_k_num f4_6 rfl
theorem f4_7 : zz_fetch zz_prog 4 7 = some (.if_icmp .lt 19, 3, [26], []) := zz_fetch_of p4 rfl rfl
theorem s4_7 : zz_Run zz_prog d 4 (7, [l0, l1, l2], .int w :: .int v :: st, k, h) = if v < w then zz_Run zz_prog d 4 (26, [l0, l1, l2], st, k, h) else zz_Run zz_prog d 4 (10, [l0, l1, l2], st, k, h) := zz_k_br (v < w) rfl (zz_k_num f4_7 rfl)
theorem f4_10 : zz_fetch zz_prog 4 10 = some (.iload_n 1, 1, [], []) := zz_fetch_of p4 rfl rfl
theorem s4_10 : zz_Run zz_prog d 4 (10, [l0, some (.int v), l2], st, k, h) = zz_Run zz_prog d 4 (11, [l0, some (.int v), l2], .int v :: st, k, h) := zz_k_num f4_10 rfl
theorem f4_11 : zz_fetch zz_prog 4 11 = some (.iconst 4, 1, [], []) := zz_fetch_of p4 rfl rfl
theorem s4_11 : zz_Run zz_prog d 4 (11, [l0, l1, l2], st, k, h) = zz_Run zz_prog d 4 (12, [l0, l1, l2], .int 4 :: st, k, h) := zz_k_num f4_11 rfl
theorem f4_12 : zz_fetch zz_prog 4 12 = some (.if_icmp .gt 14, 3, [26], []) := zz_fetch_of p4 rfl rfl
theorem s4_12 : zz_Run zz_prog d 4 (12, [l0, l1, l2], .int w :: .int v :: st, k, h) = if w < v then zz_Run zz_prog d 4 (26, [l0, l1, l2], st, k, h) else zz_Run zz_prog d 4 (15, [l0, l1, l2], st, k, h) := zz_k_br (w < v) rfl (zz_k_num f4_12 rfl)
theorem f4_15 : zz_fetch zz_prog 4 15 = some (.iload_n 2, 1, [], []) := zz_fetch_of p4 rfl rfl
theorem s4_15 : zz_Run zz_prog d 4 (15, [l0, l1, some (.int v)], st, k, h) = zz_Run zz_prog d 4 (16, [l0, l1, some (.int v)], .int v :: st, k, h) := zz_k_num f4_15 rfl
theorem f4_16 : zz_fetch zz_prog 4 16 = some (.iconst 3, 1, [], []) := zz_fetch_of p4 rfl rfl
theorem s4_16 : zz_Run zz_prog d 4 (16, [l0, l1, l2], st, k, h) = zz_Run zz_prog d 4 (17, [l0, l1, l2], .int 3 :: st, k, h) := zz_k_num f4_16 rfl
theorem f4_17 : zz_fetch zz_prog 4 17 = some (.if_icmp .lt 9, 3, [26], []) := zz_fetch_of p4 rfl rfl
theorem s4_17 : zz_Run zz_prog d 4 (17, [l0, l1, l2], .int w :: .int v :: st, k, h) = if v < w then zz_Run zz_prog d 4 (26, [l0, l1, l2], st, k, h) else zz_Run zz_prog d 4 (20, [l0, l1, l2], st, k, h) := zz_k_br (v < w) rfl (zz_k_num f4_17 rfl)
theorem f4_20 : zz_fetch zz_prog 4 20 = some (.iload_n 2, 1, [], []) := zz_fetch_of p4 rfl rfl
theorem s4_20 : zz_Run zz_prog d 4 (20, [l0, l1, some (.int v)], st, k, h) = zz_Run zz_prog d 4 (21, [l0, l1, some (.int v)], .int v :: st, k, h) := zz_k_num f4_20 rfl
theorem f4_21 : zz_fetch zz_prog 4 21 = some (.bipush 12, 2, [], []) := zz_fetch_of p4 rfl rfl
theorem s4_21 : zz_Run zz_prog d 4 (21, [l0, l1, l2], st, k, h) = zz_Run zz_prog d 4 (23, [l0, l1, l2], .int 12 :: st, k, h) := zz_k_num f4_21 (congrArg (fun u => some (23, [l0, l1, l2], Value.int u :: st)) (by decide : (Int8.ofInt 12).toInt32 = 12))
theorem f4_23 : zz_fetch zz_prog 4 23 = some (.if_icmp .le 11, 3, [34], []) := zz_fetch_of p4 rfl rfl
theorem s4_23 : zz_Run zz_prog d 4 (23, [l0, l1, l2], .int w :: .int v :: st, k, h) = if v ≤ w then zz_Run zz_prog d 4 (34, [l0, l1, l2], st, k, h) else zz_Run zz_prog d 4 (26, [l0, l1, l2], st, k, h) := zz_k_br (v ≤ w) rfl (zz_k_num f4_23 rfl)
theorem f4_26 : zz_fetch zz_prog 4 26 = some (.new 47, 3, [4, 4], []) := zz_fetch_of p4 rfl rfl
theorem s4_26 : zz_Run zz_prog d 4 (26, [l0, l1, l2], [], true, (zz_hp n I J ex)) = some (.inr (zz_exa ex), false, zz_hp n I J (ex ++ [(4, 4)])) := zz_k_throw f4_26 (by simp)
theorem f4_34 : zz_fetch zz_prog 4 34 = some (.aload_n 0, 1, [], []) := zz_fetch_of p4 rfl rfl
theorem s4_34 : zz_Run zz_prog d 4 (34, [some (.ref a), l1, l2], st, k, h) = zz_Run zz_prog d 4 (35, [some (.ref a), l1, l2], .ref a :: st, k, h) := zz_k_num f4_34 rfl
theorem f4_35 : zz_fetch zz_prog 4 35 = some (.iload_n 1, 1, [], []) := zz_fetch_of p4 rfl rfl
theorem s4_35 : zz_Run zz_prog d 4 (35, [l0, some (.int v), l2], st, k, h) = zz_Run zz_prog d 4 (36, [l0, some (.int v), l2], .int v :: st, k, h) := zz_k_num f4_35 rfl
theorem f4_36 : zz_fetch zz_prog 4 36 = some (.putfield 73, 3, [1, 5, 0], []) := zz_fetch_of p4 rfl rfl
theorem s4_36 : zz_Run zz_prog d 4 (36, [l0, l1, l2], .int v :: .ref 5 :: st, k, (zz_hp n I J ex)) = zz_Run zz_prog d 4 (39, [l0, l1, l2], st, false, (zz_hp n (zz_up I 5 5 v) J ex)) := zz_k_go f4_36 rfl rfl rfl
theorem f4_39 : zz_fetch zz_prog 4 39 = some (.aload_n 0, 1, [], []) := zz_fetch_of p4 rfl rfl
theorem s4_39 : zz_Run zz_prog d 4 (39, [some (.ref a), l1, l2], st, k, h) = zz_Run zz_prog d 4 (40, [some (.ref a), l1, l2], .ref a :: st, k, h) := zz_k_num f4_39 rfl
theorem f4_40 : zz_fetch zz_prog 4 40 = some (.iload_n 2, 1, [], []) := zz_fetch_of p4 rfl rfl
theorem s4_40 : zz_Run zz_prog d 4 (40, [l0, l1, some (.int v)], st, k, h) = zz_Run zz_prog d 4 (41, [l0, l1, some (.int v)], .int v :: st, k, h) := zz_k_num f4_40 rfl
theorem f4_41 : zz_fetch zz_prog 4 41 = some (.putfield 76, 3, [1, 6, 0], []) := zz_fetch_of p4 rfl rfl
theorem s4_41 : zz_Run zz_prog d 4 (41, [l0, l1, l2], .int v :: .ref 5 :: st, k, (zz_hp n I J ex)) = zz_Run zz_prog d 4 (44, [l0, l1, l2], st, false, (zz_hp n (zz_up I 5 6 v) J ex)) := zz_k_go f4_41 rfl rfl rfl
theorem f4_44 : zz_fetch zz_prog 4 44 = some (.aload_n 0, 1, [], []) := zz_fetch_of p4 rfl rfl
theorem s4_44 : zz_Run zz_prog d 4 (44, [some (.ref a), l1, l2], st, k, h) = zz_Run zz_prog d 4 (45, [some (.ref a), l1, l2], .ref a :: st, k, h) := zz_k_num f4_44 rfl
theorem f4_45 : zz_fetch zz_prog 4 45 = some (.getfield 28, 3, [1, 7, 3], []) := zz_fetch_of p4 rfl rfl
theorem s4_45 : zz_Run zz_prog d 4 (45, [l0, l1, l2], .ref 5 :: st, k, (zz_hp n I J ex)) = zz_Run zz_prog d 4 (48, [l0, l1, l2], .ref 9 :: st, k, (zz_hp n I J ex)) := zz_k_go f4_45 rfl rfl rfl
theorem f4_48 : zz_fetch zz_prog 4 48 = some (.aload_n 0, 1, [], []) := zz_fetch_of p4 rfl rfl
theorem s4_48 : zz_Run zz_prog d 4 (48, [some (.ref a), l1, l2], st, k, h) = zz_Run zz_prog d 4 (49, [some (.ref a), l1, l2], .ref a :: st, k, h) := zz_k_num f4_48 rfl
theorem f4_49 : zz_fetch zz_prog 4 49 = some (.invokevirtual 79, 3, [0, 41, 1, 1], []) := zz_fetch_of p4 rfl rfl
theorem s4_49 : zz_Run zz_prog d 4 (49, [l0, l1, l2], [.ref 5, b1], k, (zz_hp n I J ex)) = zz_ret (zz_Call zz_prog d 41 [.ref 5] (zz_hp n I J ex)) (fun v k' h' => zz_Run zz_prog d 4 (52, [l0, l1, l2], v.toList ++ [b1], k && k', h')) (fun a k' h' => zz_th d 4 49 a [l0, l1, l2] (k && k') h') := zz_k_call f4_49 rfl rfl rfl
theorem f4_52 : zz_fetch zz_prog 4 52 = some (.putfield 83, 3, [0, 4, 0], []) := zz_fetch_of p4 rfl rfl
theorem s4_52 : zz_Run zz_prog d 4 (52, [l0, l1, l2], .int v :: .ref 9 :: st, k, (zz_hp n I J ex)) = zz_Run zz_prog d 4 (55, [l0, l1, l2], st, false, (zz_hp n (zz_up I 9 4 v) J ex)) := zz_k_go f4_52 rfl rfl rfl
theorem s4_52b : zz_Run zz_prog d 4 (52, [l0, l1, l2], .int v :: .ref 16 :: st, k, (zz_hp n I J ex)) = zz_Run zz_prog d 4 (55, [l0, l1, l2], st, false, (zz_hp n (zz_up I 16 4 v) J ex)) := zz_k_go f4_52 rfl rfl rfl
theorem f4_55 : zz_fetch zz_prog 4 55 = some (.aload_n 0, 1, [], []) := zz_fetch_of p4 rfl rfl
theorem s4_55 : zz_Run zz_prog d 4 (55, [some (.ref a), l1, l2], st, k, h) = zz_Run zz_prog d 4 (56, [some (.ref a), l1, l2], .ref a :: st, k, h) := zz_k_num f4_55 rfl
theorem f4_56 : zz_fetch zz_prog 4 56 = some (.getfield 28, 3, [1, 7, 3], []) := zz_fetch_of p4 rfl rfl
theorem s4_56 : zz_Run zz_prog d 4 (56, [l0, l1, l2], .ref 5 :: st, k, (zz_hp n I J ex)) = zz_Run zz_prog d 4 (59, [l0, l1, l2], .ref 9 :: st, k, (zz_hp n I J ex)) := zz_k_go f4_56 rfl rfl rfl
theorem f4_59 : zz_fetch zz_prog 4 59 = some (.iconst 0, 1, [], []) := zz_fetch_of p4 rfl rfl
theorem s4_59 : zz_Run zz_prog d 4 (59, [l0, l1, l2], st, k, h) = zz_Run zz_prog d 4 (60, [l0, l1, l2], .int 0 :: st, k, h) := zz_k_num f4_59 rfl
theorem f4_60 : zz_fetch zz_prog 4 60 = some (.putfield 86, 3, [0, 1, 0], []) := zz_fetch_of p4 rfl rfl
theorem s4_60 : zz_Run zz_prog d 4 (60, [l0, l1, l2], .int v :: .ref 9 :: st, k, (zz_hp n I J ex)) = zz_Run zz_prog d 4 (63, [l0, l1, l2], st, false, (zz_hp n (zz_up I 9 1 v) J ex)) := zz_k_go f4_60 rfl rfl rfl
theorem s4_60b : zz_Run zz_prog d 4 (60, [l0, l1, l2], .int v :: .ref 16 :: st, k, (zz_hp n I J ex)) = zz_Run zz_prog d 4 (63, [l0, l1, l2], st, false, (zz_hp n (zz_up I 16 1 v) J ex)) := zz_k_go f4_60 rfl rfl rfl
theorem f4_63 : zz_fetch zz_prog 4 63 = some (.aload_n 0, 1, [], []) := zz_fetch_of p4 rfl rfl
theorem s4_63 : zz_Run zz_prog d 4 (63, [some (.ref a), l1, l2], st, k, h) = zz_Run zz_prog d 4 (64, [some (.ref a), l1, l2], .ref a :: st, k, h) := zz_k_num f4_63 rfl
theorem f4_64 : zz_fetch zz_prog 4 64 = some (.getfield 28, 3, [1, 7, 3], []) := zz_fetch_of p4 rfl rfl
theorem s4_64 : zz_Run zz_prog d 4 (64, [l0, l1, l2], .ref 5 :: st, k, (zz_hp n I J ex)) = zz_Run zz_prog d 4 (67, [l0, l1, l2], .ref 9 :: st, k, (zz_hp n I J ex)) := zz_k_go f4_64 rfl rfl rfl
theorem f4_67 : zz_fetch zz_prog 4 67 = some (.iconst 1, 1, [], []) := zz_fetch_of p4 rfl rfl
theorem s4_67 : zz_Run zz_prog d 4 (67, [l0, l1, l2], st, k, h) = zz_Run zz_prog d 4 (68, [l0, l1, l2], .int 1 :: st, k, h) := zz_k_num f4_67 rfl
theorem f4_68 : zz_fetch zz_prog 4 68 = some (.putfield 89, 3, [0, 0, 0], []) := zz_fetch_of p4 rfl rfl
theorem s4_68 : zz_Run zz_prog d 4 (68, [l0, l1, l2], .int v :: .ref 9 :: st, k, (zz_hp n I J ex)) = zz_Run zz_prog d 4 (71, [l0, l1, l2], st, false, (zz_hp n (zz_up I 9 0 v) J ex)) := zz_k_go f4_68 rfl rfl rfl
theorem s4_68b : zz_Run zz_prog d 4 (68, [l0, l1, l2], .int v :: .ref 16 :: st, k, (zz_hp n I J ex)) = zz_Run zz_prog d 4 (71, [l0, l1, l2], st, false, (zz_hp n (zz_up I 16 0 v) J ex)) := zz_k_go f4_68 rfl rfl rfl
theorem f4_71 : zz_fetch zz_prog 4 71 = some (.return_, 1, [], []) := zz_fetch_of p4 rfl rfl
theorem s4_71 : zz_Run zz_prog d 4 (71, [l0, l1, l2], [], k, h) = some (.inl none, k, h) := zz_k_stop f4_71 rfl rfl rfl
end S4
section S5
variable {d n j : Nat} {l0 l1 l2 l3 : Option Value} {st : List Value} {k : Bool} {h : zz_H} {v w v1 v2 : Int32} {y y1 : Int64} {a a1 a2 : Nat} {b0 b1 b2 b3 b4 b5 b6 b7 b8 : Value} {I : Nat → Nat → Int32} {J : Nat → Nat → Int64} {ex : List (Nat × Nat)}
theorem p5 : zz_prog 5 = some zz_m5 := rfl
theorem e5 (g0 : Nat) (g1 : Int32) (g2 : Int32) : zz_Call zz_prog (d + 1) 5 [.ref g0, .int g1, .int g2] h = zz_Run zz_prog d 5 (0, [some (.ref g0), some (.int g1), some (.int g2), none], [], true, h) := rfl
theorem t5 (pc : Nat) (L : List (Option Value)) : zz_th d 5 pc a L k h = some (.inr a, k, h) := zz_th_out p5 rfl
theorem f5_0 : zz_fetch zz_prog 5 0 = some (.iload_n 1, 1, [], []) := zz_fetch_of p5 rfl rfl
theorem s5_0 : zz_Run zz_prog d 5 (0, [l0, some (.int v), l2, l3], st, k, h) = zz_Run zz_prog d 5 (1, [l0, some (.int v), l2, l3], .int v :: st, k, h) := zz_k_num f5_0 rfl
theorem f5_1 : zz_fetch zz_prog 5 1 = some (.iload_n 2, 1, [], []) := zz_fetch_of p5 rfl rfl
theorem s5_1 : zz_Run zz_prog d 5 (1, [l0, l1, some (.int v), l3], st, k, h) = zz_Run zz_prog d 5 (2, [l0, l1, some (.int v), l3], .int v :: st, k, h) := zz_k_num f5_1 rfl
theorem f5_2 : zz_fetch zz_prog 5 2 = some (.invokestatic 57, 3, [0, 33, 2], []) := zz_fetch_of p5 rfl rfl
theorem s5_2 : zz_Run zz_prog d 5 (2, [l0, l1, l2, l3], [b0, b1], k, h) = zz_ret (zz_Call zz_prog d 33 [b1, b0] h) (fun v k' h' => zz_Run zz_prog d 5 (5, [l0, l1, l2, l3], v.toList ++ [], k && k', h')) (fun a k' h' => zz_th d 5 2 a [l0, l1, l2, l3] (k && k') h') := zz_k_call f5_2 rfl rfl rfl
theorem f5_5 : zz_fetch zz_prog 5 5 = some (.ifCond .ne 11, 3, [16], []) := zz_fetch_of p5 rfl rfl
theorem s5_5 : zz_Run zz_prog d 5 (5, [l0, l1, l2, l3], .int v :: st, k, h) = if ¬ v = 0 then zz_Run zz_prog d 5 (16, [l0, l1, l2, l3], st, k, h) else zz_Run zz_prog d 5 (8, [l0, l1, l2, l3], st, k, h) := zz_k_br (¬ v = 0) rfl (zz_k_num f5_5 rfl)
theorem f5_8 : zz_fetch zz_prog 5 8 = some (.new 47, 3, [4, 4], []) := zz_fetch_of p5 rfl rfl
theorem s5_8 : zz_Run zz_prog d 5 (8, [l0, l1, l2, l3], [], true, (zz_hp n I J ex)) = some (.inr (zz_exa ex), false, zz_hp n I J (ex ++ [(4, 4)])) := zz_k_throw f5_8 (by simp)
theorem f5_16 : zz_fetch zz_prog 5 16 = some (.aload_n 0, 1, [], []) := zz_fetch_of p5 rfl rfl
theorem s5_16 : zz_Run zz_prog d 5 (16, [some (.ref a), l1, l2, l3], st, k, h) = zz_Run zz_prog d 5 (17, [some (.ref a), l1, l2, l3], .ref a :: st, k, h) := zz_k_num f5_16 rfl
theorem f5_17 : zz_fetch zz_prog 5 17 = some (.iload_n 1, 1, [], []) := zz_fetch_of p5 rfl rfl
theorem s5_17 : zz_Run zz_prog d 5 (17, [l0, some (.int v), l2, l3], st, k, h) = zz_Run zz_prog d 5 (18, [l0, some (.int v), l2, l3], .int v :: st, k, h) := zz_k_num f5_17 rfl
theorem f5_18 : zz_fetch zz_prog 5 18 = some (.invokevirtual 92, 3, [0, 51, 2, 1], []) := zz_fetch_of p5 rfl rfl
theorem s5_18 : zz_Run zz_prog d 5 (18, [l0, l1, l2, l3], [b0, .ref 5], k, (zz_hp n I J ex)) = zz_ret (zz_Call zz_prog d 51 [.ref 5, b0] (zz_hp n I J ex)) (fun v k' h' => zz_Run zz_prog d 5 (21, [l0, l1, l2, l3], v.toList ++ [], k && k', h')) (fun a k' h' => zz_th d 5 18 a [l0, l1, l2, l3] (k && k') h') := zz_k_call f5_18 rfl rfl rfl
theorem f5_21 : zz_fetch zz_prog 5 21 = some (.ifCond .ne 11, 3, [32], []) := zz_fetch_of p5 rfl rfl
theorem s5_21 : zz_Run zz_prog d 5 (21, [l0, l1, l2, l3], .int v :: st, k, h) = if ¬ v = 0 then zz_Run zz_prog d 5 (32, [l0, l1, l2, l3], st, k, h) else zz_Run zz_prog d 5 (24, [l0, l1, l2, l3], st, k, h) := zz_k_br (¬ v = 0) rfl (zz_k_num f5_21 rfl)
theorem f5_24 : zz_fetch zz_prog 5 24 = some (.new 54, 3, [4, 3], []) := zz_fetch_of p5 rfl rfl
theorem s5_24 : zz_Run zz_prog d 5 (24, [l0, l1, l2, l3], [], true, (zz_hp n I J ex)) = some (.inr (zz_exa ex), false, zz_hp n I J (ex ++ [(4, 3)])) := zz_k_throw f5_24 (by simp)
theorem f5_32 : zz_fetch zz_prog 5 32 = some (.aload_n 0, 1, [], []) := zz_fetch_of p5 rfl rfl
theorem s5_32 : zz_Run zz_prog d 5 (32, [some (.ref a), l1, l2, l3], st, k, h) = zz_Run zz_prog d 5 (33, [some (.ref a), l1, l2, l3], .ref a :: st, k, h) := zz_k_num f5_32 rfl
theorem f5_33 : zz_fetch zz_prog 5 33 = some (.iload_n 1, 1, [], []) := zz_fetch_of p5 rfl rfl
theorem s5_33 : zz_Run zz_prog d 5 (33, [l0, some (.int v), l2, l3], st, k, h) = zz_Run zz_prog d 5 (34, [l0, some (.int v), l2, l3], .int v :: st, k, h) := zz_k_num f5_33 rfl
theorem f5_34 : zz_fetch zz_prog 5 34 = some (.iload_n 2, 1, [], []) := zz_fetch_of p5 rfl rfl
theorem s5_34 : zz_Run zz_prog d 5 (34, [l0, l1, some (.int v), l3], st, k, h) = zz_Run zz_prog d 5 (35, [l0, l1, some (.int v), l3], .int v :: st, k, h) := zz_k_num f5_34 rfl
theorem f5_35 : zz_fetch zz_prog 5 35 = some (.invokevirtual 95, 3, [0, 54, 3, 1], []) := zz_fetch_of p5 rfl rfl
theorem s5_35 : zz_Run zz_prog d 5 (35, [l0, l1, l2, l3], [b0, b1, .ref 5], k, (zz_hp n I J ex)) = zz_ret (zz_Call zz_prog d 54 [.ref 5, b1, b0] (zz_hp n I J ex)) (fun v k' h' => zz_Run zz_prog d 5 (38, [l0, l1, l2, l3], v.toList ++ [], k && k', h')) (fun a k' h' => zz_th d 5 35 a [l0, l1, l2, l3] (k && k') h') := zz_k_call f5_35 rfl rfl rfl
theorem f5_38 : zz_fetch zz_prog 5 38 = some (.ifCond .ne 11, 3, [49], []) := zz_fetch_of p5 rfl rfl
theorem s5_38 : zz_Run zz_prog d 5 (38, [l0, l1, l2, l3], .int v :: st, k, h) = if ¬ v = 0 then zz_Run zz_prog d 5 (49, [l0, l1, l2, l3], st, k, h) else zz_Run zz_prog d 5 (41, [l0, l1, l2, l3], st, k, h) := zz_k_br (¬ v = 0) rfl (zz_k_num f5_38 rfl)
theorem f5_41 : zz_fetch zz_prog 5 41 = some (.new 66, 3, [4, 5], []) := zz_fetch_of p5 rfl rfl
theorem s5_41 : zz_Run zz_prog d 5 (41, [l0, l1, l2, l3], [], true, (zz_hp n I J ex)) = some (.inr (zz_exa ex), false, zz_hp n I J (ex ++ [(4, 5)])) := zz_k_throw f5_41 (by simp)
theorem f5_49 : zz_fetch zz_prog 5 49 = some (.aload_n 0, 1, [], []) := zz_fetch_of p5 rfl rfl
theorem s5_49 : zz_Run zz_prog d 5 (49, [some (.ref a), l1, l2, l3], st, k, h) = zz_Run zz_prog d 5 (50, [some (.ref a), l1, l2, l3], .ref a :: st, k, h) := zz_k_num f5_49 rfl
theorem f5_50 : zz_fetch zz_prog 5 50 = some (.invokevirtual 98, 3, [0, 87, 1, 1], []) := zz_fetch_of p5 rfl rfl
theorem s5_50 : zz_Run zz_prog d 5 (50, [l0, l1, l2, l3], [.ref 5], k, (zz_hp n I J ex)) = zz_ret (zz_Call zz_prog d 87 [.ref 5] (zz_hp n I J ex)) (fun v k' h' => zz_Run zz_prog d 5 (53, [l0, l1, l2, l3], v.toList ++ [], k && k', h')) (fun a k' h' => zz_th d 5 50 a [l0, l1, l2, l3] (k && k') h') := zz_k_call f5_50 rfl rfl rfl
theorem f5_53 : zz_fetch zz_prog 5 53 = some (.aload_n 0, 1, [], []) := zz_fetch_of p5 rfl rfl
theorem s5_53 : zz_Run zz_prog d 5 (53, [some (.ref a), l1, l2, l3], st, k, h) = zz_Run zz_prog d 5 (54, [some (.ref a), l1, l2, l3], .ref a :: st, k, h) := zz_k_num f5_53 rfl
theorem f5_54 : zz_fetch zz_prog 5 54 = some (.getfield 28, 3, [1, 7, 3], []) := zz_fetch_of p5 rfl rfl
theorem s5_54 : zz_Run zz_prog d 5 (54, [l0, l1, l2, l3], .ref 5 :: st, k, (zz_hp n I J ex)) = zz_Run zz_prog d 5 (57, [l0, l1, l2, l3], .ref 9 :: st, k, (zz_hp n I J ex)) := zz_k_go f5_54 rfl rfl rfl
theorem f5_57 : zz_fetch zz_prog 5 57 = some (.getfield 86, 3, [0, 1, 0], []) := zz_fetch_of p5 rfl rfl
theorem s5_57 : zz_Run zz_prog d 5 (57, [l0, l1, l2, l3], .ref 9 :: st, k, (zz_hp n I J ex)) = zz_Run zz_prog d 5 (60, [l0, l1, l2, l3], .int (I 9 1) :: st, k, (zz_hp n I J ex)) := zz_k_go f5_57 rfl rfl rfl
theorem s5_57b : zz_Run zz_prog d 5 (57, [l0, l1, l2, l3], .ref 16 :: st, k, (zz_hp n I J ex)) = zz_Run zz_prog d 5 (60, [l0, l1, l2, l3], .int (I 16 1) :: st, k, (zz_hp n I J ex)) := zz_k_go f5_57 rfl rfl rfl
theorem f5_60 : zz_fetch zz_prog 5 60 = some (.istore_n 3, 1, [], []) := zz_fetch_of p5 rfl rfl
theorem s5_60 : zz_Run zz_prog d 5 (60, [l0, l1, l2, l3], .int v :: st, k, h) = zz_sl l2 (zz_Run zz_prog d 5 (61, [l0, l1, l2, some (.int v)], st, k, h)) := zz_k_st (j := 3) (u := .int v) f5_60 rfl (fun q hq => by cases hq) rfl (show 3 < 4 by decide) (by cases l2 <;> rfl) rfl
theorem f5_61 : zz_fetch zz_prog 5 61 = some (.aload_n 0, 1, [], []) := zz_fetch_of p5 rfl rfl
theorem s5_61 : zz_Run zz_prog d 5 (61, [some (.ref a), l1, l2, l3], st, k, h) = zz_Run zz_prog d 5 (62, [some (.ref a), l1, l2, l3], .ref a :: st, k, h) := zz_k_num f5_61 rfl
theorem f5_62 : zz_fetch zz_prog 5 62 = some (.iload_n 1, 1, [], []) := zz_fetch_of p5 rfl rfl
theorem s5_62 : zz_Run zz_prog d 5 (62, [l0, some (.int v), l2, l3], st, k, h) = zz_Run zz_prog d 5 (63, [l0, some (.int v), l2, l3], .int v :: st, k, h) := zz_k_num f5_62 rfl
theorem f5_63 : zz_fetch zz_prog 5 63 = some (.iload_n 2, 1, [], []) := zz_fetch_of p5 rfl rfl
theorem s5_63 : zz_Run zz_prog d 5 (63, [l0, l1, some (.int v), l3], st, k, h) = zz_Run zz_prog d 5 (64, [l0, l1, some (.int v), l3], .int v :: st, k, h) := zz_k_num f5_63 rfl
theorem f5_64 : zz_fetch zz_prog 5 64 = some (.invokevirtual 101, 3, [0, 60, 3, 1], []) := zz_fetch_of p5 rfl rfl
theorem s5_64 : zz_Run zz_prog d 5 (64, [l0, l1, l2, l3], [b0, b1, .ref 5], k, (zz_hp n I J ex)) = zz_ret (zz_Call zz_prog d 60 [.ref 5, b1, b0] (zz_hp n I J ex)) (fun v k' h' => zz_Run zz_prog d 5 (67, [l0, l1, l2, l3], v.toList ++ [], k && k', h')) (fun a k' h' => zz_th d 5 64 a [l0, l1, l2, l3] (k && k') h') := zz_k_call f5_64 rfl rfl rfl
theorem f5_67 : zz_fetch zz_prog 5 67 = some (.aload_n 0, 1, [], []) := zz_fetch_of p5 rfl rfl
theorem s5_67 : zz_Run zz_prog d 5 (67, [some (.ref a), l1, l2, l3], st, k, h) = zz_Run zz_prog d 5 (68, [some (.ref a), l1, l2, l3], .ref a :: st, k, h) := zz_k_num f5_67 rfl
theorem f5_68 : zz_fetch zz_prog 5 68 = some (.invokevirtual 105, 3, [0, 84, 1, 1], []) := zz_fetch_of p5 rfl rfl
theorem s5_68 : zz_Run zz_prog d 5 (68, [l0, l1, l2, l3], [.ref 5], k, (zz_hp n I J ex)) = zz_ret (zz_Call zz_prog d 84 [.ref 5] (zz_hp n I J ex)) (fun v k' h' => zz_Run zz_prog d 5 (71, [l0, l1, l2, l3], v.toList ++ [], k && k', h')) (fun a k' h' => zz_th d 5 68 a [l0, l1, l2, l3] (k && k') h') := zz_k_call f5_68 rfl rfl rfl
theorem f5_71 : zz_fetch zz_prog 5 71 = some (.aload_n 0, 1, [], []) := zz_fetch_of p5 rfl rfl
theorem s5_71 : zz_Run zz_prog d 5 (71, [some (.ref a), l1, l2, l3], st, k, h) = zz_Run zz_prog d 5 (72, [some (.ref a), l1, l2, l3], .ref a :: st, k, h) := zz_k_num f5_71 rfl
theorem f5_72 : zz_fetch zz_prog 5 72 = some (.iload_n 2, 1, [], []) := zz_fetch_of p5 rfl rfl
theorem s5_72 : zz_Run zz_prog d 5 (72, [l0, l1, some (.int v), l3], st, k, h) = zz_Run zz_prog d 5 (73, [l0, l1, some (.int v), l3], .int v :: st, k, h) := zz_k_num f5_72 rfl
theorem f5_73 : zz_fetch zz_prog 5 73 = some (.invokevirtual 108, 3, [0, 61, 2, 1], []) := zz_fetch_of p5 rfl rfl
theorem s5_73 : zz_Run zz_prog d 5 (73, [l0, l1, l2, l3], [b0, .ref 5], k, (zz_hp n I J ex)) = zz_ret (zz_Call zz_prog d 61 [.ref 5, b0] (zz_hp n I J ex)) (fun v k' h' => zz_Run zz_prog d 5 (76, [l0, l1, l2, l3], v.toList ++ [], k && k', h')) (fun a k' h' => zz_th d 5 73 a [l0, l1, l2, l3] (k && k') h') := zz_k_call f5_73 rfl rfl rfl
theorem f5_76 : zz_fetch zz_prog 5 76 = some (.aload_n 0, 1, [], []) := zz_fetch_of p5 rfl rfl
theorem s5_76 : zz_Run zz_prog d 5 (76, [some (.ref a), l1, l2, l3], st, k, h) = zz_Run zz_prog d 5 (77, [some (.ref a), l1, l2, l3], .ref a :: st, k, h) := zz_k_num f5_76 rfl
theorem f5_77 : zz_fetch zz_prog 5 77 = some (.invokevirtual 111, 3, [0, 86, 1, 1], []) := zz_fetch_of p5 rfl rfl
theorem s5_77 : zz_Run zz_prog d 5 (77, [l0, l1, l2, l3], [.ref 5], k, (zz_hp n I J ex)) = zz_ret (zz_Call zz_prog d 86 [.ref 5] (zz_hp n I J ex)) (fun v k' h' => zz_Run zz_prog d 5 (80, [l0, l1, l2, l3], v.toList ++ [], k && k', h')) (fun a k' h' => zz_th d 5 77 a [l0, l1, l2, l3] (k && k') h') := zz_k_call f5_77 rfl rfl rfl
theorem f5_80 : zz_fetch zz_prog 5 80 = some (.aload_n 0, 1, [], []) := zz_fetch_of p5 rfl rfl
theorem s5_80 : zz_Run zz_prog d 5 (80, [some (.ref a), l1, l2, l3], st, k, h) = zz_Run zz_prog d 5 (81, [some (.ref a), l1, l2, l3], .ref a :: st, k, h) := zz_k_num f5_80 rfl
theorem f5_81 : zz_fetch zz_prog 5 81 = some (.iload_n 3, 1, [], []) := zz_fetch_of p5 rfl rfl
theorem s5_81 : zz_Run zz_prog d 5 (81, [l0, l1, l2, some (.int v)], st, k, h) = zz_Run zz_prog d 5 (82, [l0, l1, l2, some (.int v)], .int v :: st, k, h) := zz_k_num f5_81 rfl
theorem f5_82 : zz_fetch zz_prog 5 82 = some (.invokevirtual 114, 3, [0, 80, 2, 1], []) := zz_fetch_of p5 rfl rfl
theorem s5_82 : zz_Run zz_prog d 5 (82, [l0, l1, l2, l3], [b0, .ref 5], k, (zz_hp n I J ex)) = zz_ret (zz_Call zz_prog d 80 [.ref 5, b0] (zz_hp n I J ex)) (fun v k' h' => zz_Run zz_prog d 5 (85, [l0, l1, l2, l3], v.toList ++ [], k && k', h')) (fun a k' h' => zz_th d 5 82 a [l0, l1, l2, l3] (k && k') h') := zz_k_call f5_82 rfl rfl rfl
theorem f5_85 : zz_fetch zz_prog 5 85 = some (.ireturn, 1, [0], []) := zz_fetch_of p5 rfl rfl
theorem s5_85 : zz_Run zz_prog d 5 (85, [l0, l1, l2, l3], [.int v], k, h) = some (.inl (some (.int v)), k, h) := zz_k_stop f5_85 rfl rfl rfl
end S5
section S6
variable {d n j : Nat} {l0 l1 l2 l3 : Option Value} {st : List Value} {k : Bool} {h : zz_H} {v w v1 v2 : Int32} {y y1 : Int64} {a a1 a2 : Nat} {b0 b1 b2 b3 b4 b5 b6 b7 b8 : Value} {I : Nat → Nat → Int32} {J : Nat → Nat → Int64} {ex : List (Nat × Nat)}
theorem p6 : zz_prog 6 = some zz_m6 := rfl
theorem e6 (g0 : Nat) (g1 : Int32) : zz_Call zz_prog (d + 1) 6 [.ref g0, .int g1] h = zz_Run zz_prog d 6 (0, [some (.ref g0), some (.int g1), none, none], [], true, h) := rfl
theorem t6 (pc : Nat) (L : List (Option Value)) : zz_th d 6 pc a L k h = some (.inr a, k, h) := zz_th_out p6 rfl
theorem f6_0 : zz_fetch zz_prog 6 0 = some (.aload_n 0, 1, [], []) := zz_fetch_of p6 rfl rfl
theorem s6_0 : zz_Run zz_prog d 6 (0, [some (.ref a), l1, l2, l3], st, k, h) = zz_Run zz_prog d 6 (1, [some (.ref a), l1, l2, l3], .ref a :: st, k, h) := zz_k_num f6_0 rfl
theorem f6_1 : zz_fetch zz_prog 6 1 = some (.iconst 3, 1, [], []) := zz_fetch_of p6 rfl rfl
theorem s6_1 : zz_Run zz_prog d 6 (1, [l0, l1, l2, l3], st, k, h) = zz_Run zz_prog d 6 (2, [l0, l1, l2, l3], .int 3 :: st, k, h) := zz_k_num f6_1 rfl
theorem f6_2 : zz_fetch zz_prog 6 2 = some (.invokevirtual 35, 3, [0, 27, 2, 1], []) := zz_fetch_of p6 rfl rfl
theorem s6_2 : zz_Run zz_prog d 6 (2, [l0, l1, l2, l3], [b0, .ref 5], k, (zz_hp n I J ex)) = zz_ret (zz_Call zz_prog d 27 [.ref 5, b0] (zz_hp n I J ex)) (fun v k' h' => zz_Run zz_prog d 6 (5, [l0, l1, l2, l3], v.toList ++ [], k && k', h')) (fun a k' h' => zz_th d 6 2 a [l0, l1, l2, l3] (k && k') h') := zz_k_call f6_2 rfl rfl rfl
theorem f6_5 : zz_fetch zz_prog 6 5 = some (.iload_n 1, 1, [], []) := zz_fetch_of p6 rfl rfl
theorem s6_5 : zz_Run zz_prog d 6 (5, [l0, some (.int v), l2, l3], st, k, h) = zz_Run zz_prog d 6 (6, [l0, some (.int v), l2, l3], .int v :: st, k, h) := zz_k_num f6_5 rfl
theorem f6_6 : zz_fetch zz_prog 6 6 = some (.iconst 2, 1, [], []) := zz_fetch_of p6 rfl rfl
theorem s6_6 : zz_Run zz_prog d 6 (6, [l0, l1, l2, l3], st, k, h) = zz_Run zz_prog d 6 (7, [l0, l1, l2, l3], .int 2 :: st, k, h) := zz_k_num f6_6 rfl
theorem f6_7 : zz_fetch zz_prog 6 7 = some (.if_icmp .lt 9, 3, [16], []) := zz_fetch_of p6 rfl rfl
theorem s6_7 : zz_Run zz_prog d 6 (7, [l0, l1, l2, l3], .int w :: .int v :: st, k, h) = if v < w then zz_Run zz_prog d 6 (16, [l0, l1, l2, l3], st, k, h) else zz_Run zz_prog d 6 (10, [l0, l1, l2, l3], st, k, h) := zz_k_br (v < w) rfl (zz_k_num f6_7 rfl)
theorem f6_10 : zz_fetch zz_prog 6 10 = some (.iload_n 1, 1, [], []) := zz_fetch_of p6 rfl rfl
theorem s6_10 : zz_Run zz_prog d 6 (10, [l0, some (.int v), l2, l3], st, k, h) = zz_Run zz_prog d 6 (11, [l0, some (.int v), l2, l3], .int v :: st, k, h) := zz_k_num f6_10 rfl
theorem f6_11 : zz_fetch zz_prog 6 11 = some (.bipush 12, 2, [], []) := zz_fetch_of p6 rfl rfl
theorem s6_11 : zz_Run zz_prog d 6 (11, [l0, l1, l2, l3], st, k, h) = zz_Run zz_prog d 6 (13, [l0, l1, l2, l3], .int 12 :: st, k, h) := zz_k_num f6_11 (congrArg (fun u => some (13, [l0, l1, l2, l3], Value.int u :: st)) (by decide : (Int8.ofInt 12).toInt32 = 12))
theorem f6_13 : zz_fetch zz_prog 6 13 = some (.if_icmp .le 11, 3, [24], []) := zz_fetch_of p6 rfl rfl
theorem s6_13 : zz_Run zz_prog d 6 (13, [l0, l1, l2, l3], .int w :: .int v :: st, k, h) = if v ≤ w then zz_Run zz_prog d 6 (24, [l0, l1, l2, l3], st, k, h) else zz_Run zz_prog d 6 (16, [l0, l1, l2, l3], st, k, h) := zz_k_br (v ≤ w) rfl (zz_k_num f6_13 rfl)
theorem f6_16 : zz_fetch zz_prog 6 16 = some (.new 47, 3, [4, 4], []) := zz_fetch_of p6 rfl rfl
theorem s6_16 : zz_Run zz_prog d 6 (16, [l0, l1, l2, l3], [], true, (zz_hp n I J ex)) = some (.inr (zz_exa ex), false, zz_hp n I J (ex ++ [(4, 4)])) := zz_k_throw f6_16 (by simp)
theorem f6_24 : zz_fetch zz_prog 6 24 = some (.aload_n 0, 1, [], []) := zz_fetch_of p6 rfl rfl
theorem s6_24 : zz_Run zz_prog d 6 (24, [some (.ref a), l1, l2, l3], st, k, h) = zz_Run zz_prog d 6 (25, [some (.ref a), l1, l2, l3], .ref a :: st, k, h) := zz_k_num f6_24 rfl
theorem f6_25 : zz_fetch zz_prog 6 25 = some (.invokevirtual 98, 3, [0, 87, 1, 1], []) := zz_fetch_of p6 rfl rfl
theorem s6_25 : zz_Run zz_prog d 6 (25, [l0, l1, l2, l3], [.ref 5], k, (zz_hp n I J ex)) = zz_ret (zz_Call zz_prog d 87 [.ref 5] (zz_hp n I J ex)) (fun v k' h' => zz_Run zz_prog d 6 (28, [l0, l1, l2, l3], v.toList ++ [], k && k', h')) (fun a k' h' => zz_th d 6 25 a [l0, l1, l2, l3] (k && k') h') := zz_k_call f6_25 rfl rfl rfl
theorem f6_28 : zz_fetch zz_prog 6 28 = some (.iload_n 1, 1, [], []) := zz_fetch_of p6 rfl rfl
theorem s6_28 : zz_Run zz_prog d 6 (28, [l0, some (.int v), l2, l3], st, k, h) = zz_Run zz_prog d 6 (29, [l0, some (.int v), l2, l3], .int v :: st, k, h) := zz_k_num f6_28 rfl
theorem f6_29 : zz_fetch zz_prog 6 29 = some (.bipush 7, 2, [], []) := zz_fetch_of p6 rfl rfl
theorem s6_29 : zz_Run zz_prog d 6 (29, [l0, l1, l2, l3], st, k, h) = zz_Run zz_prog d 6 (31, [l0, l1, l2, l3], .int 7 :: st, k, h) := zz_k_num f6_29 (congrArg (fun u => some (31, [l0, l1, l2, l3], Value.int u :: st)) (by decide : (Int8.ofInt 7).toInt32 = 7))
theorem f6_31 : zz_fetch zz_prog 6 31 = some (.if_icmp .ne 24, 3, [55], []) := zz_fetch_of p6 rfl rfl
theorem s6_31 : zz_Run zz_prog d 6 (31, [l0, l1, l2, l3], .int w :: .int v :: st, k, h) = if ¬ v = w then zz_Run zz_prog d 6 (55, [l0, l1, l2, l3], st, k, h) else zz_Run zz_prog d 6 (34, [l0, l1, l2, l3], st, k, h) := zz_k_br (¬ v = w) rfl (zz_k_num f6_31 rfl)
theorem f6_34 : zz_fetch zz_prog 6 34 = some (.aload_n 0, 1, [], []) := zz_fetch_of p6 rfl rfl
theorem s6_34 : zz_Run zz_prog d 6 (34, [some (.ref a), l1, l2, l3], st, k, h) = zz_Run zz_prog d 6 (35, [some (.ref a), l1, l2, l3], .ref a :: st, k, h) := zz_k_num f6_34 rfl
theorem f6_35 : zz_fetch zz_prog 6 35 = some (.getfield 28, 3, [1, 7, 3], []) := zz_fetch_of p6 rfl rfl
theorem s6_35 : zz_Run zz_prog d 6 (35, [l0, l1, l2, l3], .ref 5 :: st, k, (zz_hp n I J ex)) = zz_Run zz_prog d 6 (38, [l0, l1, l2, l3], .ref 9 :: st, k, (zz_hp n I J ex)) := zz_k_go f6_35 rfl rfl rfl
theorem f6_38 : zz_fetch zz_prog 6 38 = some (.aload_n 0, 1, [], []) := zz_fetch_of p6 rfl rfl
theorem s6_38 : zz_Run zz_prog d 6 (38, [some (.ref a), l1, l2, l3], st, k, h) = zz_Run zz_prog d 6 (39, [some (.ref a), l1, l2, l3], .ref a :: st, k, h) := zz_k_num f6_38 rfl
theorem f6_39 : zz_fetch zz_prog 6 39 = some (.invokevirtual 118, 3, [0, 70, 1, 1], []) := zz_fetch_of p6 rfl rfl
theorem s6_39 : zz_Run zz_prog d 6 (39, [l0, l1, l2, l3], [.ref 5, b1], k, (zz_hp n I J ex)) = zz_ret (zz_Call zz_prog d 70 [.ref 5] (zz_hp n I J ex)) (fun v k' h' => zz_Run zz_prog d 6 (42, [l0, l1, l2, l3], v.toList ++ [b1], k && k', h')) (fun a k' h' => zz_th d 6 39 a [l0, l1, l2, l3] (k && k') h') := zz_k_call f6_39 rfl rfl rfl
theorem f6_42 : zz_fetch zz_prog 6 42 = some (.ifCond .eq 7, 3, [49], []) := zz_fetch_of p6 rfl rfl
theorem s6_42 : zz_Run zz_prog d 6 (42, [l0, l1, l2, l3], .int v :: st, k, h) = if v = 0 then zz_Run zz_prog d 6 (49, [l0, l1, l2, l3], st, k, h) else zz_Run zz_prog d 6 (45, [l0, l1, l2, l3], st, k, h) := zz_k_br (v = 0) rfl (zz_k_num f6_42 rfl)
theorem f6_45 : zz_fetch zz_prog 6 45 = some (.iconst 4, 1, [], []) := zz_fetch_of p6 rfl rfl
theorem s6_45 : zz_Run zz_prog d 6 (45, [l0, l1, l2, l3], st, k, h) = zz_Run zz_prog d 6 (46, [l0, l1, l2, l3], .int 4 :: st, k, h) := zz_k_num f6_45 rfl
theorem f6_46 : zz_fetch zz_prog 6 46 = some (.goto 4, 3, [50], []) := zz_fetch_of p6 rfl rfl
theorem s6_46 : zz_Run zz_prog d 6 (46, [l0, l1, l2, l3], st, k, h) = zz_Run zz_prog d 6 (50, [l0, l1, l2, l3], st, k, h) := zz_k_num f6_46 rfl
theorem f6_49 : zz_fetch zz_prog 6 49 = some (.iconst 5, 1, [], []) := zz_fetch_of p6 rfl rfl
theorem s6_49 : zz_Run zz_prog d 6 (49, [l0, l1, l2, l3], st, k, h) = zz_Run zz_prog d 6 (50, [l0, l1, l2, l3], .int 5 :: st, k, h) := zz_k_num f6_49 rfl
theorem f6_50 : zz_fetch zz_prog 6 50 = some (.putfield 89, 3, [0, 0, 0], []) := zz_fetch_of p6 rfl rfl
theorem s6_50 : zz_Run zz_prog d 6 (50, [l0, l1, l2, l3], .int v :: .ref 9 :: st, k, (zz_hp n I J ex)) = zz_Run zz_prog d 6 (53, [l0, l1, l2, l3], st, false, (zz_hp n (zz_up I 9 0 v) J ex)) := zz_k_go f6_50 rfl rfl rfl
theorem s6_50b : zz_Run zz_prog d 6 (50, [l0, l1, l2, l3], .int v :: .ref 16 :: st, k, (zz_hp n I J ex)) = zz_Run zz_prog d 6 (53, [l0, l1, l2, l3], st, false, (zz_hp n (zz_up I 16 0 v) J ex)) := zz_k_go f6_50 rfl rfl rfl
theorem f6_53 : zz_fetch zz_prog 6 53 = some (.iconst 0, 1, [], []) := zz_fetch_of p6 rfl rfl
theorem s6_53 : zz_Run zz_prog d 6 (53, [l0, l1, l2, l3], st, k, h) = zz_Run zz_prog d 6 (54, [l0, l1, l2, l3], .int 0 :: st, k, h) := zz_k_num f6_53 rfl
theorem f6_54 : zz_fetch zz_prog 6 54 = some (.ireturn, 1, [0], []) := zz_fetch_of p6 rfl rfl
theorem s6_54 : zz_Run zz_prog d 6 (54, [l0, l1, l2, l3], [.int v], k, h) = some (.inl (some (.int v)), k, h) := zz_k_stop f6_54 rfl rfl rfl
theorem f6_55 : zz_fetch zz_prog 6 55 = some (.aload_n 0, 1, [], []) := zz_fetch_of p6 rfl rfl
theorem s6_55 : zz_Run zz_prog d 6 (55, [some (.ref a), l1, l2, l3], st, k, h) = zz_Run zz_prog d 6 (56, [some (.ref a), l1, l2, l3], .ref a :: st, k, h) := zz_k_num f6_55 rfl
theorem f6_56 : zz_fetch zz_prog 6 56 = some (.getfield 28, 3, [1, 7, 3], []) := zz_fetch_of p6 rfl rfl
theorem s6_56 : zz_Run zz_prog d 6 (56, [l0, l1, l2, l3], .ref 5 :: st, k, (zz_hp n I J ex)) = zz_Run zz_prog d 6 (59, [l0, l1, l2, l3], .ref 9 :: st, k, (zz_hp n I J ex)) := zz_k_go f6_56 rfl rfl rfl
theorem f6_59 : zz_fetch zz_prog 6 59 = some (.bipush 6, 2, [], []) := zz_fetch_of p6 rfl rfl
theorem s6_59 : zz_Run zz_prog d 6 (59, [l0, l1, l2, l3], st, k, h) = zz_Run zz_prog d 6 (61, [l0, l1, l2, l3], .int 6 :: st, k, h) := zz_k_num f6_59 (congrArg (fun u => some (61, [l0, l1, l2, l3], Value.int u :: st)) (by decide : (Int8.ofInt 6).toInt32 = 6))
theorem f6_61 : zz_fetch zz_prog 6 61 = some (.putfield 89, 3, [0, 0, 0], []) := zz_fetch_of p6 rfl rfl
theorem s6_61 : zz_Run zz_prog d 6 (61, [l0, l1, l2, l3], .int v :: .ref 9 :: st, k, (zz_hp n I J ex)) = zz_Run zz_prog d 6 (64, [l0, l1, l2, l3], st, false, (zz_hp n (zz_up I 9 0 v) J ex)) := zz_k_go f6_61 rfl rfl rfl
theorem s6_61b : zz_Run zz_prog d 6 (61, [l0, l1, l2, l3], .int v :: .ref 16 :: st, k, (zz_hp n I J ex)) = zz_Run zz_prog d 6 (64, [l0, l1, l2, l3], st, false, (zz_hp n (zz_up I 16 0 v) J ex)) := zz_k_go f6_61 rfl rfl rfl
theorem f6_64 : zz_fetch zz_prog 6 64 = some (.iconst 0, 1, [], []) := zz_fetch_of p6 rfl rfl
theorem s6_64 : zz_Run zz_prog d 6 (64, [l0, l1, l2, l3], st, k, h) = zz_Run zz_prog d 6 (65, [l0, l1, l2, l3], .int 0 :: st, k, h) := zz_k_num f6_64 rfl
theorem f6_65 : zz_fetch zz_prog 6 65 = some (.istore_n 2, 1, [], []) := zz_fetch_of p6 rfl rfl
theorem s6_65 : zz_Run zz_prog d 6 (65, [l0, l1, l2, l3], .int v :: st, k, h) = zz_sl l1 (zz_Run zz_prog d 6 (66, [l0, l1, some (.int v), l3], st, k, h)) := zz_k_st (j := 2) (u := .int v) f6_65 rfl (fun q hq => by cases hq) rfl (show 2 < 4 by decide) (by cases l1 <;> rfl) rfl
theorem f6_66 : zz_fetch zz_prog 6 66 = some (.iconst 0, 1, [], []) := zz_fetch_of p6 rfl rfl
theorem s6_66 : zz_Run zz_prog d 6 (66, [l0, l1, l2, l3], st, k, h) = zz_Run zz_prog d 6 (67, [l0, l1, l2, l3], .int 0 :: st, k, h) := zz_k_num f6_66 rfl
theorem f6_67 : zz_fetch zz_prog 6 67 = some (.istore_n 3, 1, [], []) := zz_fetch_of p6 rfl rfl
theorem s6_67 : zz_Run zz_prog d 6 (67, [l0, l1, l2, l3], .int v :: st, k, h) = zz_sl l2 (zz_Run zz_prog d 6 (68, [l0, l1, l2, some (.int v)], st, k, h)) := zz_k_st (j := 3) (u := .int v) f6_67 rfl (fun q hq => by cases hq) rfl (show 3 < 4 by decide) (by cases l2 <;> rfl) rfl
theorem f6_68 : zz_fetch zz_prog 6 68 = some (.iload_n 3, 1, [], []) := zz_fetch_of p6 rfl rfl
theorem s6_68 : zz_Run zz_prog d 6 (68, [l0, l1, l2, some (.int v)], st, k, h) = zz_Run zz_prog d 6 (69, [l0, l1, l2, some (.int v)], .int v :: st, k, h) := zz_k_num f6_68 rfl
theorem f6_69 : zz_fetch zz_prog 6 69 = some (.iconst 5, 1, [], []) := zz_fetch_of p6 rfl rfl
theorem s6_69 : zz_Run zz_prog d 6 (69, [l0, l1, l2, l3], st, k, h) = zz_Run zz_prog d 6 (70, [l0, l1, l2, l3], .int 5 :: st, k, h) := zz_k_num f6_69 rfl
theorem f6_70 : zz_fetch zz_prog 6 70 = some (.if_icmp .ge 18, 3, [88], []) := zz_fetch_of p6 rfl rfl
theorem s6_70 : zz_Run zz_prog d 6 (70, [l0, l1, l2, l3], .int w :: .int v :: st, k, h) = if w ≤ v then zz_Run zz_prog d 6 (88, [l0, l1, l2, l3], st, k, h) else zz_Run zz_prog d 6 (73, [l0, l1, l2, l3], st, k, h) := zz_k_br (w ≤ v) rfl (zz_k_num f6_70 rfl)
theorem f6_73 : zz_fetch zz_prog 6 73 = some (.iload_n 2, 1, [], []) := zz_fetch_of p6 rfl rfl
theorem s6_73 : zz_Run zz_prog d 6 (73, [l0, l1, some (.int v), l3], st, k, h) = zz_Run zz_prog d 6 (74, [l0, l1, some (.int v), l3], .int v :: st, k, h) := zz_k_num f6_73 rfl
theorem f6_74 : zz_fetch zz_prog 6 74 = some (.aload_n 0, 1, [], []) := zz_fetch_of p6 rfl rfl
theorem s6_74 : zz_Run zz_prog d 6 (74, [some (.ref a), l1, l2, l3], st, k, h) = zz_Run zz_prog d 6 (75, [some (.ref a), l1, l2, l3], .ref a :: st, k, h) := zz_k_num f6_74 rfl
theorem f6_75 : zz_fetch zz_prog 6 75 = some (.iload_n 3, 1, [], []) := zz_fetch_of p6 rfl rfl
theorem s6_75 : zz_Run zz_prog d 6 (75, [l0, l1, l2, some (.int v)], st, k, h) = zz_Run zz_prog d 6 (76, [l0, l1, l2, some (.int v)], .int v :: st, k, h) := zz_k_num f6_75 rfl
theorem f6_76 : zz_fetch zz_prog 6 76 = some (.iload_n 1, 1, [], []) := zz_fetch_of p6 rfl rfl
theorem s6_76 : zz_Run zz_prog d 6 (76, [l0, some (.int v), l2, l3], st, k, h) = zz_Run zz_prog d 6 (77, [l0, some (.int v), l2, l3], .int v :: st, k, h) := zz_k_num f6_76 rfl
theorem f6_77 : zz_fetch zz_prog 6 77 = some (.invokevirtual 122, 3, [0, 69, 3, 1], []) := zz_fetch_of p6 rfl rfl
theorem s6_77 : zz_Run zz_prog d 6 (77, [l0, l1, l2, l3], [b0, b1, .ref 5, b3], k, (zz_hp n I J ex)) = zz_ret (zz_Call zz_prog d 69 [.ref 5, b1, b0] (zz_hp n I J ex)) (fun v k' h' => zz_Run zz_prog d 6 (80, [l0, l1, l2, l3], v.toList ++ [b3], k && k', h')) (fun a k' h' => zz_th d 6 77 a [l0, l1, l2, l3] (k && k') h') := zz_k_call f6_77 rfl rfl rfl
theorem f6_80 : zz_fetch zz_prog 6 80 = some (.iadd, 1, [], []) := zz_fetch_of p6 rfl rfl
theorem s6_80 : zz_Run zz_prog d 6 (80, [l0, l1, l2, l3], .int w :: .int v :: st, k, h) = zz_Run zz_prog d 6 (81, [l0, l1, l2, l3], .int (v + w) :: st, k, h) := zz_k_num f6_80 rfl
theorem f6_81 : zz_fetch zz_prog 6 81 = some (.istore_n 2, 1, [], []) := zz_fetch_of p6 rfl rfl
theorem s6_81 : zz_Run zz_prog d 6 (81, [l0, l1, l2, l3], .int v :: st, k, h) = zz_sl l1 (zz_Run zz_prog d 6 (82, [l0, l1, some (.int v), l3], st, k, h)) := zz_k_st (j := 2) (u := .int v) f6_81 rfl (fun q hq => by cases hq) rfl (show 2 < 4 by decide) (by cases l1 <;> rfl) rfl
theorem f6_82 : zz_fetch zz_prog 6 82 = some (.iinc 3 1, 3, [], []) := zz_fetch_of p6 rfl rfl
theorem s6_82 : zz_Run zz_prog d 6 (82, [l0, l1, l2, some (.int v)], st, k, h) = zz_sl l2 (zz_Run zz_prog d 6 (85, [l0, l1, l2, some (.int (v + 1))], st, k, h)) := zz_k_st (j := 3) (u := .int (v + 1)) f6_82 rfl (fun q hq => by cases hq) rfl (show 3 < 4 by decide) (by cases l2 <;> rfl) rfl
theorem f6_85 : zz_fetch zz_prog 6 85 = some (.goto (-17), 3, [68], []) := zz_fetch_of p6 rfl rfl
theorem s6_85 : zz_Run zz_prog d 6 (85, [l0, l1, l2, l3], st, k, h) = zz_Run zz_prog d 6 (68, [l0, l1, l2, l3], st, k, h) := zz_k_num f6_85 rfl
theorem f6_88 : zz_fetch zz_prog 6 88 = some (.iload_n 2, 1, [], []) := zz_fetch_of p6 rfl rfl
theorem s6_88 : zz_Run zz_prog d 6 (88, [l0, l1, some (.int v), l3], st, k, h) = zz_Run zz_prog d 6 (89, [l0, l1, some (.int v), l3], .int v :: st, k, h) := zz_k_num f6_88 rfl
theorem f6_89 : zz_fetch zz_prog 6 89 = some (.ireturn, 1, [0], []) := zz_fetch_of p6 rfl rfl
theorem s6_89 : zz_Run zz_prog d 6 (89, [l0, l1, l2, l3], [.int v], k, h) = some (.inl (some (.int v)), k, h) := zz_k_stop f6_89 rfl rfl rfl
end S6
section S7
variable {d n j : Nat} {l0 l1 l2 : Option Value} {st : List Value} {k : Bool} {h : zz_H} {v w v1 v2 : Int32} {y y1 : Int64} {a a1 a2 : Nat} {b0 b1 b2 b3 b4 b5 b6 b7 b8 : Value} {I : Nat → Nat → Int32} {J : Nat → Nat → Int64} {ex : List (Nat × Nat)}
theorem p7 : zz_prog 7 = some zz_m7 := rfl
theorem e7 (g0 : Nat) (g1 : Int32) (g2 : Int32) : zz_Call zz_prog (d + 1) 7 [.ref g0, .int g1, .int g2] h = zz_Run zz_prog d 7 (0, [some (.ref g0), some (.int g1), some (.int g2)], [], true, h) := rfl
theorem t7 (pc : Nat) (L : List (Option Value)) : zz_th d 7 pc a L k h = some (.inr a, k, h) := zz_th_out p7 rfl
theorem f7_0 : zz_fetch zz_prog 7 0 = some (.aload_n 0, 1, [], []) := zz_fetch_of p7 rfl rfl
theorem s7_0 : zz_Run zz_prog d 7 (0, [some (.ref a), l1, l2], st, k, h) = zz_Run zz_prog d 7 (1, [some (.ref a), l1, l2], .ref a :: st, k, h) := zz_k_num f7_0 rfl
theorem f7_1 : zz_fetch zz_prog 7 1 = some (.iconst 4, 1, [], []) := zz_fetch_of p7 rfl rfl
theorem s7_1 : zz_Run zz_prog d 7 (1, [l0, l1, l2], st, k, h) = zz_Run zz_prog d 7 (2, [l0, l1, l2], .int 4 :: st, k, h) := zz_k_num f7_1 rfl
theorem f7_2 : zz_fetch zz_prog 7 2 = some (.invokevirtual 35, 3, [0, 27, 2, 1], []) := zz_fetch_of p7 rfl rfl
theorem s7_2 : zz_Run zz_prog d 7 (2, [l0, l1, l2], [b0, .ref 5], k, (zz_hp n I J ex)) = zz_ret (zz_Call zz_prog d 27 [.ref 5, b0] (zz_hp n I J ex)) (fun v k' h' => zz_Run zz_prog d 7 (5, [l0, l1, l2], v.toList ++ [], k && k', h')) (fun a k' h' => zz_th d 7 2 a [l0, l1, l2] (k && k') h') := zz_k_call f7_2 rfl rfl rfl
theorem f7_5 : zz_fetch zz_prog 7 5 = some (.aload_n 0, 1, [], []) := zz_fetch_of p7 rfl rfl
theorem s7_5 : zz_Run zz_prog d 7 (5, [some (.ref a), l1, l2], st, k, h) = zz_Run zz_prog d 7 (6, [some (.ref a), l1, l2], .ref a :: st, k, h) := zz_k_num f7_5 rfl
theorem f7_6 : zz_fetch zz_prog 7 6 = some (.iload_n 1, 1, [], []) := zz_fetch_of p7 rfl rfl
theorem s7_6 : zz_Run zz_prog d 7 (6, [l0, some (.int v), l2], st, k, h) = zz_Run zz_prog d 7 (7, [l0, some (.int v), l2], .int v :: st, k, h) := zz_k_num f7_6 rfl
theorem f7_7 : zz_fetch zz_prog 7 7 = some (.invokevirtual 126, 3, [0, 29, 2, 1], []) := zz_fetch_of p7 rfl rfl
theorem s7_7 : zz_Run zz_prog d 7 (7, [l0, l1, l2], [b0, .ref 5], k, (zz_hp n I J ex)) = zz_ret (zz_Call zz_prog d 29 [.ref 5, b0] (zz_hp n I J ex)) (fun v k' h' => zz_Run zz_prog d 7 (10, [l0, l1, l2], v.toList ++ [], k && k', h')) (fun a k' h' => zz_th d 7 7 a [l0, l1, l2] (k && k') h') := zz_k_call f7_7 rfl rfl rfl
theorem f7_10 : zz_fetch zz_prog 7 10 = some (.ifCond .eq 31, 3, [41], []) := zz_fetch_of p7 rfl rfl
theorem s7_10 : zz_Run zz_prog d 7 (10, [l0, l1, l2], .int v :: st, k, h) = if v = 0 then zz_Run zz_prog d 7 (41, [l0, l1, l2], st, k, h) else zz_Run zz_prog d 7 (13, [l0, l1, l2], st, k, h) := zz_k_br (v = 0) rfl (zz_k_num f7_10 rfl)
theorem f7_13 : zz_fetch zz_prog 7 13 = some (.iload_n 2, 1, [], []) := zz_fetch_of p7 rfl rfl
theorem s7_13 : zz_Run zz_prog d 7 (13, [l0, l1, some (.int v)], st, k, h) = zz_Run zz_prog d 7 (14, [l0, l1, some (.int v)], .int v :: st, k, h) := zz_k_num f7_13 rfl
theorem f7_14 : zz_fetch zz_prog 7 14 = some (.invokestatic 129, 3, [0, 31, 1], []) := zz_fetch_of p7 rfl rfl
theorem s7_14 : zz_Run zz_prog d 7 (14, [l0, l1, l2], [b0], k, h) = zz_ret (zz_Call zz_prog d 31 [b0] h) (fun v k' h' => zz_Run zz_prog d 7 (17, [l0, l1, l2], v.toList ++ [], k && k', h')) (fun a k' h' => zz_th d 7 14 a [l0, l1, l2] (k && k') h') := zz_k_call f7_14 rfl rfl rfl
theorem f7_17 : zz_fetch zz_prog 7 17 = some (.ifCond .eq 24, 3, [41], []) := zz_fetch_of p7 rfl rfl
theorem s7_17 : zz_Run zz_prog d 7 (17, [l0, l1, l2], .int v :: st, k, h) = if v = 0 then zz_Run zz_prog d 7 (41, [l0, l1, l2], st, k, h) else zz_Run zz_prog d 7 (20, [l0, l1, l2], st, k, h) := zz_k_br (v = 0) rfl (zz_k_num f7_17 rfl)
theorem f7_20 : zz_fetch zz_prog 7 20 = some (.aload_n 0, 1, [], []) := zz_fetch_of p7 rfl rfl
theorem s7_20 : zz_Run zz_prog d 7 (20, [some (.ref a), l1, l2], st, k, h) = zz_Run zz_prog d 7 (21, [some (.ref a), l1, l2], .ref a :: st, k, h) := zz_k_num f7_20 rfl
theorem f7_21 : zz_fetch zz_prog 7 21 = some (.getfield 28, 3, [1, 7, 3], []) := zz_fetch_of p7 rfl rfl
theorem s7_21 : zz_Run zz_prog d 7 (21, [l0, l1, l2], .ref 5 :: st, k, (zz_hp n I J ex)) = zz_Run zz_prog d 7 (24, [l0, l1, l2], .ref 9 :: st, k, (zz_hp n I J ex)) := zz_k_go f7_21 rfl rfl rfl
theorem f7_24 : zz_fetch zz_prog 7 24 = some (.getfield 132, 3, [0, 17, 3], []) := zz_fetch_of p7 rfl rfl
theorem s7_24 : zz_Run zz_prog d 7 (24, [l0, l1, l2], .ref 9 :: st, k, (zz_hp n I J ex)) = zz_Run zz_prog d 7 (27, [l0, l1, l2], .ref 15 :: st, k, (zz_hp n I J ex)) := zz_k_go f7_24 rfl rfl rfl
theorem s7_24b : zz_Run zz_prog d 7 (24, [l0, l1, l2], .ref 16 :: st, k, (zz_hp n I J ex)) = zz_Run zz_prog d 7 (27, [l0, l1, l2], .ref 22 :: st, k, (zz_hp n I J ex)) := zz_k_go f7_24 rfl rfl rfl
theorem f7_27 : zz_fetch zz_prog 7 27 = some (.iload_n 1, 1, [], []) := zz_fetch_of p7 rfl rfl
theorem s7_27 : zz_Run zz_prog d 7 (27, [l0, some (.int v), l2], st, k, h) = zz_Run zz_prog d 7 (28, [l0, some (.int v), l2], .int v :: st, k, h) := zz_k_num f7_27 rfl
theorem f7_28 : zz_fetch zz_prog 7 28 = some (.iaload, 1, [], []) := zz_fetch_of p7 rfl rfl
theorem s7_28 (ha : zz_isrd a = true) : zz_Run zz_prog d 7 (28, [l0, l1, l2], .int v :: .ref a :: st, k, (zz_hp n I J ex)) = zz_ck (zz_in v (zz_ary n a)) (zz_Run zz_prog d 7 (29, [l0, l1, l2], .int (I a v.toNatClampNeg) :: st, k, (zz_hp n I J ex))) := zz_k_iald f7_28 ha
theorem f7_29 : zz_fetch zz_prog 7 29 = some (.ifCond .eq 12, 3, [41], []) := zz_fetch_of p7 rfl rfl
theorem s7_29 : zz_Run zz_prog d 7 (29, [l0, l1, l2], .int v :: st, k, h) = if v = 0 then zz_Run zz_prog d 7 (41, [l0, l1, l2], st, k, h) else zz_Run zz_prog d 7 (32, [l0, l1, l2], st, k, h) := zz_k_br (v = 0) rfl (zz_k_num f7_29 rfl)
theorem f7_32 : zz_fetch zz_prog 7 32 = some (.aload_n 0, 1, [], []) := zz_fetch_of p7 rfl rfl
theorem s7_32 : zz_Run zz_prog d 7 (32, [some (.ref a), l1, l2], st, k, h) = zz_Run zz_prog d 7 (33, [some (.ref a), l1, l2], .ref a :: st, k, h) := zz_k_num f7_32 rfl
theorem f7_33 : zz_fetch zz_prog 7 33 = some (.iload_n 1, 1, [], []) := zz_fetch_of p7 rfl rfl
theorem s7_33 : zz_Run zz_prog d 7 (33, [l0, some (.int v), l2], st, k, h) = zz_Run zz_prog d 7 (34, [l0, some (.int v), l2], .int v :: st, k, h) := zz_k_num f7_33 rfl
theorem f7_34 : zz_fetch zz_prog 7 34 = some (.iload_n 2, 1, [], []) := zz_fetch_of p7 rfl rfl
theorem s7_34 : zz_Run zz_prog d 7 (34, [l0, l1, some (.int v)], st, k, h) = zz_Run zz_prog d 7 (35, [l0, l1, some (.int v)], .int v :: st, k, h) := zz_k_num f7_34 rfl
theorem f7_35 : zz_fetch zz_prog 7 35 = some (.invokevirtual 135, 3, [0, 42, 3, 1], []) := zz_fetch_of p7 rfl rfl
theorem s7_35 : zz_Run zz_prog d 7 (35, [l0, l1, l2], [b0, b1, .ref 5], k, (zz_hp n I J ex)) = zz_ret (zz_Call zz_prog d 42 [.ref 5, b1, b0] (zz_hp n I J ex)) (fun v k' h' => zz_Run zz_prog d 7 (38, [l0, l1, l2], v.toList ++ [], k && k', h')) (fun a k' h' => zz_th d 7 35 a [l0, l1, l2] (k && k') h') := zz_k_call f7_35 rfl rfl rfl
theorem f7_38 : zz_fetch zz_prog 7 38 = some (.ifCond .ne 11, 3, [49], []) := zz_fetch_of p7 rfl rfl
theorem s7_38 : zz_Run zz_prog d 7 (38, [l0, l1, l2], .int v :: st, k, h) = if ¬ v = 0 then zz_Run zz_prog d 7 (49, [l0, l1, l2], st, k, h) else zz_Run zz_prog d 7 (41, [l0, l1, l2], st, k, h) := zz_k_br (¬ v = 0) rfl (zz_k_num f7_38 rfl)
theorem f7_41 : zz_fetch zz_prog 7 41 = some (.new 47, 3, [4, 4], []) := zz_fetch_of p7 rfl rfl
theorem s7_41 : zz_Run zz_prog d 7 (41, [l0, l1, l2], [], true, (zz_hp n I J ex)) = some (.inr (zz_exa ex), false, zz_hp n I J (ex ++ [(4, 4)])) := zz_k_throw f7_41 (by simp)
theorem f7_49 : zz_fetch zz_prog 7 49 = some (.aload_n 0, 1, [], []) := zz_fetch_of p7 rfl rfl
theorem s7_49 : zz_Run zz_prog d 7 (49, [some (.ref a), l1, l2], st, k, h) = zz_Run zz_prog d 7 (50, [some (.ref a), l1, l2], .ref a :: st, k, h) := zz_k_num f7_49 rfl
theorem f7_50 : zz_fetch zz_prog 7 50 = some (.invokevirtual 98, 3, [0, 87, 1, 1], []) := zz_fetch_of p7 rfl rfl
theorem s7_50 : zz_Run zz_prog d 7 (50, [l0, l1, l2], [.ref 5], k, (zz_hp n I J ex)) = zz_ret (zz_Call zz_prog d 87 [.ref 5] (zz_hp n I J ex)) (fun v k' h' => zz_Run zz_prog d 7 (53, [l0, l1, l2], v.toList ++ [], k && k', h')) (fun a k' h' => zz_th d 7 50 a [l0, l1, l2] (k && k') h') := zz_k_call f7_50 rfl rfl rfl
theorem f7_53 : zz_fetch zz_prog 7 53 = some (.aload_n 0, 1, [], []) := zz_fetch_of p7 rfl rfl
theorem s7_53 : zz_Run zz_prog d 7 (53, [some (.ref a), l1, l2], st, k, h) = zz_Run zz_prog d 7 (54, [some (.ref a), l1, l2], .ref a :: st, k, h) := zz_k_num f7_53 rfl
theorem f7_54 : zz_fetch zz_prog 7 54 = some (.iload_n 1, 1, [], []) := zz_fetch_of p7 rfl rfl
theorem s7_54 : zz_Run zz_prog d 7 (54, [l0, some (.int v), l2], st, k, h) = zz_Run zz_prog d 7 (55, [l0, some (.int v), l2], .int v :: st, k, h) := zz_k_num f7_54 rfl
theorem f7_55 : zz_fetch zz_prog 7 55 = some (.iconst 4, 1, [], []) := zz_fetch_of p7 rfl rfl
theorem s7_55 : zz_Run zz_prog d 7 (55, [l0, l1, l2], st, k, h) = zz_Run zz_prog d 7 (56, [l0, l1, l2], .int 4 :: st, k, h) := zz_k_num f7_55 rfl
theorem f7_56 : zz_fetch zz_prog 7 56 = some (.iload_n 2, 1, [], []) := zz_fetch_of p7 rfl rfl
theorem s7_56 : zz_Run zz_prog d 7 (56, [l0, l1, some (.int v)], st, k, h) = zz_Run zz_prog d 7 (57, [l0, l1, some (.int v)], .int v :: st, k, h) := zz_k_num f7_56 rfl
theorem f7_57 : zz_fetch zz_prog 7 57 = some (.iconst 1, 1, [], []) := zz_fetch_of p7 rfl rfl
theorem s7_57 : zz_Run zz_prog d 7 (57, [l0, l1, l2], st, k, h) = zz_Run zz_prog d 7 (58, [l0, l1, l2], .int 1 :: st, k, h) := zz_k_num f7_57 rfl
theorem f7_58 : zz_fetch zz_prog 7 58 = some (.invokevirtual 138, 3, [0, 44, 5, 1], []) := zz_fetch_of p7 rfl rfl
theorem s7_58 : zz_Run zz_prog d 7 (58, [l0, l1, l2], [b0, b1, b2, b3, .ref 5], k, (zz_hp n I J ex)) = zz_ret (zz_Call zz_prog d 44 [.ref 5, b3, b2, b1, b0] (zz_hp n I J ex)) (fun v k' h' => zz_Run zz_prog d 7 (61, [l0, l1, l2], v.toList ++ [], k && k', h')) (fun a k' h' => zz_th d 7 58 a [l0, l1, l2] (k && k') h') := zz_k_call f7_58 rfl rfl rfl
theorem f7_61 : zz_fetch zz_prog 7 61 = some (.aload_n 0, 1, [], []) := zz_fetch_of p7 rfl rfl
theorem s7_61 : zz_Run zz_prog d 7 (61, [some (.ref a), l1, l2], st, k, h) = zz_Run zz_prog d 7 (62, [some (.ref a), l1, l2], .ref a :: st, k, h) := zz_k_num f7_61 rfl
theorem f7_62 : zz_fetch zz_prog 7 62 = some (.getfield 28, 3, [1, 7, 3], []) := zz_fetch_of p7 rfl rfl
theorem s7_62 : zz_Run zz_prog d 7 (62, [l0, l1, l2], .ref 5 :: st, k, (zz_hp n I J ex)) = zz_Run zz_prog d 7 (65, [l0, l1, l2], .ref 9 :: st, k, (zz_hp n I J ex)) := zz_k_go f7_62 rfl rfl rfl
theorem f7_65 : zz_fetch zz_prog 7 65 = some (.getfield 132, 3, [0, 17, 3], []) := zz_fetch_of p7 rfl rfl
theorem s7_65 : zz_Run zz_prog d 7 (65, [l0, l1, l2], .ref 9 :: st, k, (zz_hp n I J ex)) = zz_Run zz_prog d 7 (68, [l0, l1, l2], .ref 15 :: st, k, (zz_hp n I J ex)) := zz_k_go f7_65 rfl rfl rfl
theorem s7_65b : zz_Run zz_prog d 7 (65, [l0, l1, l2], .ref 16 :: st, k, (zz_hp n I J ex)) = zz_Run zz_prog d 7 (68, [l0, l1, l2], .ref 22 :: st, k, (zz_hp n I J ex)) := zz_k_go f7_65 rfl rfl rfl
theorem f7_68 : zz_fetch zz_prog 7 68 = some (.iload_n 1, 1, [], []) := zz_fetch_of p7 rfl rfl
theorem s7_68 : zz_Run zz_prog d 7 (68, [l0, some (.int v), l2], st, k, h) = zz_Run zz_prog d 7 (69, [l0, some (.int v), l2], .int v :: st, k, h) := zz_k_num f7_68 rfl
theorem f7_69 : zz_fetch zz_prog 7 69 = some (.dup2, 1, [], []) := zz_fetch_of p7 rfl rfl
theorem s7_69 : zz_Run zz_prog d 7 (69, [l0, l1, l2], .int v :: .ref a1 :: st, k, h) = zz_Run zz_prog d 7 (70, [l0, l1, l2], .int v :: .ref a1 :: .int v :: .ref a1 :: st, k, h) := zz_k_num f7_69 rfl
theorem f7_70 : zz_fetch zz_prog 7 70 = some (.iaload, 1, [], []) := zz_fetch_of p7 rfl rfl
theorem s7_70 (ha : zz_isrd a = true) : zz_Run zz_prog d 7 (70, [l0, l1, l2], .int v :: .ref a :: st, k, (zz_hp n I J ex)) = zz_ck (zz_in v (zz_ary n a)) (zz_Run zz_prog d 7 (71, [l0, l1, l2], .int (I a v.toNatClampNeg) :: st, k, (zz_hp n I J ex))) := zz_k_iald f7_70 ha
theorem f7_71 : zz_fetch zz_prog 7 71 = some (.iconst 1, 1, [], []) := zz_fetch_of p7 rfl rfl
theorem s7_71 : zz_Run zz_prog d 7 (71, [l0, l1, l2], st, k, h) = zz_Run zz_prog d 7 (72, [l0, l1, l2], .int 1 :: st, k, h) := zz_k_num f7_71 rfl
theorem f7_72 : zz_fetch zz_prog 7 72 = some (.isub, 1, [], []) := zz_fetch_of p7 rfl rfl
theorem s7_72 : zz_Run zz_prog d 7 (72, [l0, l1, l2], .int w :: .int v :: st, k, h) = zz_Run zz_prog d 7 (73, [l0, l1, l2], .int (v - w) :: st, k, h) := zz_k_num f7_72 rfl
theorem f7_73 : zz_fetch zz_prog 7 73 = some (.iastore, 1, [], []) := zz_fetch_of p7 rfl rfl
theorem s7_73 (ha : zz_isar a = true) : zz_Run zz_prog d 7 (73, [l0, l1, l2], .int w :: .int v :: .ref a :: st, k, (zz_hp n I J ex)) = zz_ck (zz_in v (zz_ary n a)) (zz_Run zz_prog d 7 (74, [l0, l1, l2], st, false, (zz_hp n (zz_up I a v.toNatClampNeg w) J ex))) := zz_k_iast f7_73 ha
theorem f7_74 : zz_fetch zz_prog 7 74 = some (.aload_n 0, 1, [], []) := zz_fetch_of p7 rfl rfl
theorem s7_74 : zz_Run zz_prog d 7 (74, [some (.ref a), l1, l2], st, k, h) = zz_Run zz_prog d 7 (75, [some (.ref a), l1, l2], .ref a :: st, k, h) := zz_k_num f7_74 rfl
theorem f7_75 : zz_fetch zz_prog 7 75 = some (.invokevirtual 142, 3, [0, 71, 1, 1], []) := zz_fetch_of p7 rfl rfl
theorem s7_75 : zz_Run zz_prog d 7 (75, [l0, l1, l2], [.ref 5], k, (zz_hp n I J ex)) = zz_ret (zz_Call zz_prog d 71 [.ref 5] (zz_hp n I J ex)) (fun v k' h' => zz_Run zz_prog d 7 (78, [l0, l1, l2], v.toList ++ [], k && k', h')) (fun a k' h' => zz_th d 7 75 a [l0, l1, l2] (k && k') h') := zz_k_call f7_75 rfl rfl rfl
theorem f7_78 : zz_fetch zz_prog 7 78 = some (.ifCond .ne 11, 3, [89], []) := zz_fetch_of p7 rfl rfl
theorem s7_78 : zz_Run zz_prog d 7 (78, [l0, l1, l2], .int v :: st, k, h) = if ¬ v = 0 then zz_Run zz_prog d 7 (89, [l0, l1, l2], st, k, h) else zz_Run zz_prog d 7 (81, [l0, l1, l2], st, k, h) := zz_k_br (¬ v = 0) rfl (zz_k_num f7_78 rfl)
theorem f7_81 : zz_fetch zz_prog 7 81 = some (.aload_n 0, 1, [], []) := zz_fetch_of p7 rfl rfl
theorem s7_81 : zz_Run zz_prog d 7 (81, [some (.ref a), l1, l2], st, k, h) = zz_Run zz_prog d 7 (82, [some (.ref a), l1, l2], .ref a :: st, k, h) := zz_k_num f7_81 rfl
theorem f7_82 : zz_fetch zz_prog 7 82 = some (.getfield 28, 3, [1, 7, 3], []) := zz_fetch_of p7 rfl rfl
theorem s7_82 : zz_Run zz_prog d 7 (82, [l0, l1, l2], .ref 5 :: st, k, (zz_hp n I J ex)) = zz_Run zz_prog d 7 (85, [l0, l1, l2], .ref 9 :: st, k, (zz_hp n I J ex)) := zz_k_go f7_82 rfl rfl rfl
theorem f7_85 : zz_fetch zz_prog 7 85 = some (.iconst 5, 1, [], []) := zz_fetch_of p7 rfl rfl
theorem s7_85 : zz_Run zz_prog d 7 (85, [l0, l1, l2], st, k, h) = zz_Run zz_prog d 7 (86, [l0, l1, l2], .int 5 :: st, k, h) := zz_k_num f7_85 rfl
theorem f7_86 : zz_fetch zz_prog 7 86 = some (.putfield 89, 3, [0, 0, 0], []) := zz_fetch_of p7 rfl rfl
theorem s7_86 : zz_Run zz_prog d 7 (86, [l0, l1, l2], .int v :: .ref 9 :: st, k, (zz_hp n I J ex)) = zz_Run zz_prog d 7 (89, [l0, l1, l2], st, false, (zz_hp n (zz_up I 9 0 v) J ex)) := zz_k_go f7_86 rfl rfl rfl
theorem s7_86b : zz_Run zz_prog d 7 (86, [l0, l1, l2], .int v :: .ref 16 :: st, k, (zz_hp n I J ex)) = zz_Run zz_prog d 7 (89, [l0, l1, l2], st, false, (zz_hp n (zz_up I 16 0 v) J ex)) := zz_k_go f7_86 rfl rfl rfl
theorem f7_89 : zz_fetch zz_prog 7 89 = some (.aload_n 0, 1, [], []) := zz_fetch_of p7 rfl rfl
theorem s7_89 : zz_Run zz_prog d 7 (89, [some (.ref a), l1, l2], st, k, h) = zz_Run zz_prog d 7 (90, [some (.ref a), l1, l2], .ref a :: st, k, h) := zz_k_num f7_89 rfl
theorem f7_90 : zz_fetch zz_prog 7 90 = some (.getfield 28, 3, [1, 7, 3], []) := zz_fetch_of p7 rfl rfl
theorem s7_90 : zz_Run zz_prog d 7 (90, [l0, l1, l2], .ref 5 :: st, k, (zz_hp n I J ex)) = zz_Run zz_prog d 7 (93, [l0, l1, l2], .ref 9 :: st, k, (zz_hp n I J ex)) := zz_k_go f7_90 rfl rfl rfl
theorem f7_93 : zz_fetch zz_prog 7 93 = some (.getfield 132, 3, [0, 17, 3], []) := zz_fetch_of p7 rfl rfl
theorem s7_93 : zz_Run zz_prog d 7 (93, [l0, l1, l2], .ref 9 :: st, k, (zz_hp n I J ex)) = zz_Run zz_prog d 7 (96, [l0, l1, l2], .ref 15 :: st, k, (zz_hp n I J ex)) := zz_k_go f7_93 rfl rfl rfl
theorem s7_93b : zz_Run zz_prog d 7 (93, [l0, l1, l2], .ref 16 :: st, k, (zz_hp n I J ex)) = zz_Run zz_prog d 7 (96, [l0, l1, l2], .ref 22 :: st, k, (zz_hp n I J ex)) := zz_k_go f7_93 rfl rfl rfl
theorem f7_96 : zz_fetch zz_prog 7 96 = some (.iload_n 1, 1, [], []) := zz_fetch_of p7 rfl rfl
theorem s7_96 : zz_Run zz_prog d 7 (96, [l0, some (.int v), l2], st, k, h) = zz_Run zz_prog d 7 (97, [l0, some (.int v), l2], .int v :: st, k, h) := zz_k_num f7_96 rfl
theorem f7_97 : zz_fetch zz_prog 7 97 = some (.iaload, 1, [], []) := zz_fetch_of p7 rfl rfl
theorem s7_97 (ha : zz_isrd a = true) : zz_Run zz_prog d 7 (97, [l0, l1, l2], .int v :: .ref a :: st, k, (zz_hp n I J ex)) = zz_ck (zz_in v (zz_ary n a)) (zz_Run zz_prog d 7 (98, [l0, l1, l2], .int (I a v.toNatClampNeg) :: st, k, (zz_hp n I J ex))) := zz_k_iald f7_97 ha
theorem f7_98 : zz_fetch zz_prog 7 98 = some (.ireturn, 1, [0], []) := zz_fetch_of p7 rfl rfl
theorem s7_98 : zz_Run zz_prog d 7 (98, [l0, l1, l2], [.int v], k, h) = some (.inl (some (.int v)), k, h) := zz_k_stop f7_98 rfl rfl rfl
end S7
section S8
variable {d n j : Nat} {l0 l1 l2 l3 l4 : Option Value} {st : List Value} {k : Bool} {h : zz_H} {v w v1 v2 : Int32} {y y1 : Int64} {a a1 a2 : Nat} {b0 b1 b2 b3 b4 b5 b6 b7 b8 : Value} {I : Nat → Nat → Int32} {J : Nat → Nat → Int64} {ex : List (Nat × Nat)}
theorem p8 : zz_prog 8 = some zz_m8 := rfl
theorem e8 (g0 : Nat) (g1 : Int32) (g2 : Int32) (g3 : Int32) : zz_Call zz_prog (d + 1) 8 [.ref g0, .int g1, .int g2, .int g3] h = zz_Run zz_prog d 8 (0, [some (.ref g0), some (.int g1), some (.int g2), some (.int g3), none], [], true, h) := rfl
theorem t8 (pc : Nat) (L : List (Option Value)) : zz_th d 8 pc a L k h = some (.inr a, k, h) := zz_th_out p8 rfl
theorem f8_0 : zz_fetch zz_prog 8 0 = some (.aload_n 0, 1, [], []) := zz_fetch_of p8 rfl rfl
theorem s8_0 : zz_Run zz_prog d 8 (0, [some (.ref a), l1, l2, l3, l4], st, k, h) = zz_Run zz_prog d 8 (1, [some (.ref a), l1, l2, l3, l4], .ref a :: st, k, h) := zz_k_num f8_0 rfl
theorem f8_1 : zz_fetch zz_prog 8 1 = some (.iconst 5, 1, [], []) := zz_fetch_of p8 rfl rfl
theorem s8_1 : zz_Run zz_prog d 8 (1, [l0, l1, l2, l3, l4], st, k, h) = zz_Run zz_prog d 8 (2, [l0, l1, l2, l3, l4], .int 5 :: st, k, h) := zz_k_num f8_1 rfl
theorem f8_2 : zz_fetch zz_prog 8 2 = some (.invokevirtual 35, 3, [0, 27, 2, 1], []) := zz_fetch_of p8 rfl rfl
theorem s8_2 : zz_Run zz_prog d 8 (2, [l0, l1, l2, l3, l4], [b0, .ref 5], k, (zz_hp n I J ex)) = zz_ret (zz_Call zz_prog d 27 [.ref 5, b0] (zz_hp n I J ex)) (fun v k' h' => zz_Run zz_prog d 8 (5, [l0, l1, l2, l3, l4], v.toList ++ [], k && k', h')) (fun a k' h' => zz_th d 8 2 a [l0, l1, l2, l3, l4] (k && k') h') := zz_k_call f8_2 rfl rfl rfl
theorem f8_5 : zz_fetch zz_prog 8 5 = some (.iload_n 1, 1, [], []) := zz_fetch_of p8 rfl rfl
theorem s8_5 : zz_Run zz_prog d 8 (5, [l0, some (.int v), l2, l3, l4], st, k, h) = zz_Run zz_prog d 8 (6, [l0, some (.int v), l2, l3, l4], .int v :: st, k, h) := zz_k_num f8_5 rfl
theorem f8_6 : zz_fetch zz_prog 8 6 = some (.invokestatic 39, 3, [0, 30, 1], []) := zz_fetch_of p8 rfl rfl
theorem s8_6 : zz_Run zz_prog d 8 (6, [l0, l1, l2, l3, l4], [b0], k, h) = zz_ret (zz_Call zz_prog d 30 [b0] h) (fun v k' h' => zz_Run zz_prog d 8 (9, [l0, l1, l2, l3, l4], v.toList ++ [], k && k', h')) (fun a k' h' => zz_th d 8 6 a [l0, l1, l2, l3, l4] (k && k') h') := zz_k_call f8_6 rfl rfl rfl
theorem f8_9 : zz_fetch zz_prog 8 9 = some (.ifCond .eq 18, 3, [27], []) := zz_fetch_of p8 rfl rfl
theorem s8_9 : zz_Run zz_prog d 8 (9, [l0, l1, l2, l3, l4], .int v :: st, k, h) = if v = 0 then zz_Run zz_prog d 8 (27, [l0, l1, l2, l3, l4], st, k, h) else zz_Run zz_prog d 8 (12, [l0, l1, l2, l3, l4], st, k, h) := zz_k_br (v = 0) rfl (zz_k_num f8_9 rfl)
theorem f8_12 : zz_fetch zz_prog 8 12 = some (.iload_n 1, 1, [], []) := zz_fetch_of p8 rfl rfl
theorem s8_12 : zz_Run zz_prog d 8 (12, [l0, some (.int v), l2, l3, l4], st, k, h) = zz_Run zz_prog d 8 (13, [l0, some (.int v), l2, l3, l4], .int v :: st, k, h) := zz_k_num f8_12 rfl
theorem f8_13 : zz_fetch zz_prog 8 13 = some (.aload_n 0, 1, [], []) := zz_fetch_of p8 rfl rfl
theorem s8_13 : zz_Run zz_prog d 8 (13, [some (.ref a), l1, l2, l3, l4], st, k, h) = zz_Run zz_prog d 8 (14, [some (.ref a), l1, l2, l3, l4], .ref a :: st, k, h) := zz_k_num f8_13 rfl
theorem f8_14 : zz_fetch zz_prog 8 14 = some (.getfield 28, 3, [1, 7, 3], []) := zz_fetch_of p8 rfl rfl
theorem s8_14 : zz_Run zz_prog d 8 (14, [l0, l1, l2, l3, l4], .ref 5 :: st, k, (zz_hp n I J ex)) = zz_Run zz_prog d 8 (17, [l0, l1, l2, l3, l4], .ref 9 :: st, k, (zz_hp n I J ex)) := zz_k_go f8_14 rfl rfl rfl
theorem f8_17 : zz_fetch zz_prog 8 17 = some (.getfield 83, 3, [0, 4, 0], []) := zz_fetch_of p8 rfl rfl
theorem s8_17 : zz_Run zz_prog d 8 (17, [l0, l1, l2, l3, l4], .ref 9 :: st, k, (zz_hp n I J ex)) = zz_Run zz_prog d 8 (20, [l0, l1, l2, l3, l4], .int (I 9 4) :: st, k, (zz_hp n I J ex)) := zz_k_go f8_17 rfl rfl rfl
theorem s8_17b : zz_Run zz_prog d 8 (17, [l0, l1, l2, l3, l4], .ref 16 :: st, k, (zz_hp n I J ex)) = zz_Run zz_prog d 8 (20, [l0, l1, l2, l3, l4], .int (I 16 4) :: st, k, (zz_hp n I J ex)) := zz_k_go f8_17 rfl rfl rfl
theorem f8_20 : zz_fetch zz_prog 8 20 = some (.if_icmp .eq 7, 3, [27], []) := zz_fetch_of p8 rfl rfl
theorem s8_20 : zz_Run zz_prog d 8 (20, [l0, l1, l2, l3, l4], .int w :: .int v :: st, k, h) = if v = w then zz_Run zz_prog d 8 (27, [l0, l1, l2, l3, l4], st, k, h) else zz_Run zz_prog d 8 (23, [l0, l1, l2, l3, l4], st, k, h) := zz_k_br (v = w) rfl (zz_k_num f8_20 rfl)
theorem f8_23 : zz_fetch zz_prog 8 23 = some (.iload_n 3, 1, [], []) := zz_fetch_of p8 rfl rfl
theorem s8_23 : zz_Run zz_prog d 8 (23, [l0, l1, l2, some (.int v), l4], st, k, h) = zz_Run zz_prog d 8 (24, [l0, l1, l2, some (.int v), l4], .int v :: st, k, h) := zz_k_num f8_23 rfl
theorem f8_24 : zz_fetch zz_prog 8 24 = some (.ifCond .ge 11, 3, [35], []) := zz_fetch_of p8 rfl rfl
theorem s8_24 : zz_Run zz_prog d 8 (24, [l0, l1, l2, l3, l4], .int v :: st, k, h) = if 0 ≤ v then zz_Run zz_prog d 8 (35, [l0, l1, l2, l3, l4], st, k, h) else zz_Run zz_prog d 8 (27, [l0, l1, l2, l3, l4], st, k, h) := zz_k_br (0 ≤ v) rfl (zz_k_num f8_24 rfl)
theorem f8_27 : zz_fetch zz_prog 8 27 = some (.new 47, 3, [4, 4], []) := zz_fetch_of p8 rfl rfl
theorem s8_27 : zz_Run zz_prog d 8 (27, [l0, l1, l2, l3, l4], [], true, (zz_hp n I J ex)) = some (.inr (zz_exa ex), false, zz_hp n I J (ex ++ [(4, 4)])) := zz_k_throw f8_27 (by simp)
theorem f8_35 : zz_fetch zz_prog 8 35 = some (.iload_n 2, 1, [], []) := zz_fetch_of p8 rfl rfl
theorem s8_35 : zz_Run zz_prog d 8 (35, [l0, l1, some (.int v), l3, l4], st, k, h) = zz_Run zz_prog d 8 (36, [l0, l1, some (.int v), l3, l4], .int v :: st, k, h) := zz_k_num f8_35 rfl
theorem f8_36 : zz_fetch zz_prog 8 36 = some (.iconst (-1), 1, [], []) := zz_fetch_of p8 rfl rfl
theorem s8_36 : zz_Run zz_prog d 8 (36, [l0, l1, l2, l3, l4], st, k, h) = zz_Run zz_prog d 8 (37, [l0, l1, l2, l3, l4], .int (-1) :: st, k, h) := zz_k_num f8_36 rfl
theorem f8_37 : zz_fetch zz_prog 8 37 = some (.if_icmp .ne 14, 3, [51], []) := zz_fetch_of p8 rfl rfl
theorem s8_37 : zz_Run zz_prog d 8 (37, [l0, l1, l2, l3, l4], .int w :: .int v :: st, k, h) = if ¬ v = w then zz_Run zz_prog d 8 (51, [l0, l1, l2, l3, l4], st, k, h) else zz_Run zz_prog d 8 (40, [l0, l1, l2, l3, l4], st, k, h) := zz_k_br (¬ v = w) rfl (zz_k_num f8_37 rfl)
theorem f8_40 : zz_fetch zz_prog 8 40 = some (.aload_n 0, 1, [], []) := zz_fetch_of p8 rfl rfl
theorem s8_40 : zz_Run zz_prog d 8 (40, [some (.ref a), l1, l2, l3, l4], st, k, h) = zz_Run zz_prog d 8 (41, [some (.ref a), l1, l2, l3, l4], .ref a :: st, k, h) := zz_k_num f8_40 rfl
theorem f8_41 : zz_fetch zz_prog 8 41 = some (.iload_n 1, 1, [], []) := zz_fetch_of p8 rfl rfl
theorem s8_41 : zz_Run zz_prog d 8 (41, [l0, some (.int v), l2, l3, l4], st, k, h) = zz_Run zz_prog d 8 (42, [l0, some (.int v), l2, l3, l4], .int v :: st, k, h) := zz_k_num f8_41 rfl
theorem f8_42 : zz_fetch zz_prog 8 42 = some (.invokevirtual 145, 3, [0, 74, 2, 1], []) := zz_fetch_of p8 rfl rfl
theorem s8_42 : zz_Run zz_prog d 8 (42, [l0, l1, l2, l3, l4], [b0, .ref 5], k, (zz_hp n I J ex)) = zz_ret (zz_Call zz_prog d 74 [.ref 5, b0] (zz_hp n I J ex)) (fun v k' h' => zz_Run zz_prog d 8 (45, [l0, l1, l2, l3, l4], v.toList ++ [], k && k', h')) (fun a k' h' => zz_th d 8 42 a [l0, l1, l2, l3, l4] (k && k') h') := zz_k_call f8_42 rfl rfl rfl
theorem f8_45 : zz_fetch zz_prog 8 45 = some (.ifCond .eq 23, 3, [68], []) := zz_fetch_of p8 rfl rfl
theorem s8_45 : zz_Run zz_prog d 8 (45, [l0, l1, l2, l3, l4], .int v :: st, k, h) = if v = 0 then zz_Run zz_prog d 8 (68, [l0, l1, l2, l3, l4], st, k, h) else zz_Run zz_prog d 8 (48, [l0, l1, l2, l3, l4], st, k, h) := zz_k_br (v = 0) rfl (zz_k_num f8_45 rfl)
theorem f8_48 : zz_fetch zz_prog 8 48 = some (.goto 12, 3, [60], []) := zz_fetch_of p8 rfl rfl
theorem s8_48 : zz_Run zz_prog d 8 (48, [l0, l1, l2, l3, l4], st, k, h) = zz_Run zz_prog d 8 (60, [l0, l1, l2, l3, l4], st, k, h) := zz_k_num f8_48 rfl
theorem f8_51 : zz_fetch zz_prog 8 51 = some (.aload_n 0, 1, [], []) := zz_fetch_of p8 rfl rfl
theorem s8_51 : zz_Run zz_prog d 8 (51, [some (.ref a), l1, l2, l3, l4], st, k, h) = zz_Run zz_prog d 8 (52, [some (.ref a), l1, l2, l3, l4], .ref a :: st, k, h) := zz_k_num f8_51 rfl
theorem f8_52 : zz_fetch zz_prog 8 52 = some (.iload_n 2, 1, [], []) := zz_fetch_of p8 rfl rfl
theorem s8_52 : zz_Run zz_prog d 8 (52, [l0, l1, some (.int v), l3, l4], st, k, h) = zz_Run zz_prog d 8 (53, [l0, l1, some (.int v), l3, l4], .int v :: st, k, h) := zz_k_num f8_52 rfl
theorem f8_53 : zz_fetch zz_prog 8 53 = some (.iload_n 1, 1, [], []) := zz_fetch_of p8 rfl rfl
theorem s8_53 : zz_Run zz_prog d 8 (53, [l0, some (.int v), l2, l3, l4], st, k, h) = zz_Run zz_prog d 8 (54, [l0, some (.int v), l2, l3, l4], .int v :: st, k, h) := zz_k_num f8_53 rfl
theorem f8_54 : zz_fetch zz_prog 8 54 = some (.invokevirtual 148, 3, [0, 73, 3, 1], []) := zz_fetch_of p8 rfl rfl
theorem s8_54 : zz_Run zz_prog d 8 (54, [l0, l1, l2, l3, l4], [b0, b1, .ref 5], k, (zz_hp n I J ex)) = zz_ret (zz_Call zz_prog d 73 [.ref 5, b1, b0] (zz_hp n I J ex)) (fun v k' h' => zz_Run zz_prog d 8 (57, [l0, l1, l2, l3, l4], v.toList ++ [], k && k', h')) (fun a k' h' => zz_th d 8 54 a [l0, l1, l2, l3, l4] (k && k') h') := zz_k_call f8_54 rfl rfl rfl
theorem f8_57 : zz_fetch zz_prog 8 57 = some (.ifCond .ne 11, 3, [68], []) := zz_fetch_of p8 rfl rfl
theorem s8_57 : zz_Run zz_prog d 8 (57, [l0, l1, l2, l3, l4], .int v :: st, k, h) = if ¬ v = 0 then zz_Run zz_prog d 8 (68, [l0, l1, l2, l3, l4], st, k, h) else zz_Run zz_prog d 8 (60, [l0, l1, l2, l3, l4], st, k, h) := zz_k_br (¬ v = 0) rfl (zz_k_num f8_57 rfl)
theorem f8_60 : zz_fetch zz_prog 8 60 = some (.new 47, 3, [4, 4], []) := zz_fetch_of p8 rfl rfl
theorem s8_60 : zz_Run zz_prog d 8 (60, [l0, l1, l2, l3, l4], [], true, (zz_hp n I J ex)) = some (.inr (zz_exa ex), false, zz_hp n I J (ex ++ [(4, 4)])) := zz_k_throw f8_60 (by simp)
theorem f8_68 : zz_fetch zz_prog 8 68 = some (.aload_n 0, 1, [], []) := zz_fetch_of p8 rfl rfl
theorem s8_68 : zz_Run zz_prog d 8 (68, [some (.ref a), l1, l2, l3, l4], st, k, h) = zz_Run zz_prog d 8 (69, [some (.ref a), l1, l2, l3, l4], .ref a :: st, k, h) := zz_k_num f8_68 rfl
theorem f8_69 : zz_fetch zz_prog 8 69 = some (.invokevirtual 98, 3, [0, 87, 1, 1], []) := zz_fetch_of p8 rfl rfl
theorem s8_69 : zz_Run zz_prog d 8 (69, [l0, l1, l2, l3, l4], [.ref 5], k, (zz_hp n I J ex)) = zz_ret (zz_Call zz_prog d 87 [.ref 5] (zz_hp n I J ex)) (fun v k' h' => zz_Run zz_prog d 8 (72, [l0, l1, l2, l3, l4], v.toList ++ [], k && k', h')) (fun a k' h' => zz_th d 8 69 a [l0, l1, l2, l3, l4] (k && k') h') := zz_k_call f8_69 rfl rfl rfl
theorem f8_72 : zz_fetch zz_prog 8 72 = some (.aload_n 0, 1, [], []) := zz_fetch_of p8 rfl rfl
theorem s8_72 : zz_Run zz_prog d 8 (72, [some (.ref a), l1, l2, l3, l4], st, k, h) = zz_Run zz_prog d 8 (73, [some (.ref a), l1, l2, l3, l4], .ref a :: st, k, h) := zz_k_num f8_72 rfl
theorem f8_73 : zz_fetch zz_prog 8 73 = some (.getfield 28, 3, [1, 7, 3], []) := zz_fetch_of p8 rfl rfl
theorem s8_73 : zz_Run zz_prog d 8 (73, [l0, l1, l2, l3, l4], .ref 5 :: st, k, (zz_hp n I J ex)) = zz_Run zz_prog d 8 (76, [l0, l1, l2, l3, l4], .ref 9 :: st, k, (zz_hp n I J ex)) := zz_k_go f8_73 rfl rfl rfl
theorem f8_76 : zz_fetch zz_prog 8 76 = some (.iload_n 1, 1, [], []) := zz_fetch_of p8 rfl rfl
theorem s8_76 : zz_Run zz_prog d 8 (76, [l0, some (.int v), l2, l3, l4], st, k, h) = zz_Run zz_prog d 8 (77, [l0, some (.int v), l2, l3, l4], .int v :: st, k, h) := zz_k_num f8_76 rfl
theorem f8_77 : zz_fetch zz_prog 8 77 = some (.putfield 83, 3, [0, 4, 0], []) := zz_fetch_of p8 rfl rfl
theorem s8_77 : zz_Run zz_prog d 8 (77, [l0, l1, l2, l3, l4], .int v :: .ref 9 :: st, k, (zz_hp n I J ex)) = zz_Run zz_prog d 8 (80, [l0, l1, l2, l3, l4], st, false, (zz_hp n (zz_up I 9 4 v) J ex)) := zz_k_go f8_77 rfl rfl rfl
theorem s8_77b : zz_Run zz_prog d 8 (77, [l0, l1, l2, l3, l4], .int v :: .ref 16 :: st, k, (zz_hp n I J ex)) = zz_Run zz_prog d 8 (80, [l0, l1, l2, l3, l4], st, false, (zz_hp n (zz_up I 16 4 v) J ex)) := zz_k_go f8_77 rfl rfl rfl
theorem f8_80 : zz_fetch zz_prog 8 80 = some (.aload_n 0, 1, [], []) := zz_fetch_of p8 rfl rfl
theorem s8_80 : zz_Run zz_prog d 8 (80, [some (.ref a), l1, l2, l3, l4], st, k, h) = zz_Run zz_prog d 8 (81, [some (.ref a), l1, l2, l3, l4], .ref a :: st, k, h) := zz_k_num f8_80 rfl
theorem f8_81 : zz_fetch zz_prog 8 81 = some (.getfield 28, 3, [1, 7, 3], []) := zz_fetch_of p8 rfl rfl
theorem s8_81 : zz_Run zz_prog d 8 (81, [l0, l1, l2, l3, l4], .ref 5 :: st, k, (zz_hp n I J ex)) = zz_Run zz_prog d 8 (84, [l0, l1, l2, l3, l4], .ref 9 :: st, k, (zz_hp n I J ex)) := zz_k_go f8_81 rfl rfl rfl
theorem f8_84 : zz_fetch zz_prog 8 84 = some (.bipush 6, 2, [], []) := zz_fetch_of p8 rfl rfl
theorem s8_84 : zz_Run zz_prog d 8 (84, [l0, l1, l2, l3, l4], st, k, h) = zz_Run zz_prog d 8 (86, [l0, l1, l2, l3, l4], .int 6 :: st, k, h) := zz_k_num f8_84 (congrArg (fun u => some (86, [l0, l1, l2, l3, l4], Value.int u :: st)) (by decide : (Int8.ofInt 6).toInt32 = 6))
theorem f8_86 : zz_fetch zz_prog 8 86 = some (.putfield 89, 3, [0, 0, 0], []) := zz_fetch_of p8 rfl rfl
theorem s8_86 : zz_Run zz_prog d 8 (86, [l0, l1, l2, l3, l4], .int v :: .ref 9 :: st, k, (zz_hp n I J ex)) = zz_Run zz_prog d 8 (89, [l0, l1, l2, l3, l4], st, false, (zz_hp n (zz_up I 9 0 v) J ex)) := zz_k_go f8_86 rfl rfl rfl
theorem s8_86b : zz_Run zz_prog d 8 (86, [l0, l1, l2, l3, l4], .int v :: .ref 16 :: st, k, (zz_hp n I J ex)) = zz_Run zz_prog d 8 (89, [l0, l1, l2, l3, l4], st, false, (zz_hp n (zz_up I 16 0 v) J ex)) := zz_k_go f8_86 rfl rfl rfl
theorem f8_89 : zz_fetch zz_prog 8 89 = some (.iload_n 2, 1, [], []) := zz_fetch_of p8 rfl rfl
theorem s8_89 : zz_Run zz_prog d 8 (89, [l0, l1, some (.int v), l3, l4], st, k, h) = zz_Run zz_prog d 8 (90, [l0, l1, some (.int v), l3, l4], .int v :: st, k, h) := zz_k_num f8_89 rfl
theorem f8_90 : zz_fetch zz_prog 8 90 = some (.iconst (-1), 1, [], []) := zz_fetch_of p8 rfl rfl
theorem s8_90 : zz_Run zz_prog d 8 (90, [l0, l1, l2, l3, l4], st, k, h) = zz_Run zz_prog d 8 (91, [l0, l1, l2, l3, l4], .int (-1) :: st, k, h) := zz_k_num f8_90 rfl
theorem f8_91 : zz_fetch zz_prog 8 91 = some (.if_icmp .ne 7, 3, [98], []) := zz_fetch_of p8 rfl rfl
theorem s8_91 : zz_Run zz_prog d 8 (91, [l0, l1, l2, l3, l4], .int w :: .int v :: st, k, h) = if ¬ v = w then zz_Run zz_prog d 8 (98, [l0, l1, l2, l3, l4], st, k, h) else zz_Run zz_prog d 8 (94, [l0, l1, l2, l3, l4], st, k, h) := zz_k_br (¬ v = w) rfl (zz_k_num f8_91 rfl)
theorem f8_94 : zz_fetch zz_prog 8 94 = some (.iconst (-1), 1, [], []) := zz_fetch_of p8 rfl rfl
theorem s8_94 : zz_Run zz_prog d 8 (94, [l0, l1, l2, l3, l4], st, k, h) = zz_Run zz_prog d 8 (95, [l0, l1, l2, l3, l4], .int (-1) :: st, k, h) := zz_k_num f8_94 rfl
theorem f8_95 : zz_fetch zz_prog 8 95 = some (.goto 9, 3, [104], []) := zz_fetch_of p8 rfl rfl
theorem s8_95 : zz_Run zz_prog d 8 (95, [l0, l1, l2, l3, l4], st, k, h) = zz_Run zz_prog d 8 (104, [l0, l1, l2, l3, l4], st, k, h) := zz_k_num f8_95 rfl
theorem f8_98 : zz_fetch zz_prog 8 98 = some (.aload_n 0, 1, [], []) := zz_fetch_of p8 rfl rfl
theorem s8_98 : zz_Run zz_prog d 8 (98, [some (.ref a), l1, l2, l3, l4], st, k, h) = zz_Run zz_prog d 8 (99, [some (.ref a), l1, l2, l3, l4], .ref a :: st, k, h) := zz_k_num f8_98 rfl
theorem f8_99 : zz_fetch zz_prog 8 99 = some (.iload_n 2, 1, [], []) := zz_fetch_of p8 rfl rfl
theorem s8_99 : zz_Run zz_prog d 8 (99, [l0, l1, some (.int v), l3, l4], st, k, h) = zz_Run zz_prog d 8 (100, [l0, l1, some (.int v), l3, l4], .int v :: st, k, h) := zz_k_num f8_99 rfl
theorem f8_100 : zz_fetch zz_prog 8 100 = some (.iload_n 3, 1, [], []) := zz_fetch_of p8 rfl rfl
theorem s8_100 : zz_Run zz_prog d 8 (100, [l0, l1, l2, some (.int v), l4], st, k, h) = zz_Run zz_prog d 8 (101, [l0, l1, l2, some (.int v), l4], .int v :: st, k, h) := zz_k_num f8_100 rfl
theorem f8_101 : zz_fetch zz_prog 8 101 = some (.invokevirtual 151, 3, [0, 75, 3, 1], []) := zz_fetch_of p8 rfl rfl
theorem s8_101 : zz_Run zz_prog d 8 (101, [l0, l1, l2, l3, l4], [b0, b1, .ref 5], k, (zz_hp n I J ex)) = zz_ret (zz_Call zz_prog d 75 [.ref 5, b1, b0] (zz_hp n I J ex)) (fun v k' h' => zz_Run zz_prog d 8 (104, [l0, l1, l2, l3, l4], v.toList ++ [], k && k', h')) (fun a k' h' => zz_th d 8 101 a [l0, l1, l2, l3, l4] (k && k') h') := zz_k_call f8_101 rfl rfl rfl
theorem f8_104 : zz_fetch zz_prog 8 104 = some (.istore 4, 2, [], []) := zz_fetch_of p8 rfl rfl
theorem s8_104 : zz_Run zz_prog d 8 (104, [l0, l1, l2, l3, l4], .int v :: st, k, h) = zz_sl l3 (zz_Run zz_prog d 8 (106, [l0, l1, l2, l3, some (.int v)], st, k, h)) := zz_k_st (j := 4) (u := .int v) f8_104 rfl (fun q hq => by cases hq) rfl (show 4 < 5 by decide) (by cases l3 <;> rfl) rfl
theorem f8_106 : zz_fetch zz_prog 8 106 = some (.iload 4, 2, [], []) := zz_fetch_of p8 rfl rfl
theorem s8_106 : zz_Run zz_prog d 8 (106, [l0, l1, l2, l3, some (.int v)], st, k, h) = zz_Run zz_prog d 8 (108, [l0, l1, l2, l3, some (.int v)], .int v :: st, k, h) := zz_k_num f8_106 rfl
theorem f8_108 : zz_fetch zz_prog 8 108 = some (.iconst (-1), 1, [], []) := zz_fetch_of p8 rfl rfl
theorem s8_108 : zz_Run zz_prog d 8 (108, [l0, l1, l2, l3, l4], st, k, h) = zz_Run zz_prog d 8 (109, [l0, l1, l2, l3, l4], .int (-1) :: st, k, h) := zz_k_num f8_108 rfl
theorem f8_109 : zz_fetch zz_prog 8 109 = some (.if_icmp .eq 18, 3, [127], []) := zz_fetch_of p8 rfl rfl
theorem s8_109 : zz_Run zz_prog d 8 (109, [l0, l1, l2, l3, l4], .int w :: .int v :: st, k, h) = if v = w then zz_Run zz_prog d 8 (127, [l0, l1, l2, l3, l4], st, k, h) else zz_Run zz_prog d 8 (112, [l0, l1, l2, l3, l4], st, k, h) := zz_k_br (v = w) rfl (zz_k_num f8_109 rfl)
theorem f8_112 : zz_fetch zz_prog 8 112 = some (.aload_n 0, 1, [], []) := zz_fetch_of p8 rfl rfl
theorem s8_112 : zz_Run zz_prog d 8 (112, [some (.ref a), l1, l2, l3, l4], st, k, h) = zz_Run zz_prog d 8 (113, [some (.ref a), l1, l2, l3, l4], .ref a :: st, k, h) := zz_k_num f8_112 rfl
theorem f8_113 : zz_fetch zz_prog 8 113 = some (.iload_n 2, 1, [], []) := zz_fetch_of p8 rfl rfl
theorem s8_113 : zz_Run zz_prog d 8 (113, [l0, l1, some (.int v), l3, l4], st, k, h) = zz_Run zz_prog d 8 (114, [l0, l1, some (.int v), l3, l4], .int v :: st, k, h) := zz_k_num f8_113 rfl
theorem f8_114 : zz_fetch zz_prog 8 114 = some (.aload_n 0, 1, [], []) := zz_fetch_of p8 rfl rfl
theorem s8_114 : zz_Run zz_prog d 8 (114, [some (.ref a), l1, l2, l3, l4], st, k, h) = zz_Run zz_prog d 8 (115, [some (.ref a), l1, l2, l3, l4], .ref a :: st, k, h) := zz_k_num f8_114 rfl
theorem f8_115 : zz_fetch zz_prog 8 115 = some (.getfield 28, 3, [1, 7, 3], []) := zz_fetch_of p8 rfl rfl
theorem s8_115 : zz_Run zz_prog d 8 (115, [l0, l1, l2, l3, l4], .ref 5 :: st, k, (zz_hp n I J ex)) = zz_Run zz_prog d 8 (118, [l0, l1, l2, l3, l4], .ref 9 :: st, k, (zz_hp n I J ex)) := zz_k_go f8_115 rfl rfl rfl
theorem f8_118 : zz_fetch zz_prog 8 118 = some (.getfield 86, 3, [0, 1, 0], []) := zz_fetch_of p8 rfl rfl
theorem s8_118 : zz_Run zz_prog d 8 (118, [l0, l1, l2, l3, l4], .ref 9 :: st, k, (zz_hp n I J ex)) = zz_Run zz_prog d 8 (121, [l0, l1, l2, l3, l4], .int (I 9 1) :: st, k, (zz_hp n I J ex)) := zz_k_go f8_118 rfl rfl rfl
theorem s8_118b : zz_Run zz_prog d 8 (118, [l0, l1, l2, l3, l4], .ref 16 :: st, k, (zz_hp n I J ex)) = zz_Run zz_prog d 8 (121, [l0, l1, l2, l3, l4], .int (I 16 1) :: st, k, (zz_hp n I J ex)) := zz_k_go f8_118 rfl rfl rfl
theorem f8_121 : zz_fetch zz_prog 8 121 = some (.iload 4, 2, [], []) := zz_fetch_of p8 rfl rfl
theorem s8_121 : zz_Run zz_prog d 8 (121, [l0, l1, l2, l3, some (.int v)], st, k, h) = zz_Run zz_prog d 8 (123, [l0, l1, l2, l3, some (.int v)], .int v :: st, k, h) := zz_k_num f8_121 rfl
theorem f8_123 : zz_fetch zz_prog 8 123 = some (.iconst 1, 1, [], []) := zz_fetch_of p8 rfl rfl
theorem s8_123 : zz_Run zz_prog d 8 (123, [l0, l1, l2, l3, l4], st, k, h) = zz_Run zz_prog d 8 (124, [l0, l1, l2, l3, l4], .int 1 :: st, k, h) := zz_k_num f8_123 rfl
theorem f8_124 : zz_fetch zz_prog 8 124 = some (.invokevirtual 138, 3, [0, 44, 5, 1], []) := zz_fetch_of p8 rfl rfl
theorem s8_124 : zz_Run zz_prog d 8 (124, [l0, l1, l2, l3, l4], [b0, b1, b2, b3, .ref 5], k, (zz_hp n I J ex)) = zz_ret (zz_Call zz_prog d 44 [.ref 5, b3, b2, b1, b0] (zz_hp n I J ex)) (fun v k' h' => zz_Run zz_prog d 8 (127, [l0, l1, l2, l3, l4], v.toList ++ [], k && k', h')) (fun a k' h' => zz_th d 8 124 a [l0, l1, l2, l3, l4] (k && k') h') := zz_k_call f8_124 rfl rfl rfl
theorem f8_127 : zz_fetch zz_prog 8 127 = some (.iload 4, 2, [], []) := zz_fetch_of p8 rfl rfl
theorem s8_127 : zz_Run zz_prog d 8 (127, [l0, l1, l2, l3, some (.int v)], st, k, h) = zz_Run zz_prog d 8 (129, [l0, l1, l2, l3, some (.int v)], .int v :: st, k, h) := zz_k_num f8_127 rfl
theorem f8_129 : zz_fetch zz_prog 8 129 = some (.ireturn, 1, [0], []) := zz_fetch_of p8 rfl rfl
theorem s8_129 : zz_Run zz_prog d 8 (129, [l0, l1, l2, l3, l4], [.int v], k, h) = some (.inl (some (.int v)), k, h) := zz_k_stop f8_129 rfl rfl rfl
end S8
section S9
variable {d n j : Nat} {l0 l1 l2 l3 : Option Value} {st : List Value} {k : Bool} {h : zz_H} {v w v1 v2 : Int32} {y y1 : Int64} {a a1 a2 : Nat} {b0 b1 b2 b3 b4 b5 b6 b7 b8 : Value} {I : Nat → Nat → Int32} {J : Nat → Nat → Int64} {ex : List (Nat × Nat)}
theorem p9 : zz_prog 9 = some zz_m9 := rfl
theorem e9 (g0 : Nat) (g1 : Int32) (g2 : Int32) : zz_Call zz_prog (d + 1) 9 [.ref g0, .int g1, .int g2] h = zz_Run zz_prog d 9 (0, [some (.ref g0), some (.int g1), some (.int g2), none], [], true, h) := rfl
theorem t9 (pc : Nat) (L : List (Option Value)) : zz_th d 9 pc a L k h = some (.inr a, k, h) := zz_th_out p9 rfl
theorem f9_0 : zz_fetch zz_prog 9 0 = some (.iload_n 1, 1, [], []) := zz_fetch_of p9 rfl rfl
theorem s9_0 : zz_Run zz_prog d 9 (0, [l0, some (.int v), l2, l3], st, k, h) = zz_Run zz_prog d 9 (1, [l0, some (.int v), l2, l3], .int v :: st, k, h) := zz_k_num f9_0 rfl
theorem f9_1 : zz_fetch zz_prog 9 1 = some (.invokestatic 129, 3, [0, 31, 1], []) := zz_fetch_of p9 rfl rfl
theorem s9_1 : zz_Run zz_prog d 9 (1, [l0, l1, l2, l3], [b0], k, h) = zz_ret (zz_Call zz_prog d 31 [b0] h) (fun v k' h' => zz_Run zz_prog d 9 (4, [l0, l1, l2, l3], v.toList ++ [], k && k', h')) (fun a k' h' => zz_th d 9 1 a [l0, l1, l2, l3] (k && k') h') := zz_k_call f9_1 rfl rfl rfl
theorem f9_4 : zz_fetch zz_prog 9 4 = some (.ifCond .eq 15, 3, [19], []) := zz_fetch_of p9 rfl rfl
theorem s9_4 : zz_Run zz_prog d 9 (4, [l0, l1, l2, l3], .int v :: st, k, h) = if v = 0 then zz_Run zz_prog d 9 (19, [l0, l1, l2, l3], st, k, h) else zz_Run zz_prog d 9 (7, [l0, l1, l2, l3], st, k, h) := zz_k_br (v = 0) rfl (zz_k_num f9_4 rfl)
theorem f9_7 : zz_fetch zz_prog 9 7 = some (.iload_n 2, 1, [], []) := zz_fetch_of p9 rfl rfl
theorem s9_7 : zz_Run zz_prog d 9 (7, [l0, l1, some (.int v), l3], st, k, h) = zz_Run zz_prog d 9 (8, [l0, l1, some (.int v), l3], .int v :: st, k, h) := zz_k_num f9_7 rfl
theorem f9_8 : zz_fetch zz_prog 9 8 = some (.invokestatic 129, 3, [0, 31, 1], []) := zz_fetch_of p9 rfl rfl
theorem s9_8 : zz_Run zz_prog d 9 (8, [l0, l1, l2, l3], [b0], k, h) = zz_ret (zz_Call zz_prog d 31 [b0] h) (fun v k' h' => zz_Run zz_prog d 9 (11, [l0, l1, l2, l3], v.toList ++ [], k && k', h')) (fun a k' h' => zz_th d 9 8 a [l0, l1, l2, l3] (k && k') h') := zz_k_call f9_8 rfl rfl rfl
theorem f9_11 : zz_fetch zz_prog 9 11 = some (.ifCond .eq 8, 3, [19], []) := zz_fetch_of p9 rfl rfl
theorem s9_11 : zz_Run zz_prog d 9 (11, [l0, l1, l2, l3], .int v :: st, k, h) = if v = 0 then zz_Run zz_prog d 9 (19, [l0, l1, l2, l3], st, k, h) else zz_Run zz_prog d 9 (14, [l0, l1, l2, l3], st, k, h) := zz_k_br (v = 0) rfl (zz_k_num f9_11 rfl)
theorem f9_14 : zz_fetch zz_prog 9 14 = some (.iload_n 1, 1, [], []) := zz_fetch_of p9 rfl rfl
theorem s9_14 : zz_Run zz_prog d 9 (14, [l0, some (.int v), l2, l3], st, k, h) = zz_Run zz_prog d 9 (15, [l0, some (.int v), l2, l3], .int v :: st, k, h) := zz_k_num f9_14 rfl
theorem f9_15 : zz_fetch zz_prog 9 15 = some (.iload_n 2, 1, [], []) := zz_fetch_of p9 rfl rfl
theorem s9_15 : zz_Run zz_prog d 9 (15, [l0, l1, some (.int v), l3], st, k, h) = zz_Run zz_prog d 9 (16, [l0, l1, some (.int v), l3], .int v :: st, k, h) := zz_k_num f9_15 rfl
theorem f9_16 : zz_fetch zz_prog 9 16 = some (.if_icmp .ne 11, 3, [27], []) := zz_fetch_of p9 rfl rfl
theorem s9_16 : zz_Run zz_prog d 9 (16, [l0, l1, l2, l3], .int w :: .int v :: st, k, h) = if ¬ v = w then zz_Run zz_prog d 9 (27, [l0, l1, l2, l3], st, k, h) else zz_Run zz_prog d 9 (19, [l0, l1, l2, l3], st, k, h) := zz_k_br (¬ v = w) rfl (zz_k_num f9_16 rfl)
theorem f9_19 : zz_fetch zz_prog 9 19 = some (.new 47, 3, [4, 4], []) := zz_fetch_of p9 rfl rfl
theorem s9_19 : zz_Run zz_prog d 9 (19, [l0, l1, l2, l3], [], true, (zz_hp n I J ex)) = some (.inr (zz_exa ex), false, zz_hp n I J (ex ++ [(4, 4)])) := zz_k_throw f9_19 (by simp)
theorem f9_27 : zz_fetch zz_prog 9 27 = some (.aload_n 0, 1, [], []) := zz_fetch_of p9 rfl rfl
theorem s9_27 : zz_Run zz_prog d 9 (27, [some (.ref a), l1, l2, l3], st, k, h) = zz_Run zz_prog d 9 (28, [some (.ref a), l1, l2, l3], .ref a :: st, k, h) := zz_k_num f9_27 rfl
theorem f9_28 : zz_fetch zz_prog 9 28 = some (.bipush 6, 2, [], []) := zz_fetch_of p9 rfl rfl
theorem s9_28 : zz_Run zz_prog d 9 (28, [l0, l1, l2, l3], st, k, h) = zz_Run zz_prog d 9 (30, [l0, l1, l2, l3], .int 6 :: st, k, h) := zz_k_num f9_28 (congrArg (fun u => some (30, [l0, l1, l2, l3], Value.int u :: st)) (by decide : (Int8.ofInt 6).toInt32 = 6))
theorem f9_30 : zz_fetch zz_prog 9 30 = some (.invokevirtual 35, 3, [0, 27, 2, 1], []) := zz_fetch_of p9 rfl rfl
theorem s9_30 : zz_Run zz_prog d 9 (30, [l0, l1, l2, l3], [b0, .ref 5], k, (zz_hp n I J ex)) = zz_ret (zz_Call zz_prog d 27 [.ref 5, b0] (zz_hp n I J ex)) (fun v k' h' => zz_Run zz_prog d 9 (33, [l0, l1, l2, l3], v.toList ++ [], k && k', h')) (fun a k' h' => zz_th d 9 30 a [l0, l1, l2, l3] (k && k') h') := zz_k_call f9_30 rfl rfl rfl
theorem f9_33 : zz_fetch zz_prog 9 33 = some (.aload_n 0, 1, [], []) := zz_fetch_of p9 rfl rfl
theorem s9_33 : zz_Run zz_prog d 9 (33, [some (.ref a), l1, l2, l3], st, k, h) = zz_Run zz_prog d 9 (34, [some (.ref a), l1, l2, l3], .ref a :: st, k, h) := zz_k_num f9_33 rfl
theorem f9_34 : zz_fetch zz_prog 9 34 = some (.iload_n 1, 1, [], []) := zz_fetch_of p9 rfl rfl
theorem s9_34 : zz_Run zz_prog d 9 (34, [l0, some (.int v), l2, l3], st, k, h) = zz_Run zz_prog d 9 (35, [l0, some (.int v), l2, l3], .int v :: st, k, h) := zz_k_num f9_34 rfl
theorem f9_35 : zz_fetch zz_prog 9 35 = some (.invokevirtual 154, 3, [0, 50, 2, 1], []) := zz_fetch_of p9 rfl rfl
theorem s9_35 : zz_Run zz_prog d 9 (35, [l0, l1, l2, l3], [b0, .ref 5], k, (zz_hp n I J ex)) = zz_ret (zz_Call zz_prog d 50 [.ref 5, b0] (zz_hp n I J ex)) (fun v k' h' => zz_Run zz_prog d 9 (38, [l0, l1, l2, l3], v.toList ++ [], k && k', h')) (fun a k' h' => zz_th d 9 35 a [l0, l1, l2, l3] (k && k') h') := zz_k_call f9_35 rfl rfl rfl
theorem f9_38 : zz_fetch zz_prog 9 38 = some (.istore_n 3, 1, [], []) := zz_fetch_of p9 rfl rfl
theorem s9_38 : zz_Run zz_prog d 9 (38, [l0, l1, l2, l3], .int v :: st, k, h) = zz_sl l2 (zz_Run zz_prog d 9 (39, [l0, l1, l2, some (.int v)], st, k, h)) := zz_k_st (j := 3) (u := .int v) f9_38 rfl (fun q hq => by cases hq) rfl (show 3 < 4 by decide) (by cases l2 <;> rfl) rfl
theorem f9_39 : zz_fetch zz_prog 9 39 = some (.aload_n 0, 1, [], []) := zz_fetch_of p9 rfl rfl
theorem s9_39 : zz_Run zz_prog d 9 (39, [some (.ref a), l1, l2, l3], st, k, h) = zz_Run zz_prog d 9 (40, [some (.ref a), l1, l2, l3], .ref a :: st, k, h) := zz_k_num f9_39 rfl
theorem f9_40 : zz_fetch zz_prog 9 40 = some (.aload_n 0, 1, [], []) := zz_fetch_of p9 rfl rfl
theorem s9_40 : zz_Run zz_prog d 9 (40, [some (.ref a), l1, l2, l3], st, k, h) = zz_Run zz_prog d 9 (41, [some (.ref a), l1, l2, l3], .ref a :: st, k, h) := zz_k_num f9_40 rfl
theorem f9_41 : zz_fetch zz_prog 9 41 = some (.getfield 28, 3, [1, 7, 3], []) := zz_fetch_of p9 rfl rfl
theorem s9_41 : zz_Run zz_prog d 9 (41, [l0, l1, l2, l3], .ref 5 :: st, k, (zz_hp n I J ex)) = zz_Run zz_prog d 9 (44, [l0, l1, l2, l3], .ref 9 :: st, k, (zz_hp n I J ex)) := zz_k_go f9_41 rfl rfl rfl
theorem f9_44 : zz_fetch zz_prog 9 44 = some (.getfield 86, 3, [0, 1, 0], []) := zz_fetch_of p9 rfl rfl
theorem s9_44 : zz_Run zz_prog d 9 (44, [l0, l1, l2, l3], .ref 9 :: st, k, (zz_hp n I J ex)) = zz_Run zz_prog d 9 (47, [l0, l1, l2, l3], .int (I 9 1) :: st, k, (zz_hp n I J ex)) := zz_k_go f9_44 rfl rfl rfl
theorem s9_44b : zz_Run zz_prog d 9 (44, [l0, l1, l2, l3], .ref 16 :: st, k, (zz_hp n I J ex)) = zz_Run zz_prog d 9 (47, [l0, l1, l2, l3], .int (I 16 1) :: st, k, (zz_hp n I J ex)) := zz_k_go f9_44 rfl rfl rfl
theorem f9_47 : zz_fetch zz_prog 9 47 = some (.iload_n 1, 1, [], []) := zz_fetch_of p9 rfl rfl
theorem s9_47 : zz_Run zz_prog d 9 (47, [l0, some (.int v), l2, l3], st, k, h) = zz_Run zz_prog d 9 (48, [l0, some (.int v), l2, l3], .int v :: st, k, h) := zz_k_num f9_47 rfl
theorem f9_48 : zz_fetch zz_prog 9 48 = some (.invokevirtual 135, 3, [0, 42, 3, 1], []) := zz_fetch_of p9 rfl rfl
theorem s9_48 : zz_Run zz_prog d 9 (48, [l0, l1, l2, l3], [b0, b1, .ref 5], k, (zz_hp n I J ex)) = zz_ret (zz_Call zz_prog d 42 [.ref 5, b1, b0] (zz_hp n I J ex)) (fun v k' h' => zz_Run zz_prog d 9 (51, [l0, l1, l2, l3], v.toList ++ [], k && k', h')) (fun a k' h' => zz_th d 9 48 a [l0, l1, l2, l3] (k && k') h') := zz_k_call f9_48 rfl rfl rfl
theorem f9_51 : zz_fetch zz_prog 9 51 = some (.iload_n 3, 1, [], []) := zz_fetch_of p9 rfl rfl
theorem s9_51 : zz_Run zz_prog d 9 (51, [l0, l1, l2, some (.int v)], st, k, h) = zz_Run zz_prog d 9 (52, [l0, l1, l2, some (.int v)], .int v :: st, k, h) := zz_k_num f9_51 rfl
theorem f9_52 : zz_fetch zz_prog 9 52 = some (.if_icmp .lt 13, 3, [65], []) := zz_fetch_of p9 rfl rfl
theorem s9_52 : zz_Run zz_prog d 9 (52, [l0, l1, l2, l3], .int w :: .int v :: st, k, h) = if v < w then zz_Run zz_prog d 9 (65, [l0, l1, l2, l3], st, k, h) else zz_Run zz_prog d 9 (55, [l0, l1, l2, l3], st, k, h) := zz_k_br (v < w) rfl (zz_k_num f9_52 rfl)
theorem f9_55 : zz_fetch zz_prog 9 55 = some (.aload_n 0, 1, [], []) := zz_fetch_of p9 rfl rfl
theorem s9_55 : zz_Run zz_prog d 9 (55, [some (.ref a), l1, l2, l3], st, k, h) = zz_Run zz_prog d 9 (56, [some (.ref a), l1, l2, l3], .ref a :: st, k, h) := zz_k_num f9_55 rfl
theorem f9_56 : zz_fetch zz_prog 9 56 = some (.iconst 4, 1, [], []) := zz_fetch_of p9 rfl rfl
theorem s9_56 : zz_Run zz_prog d 9 (56, [l0, l1, l2, l3], st, k, h) = zz_Run zz_prog d 9 (57, [l0, l1, l2, l3], .int 4 :: st, k, h) := zz_k_num f9_56 rfl
theorem f9_57 : zz_fetch zz_prog 9 57 = some (.iload_n 2, 1, [], []) := zz_fetch_of p9 rfl rfl
theorem s9_57 : zz_Run zz_prog d 9 (57, [l0, l1, some (.int v), l3], st, k, h) = zz_Run zz_prog d 9 (58, [l0, l1, some (.int v), l3], .int v :: st, k, h) := zz_k_num f9_57 rfl
theorem f9_58 : zz_fetch zz_prog 9 58 = some (.invokevirtual 135, 3, [0, 42, 3, 1], []) := zz_fetch_of p9 rfl rfl
theorem s9_58 : zz_Run zz_prog d 9 (58, [l0, l1, l2, l3], [b0, b1, .ref 5], k, (zz_hp n I J ex)) = zz_ret (zz_Call zz_prog d 42 [.ref 5, b1, b0] (zz_hp n I J ex)) (fun v k' h' => zz_Run zz_prog d 9 (61, [l0, l1, l2, l3], v.toList ++ [], k && k', h')) (fun a k' h' => zz_th d 9 58 a [l0, l1, l2, l3] (k && k') h') := zz_k_call f9_58 rfl rfl rfl
theorem f9_61 : zz_fetch zz_prog 9 61 = some (.iconst 1, 1, [], []) := zz_fetch_of p9 rfl rfl
theorem s9_61 : zz_Run zz_prog d 9 (61, [l0, l1, l2, l3], st, k, h) = zz_Run zz_prog d 9 (62, [l0, l1, l2, l3], .int 1 :: st, k, h) := zz_k_num f9_61 rfl
theorem f9_62 : zz_fetch zz_prog 9 62 = some (.if_icmp .ge 11, 3, [73], []) := zz_fetch_of p9 rfl rfl
theorem s9_62 : zz_Run zz_prog d 9 (62, [l0, l1, l2, l3], .int w :: .int v :: st, k, h) = if w ≤ v then zz_Run zz_prog d 9 (73, [l0, l1, l2, l3], st, k, h) else zz_Run zz_prog d 9 (65, [l0, l1, l2, l3], st, k, h) := zz_k_br (w ≤ v) rfl (zz_k_num f9_62 rfl)
theorem f9_65 : zz_fetch zz_prog 9 65 = some (.new 54, 3, [4, 3], []) := zz_fetch_of p9 rfl rfl
theorem s9_65 : zz_Run zz_prog d 9 (65, [l0, l1, l2, l3], [], true, (zz_hp n I J ex)) = some (.inr (zz_exa ex), false, zz_hp n I J (ex ++ [(4, 3)])) := zz_k_throw f9_65 (by simp)
theorem f9_73 : zz_fetch zz_prog 9 73 = some (.aload_n 0, 1, [], []) := zz_fetch_of p9 rfl rfl
theorem s9_73 : zz_Run zz_prog d 9 (73, [some (.ref a), l1, l2, l3], st, k, h) = zz_Run zz_prog d 9 (74, [some (.ref a), l1, l2, l3], .ref a :: st, k, h) := zz_k_num f9_73 rfl
theorem f9_74 : zz_fetch zz_prog 9 74 = some (.invokevirtual 98, 3, [0, 87, 1, 1], []) := zz_fetch_of p9 rfl rfl
theorem s9_74 : zz_Run zz_prog d 9 (74, [l0, l1, l2, l3], [.ref 5], k, (zz_hp n I J ex)) = zz_ret (zz_Call zz_prog d 87 [.ref 5] (zz_hp n I J ex)) (fun v k' h' => zz_Run zz_prog d 9 (77, [l0, l1, l2, l3], v.toList ++ [], k && k', h')) (fun a k' h' => zz_th d 9 74 a [l0, l1, l2, l3] (k && k') h') := zz_k_call f9_74 rfl rfl rfl
theorem f9_77 : zz_fetch zz_prog 9 77 = some (.aload_n 0, 1, [], []) := zz_fetch_of p9 rfl rfl
theorem s9_77 : zz_Run zz_prog d 9 (77, [some (.ref a), l1, l2, l3], st, k, h) = zz_Run zz_prog d 9 (78, [some (.ref a), l1, l2, l3], .ref a :: st, k, h) := zz_k_num f9_77 rfl
theorem f9_78 : zz_fetch zz_prog 9 78 = some (.aload_n 0, 1, [], []) := zz_fetch_of p9 rfl rfl
theorem s9_78 : zz_Run zz_prog d 9 (78, [some (.ref a), l1, l2, l3], st, k, h) = zz_Run zz_prog d 9 (79, [some (.ref a), l1, l2, l3], .ref a :: st, k, h) := zz_k_num f9_78 rfl
theorem f9_79 : zz_fetch zz_prog 9 79 = some (.getfield 28, 3, [1, 7, 3], []) := zz_fetch_of p9 rfl rfl
theorem s9_79 : zz_Run zz_prog d 9 (79, [l0, l1, l2, l3], .ref 5 :: st, k, (zz_hp n I J ex)) = zz_Run zz_prog d 9 (82, [l0, l1, l2, l3], .ref 9 :: st, k, (zz_hp n I J ex)) := zz_k_go f9_79 rfl rfl rfl
theorem f9_82 : zz_fetch zz_prog 9 82 = some (.getfield 86, 3, [0, 1, 0], []) := zz_fetch_of p9 rfl rfl
theorem s9_82 : zz_Run zz_prog d 9 (82, [l0, l1, l2, l3], .ref 9 :: st, k, (zz_hp n I J ex)) = zz_Run zz_prog d 9 (85, [l0, l1, l2, l3], .int (I 9 1) :: st, k, (zz_hp n I J ex)) := zz_k_go f9_82 rfl rfl rfl
theorem s9_82b : zz_Run zz_prog d 9 (82, [l0, l1, l2, l3], .ref 16 :: st, k, (zz_hp n I J ex)) = zz_Run zz_prog d 9 (85, [l0, l1, l2, l3], .int (I 16 1) :: st, k, (zz_hp n I J ex)) := zz_k_go f9_82 rfl rfl rfl
theorem f9_85 : zz_fetch zz_prog 9 85 = some (.iconst 4, 1, [], []) := zz_fetch_of p9 rfl rfl
theorem s9_85 : zz_Run zz_prog d 9 (85, [l0, l1, l2, l3], st, k, h) = zz_Run zz_prog d 9 (86, [l0, l1, l2, l3], .int 4 :: st, k, h) := zz_k_num f9_85 rfl
theorem f9_86 : zz_fetch zz_prog 9 86 = some (.iload_n 1, 1, [], []) := zz_fetch_of p9 rfl rfl
theorem s9_86 : zz_Run zz_prog d 9 (86, [l0, some (.int v), l2, l3], st, k, h) = zz_Run zz_prog d 9 (87, [l0, some (.int v), l2, l3], .int v :: st, k, h) := zz_k_num f9_86 rfl
theorem f9_87 : zz_fetch zz_prog 9 87 = some (.iload_n 3, 1, [], []) := zz_fetch_of p9 rfl rfl
theorem s9_87 : zz_Run zz_prog d 9 (87, [l0, l1, l2, some (.int v)], st, k, h) = zz_Run zz_prog d 9 (88, [l0, l1, l2, some (.int v)], .int v :: st, k, h) := zz_k_num f9_87 rfl
theorem f9_88 : zz_fetch zz_prog 9 88 = some (.invokevirtual 138, 3, [0, 44, 5, 1], []) := zz_fetch_of p9 rfl rfl
theorem s9_88 : zz_Run zz_prog d 9 (88, [l0, l1, l2, l3], [b0, b1, b2, b3, .ref 5], k, (zz_hp n I J ex)) = zz_ret (zz_Call zz_prog d 44 [.ref 5, b3, b2, b1, b0] (zz_hp n I J ex)) (fun v k' h' => zz_Run zz_prog d 9 (91, [l0, l1, l2, l3], v.toList ++ [], k && k', h')) (fun a k' h' => zz_th d 9 88 a [l0, l1, l2, l3] (k && k') h') := zz_k_call f9_88 rfl rfl rfl
theorem f9_91 : zz_fetch zz_prog 9 91 = some (.aload_n 0, 1, [], []) := zz_fetch_of p9 rfl rfl
theorem s9_91 : zz_Run zz_prog d 9 (91, [some (.ref a), l1, l2, l3], st, k, h) = zz_Run zz_prog d 9 (92, [some (.ref a), l1, l2, l3], .ref a :: st, k, h) := zz_k_num f9_91 rfl
theorem f9_92 : zz_fetch zz_prog 9 92 = some (.iconst 4, 1, [], []) := zz_fetch_of p9 rfl rfl
theorem s9_92 : zz_Run zz_prog d 9 (92, [l0, l1, l2, l3], st, k, h) = zz_Run zz_prog d 9 (93, [l0, l1, l2, l3], .int 4 :: st, k, h) := zz_k_num f9_92 rfl
theorem f9_93 : zz_fetch zz_prog 9 93 = some (.aload_n 0, 1, [], []) := zz_fetch_of p9 rfl rfl
theorem s9_93 : zz_Run zz_prog d 9 (93, [some (.ref a), l1, l2, l3], st, k, h) = zz_Run zz_prog d 9 (94, [some (.ref a), l1, l2, l3], .ref a :: st, k, h) := zz_k_num f9_93 rfl
theorem f9_94 : zz_fetch zz_prog 9 94 = some (.getfield 28, 3, [1, 7, 3], []) := zz_fetch_of p9 rfl rfl
theorem s9_94 : zz_Run zz_prog d 9 (94, [l0, l1, l2, l3], .ref 5 :: st, k, (zz_hp n I J ex)) = zz_Run zz_prog d 9 (97, [l0, l1, l2, l3], .ref 9 :: st, k, (zz_hp n I J ex)) := zz_k_go f9_94 rfl rfl rfl
theorem f9_97 : zz_fetch zz_prog 9 97 = some (.getfield 86, 3, [0, 1, 0], []) := zz_fetch_of p9 rfl rfl
theorem s9_97 : zz_Run zz_prog d 9 (97, [l0, l1, l2, l3], .ref 9 :: st, k, (zz_hp n I J ex)) = zz_Run zz_prog d 9 (100, [l0, l1, l2, l3], .int (I 9 1) :: st, k, (zz_hp n I J ex)) := zz_k_go f9_97 rfl rfl rfl
theorem s9_97b : zz_Run zz_prog d 9 (97, [l0, l1, l2, l3], .ref 16 :: st, k, (zz_hp n I J ex)) = zz_Run zz_prog d 9 (100, [l0, l1, l2, l3], .int (I 16 1) :: st, k, (zz_hp n I J ex)) := zz_k_go f9_97 rfl rfl rfl
theorem f9_100 : zz_fetch zz_prog 9 100 = some (.iload_n 2, 1, [], []) := zz_fetch_of p9 rfl rfl
theorem s9_100 : zz_Run zz_prog d 9 (100, [l0, l1, some (.int v), l3], st, k, h) = zz_Run zz_prog d 9 (101, [l0, l1, some (.int v), l3], .int v :: st, k, h) := zz_k_num f9_100 rfl
theorem f9_101 : zz_fetch zz_prog 9 101 = some (.iconst 1, 1, [], []) := zz_fetch_of p9 rfl rfl
theorem s9_101 : zz_Run zz_prog d 9 (101, [l0, l1, l2, l3], st, k, h) = zz_Run zz_prog d 9 (102, [l0, l1, l2, l3], .int 1 :: st, k, h) := zz_k_num f9_101 rfl
theorem f9_102 : zz_fetch zz_prog 9 102 = some (.invokevirtual 138, 3, [0, 44, 5, 1], []) := zz_fetch_of p9 rfl rfl
theorem s9_102 : zz_Run zz_prog d 9 (102, [l0, l1, l2, l3], [b0, b1, b2, b3, .ref 5], k, (zz_hp n I J ex)) = zz_ret (zz_Call zz_prog d 44 [.ref 5, b3, b2, b1, b0] (zz_hp n I J ex)) (fun v k' h' => zz_Run zz_prog d 9 (105, [l0, l1, l2, l3], v.toList ++ [], k && k', h')) (fun a k' h' => zz_th d 9 102 a [l0, l1, l2, l3] (k && k') h') := zz_k_call f9_102 rfl rfl rfl
theorem f9_105 : zz_fetch zz_prog 9 105 = some (.iload_n 3, 1, [], []) := zz_fetch_of p9 rfl rfl
theorem s9_105 : zz_Run zz_prog d 9 (105, [l0, l1, l2, some (.int v)], st, k, h) = zz_Run zz_prog d 9 (106, [l0, l1, l2, some (.int v)], .int v :: st, k, h) := zz_k_num f9_105 rfl
theorem f9_106 : zz_fetch zz_prog 9 106 = some (.ireturn, 1, [0], []) := zz_fetch_of p9 rfl rfl
theorem s9_106 : zz_Run zz_prog d 9 (106, [l0, l1, l2, l3], [.int v], k, h) = some (.inl (some (.int v)), k, h) := zz_k_stop f9_106 rfl rfl rfl
end S9
section S10
variable {d n j : Nat} {l0 l1 l2 l3 : Option Value} {st : List Value} {k : Bool} {h : zz_H} {v w v1 v2 : Int32} {y y1 : Int64} {a a1 a2 : Nat} {b0 b1 b2 b3 b4 b5 b6 b7 b8 : Value} {I : Nat → Nat → Int32} {J : Nat → Nat → Int64} {ex : List (Nat × Nat)}
theorem p10 : zz_prog 10 = some zz_m10 := rfl
theorem e10 (g0 : Nat) (g1 : Int32) (g2 : Int32) (g3 : Int32) : zz_Call zz_prog (d + 1) 10 [.ref g0, .int g1, .int g2, .int g3] h = zz_Run zz_prog d 10 (0, [some (.ref g0), some (.int g1), some (.int g2), some (.int g3)], [], true, h) := rfl
theorem t10 (pc : Nat) (L : List (Option Value)) : zz_th d 10 pc a L k h = some (.inr a, k, h) := zz_th_out p10 rfl
theorem f10_0 : zz_fetch zz_prog 10 0 = some (.aload_n 0, 1, [], []) := zz_fetch_of p10 rfl rfl
theorem s10_0 : zz_Run zz_prog d 10 (0, [some (.ref a), l1, l2, l3], st, k, h) = zz_Run zz_prog d 10 (1, [some (.ref a), l1, l2, l3], .ref a :: st, k, h) := zz_k_num f10_0 rfl
theorem f10_1 : zz_fetch zz_prog 10 1 = some (.iload_n 1, 1, [], []) := zz_fetch_of p10 rfl rfl
theorem s10_1 : zz_Run zz_prog d 10 (1, [l0, some (.int v), l2, l3], st, k, h) = zz_Run zz_prog d 10 (2, [l0, some (.int v), l2, l3], .int v :: st, k, h) := zz_k_num f10_1 rfl
theorem f10_2 : zz_fetch zz_prog 10 2 = some (.invokevirtual 126, 3, [0, 29, 2, 1], []) := zz_fetch_of p10 rfl rfl
theorem s10_2 : zz_Run zz_prog d 10 (2, [l0, l1, l2, l3], [b0, .ref 5], k, (zz_hp n I J ex)) = zz_ret (zz_Call zz_prog d 29 [.ref 5, b0] (zz_hp n I J ex)) (fun v k' h' => zz_Run zz_prog d 10 (5, [l0, l1, l2, l3], v.toList ++ [], k && k', h')) (fun a k' h' => zz_th d 10 2 a [l0, l1, l2, l3] (k && k') h') := zz_k_call f10_2 rfl rfl rfl
theorem f10_5 : zz_fetch zz_prog 10 5 = some (.ifCond .eq 36, 3, [41], []) := zz_fetch_of p10 rfl rfl
theorem s10_5 : zz_Run zz_prog d 10 (5, [l0, l1, l2, l3], .int v :: st, k, h) = if v = 0 then zz_Run zz_prog d 10 (41, [l0, l1, l2, l3], st, k, h) else zz_Run zz_prog d 10 (8, [l0, l1, l2, l3], st, k, h) := zz_k_br (v = 0) rfl (zz_k_num f10_5 rfl)
theorem f10_8 : zz_fetch zz_prog 10 8 = some (.iload_n 1, 1, [], []) := zz_fetch_of p10 rfl rfl
theorem s10_8 : zz_Run zz_prog d 10 (8, [l0, some (.int v), l2, l3], st, k, h) = zz_Run zz_prog d 10 (9, [l0, some (.int v), l2, l3], .int v :: st, k, h) := zz_k_num f10_8 rfl
theorem f10_9 : zz_fetch zz_prog 10 9 = some (.aload_n 0, 1, [], []) := zz_fetch_of p10 rfl rfl
theorem s10_9 : zz_Run zz_prog d 10 (9, [some (.ref a), l1, l2, l3], st, k, h) = zz_Run zz_prog d 10 (10, [some (.ref a), l1, l2, l3], .ref a :: st, k, h) := zz_k_num f10_9 rfl
theorem f10_10 : zz_fetch zz_prog 10 10 = some (.getfield 28, 3, [1, 7, 3], []) := zz_fetch_of p10 rfl rfl
theorem s10_10 : zz_Run zz_prog d 10 (10, [l0, l1, l2, l3], .ref 5 :: st, k, (zz_hp n I J ex)) = zz_Run zz_prog d 10 (13, [l0, l1, l2, l3], .ref 9 :: st, k, (zz_hp n I J ex)) := zz_k_go f10_10 rfl rfl rfl
theorem f10_13 : zz_fetch zz_prog 10 13 = some (.getfield 86, 3, [0, 1, 0], []) := zz_fetch_of p10 rfl rfl
theorem s10_13 : zz_Run zz_prog d 10 (13, [l0, l1, l2, l3], .ref 9 :: st, k, (zz_hp n I J ex)) = zz_Run zz_prog d 10 (16, [l0, l1, l2, l3], .int (I 9 1) :: st, k, (zz_hp n I J ex)) := zz_k_go f10_13 rfl rfl rfl
theorem s10_13b : zz_Run zz_prog d 10 (13, [l0, l1, l2, l3], .ref 16 :: st, k, (zz_hp n I J ex)) = zz_Run zz_prog d 10 (16, [l0, l1, l2, l3], .int (I 16 1) :: st, k, (zz_hp n I J ex)) := zz_k_go f10_13 rfl rfl rfl
theorem f10_16 : zz_fetch zz_prog 10 16 = some (.if_icmp .eq 25, 3, [41], []) := zz_fetch_of p10 rfl rfl
theorem s10_16 : zz_Run zz_prog d 10 (16, [l0, l1, l2, l3], .int w :: .int v :: st, k, h) = if v = w then zz_Run zz_prog d 10 (41, [l0, l1, l2, l3], st, k, h) else zz_Run zz_prog d 10 (19, [l0, l1, l2, l3], st, k, h) := zz_k_br (v = w) rfl (zz_k_num f10_16 rfl)
theorem f10_19 : zz_fetch zz_prog 10 19 = some (.iload_n 2, 1, [], []) := zz_fetch_of p10 rfl rfl
theorem s10_19 : zz_Run zz_prog d 10 (19, [l0, l1, some (.int v), l3], st, k, h) = zz_Run zz_prog d 10 (20, [l0, l1, some (.int v), l3], .int v :: st, k, h) := zz_k_num f10_19 rfl
theorem f10_20 : zz_fetch zz_prog 10 20 = some (.invokestatic 157, 3, [0, 35, 1], []) := zz_fetch_of p10 rfl rfl
theorem s10_20 : zz_Run zz_prog d 10 (20, [l0, l1, l2, l3], [b0], k, h) = zz_ret (zz_Call zz_prog d 35 [b0] h) (fun v k' h' => zz_Run zz_prog d 10 (23, [l0, l1, l2, l3], v.toList ++ [], k && k', h')) (fun a k' h' => zz_th d 10 20 a [l0, l1, l2, l3] (k && k') h') := zz_k_call f10_20 rfl rfl rfl
theorem f10_23 : zz_fetch zz_prog 10 23 = some (.ifCond .eq 18, 3, [41], []) := zz_fetch_of p10 rfl rfl
theorem s10_23 : zz_Run zz_prog d 10 (23, [l0, l1, l2, l3], .int v :: st, k, h) = if v = 0 then zz_Run zz_prog d 10 (41, [l0, l1, l2, l3], st, k, h) else zz_Run zz_prog d 10 (26, [l0, l1, l2, l3], st, k, h) := zz_k_br (v = 0) rfl (zz_k_num f10_23 rfl)
theorem f10_26 : zz_fetch zz_prog 10 26 = some (.iload_n 3, 1, [], []) := zz_fetch_of p10 rfl rfl
theorem s10_26 : zz_Run zz_prog d 10 (26, [l0, l1, l2, some (.int v)], st, k, h) = zz_Run zz_prog d 10 (27, [l0, l1, l2, some (.int v)], .int v :: st, k, h) := zz_k_num f10_26 rfl
theorem f10_27 : zz_fetch zz_prog 10 27 = some (.invokestatic 157, 3, [0, 35, 1], []) := zz_fetch_of p10 rfl rfl
theorem s10_27 : zz_Run zz_prog d 10 (27, [l0, l1, l2, l3], [b0], k, h) = zz_ret (zz_Call zz_prog d 35 [b0] h) (fun v k' h' => zz_Run zz_prog d 10 (30, [l0, l1, l2, l3], v.toList ++ [], k && k', h')) (fun a k' h' => zz_th d 10 27 a [l0, l1, l2, l3] (k && k') h') := zz_k_call f10_27 rfl rfl rfl
theorem f10_30 : zz_fetch zz_prog 10 30 = some (.ifCond .eq 11, 3, [41], []) := zz_fetch_of p10 rfl rfl
theorem s10_30 : zz_Run zz_prog d 10 (30, [l0, l1, l2, l3], .int v :: st, k, h) = if v = 0 then zz_Run zz_prog d 10 (41, [l0, l1, l2, l3], st, k, h) else zz_Run zz_prog d 10 (33, [l0, l1, l2, l3], st, k, h) := zz_k_br (v = 0) rfl (zz_k_num f10_30 rfl)
theorem f10_33 : zz_fetch zz_prog 10 33 = some (.iload_n 2, 1, [], []) := zz_fetch_of p10 rfl rfl
theorem s10_33 : zz_Run zz_prog d 10 (33, [l0, l1, some (.int v), l3], st, k, h) = zz_Run zz_prog d 10 (34, [l0, l1, some (.int v), l3], .int v :: st, k, h) := zz_k_num f10_33 rfl
theorem f10_34 : zz_fetch zz_prog 10 34 = some (.ifCond .ne 15, 3, [49], []) := zz_fetch_of p10 rfl rfl
theorem s10_34 : zz_Run zz_prog d 10 (34, [l0, l1, l2, l3], .int v :: st, k, h) = if ¬ v = 0 then zz_Run zz_prog d 10 (49, [l0, l1, l2, l3], st, k, h) else zz_Run zz_prog d 10 (37, [l0, l1, l2, l3], st, k, h) := zz_k_br (¬ v = 0) rfl (zz_k_num f10_34 rfl)
theorem f10_37 : zz_fetch zz_prog 10 37 = some (.iload_n 3, 1, [], []) := zz_fetch_of p10 rfl rfl
theorem s10_37 : zz_Run zz_prog d 10 (37, [l0, l1, l2, some (.int v)], st, k, h) = zz_Run zz_prog d 10 (38, [l0, l1, l2, some (.int v)], .int v :: st, k, h) := zz_k_num f10_37 rfl
theorem f10_38 : zz_fetch zz_prog 10 38 = some (.ifCond .ne 11, 3, [49], []) := zz_fetch_of p10 rfl rfl
theorem s10_38 : zz_Run zz_prog d 10 (38, [l0, l1, l2, l3], .int v :: st, k, h) = if ¬ v = 0 then zz_Run zz_prog d 10 (49, [l0, l1, l2, l3], st, k, h) else zz_Run zz_prog d 10 (41, [l0, l1, l2, l3], st, k, h) := zz_k_br (¬ v = 0) rfl (zz_k_num f10_38 rfl)
theorem f10_41 : zz_fetch zz_prog 10 41 = some (.new 47, 3, [4, 4], []) := zz_fetch_of p10 rfl rfl
theorem s10_41 : zz_Run zz_prog d 10 (41, [l0, l1, l2, l3], [], true, (zz_hp n I J ex)) = some (.inr (zz_exa ex), false, zz_hp n I J (ex ++ [(4, 4)])) := zz_k_throw f10_41 (by simp)
theorem f10_49 : zz_fetch zz_prog 10 49 = some (.aload_n 0, 1, [], []) := zz_fetch_of p10 rfl rfl
theorem s10_49 : zz_Run zz_prog d 10 (49, [some (.ref a), l1, l2, l3], st, k, h) = zz_Run zz_prog d 10 (50, [some (.ref a), l1, l2, l3], .ref a :: st, k, h) := zz_k_num f10_49 rfl
theorem f10_50 : zz_fetch zz_prog 10 50 = some (.bipush 6, 2, [], []) := zz_fetch_of p10 rfl rfl
theorem s10_50 : zz_Run zz_prog d 10 (50, [l0, l1, l2, l3], st, k, h) = zz_Run zz_prog d 10 (52, [l0, l1, l2, l3], .int 6 :: st, k, h) := zz_k_num f10_50 (congrArg (fun u => some (52, [l0, l1, l2, l3], Value.int u :: st)) (by decide : (Int8.ofInt 6).toInt32 = 6))
theorem f10_52 : zz_fetch zz_prog 10 52 = some (.invokevirtual 35, 3, [0, 27, 2, 1], []) := zz_fetch_of p10 rfl rfl
theorem s10_52 : zz_Run zz_prog d 10 (52, [l0, l1, l2, l3], [b0, .ref 5], k, (zz_hp n I J ex)) = zz_ret (zz_Call zz_prog d 27 [.ref 5, b0] (zz_hp n I J ex)) (fun v k' h' => zz_Run zz_prog d 10 (55, [l0, l1, l2, l3], v.toList ++ [], k && k', h')) (fun a k' h' => zz_th d 10 52 a [l0, l1, l2, l3] (k && k') h') := zz_k_call f10_52 rfl rfl rfl
theorem f10_55 : zz_fetch zz_prog 10 55 = some (.aload_n 0, 1, [], []) := zz_fetch_of p10 rfl rfl
theorem s10_55 : zz_Run zz_prog d 10 (55, [some (.ref a), l1, l2, l3], st, k, h) = zz_Run zz_prog d 10 (56, [some (.ref a), l1, l2, l3], .ref a :: st, k, h) := zz_k_num f10_55 rfl
theorem f10_56 : zz_fetch zz_prog 10 56 = some (.aload_n 0, 1, [], []) := zz_fetch_of p10 rfl rfl
theorem s10_56 : zz_Run zz_prog d 10 (56, [some (.ref a), l1, l2, l3], st, k, h) = zz_Run zz_prog d 10 (57, [some (.ref a), l1, l2, l3], .ref a :: st, k, h) := zz_k_num f10_56 rfl
theorem f10_57 : zz_fetch zz_prog 10 57 = some (.getfield 28, 3, [1, 7, 3], []) := zz_fetch_of p10 rfl rfl
theorem s10_57 : zz_Run zz_prog d 10 (57, [l0, l1, l2, l3], .ref 5 :: st, k, (zz_hp n I J ex)) = zz_Run zz_prog d 10 (60, [l0, l1, l2, l3], .ref 9 :: st, k, (zz_hp n I J ex)) := zz_k_go f10_57 rfl rfl rfl
theorem f10_60 : zz_fetch zz_prog 10 60 = some (.getfield 86, 3, [0, 1, 0], []) := zz_fetch_of p10 rfl rfl
theorem s10_60 : zz_Run zz_prog d 10 (60, [l0, l1, l2, l3], .ref 9 :: st, k, (zz_hp n I J ex)) = zz_Run zz_prog d 10 (63, [l0, l1, l2, l3], .int (I 9 1) :: st, k, (zz_hp n I J ex)) := zz_k_go f10_60 rfl rfl rfl
theorem s10_60b : zz_Run zz_prog d 10 (60, [l0, l1, l2, l3], .ref 16 :: st, k, (zz_hp n I J ex)) = zz_Run zz_prog d 10 (63, [l0, l1, l2, l3], .int (I 16 1) :: st, k, (zz_hp n I J ex)) := zz_k_go f10_60 rfl rfl rfl
theorem f10_63 : zz_fetch zz_prog 10 63 = some (.iload_n 2, 1, [], []) := zz_fetch_of p10 rfl rfl
theorem s10_63 : zz_Run zz_prog d 10 (63, [l0, l1, some (.int v), l3], st, k, h) = zz_Run zz_prog d 10 (64, [l0, l1, some (.int v), l3], .int v :: st, k, h) := zz_k_num f10_63 rfl
theorem f10_64 : zz_fetch zz_prog 10 64 = some (.invokevirtual 160, 3, [0, 48, 3, 1], []) := zz_fetch_of p10 rfl rfl
theorem s10_64 : zz_Run zz_prog d 10 (64, [l0, l1, l2, l3], [b0, b1, .ref 5], k, (zz_hp n I J ex)) = zz_ret (zz_Call zz_prog d 48 [.ref 5, b1, b0] (zz_hp n I J ex)) (fun v k' h' => zz_Run zz_prog d 10 (67, [l0, l1, l2, l3], v.toList ++ [], k && k', h')) (fun a k' h' => zz_th d 10 64 a [l0, l1, l2, l3] (k && k') h') := zz_k_call f10_64 rfl rfl rfl
theorem f10_67 : zz_fetch zz_prog 10 67 = some (.ifCond .ne 11, 3, [78], []) := zz_fetch_of p10 rfl rfl
theorem s10_67 : zz_Run zz_prog d 10 (67, [l0, l1, l2, l3], .int v :: st, k, h) = if ¬ v = 0 then zz_Run zz_prog d 10 (78, [l0, l1, l2, l3], st, k, h) else zz_Run zz_prog d 10 (70, [l0, l1, l2, l3], st, k, h) := zz_k_br (¬ v = 0) rfl (zz_k_num f10_67 rfl)
theorem f10_70 : zz_fetch zz_prog 10 70 = some (.new 54, 3, [4, 3], []) := zz_fetch_of p10 rfl rfl
theorem s10_70 : zz_Run zz_prog d 10 (70, [l0, l1, l2, l3], [], true, (zz_hp n I J ex)) = some (.inr (zz_exa ex), false, zz_hp n I J (ex ++ [(4, 3)])) := zz_k_throw f10_70 (by simp)
theorem f10_78 : zz_fetch zz_prog 10 78 = some (.aload_n 0, 1, [], []) := zz_fetch_of p10 rfl rfl
theorem s10_78 : zz_Run zz_prog d 10 (78, [some (.ref a), l1, l2, l3], st, k, h) = zz_Run zz_prog d 10 (79, [some (.ref a), l1, l2, l3], .ref a :: st, k, h) := zz_k_num f10_78 rfl
theorem f10_79 : zz_fetch zz_prog 10 79 = some (.invokevirtual 98, 3, [0, 87, 1, 1], []) := zz_fetch_of p10 rfl rfl
theorem s10_79 : zz_Run zz_prog d 10 (79, [l0, l1, l2, l3], [.ref 5], k, (zz_hp n I J ex)) = zz_ret (zz_Call zz_prog d 87 [.ref 5] (zz_hp n I J ex)) (fun v k' h' => zz_Run zz_prog d 10 (82, [l0, l1, l2, l3], v.toList ++ [], k && k', h')) (fun a k' h' => zz_th d 10 79 a [l0, l1, l2, l3] (k && k') h') := zz_k_call f10_79 rfl rfl rfl
theorem f10_82 : zz_fetch zz_prog 10 82 = some (.aload_n 0, 1, [], []) := zz_fetch_of p10 rfl rfl
theorem s10_82 : zz_Run zz_prog d 10 (82, [some (.ref a), l1, l2, l3], st, k, h) = zz_Run zz_prog d 10 (83, [some (.ref a), l1, l2, l3], .ref a :: st, k, h) := zz_k_num f10_82 rfl
theorem f10_83 : zz_fetch zz_prog 10 83 = some (.getfield 28, 3, [1, 7, 3], []) := zz_fetch_of p10 rfl rfl
theorem s10_83 : zz_Run zz_prog d 10 (83, [l0, l1, l2, l3], .ref 5 :: st, k, (zz_hp n I J ex)) = zz_Run zz_prog d 10 (86, [l0, l1, l2, l3], .ref 9 :: st, k, (zz_hp n I J ex)) := zz_k_go f10_83 rfl rfl rfl
theorem f10_86 : zz_fetch zz_prog 10 86 = some (.iload_n 1, 1, [], []) := zz_fetch_of p10 rfl rfl
theorem s10_86 : zz_Run zz_prog d 10 (86, [l0, some (.int v), l2, l3], st, k, h) = zz_Run zz_prog d 10 (87, [l0, some (.int v), l2, l3], .int v :: st, k, h) := zz_k_num f10_86 rfl
theorem f10_87 : zz_fetch zz_prog 10 87 = some (.putfield 163, 3, [0, 7, 0], []) := zz_fetch_of p10 rfl rfl
theorem s10_87 : zz_Run zz_prog d 10 (87, [l0, l1, l2, l3], .int v :: .ref 9 :: st, k, (zz_hp n I J ex)) = zz_Run zz_prog d 10 (90, [l0, l1, l2, l3], st, false, (zz_hp n (zz_up I 9 7 v) J ex)) := zz_k_go f10_87 rfl rfl rfl
theorem s10_87b : zz_Run zz_prog d 10 (87, [l0, l1, l2, l3], .int v :: .ref 16 :: st, k, (zz_hp n I J ex)) = zz_Run zz_prog d 10 (90, [l0, l1, l2, l3], st, false, (zz_hp n (zz_up I 16 7 v) J ex)) := zz_k_go f10_87 rfl rfl rfl
theorem f10_90 : zz_fetch zz_prog 10 90 = some (.aload_n 0, 1, [], []) := zz_fetch_of p10 rfl rfl
theorem s10_90 : zz_Run zz_prog d 10 (90, [some (.ref a), l1, l2, l3], st, k, h) = zz_Run zz_prog d 10 (91, [some (.ref a), l1, l2, l3], .ref a :: st, k, h) := zz_k_num f10_90 rfl
theorem f10_91 : zz_fetch zz_prog 10 91 = some (.getfield 28, 3, [1, 7, 3], []) := zz_fetch_of p10 rfl rfl
theorem s10_91 : zz_Run zz_prog d 10 (91, [l0, l1, l2, l3], .ref 5 :: st, k, (zz_hp n I J ex)) = zz_Run zz_prog d 10 (94, [l0, l1, l2, l3], .ref 9 :: st, k, (zz_hp n I J ex)) := zz_k_go f10_91 rfl rfl rfl
theorem f10_94 : zz_fetch zz_prog 10 94 = some (.iload_n 2, 1, [], []) := zz_fetch_of p10 rfl rfl
theorem s10_94 : zz_Run zz_prog d 10 (94, [l0, l1, some (.int v), l3], st, k, h) = zz_Run zz_prog d 10 (95, [l0, l1, some (.int v), l3], .int v :: st, k, h) := zz_k_num f10_94 rfl
theorem f10_95 : zz_fetch zz_prog 10 95 = some (.putfield 166, 3, [0, 8, 0], []) := zz_fetch_of p10 rfl rfl
theorem s10_95 : zz_Run zz_prog d 10 (95, [l0, l1, l2, l3], .int v :: .ref 9 :: st, k, (zz_hp n I J ex)) = zz_Run zz_prog d 10 (98, [l0, l1, l2, l3], st, false, (zz_hp n (zz_up I 9 8 v) J ex)) := zz_k_go f10_95 rfl rfl rfl
theorem s10_95b : zz_Run zz_prog d 10 (95, [l0, l1, l2, l3], .int v :: .ref 16 :: st, k, (zz_hp n I J ex)) = zz_Run zz_prog d 10 (98, [l0, l1, l2, l3], st, false, (zz_hp n (zz_up I 16 8 v) J ex)) := zz_k_go f10_95 rfl rfl rfl
theorem f10_98 : zz_fetch zz_prog 10 98 = some (.aload_n 0, 1, [], []) := zz_fetch_of p10 rfl rfl
theorem s10_98 : zz_Run zz_prog d 10 (98, [some (.ref a), l1, l2, l3], st, k, h) = zz_Run zz_prog d 10 (99, [some (.ref a), l1, l2, l3], .ref a :: st, k, h) := zz_k_num f10_98 rfl
theorem f10_99 : zz_fetch zz_prog 10 99 = some (.getfield 28, 3, [1, 7, 3], []) := zz_fetch_of p10 rfl rfl
theorem s10_99 : zz_Run zz_prog d 10 (99, [l0, l1, l2, l3], .ref 5 :: st, k, (zz_hp n I J ex)) = zz_Run zz_prog d 10 (102, [l0, l1, l2, l3], .ref 9 :: st, k, (zz_hp n I J ex)) := zz_k_go f10_99 rfl rfl rfl
theorem f10_102 : zz_fetch zz_prog 10 102 = some (.iload_n 3, 1, [], []) := zz_fetch_of p10 rfl rfl
theorem s10_102 : zz_Run zz_prog d 10 (102, [l0, l1, l2, some (.int v)], st, k, h) = zz_Run zz_prog d 10 (103, [l0, l1, l2, some (.int v)], .int v :: st, k, h) := zz_k_num f10_102 rfl
theorem f10_103 : zz_fetch zz_prog 10 103 = some (.putfield 169, 3, [0, 9, 0], []) := zz_fetch_of p10 rfl rfl
theorem s10_103 : zz_Run zz_prog d 10 (103, [l0, l1, l2, l3], .int v :: .ref 9 :: st, k, (zz_hp n I J ex)) = zz_Run zz_prog d 10 (106, [l0, l1, l2, l3], st, false, (zz_hp n (zz_up I 9 9 v) J ex)) := zz_k_go f10_103 rfl rfl rfl
theorem s10_103b : zz_Run zz_prog d 10 (103, [l0, l1, l2, l3], .int v :: .ref 16 :: st, k, (zz_hp n I J ex)) = zz_Run zz_prog d 10 (106, [l0, l1, l2, l3], st, false, (zz_hp n (zz_up I 16 9 v) J ex)) := zz_k_go f10_103 rfl rfl rfl
theorem f10_106 : zz_fetch zz_prog 10 106 = some (.return_, 1, [], []) := zz_fetch_of p10 rfl rfl
theorem s10_106 : zz_Run zz_prog d 10 (106, [l0, l1, l2, l3], [], k, h) = some (.inl none, k, h) := zz_k_stop f10_106 rfl rfl rfl
end S10
section S11
variable {d n j : Nat} {l0 l1 : Option Value} {st : List Value} {k : Bool} {h : zz_H} {v w v1 v2 : Int32} {y y1 : Int64} {a a1 a2 : Nat} {b0 b1 b2 b3 b4 b5 b6 b7 b8 : Value} {I : Nat → Nat → Int32} {J : Nat → Nat → Int64} {ex : List (Nat × Nat)}
theorem p11 : zz_prog 11 = some zz_m11 := rfl
theorem e11 (g0 : Nat) : zz_Call zz_prog (d + 1) 11 [.ref g0] h = zz_Run zz_prog d 11 (0, [some (.ref g0), none], [], true, h) := rfl
theorem t11 (pc : Nat) (L : List (Option Value)) : zz_th d 11 pc a L k h = some (.inr a, k, h) := zz_th_out p11 rfl
theorem f11_0 : zz_fetch zz_prog 11 0 = some (.aload_n 0, 1, [], []) := zz_fetch_of p11 rfl rfl
theorem s11_0 : zz_Run zz_prog d 11 (0, [some (.ref a), l1], st, k, h) = zz_Run zz_prog d 11 (1, [some (.ref a), l1], .ref a :: st, k, h) := zz_k_num f11_0 rfl
theorem f11_1 : zz_fetch zz_prog 11 1 = some (.bipush 6, 2, [], []) := zz_fetch_of p11 rfl rfl
theorem s11_1 : zz_Run zz_prog d 11 (1, [l0, l1], st, k, h) = zz_Run zz_prog d 11 (3, [l0, l1], .int 6 :: st, k, h) := zz_k_num f11_1 (congrArg (fun u => some (3, [l0, l1], Value.int u :: st)) (by decide : (Int8.ofInt 6).toInt32 = 6))
theorem f11_3 : zz_fetch zz_prog 11 3 = some (.invokevirtual 35, 3, [0, 27, 2, 1], []) := zz_fetch_of p11 rfl rfl
theorem s11_3 : zz_Run zz_prog d 11 (3, [l0, l1], [b0, .ref 5], k, (zz_hp n I J ex)) = zz_ret (zz_Call zz_prog d 27 [.ref 5, b0] (zz_hp n I J ex)) (fun v k' h' => zz_Run zz_prog d 11 (6, [l0, l1], v.toList ++ [], k && k', h')) (fun a k' h' => zz_th d 11 3 a [l0, l1] (k && k') h') := zz_k_call f11_3 rfl rfl rfl
theorem f11_6 : zz_fetch zz_prog 11 6 = some (.aload_n 0, 1, [], []) := zz_fetch_of p11 rfl rfl
theorem s11_6 : zz_Run zz_prog d 11 (6, [some (.ref a), l1], st, k, h) = zz_Run zz_prog d 11 (7, [some (.ref a), l1], .ref a :: st, k, h) := zz_k_num f11_6 rfl
theorem f11_7 : zz_fetch zz_prog 11 7 = some (.getfield 28, 3, [1, 7, 3], []) := zz_fetch_of p11 rfl rfl
theorem s11_7 : zz_Run zz_prog d 11 (7, [l0, l1], .ref 5 :: st, k, (zz_hp n I J ex)) = zz_Run zz_prog d 11 (10, [l0, l1], .ref 9 :: st, k, (zz_hp n I J ex)) := zz_k_go f11_7 rfl rfl rfl
theorem f11_10 : zz_fetch zz_prog 11 10 = some (.getfield 163, 3, [0, 7, 0], []) := zz_fetch_of p11 rfl rfl
theorem s11_10 : zz_Run zz_prog d 11 (10, [l0, l1], .ref 9 :: st, k, (zz_hp n I J ex)) = zz_Run zz_prog d 11 (13, [l0, l1], .int (I 9 7) :: st, k, (zz_hp n I J ex)) := zz_k_go f11_10 rfl rfl rfl
theorem s11_10b : zz_Run zz_prog d 11 (10, [l0, l1], .ref 16 :: st, k, (zz_hp n I J ex)) = zz_Run zz_prog d 11 (13, [l0, l1], .int (I 16 7) :: st, k, (zz_hp n I J ex)) := zz_k_go f11_10 rfl rfl rfl
theorem f11_13 : zz_fetch zz_prog 11 13 = some (.istore_n 1, 1, [], []) := zz_fetch_of p11 rfl rfl
theorem s11_13 : zz_Run zz_prog d 11 (13, [l0, l1], .int v :: st, k, h) = zz_sl l0 (zz_Run zz_prog d 11 (14, [l0, some (.int v)], st, k, h)) := zz_k_st (j := 1) (u := .int v) f11_13 rfl (fun q hq => by cases hq) rfl (show 1 < 2 by decide) (by cases l0 <;> rfl) rfl
theorem f11_14 : zz_fetch zz_prog 11 14 = some (.iload_n 1, 1, [], []) := zz_fetch_of p11 rfl rfl
theorem s11_14 : zz_Run zz_prog d 11 (14, [l0, some (.int v)], st, k, h) = zz_Run zz_prog d 11 (15, [l0, some (.int v)], .int v :: st, k, h) := zz_k_num f11_14 rfl
theorem f11_15 : zz_fetch zz_prog 11 15 = some (.iconst (-1), 1, [], []) := zz_fetch_of p11 rfl rfl
theorem s11_15 : zz_Run zz_prog d 11 (15, [l0, l1], st, k, h) = zz_Run zz_prog d 11 (16, [l0, l1], .int (-1) :: st, k, h) := zz_k_num f11_15 rfl
theorem f11_16 : zz_fetch zz_prog 11 16 = some (.if_icmp .eq 39, 3, [55], []) := zz_fetch_of p11 rfl rfl
theorem s11_16 : zz_Run zz_prog d 11 (16, [l0, l1], .int w :: .int v :: st, k, h) = if v = w then zz_Run zz_prog d 11 (55, [l0, l1], st, k, h) else zz_Run zz_prog d 11 (19, [l0, l1], st, k, h) := zz_k_br (v = w) rfl (zz_k_num f11_16 rfl)
theorem f11_19 : zz_fetch zz_prog 11 19 = some (.aload_n 0, 1, [], []) := zz_fetch_of p11 rfl rfl
theorem s11_19 : zz_Run zz_prog d 11 (19, [some (.ref a), l1], st, k, h) = zz_Run zz_prog d 11 (20, [some (.ref a), l1], .ref a :: st, k, h) := zz_k_num f11_19 rfl
theorem f11_20 : zz_fetch zz_prog 11 20 = some (.aload_n 0, 1, [], []) := zz_fetch_of p11 rfl rfl
theorem s11_20 : zz_Run zz_prog d 11 (20, [some (.ref a), l1], st, k, h) = zz_Run zz_prog d 11 (21, [some (.ref a), l1], .ref a :: st, k, h) := zz_k_num f11_20 rfl
theorem f11_21 : zz_fetch zz_prog 11 21 = some (.getfield 28, 3, [1, 7, 3], []) := zz_fetch_of p11 rfl rfl
theorem s11_21 : zz_Run zz_prog d 11 (21, [l0, l1], .ref 5 :: st, k, (zz_hp n I J ex)) = zz_Run zz_prog d 11 (24, [l0, l1], .ref 9 :: st, k, (zz_hp n I J ex)) := zz_k_go f11_21 rfl rfl rfl
theorem f11_24 : zz_fetch zz_prog 11 24 = some (.getfield 86, 3, [0, 1, 0], []) := zz_fetch_of p11 rfl rfl
theorem s11_24 : zz_Run zz_prog d 11 (24, [l0, l1], .ref 9 :: st, k, (zz_hp n I J ex)) = zz_Run zz_prog d 11 (27, [l0, l1], .int (I 9 1) :: st, k, (zz_hp n I J ex)) := zz_k_go f11_24 rfl rfl rfl
theorem s11_24b : zz_Run zz_prog d 11 (24, [l0, l1], .ref 16 :: st, k, (zz_hp n I J ex)) = zz_Run zz_prog d 11 (27, [l0, l1], .int (I 16 1) :: st, k, (zz_hp n I J ex)) := zz_k_go f11_24 rfl rfl rfl
theorem f11_27 : zz_fetch zz_prog 11 27 = some (.aload_n 0, 1, [], []) := zz_fetch_of p11 rfl rfl
theorem s11_27 : zz_Run zz_prog d 11 (27, [some (.ref a), l1], st, k, h) = zz_Run zz_prog d 11 (28, [some (.ref a), l1], .ref a :: st, k, h) := zz_k_num f11_27 rfl
theorem f11_28 : zz_fetch zz_prog 11 28 = some (.getfield 28, 3, [1, 7, 3], []) := zz_fetch_of p11 rfl rfl
theorem s11_28 : zz_Run zz_prog d 11 (28, [l0, l1], .ref 5 :: st, k, (zz_hp n I J ex)) = zz_Run zz_prog d 11 (31, [l0, l1], .ref 9 :: st, k, (zz_hp n I J ex)) := zz_k_go f11_28 rfl rfl rfl
theorem f11_31 : zz_fetch zz_prog 11 31 = some (.getfield 166, 3, [0, 8, 0], []) := zz_fetch_of p11 rfl rfl
theorem s11_31 : zz_Run zz_prog d 11 (31, [l0, l1], .ref 9 :: st, k, (zz_hp n I J ex)) = zz_Run zz_prog d 11 (34, [l0, l1], .int (I 9 8) :: st, k, (zz_hp n I J ex)) := zz_k_go f11_31 rfl rfl rfl
theorem s11_31b : zz_Run zz_prog d 11 (31, [l0, l1], .ref 16 :: st, k, (zz_hp n I J ex)) = zz_Run zz_prog d 11 (34, [l0, l1], .int (I 16 8) :: st, k, (zz_hp n I J ex)) := zz_k_go f11_31 rfl rfl rfl
theorem f11_34 : zz_fetch zz_prog 11 34 = some (.invokevirtual 160, 3, [0, 48, 3, 1], []) := zz_fetch_of p11 rfl rfl
theorem s11_34 : zz_Run zz_prog d 11 (34, [l0, l1], [b0, b1, .ref 5], k, (zz_hp n I J ex)) = zz_ret (zz_Call zz_prog d 48 [.ref 5, b1, b0] (zz_hp n I J ex)) (fun v k' h' => zz_Run zz_prog d 11 (37, [l0, l1], v.toList ++ [], k && k', h')) (fun a k' h' => zz_th d 11 34 a [l0, l1] (k && k') h') := zz_k_call f11_34 rfl rfl rfl
theorem f11_37 : zz_fetch zz_prog 11 37 = some (.ifCond .eq 18, 3, [55], []) := zz_fetch_of p11 rfl rfl
theorem s11_37 : zz_Run zz_prog d 11 (37, [l0, l1], .int v :: st, k, h) = if v = 0 then zz_Run zz_prog d 11 (55, [l0, l1], st, k, h) else zz_Run zz_prog d 11 (40, [l0, l1], st, k, h) := zz_k_br (v = 0) rfl (zz_k_num f11_37 rfl)
theorem f11_40 : zz_fetch zz_prog 11 40 = some (.aload_n 0, 1, [], []) := zz_fetch_of p11 rfl rfl
theorem s11_40 : zz_Run zz_prog d 11 (40, [some (.ref a), l1], st, k, h) = zz_Run zz_prog d 11 (41, [some (.ref a), l1], .ref a :: st, k, h) := zz_k_num f11_40 rfl
theorem f11_41 : zz_fetch zz_prog 11 41 = some (.iload_n 1, 1, [], []) := zz_fetch_of p11 rfl rfl
theorem s11_41 : zz_Run zz_prog d 11 (41, [l0, some (.int v)], st, k, h) = zz_Run zz_prog d 11 (42, [l0, some (.int v)], .int v :: st, k, h) := zz_k_num f11_41 rfl
theorem f11_42 : zz_fetch zz_prog 11 42 = some (.aload_n 0, 1, [], []) := zz_fetch_of p11 rfl rfl
theorem s11_42 : zz_Run zz_prog d 11 (42, [some (.ref a), l1], st, k, h) = zz_Run zz_prog d 11 (43, [some (.ref a), l1], .ref a :: st, k, h) := zz_k_num f11_42 rfl
theorem f11_43 : zz_fetch zz_prog 11 43 = some (.getfield 28, 3, [1, 7, 3], []) := zz_fetch_of p11 rfl rfl
theorem s11_43 : zz_Run zz_prog d 11 (43, [l0, l1], .ref 5 :: st, k, (zz_hp n I J ex)) = zz_Run zz_prog d 11 (46, [l0, l1], .ref 9 :: st, k, (zz_hp n I J ex)) := zz_k_go f11_43 rfl rfl rfl
theorem f11_46 : zz_fetch zz_prog 11 46 = some (.getfield 169, 3, [0, 9, 0], []) := zz_fetch_of p11 rfl rfl
theorem s11_46 : zz_Run zz_prog d 11 (46, [l0, l1], .ref 9 :: st, k, (zz_hp n I J ex)) = zz_Run zz_prog d 11 (49, [l0, l1], .int (I 9 9) :: st, k, (zz_hp n I J ex)) := zz_k_go f11_46 rfl rfl rfl
theorem s11_46b : zz_Run zz_prog d 11 (46, [l0, l1], .ref 16 :: st, k, (zz_hp n I J ex)) = zz_Run zz_prog d 11 (49, [l0, l1], .int (I 16 9) :: st, k, (zz_hp n I J ex)) := zz_k_go f11_46 rfl rfl rfl
theorem f11_49 : zz_fetch zz_prog 11 49 = some (.invokevirtual 160, 3, [0, 48, 3, 1], []) := zz_fetch_of p11 rfl rfl
theorem s11_49 : zz_Run zz_prog d 11 (49, [l0, l1], [b0, b1, .ref 5], k, (zz_hp n I J ex)) = zz_ret (zz_Call zz_prog d 48 [.ref 5, b1, b0] (zz_hp n I J ex)) (fun v k' h' => zz_Run zz_prog d 11 (52, [l0, l1], v.toList ++ [], k && k', h')) (fun a k' h' => zz_th d 11 49 a [l0, l1] (k && k') h') := zz_k_call f11_49 rfl rfl rfl
theorem f11_52 : zz_fetch zz_prog 11 52 = some (.ifCond .ne 11, 3, [63], []) := zz_fetch_of p11 rfl rfl
theorem s11_52 : zz_Run zz_prog d 11 (52, [l0, l1], .int v :: st, k, h) = if ¬ v = 0 then zz_Run zz_prog d 11 (63, [l0, l1], st, k, h) else zz_Run zz_prog d 11 (55, [l0, l1], st, k, h) := zz_k_br (¬ v = 0) rfl (zz_k_num f11_52 rfl)
theorem f11_55 : zz_fetch zz_prog 11 55 = some (.new 54, 3, [4, 3], []) := zz_fetch_of p11 rfl rfl
theorem s11_55 : zz_Run zz_prog d 11 (55, [l0, l1], [], true, (zz_hp n I J ex)) = some (.inr (zz_exa ex), false, zz_hp n I J (ex ++ [(4, 3)])) := zz_k_throw f11_55 (by simp)
theorem f11_63 : zz_fetch zz_prog 11 63 = some (.aload_n 0, 1, [], []) := zz_fetch_of p11 rfl rfl
theorem s11_63 : zz_Run zz_prog d 11 (63, [some (.ref a), l1], st, k, h) = zz_Run zz_prog d 11 (64, [some (.ref a), l1], .ref a :: st, k, h) := zz_k_num f11_63 rfl
theorem f11_64 : zz_fetch zz_prog 11 64 = some (.invokevirtual 98, 3, [0, 87, 1, 1], []) := zz_fetch_of p11 rfl rfl
theorem s11_64 : zz_Run zz_prog d 11 (64, [l0, l1], [.ref 5], k, (zz_hp n I J ex)) = zz_ret (zz_Call zz_prog d 87 [.ref 5] (zz_hp n I J ex)) (fun v k' h' => zz_Run zz_prog d 11 (67, [l0, l1], v.toList ++ [], k && k', h')) (fun a k' h' => zz_th d 11 64 a [l0, l1] (k && k') h') := zz_k_call f11_64 rfl rfl rfl
theorem f11_67 : zz_fetch zz_prog 11 67 = some (.aload_n 0, 1, [], []) := zz_fetch_of p11 rfl rfl
theorem s11_67 : zz_Run zz_prog d 11 (67, [some (.ref a), l1], st, k, h) = zz_Run zz_prog d 11 (68, [some (.ref a), l1], .ref a :: st, k, h) := zz_k_num f11_67 rfl
theorem f11_68 : zz_fetch zz_prog 11 68 = some (.getfield 28, 3, [1, 7, 3], []) := zz_fetch_of p11 rfl rfl
theorem s11_68 : zz_Run zz_prog d 11 (68, [l0, l1], .ref 5 :: st, k, (zz_hp n I J ex)) = zz_Run zz_prog d 11 (71, [l0, l1], .ref 9 :: st, k, (zz_hp n I J ex)) := zz_k_go f11_68 rfl rfl rfl
theorem f11_71 : zz_fetch zz_prog 11 71 = some (.iconst (-1), 1, [], []) := zz_fetch_of p11 rfl rfl
theorem s11_71 : zz_Run zz_prog d 11 (71, [l0, l1], st, k, h) = zz_Run zz_prog d 11 (72, [l0, l1], .int (-1) :: st, k, h) := zz_k_num f11_71 rfl
theorem f11_72 : zz_fetch zz_prog 11 72 = some (.putfield 163, 3, [0, 7, 0], []) := zz_fetch_of p11 rfl rfl
theorem s11_72 : zz_Run zz_prog d 11 (72, [l0, l1], .int v :: .ref 9 :: st, k, (zz_hp n I J ex)) = zz_Run zz_prog d 11 (75, [l0, l1], st, false, (zz_hp n (zz_up I 9 7 v) J ex)) := zz_k_go f11_72 rfl rfl rfl
theorem s11_72b : zz_Run zz_prog d 11 (72, [l0, l1], .int v :: .ref 16 :: st, k, (zz_hp n I J ex)) = zz_Run zz_prog d 11 (75, [l0, l1], st, false, (zz_hp n (zz_up I 16 7 v) J ex)) := zz_k_go f11_72 rfl rfl rfl
theorem f11_75 : zz_fetch zz_prog 11 75 = some (.aload_n 0, 1, [], []) := zz_fetch_of p11 rfl rfl
theorem s11_75 : zz_Run zz_prog d 11 (75, [some (.ref a), l1], st, k, h) = zz_Run zz_prog d 11 (76, [some (.ref a), l1], .ref a :: st, k, h) := zz_k_num f11_75 rfl
theorem f11_76 : zz_fetch zz_prog 11 76 = some (.aload_n 0, 1, [], []) := zz_fetch_of p11 rfl rfl
theorem s11_76 : zz_Run zz_prog d 11 (76, [some (.ref a), l1], st, k, h) = zz_Run zz_prog d 11 (77, [some (.ref a), l1], .ref a :: st, k, h) := zz_k_num f11_76 rfl
theorem f11_77 : zz_fetch zz_prog 11 77 = some (.getfield 28, 3, [1, 7, 3], []) := zz_fetch_of p11 rfl rfl
theorem s11_77 : zz_Run zz_prog d 11 (77, [l0, l1], .ref 5 :: st, k, (zz_hp n I J ex)) = zz_Run zz_prog d 11 (80, [l0, l1], .ref 9 :: st, k, (zz_hp n I J ex)) := zz_k_go f11_77 rfl rfl rfl
theorem f11_80 : zz_fetch zz_prog 11 80 = some (.getfield 86, 3, [0, 1, 0], []) := zz_fetch_of p11 rfl rfl
theorem s11_80 : zz_Run zz_prog d 11 (80, [l0, l1], .ref 9 :: st, k, (zz_hp n I J ex)) = zz_Run zz_prog d 11 (83, [l0, l1], .int (I 9 1) :: st, k, (zz_hp n I J ex)) := zz_k_go f11_80 rfl rfl rfl
theorem s11_80b : zz_Run zz_prog d 11 (80, [l0, l1], .ref 16 :: st, k, (zz_hp n I J ex)) = zz_Run zz_prog d 11 (83, [l0, l1], .int (I 16 1) :: st, k, (zz_hp n I J ex)) := zz_k_go f11_80 rfl rfl rfl
theorem f11_83 : zz_fetch zz_prog 11 83 = some (.iload_n 1, 1, [], []) := zz_fetch_of p11 rfl rfl
theorem s11_83 : zz_Run zz_prog d 11 (83, [l0, some (.int v)], st, k, h) = zz_Run zz_prog d 11 (84, [l0, some (.int v)], .int v :: st, k, h) := zz_k_num f11_83 rfl
theorem f11_84 : zz_fetch zz_prog 11 84 = some (.aload_n 0, 1, [], []) := zz_fetch_of p11 rfl rfl
theorem s11_84 : zz_Run zz_prog d 11 (84, [some (.ref a), l1], st, k, h) = zz_Run zz_prog d 11 (85, [some (.ref a), l1], .ref a :: st, k, h) := zz_k_num f11_84 rfl
theorem f11_85 : zz_fetch zz_prog 11 85 = some (.getfield 28, 3, [1, 7, 3], []) := zz_fetch_of p11 rfl rfl
theorem s11_85 : zz_Run zz_prog d 11 (85, [l0, l1], .ref 5 :: st, k, (zz_hp n I J ex)) = zz_Run zz_prog d 11 (88, [l0, l1], .ref 9 :: st, k, (zz_hp n I J ex)) := zz_k_go f11_85 rfl rfl rfl
theorem f11_88 : zz_fetch zz_prog 11 88 = some (.getfield 166, 3, [0, 8, 0], []) := zz_fetch_of p11 rfl rfl
theorem s11_88 : zz_Run zz_prog d 11 (88, [l0, l1], .ref 9 :: st, k, (zz_hp n I J ex)) = zz_Run zz_prog d 11 (91, [l0, l1], .int (I 9 8) :: st, k, (zz_hp n I J ex)) := zz_k_go f11_88 rfl rfl rfl
theorem s11_88b : zz_Run zz_prog d 11 (88, [l0, l1], .ref 16 :: st, k, (zz_hp n I J ex)) = zz_Run zz_prog d 11 (91, [l0, l1], .int (I 16 8) :: st, k, (zz_hp n I J ex)) := zz_k_go f11_88 rfl rfl rfl
theorem f11_91 : zz_fetch zz_prog 11 91 = some (.invokevirtual 172, 3, [0, 49, 4, 1], []) := zz_fetch_of p11 rfl rfl
theorem s11_91 : zz_Run zz_prog d 11 (91, [l0, l1], [b0, b1, b2, .ref 5], k, (zz_hp n I J ex)) = zz_ret (zz_Call zz_prog d 49 [.ref 5, b2, b1, b0] (zz_hp n I J ex)) (fun v k' h' => zz_Run zz_prog d 11 (94, [l0, l1], v.toList ++ [], k && k', h')) (fun a k' h' => zz_th d 11 91 a [l0, l1] (k && k') h') := zz_k_call f11_91 rfl rfl rfl
theorem f11_94 : zz_fetch zz_prog 11 94 = some (.aload_n 0, 1, [], []) := zz_fetch_of p11 rfl rfl
theorem s11_94 : zz_Run zz_prog d 11 (94, [some (.ref a), l1], st, k, h) = zz_Run zz_prog d 11 (95, [some (.ref a), l1], .ref a :: st, k, h) := zz_k_num f11_94 rfl
theorem f11_95 : zz_fetch zz_prog 11 95 = some (.iload_n 1, 1, [], []) := zz_fetch_of p11 rfl rfl
theorem s11_95 : zz_Run zz_prog d 11 (95, [l0, some (.int v)], st, k, h) = zz_Run zz_prog d 11 (96, [l0, some (.int v)], .int v :: st, k, h) := zz_k_num f11_95 rfl
theorem f11_96 : zz_fetch zz_prog 11 96 = some (.aload_n 0, 1, [], []) := zz_fetch_of p11 rfl rfl
theorem s11_96 : zz_Run zz_prog d 11 (96, [some (.ref a), l1], st, k, h) = zz_Run zz_prog d 11 (97, [some (.ref a), l1], .ref a :: st, k, h) := zz_k_num f11_96 rfl
theorem f11_97 : zz_fetch zz_prog 11 97 = some (.getfield 28, 3, [1, 7, 3], []) := zz_fetch_of p11 rfl rfl
theorem s11_97 : zz_Run zz_prog d 11 (97, [l0, l1], .ref 5 :: st, k, (zz_hp n I J ex)) = zz_Run zz_prog d 11 (100, [l0, l1], .ref 9 :: st, k, (zz_hp n I J ex)) := zz_k_go f11_97 rfl rfl rfl
theorem f11_100 : zz_fetch zz_prog 11 100 = some (.getfield 86, 3, [0, 1, 0], []) := zz_fetch_of p11 rfl rfl
theorem s11_100 : zz_Run zz_prog d 11 (100, [l0, l1], .ref 9 :: st, k, (zz_hp n I J ex)) = zz_Run zz_prog d 11 (103, [l0, l1], .int (I 9 1) :: st, k, (zz_hp n I J ex)) := zz_k_go f11_100 rfl rfl rfl
theorem s11_100b : zz_Run zz_prog d 11 (100, [l0, l1], .ref 16 :: st, k, (zz_hp n I J ex)) = zz_Run zz_prog d 11 (103, [l0, l1], .int (I 16 1) :: st, k, (zz_hp n I J ex)) := zz_k_go f11_100 rfl rfl rfl
theorem f11_103 : zz_fetch zz_prog 11 103 = some (.aload_n 0, 1, [], []) := zz_fetch_of p11 rfl rfl
theorem s11_103 : zz_Run zz_prog d 11 (103, [some (.ref a), l1], st, k, h) = zz_Run zz_prog d 11 (104, [some (.ref a), l1], .ref a :: st, k, h) := zz_k_num f11_103 rfl
theorem f11_104 : zz_fetch zz_prog 11 104 = some (.getfield 28, 3, [1, 7, 3], []) := zz_fetch_of p11 rfl rfl
theorem s11_104 : zz_Run zz_prog d 11 (104, [l0, l1], .ref 5 :: st, k, (zz_hp n I J ex)) = zz_Run zz_prog d 11 (107, [l0, l1], .ref 9 :: st, k, (zz_hp n I J ex)) := zz_k_go f11_104 rfl rfl rfl
theorem f11_107 : zz_fetch zz_prog 11 107 = some (.getfield 169, 3, [0, 9, 0], []) := zz_fetch_of p11 rfl rfl
theorem s11_107 : zz_Run zz_prog d 11 (107, [l0, l1], .ref 9 :: st, k, (zz_hp n I J ex)) = zz_Run zz_prog d 11 (110, [l0, l1], .int (I 9 9) :: st, k, (zz_hp n I J ex)) := zz_k_go f11_107 rfl rfl rfl
theorem s11_107b : zz_Run zz_prog d 11 (107, [l0, l1], .ref 16 :: st, k, (zz_hp n I J ex)) = zz_Run zz_prog d 11 (110, [l0, l1], .int (I 16 9) :: st, k, (zz_hp n I J ex)) := zz_k_go f11_107 rfl rfl rfl
theorem f11_110 : zz_fetch zz_prog 11 110 = some (.invokevirtual 172, 3, [0, 49, 4, 1], []) := zz_fetch_of p11 rfl rfl
theorem s11_110 : zz_Run zz_prog d 11 (110, [l0, l1], [b0, b1, b2, .ref 5, b4], k, (zz_hp n I J ex)) = zz_ret (zz_Call zz_prog d 49 [.ref 5, b2, b1, b0] (zz_hp n I J ex)) (fun v k' h' => zz_Run zz_prog d 11 (113, [l0, l1], v.toList ++ [b4], k && k', h')) (fun a k' h' => zz_th d 11 110 a [l0, l1] (k && k') h') := zz_k_call f11_110 rfl rfl rfl
theorem f11_113 : zz_fetch zz_prog 11 113 = some (.iadd, 1, [], []) := zz_fetch_of p11 rfl rfl
theorem s11_113 : zz_Run zz_prog d 11 (113, [l0, l1], .int w :: .int v :: st, k, h) = zz_Run zz_prog d 11 (114, [l0, l1], .int (v + w) :: st, k, h) := zz_k_num f11_113 rfl
theorem f11_114 : zz_fetch zz_prog 11 114 = some (.ireturn, 1, [0], []) := zz_fetch_of p11 rfl rfl
theorem s11_114 : zz_Run zz_prog d 11 (114, [l0, l1], [.int v], k, h) = some (.inl (some (.int v)), k, h) := zz_k_stop f11_114 rfl rfl rfl
end S11
section S12
variable {d n j : Nat} {l0 l1 : Option Value} {st : List Value} {k : Bool} {h : zz_H} {v w v1 v2 : Int32} {y y1 : Int64} {a a1 a2 : Nat} {b0 b1 b2 b3 b4 b5 b6 b7 b8 : Value} {I : Nat → Nat → Int32} {J : Nat → Nat → Int64} {ex : List (Nat × Nat)}
theorem p12 : zz_prog 12 = some zz_m12 := rfl
theorem e12 (g0 : Nat) : zz_Call zz_prog (d + 1) 12 [.ref g0] h = zz_Run zz_prog d 12 (0, [some (.ref g0), none], [], true, h) := rfl
theorem t12 (pc : Nat) (L : List (Option Value)) : zz_th d 12 pc a L k h = some (.inr a, k, h) := zz_th_out p12 rfl
theorem f12_0 : zz_fetch zz_prog 12 0 = some (.aload_n 0, 1, [], []) := zz_fetch_of p12 rfl rfl
theorem s12_0 : zz_Run zz_prog d 12 (0, [some (.ref a), l1], st, k, h) = zz_Run zz_prog d 12 (1, [some (.ref a), l1], .ref a :: st, k, h) := zz_k_num f12_0 rfl
theorem f12_1 : zz_fetch zz_prog 12 1 = some (.bipush 6, 2, [], []) := zz_fetch_of p12 rfl rfl
theorem s12_1 : zz_Run zz_prog d 12 (1, [l0, l1], st, k, h) = zz_Run zz_prog d 12 (3, [l0, l1], .int 6 :: st, k, h) := zz_k_num f12_1 (congrArg (fun u => some (3, [l0, l1], Value.int u :: st)) (by decide : (Int8.ofInt 6).toInt32 = 6))
theorem f12_3 : zz_fetch zz_prog 12 3 = some (.invokevirtual 35, 3, [0, 27, 2, 1], []) := zz_fetch_of p12 rfl rfl
theorem s12_3 : zz_Run zz_prog d 12 (3, [l0, l1], [b0, .ref 5], k, (zz_hp n I J ex)) = zz_ret (zz_Call zz_prog d 27 [.ref 5, b0] (zz_hp n I J ex)) (fun v k' h' => zz_Run zz_prog d 12 (6, [l0, l1], v.toList ++ [], k && k', h')) (fun a k' h' => zz_th d 12 3 a [l0, l1] (k && k') h') := zz_k_call f12_3 rfl rfl rfl
theorem f12_6 : zz_fetch zz_prog 12 6 = some (.aload_n 0, 1, [], []) := zz_fetch_of p12 rfl rfl
theorem s12_6 : zz_Run zz_prog d 12 (6, [some (.ref a), l1], st, k, h) = zz_Run zz_prog d 12 (7, [some (.ref a), l1], .ref a :: st, k, h) := zz_k_num f12_6 rfl
theorem f12_7 : zz_fetch zz_prog 12 7 = some (.getfield 28, 3, [1, 7, 3], []) := zz_fetch_of p12 rfl rfl
theorem s12_7 : zz_Run zz_prog d 12 (7, [l0, l1], .ref 5 :: st, k, (zz_hp n I J ex)) = zz_Run zz_prog d 12 (10, [l0, l1], .ref 9 :: st, k, (zz_hp n I J ex)) := zz_k_go f12_7 rfl rfl rfl
theorem f12_10 : zz_fetch zz_prog 12 10 = some (.getfield 176, 3, [0, 5, 0], []) := zz_fetch_of p12 rfl rfl
theorem s12_10 : zz_Run zz_prog d 12 (10, [l0, l1], .ref 9 :: st, k, (zz_hp n I J ex)) = zz_Run zz_prog d 12 (13, [l0, l1], .int (I 9 5) :: st, k, (zz_hp n I J ex)) := zz_k_go f12_10 rfl rfl rfl
theorem s12_10b : zz_Run zz_prog d 12 (10, [l0, l1], .ref 16 :: st, k, (zz_hp n I J ex)) = zz_Run zz_prog d 12 (13, [l0, l1], .int (I 16 5) :: st, k, (zz_hp n I J ex)) := zz_k_go f12_10 rfl rfl rfl
theorem f12_13 : zz_fetch zz_prog 12 13 = some (.bipush 16, 2, [], []) := zz_fetch_of p12 rfl rfl
theorem s12_13 : zz_Run zz_prog d 12 (13, [l0, l1], st, k, h) = zz_Run zz_prog d 12 (15, [l0, l1], .int 16 :: st, k, h) := zz_k_num f12_13 (congrArg (fun u => some (15, [l0, l1], Value.int u :: st)) (by decide : (Int8.ofInt 16).toInt32 = 16))
theorem f12_15 : zz_fetch zz_prog 12 15 = some (.if_icmp .ge 11, 3, [26], []) := zz_fetch_of p12 rfl rfl
theorem s12_15 : zz_Run zz_prog d 12 (15, [l0, l1], .int w :: .int v :: st, k, h) = if w ≤ v then zz_Run zz_prog d 12 (26, [l0, l1], st, k, h) else zz_Run zz_prog d 12 (18, [l0, l1], st, k, h) := zz_k_br (w ≤ v) rfl (zz_k_num f12_15 rfl)
theorem f12_18 : zz_fetch zz_prog 12 18 = some (.aload_n 0, 1, [], []) := zz_fetch_of p12 rfl rfl
theorem s12_18 : zz_Run zz_prog d 12 (18, [some (.ref a), l1], st, k, h) = zz_Run zz_prog d 12 (19, [some (.ref a), l1], .ref a :: st, k, h) := zz_k_num f12_18 rfl
theorem f12_19 : zz_fetch zz_prog 12 19 = some (.iconst 3, 1, [], []) := zz_fetch_of p12 rfl rfl
theorem s12_19 : zz_Run zz_prog d 12 (19, [l0, l1], st, k, h) = zz_Run zz_prog d 12 (20, [l0, l1], .int 3 :: st, k, h) := zz_k_num f12_19 rfl
theorem f12_20 : zz_fetch zz_prog 12 20 = some (.invokevirtual 179, 3, [0, 45, 2, 1], []) := zz_fetch_of p12 rfl rfl
theorem s12_20 : zz_Run zz_prog d 12 (20, [l0, l1], [b0, .ref 5], k, (zz_hp n I J ex)) = zz_ret (zz_Call zz_prog d 45 [.ref 5, b0] (zz_hp n I J ex)) (fun v k' h' => zz_Run zz_prog d 12 (23, [l0, l1], v.toList ++ [], k && k', h')) (fun a k' h' => zz_th d 12 20 a [l0, l1] (k && k') h') := zz_k_call f12_20 rfl rfl rfl
theorem f12_23 : zz_fetch zz_prog 12 23 = some (.ifCond .ne 11, 3, [34], []) := zz_fetch_of p12 rfl rfl
theorem s12_23 : zz_Run zz_prog d 12 (23, [l0, l1], .int v :: st, k, h) = if ¬ v = 0 then zz_Run zz_prog d 12 (34, [l0, l1], st, k, h) else zz_Run zz_prog d 12 (26, [l0, l1], st, k, h) := zz_k_br (¬ v = 0) rfl (zz_k_num f12_23 rfl)
theorem f12_26 : zz_fetch zz_prog 12 26 = some (.new 54, 3, [4, 3], []) := zz_fetch_of p12 rfl rfl
theorem s12_26 : zz_Run zz_prog d 12 (26, [l0, l1], [], true, (zz_hp n I J ex)) = some (.inr (zz_exa ex), false, zz_hp n I J (ex ++ [(4, 3)])) := zz_k_throw f12_26 (by simp)
theorem f12_34 : zz_fetch zz_prog 12 34 = some (.aload_n 0, 1, [], []) := zz_fetch_of p12 rfl rfl
theorem s12_34 : zz_Run zz_prog d 12 (34, [some (.ref a), l1], st, k, h) = zz_Run zz_prog d 12 (35, [some (.ref a), l1], .ref a :: st, k, h) := zz_k_num f12_34 rfl
theorem f12_35 : zz_fetch zz_prog 12 35 = some (.invokevirtual 98, 3, [0, 87, 1, 1], []) := zz_fetch_of p12 rfl rfl
theorem s12_35 : zz_Run zz_prog d 12 (35, [l0, l1], [.ref 5], k, (zz_hp n I J ex)) = zz_ret (zz_Call zz_prog d 87 [.ref 5] (zz_hp n I J ex)) (fun v k' h' => zz_Run zz_prog d 12 (38, [l0, l1], v.toList ++ [], k && k', h')) (fun a k' h' => zz_th d 12 35 a [l0, l1] (k && k') h') := zz_k_call f12_35 rfl rfl rfl
theorem f12_38 : zz_fetch zz_prog 12 38 = some (.aload_n 0, 1, [], []) := zz_fetch_of p12 rfl rfl
theorem s12_38 : zz_Run zz_prog d 12 (38, [some (.ref a), l1], st, k, h) = zz_Run zz_prog d 12 (39, [some (.ref a), l1], .ref a :: st, k, h) := zz_k_num f12_38 rfl
theorem f12_39 : zz_fetch zz_prog 12 39 = some (.iconst 3, 1, [], []) := zz_fetch_of p12 rfl rfl
theorem s12_39 : zz_Run zz_prog d 12 (39, [l0, l1], st, k, h) = zz_Run zz_prog d 12 (40, [l0, l1], .int 3 :: st, k, h) := zz_k_num f12_39 rfl
theorem f12_40 : zz_fetch zz_prog 12 40 = some (.invokevirtual 182, 3, [0, 46, 2, 1], []) := zz_fetch_of p12 rfl rfl
theorem s12_40 : zz_Run zz_prog d 12 (40, [l0, l1], [b0, .ref 5], k, (zz_hp n I J ex)) = zz_ret (zz_Call zz_prog d 46 [.ref 5, b0] (zz_hp n I J ex)) (fun v k' h' => zz_Run zz_prog d 12 (43, [l0, l1], v.toList ++ [], k && k', h')) (fun a k' h' => zz_th d 12 40 a [l0, l1] (k && k') h') := zz_k_call f12_40 rfl rfl rfl
theorem f12_43 : zz_fetch zz_prog 12 43 = some (.aload_n 0, 1, [], []) := zz_fetch_of p12 rfl rfl
theorem s12_43 : zz_Run zz_prog d 12 (43, [some (.ref a), l1], st, k, h) = zz_Run zz_prog d 12 (44, [some (.ref a), l1], .ref a :: st, k, h) := zz_k_num f12_43 rfl
theorem f12_44 : zz_fetch zz_prog 12 44 = some (.aload_n 0, 1, [], []) := zz_fetch_of p12 rfl rfl
theorem s12_44 : zz_Run zz_prog d 12 (44, [some (.ref a), l1], st, k, h) = zz_Run zz_prog d 12 (45, [some (.ref a), l1], .ref a :: st, k, h) := zz_k_num f12_44 rfl
theorem f12_45 : zz_fetch zz_prog 12 45 = some (.getfield 28, 3, [1, 7, 3], []) := zz_fetch_of p12 rfl rfl
theorem s12_45 : zz_Run zz_prog d 12 (45, [l0, l1], .ref 5 :: st, k, (zz_hp n I J ex)) = zz_Run zz_prog d 12 (48, [l0, l1], .ref 9 :: st, k, (zz_hp n I J ex)) := zz_k_go f12_45 rfl rfl rfl
theorem f12_48 : zz_fetch zz_prog 12 48 = some (.getfield 176, 3, [0, 5, 0], []) := zz_fetch_of p12 rfl rfl
theorem s12_48 : zz_Run zz_prog d 12 (48, [l0, l1], .ref 9 :: st, k, (zz_hp n I J ex)) = zz_Run zz_prog d 12 (51, [l0, l1], .int (I 9 5) :: st, k, (zz_hp n I J ex)) := zz_k_go f12_48 rfl rfl rfl
theorem s12_48b : zz_Run zz_prog d 12 (48, [l0, l1], .ref 16 :: st, k, (zz_hp n I J ex)) = zz_Run zz_prog d 12 (51, [l0, l1], .int (I 16 5) :: st, k, (zz_hp n I J ex)) := zz_k_go f12_48 rfl rfl rfl
theorem f12_51 : zz_fetch zz_prog 12 51 = some (.invokevirtual 185, 3, [0, 76, 2, 1], []) := zz_fetch_of p12 rfl rfl
theorem s12_51 : zz_Run zz_prog d 12 (51, [l0, l1], [b0, .ref 5], k, (zz_hp n I J ex)) = zz_ret (zz_Call zz_prog d 76 [.ref 5, b0] (zz_hp n I J ex)) (fun v k' h' => zz_Run zz_prog d 12 (54, [l0, l1], v.toList ++ [], k && k', h')) (fun a k' h' => zz_th d 12 51 a [l0, l1] (k && k') h') := zz_k_call f12_51 rfl rfl rfl
theorem f12_54 : zz_fetch zz_prog 12 54 = some (.istore_n 1, 1, [], []) := zz_fetch_of p12 rfl rfl
theorem s12_54 : zz_Run zz_prog d 12 (54, [l0, l1], .int v :: st, k, h) = zz_sl l0 (zz_Run zz_prog d 12 (55, [l0, some (.int v)], st, k, h)) := zz_k_st (j := 1) (u := .int v) f12_54 rfl (fun q hq => by cases hq) rfl (show 1 < 2 by decide) (by cases l0 <;> rfl) rfl
theorem f12_55 : zz_fetch zz_prog 12 55 = some (.aload_n 0, 1, [], []) := zz_fetch_of p12 rfl rfl
theorem s12_55 : zz_Run zz_prog d 12 (55, [some (.ref a), l1], st, k, h) = zz_Run zz_prog d 12 (56, [some (.ref a), l1], .ref a :: st, k, h) := zz_k_num f12_55 rfl
theorem f12_56 : zz_fetch zz_prog 12 56 = some (.getfield 28, 3, [1, 7, 3], []) := zz_fetch_of p12 rfl rfl
theorem s12_56 : zz_Run zz_prog d 12 (56, [l0, l1], .ref 5 :: st, k, (zz_hp n I J ex)) = zz_Run zz_prog d 12 (59, [l0, l1], .ref 9 :: st, k, (zz_hp n I J ex)) := zz_k_go f12_56 rfl rfl rfl
theorem f12_59 : zz_fetch zz_prog 12 59 = some (.dup, 1, [], []) := zz_fetch_of p12 rfl rfl
theorem s12_59 : zz_Run zz_prog d 12 (59, [l0, l1], .ref a :: st, k, h) = zz_Run zz_prog d 12 (60, [l0, l1], .ref a :: .ref a :: st, k, h) := zz_k_num f12_59 rfl
theorem f12_60 : zz_fetch zz_prog 12 60 = some (.getfield 176, 3, [0, 5, 0], []) := zz_fetch_of p12 rfl rfl
theorem s12_60 : zz_Run zz_prog d 12 (60, [l0, l1], .ref 9 :: st, k, (zz_hp n I J ex)) = zz_Run zz_prog d 12 (63, [l0, l1], .int (I 9 5) :: st, k, (zz_hp n I J ex)) := zz_k_go f12_60 rfl rfl rfl
theorem s12_60b : zz_Run zz_prog d 12 (60, [l0, l1], .ref 16 :: st, k, (zz_hp n I J ex)) = zz_Run zz_prog d 12 (63, [l0, l1], .int (I 16 5) :: st, k, (zz_hp n I J ex)) := zz_k_go f12_60 rfl rfl rfl
theorem f12_63 : zz_fetch zz_prog 12 63 = some (.iconst 1, 1, [], []) := zz_fetch_of p12 rfl rfl
theorem s12_63 : zz_Run zz_prog d 12 (63, [l0, l1], st, k, h) = zz_Run zz_prog d 12 (64, [l0, l1], .int 1 :: st, k, h) := zz_k_num f12_63 rfl
theorem f12_64 : zz_fetch zz_prog 12 64 = some (.iadd, 1, [], []) := zz_fetch_of p12 rfl rfl
theorem s12_64 : zz_Run zz_prog d 12 (64, [l0, l1], .int w :: .int v :: st, k, h) = zz_Run zz_prog d 12 (65, [l0, l1], .int (v + w) :: st, k, h) := zz_k_num f12_64 rfl
theorem f12_65 : zz_fetch zz_prog 12 65 = some (.putfield 176, 3, [0, 5, 0], []) := zz_fetch_of p12 rfl rfl
theorem s12_65 : zz_Run zz_prog d 12 (65, [l0, l1], .int v :: .ref 9 :: st, k, (zz_hp n I J ex)) = zz_Run zz_prog d 12 (68, [l0, l1], st, false, (zz_hp n (zz_up I 9 5 v) J ex)) := zz_k_go f12_65 rfl rfl rfl
theorem s12_65b : zz_Run zz_prog d 12 (65, [l0, l1], .int v :: .ref 16 :: st, k, (zz_hp n I J ex)) = zz_Run zz_prog d 12 (68, [l0, l1], st, false, (zz_hp n (zz_up I 16 5 v) J ex)) := zz_k_go f12_65 rfl rfl rfl
theorem f12_68 : zz_fetch zz_prog 12 68 = some (.aload_n 0, 1, [], []) := zz_fetch_of p12 rfl rfl
theorem s12_68 : zz_Run zz_prog d 12 (68, [some (.ref a), l1], st, k, h) = zz_Run zz_prog d 12 (69, [some (.ref a), l1], .ref a :: st, k, h) := zz_k_num f12_68 rfl
theorem f12_69 : zz_fetch zz_prog 12 69 = some (.getfield 28, 3, [1, 7, 3], []) := zz_fetch_of p12 rfl rfl
theorem s12_69 : zz_Run zz_prog d 12 (69, [l0, l1], .ref 5 :: st, k, (zz_hp n I J ex)) = zz_Run zz_prog d 12 (72, [l0, l1], .ref 9 :: st, k, (zz_hp n I J ex)) := zz_k_go f12_69 rfl rfl rfl
theorem f12_72 : zz_fetch zz_prog 12 72 = some (.getfield 188, 3, [0, 15, 3], []) := zz_fetch_of p12 rfl rfl
theorem s12_72 : zz_Run zz_prog d 12 (72, [l0, l1], .ref 9 :: st, k, (zz_hp n I J ex)) = zz_Run zz_prog d 12 (75, [l0, l1], .ref 13 :: st, k, (zz_hp n I J ex)) := zz_k_go f12_72 rfl rfl rfl
theorem s12_72b : zz_Run zz_prog d 12 (72, [l0, l1], .ref 16 :: st, k, (zz_hp n I J ex)) = zz_Run zz_prog d 12 (75, [l0, l1], .ref 20 :: st, k, (zz_hp n I J ex)) := zz_k_go f12_72 rfl rfl rfl
theorem f12_75 : zz_fetch zz_prog 12 75 = some (.aload_n 0, 1, [], []) := zz_fetch_of p12 rfl rfl
theorem s12_75 : zz_Run zz_prog d 12 (75, [some (.ref a), l1], st, k, h) = zz_Run zz_prog d 12 (76, [some (.ref a), l1], .ref a :: st, k, h) := zz_k_num f12_75 rfl
theorem f12_76 : zz_fetch zz_prog 12 76 = some (.getfield 28, 3, [1, 7, 3], []) := zz_fetch_of p12 rfl rfl
theorem s12_76 : zz_Run zz_prog d 12 (76, [l0, l1], .ref 5 :: st, k, (zz_hp n I J ex)) = zz_Run zz_prog d 12 (79, [l0, l1], .ref 9 :: st, k, (zz_hp n I J ex)) := zz_k_go f12_76 rfl rfl rfl
theorem f12_79 : zz_fetch zz_prog 12 79 = some (.getfield 86, 3, [0, 1, 0], []) := zz_fetch_of p12 rfl rfl
theorem s12_79 : zz_Run zz_prog d 12 (79, [l0, l1], .ref 9 :: st, k, (zz_hp n I J ex)) = zz_Run zz_prog d 12 (82, [l0, l1], .int (I 9 1) :: st, k, (zz_hp n I J ex)) := zz_k_go f12_79 rfl rfl rfl
theorem s12_79b : zz_Run zz_prog d 12 (79, [l0, l1], .ref 16 :: st, k, (zz_hp n I J ex)) = zz_Run zz_prog d 12 (82, [l0, l1], .int (I 16 1) :: st, k, (zz_hp n I J ex)) := zz_k_go f12_79 rfl rfl rfl
theorem f12_82 : zz_fetch zz_prog 12 82 = some (.iconst 5, 1, [], []) := zz_fetch_of p12 rfl rfl
theorem s12_82 : zz_Run zz_prog d 12 (82, [l0, l1], st, k, h) = zz_Run zz_prog d 12 (83, [l0, l1], .int 5 :: st, k, h) := zz_k_num f12_82 rfl
theorem f12_83 : zz_fetch zz_prog 12 83 = some (.imul, 1, [], []) := zz_fetch_of p12 rfl rfl
theorem s12_83 : zz_Run zz_prog d 12 (83, [l0, l1], .int w :: .int v :: st, k, h) = zz_Run zz_prog d 12 (84, [l0, l1], .int (v * w) :: st, k, h) := zz_k_num f12_83 rfl
theorem f12_84 : zz_fetch zz_prog 12 84 = some (.iload_n 1, 1, [], []) := zz_fetch_of p12 rfl rfl
theorem s12_84 : zz_Run zz_prog d 12 (84, [l0, some (.int v)], st, k, h) = zz_Run zz_prog d 12 (85, [l0, some (.int v)], .int v :: st, k, h) := zz_k_num f12_84 rfl
theorem f12_85 : zz_fetch zz_prog 12 85 = some (.iadd, 1, [], []) := zz_fetch_of p12 rfl rfl
theorem s12_85 : zz_Run zz_prog d 12 (85, [l0, l1], .int w :: .int v :: st, k, h) = zz_Run zz_prog d 12 (86, [l0, l1], .int (v + w) :: st, k, h) := zz_k_num f12_85 rfl
theorem f12_86 : zz_fetch zz_prog 12 86 = some (.dup2, 1, [], []) := zz_fetch_of p12 rfl rfl
theorem s12_86 : zz_Run zz_prog d 12 (86, [l0, l1], .int v :: .ref a1 :: st, k, h) = zz_Run zz_prog d 12 (87, [l0, l1], .int v :: .ref a1 :: .int v :: .ref a1 :: st, k, h) := zz_k_num f12_86 rfl
theorem f12_87 : zz_fetch zz_prog 12 87 = some (.iaload, 1, [], []) := zz_fetch_of p12 rfl rfl
theorem s12_87 (ha : zz_isrd a = true) : zz_Run zz_prog d 12 (87, [l0, l1], .int v :: .ref a :: st, k, (zz_hp n I J ex)) = zz_ck (zz_in v (zz_ary n a)) (zz_Run zz_prog d 12 (88, [l0, l1], .int (I a v.toNatClampNeg) :: st, k, (zz_hp n I J ex))) := zz_k_iald f12_87 ha
theorem f12_88 : zz_fetch zz_prog 12 88 = some (.iconst 1, 1, [], []) := zz_fetch_of p12 rfl rfl
theorem s12_88 : zz_Run zz_prog d 12 (88, [l0, l1], st, k, h) = zz_Run zz_prog d 12 (89, [l0, l1], .int 1 :: st, k, h) := zz_k_num f12_88 rfl
theorem f12_89 : zz_fetch zz_prog 12 89 = some (.iadd, 1, [], []) := zz_fetch_of p12 rfl rfl
theorem s12_89 : zz_Run zz_prog d 12 (89, [l0, l1], .int w :: .int v :: st, k, h) = zz_Run zz_prog d 12 (90, [l0, l1], .int (v + w) :: st, k, h) := zz_k_num f12_89 rfl
theorem f12_90 : zz_fetch zz_prog 12 90 = some (.iastore, 1, [], []) := zz_fetch_of p12 rfl rfl
theorem s12_90 (ha : zz_isar a = true) : zz_Run zz_prog d 12 (90, [l0, l1], .int w :: .int v :: .ref a :: st, k, (zz_hp n I J ex)) = zz_ck (zz_in v (zz_ary n a)) (zz_Run zz_prog d 12 (91, [l0, l1], st, false, (zz_hp n (zz_up I a v.toNatClampNeg w) J ex))) := zz_k_iast f12_90 ha
theorem f12_91 : zz_fetch zz_prog 12 91 = some (.aload_n 0, 1, [], []) := zz_fetch_of p12 rfl rfl
theorem s12_91 : zz_Run zz_prog d 12 (91, [some (.ref a), l1], st, k, h) = zz_Run zz_prog d 12 (92, [some (.ref a), l1], .ref a :: st, k, h) := zz_k_num f12_91 rfl
theorem f12_92 : zz_fetch zz_prog 12 92 = some (.getfield 28, 3, [1, 7, 3], []) := zz_fetch_of p12 rfl rfl
theorem s12_92 : zz_Run zz_prog d 12 (92, [l0, l1], .ref 5 :: st, k, (zz_hp n I J ex)) = zz_Run zz_prog d 12 (95, [l0, l1], .ref 9 :: st, k, (zz_hp n I J ex)) := zz_k_go f12_92 rfl rfl rfl
theorem f12_95 : zz_fetch zz_prog 12 95 = some (.getfield 191, 3, [0, 16, 3], []) := zz_fetch_of p12 rfl rfl
theorem s12_95 : zz_Run zz_prog d 12 (95, [l0, l1], .ref 9 :: st, k, (zz_hp n I J ex)) = zz_Run zz_prog d 12 (98, [l0, l1], .ref 14 :: st, k, (zz_hp n I J ex)) := zz_k_go f12_95 rfl rfl rfl
theorem s12_95b : zz_Run zz_prog d 12 (95, [l0, l1], .ref 16 :: st, k, (zz_hp n I J ex)) = zz_Run zz_prog d 12 (98, [l0, l1], .ref 21 :: st, k, (zz_hp n I J ex)) := zz_k_go f12_95 rfl rfl rfl
theorem f12_98 : zz_fetch zz_prog 12 98 = some (.iload_n 1, 1, [], []) := zz_fetch_of p12 rfl rfl
theorem s12_98 : zz_Run zz_prog d 12 (98, [l0, some (.int v)], st, k, h) = zz_Run zz_prog d 12 (99, [l0, some (.int v)], .int v :: st, k, h) := zz_k_num f12_98 rfl
theorem f12_99 : zz_fetch zz_prog 12 99 = some (.dup2, 1, [], []) := zz_fetch_of p12 rfl rfl
theorem s12_99 : zz_Run zz_prog d 12 (99, [l0, l1], .int v :: .ref a1 :: st, k, h) = zz_Run zz_prog d 12 (100, [l0, l1], .int v :: .ref a1 :: .int v :: .ref a1 :: st, k, h) := zz_k_num f12_99 rfl
theorem f12_100 : zz_fetch zz_prog 12 100 = some (.iaload, 1, [], []) := zz_fetch_of p12 rfl rfl
theorem s12_100 (ha : zz_isrd a = true) : zz_Run zz_prog d 12 (100, [l0, l1], .int v :: .ref a :: st, k, (zz_hp n I J ex)) = zz_ck (zz_in v (zz_ary n a)) (zz_Run zz_prog d 12 (101, [l0, l1], .int (I a v.toNatClampNeg) :: st, k, (zz_hp n I J ex))) := zz_k_iald f12_100 ha
theorem f12_101 : zz_fetch zz_prog 12 101 = some (.iconst 1, 1, [], []) := zz_fetch_of p12 rfl rfl
theorem s12_101 : zz_Run zz_prog d 12 (101, [l0, l1], st, k, h) = zz_Run zz_prog d 12 (102, [l0, l1], .int 1 :: st, k, h) := zz_k_num f12_101 rfl
theorem f12_102 : zz_fetch zz_prog 12 102 = some (.iadd, 1, [], []) := zz_fetch_of p12 rfl rfl
theorem s12_102 : zz_Run zz_prog d 12 (102, [l0, l1], .int w :: .int v :: st, k, h) = zz_Run zz_prog d 12 (103, [l0, l1], .int (v + w) :: st, k, h) := zz_k_num f12_102 rfl
theorem f12_103 : zz_fetch zz_prog 12 103 = some (.iastore, 1, [], []) := zz_fetch_of p12 rfl rfl
theorem s12_103 (ha : zz_isar a = true) : zz_Run zz_prog d 12 (103, [l0, l1], .int w :: .int v :: .ref a :: st, k, (zz_hp n I J ex)) = zz_ck (zz_in v (zz_ary n a)) (zz_Run zz_prog d 12 (104, [l0, l1], st, false, (zz_hp n (zz_up I a v.toNatClampNeg w) J ex))) := zz_k_iast f12_103 ha
theorem f12_104 : zz_fetch zz_prog 12 104 = some (.aload_n 0, 1, [], []) := zz_fetch_of p12 rfl rfl
theorem s12_104 : zz_Run zz_prog d 12 (104, [some (.ref a), l1], st, k, h) = zz_Run zz_prog d 12 (105, [some (.ref a), l1], .ref a :: st, k, h) := zz_k_num f12_104 rfl
theorem f12_105 : zz_fetch zz_prog 12 105 = some (.invokevirtual 111, 3, [0, 86, 1, 1], []) := zz_fetch_of p12 rfl rfl
theorem s12_105 : zz_Run zz_prog d 12 (105, [l0, l1], [.ref 5], k, (zz_hp n I J ex)) = zz_ret (zz_Call zz_prog d 86 [.ref 5] (zz_hp n I J ex)) (fun v k' h' => zz_Run zz_prog d 12 (108, [l0, l1], v.toList ++ [], k && k', h')) (fun a k' h' => zz_th d 12 105 a [l0, l1] (k && k') h') := zz_k_call f12_105 rfl rfl rfl
theorem f12_108 : zz_fetch zz_prog 12 108 = some (.bipush 16, 2, [], []) := zz_fetch_of p12 rfl rfl
theorem s12_108 : zz_Run zz_prog d 12 (108, [l0, l1], st, k, h) = zz_Run zz_prog d 12 (110, [l0, l1], .int 16 :: st, k, h) := zz_k_num f12_108 (congrArg (fun u => some (110, [l0, l1], Value.int u :: st)) (by decide : (Int8.ofInt 16).toInt32 = 16))
theorem f12_110 : zz_fetch zz_prog 12 110 = some (.aload_n 0, 1, [], []) := zz_fetch_of p12 rfl rfl
theorem s12_110 : zz_Run zz_prog d 12 (110, [some (.ref a), l1], st, k, h) = zz_Run zz_prog d 12 (111, [some (.ref a), l1], .ref a :: st, k, h) := zz_k_num f12_110 rfl
theorem f12_111 : zz_fetch zz_prog 12 111 = some (.getfield 28, 3, [1, 7, 3], []) := zz_fetch_of p12 rfl rfl
theorem s12_111 : zz_Run zz_prog d 12 (111, [l0, l1], .ref 5 :: st, k, (zz_hp n I J ex)) = zz_Run zz_prog d 12 (114, [l0, l1], .ref 9 :: st, k, (zz_hp n I J ex)) := zz_k_go f12_111 rfl rfl rfl
theorem f12_114 : zz_fetch zz_prog 12 114 = some (.getfield 176, 3, [0, 5, 0], []) := zz_fetch_of p12 rfl rfl
theorem s12_114 : zz_Run zz_prog d 12 (114, [l0, l1], .ref 9 :: st, k, (zz_hp n I J ex)) = zz_Run zz_prog d 12 (117, [l0, l1], .int (I 9 5) :: st, k, (zz_hp n I J ex)) := zz_k_go f12_114 rfl rfl rfl
theorem s12_114b : zz_Run zz_prog d 12 (114, [l0, l1], .ref 16 :: st, k, (zz_hp n I J ex)) = zz_Run zz_prog d 12 (117, [l0, l1], .int (I 16 5) :: st, k, (zz_hp n I J ex)) := zz_k_go f12_114 rfl rfl rfl
theorem f12_117 : zz_fetch zz_prog 12 117 = some (.isub, 1, [], []) := zz_fetch_of p12 rfl rfl
theorem s12_117 : zz_Run zz_prog d 12 (117, [l0, l1], .int w :: .int v :: st, k, h) = zz_Run zz_prog d 12 (118, [l0, l1], .int (v - w) :: st, k, h) := zz_k_num f12_117 rfl
theorem f12_118 : zz_fetch zz_prog 12 118 = some (.ireturn, 1, [0], []) := zz_fetch_of p12 rfl rfl
theorem s12_118 : zz_Run zz_prog d 12 (118, [l0, l1], [.int v], k, h) = some (.inl (some (.int v)), k, h) := zz_k_stop f12_118 rfl rfl rfl
end S12
section S13
variable {d n j : Nat} {l0 l1 l2 l3 : Option Value} {st : List Value} {k : Bool} {h : zz_H} {v w v1 v2 : Int32} {y y1 : Int64} {a a1 a2 : Nat} {b0 b1 b2 b3 b4 b5 b6 b7 b8 : Value} {I : Nat → Nat → Int32} {J : Nat → Nat → Int64} {ex : List (Nat × Nat)}
theorem p13 : zz_prog 13 = some zz_m13 := rfl
theorem e13 (g0 : Nat) (g1 : Int32) (g2 : Int32) (g3 : Int32) : zz_Call zz_prog (d + 1) 13 [.ref g0, .int g1, .int g2, .int g3] h = zz_Run zz_prog d 13 (0, [some (.ref g0), some (.int g1), some (.int g2), some (.int g3)], [], true, h) := rfl
theorem t13 (pc : Nat) (L : List (Option Value)) : zz_th d 13 pc a L k h = some (.inr a, k, h) := zz_th_out p13 rfl
theorem f13_0 : zz_fetch zz_prog 13 0 = some (.iload_n 1, 1, [], []) := zz_fetch_of p13 rfl rfl
theorem s13_0 : zz_Run zz_prog d 13 (0, [l0, some (.int v), l2, l3], st, k, h) = zz_Run zz_prog d 13 (1, [l0, some (.int v), l2, l3], .int v :: st, k, h) := zz_k_num f13_0 rfl
theorem f13_1 : zz_fetch zz_prog 13 1 = some (.iload_n 2, 1, [], []) := zz_fetch_of p13 rfl rfl
theorem s13_1 : zz_Run zz_prog d 13 (1, [l0, l1, some (.int v), l3], st, k, h) = zz_Run zz_prog d 13 (2, [l0, l1, some (.int v), l3], .int v :: st, k, h) := zz_k_num f13_1 rfl
theorem f13_2 : zz_fetch zz_prog 13 2 = some (.iload_n 3, 1, [], []) := zz_fetch_of p13 rfl rfl
theorem s13_2 : zz_Run zz_prog d 13 (2, [l0, l1, l2, some (.int v)], st, k, h) = zz_Run zz_prog d 13 (3, [l0, l1, l2, some (.int v)], .int v :: st, k, h) := zz_k_num f13_2 rfl
theorem f13_3 : zz_fetch zz_prog 13 3 = some (.invokestatic 194, 3, [0, 36, 3], []) := zz_fetch_of p13 rfl rfl
theorem s13_3 : zz_Run zz_prog d 13 (3, [l0, l1, l2, l3], [b0, b1, b2], k, h) = zz_ret (zz_Call zz_prog d 36 [b2, b1, b0] h) (fun v k' h' => zz_Run zz_prog d 13 (6, [l0, l1, l2, l3], v.toList ++ [], k && k', h')) (fun a k' h' => zz_th d 13 3 a [l0, l1, l2, l3] (k && k') h') := zz_k_call f13_3 rfl rfl rfl
theorem f13_6 : zz_fetch zz_prog 13 6 = some (.ifCond .ne 11, 3, [17], []) := zz_fetch_of p13 rfl rfl
theorem s13_6 : zz_Run zz_prog d 13 (6, [l0, l1, l2, l3], .int v :: st, k, h) = if ¬ v = 0 then zz_Run zz_prog d 13 (17, [l0, l1, l2, l3], st, k, h) else zz_Run zz_prog d 13 (9, [l0, l1, l2, l3], st, k, h) := zz_k_br (¬ v = 0) rfl (zz_k_num f13_6 rfl)
theorem f13_9 : zz_fetch zz_prog 13 9 = some (.new 47, 3, [4, 4], []) := zz_fetch_of p13 rfl rfl
theorem s13_9 : zz_Run zz_prog d 13 (9, [l0, l1, l2, l3], [], true, (zz_hp n I J ex)) = some (.inr (zz_exa ex), false, zz_hp n I J (ex ++ [(4, 4)])) := zz_k_throw f13_9 (by simp)
theorem f13_17 : zz_fetch zz_prog 13 17 = some (.aload_n 0, 1, [], []) := zz_fetch_of p13 rfl rfl
theorem s13_17 : zz_Run zz_prog d 13 (17, [some (.ref a), l1, l2, l3], st, k, h) = zz_Run zz_prog d 13 (18, [some (.ref a), l1, l2, l3], .ref a :: st, k, h) := zz_k_num f13_17 rfl
theorem f13_18 : zz_fetch zz_prog 13 18 = some (.bipush 6, 2, [], []) := zz_fetch_of p13 rfl rfl
theorem s13_18 : zz_Run zz_prog d 13 (18, [l0, l1, l2, l3], st, k, h) = zz_Run zz_prog d 13 (20, [l0, l1, l2, l3], .int 6 :: st, k, h) := zz_k_num f13_18 (congrArg (fun u => some (20, [l0, l1, l2, l3], Value.int u :: st)) (by decide : (Int8.ofInt 6).toInt32 = 6))
theorem f13_20 : zz_fetch zz_prog 13 20 = some (.invokevirtual 35, 3, [0, 27, 2, 1], []) := zz_fetch_of p13 rfl rfl
theorem s13_20 : zz_Run zz_prog d 13 (20, [l0, l1, l2, l3], [b0, .ref 5], k, (zz_hp n I J ex)) = zz_ret (zz_Call zz_prog d 27 [.ref 5, b0] (zz_hp n I J ex)) (fun v k' h' => zz_Run zz_prog d 13 (23, [l0, l1, l2, l3], v.toList ++ [], k && k', h')) (fun a k' h' => zz_th d 13 20 a [l0, l1, l2, l3] (k && k') h') := zz_k_call f13_20 rfl rfl rfl
theorem f13_23 : zz_fetch zz_prog 13 23 = some (.aload_n 0, 1, [], []) := zz_fetch_of p13 rfl rfl
theorem s13_23 : zz_Run zz_prog d 13 (23, [some (.ref a), l1, l2, l3], st, k, h) = zz_Run zz_prog d 13 (24, [some (.ref a), l1, l2, l3], .ref a :: st, k, h) := zz_k_num f13_23 rfl
theorem f13_24 : zz_fetch zz_prog 13 24 = some (.iload_n 1, 1, [], []) := zz_fetch_of p13 rfl rfl
theorem s13_24 : zz_Run zz_prog d 13 (24, [l0, some (.int v), l2, l3], st, k, h) = zz_Run zz_prog d 13 (25, [l0, some (.int v), l2, l3], .int v :: st, k, h) := zz_k_num f13_24 rfl
theorem f13_25 : zz_fetch zz_prog 13 25 = some (.iload_n 2, 1, [], []) := zz_fetch_of p13 rfl rfl
theorem s13_25 : zz_Run zz_prog d 13 (25, [l0, l1, some (.int v), l3], st, k, h) = zz_Run zz_prog d 13 (26, [l0, l1, some (.int v), l3], .int v :: st, k, h) := zz_k_num f13_25 rfl
theorem f13_26 : zz_fetch zz_prog 13 26 = some (.iload_n 3, 1, [], []) := zz_fetch_of p13 rfl rfl
theorem s13_26 : zz_Run zz_prog d 13 (26, [l0, l1, l2, some (.int v)], st, k, h) = zz_Run zz_prog d 13 (27, [l0, l1, l2, some (.int v)], .int v :: st, k, h) := zz_k_num f13_26 rfl
theorem f13_27 : zz_fetch zz_prog 13 27 = some (.invokevirtual 198, 3, [0, 77, 4, 1], []) := zz_fetch_of p13 rfl rfl
theorem s13_27 : zz_Run zz_prog d 13 (27, [l0, l1, l2, l3], [b0, b1, b2, .ref 5], k, (zz_hp n I J ex)) = zz_ret (zz_Call zz_prog d 77 [.ref 5, b2, b1, b0] (zz_hp n I J ex)) (fun v k' h' => zz_Run zz_prog d 13 (30, [l0, l1, l2, l3], v.toList ++ [], k && k', h')) (fun a k' h' => zz_th d 13 27 a [l0, l1, l2, l3] (k && k') h') := zz_k_call f13_27 rfl rfl rfl
theorem f13_30 : zz_fetch zz_prog 13 30 = some (.ifCond .ne 11, 3, [41], []) := zz_fetch_of p13 rfl rfl
theorem s13_30 : zz_Run zz_prog d 13 (30, [l0, l1, l2, l3], .int v :: st, k, h) = if ¬ v = 0 then zz_Run zz_prog d 13 (41, [l0, l1, l2, l3], st, k, h) else zz_Run zz_prog d 13 (33, [l0, l1, l2, l3], st, k, h) := zz_k_br (¬ v = 0) rfl (zz_k_num f13_30 rfl)
theorem f13_33 : zz_fetch zz_prog 13 33 = some (.new 54, 3, [4, 3], []) := zz_fetch_of p13 rfl rfl
theorem s13_33 : zz_Run zz_prog d 13 (33, [l0, l1, l2, l3], [], true, (zz_hp n I J ex)) = some (.inr (zz_exa ex), false, zz_hp n I J (ex ++ [(4, 3)])) := zz_k_throw f13_33 (by simp)
theorem f13_41 : zz_fetch zz_prog 13 41 = some (.aload_n 0, 1, [], []) := zz_fetch_of p13 rfl rfl
theorem s13_41 : zz_Run zz_prog d 13 (41, [some (.ref a), l1, l2, l3], st, k, h) = zz_Run zz_prog d 13 (42, [some (.ref a), l1, l2, l3], .ref a :: st, k, h) := zz_k_num f13_41 rfl
theorem f13_42 : zz_fetch zz_prog 13 42 = some (.invokevirtual 98, 3, [0, 87, 1, 1], []) := zz_fetch_of p13 rfl rfl
theorem s13_42 : zz_Run zz_prog d 13 (42, [l0, l1, l2, l3], [.ref 5], k, (zz_hp n I J ex)) = zz_ret (zz_Call zz_prog d 87 [.ref 5] (zz_hp n I J ex)) (fun v k' h' => zz_Run zz_prog d 13 (45, [l0, l1, l2, l3], v.toList ++ [], k && k', h')) (fun a k' h' => zz_th d 13 42 a [l0, l1, l2, l3] (k && k') h') := zz_k_call f13_42 rfl rfl rfl
theorem f13_45 : zz_fetch zz_prog 13 45 = some (.aload_n 0, 1, [], []) := zz_fetch_of p13 rfl rfl
theorem s13_45 : zz_Run zz_prog d 13 (45, [some (.ref a), l1, l2, l3], st, k, h) = zz_Run zz_prog d 13 (46, [some (.ref a), l1, l2, l3], .ref a :: st, k, h) := zz_k_num f13_45 rfl
theorem f13_46 : zz_fetch zz_prog 13 46 = some (.getfield 28, 3, [1, 7, 3], []) := zz_fetch_of p13 rfl rfl
theorem s13_46 : zz_Run zz_prog d 13 (46, [l0, l1, l2, l3], .ref 5 :: st, k, (zz_hp n I J ex)) = zz_Run zz_prog d 13 (49, [l0, l1, l2, l3], .ref 9 :: st, k, (zz_hp n I J ex)) := zz_k_go f13_46 rfl rfl rfl
theorem f13_49 : zz_fetch zz_prog 13 49 = some (.getfield 188, 3, [0, 15, 3], []) := zz_fetch_of p13 rfl rfl
theorem s13_49 : zz_Run zz_prog d 13 (49, [l0, l1, l2, l3], .ref 9 :: st, k, (zz_hp n I J ex)) = zz_Run zz_prog d 13 (52, [l0, l1, l2, l3], .ref 13 :: st, k, (zz_hp n I J ex)) := zz_k_go f13_49 rfl rfl rfl
theorem s13_49b : zz_Run zz_prog d 13 (49, [l0, l1, l2, l3], .ref 16 :: st, k, (zz_hp n I J ex)) = zz_Run zz_prog d 13 (52, [l0, l1, l2, l3], .ref 20 :: st, k, (zz_hp n I J ex)) := zz_k_go f13_49 rfl rfl rfl
theorem f13_52 : zz_fetch zz_prog 13 52 = some (.aload_n 0, 1, [], []) := zz_fetch_of p13 rfl rfl
theorem s13_52 : zz_Run zz_prog d 13 (52, [some (.ref a), l1, l2, l3], st, k, h) = zz_Run zz_prog d 13 (53, [some (.ref a), l1, l2, l3], .ref a :: st, k, h) := zz_k_num f13_52 rfl
theorem f13_53 : zz_fetch zz_prog 13 53 = some (.getfield 28, 3, [1, 7, 3], []) := zz_fetch_of p13 rfl rfl
theorem s13_53 : zz_Run zz_prog d 13 (53, [l0, l1, l2, l3], .ref 5 :: st, k, (zz_hp n I J ex)) = zz_Run zz_prog d 13 (56, [l0, l1, l2, l3], .ref 9 :: st, k, (zz_hp n I J ex)) := zz_k_go f13_53 rfl rfl rfl
theorem f13_56 : zz_fetch zz_prog 13 56 = some (.getfield 86, 3, [0, 1, 0], []) := zz_fetch_of p13 rfl rfl
theorem s13_56 : zz_Run zz_prog d 13 (56, [l0, l1, l2, l3], .ref 9 :: st, k, (zz_hp n I J ex)) = zz_Run zz_prog d 13 (59, [l0, l1, l2, l3], .int (I 9 1) :: st, k, (zz_hp n I J ex)) := zz_k_go f13_56 rfl rfl rfl
theorem s13_56b : zz_Run zz_prog d 13 (56, [l0, l1, l2, l3], .ref 16 :: st, k, (zz_hp n I J ex)) = zz_Run zz_prog d 13 (59, [l0, l1, l2, l3], .int (I 16 1) :: st, k, (zz_hp n I J ex)) := zz_k_go f13_56 rfl rfl rfl
theorem f13_59 : zz_fetch zz_prog 13 59 = some (.iconst 5, 1, [], []) := zz_fetch_of p13 rfl rfl
theorem s13_59 : zz_Run zz_prog d 13 (59, [l0, l1, l2, l3], st, k, h) = zz_Run zz_prog d 13 (60, [l0, l1, l2, l3], .int 5 :: st, k, h) := zz_k_num f13_59 rfl
theorem f13_60 : zz_fetch zz_prog 13 60 = some (.imul, 1, [], []) := zz_fetch_of p13 rfl rfl
theorem s13_60 : zz_Run zz_prog d 13 (60, [l0, l1, l2, l3], .int w :: .int v :: st, k, h) = zz_Run zz_prog d 13 (61, [l0, l1, l2, l3], .int (v * w) :: st, k, h) := zz_k_num f13_60 rfl
theorem f13_61 : zz_fetch zz_prog 13 61 = some (.iload_n 1, 1, [], []) := zz_fetch_of p13 rfl rfl
theorem s13_61 : zz_Run zz_prog d 13 (61, [l0, some (.int v), l2, l3], st, k, h) = zz_Run zz_prog d 13 (62, [l0, some (.int v), l2, l3], .int v :: st, k, h) := zz_k_num f13_61 rfl
theorem f13_62 : zz_fetch zz_prog 13 62 = some (.iadd, 1, [], []) := zz_fetch_of p13 rfl rfl
theorem s13_62 : zz_Run zz_prog d 13 (62, [l0, l1, l2, l3], .int w :: .int v :: st, k, h) = zz_Run zz_prog d 13 (63, [l0, l1, l2, l3], .int (v + w) :: st, k, h) := zz_k_num f13_62 rfl
theorem f13_63 : zz_fetch zz_prog 13 63 = some (.dup2, 1, [], []) := zz_fetch_of p13 rfl rfl
theorem s13_63 : zz_Run zz_prog d 13 (63, [l0, l1, l2, l3], .int v :: .ref a1 :: st, k, h) = zz_Run zz_prog d 13 (64, [l0, l1, l2, l3], .int v :: .ref a1 :: .int v :: .ref a1 :: st, k, h) := zz_k_num f13_63 rfl
theorem f13_64 : zz_fetch zz_prog 13 64 = some (.iaload, 1, [], []) := zz_fetch_of p13 rfl rfl
theorem s13_64 (ha : zz_isrd a = true) : zz_Run zz_prog d 13 (64, [l0, l1, l2, l3], .int v :: .ref a :: st, k, (zz_hp n I J ex)) = zz_ck (zz_in v (zz_ary n a)) (zz_Run zz_prog d 13 (65, [l0, l1, l2, l3], .int (I a v.toNatClampNeg) :: st, k, (zz_hp n I J ex))) := zz_k_iald f13_64 ha
theorem f13_65 : zz_fetch zz_prog 13 65 = some (.iconst 1, 1, [], []) := zz_fetch_of p13 rfl rfl
theorem s13_65 : zz_Run zz_prog d 13 (65, [l0, l1, l2, l3], st, k, h) = zz_Run zz_prog d 13 (66, [l0, l1, l2, l3], .int 1 :: st, k, h) := zz_k_num f13_65 rfl
theorem f13_66 : zz_fetch zz_prog 13 66 = some (.isub, 1, [], []) := zz_fetch_of p13 rfl rfl
theorem s13_66 : zz_Run zz_prog d 13 (66, [l0, l1, l2, l3], .int w :: .int v :: st, k, h) = zz_Run zz_prog d 13 (67, [l0, l1, l2, l3], .int (v - w) :: st, k, h) := zz_k_num f13_66 rfl
theorem f13_67 : zz_fetch zz_prog 13 67 = some (.iastore, 1, [], []) := zz_fetch_of p13 rfl rfl
theorem s13_67 (ha : zz_isar a = true) : zz_Run zz_prog d 13 (67, [l0, l1, l2, l3], .int w :: .int v :: .ref a :: st, k, (zz_hp n I J ex)) = zz_ck (zz_in v (zz_ary n a)) (zz_Run zz_prog d 13 (68, [l0, l1, l2, l3], st, false, (zz_hp n (zz_up I a v.toNatClampNeg w) J ex))) := zz_k_iast f13_67 ha
theorem f13_68 : zz_fetch zz_prog 13 68 = some (.aload_n 0, 1, [], []) := zz_fetch_of p13 rfl rfl
theorem s13_68 : zz_Run zz_prog d 13 (68, [some (.ref a), l1, l2, l3], st, k, h) = zz_Run zz_prog d 13 (69, [some (.ref a), l1, l2, l3], .ref a :: st, k, h) := zz_k_num f13_68 rfl
theorem f13_69 : zz_fetch zz_prog 13 69 = some (.getfield 28, 3, [1, 7, 3], []) := zz_fetch_of p13 rfl rfl
theorem s13_69 : zz_Run zz_prog d 13 (69, [l0, l1, l2, l3], .ref 5 :: st, k, (zz_hp n I J ex)) = zz_Run zz_prog d 13 (72, [l0, l1, l2, l3], .ref 9 :: st, k, (zz_hp n I J ex)) := zz_k_go f13_69 rfl rfl rfl
theorem f13_72 : zz_fetch zz_prog 13 72 = some (.iconst 1, 1, [], []) := zz_fetch_of p13 rfl rfl
theorem s13_72 : zz_Run zz_prog d 13 (72, [l0, l1, l2, l3], st, k, h) = zz_Run zz_prog d 13 (73, [l0, l1, l2, l3], .int 1 :: st, k, h) := zz_k_num f13_72 rfl
theorem f13_73 : zz_fetch zz_prog 13 73 = some (.putfield 201, 3, [0, 11, 1], []) := zz_fetch_of p13 rfl rfl
theorem s13_73 : zz_Run zz_prog d 13 (73, [l0, l1, l2, l3], .int v :: .ref 9 :: st, k, (zz_hp n I J ex)) = zz_ck (decide (v = 0 ∨ v = 1)) (zz_Run zz_prog d 13 (76, [l0, l1, l2, l3], st, false, (zz_hp n (zz_up I 9 11 v) J ex))) := zz_k_putz f13_73 rfl
theorem s13_73b : zz_Run zz_prog d 13 (73, [l0, l1, l2, l3], .int v :: .ref 16 :: st, k, (zz_hp n I J ex)) = zz_ck (decide (v = 0 ∨ v = 1)) (zz_Run zz_prog d 13 (76, [l0, l1, l2, l3], st, false, (zz_hp n (zz_up I 16 11 v) J ex))) := zz_k_putz f13_73 rfl
theorem f13_76 : zz_fetch zz_prog 13 76 = some (.aload_n 0, 1, [], []) := zz_fetch_of p13 rfl rfl
theorem s13_76 : zz_Run zz_prog d 13 (76, [some (.ref a), l1, l2, l3], st, k, h) = zz_Run zz_prog d 13 (77, [some (.ref a), l1, l2, l3], .ref a :: st, k, h) := zz_k_num f13_76 rfl
theorem f13_77 : zz_fetch zz_prog 13 77 = some (.iload_n 1, 1, [], []) := zz_fetch_of p13 rfl rfl
theorem s13_77 : zz_Run zz_prog d 13 (77, [l0, some (.int v), l2, l3], st, k, h) = zz_Run zz_prog d 13 (78, [l0, some (.int v), l2, l3], .int v :: st, k, h) := zz_k_num f13_77 rfl
theorem f13_78 : zz_fetch zz_prog 13 78 = some (.iload_n 2, 1, [], []) := zz_fetch_of p13 rfl rfl
theorem s13_78 : zz_Run zz_prog d 13 (78, [l0, l1, some (.int v), l3], st, k, h) = zz_Run zz_prog d 13 (79, [l0, l1, some (.int v), l3], .int v :: st, k, h) := zz_k_num f13_78 rfl
theorem f13_79 : zz_fetch zz_prog 13 79 = some (.iload_n 3, 1, [], []) := zz_fetch_of p13 rfl rfl
theorem s13_79 : zz_Run zz_prog d 13 (79, [l0, l1, l2, some (.int v)], st, k, h) = zz_Run zz_prog d 13 (80, [l0, l1, l2, some (.int v)], .int v :: st, k, h) := zz_k_num f13_79 rfl
theorem f13_80 : zz_fetch zz_prog 13 80 = some (.invokevirtual 205, 3, [0, 78, 4, 1], []) := zz_fetch_of p13 rfl rfl
theorem s13_80 : zz_Run zz_prog d 13 (80, [l0, l1, l2, l3], [b0, b1, b2, .ref 5], k, (zz_hp n I J ex)) = zz_ret (zz_Call zz_prog d 78 [.ref 5, b2, b1, b0] (zz_hp n I J ex)) (fun v k' h' => zz_Run zz_prog d 13 (83, [l0, l1, l2, l3], v.toList ++ [], k && k', h')) (fun a k' h' => zz_th d 13 80 a [l0, l1, l2, l3] (k && k') h') := zz_k_call f13_80 rfl rfl rfl
theorem f13_83 : zz_fetch zz_prog 13 83 = some (.ireturn, 1, [0], []) := zz_fetch_of p13 rfl rfl
theorem s13_83 : zz_Run zz_prog d 13 (83, [l0, l1, l2, l3], [.int v], k, h) = some (.inl (some (.int v)), k, h) := zz_k_stop f13_83 rfl rfl rfl
end S13
section S14
variable {d n j : Nat} {l0 : Option Value} {st : List Value} {k : Bool} {h : zz_H} {v w v1 v2 : Int32} {y y1 : Int64} {a a1 a2 : Nat} {b0 b1 b2 b3 b4 b5 b6 b7 b8 : Value} {I : Nat → Nat → Int32} {J : Nat → Nat → Int64} {ex : List (Nat × Nat)}
theorem p14 : zz_prog 14 = some zz_m14 := rfl
theorem e14 (g0 : Nat) : zz_Call zz_prog (d + 1) 14 [.ref g0] h = zz_Run zz_prog d 14 (0, [some (.ref g0)], [], true, h) := rfl
theorem t14 (pc : Nat) (L : List (Option Value)) : zz_th d 14 pc a L k h = some (.inr a, k, h) := zz_th_out p14 rfl
theorem f14_0 : zz_fetch zz_prog 14 0 = some (.aload_n 0, 1, [], []) := zz_fetch_of p14 rfl rfl
theorem s14_0 : zz_Run zz_prog d 14 (0, [some (.ref a)], st, k, h) = zz_Run zz_prog d 14 (1, [some (.ref a)], .ref a :: st, k, h) := zz_k_num f14_0 rfl
theorem f14_1 : zz_fetch zz_prog 14 1 = some (.getfield 28, 3, [1, 7, 3], []) := zz_fetch_of p14 rfl rfl
theorem s14_1 : zz_Run zz_prog d 14 (1, [l0], .ref 5 :: st, k, (zz_hp n I J ex)) = zz_Run zz_prog d 14 (4, [l0], .ref 9 :: st, k, (zz_hp n I J ex)) := zz_k_go f14_1 rfl rfl rfl
theorem f14_4 : zz_fetch zz_prog 14 4 = some (.getfield 89, 3, [0, 0, 0], []) := zz_fetch_of p14 rfl rfl
theorem s14_4 : zz_Run zz_prog d 14 (4, [l0], .ref 9 :: st, k, (zz_hp n I J ex)) = zz_Run zz_prog d 14 (7, [l0], .int (I 9 0) :: st, k, (zz_hp n I J ex)) := zz_k_go f14_4 rfl rfl rfl
theorem s14_4b : zz_Run zz_prog d 14 (4, [l0], .ref 16 :: st, k, (zz_hp n I J ex)) = zz_Run zz_prog d 14 (7, [l0], .int (I 16 0) :: st, k, (zz_hp n I J ex)) := zz_k_go f14_4 rfl rfl rfl
theorem f14_7 : zz_fetch zz_prog 14 7 = some (.bipush 6, 2, [], []) := zz_fetch_of p14 rfl rfl
theorem s14_7 : zz_Run zz_prog d 14 (7, [l0], st, k, h) = zz_Run zz_prog d 14 (9, [l0], .int 6 :: st, k, h) := zz_k_num f14_7 (congrArg (fun u => some (9, [l0], Value.int u :: st)) (by decide : (Int8.ofInt 6).toInt32 = 6))
theorem f14_9 : zz_fetch zz_prog 14 9 = some (.if_icmp .eq 23, 3, [32], []) := zz_fetch_of p14 rfl rfl
theorem s14_9 : zz_Run zz_prog d 14 (9, [l0], .int w :: .int v :: st, k, h) = if v = w then zz_Run zz_prog d 14 (32, [l0], st, k, h) else zz_Run zz_prog d 14 (12, [l0], st, k, h) := zz_k_br (v = w) rfl (zz_k_num f14_9 rfl)
theorem f14_12 : zz_fetch zz_prog 14 12 = some (.aload_n 0, 1, [], []) := zz_fetch_of p14 rfl rfl
theorem s14_12 : zz_Run zz_prog d 14 (12, [some (.ref a)], st, k, h) = zz_Run zz_prog d 14 (13, [some (.ref a)], .ref a :: st, k, h) := zz_k_num f14_12 rfl
theorem f14_13 : zz_fetch zz_prog 14 13 = some (.getfield 28, 3, [1, 7, 3], []) := zz_fetch_of p14 rfl rfl
theorem s14_13 : zz_Run zz_prog d 14 (13, [l0], .ref 5 :: st, k, (zz_hp n I J ex)) = zz_Run zz_prog d 14 (16, [l0], .ref 9 :: st, k, (zz_hp n I J ex)) := zz_k_go f14_13 rfl rfl rfl
theorem f14_16 : zz_fetch zz_prog 14 16 = some (.getfield 89, 3, [0, 0, 0], []) := zz_fetch_of p14 rfl rfl
theorem s14_16 : zz_Run zz_prog d 14 (16, [l0], .ref 9 :: st, k, (zz_hp n I J ex)) = zz_Run zz_prog d 14 (19, [l0], .int (I 9 0) :: st, k, (zz_hp n I J ex)) := zz_k_go f14_16 rfl rfl rfl
theorem s14_16b : zz_Run zz_prog d 14 (16, [l0], .ref 16 :: st, k, (zz_hp n I J ex)) = zz_Run zz_prog d 14 (19, [l0], .int (I 16 0) :: st, k, (zz_hp n I J ex)) := zz_k_go f14_16 rfl rfl rfl
theorem f14_19 : zz_fetch zz_prog 14 19 = some (.bipush 7, 2, [], []) := zz_fetch_of p14 rfl rfl
theorem s14_19 : zz_Run zz_prog d 14 (19, [l0], st, k, h) = zz_Run zz_prog d 14 (21, [l0], .int 7 :: st, k, h) := zz_k_num f14_19 (congrArg (fun u => some (21, [l0], Value.int u :: st)) (by decide : (Int8.ofInt 7).toInt32 = 7))
theorem f14_21 : zz_fetch zz_prog 14 21 = some (.if_icmp .eq 11, 3, [32], []) := zz_fetch_of p14 rfl rfl
theorem s14_21 : zz_Run zz_prog d 14 (21, [l0], .int w :: .int v :: st, k, h) = if v = w then zz_Run zz_prog d 14 (32, [l0], st, k, h) else zz_Run zz_prog d 14 (24, [l0], st, k, h) := zz_k_br (v = w) rfl (zz_k_num f14_21 rfl)
theorem f14_24 : zz_fetch zz_prog 14 24 = some (.new 54, 3, [4, 3], []) := zz_fetch_of p14 rfl rfl
theorem s14_24 : zz_Run zz_prog d 14 (24, [l0], [], true, (zz_hp n I J ex)) = some (.inr (zz_exa ex), false, zz_hp n I J (ex ++ [(4, 3)])) := zz_k_throw f14_24 (by simp)
theorem f14_32 : zz_fetch zz_prog 14 32 = some (.aload_n 0, 1, [], []) := zz_fetch_of p14 rfl rfl
theorem s14_32 : zz_Run zz_prog d 14 (32, [some (.ref a)], st, k, h) = zz_Run zz_prog d 14 (33, [some (.ref a)], .ref a :: st, k, h) := zz_k_num f14_32 rfl
theorem f14_33 : zz_fetch zz_prog 14 33 = some (.invokevirtual 98, 3, [0, 87, 1, 1], []) := zz_fetch_of p14 rfl rfl
theorem s14_33 : zz_Run zz_prog d 14 (33, [l0], [.ref 5], k, (zz_hp n I J ex)) = zz_ret (zz_Call zz_prog d 87 [.ref 5] (zz_hp n I J ex)) (fun v k' h' => zz_Run zz_prog d 14 (36, [l0], v.toList ++ [], k && k', h')) (fun a k' h' => zz_th d 14 33 a [l0] (k && k') h') := zz_k_call f14_33 rfl rfl rfl
theorem f14_36 : zz_fetch zz_prog 14 36 = some (.aload_n 0, 1, [], []) := zz_fetch_of p14 rfl rfl
theorem s14_36 : zz_Run zz_prog d 14 (36, [some (.ref a)], st, k, h) = zz_Run zz_prog d 14 (37, [some (.ref a)], .ref a :: st, k, h) := zz_k_num f14_36 rfl
theorem f14_37 : zz_fetch zz_prog 14 37 = some (.getfield 28, 3, [1, 7, 3], []) := zz_fetch_of p14 rfl rfl
theorem s14_37 : zz_Run zz_prog d 14 (37, [l0], .ref 5 :: st, k, (zz_hp n I J ex)) = zz_Run zz_prog d 14 (40, [l0], .ref 9 :: st, k, (zz_hp n I J ex)) := zz_k_go f14_37 rfl rfl rfl
theorem f14_40 : zz_fetch zz_prog 14 40 = some (.getfield 89, 3, [0, 0, 0], []) := zz_fetch_of p14 rfl rfl
theorem s14_40 : zz_Run zz_prog d 14 (40, [l0], .ref 9 :: st, k, (zz_hp n I J ex)) = zz_Run zz_prog d 14 (43, [l0], .int (I 9 0) :: st, k, (zz_hp n I J ex)) := zz_k_go f14_40 rfl rfl rfl
theorem s14_40b : zz_Run zz_prog d 14 (40, [l0], .ref 16 :: st, k, (zz_hp n I J ex)) = zz_Run zz_prog d 14 (43, [l0], .int (I 16 0) :: st, k, (zz_hp n I J ex)) := zz_k_go f14_40 rfl rfl rfl
theorem f14_43 : zz_fetch zz_prog 14 43 = some (.bipush 7, 2, [], []) := zz_fetch_of p14 rfl rfl
theorem s14_43 : zz_Run zz_prog d 14 (43, [l0], st, k, h) = zz_Run zz_prog d 14 (45, [l0], .int 7 :: st, k, h) := zz_k_num f14_43 (congrArg (fun u => some (45, [l0], Value.int u :: st)) (by decide : (Int8.ofInt 7).toInt32 = 7))
theorem f14_45 : zz_fetch zz_prog 14 45 = some (.if_icmp .ne 15, 3, [60], []) := zz_fetch_of p14 rfl rfl
theorem s14_45 : zz_Run zz_prog d 14 (45, [l0], .int w :: .int v :: st, k, h) = if ¬ v = w then zz_Run zz_prog d 14 (60, [l0], st, k, h) else zz_Run zz_prog d 14 (48, [l0], st, k, h) := zz_k_br (¬ v = w) rfl (zz_k_num f14_45 rfl)
theorem f14_48 : zz_fetch zz_prog 14 48 = some (.aload_n 0, 1, [], []) := zz_fetch_of p14 rfl rfl
theorem s14_48 : zz_Run zz_prog d 14 (48, [some (.ref a)], st, k, h) = zz_Run zz_prog d 14 (49, [some (.ref a)], .ref a :: st, k, h) := zz_k_num f14_48 rfl
theorem f14_49 : zz_fetch zz_prog 14 49 = some (.getfield 28, 3, [1, 7, 3], []) := zz_fetch_of p14 rfl rfl
theorem s14_49 : zz_Run zz_prog d 14 (49, [l0], .ref 5 :: st, k, (zz_hp n I J ex)) = zz_Run zz_prog d 14 (52, [l0], .ref 9 :: st, k, (zz_hp n I J ex)) := zz_k_go f14_49 rfl rfl rfl
theorem f14_52 : zz_fetch zz_prog 14 52 = some (.bipush 6, 2, [], []) := zz_fetch_of p14 rfl rfl
theorem s14_52 : zz_Run zz_prog d 14 (52, [l0], st, k, h) = zz_Run zz_prog d 14 (54, [l0], .int 6 :: st, k, h) := zz_k_num f14_52 (congrArg (fun u => some (54, [l0], Value.int u :: st)) (by decide : (Int8.ofInt 6).toInt32 = 6))
theorem f14_54 : zz_fetch zz_prog 14 54 = some (.putfield 89, 3, [0, 0, 0], []) := zz_fetch_of p14 rfl rfl
theorem s14_54 : zz_Run zz_prog d 14 (54, [l0], .int v :: .ref 9 :: st, k, (zz_hp n I J ex)) = zz_Run zz_prog d 14 (57, [l0], st, false, (zz_hp n (zz_up I 9 0 v) J ex)) := zz_k_go f14_54 rfl rfl rfl
theorem s14_54b : zz_Run zz_prog d 14 (54, [l0], .int v :: .ref 16 :: st, k, (zz_hp n I J ex)) = zz_Run zz_prog d 14 (57, [l0], st, false, (zz_hp n (zz_up I 16 0 v) J ex)) := zz_k_go f14_54 rfl rfl rfl
theorem f14_57 : zz_fetch zz_prog 14 57 = some (.goto 11, 3, [68], []) := zz_fetch_of p14 rfl rfl
theorem s14_57 : zz_Run zz_prog d 14 (57, [l0], st, k, h) = zz_Run zz_prog d 14 (68, [l0], st, k, h) := zz_k_num f14_57 rfl
theorem f14_60 : zz_fetch zz_prog 14 60 = some (.aload_n 0, 1, [], []) := zz_fetch_of p14 rfl rfl
theorem s14_60 : zz_Run zz_prog d 14 (60, [some (.ref a)], st, k, h) = zz_Run zz_prog d 14 (61, [some (.ref a)], .ref a :: st, k, h) := zz_k_num f14_60 rfl
theorem f14_61 : zz_fetch zz_prog 14 61 = some (.invokevirtual 208, 3, [0, 85, 1, 1], []) := zz_fetch_of p14 rfl rfl
theorem s14_61 : zz_Run zz_prog d 14 (61, [l0], [.ref 5], k, (zz_hp n I J ex)) = zz_ret (zz_Call zz_prog d 85 [.ref 5] (zz_hp n I J ex)) (fun v k' h' => zz_Run zz_prog d 14 (64, [l0], v.toList ++ [], k && k', h')) (fun a k' h' => zz_th d 14 61 a [l0] (k && k') h') := zz_k_call f14_61 rfl rfl rfl
theorem f14_64 : zz_fetch zz_prog 14 64 = some (.aload_n 0, 1, [], []) := zz_fetch_of p14 rfl rfl
theorem s14_64 : zz_Run zz_prog d 14 (64, [some (.ref a)], st, k, h) = zz_Run zz_prog d 14 (65, [some (.ref a)], .ref a :: st, k, h) := zz_k_num f14_64 rfl
theorem f14_65 : zz_fetch zz_prog 14 65 = some (.invokevirtual 111, 3, [0, 86, 1, 1], []) := zz_fetch_of p14 rfl rfl
theorem s14_65 : zz_Run zz_prog d 14 (65, [l0], [.ref 5], k, (zz_hp n I J ex)) = zz_ret (zz_Call zz_prog d 86 [.ref 5] (zz_hp n I J ex)) (fun v k' h' => zz_Run zz_prog d 14 (68, [l0], v.toList ++ [], k && k', h')) (fun a k' h' => zz_th d 14 65 a [l0] (k && k') h') := zz_k_call f14_65 rfl rfl rfl
theorem f14_68 : zz_fetch zz_prog 14 68 = some (.aload_n 0, 1, [], []) := zz_fetch_of p14 rfl rfl
theorem s14_68 : zz_Run zz_prog d 14 (68, [some (.ref a)], st, k, h) = zz_Run zz_prog d 14 (69, [some (.ref a)], .ref a :: st, k, h) := zz_k_num f14_68 rfl
theorem f14_69 : zz_fetch zz_prog 14 69 = some (.getfield 28, 3, [1, 7, 3], []) := zz_fetch_of p14 rfl rfl
theorem s14_69 : zz_Run zz_prog d 14 (69, [l0], .ref 5 :: st, k, (zz_hp n I J ex)) = zz_Run zz_prog d 14 (72, [l0], .ref 9 :: st, k, (zz_hp n I J ex)) := zz_k_go f14_69 rfl rfl rfl
theorem f14_72 : zz_fetch zz_prog 14 72 = some (.getfield 86, 3, [0, 1, 0], []) := zz_fetch_of p14 rfl rfl
theorem s14_72 : zz_Run zz_prog d 14 (72, [l0], .ref 9 :: st, k, (zz_hp n I J ex)) = zz_Run zz_prog d 14 (75, [l0], .int (I 9 1) :: st, k, (zz_hp n I J ex)) := zz_k_go f14_72 rfl rfl rfl
theorem s14_72b : zz_Run zz_prog d 14 (72, [l0], .ref 16 :: st, k, (zz_hp n I J ex)) = zz_Run zz_prog d 14 (75, [l0], .int (I 16 1) :: st, k, (zz_hp n I J ex)) := zz_k_go f14_72 rfl rfl rfl
theorem f14_75 : zz_fetch zz_prog 14 75 = some (.ireturn, 1, [0], []) := zz_fetch_of p14 rfl rfl
theorem s14_75 : zz_Run zz_prog d 14 (75, [l0], [.int v], k, h) = some (.inl (some (.int v)), k, h) := zz_k_stop f14_75 rfl rfl rfl
end S14
section S15
variable {d n j : Nat} {l0 : Option Value} {st : List Value} {k : Bool} {h : zz_H} {v w v1 v2 : Int32} {y y1 : Int64} {a a1 a2 : Nat} {b0 b1 b2 b3 b4 b5 b6 b7 b8 : Value} {I : Nat → Nat → Int32} {J : Nat → Nat → Int64} {ex : List (Nat × Nat)}
theorem p15 : zz_prog 15 = some zz_m15 := rfl
theorem e15 (g0 : Nat) : zz_Call zz_prog (d + 1) 15 [.ref g0] h = zz_Run zz_prog d 15 (0, [some (.ref g0)], [], true, h) := rfl
theorem t15 (pc : Nat) (L : List (Option Value)) : zz_th d 15 pc a L k h = some (.inr a, k, h) := zz_th_out p15 rfl
theorem f15_0 : zz_fetch zz_prog 15 0 = some (.aload_n 0, 1, [], []) := zz_fetch_of p15 rfl rfl
theorem s15_0 : zz_Run zz_prog d 15 (0, [some (.ref a)], st, k, h) = zz_Run zz_prog d 15 (1, [some (.ref a)], .ref a :: st, k, h) := zz_k_num f15_0 rfl
theorem f15_1 : zz_fetch zz_prog 15 1 = some (.getfield 211, 3, [1, 9, 1], []) := zz_fetch_of p15 rfl rfl
theorem s15_1 : zz_Run zz_prog d 15 (1, [l0], .ref 5 :: st, k, (zz_hp n I J ex)) = zz_Run zz_prog d 15 (4, [l0], .int (I 5 9) :: st, k, (zz_hp n I J ex)) := zz_k_go f15_1 rfl rfl rfl
theorem f15_4 : zz_fetch zz_prog 15 4 = some (.ifCond .ne 11, 3, [15], []) := zz_fetch_of p15 rfl rfl
theorem s15_4 : zz_Run zz_prog d 15 (4, [l0], .int v :: st, k, h) = if ¬ v = 0 then zz_Run zz_prog d 15 (15, [l0], st, k, h) else zz_Run zz_prog d 15 (7, [l0], st, k, h) := zz_k_br (¬ v = 0) rfl (zz_k_num f15_4 rfl)
theorem f15_7 : zz_fetch zz_prog 15 7 = some (.new 54, 3, [4, 3], []) := zz_fetch_of p15 rfl rfl
theorem s15_7 : zz_Run zz_prog d 15 (7, [l0], [], true, (zz_hp n I J ex)) = some (.inr (zz_exa ex), false, zz_hp n I J (ex ++ [(4, 3)])) := zz_k_throw f15_7 (by simp)
theorem f15_15 : zz_fetch zz_prog 15 15 = some (.aload_n 0, 1, [], []) := zz_fetch_of p15 rfl rfl
theorem s15_15 : zz_Run zz_prog d 15 (15, [some (.ref a)], st, k, h) = zz_Run zz_prog d 15 (16, [some (.ref a)], .ref a :: st, k, h) := zz_k_num f15_15 rfl
theorem f15_16 : zz_fetch zz_prog 15 16 = some (.getfield 28, 3, [1, 7, 3], []) := zz_fetch_of p15 rfl rfl
theorem s15_16 : zz_Run zz_prog d 15 (16, [l0], .ref 5 :: st, k, (zz_hp n I J ex)) = zz_Run zz_prog d 15 (19, [l0], .ref 9 :: st, k, (zz_hp n I J ex)) := zz_k_go f15_16 rfl rfl rfl
theorem f15_19 : zz_fetch zz_prog 15 19 = some (.aload_n 0, 1, [], []) := zz_fetch_of p15 rfl rfl
theorem s15_19 : zz_Run zz_prog d 15 (19, [some (.ref a)], st, k, h) = zz_Run zz_prog d 15 (20, [some (.ref a)], .ref a :: st, k, h) := zz_k_num f15_19 rfl
theorem f15_20 : zz_fetch zz_prog 15 20 = some (.getfield 32, 3, [1, 8, 3], []) := zz_fetch_of p15 rfl rfl
theorem s15_20 : zz_Run zz_prog d 15 (20, [l0], .ref 5 :: st, k, (zz_hp n I J ex)) = zz_Run zz_prog d 15 (23, [l0], .ref 16 :: st, k, (zz_hp n I J ex)) := zz_k_go f15_20 rfl rfl rfl
theorem f15_23 : zz_fetch zz_prog 15 23 = some (.invokevirtual 214, 3, [0, 156, 2, 0], []) := zz_fetch_of p15 rfl rfl
theorem s15_23 : zz_Run zz_prog d 15 (23, [l0], [b0, .ref 9], k, (zz_hp n I J ex)) = zz_ret (zz_Call zz_prog d 156 [.ref 9, b0] (zz_hp n I J ex)) (fun v k' h' => zz_Run zz_prog d 15 (26, [l0], v.toList ++ [], k && k', h')) (fun a k' h' => zz_th d 15 23 a [l0] (k && k') h') := zz_k_call f15_23 rfl rfl rfl
theorem s15_23b : zz_Run zz_prog d 15 (23, [l0], [b0, .ref 16], k, (zz_hp n I J ex)) = zz_ret (zz_Call zz_prog d 156 [.ref 16, b0] (zz_hp n I J ex)) (fun v k' h' => zz_Run zz_prog d 15 (26, [l0], v.toList ++ [], k && k', h')) (fun a k' h' => zz_th d 15 23 a [l0] (k && k') h') := zz_k_call f15_23 rfl rfl rfl
theorem f15_26 : zz_fetch zz_prog 15 26 = some (.aload_n 0, 1, [], []) := zz_fetch_of p15 rfl rfl
theorem s15_26 : zz_Run zz_prog d 15 (26, [some (.ref a)], st, k, h) = zz_Run zz_prog d 15 (27, [some (.ref a)], .ref a :: st, k, h) := zz_k_num f15_26 rfl
theorem f15_27 : zz_fetch zz_prog 15 27 = some (.iconst 0, 1, [], []) := zz_fetch_of p15 rfl rfl
theorem s15_27 : zz_Run zz_prog d 15 (27, [l0], st, k, h) = zz_Run zz_prog d 15 (28, [l0], .int 0 :: st, k, h) := zz_k_num f15_27 rfl
theorem f15_28 : zz_fetch zz_prog 15 28 = some (.putfield 211, 3, [1, 9, 1], []) := zz_fetch_of p15 rfl rfl
theorem s15_28 : zz_Run zz_prog d 15 (28, [l0], .int v :: .ref 5 :: st, k, (zz_hp n I J ex)) = zz_ck (decide (v = 0 ∨ v = 1)) (zz_Run zz_prog d 15 (31, [l0], st, false, (zz_hp n (zz_up I 5 9 v) J ex))) := zz_k_putz f15_28 rfl
theorem f15_31 : zz_fetch zz_prog 15 31 = some (.aload_n 0, 1, [], []) := zz_fetch_of p15 rfl rfl
theorem s15_31 : zz_Run zz_prog d 15 (31, [some (.ref a)], st, k, h) = zz_Run zz_prog d 15 (32, [some (.ref a)], .ref a :: st, k, h) := zz_k_num f15_31 rfl
theorem f15_32 : zz_fetch zz_prog 15 32 = some (.getfield 28, 3, [1, 7, 3], []) := zz_fetch_of p15 rfl rfl
theorem s15_32 : zz_Run zz_prog d 15 (32, [l0], .ref 5 :: st, k, (zz_hp n I J ex)) = zz_Run zz_prog d 15 (35, [l0], .ref 9 :: st, k, (zz_hp n I J ex)) := zz_k_go f15_32 rfl rfl rfl
theorem f15_35 : zz_fetch zz_prog 15 35 = some (.getfield 89, 3, [0, 0, 0], []) := zz_fetch_of p15 rfl rfl
theorem s15_35 : zz_Run zz_prog d 15 (35, [l0], .ref 9 :: st, k, (zz_hp n I J ex)) = zz_Run zz_prog d 15 (38, [l0], .int (I 9 0) :: st, k, (zz_hp n I J ex)) := zz_k_go f15_35 rfl rfl rfl
theorem s15_35b : zz_Run zz_prog d 15 (35, [l0], .ref 16 :: st, k, (zz_hp n I J ex)) = zz_Run zz_prog d 15 (38, [l0], .int (I 16 0) :: st, k, (zz_hp n I J ex)) := zz_k_go f15_35 rfl rfl rfl
theorem f15_38 : zz_fetch zz_prog 15 38 = some (.ireturn, 1, [0], []) := zz_fetch_of p15 rfl rfl
theorem s15_38 : zz_Run zz_prog d 15 (38, [l0], [.int v], k, h) = some (.inl (some (.int v)), k, h) := zz_k_stop f15_38 rfl rfl rfl
end S15
section S16
variable {d n j : Nat} {l0 : Option Value} {st : List Value} {k : Bool} {h : zz_H} {v w v1 v2 : Int32} {y y1 : Int64} {a a1 a2 : Nat} {b0 b1 b2 b3 b4 b5 b6 b7 b8 : Value} {I : Nat → Nat → Int32} {J : Nat → Nat → Int64} {ex : List (Nat × Nat)}
theorem p16 : zz_prog 16 = some zz_m16 := rfl
theorem e16 (g0 : Nat) : zz_Call zz_prog (d + 1) 16 [.ref g0] h = zz_Run zz_prog d 16 (0, [some (.ref g0)], [], true, h) := rfl
theorem t16 (pc : Nat) (L : List (Option Value)) : zz_th d 16 pc a L k h = some (.inr a, k, h) := zz_th_out p16 rfl
theorem f16_0 : zz_fetch zz_prog 16 0 = some (.aload_n 0, 1, [], []) := zz_fetch_of p16 rfl rfl
theorem s16_0 : zz_Run zz_prog d 16 (0, [some (.ref a)], st, k, h) = zz_Run zz_prog d 16 (1, [some (.ref a)], .ref a :: st, k, h) := zz_k_num f16_0 rfl
theorem f16_1 : zz_fetch zz_prog 16 1 = some (.getfield 28, 3, [1, 7, 3], []) := zz_fetch_of p16 rfl rfl
theorem s16_1 : zz_Run zz_prog d 16 (1, [l0], .ref 5 :: st, k, (zz_hp n I J ex)) = zz_Run zz_prog d 16 (4, [l0], .ref 9 :: st, k, (zz_hp n I J ex)) := zz_k_go f16_1 rfl rfl rfl
theorem f16_4 : zz_fetch zz_prog 16 4 = some (.getfield 89, 3, [0, 0, 0], []) := zz_fetch_of p16 rfl rfl
theorem s16_4 : zz_Run zz_prog d 16 (4, [l0], .ref 9 :: st, k, (zz_hp n I J ex)) = zz_Run zz_prog d 16 (7, [l0], .int (I 9 0) :: st, k, (zz_hp n I J ex)) := zz_k_go f16_4 rfl rfl rfl
theorem s16_4b : zz_Run zz_prog d 16 (4, [l0], .ref 16 :: st, k, (zz_hp n I J ex)) = zz_Run zz_prog d 16 (7, [l0], .int (I 16 0) :: st, k, (zz_hp n I J ex)) := zz_k_go f16_4 rfl rfl rfl
theorem f16_7 : zz_fetch zz_prog 16 7 = some (.ireturn, 1, [0], []) := zz_fetch_of p16 rfl rfl
theorem s16_7 : zz_Run zz_prog d 16 (7, [l0], [.int v], k, h) = some (.inl (some (.int v)), k, h) := zz_k_stop f16_7 rfl rfl rfl
end S16
section S17
variable {d n j : Nat} {l0 : Option Value} {st : List Value} {k : Bool} {h : zz_H} {v w v1 v2 : Int32} {y y1 : Int64} {a a1 a2 : Nat} {b0 b1 b2 b3 b4 b5 b6 b7 b8 : Value} {I : Nat → Nat → Int32} {J : Nat → Nat → Int64} {ex : List (Nat × Nat)}
theorem p17 : zz_prog 17 = some zz_m17 := rfl
theorem e17 (g0 : Nat) : zz_Call zz_prog (d + 1) 17 [.ref g0] h = zz_Run zz_prog d 17 (0, [some (.ref g0)], [], true, h) := rfl
theorem t17 (pc : Nat) (L : List (Option Value)) : zz_th d 17 pc a L k h = some (.inr a, k, h) := zz_th_out p17 rfl
theorem f17_0 : zz_fetch zz_prog 17 0 = some (.aload_n 0, 1, [], []) := zz_fetch_of p17 rfl rfl
theorem s17_0 : zz_Run zz_prog d 17 (0, [some (.ref a)], st, k, h) = zz_Run zz_prog d 17 (1, [some (.ref a)], .ref a :: st, k, h) := zz_k_num f17_0 rfl
theorem f17_1 : zz_fetch zz_prog 17 1 = some (.getfield 28, 3, [1, 7, 3], []) := zz_fetch_of p17 rfl rfl
theorem s17_1 : zz_Run zz_prog d 17 (1, [l0], .ref 5 :: st, k, (zz_hp n I J ex)) = zz_Run zz_prog d 17 (4, [l0], .ref 9 :: st, k, (zz_hp n I J ex)) := zz_k_go f17_1 rfl rfl rfl
theorem f17_4 : zz_fetch zz_prog 17 4 = some (.getfield 86, 3, [0, 1, 0], []) := zz_fetch_of p17 rfl rfl
theorem s17_4 : zz_Run zz_prog d 17 (4, [l0], .ref 9 :: st, k, (zz_hp n I J ex)) = zz_Run zz_prog d 17 (7, [l0], .int (I 9 1) :: st, k, (zz_hp n I J ex)) := zz_k_go f17_4 rfl rfl rfl
theorem s17_4b : zz_Run zz_prog d 17 (4, [l0], .ref 16 :: st, k, (zz_hp n I J ex)) = zz_Run zz_prog d 17 (7, [l0], .int (I 16 1) :: st, k, (zz_hp n I J ex)) := zz_k_go f17_4 rfl rfl rfl
theorem f17_7 : zz_fetch zz_prog 17 7 = some (.ireturn, 1, [0], []) := zz_fetch_of p17 rfl rfl
theorem s17_7 : zz_Run zz_prog d 17 (7, [l0], [.int v], k, h) = some (.inl (some (.int v)), k, h) := zz_k_stop f17_7 rfl rfl rfl
end S17
section S18
variable {d n j : Nat} {l0 : Option Value} {st : List Value} {k : Bool} {h : zz_H} {v w v1 v2 : Int32} {y y1 : Int64} {a a1 a2 : Nat} {b0 b1 b2 b3 b4 b5 b6 b7 b8 : Value} {I : Nat → Nat → Int32} {J : Nat → Nat → Int64} {ex : List (Nat × Nat)}
theorem p18 : zz_prog 18 = some zz_m18 := rfl
theorem e18 (g0 : Nat) : zz_Call zz_prog (d + 1) 18 [.ref g0] h = zz_Run zz_prog d 18 (0, [some (.ref g0)], [], true, h) := rfl
theorem t18 (pc : Nat) (L : List (Option Value)) : zz_th d 18 pc a L k h = some (.inr a, k, h) := zz_th_out p18 rfl
theorem f18_0 : zz_fetch zz_prog 18 0 = some (.aload_n 0, 1, [], []) := zz_fetch_of p18 rfl rfl
theorem s18_0 : zz_Run zz_prog d 18 (0, [some (.ref a)], st, k, h) = zz_Run zz_prog d 18 (1, [some (.ref a)], .ref a :: st, k, h) := zz_k_num f18_0 rfl
theorem f18_1 : zz_fetch zz_prog 18 1 = some (.getfield 28, 3, [1, 7, 3], []) := zz_fetch_of p18 rfl rfl
theorem s18_1 : zz_Run zz_prog d 18 (1, [l0], .ref 5 :: st, k, (zz_hp n I J ex)) = zz_Run zz_prog d 18 (4, [l0], .ref 9 :: st, k, (zz_hp n I J ex)) := zz_k_go f18_1 rfl rfl rfl
theorem f18_4 : zz_fetch zz_prog 18 4 = some (.getfield 89, 3, [0, 0, 0], []) := zz_fetch_of p18 rfl rfl
theorem s18_4 : zz_Run zz_prog d 18 (4, [l0], .ref 9 :: st, k, (zz_hp n I J ex)) = zz_Run zz_prog d 18 (7, [l0], .int (I 9 0) :: st, k, (zz_hp n I J ex)) := zz_k_go f18_4 rfl rfl rfl
theorem s18_4b : zz_Run zz_prog d 18 (4, [l0], .ref 16 :: st, k, (zz_hp n I J ex)) = zz_Run zz_prog d 18 (7, [l0], .int (I 16 0) :: st, k, (zz_hp n I J ex)) := zz_k_go f18_4 rfl rfl rfl
theorem f18_7 : zz_fetch zz_prog 18 7 = some (.bipush 8, 2, [], []) := zz_fetch_of p18 rfl rfl
theorem s18_7 : zz_Run zz_prog d 18 (7, [l0], st, k, h) = zz_Run zz_prog d 18 (9, [l0], .int 8 :: st, k, h) := zz_k_num f18_7 (congrArg (fun u => some (9, [l0], Value.int u :: st)) (by decide : (Int8.ofInt 8).toInt32 = 8))
theorem f18_9 : zz_fetch zz_prog 18 9 = some (.if_icmp .ne 13, 3, [22], []) := zz_fetch_of p18 rfl rfl
theorem s18_9 : zz_Run zz_prog d 18 (9, [l0], .int w :: .int v :: st, k, h) = if ¬ v = w then zz_Run zz_prog d 18 (22, [l0], st, k, h) else zz_Run zz_prog d 18 (12, [l0], st, k, h) := zz_k_br (¬ v = w) rfl (zz_k_num f18_9 rfl)
theorem f18_12 : zz_fetch zz_prog 18 12 = some (.aload_n 0, 1, [], []) := zz_fetch_of p18 rfl rfl
theorem s18_12 : zz_Run zz_prog d 18 (12, [some (.ref a)], st, k, h) = zz_Run zz_prog d 18 (13, [some (.ref a)], .ref a :: st, k, h) := zz_k_num f18_12 rfl
theorem f18_13 : zz_fetch zz_prog 18 13 = some (.getfield 28, 3, [1, 7, 3], []) := zz_fetch_of p18 rfl rfl
theorem s18_13 : zz_Run zz_prog d 18 (13, [l0], .ref 5 :: st, k, (zz_hp n I J ex)) = zz_Run zz_prog d 18 (16, [l0], .ref 9 :: st, k, (zz_hp n I J ex)) := zz_k_go f18_13 rfl rfl rfl
theorem f18_16 : zz_fetch zz_prog 18 16 = some (.getfield 86, 3, [0, 1, 0], []) := zz_fetch_of p18 rfl rfl
theorem s18_16 : zz_Run zz_prog d 18 (16, [l0], .ref 9 :: st, k, (zz_hp n I J ex)) = zz_Run zz_prog d 18 (19, [l0], .int (I 9 1) :: st, k, (zz_hp n I J ex)) := zz_k_go f18_16 rfl rfl rfl
theorem s18_16b : zz_Run zz_prog d 18 (16, [l0], .ref 16 :: st, k, (zz_hp n I J ex)) = zz_Run zz_prog d 18 (19, [l0], .int (I 16 1) :: st, k, (zz_hp n I J ex)) := zz_k_go f18_16 rfl rfl rfl
theorem f18_19 : zz_fetch zz_prog 18 19 = some (.goto 4, 3, [23], []) := zz_fetch_of p18 rfl rfl
theorem s18_19 : zz_Run zz_prog d 18 (19, [l0], st, k, h) = zz_Run zz_prog d 18 (23, [l0], st, k, h) := zz_k_num f18_19 rfl
theorem f18_22 : zz_fetch zz_prog 18 22 = some (.iconst (-1), 1, [], []) := zz_fetch_of p18 rfl rfl
theorem s18_22 : zz_Run zz_prog d 18 (22, [l0], st, k, h) = zz_Run zz_prog d 18 (23, [l0], .int (-1) :: st, k, h) := zz_k_num f18_22 rfl
theorem f18_23 : zz_fetch zz_prog 18 23 = some (.ireturn, 1, [0], []) := zz_fetch_of p18 rfl rfl
theorem s18_23 : zz_Run zz_prog d 18 (23, [l0], [.int v], k, h) = some (.inl (some (.int v)), k, h) := zz_k_stop f18_23 rfl rfl rfl
end S18
section S19
variable {d n j : Nat} {l0 l1 l2 : Option Value} {st : List Value} {k : Bool} {h : zz_H} {v w v1 v2 : Int32} {y y1 : Int64} {a a1 a2 : Nat} {b0 b1 b2 b3 b4 b5 b6 b7 b8 : Value} {I : Nat → Nat → Int32} {J : Nat → Nat → Int64} {ex : List (Nat × Nat)}
theorem p19 : zz_prog 19 = some zz_m19 := rfl
theorem e19 (g0 : Nat) (g1 : Int32) (g2 : Int32) : zz_Call zz_prog (d + 1) 19 [.ref g0, .int g1, .int g2] h = zz_Run zz_prog d 19 (0, [some (.ref g0), some (.int g1), some (.int g2)], [], true, h) := rfl
theorem t19 (pc : Nat) (L : List (Option Value)) : zz_th d 19 pc a L k h = some (.inr a, k, h) := zz_th_out p19 rfl
theorem f19_0 : zz_fetch zz_prog 19 0 = some (.iload_n 1, 1, [], []) := zz_fetch_of p19 rfl rfl
theorem s19_0 : zz_Run zz_prog d 19 (0, [l0, some (.int v), l2], st, k, h) = zz_Run zz_prog d 19 (1, [l0, some (.int v), l2], .int v :: st, k, h) := zz_k_num f19_0 rfl
theorem f19_1 : zz_fetch zz_prog 19 1 = some (.iconst (-1), 1, [], []) := zz_fetch_of p19 rfl rfl
theorem s19_1 : zz_Run zz_prog d 19 (1, [l0, l1, l2], st, k, h) = zz_Run zz_prog d 19 (2, [l0, l1, l2], .int (-1) :: st, k, h) := zz_k_num f19_1 rfl
theorem f19_2 : zz_fetch zz_prog 19 2 = some (.if_icmp .eq 11, 3, [13], []) := zz_fetch_of p19 rfl rfl
theorem s19_2 : zz_Run zz_prog d 19 (2, [l0, l1, l2], .int w :: .int v :: st, k, h) = if v = w then zz_Run zz_prog d 19 (13, [l0, l1, l2], st, k, h) else zz_Run zz_prog d 19 (5, [l0, l1, l2], st, k, h) := zz_k_br (v = w) rfl (zz_k_num f19_2 rfl)
theorem f19_5 : zz_fetch zz_prog 19 5 = some (.aload_n 0, 1, [], []) := zz_fetch_of p19 rfl rfl
theorem s19_5 : zz_Run zz_prog d 19 (5, [some (.ref a), l1, l2], st, k, h) = zz_Run zz_prog d 19 (6, [some (.ref a), l1, l2], .ref a :: st, k, h) := zz_k_num f19_5 rfl
theorem f19_6 : zz_fetch zz_prog 19 6 = some (.iload_n 1, 1, [], []) := zz_fetch_of p19 rfl rfl
theorem s19_6 : zz_Run zz_prog d 19 (6, [l0, some (.int v), l2], st, k, h) = zz_Run zz_prog d 19 (7, [l0, some (.int v), l2], .int v :: st, k, h) := zz_k_num f19_6 rfl
theorem f19_7 : zz_fetch zz_prog 19 7 = some (.invokevirtual 126, 3, [0, 29, 2, 1], []) := zz_fetch_of p19 rfl rfl
theorem s19_7 : zz_Run zz_prog d 19 (7, [l0, l1, l2], [b0, .ref 5], k, (zz_hp n I J ex)) = zz_ret (zz_Call zz_prog d 29 [.ref 5, b0] (zz_hp n I J ex)) (fun v k' h' => zz_Run zz_prog d 19 (10, [l0, l1, l2], v.toList ++ [], k && k', h')) (fun a k' h' => zz_th d 19 7 a [l0, l1, l2] (k && k') h') := zz_k_call f19_7 rfl rfl rfl
theorem f19_10 : zz_fetch zz_prog 19 10 = some (.ifCond .eq 10, 3, [20], []) := zz_fetch_of p19 rfl rfl
theorem s19_10 : zz_Run zz_prog d 19 (10, [l0, l1, l2], .int v :: st, k, h) = if v = 0 then zz_Run zz_prog d 19 (20, [l0, l1, l2], st, k, h) else zz_Run zz_prog d 19 (13, [l0, l1, l2], st, k, h) := zz_k_br (v = 0) rfl (zz_k_num f19_10 rfl)
theorem f19_13 : zz_fetch zz_prog 19 13 = some (.iload_n 2, 1, [], []) := zz_fetch_of p19 rfl rfl
theorem s19_13 : zz_Run zz_prog d 19 (13, [l0, l1, some (.int v)], st, k, h) = zz_Run zz_prog d 19 (14, [l0, l1, some (.int v)], .int v :: st, k, h) := zz_k_num f19_13 rfl
theorem f19_14 : zz_fetch zz_prog 19 14 = some (.invokestatic 129, 3, [0, 31, 1], []) := zz_fetch_of p19 rfl rfl
theorem s19_14 : zz_Run zz_prog d 19 (14, [l0, l1, l2], [b0], k, h) = zz_ret (zz_Call zz_prog d 31 [b0] h) (fun v k' h' => zz_Run zz_prog d 19 (17, [l0, l1, l2], v.toList ++ [], k && k', h')) (fun a k' h' => zz_th d 19 14 a [l0, l1, l2] (k && k') h') := zz_k_call f19_14 rfl rfl rfl
theorem f19_17 : zz_fetch zz_prog 19 17 = some (.ifCond .ne 11, 3, [28], []) := zz_fetch_of p19 rfl rfl
theorem s19_17 : zz_Run zz_prog d 19 (17, [l0, l1, l2], .int v :: st, k, h) = if ¬ v = 0 then zz_Run zz_prog d 19 (28, [l0, l1, l2], st, k, h) else zz_Run zz_prog d 19 (20, [l0, l1, l2], st, k, h) := zz_k_br (¬ v = 0) rfl (zz_k_num f19_17 rfl)
theorem f19_20 : zz_fetch zz_prog 19 20 = some (.new 218, 3, [4, 6], []) := zz_fetch_of p19 rfl rfl
theorem s19_20 : zz_Run zz_prog d 19 (20, [l0, l1, l2], [], true, (zz_hp n I J ex)) = some (.inr (zz_exa ex), false, zz_hp n I J (ex ++ [(4, 6)])) := zz_k_throw f19_20 (by simp)
theorem f19_28 : zz_fetch zz_prog 19 28 = some (.aload_n 0, 1, [], []) := zz_fetch_of p19 rfl rfl
theorem s19_28 : zz_Run zz_prog d 19 (28, [some (.ref a), l1, l2], st, k, h) = zz_Run zz_prog d 19 (29, [some (.ref a), l1, l2], .ref a :: st, k, h) := zz_k_num f19_28 rfl
theorem f19_29 : zz_fetch zz_prog 19 29 = some (.iload_n 1, 1, [], []) := zz_fetch_of p19 rfl rfl
theorem s19_29 : zz_Run zz_prog d 19 (29, [l0, some (.int v), l2], st, k, h) = zz_Run zz_prog d 19 (30, [l0, some (.int v), l2], .int v :: st, k, h) := zz_k_num f19_29 rfl
theorem f19_30 : zz_fetch zz_prog 19 30 = some (.iconst (-1), 1, [], []) := zz_fetch_of p19 rfl rfl
theorem s19_30 : zz_Run zz_prog d 19 (30, [l0, l1, l2], st, k, h) = zz_Run zz_prog d 19 (31, [l0, l1, l2], .int (-1) :: st, k, h) := zz_k_num f19_30 rfl
theorem f19_31 : zz_fetch zz_prog 19 31 = some (.if_icmp .ne 7, 3, [38], []) := zz_fetch_of p19 rfl rfl
theorem s19_31 : zz_Run zz_prog d 19 (31, [l0, l1, l2], .int w :: .int v :: st, k, h) = if ¬ v = w then zz_Run zz_prog d 19 (38, [l0, l1, l2], st, k, h) else zz_Run zz_prog d 19 (34, [l0, l1, l2], st, k, h) := zz_k_br (¬ v = w) rfl (zz_k_num f19_31 rfl)
theorem f19_34 : zz_fetch zz_prog 19 34 = some (.iconst 4, 1, [], []) := zz_fetch_of p19 rfl rfl
theorem s19_34 : zz_Run zz_prog d 19 (34, [l0, l1, l2], st, k, h) = zz_Run zz_prog d 19 (35, [l0, l1, l2], .int 4 :: st, k, h) := zz_k_num f19_34 rfl
theorem f19_35 : zz_fetch zz_prog 19 35 = some (.goto 4, 3, [39], []) := zz_fetch_of p19 rfl rfl
theorem s19_35 : zz_Run zz_prog d 19 (35, [l0, l1, l2], st, k, h) = zz_Run zz_prog d 19 (39, [l0, l1, l2], st, k, h) := zz_k_num f19_35 rfl
theorem f19_38 : zz_fetch zz_prog 19 38 = some (.iload_n 1, 1, [], []) := zz_fetch_of p19 rfl rfl
theorem s19_38 : zz_Run zz_prog d 19 (38, [l0, some (.int v), l2], st, k, h) = zz_Run zz_prog d 19 (39, [l0, some (.int v), l2], .int v :: st, k, h) := zz_k_num f19_38 rfl
theorem f19_39 : zz_fetch zz_prog 19 39 = some (.iload_n 2, 1, [], []) := zz_fetch_of p19 rfl rfl
theorem s19_39 : zz_Run zz_prog d 19 (39, [l0, l1, some (.int v)], st, k, h) = zz_Run zz_prog d 19 (40, [l0, l1, some (.int v)], .int v :: st, k, h) := zz_k_num f19_39 rfl
theorem f19_40 : zz_fetch zz_prog 19 40 = some (.invokevirtual 135, 3, [0, 42, 3, 1], []) := zz_fetch_of p19 rfl rfl
theorem s19_40 : zz_Run zz_prog d 19 (40, [l0, l1, l2], [b0, b1, .ref 5], k, (zz_hp n I J ex)) = zz_ret (zz_Call zz_prog d 42 [.ref 5, b1, b0] (zz_hp n I J ex)) (fun v k' h' => zz_Run zz_prog d 19 (43, [l0, l1, l2], v.toList ++ [], k && k', h')) (fun a k' h' => zz_th d 19 40 a [l0, l1, l2] (k && k') h') := zz_k_call f19_40 rfl rfl rfl
theorem f19_43 : zz_fetch zz_prog 19 43 = some (.ireturn, 1, [0], []) := zz_fetch_of p19 rfl rfl
theorem s19_43 : zz_Run zz_prog d 19 (43, [l0, l1, l2], [.int v], k, h) = some (.inl (some (.int v)), k, h) := zz_k_stop f19_43 rfl rfl rfl
end S19
section S20
variable {d n j : Nat} {l0 l1 l2 : Option Value} {st : List Value} {k : Bool} {h : zz_H} {v w v1 v2 : Int32} {y y1 : Int64} {a a1 a2 : Nat} {b0 b1 b2 b3 b4 b5 b6 b7 b8 : Value} {I : Nat → Nat → Int32} {J : Nat → Nat → Int64} {ex : List (Nat × Nat)}
theorem p20 : zz_prog 20 = some zz_m20 := rfl
theorem e20 (g0 : Nat) (g1 : Int32) (g2 : Int32) : zz_Call zz_prog (d + 1) 20 [.ref g0, .int g1, .int g2] h = zz_Run zz_prog d 20 (0, [some (.ref g0), some (.int g1), some (.int g2)], [], true, h) := rfl
theorem t20 (pc : Nat) (L : List (Option Value)) : zz_th d 20 pc a L k h = some (.inr a, k, h) := zz_th_out p20 rfl
theorem f20_0 : zz_fetch zz_prog 20 0 = some (.aload_n 0, 1, [], []) := zz_fetch_of p20 rfl rfl
theorem s20_0 : zz_Run zz_prog d 20 (0, [some (.ref a), l1, l2], st, k, h) = zz_Run zz_prog d 20 (1, [some (.ref a), l1, l2], .ref a :: st, k, h) := zz_k_num f20_0 rfl
theorem f20_1 : zz_fetch zz_prog 20 1 = some (.iload_n 1, 1, [], []) := zz_fetch_of p20 rfl rfl
theorem s20_1 : zz_Run zz_prog d 20 (1, [l0, some (.int v), l2], st, k, h) = zz_Run zz_prog d 20 (2, [l0, some (.int v), l2], .int v :: st, k, h) := zz_k_num f20_1 rfl
theorem f20_2 : zz_fetch zz_prog 20 2 = some (.invokevirtual 221, 3, [0, 28, 2, 1], []) := zz_fetch_of p20 rfl rfl
theorem s20_2 : zz_Run zz_prog d 20 (2, [l0, l1, l2], [b0, .ref 5], k, (zz_hp n I J ex)) = zz_ret (zz_Call zz_prog d 28 [.ref 5, b0] (zz_hp n I J ex)) (fun v k' h' => zz_Run zz_prog d 20 (5, [l0, l1, l2], v.toList ++ [], k && k', h')) (fun a k' h' => zz_th d 20 2 a [l0, l1, l2] (k && k') h') := zz_k_call f20_2 rfl rfl rfl
theorem f20_5 : zz_fetch zz_prog 20 5 = some (.iload_n 2, 1, [], []) := zz_fetch_of p20 rfl rfl
theorem s20_5 : zz_Run zz_prog d 20 (5, [l0, l1, some (.int v)], st, k, h) = zz_Run zz_prog d 20 (6, [l0, l1, some (.int v)], .int v :: st, k, h) := zz_k_num f20_5 rfl
theorem f20_6 : zz_fetch zz_prog 20 6 = some (.ifCond .lt 8, 3, [14], []) := zz_fetch_of p20 rfl rfl
theorem s20_6 : zz_Run zz_prog d 20 (6, [l0, l1, l2], .int v :: st, k, h) = if v < 0 then zz_Run zz_prog d 20 (14, [l0, l1, l2], st, k, h) else zz_Run zz_prog d 20 (9, [l0, l1, l2], st, k, h) := zz_k_br (v < 0) rfl (zz_k_num f20_6 rfl)
theorem f20_9 : zz_fetch zz_prog 20 9 = some (.iload_n 2, 1, [], []) := zz_fetch_of p20 rfl rfl
theorem s20_9 : zz_Run zz_prog d 20 (9, [l0, l1, some (.int v)], st, k, h) = zz_Run zz_prog d 20 (10, [l0, l1, some (.int v)], .int v :: st, k, h) := zz_k_num f20_9 rfl
theorem f20_10 : zz_fetch zz_prog 20 10 = some (.iconst 5, 1, [], []) := zz_fetch_of p20 rfl rfl
theorem s20_10 : zz_Run zz_prog d 20 (10, [l0, l1, l2], st, k, h) = zz_Run zz_prog d 20 (11, [l0, l1, l2], .int 5 :: st, k, h) := zz_k_num f20_10 rfl
theorem f20_11 : zz_fetch zz_prog 20 11 = some (.if_icmp .lt 11, 3, [22], []) := zz_fetch_of p20 rfl rfl
theorem s20_11 : zz_Run zz_prog d 20 (11, [l0, l1, l2], .int w :: .int v :: st, k, h) = if v < w then zz_Run zz_prog d 20 (22, [l0, l1, l2], st, k, h) else zz_Run zz_prog d 20 (14, [l0, l1, l2], st, k, h) := zz_k_br (v < w) rfl (zz_k_num f20_11 rfl)
theorem f20_14 : zz_fetch zz_prog 20 14 = some (.new 218, 3, [4, 6], []) := zz_fetch_of p20 rfl rfl
theorem s20_14 : zz_Run zz_prog d 20 (14, [l0, l1, l2], [], true, (zz_hp n I J ex)) = some (.inr (zz_exa ex), false, zz_hp n I J (ex ++ [(4, 6)])) := zz_k_throw f20_14 (by simp)
theorem f20_22 : zz_fetch zz_prog 20 22 = some (.aload_n 0, 1, [], []) := zz_fetch_of p20 rfl rfl
theorem s20_22 : zz_Run zz_prog d 20 (22, [some (.ref a), l1, l2], st, k, h) = zz_Run zz_prog d 20 (23, [some (.ref a), l1, l2], .ref a :: st, k, h) := zz_k_num f20_22 rfl
theorem f20_23 : zz_fetch zz_prog 20 23 = some (.getfield 28, 3, [1, 7, 3], []) := zz_fetch_of p20 rfl rfl
theorem s20_23 : zz_Run zz_prog d 20 (23, [l0, l1, l2], .ref 5 :: st, k, (zz_hp n I J ex)) = zz_Run zz_prog d 20 (26, [l0, l1, l2], .ref 9 :: st, k, (zz_hp n I J ex)) := zz_k_go f20_23 rfl rfl rfl
theorem f20_26 : zz_fetch zz_prog 20 26 = some (.getfield 188, 3, [0, 15, 3], []) := zz_fetch_of p20 rfl rfl
theorem s20_26 : zz_Run zz_prog d 20 (26, [l0, l1, l2], .ref 9 :: st, k, (zz_hp n I J ex)) = zz_Run zz_prog d 20 (29, [l0, l1, l2], .ref 13 :: st, k, (zz_hp n I J ex)) := zz_k_go f20_26 rfl rfl rfl
theorem s20_26b : zz_Run zz_prog d 20 (26, [l0, l1, l2], .ref 16 :: st, k, (zz_hp n I J ex)) = zz_Run zz_prog d 20 (29, [l0, l1, l2], .ref 20 :: st, k, (zz_hp n I J ex)) := zz_k_go f20_26 rfl rfl rfl
theorem f20_29 : zz_fetch zz_prog 20 29 = some (.iload_n 1, 1, [], []) := zz_fetch_of p20 rfl rfl
theorem s20_29 : zz_Run zz_prog d 20 (29, [l0, some (.int v), l2], st, k, h) = zz_Run zz_prog d 20 (30, [l0, some (.int v), l2], .int v :: st, k, h) := zz_k_num f20_29 rfl
theorem f20_30 : zz_fetch zz_prog 20 30 = some (.iconst 5, 1, [], []) := zz_fetch_of p20 rfl rfl
theorem s20_30 : zz_Run zz_prog d 20 (30, [l0, l1, l2], st, k, h) = zz_Run zz_prog d 20 (31, [l0, l1, l2], .int 5 :: st, k, h) := zz_k_num f20_30 rfl
theorem f20_31 : zz_fetch zz_prog 20 31 = some (.imul, 1, [], []) := zz_fetch_of p20 rfl rfl
theorem s20_31 : zz_Run zz_prog d 20 (31, [l0, l1, l2], .int w :: .int v :: st, k, h) = zz_Run zz_prog d 20 (32, [l0, l1, l2], .int (v * w) :: st, k, h) := zz_k_num f20_31 rfl
theorem f20_32 : zz_fetch zz_prog 20 32 = some (.iload_n 2, 1, [], []) := zz_fetch_of p20 rfl rfl
theorem s20_32 : zz_Run zz_prog d 20 (32, [l0, l1, some (.int v)], st, k, h) = zz_Run zz_prog d 20 (33, [l0, l1, some (.int v)], .int v :: st, k, h) := zz_k_num f20_32 rfl
theorem f20_33 : zz_fetch zz_prog 20 33 = some (.iadd, 1, [], []) := zz_fetch_of p20 rfl rfl
theorem s20_33 : zz_Run zz_prog d 20 (33, [l0, l1, l2], .int w :: .int v :: st, k, h) = zz_Run zz_prog d 20 (34, [l0, l1, l2], .int (v + w) :: st, k, h) := zz_k_num f20_33 rfl
theorem f20_34 : zz_fetch zz_prog 20 34 = some (.iaload, 1, [], []) := zz_fetch_of p20 rfl rfl
theorem s20_34 (ha : zz_isrd a = true) : zz_Run zz_prog d 20 (34, [l0, l1, l2], .int v :: .ref a :: st, k, (zz_hp n I J ex)) = zz_ck (zz_in v (zz_ary n a)) (zz_Run zz_prog d 20 (35, [l0, l1, l2], .int (I a v.toNatClampNeg) :: st, k, (zz_hp n I J ex))) := zz_k_iald f20_34 ha
theorem f20_35 : zz_fetch zz_prog 20 35 = some (.ireturn, 1, [0], []) := zz_fetch_of p20 rfl rfl
theorem s20_35 : zz_Run zz_prog d 20 (35, [l0, l1, l2], [.int v], k, h) = some (.inl (some (.int v)), k, h) := zz_k_stop f20_35 rfl rfl rfl
end S20
section S21
variable {d n j : Nat} {l0 l1 : Option Value} {st : List Value} {k : Bool} {h : zz_H} {v w v1 v2 : Int32} {y y1 : Int64} {a a1 a2 : Nat} {b0 b1 b2 b3 b4 b5 b6 b7 b8 : Value} {I : Nat → Nat → Int32} {J : Nat → Nat → Int64} {ex : List (Nat × Nat)}
theorem p21 : zz_prog 21 = some zz_m21 := rfl
theorem e21 (g0 : Nat) (g1 : Int32) : zz_Call zz_prog (d + 1) 21 [.ref g0, .int g1] h = zz_Run zz_prog d 21 (0, [some (.ref g0), some (.int g1)], [], true, h) := rfl
theorem t21 (pc : Nat) (L : List (Option Value)) : zz_th d 21 pc a L k h = some (.inr a, k, h) := zz_th_out p21 rfl
theorem f21_0 : zz_fetch zz_prog 21 0 = some (.aload_n 0, 1, [], []) := zz_fetch_of p21 rfl rfl
theorem s21_0 : zz_Run zz_prog d 21 (0, [some (.ref a), l1], st, k, h) = zz_Run zz_prog d 21 (1, [some (.ref a), l1], .ref a :: st, k, h) := zz_k_num f21_0 rfl
theorem f21_1 : zz_fetch zz_prog 21 1 = some (.iload_n 1, 1, [], []) := zz_fetch_of p21 rfl rfl
theorem s21_1 : zz_Run zz_prog d 21 (1, [l0, some (.int v)], st, k, h) = zz_Run zz_prog d 21 (2, [l0, some (.int v)], .int v :: st, k, h) := zz_k_num f21_1 rfl
theorem f21_2 : zz_fetch zz_prog 21 2 = some (.invokevirtual 221, 3, [0, 28, 2, 1], []) := zz_fetch_of p21 rfl rfl
theorem s21_2 : zz_Run zz_prog d 21 (2, [l0, l1], [b0, .ref 5], k, (zz_hp n I J ex)) = zz_ret (zz_Call zz_prog d 28 [.ref 5, b0] (zz_hp n I J ex)) (fun v k' h' => zz_Run zz_prog d 21 (5, [l0, l1], v.toList ++ [], k && k', h')) (fun a k' h' => zz_th d 21 2 a [l0, l1] (k && k') h') := zz_k_call f21_2 rfl rfl rfl
theorem f21_5 : zz_fetch zz_prog 21 5 = some (.aload_n 0, 1, [], []) := zz_fetch_of p21 rfl rfl
theorem s21_5 : zz_Run zz_prog d 21 (5, [some (.ref a), l1], st, k, h) = zz_Run zz_prog d 21 (6, [some (.ref a), l1], .ref a :: st, k, h) := zz_k_num f21_5 rfl
theorem f21_6 : zz_fetch zz_prog 21 6 = some (.iload_n 1, 1, [], []) := zz_fetch_of p21 rfl rfl
theorem s21_6 : zz_Run zz_prog d 21 (6, [l0, some (.int v)], st, k, h) = zz_Run zz_prog d 21 (7, [l0, some (.int v)], .int v :: st, k, h) := zz_k_num f21_6 rfl
theorem f21_7 : zz_fetch zz_prog 21 7 = some (.invokevirtual 114, 3, [0, 80, 2, 1], []) := zz_fetch_of p21 rfl rfl
theorem s21_7 : zz_Run zz_prog d 21 (7, [l0, l1], [b0, .ref 5], k, (zz_hp n I J ex)) = zz_ret (zz_Call zz_prog d 80 [.ref 5, b0] (zz_hp n I J ex)) (fun v k' h' => zz_Run zz_prog d 21 (10, [l0, l1], v.toList ++ [], k && k', h')) (fun a k' h' => zz_th d 21 7 a [l0, l1] (k && k') h') := zz_k_call f21_7 rfl rfl rfl
theorem f21_10 : zz_fetch zz_prog 21 10 = some (.ireturn, 1, [0], []) := zz_fetch_of p21 rfl rfl
theorem s21_10 : zz_Run zz_prog d 21 (10, [l0, l1], [.int v], k, h) = some (.inl (some (.int v)), k, h) := zz_k_stop f21_10 rfl rfl rfl
end S21
section S22
variable {d n j : Nat} {l0 l1 : Option Value} {st : List Value} {k : Bool} {h : zz_H} {v w v1 v2 : Int32} {y y1 : Int64} {a a1 a2 : Nat} {b0 b1 b2 b3 b4 b5 b6 b7 b8 : Value} {I : Nat → Nat → Int32} {J : Nat → Nat → Int64} {ex : List (Nat × Nat)}
theorem p22 : zz_prog 22 = some zz_m22 := rfl
theorem e22 (g0 : Nat) (g1 : Int32) : zz_Call zz_prog (d + 1) 22 [.ref g0, .int g1] h = zz_Run zz_prog d 22 (0, [some (.ref g0), some (.int g1)], [], true, h) := rfl
theorem t22 (pc : Nat) (L : List (Option Value)) : zz_th d 22 pc a L k h = some (.inr a, k, h) := zz_th_out p22 rfl
theorem f22_0 : zz_fetch zz_prog 22 0 = some (.aload_n 0, 1, [], []) := zz_fetch_of p22 rfl rfl
theorem s22_0 : zz_Run zz_prog d 22 (0, [some (.ref a), l1], st, k, h) = zz_Run zz_prog d 22 (1, [some (.ref a), l1], .ref a :: st, k, h) := zz_k_num f22_0 rfl
theorem f22_1 : zz_fetch zz_prog 22 1 = some (.iload_n 1, 1, [], []) := zz_fetch_of p22 rfl rfl
theorem s22_1 : zz_Run zz_prog d 22 (1, [l0, some (.int v)], st, k, h) = zz_Run zz_prog d 22 (2, [l0, some (.int v)], .int v :: st, k, h) := zz_k_num f22_1 rfl
theorem f22_2 : zz_fetch zz_prog 22 2 = some (.invokevirtual 221, 3, [0, 28, 2, 1], []) := zz_fetch_of p22 rfl rfl
theorem s22_2 : zz_Run zz_prog d 22 (2, [l0, l1], [b0, .ref 5], k, (zz_hp n I J ex)) = zz_ret (zz_Call zz_prog d 28 [.ref 5, b0] (zz_hp n I J ex)) (fun v k' h' => zz_Run zz_prog d 22 (5, [l0, l1], v.toList ++ [], k && k', h')) (fun a k' h' => zz_th d 22 2 a [l0, l1] (k && k') h') := zz_k_call f22_2 rfl rfl rfl
theorem f22_5 : zz_fetch zz_prog 22 5 = some (.aload_n 0, 1, [], []) := zz_fetch_of p22 rfl rfl
theorem s22_5 : zz_Run zz_prog d 22 (5, [some (.ref a), l1], st, k, h) = zz_Run zz_prog d 22 (6, [some (.ref a), l1], .ref a :: st, k, h) := zz_k_num f22_5 rfl
theorem f22_6 : zz_fetch zz_prog 22 6 = some (.iload_n 1, 1, [], []) := zz_fetch_of p22 rfl rfl
theorem s22_6 : zz_Run zz_prog d 22 (6, [l0, some (.int v)], st, k, h) = zz_Run zz_prog d 22 (7, [l0, some (.int v)], .int v :: st, k, h) := zz_k_num f22_6 rfl
theorem f22_7 : zz_fetch zz_prog 22 7 = some (.invokevirtual 224, 3, [0, 81, 2, 1], []) := zz_fetch_of p22 rfl rfl
theorem s22_7 : zz_Run zz_prog d 22 (7, [l0, l1], [b0, .ref 5], k, (zz_hp n I J ex)) = zz_ret (zz_Call zz_prog d 81 [.ref 5, b0] (zz_hp n I J ex)) (fun v k' h' => zz_Run zz_prog d 22 (10, [l0, l1], v.toList ++ [], k && k', h')) (fun a k' h' => zz_th d 22 7 a [l0, l1] (k && k') h') := zz_k_call f22_7 rfl rfl rfl
theorem f22_10 : zz_fetch zz_prog 22 10 = some (.ireturn, 1, [0], []) := zz_fetch_of p22 rfl rfl
theorem s22_10 : zz_Run zz_prog d 22 (10, [l0, l1], [.int v], k, h) = some (.inl (some (.int v)), k, h) := zz_k_stop f22_10 rfl rfl rfl
end S22
section S23
variable {d n j : Nat} {l0 : Option Value} {st : List Value} {k : Bool} {h : zz_H} {v w v1 v2 : Int32} {y y1 : Int64} {a a1 a2 : Nat} {b0 b1 b2 b3 b4 b5 b6 b7 b8 : Value} {I : Nat → Nat → Int32} {J : Nat → Nat → Int64} {ex : List (Nat × Nat)}
theorem p23 : zz_prog 23 = some zz_m23 := rfl
theorem e23 (g0 : Nat) : zz_Call zz_prog (d + 1) 23 [.ref g0] h = zz_Run zz_prog d 23 (0, [some (.ref g0)], [], true, h) := rfl
theorem t23 (pc : Nat) (L : List (Option Value)) : zz_th d 23 pc a L k h = some (.inr a, k, h) := zz_th_out p23 rfl
theorem f23_0 : zz_fetch zz_prog 23 0 = some (.aload_n 0, 1, [], []) := zz_fetch_of p23 rfl rfl
theorem s23_0 : zz_Run zz_prog d 23 (0, [some (.ref a)], st, k, h) = zz_Run zz_prog d 23 (1, [some (.ref a)], .ref a :: st, k, h) := zz_k_num f23_0 rfl
theorem f23_1 : zz_fetch zz_prog 23 1 = some (.getfield 28, 3, [1, 7, 3], []) := zz_fetch_of p23 rfl rfl
theorem s23_1 : zz_Run zz_prog d 23 (1, [l0], .ref 5 :: st, k, (zz_hp n I J ex)) = zz_Run zz_prog d 23 (4, [l0], .ref 9 :: st, k, (zz_hp n I J ex)) := zz_k_go f23_1 rfl rfl rfl
theorem f23_4 : zz_fetch zz_prog 23 4 = some (.getfield 227, 3, [0, 10, 0], []) := zz_fetch_of p23 rfl rfl
theorem s23_4 : zz_Run zz_prog d 23 (4, [l0], .ref 9 :: st, k, (zz_hp n I J ex)) = zz_Run zz_prog d 23 (7, [l0], .int (I 9 10) :: st, k, (zz_hp n I J ex)) := zz_k_go f23_4 rfl rfl rfl
theorem s23_4b : zz_Run zz_prog d 23 (4, [l0], .ref 16 :: st, k, (zz_hp n I J ex)) = zz_Run zz_prog d 23 (7, [l0], .int (I 16 10) :: st, k, (zz_hp n I J ex)) := zz_k_go f23_4 rfl rfl rfl
theorem f23_7 : zz_fetch zz_prog 23 7 = some (.ireturn, 1, [0], []) := zz_fetch_of p23 rfl rfl
theorem s23_7 : zz_Run zz_prog d 23 (7, [l0], [.int v], k, h) = some (.inl (some (.int v)), k, h) := zz_k_stop f23_7 rfl rfl rfl
end S23
section S24
variable {d n j : Nat} {l0 l1 l2 : Option Value} {st : List Value} {k : Bool} {h : zz_H} {v w v1 v2 : Int32} {y y1 : Int64} {a a1 a2 : Nat} {b0 b1 b2 b3 b4 b5 b6 b7 b8 : Value} {I : Nat → Nat → Int32} {J : Nat → Nat → Int64} {ex : List (Nat × Nat)}
theorem p24 : zz_prog 24 = some zz_m24 := rfl
theorem e24 (g0 : Nat) (g1 : Int32) (g2 : Int32) : zz_Call zz_prog (d + 1) 24 [.ref g0, .int g1, .int g2] h = zz_Run zz_prog d 24 (0, [some (.ref g0), some (.int g1), some (.int g2)], [], true, h) := rfl
theorem t24 (pc : Nat) (L : List (Option Value)) : zz_th d 24 pc a L k h = some (.inr a, k, h) := zz_th_out p24 rfl
theorem f24_0 : zz_fetch zz_prog 24 0 = some (.iload_n 1, 1, [], []) := zz_fetch_of p24 rfl rfl
theorem s24_0 : zz_Run zz_prog d 24 (0, [l0, some (.int v), l2], st, k, h) = zz_Run zz_prog d 24 (1, [l0, some (.int v), l2], .int v :: st, k, h) := zz_k_num f24_0 rfl
theorem f24_1 : zz_fetch zz_prog 24 1 = some (.ifCond .eq 8, 3, [9], []) := zz_fetch_of p24 rfl rfl
theorem s24_1 : zz_Run zz_prog d 24 (1, [l0, l1, l2], .int v :: st, k, h) = if v = 0 then zz_Run zz_prog d 24 (9, [l0, l1, l2], st, k, h) else zz_Run zz_prog d 24 (4, [l0, l1, l2], st, k, h) := zz_k_br (v = 0) rfl (zz_k_num f24_1 rfl)
theorem f24_4 : zz_fetch zz_prog 24 4 = some (.iload_n 1, 1, [], []) := zz_fetch_of p24 rfl rfl
theorem s24_4 : zz_Run zz_prog d 24 (4, [l0, some (.int v), l2], st, k, h) = zz_Run zz_prog d 24 (5, [l0, some (.int v), l2], .int v :: st, k, h) := zz_k_num f24_4 rfl
theorem f24_5 : zz_fetch zz_prog 24 5 = some (.iconst 1, 1, [], []) := zz_fetch_of p24 rfl rfl
theorem s24_5 : zz_Run zz_prog d 24 (5, [l0, l1, l2], st, k, h) = zz_Run zz_prog d 24 (6, [l0, l1, l2], .int 1 :: st, k, h) := zz_k_num f24_5 rfl
theorem f24_6 : zz_fetch zz_prog 24 6 = some (.if_icmp .ne 11, 3, [17], []) := zz_fetch_of p24 rfl rfl
theorem s24_6 : zz_Run zz_prog d 24 (6, [l0, l1, l2], .int w :: .int v :: st, k, h) = if ¬ v = w then zz_Run zz_prog d 24 (17, [l0, l1, l2], st, k, h) else zz_Run zz_prog d 24 (9, [l0, l1, l2], st, k, h) := zz_k_br (¬ v = w) rfl (zz_k_num f24_6 rfl)
theorem f24_9 : zz_fetch zz_prog 24 9 = some (.iload_n 1, 1, [], []) := zz_fetch_of p24 rfl rfl
theorem s24_9 : zz_Run zz_prog d 24 (9, [l0, some (.int v), l2], st, k, h) = zz_Run zz_prog d 24 (10, [l0, some (.int v), l2], .int v :: st, k, h) := zz_k_num f24_9 rfl
theorem f24_10 : zz_fetch zz_prog 24 10 = some (.iload_n 2, 1, [], []) := zz_fetch_of p24 rfl rfl
theorem s24_10 : zz_Run zz_prog d 24 (10, [l0, l1, some (.int v)], st, k, h) = zz_Run zz_prog d 24 (11, [l0, l1, some (.int v)], .int v :: st, k, h) := zz_k_num f24_10 rfl
theorem f24_11 : zz_fetch zz_prog 24 11 = some (.invokestatic 57, 3, [0, 33, 2], []) := zz_fetch_of p24 rfl rfl
theorem s24_11 : zz_Run zz_prog d 24 (11, [l0, l1, l2], [b0, b1], k, h) = zz_ret (zz_Call zz_prog d 33 [b1, b0] h) (fun v k' h' => zz_Run zz_prog d 24 (14, [l0, l1, l2], v.toList ++ [], k && k', h')) (fun a k' h' => zz_th d 24 11 a [l0, l1, l2] (k && k') h') := zz_k_call f24_11 rfl rfl rfl
theorem f24_14 : zz_fetch zz_prog 24 14 = some (.ifCond .ne 11, 3, [25], []) := zz_fetch_of p24 rfl rfl
theorem s24_14 : zz_Run zz_prog d 24 (14, [l0, l1, l2], .int v :: st, k, h) = if ¬ v = 0 then zz_Run zz_prog d 24 (25, [l0, l1, l2], st, k, h) else zz_Run zz_prog d 24 (17, [l0, l1, l2], st, k, h) := zz_k_br (¬ v = 0) rfl (zz_k_num f24_14 rfl)
theorem f24_17 : zz_fetch zz_prog 24 17 = some (.new 218, 3, [4, 6], []) := zz_fetch_of p24 rfl rfl
theorem s24_17 : zz_Run zz_prog d 24 (17, [l0, l1, l2], [], true, (zz_hp n I J ex)) = some (.inr (zz_exa ex), false, zz_hp n I J (ex ++ [(4, 6)])) := zz_k_throw f24_17 (by simp)
theorem f24_25 : zz_fetch zz_prog 24 25 = some (.iload_n 1, 1, [], []) := zz_fetch_of p24 rfl rfl
theorem s24_25 : zz_Run zz_prog d 24 (25, [l0, some (.int v), l2], st, k, h) = zz_Run zz_prog d 24 (26, [l0, some (.int v), l2], .int v :: st, k, h) := zz_k_num f24_25 rfl
theorem f24_26 : zz_fetch zz_prog 24 26 = some (.ifCond .ne 15, 3, [41], []) := zz_fetch_of p24 rfl rfl
theorem s24_26 : zz_Run zz_prog d 24 (26, [l0, l1, l2], .int v :: st, k, h) = if ¬ v = 0 then zz_Run zz_prog d 24 (41, [l0, l1, l2], st, k, h) else zz_Run zz_prog d 24 (29, [l0, l1, l2], st, k, h) := zz_k_br (¬ v = 0) rfl (zz_k_num f24_26 rfl)
theorem f24_29 : zz_fetch zz_prog 24 29 = some (.aload_n 0, 1, [], []) := zz_fetch_of p24 rfl rfl
theorem s24_29 : zz_Run zz_prog d 24 (29, [some (.ref a), l1, l2], st, k, h) = zz_Run zz_prog d 24 (30, [some (.ref a), l1, l2], .ref a :: st, k, h) := zz_k_num f24_29 rfl
theorem f24_30 : zz_fetch zz_prog 24 30 = some (.getfield 28, 3, [1, 7, 3], []) := zz_fetch_of p24 rfl rfl
theorem s24_30 : zz_Run zz_prog d 24 (30, [l0, l1, l2], .ref 5 :: st, k, (zz_hp n I J ex)) = zz_Run zz_prog d 24 (33, [l0, l1, l2], .ref 9 :: st, k, (zz_hp n I J ex)) := zz_k_go f24_30 rfl rfl rfl
theorem f24_33 : zz_fetch zz_prog 24 33 = some (.getfield 230, 3, [0, 12, 3], []) := zz_fetch_of p24 rfl rfl
theorem s24_33 : zz_Run zz_prog d 24 (33, [l0, l1, l2], .ref 9 :: st, k, (zz_hp n I J ex)) = zz_Run zz_prog d 24 (36, [l0, l1, l2], .ref 10 :: st, k, (zz_hp n I J ex)) := zz_k_go f24_33 rfl rfl rfl
theorem s24_33b : zz_Run zz_prog d 24 (33, [l0, l1, l2], .ref 16 :: st, k, (zz_hp n I J ex)) = zz_Run zz_prog d 24 (36, [l0, l1, l2], .ref 17 :: st, k, (zz_hp n I J ex)) := zz_k_go f24_33 rfl rfl rfl
theorem f24_36 : zz_fetch zz_prog 24 36 = some (.iload_n 2, 1, [], []) := zz_fetch_of p24 rfl rfl
theorem s24_36 : zz_Run zz_prog d 24 (36, [l0, l1, some (.int v)], st, k, h) = zz_Run zz_prog d 24 (37, [l0, l1, some (.int v)], .int v :: st, k, h) := zz_k_num f24_36 rfl
theorem f24_37 : zz_fetch zz_prog 24 37 = some (.iaload, 1, [], []) := zz_fetch_of p24 rfl rfl
theorem s24_37 (ha : zz_isrd a = true) : zz_Run zz_prog d 24 (37, [l0, l1, l2], .int v :: .ref a :: st, k, (zz_hp n I J ex)) = zz_ck (zz_in v (zz_ary n a)) (zz_Run zz_prog d 24 (38, [l0, l1, l2], .int (I a v.toNatClampNeg) :: st, k, (zz_hp n I J ex))) := zz_k_iald f24_37 ha
theorem f24_38 : zz_fetch zz_prog 24 38 = some (.goto 12, 3, [50], []) := zz_fetch_of p24 rfl rfl
theorem s24_38 : zz_Run zz_prog d 24 (38, [l0, l1, l2], st, k, h) = zz_Run zz_prog d 24 (50, [l0, l1, l2], st, k, h) := zz_k_num f24_38 rfl
theorem f24_41 : zz_fetch zz_prog 24 41 = some (.aload_n 0, 1, [], []) := zz_fetch_of p24 rfl rfl
theorem s24_41 : zz_Run zz_prog d 24 (41, [some (.ref a), l1, l2], st, k, h) = zz_Run zz_prog d 24 (42, [some (.ref a), l1, l2], .ref a :: st, k, h) := zz_k_num f24_41 rfl
theorem f24_42 : zz_fetch zz_prog 24 42 = some (.getfield 28, 3, [1, 7, 3], []) := zz_fetch_of p24 rfl rfl
theorem s24_42 : zz_Run zz_prog d 24 (42, [l0, l1, l2], .ref 5 :: st, k, (zz_hp n I J ex)) = zz_Run zz_prog d 24 (45, [l0, l1, l2], .ref 9 :: st, k, (zz_hp n I J ex)) := zz_k_go f24_42 rfl rfl rfl
theorem f24_45 : zz_fetch zz_prog 24 45 = some (.getfield 233, 3, [0, 13, 3], []) := zz_fetch_of p24 rfl rfl
theorem s24_45 : zz_Run zz_prog d 24 (45, [l0, l1, l2], .ref 9 :: st, k, (zz_hp n I J ex)) = zz_Run zz_prog d 24 (48, [l0, l1, l2], .ref 11 :: st, k, (zz_hp n I J ex)) := zz_k_go f24_45 rfl rfl rfl
theorem s24_45b : zz_Run zz_prog d 24 (45, [l0, l1, l2], .ref 16 :: st, k, (zz_hp n I J ex)) = zz_Run zz_prog d 24 (48, [l0, l1, l2], .ref 18 :: st, k, (zz_hp n I J ex)) := zz_k_go f24_45 rfl rfl rfl
theorem f24_48 : zz_fetch zz_prog 24 48 = some (.iload_n 2, 1, [], []) := zz_fetch_of p24 rfl rfl
theorem s24_48 : zz_Run zz_prog d 24 (48, [l0, l1, some (.int v)], st, k, h) = zz_Run zz_prog d 24 (49, [l0, l1, some (.int v)], .int v :: st, k, h) := zz_k_num f24_48 rfl
theorem f24_49 : zz_fetch zz_prog 24 49 = some (.iaload, 1, [], []) := zz_fetch_of p24 rfl rfl
theorem s24_49 (ha : zz_isrd a = true) : zz_Run zz_prog d 24 (49, [l0, l1, l2], .int v :: .ref a :: st, k, (zz_hp n I J ex)) = zz_ck (zz_in v (zz_ary n a)) (zz_Run zz_prog d 24 (50, [l0, l1, l2], .int (I a v.toNatClampNeg) :: st, k, (zz_hp n I J ex))) := zz_k_iald f24_49 ha
theorem f24_50 : zz_fetch zz_prog 24 50 = some (.ireturn, 1, [0], []) := zz_fetch_of p24 rfl rfl
theorem s24_50 : zz_Run zz_prog d 24 (50, [l0, l1, l2], [.int v], k, h) = some (.inl (some (.int v)), k, h) := zz_k_stop f24_50 rfl rfl rfl
end S24
section S25
variable {d n j : Nat} {l0 l1 l2 l3 l4 l5 : Option Value} {st : List Value} {k : Bool} {h : zz_H} {v w v1 v2 : Int32} {y y1 : Int64} {a a1 a2 : Nat} {b0 b1 b2 b3 b4 b5 b6 b7 b8 : Value} {I : Nat → Nat → Int32} {J : Nat → Nat → Int64} {ex : List (Nat × Nat)}
theorem p25 : zz_prog 25 = some zz_m25 := rfl
theorem e25 (g0 : Nat) (g1 : Int32) : zz_Call zz_prog (d + 1) 25 [.ref g0, .int g1] h = zz_Run zz_prog d 25 (0, [some (.ref g0), some (.int g1), none, none, none, none], [], true, h) := rfl
theorem t25 (pc : Nat) (L : List (Option Value)) : zz_th d 25 pc a L k h = some (.inr a, k, h) := zz_th_out p25 rfl
theorem f25_0 : zz_fetch zz_prog 25 0 = some (.iload_n 1, 1, [], []) := zz_fetch_of p25 rfl rfl
theorem s25_0 : zz_Run zz_prog d 25 (0, [l0, some (.int v), l2, l3, l4, l5], st, k, h) = zz_Run zz_prog d 25 (1, [l0, some (.int v), l2, l3, l4, l5], .int v :: st, k, h) := zz_k_num f25_0 rfl
theorem f25_1 : zz_fetch zz_prog 25 1 = some (.ifCond .ge 5, 3, [6], []) := zz_fetch_of p25 rfl rfl
theorem s25_1 : zz_Run zz_prog d 25 (1, [l0, l1, l2, l3, l4, l5], .int v :: st, k, h) = if 0 ≤ v then zz_Run zz_prog d 25 (6, [l0, l1, l2, l3, l4, l5], st, k, h) else zz_Run zz_prog d 25 (4, [l0, l1, l2, l3, l4, l5], st, k, h) := zz_k_br (0 ≤ v) rfl (zz_k_num f25_1 rfl)
theorem f25_4 : zz_fetch zz_prog 25 4 = some (.iconst (-1), 1, [], []) := zz_fetch_of p25 rfl rfl
theorem s25_4 : zz_Run zz_prog d 25 (4, [l0, l1, l2, l3, l4, l5], st, k, h) = zz_Run zz_prog d 25 (5, [l0, l1, l2, l3, l4, l5], .int (-1) :: st, k, h) := zz_k_num f25_4 rfl
theorem f25_5 : zz_fetch zz_prog 25 5 = some (.ireturn, 1, [0], []) := zz_fetch_of p25 rfl rfl
theorem s25_5 : zz_Run zz_prog d 25 (5, [l0, l1, l2, l3, l4, l5], [.int v], k, h) = some (.inl (some (.int v)), k, h) := zz_k_stop f25_5 rfl rfl rfl
theorem f25_6 : zz_fetch zz_prog 25 6 = some (.iload_n 1, 1, [], []) := zz_fetch_of p25 rfl rfl
theorem s25_6 : zz_Run zz_prog d 25 (6, [l0, some (.int v), l2, l3, l4, l5], st, k, h) = zz_Run zz_prog d 25 (7, [l0, some (.int v), l2, l3, l4, l5], .int v :: st, k, h) := zz_k_num f25_6 rfl
theorem f25_7 : zz_fetch zz_prog 25 7 = some (.istore_n 2, 1, [], []) := zz_fetch_of p25 rfl rfl
theorem s25_7 : zz_Run zz_prog d 25 (7, [l0, l1, l2, l3, l4, l5], .int v :: st, k, h) = zz_sl l1 (zz_Run zz_prog d 25 (8, [l0, l1, some (.int v), l3, l4, l5], st, k, h)) := zz_k_st (j := 2) (u := .int v) f25_7 rfl (fun q hq => by cases hq) rfl (show 2 < 6 by decide) (by cases l1 <;> rfl) rfl
theorem f25_8 : zz_fetch zz_prog 25 8 = some (.iconst 0, 1, [], []) := zz_fetch_of p25 rfl rfl
theorem s25_8 : zz_Run zz_prog d 25 (8, [l0, l1, l2, l3, l4, l5], st, k, h) = zz_Run zz_prog d 25 (9, [l0, l1, l2, l3, l4, l5], .int 0 :: st, k, h) := zz_k_num f25_8 rfl
theorem f25_9 : zz_fetch zz_prog 25 9 = some (.istore_n 3, 1, [], []) := zz_fetch_of p25 rfl rfl
theorem s25_9 : zz_Run zz_prog d 25 (9, [l0, l1, l2, l3, l4, l5], .int v :: st, k, h) = zz_sl l2 (zz_Run zz_prog d 25 (10, [l0, l1, l2, some (.int v), l4, l5], st, k, h)) := zz_k_st (j := 3) (u := .int v) f25_9 rfl (fun q hq => by cases hq) rfl (show 3 < 6 by decide) (by cases l2 <;> rfl) rfl
theorem f25_10 : zz_fetch zz_prog 25 10 = some (.iload_n 3, 1, [], []) := zz_fetch_of p25 rfl rfl
theorem s25_10 : zz_Run zz_prog d 25 (10, [l0, l1, l2, some (.int v), l4, l5], st, k, h) = zz_Run zz_prog d 25 (11, [l0, l1, l2, some (.int v), l4, l5], .int v :: st, k, h) := zz_k_num f25_10 rfl
theorem f25_11 : zz_fetch zz_prog 25 11 = some (.iconst 3, 1, [], []) := zz_fetch_of p25 rfl rfl
theorem s25_11 : zz_Run zz_prog d 25 (11, [l0, l1, l2, l3, l4, l5], st, k, h) = zz_Run zz_prog d 25 (12, [l0, l1, l2, l3, l4, l5], .int 3 :: st, k, h) := zz_k_num f25_11 rfl
theorem f25_12 : zz_fetch zz_prog 25 12 = some (.if_icmp .ge 71, 3, [83], []) := zz_fetch_of p25 rfl rfl
theorem s25_12 : zz_Run zz_prog d 25 (12, [l0, l1, l2, l3, l4, l5], .int w :: .int v :: st, k, h) = if w ≤ v then zz_Run zz_prog d 25 (83, [l0, l1, l2, l3, l4, l5], st, k, h) else zz_Run zz_prog d 25 (15, [l0, l1, l2, l3, l4, l5], st, k, h) := zz_k_br (w ≤ v) rfl (zz_k_num f25_12 rfl)
theorem f25_15 : zz_fetch zz_prog 25 15 = some (.aload_n 0, 1, [], []) := zz_fetch_of p25 rfl rfl
theorem s25_15 : zz_Run zz_prog d 25 (15, [some (.ref a), l1, l2, l3, l4, l5], st, k, h) = zz_Run zz_prog d 25 (16, [some (.ref a), l1, l2, l3, l4, l5], .ref a :: st, k, h) := zz_k_num f25_15 rfl
theorem f25_16 : zz_fetch zz_prog 25 16 = some (.iload_n 3, 1, [], []) := zz_fetch_of p25 rfl rfl
theorem s25_16 : zz_Run zz_prog d 25 (16, [l0, l1, l2, some (.int v), l4, l5], st, k, h) = zz_Run zz_prog d 25 (17, [l0, l1, l2, some (.int v), l4, l5], .int v :: st, k, h) := zz_k_num f25_16 rfl
theorem f25_17 : zz_fetch zz_prog 25 17 = some (.invokevirtual 92, 3, [0, 51, 2, 1], []) := zz_fetch_of p25 rfl rfl
theorem s25_17 : zz_Run zz_prog d 25 (17, [l0, l1, l2, l3, l4, l5], [b0, .ref 5], k, (zz_hp n I J ex)) = zz_ret (zz_Call zz_prog d 51 [.ref 5, b0] (zz_hp n I J ex)) (fun v k' h' => zz_Run zz_prog d 25 (20, [l0, l1, l2, l3, l4, l5], v.toList ++ [], k && k', h')) (fun a k' h' => zz_th d 25 17 a [l0, l1, l2, l3, l4, l5] (k && k') h') := zz_k_call f25_17 rfl rfl rfl
theorem f25_20 : zz_fetch zz_prog 25 20 = some (.ifCond .eq 10, 3, [30], []) := zz_fetch_of p25 rfl rfl
theorem s25_20 : zz_Run zz_prog d 25 (20, [l0, l1, l2, l3, l4, l5], .int v :: st, k, h) = if v = 0 then zz_Run zz_prog d 25 (30, [l0, l1, l2, l3, l4, l5], st, k, h) else zz_Run zz_prog d 25 (23, [l0, l1, l2, l3, l4, l5], st, k, h) := zz_k_br (v = 0) rfl (zz_k_num f25_20 rfl)
theorem f25_23 : zz_fetch zz_prog 25 23 = some (.iload_n 3, 1, [], []) := zz_fetch_of p25 rfl rfl
theorem s25_23 : zz_Run zz_prog d 25 (23, [l0, l1, l2, some (.int v), l4, l5], st, k, h) = zz_Run zz_prog d 25 (24, [l0, l1, l2, some (.int v), l4, l5], .int v :: st, k, h) := zz_k_num f25_23 rfl
theorem f25_24 : zz_fetch zz_prog 25 24 = some (.invokestatic 236, 3, [0, 34, 1], []) := zz_fetch_of p25 rfl rfl
theorem s25_24 : zz_Run zz_prog d 25 (24, [l0, l1, l2, l3, l4, l5], [b0], k, h) = zz_ret (zz_Call zz_prog d 34 [b0] h) (fun v k' h' => zz_Run zz_prog d 25 (27, [l0, l1, l2, l3, l4, l5], v.toList ++ [], k && k', h')) (fun a k' h' => zz_th d 25 24 a [l0, l1, l2, l3, l4, l5] (k && k') h') := zz_k_call f25_24 rfl rfl rfl
theorem f25_27 : zz_fetch zz_prog 25 27 = some (.goto 4, 3, [31], []) := zz_fetch_of p25 rfl rfl
theorem s25_27 : zz_Run zz_prog d 25 (27, [l0, l1, l2, l3, l4, l5], st, k, h) = zz_Run zz_prog d 25 (31, [l0, l1, l2, l3, l4, l5], st, k, h) := zz_k_num f25_27 rfl
theorem f25_30 : zz_fetch zz_prog 25 30 = some (.iconst 0, 1, [], []) := zz_fetch_of p25 rfl rfl
theorem s25_30 : zz_Run zz_prog d 25 (30, [l0, l1, l2, l3, l4, l5], st, k, h) = zz_Run zz_prog d 25 (31, [l0, l1, l2, l3, l4, l5], .int 0 :: st, k, h) := zz_k_num f25_30 rfl
theorem f25_31 : zz_fetch zz_prog 25 31 = some (.istore 4, 2, [], []) := zz_fetch_of p25 rfl rfl
theorem s25_31 : zz_Run zz_prog d 25 (31, [l0, l1, l2, l3, l4, l5], .int v :: st, k, h) = zz_sl l3 (zz_Run zz_prog d 25 (33, [l0, l1, l2, l3, some (.int v), l5], st, k, h)) := zz_k_st (j := 4) (u := .int v) f25_31 rfl (fun q hq => by cases hq) rfl (show 4 < 6 by decide) (by cases l3 <;> rfl) rfl
theorem f25_33 : zz_fetch zz_prog 25 33 = some (.iconst 0, 1, [], []) := zz_fetch_of p25 rfl rfl
theorem s25_33 : zz_Run zz_prog d 25 (33, [l0, l1, l2, l3, l4, l5], st, k, h) = zz_Run zz_prog d 25 (34, [l0, l1, l2, l3, l4, l5], .int 0 :: st, k, h) := zz_k_num f25_33 rfl
theorem f25_34 : zz_fetch zz_prog 25 34 = some (.istore 5, 2, [], []) := zz_fetch_of p25 rfl rfl
theorem s25_34 : zz_Run zz_prog d 25 (34, [l0, l1, l2, l3, l4, l5], .int v :: st, k, h) = zz_sl l4 (zz_Run zz_prog d 25 (36, [l0, l1, l2, l3, l4, some (.int v)], st, k, h)) := zz_k_st (j := 5) (u := .int v) f25_34 rfl (fun q hq => by cases hq) rfl (show 5 < 6 by decide) (by cases l4 <;> rfl) rfl
theorem f25_36 : zz_fetch zz_prog 25 36 = some (.iload 5, 2, [], []) := zz_fetch_of p25 rfl rfl
theorem s25_36 : zz_Run zz_prog d 25 (36, [l0, l1, l2, l3, l4, some (.int v)], st, k, h) = zz_Run zz_prog d 25 (38, [l0, l1, l2, l3, l4, some (.int v)], .int v :: st, k, h) := zz_k_num f25_36 rfl
theorem f25_38 : zz_fetch zz_prog 25 38 = some (.iload 4, 2, [], []) := zz_fetch_of p25 rfl rfl
theorem s25_38 : zz_Run zz_prog d 25 (38, [l0, l1, l2, l3, some (.int v), l5], st, k, h) = zz_Run zz_prog d 25 (40, [l0, l1, l2, l3, some (.int v), l5], .int v :: st, k, h) := zz_k_num f25_38 rfl
theorem f25_40 : zz_fetch zz_prog 25 40 = some (.if_icmp .ge 37, 3, [77], []) := zz_fetch_of p25 rfl rfl
theorem s25_40 : zz_Run zz_prog d 25 (40, [l0, l1, l2, l3, l4, l5], .int w :: .int v :: st, k, h) = if w ≤ v then zz_Run zz_prog d 25 (77, [l0, l1, l2, l3, l4, l5], st, k, h) else zz_Run zz_prog d 25 (43, [l0, l1, l2, l3, l4, l5], st, k, h) := zz_k_br (w ≤ v) rfl (zz_k_num f25_40 rfl)
theorem f25_43 : zz_fetch zz_prog 25 43 = some (.aload_n 0, 1, [], []) := zz_fetch_of p25 rfl rfl
theorem s25_43 : zz_Run zz_prog d 25 (43, [some (.ref a), l1, l2, l3, l4, l5], st, k, h) = zz_Run zz_prog d 25 (44, [some (.ref a), l1, l2, l3, l4, l5], .ref a :: st, k, h) := zz_k_num f25_43 rfl
theorem f25_44 : zz_fetch zz_prog 25 44 = some (.iload_n 3, 1, [], []) := zz_fetch_of p25 rfl rfl
theorem s25_44 : zz_Run zz_prog d 25 (44, [l0, l1, l2, some (.int v), l4, l5], st, k, h) = zz_Run zz_prog d 25 (45, [l0, l1, l2, some (.int v), l4, l5], .int v :: st, k, h) := zz_k_num f25_44 rfl
theorem f25_45 : zz_fetch zz_prog 25 45 = some (.iload 5, 2, [], []) := zz_fetch_of p25 rfl rfl
theorem s25_45 : zz_Run zz_prog d 25 (45, [l0, l1, l2, l3, l4, some (.int v)], st, k, h) = zz_Run zz_prog d 25 (47, [l0, l1, l2, l3, l4, some (.int v)], .int v :: st, k, h) := zz_k_num f25_45 rfl
theorem f25_47 : zz_fetch zz_prog 25 47 = some (.invokevirtual 95, 3, [0, 54, 3, 1], []) := zz_fetch_of p25 rfl rfl
theorem s25_47 : zz_Run zz_prog d 25 (47, [l0, l1, l2, l3, l4, l5], [b0, b1, .ref 5], k, (zz_hp n I J ex)) = zz_ret (zz_Call zz_prog d 54 [.ref 5, b1, b0] (zz_hp n I J ex)) (fun v k' h' => zz_Run zz_prog d 25 (50, [l0, l1, l2, l3, l4, l5], v.toList ++ [], k && k', h')) (fun a k' h' => zz_th d 25 47 a [l0, l1, l2, l3, l4, l5] (k && k') h') := zz_k_call f25_47 rfl rfl rfl
theorem f25_50 : zz_fetch zz_prog 25 50 = some (.ifCond .ne 6, 3, [56], []) := zz_fetch_of p25 rfl rfl
theorem s25_50 : zz_Run zz_prog d 25 (50, [l0, l1, l2, l3, l4, l5], .int v :: st, k, h) = if ¬ v = 0 then zz_Run zz_prog d 25 (56, [l0, l1, l2, l3, l4, l5], st, k, h) else zz_Run zz_prog d 25 (53, [l0, l1, l2, l3, l4, l5], st, k, h) := zz_k_br (¬ v = 0) rfl (zz_k_num f25_50 rfl)
theorem f25_53 : zz_fetch zz_prog 25 53 = some (.goto 18, 3, [71], []) := zz_fetch_of p25 rfl rfl
theorem s25_53 : zz_Run zz_prog d 25 (53, [l0, l1, l2, l3, l4, l5], st, k, h) = zz_Run zz_prog d 25 (71, [l0, l1, l2, l3, l4, l5], st, k, h) := zz_k_num f25_53 rfl
theorem f25_56 : zz_fetch zz_prog 25 56 = some (.iload_n 2, 1, [], []) := zz_fetch_of p25 rfl rfl
theorem s25_56 : zz_Run zz_prog d 25 (56, [l0, l1, some (.int v), l3, l4, l5], st, k, h) = zz_Run zz_prog d 25 (57, [l0, l1, some (.int v), l3, l4, l5], .int v :: st, k, h) := zz_k_num f25_56 rfl
theorem f25_57 : zz_fetch zz_prog 25 57 = some (.ifCond .ne 11, 3, [68], []) := zz_fetch_of p25 rfl rfl
theorem s25_57 : zz_Run zz_prog d 25 (57, [l0, l1, l2, l3, l4, l5], .int v :: st, k, h) = if ¬ v = 0 then zz_Run zz_prog d 25 (68, [l0, l1, l2, l3, l4, l5], st, k, h) else zz_Run zz_prog d 25 (60, [l0, l1, l2, l3, l4, l5], st, k, h) := zz_k_br (¬ v = 0) rfl (zz_k_num f25_57 rfl)
theorem f25_60 : zz_fetch zz_prog 25 60 = some (.bipush 100, 2, [], []) := zz_fetch_of p25 rfl rfl
theorem s25_60 : zz_Run zz_prog d 25 (60, [l0, l1, l2, l3, l4, l5], st, k, h) = zz_Run zz_prog d 25 (62, [l0, l1, l2, l3, l4, l5], .int 100 :: st, k, h) := zz_k_num f25_60 (congrArg (fun u => some (62, [l0, l1, l2, l3, l4, l5], Value.int u :: st)) (by decide : (Int8.ofInt 100).toInt32 = 100))
theorem f25_62 : zz_fetch zz_prog 25 62 = some (.iload_n 3, 1, [], []) := zz_fetch_of p25 rfl rfl
theorem s25_62 : zz_Run zz_prog d 25 (62, [l0, l1, l2, some (.int v), l4, l5], st, k, h) = zz_Run zz_prog d 25 (63, [l0, l1, l2, some (.int v), l4, l5], .int v :: st, k, h) := zz_k_num f25_62 rfl
theorem f25_63 : zz_fetch zz_prog 25 63 = some (.imul, 1, [], []) := zz_fetch_of p25 rfl rfl
theorem s25_63 : zz_Run zz_prog d 25 (63, [l0, l1, l2, l3, l4, l5], .int w :: .int v :: st, k, h) = zz_Run zz_prog d 25 (64, [l0, l1, l2, l3, l4, l5], .int (v * w) :: st, k, h) := zz_k_num f25_63 rfl
theorem f25_64 : zz_fetch zz_prog 25 64 = some (.iload 5, 2, [], []) := zz_fetch_of p25 rfl rfl
theorem s25_64 : zz_Run zz_prog d 25 (64, [l0, l1, l2, l3, l4, some (.int v)], st, k, h) = zz_Run zz_prog d 25 (66, [l0, l1, l2, l3, l4, some (.int v)], .int v :: st, k, h) := zz_k_num f25_64 rfl
theorem f25_66 : zz_fetch zz_prog 25 66 = some (.iadd, 1, [], []) := zz_fetch_of p25 rfl rfl
theorem s25_66 : zz_Run zz_prog d 25 (66, [l0, l1, l2, l3, l4, l5], .int w :: .int v :: st, k, h) = zz_Run zz_prog d 25 (67, [l0, l1, l2, l3, l4, l5], .int (v + w) :: st, k, h) := zz_k_num f25_66 rfl
theorem f25_67 : zz_fetch zz_prog 25 67 = some (.ireturn, 1, [0], []) := zz_fetch_of p25 rfl rfl
theorem s25_67 : zz_Run zz_prog d 25 (67, [l0, l1, l2, l3, l4, l5], [.int v], k, h) = some (.inl (some (.int v)), k, h) := zz_k_stop f25_67 rfl rfl rfl
theorem f25_68 : zz_fetch zz_prog 25 68 = some (.iinc 2 (-1), 3, [], []) := zz_fetch_of p25 rfl rfl
theorem s25_68 : zz_Run zz_prog d 25 (68, [l0, l1, some (.int v), l3, l4, l5], st, k, h) = zz_sl l1 (zz_Run zz_prog d 25 (71, [l0, l1, some (.int (v + (-1))), l3, l4, l5], st, k, h)) := zz_k_st (j := 2) (u := .int (v + (-1))) f25_68 rfl (fun q hq => by cases hq) rfl (show 2 < 6 by decide) (by cases l1 <;> rfl) rfl
theorem f25_71 : zz_fetch zz_prog 25 71 = some (.iinc 5 1, 3, [], []) := zz_fetch_of p25 rfl rfl
theorem s25_71 : zz_Run zz_prog d 25 (71, [l0, l1, l2, l3, l4, some (.int v)], st, k, h) = zz_sl l4 (zz_Run zz_prog d 25 (74, [l0, l1, l2, l3, l4, some (.int (v + 1))], st, k, h)) := zz_k_st (j := 5) (u := .int (v + 1)) f25_71 rfl (fun q hq => by cases hq) rfl (show 5 < 6 by decide) (by cases l4 <;> rfl) rfl
theorem f25_74 : zz_fetch zz_prog 25 74 = some (.goto (-38), 3, [36], []) := zz_fetch_of p25 rfl rfl
theorem s25_74 : zz_Run zz_prog d 25 (74, [l0, l1, l2, l3, l4, l5], st, k, h) = zz_Run zz_prog d 25 (36, [l0, l1, l2, l3, l4, l5], st, k, h) := zz_k_num f25_74 rfl
theorem f25_77 : zz_fetch zz_prog 25 77 = some (.iinc 3 1, 3, [], []) := zz_fetch_of p25 rfl rfl
theorem s25_77 : zz_Run zz_prog d 25 (77, [l0, l1, l2, some (.int v), l4, l5], st, k, h) = zz_sl l2 (zz_Run zz_prog d 25 (80, [l0, l1, l2, some (.int (v + 1)), l4, l5], st, k, h)) := zz_k_st (j := 3) (u := .int (v + 1)) f25_77 rfl (fun q hq => by cases hq) rfl (show 3 < 6 by decide) (by cases l2 <;> rfl) rfl
theorem f25_80 : zz_fetch zz_prog 25 80 = some (.goto (-70), 3, [10], []) := zz_fetch_of p25 rfl rfl
theorem s25_80 : zz_Run zz_prog d 25 (80, [l0, l1, l2, l3, l4, l5], st, k, h) = zz_Run zz_prog d 25 (10, [l0, l1, l2, l3, l4, l5], st, k, h) := zz_k_num f25_80 rfl
theorem f25_83 : zz_fetch zz_prog 25 83 = some (.iconst (-1), 1, [], []) := zz_fetch_of p25 rfl rfl
theorem s25_83 : zz_Run zz_prog d 25 (83, [l0, l1, l2, l3, l4, l5], st, k, h) = zz_Run zz_prog d 25 (84, [l0, l1, l2, l3, l4, l5], .int (-1) :: st, k, h) := zz_k_num f25_83 rfl
theorem f25_84 : zz_fetch zz_prog 25 84 = some (.ireturn, 1, [0], []) := zz_fetch_of p25 rfl rfl
theorem s25_84 : zz_Run zz_prog d 25 (84, [l0, l1, l2, l3, l4, l5], [.int v], k, h) = some (.inl (some (.int v)), k, h) := zz_k_stop f25_84 rfl rfl rfl
end S25
section S26
variable {d n j : Nat} {l0 l1 l2 l3 l4 l5 l6 : Option Value} {st : List Value} {k : Bool} {h : zz_H} {v w v1 v2 : Int32} {y y1 : Int64} {a a1 a2 : Nat} {b0 b1 b2 b3 b4 b5 b6 b7 b8 : Value} {I : Nat → Nat → Int32} {J : Nat → Nat → Int64} {ex : List (Nat × Nat)}
theorem p26 : zz_prog 26 = some zz_m26 := rfl
theorem e26 (g0 : Nat) (g1 : Int32) (g2 : Int32) (g3 : Int32) : zz_Call zz_prog (d + 1) 26 [.ref g0, .int g1, .int g2, .int g3] h = zz_Run zz_prog d 26 (0, [some (.ref g0), some (.int g1), some (.int g2), some (.int g3), none, none, none], [], true, h) := rfl
theorem t26 (pc : Nat) (L : List (Option Value)) : zz_th d 26 pc a L k h = some (.inr a, k, h) := zz_th_out p26 rfl
theorem f26_0 : zz_fetch zz_prog 26 0 = some (.aload_n 0, 1, [], []) := zz_fetch_of p26 rfl rfl
theorem s26_0 : zz_Run zz_prog d 26 (0, [some (.ref a), l1, l2, l3, l4, l5, l6], st, k, h) = zz_Run zz_prog d 26 (1, [some (.ref a), l1, l2, l3, l4, l5, l6], .ref a :: st, k, h) := zz_k_num f26_0 rfl
theorem f26_1 : zz_fetch zz_prog 26 1 = some (.iload_n 1, 1, [], []) := zz_fetch_of p26 rfl rfl
theorem s26_1 : zz_Run zz_prog d 26 (1, [l0, some (.int v), l2, l3, l4, l5, l6], st, k, h) = zz_Run zz_prog d 26 (2, [l0, some (.int v), l2, l3, l4, l5, l6], .int v :: st, k, h) := zz_k_num f26_1 rfl
theorem f26_2 : zz_fetch zz_prog 26 2 = some (.invokevirtual 221, 3, [0, 28, 2, 1], []) := zz_fetch_of p26 rfl rfl
theorem s26_2 : zz_Run zz_prog d 26 (2, [l0, l1, l2, l3, l4, l5, l6], [b0, .ref 5], k, (zz_hp n I J ex)) = zz_ret (zz_Call zz_prog d 28 [.ref 5, b0] (zz_hp n I J ex)) (fun v k' h' => zz_Run zz_prog d 26 (5, [l0, l1, l2, l3, l4, l5, l6], v.toList ++ [], k && k', h')) (fun a k' h' => zz_th d 26 2 a [l0, l1, l2, l3, l4, l5, l6] (k && k') h') := zz_k_call f26_2 rfl rfl rfl
theorem f26_5 : zz_fetch zz_prog 26 5 = some (.iload_n 2, 1, [], []) := zz_fetch_of p26 rfl rfl
theorem s26_5 : zz_Run zz_prog d 26 (5, [l0, l1, some (.int v), l3, l4, l5, l6], st, k, h) = zz_Run zz_prog d 26 (6, [l0, l1, some (.int v), l3, l4, l5, l6], .int v :: st, k, h) := zz_k_num f26_5 rfl
theorem f26_6 : zz_fetch zz_prog 26 6 = some (.invokestatic 129, 3, [0, 31, 1], []) := zz_fetch_of p26 rfl rfl
theorem s26_6 : zz_Run zz_prog d 26 (6, [l0, l1, l2, l3, l4, l5, l6], [b0], k, h) = zz_ret (zz_Call zz_prog d 31 [b0] h) (fun v k' h' => zz_Run zz_prog d 26 (9, [l0, l1, l2, l3, l4, l5, l6], v.toList ++ [], k && k', h')) (fun a k' h' => zz_th d 26 6 a [l0, l1, l2, l3, l4, l5, l6] (k && k') h') := zz_k_call f26_6 rfl rfl rfl
theorem f26_9 : zz_fetch zz_prog 26 9 = some (.ifCond .ne 11, 3, [20], []) := zz_fetch_of p26 rfl rfl
theorem s26_9 : zz_Run zz_prog d 26 (9, [l0, l1, l2, l3, l4, l5, l6], .int v :: st, k, h) = if ¬ v = 0 then zz_Run zz_prog d 26 (20, [l0, l1, l2, l3, l4, l5, l6], st, k, h) else zz_Run zz_prog d 26 (12, [l0, l1, l2, l3, l4, l5, l6], st, k, h) := zz_k_br (¬ v = 0) rfl (zz_k_num f26_9 rfl)
theorem f26_12 : zz_fetch zz_prog 26 12 = some (.new 218, 3, [4, 6], []) := zz_fetch_of p26 rfl rfl
theorem s26_12 : zz_Run zz_prog d 26 (12, [l0, l1, l2, l3, l4, l5, l6], [], true, (zz_hp n I J ex)) = some (.inr (zz_exa ex), false, zz_hp n I J (ex ++ [(4, 6)])) := zz_k_throw f26_12 (by simp)
theorem f26_20 : zz_fetch zz_prog 26 20 = some (.iload_n 3, 1, [], []) := zz_fetch_of p26 rfl rfl
theorem s26_20 : zz_Run zz_prog d 26 (20, [l0, l1, l2, some (.int v), l4, l5, l6], st, k, h) = zz_Run zz_prog d 26 (21, [l0, l1, l2, some (.int v), l4, l5, l6], .int v :: st, k, h) := zz_k_num f26_20 rfl
theorem f26_21 : zz_fetch zz_prog 26 21 = some (.iconst 1, 1, [], []) := zz_fetch_of p26 rfl rfl
theorem s26_21 : zz_Run zz_prog d 26 (21, [l0, l1, l2, l3, l4, l5, l6], st, k, h) = zz_Run zz_prog d 26 (22, [l0, l1, l2, l3, l4, l5, l6], .int 1 :: st, k, h) := zz_k_num f26_21 rfl
theorem f26_22 : zz_fetch zz_prog 26 22 = some (.if_icmp .lt 8, 3, [30], []) := zz_fetch_of p26 rfl rfl
theorem s26_22 : zz_Run zz_prog d 26 (22, [l0, l1, l2, l3, l4, l5, l6], .int w :: .int v :: st, k, h) = if v < w then zz_Run zz_prog d 26 (30, [l0, l1, l2, l3, l4, l5, l6], st, k, h) else zz_Run zz_prog d 26 (25, [l0, l1, l2, l3, l4, l5, l6], st, k, h) := zz_k_br (v < w) rfl (zz_k_num f26_22 rfl)
theorem f26_25 : zz_fetch zz_prog 26 25 = some (.iload_n 3, 1, [], []) := zz_fetch_of p26 rfl rfl
theorem s26_25 : zz_Run zz_prog d 26 (25, [l0, l1, l2, some (.int v), l4, l5, l6], st, k, h) = zz_Run zz_prog d 26 (26, [l0, l1, l2, some (.int v), l4, l5, l6], .int v :: st, k, h) := zz_k_num f26_25 rfl
theorem f26_26 : zz_fetch zz_prog 26 26 = some (.iconst 3, 1, [], []) := zz_fetch_of p26 rfl rfl
theorem s26_26 : zz_Run zz_prog d 26 (26, [l0, l1, l2, l3, l4, l5, l6], st, k, h) = zz_Run zz_prog d 26 (27, [l0, l1, l2, l3, l4, l5, l6], .int 3 :: st, k, h) := zz_k_num f26_26 rfl
theorem f26_27 : zz_fetch zz_prog 26 27 = some (.if_icmp .le 11, 3, [38], []) := zz_fetch_of p26 rfl rfl
theorem s26_27 : zz_Run zz_prog d 26 (27, [l0, l1, l2, l3, l4, l5, l6], .int w :: .int v :: st, k, h) = if v ≤ w then zz_Run zz_prog d 26 (38, [l0, l1, l2, l3, l4, l5, l6], st, k, h) else zz_Run zz_prog d 26 (30, [l0, l1, l2, l3, l4, l5, l6], st, k, h) := zz_k_br (v ≤ w) rfl (zz_k_num f26_27 rfl)
theorem f26_30 : zz_fetch zz_prog 26 30 = some (.new 47, 3, [4, 4], []) := zz_fetch_of p26 rfl rfl
theorem s26_30 : zz_Run zz_prog d 26 (30, [l0, l1, l2, l3, l4, l5, l6], [], true, (zz_hp n I J ex)) = some (.inr (zz_exa ex), false, zz_hp n I J (ex ++ [(4, 4)])) := zz_k_throw f26_30 (by simp)
theorem f26_38 : zz_fetch zz_prog 26 38 = some (.iconst 0, 1, [], []) := zz_fetch_of p26 rfl rfl
theorem s26_38 : zz_Run zz_prog d 26 (38, [l0, l1, l2, l3, l4, l5, l6], st, k, h) = zz_Run zz_prog d 26 (39, [l0, l1, l2, l3, l4, l5, l6], .int 0 :: st, k, h) := zz_k_num f26_38 rfl
theorem f26_39 : zz_fetch zz_prog 26 39 = some (.istore 4, 2, [], []) := zz_fetch_of p26 rfl rfl
theorem s26_39 : zz_Run zz_prog d 26 (39, [l0, l1, l2, l3, l4, l5, l6], .int v :: st, k, h) = zz_sl l3 (zz_Run zz_prog d 26 (41, [l0, l1, l2, l3, some (.int v), l5, l6], st, k, h)) := zz_k_st (j := 4) (u := .int v) f26_39 rfl (fun q hq => by cases hq) rfl (show 4 < 7 by decide) (by cases l3 <;> rfl) rfl
theorem f26_41 : zz_fetch zz_prog 26 41 = some (.iconst 2, 1, [], []) := zz_fetch_of p26 rfl rfl
theorem s26_41 : zz_Run zz_prog d 26 (41, [l0, l1, l2, l3, l4, l5, l6], st, k, h) = zz_Run zz_prog d 26 (42, [l0, l1, l2, l3, l4, l5, l6], .int 2 :: st, k, h) := zz_k_num f26_41 rfl
theorem f26_42 : zz_fetch zz_prog 26 42 = some (.istore 5, 2, [], []) := zz_fetch_of p26 rfl rfl
theorem s26_42 : zz_Run zz_prog d 26 (42, [l0, l1, l2, l3, l4, l5, l6], .int v :: st, k, h) = zz_sl l4 (zz_Run zz_prog d 26 (44, [l0, l1, l2, l3, l4, some (.int v), l6], st, k, h)) := zz_k_st (j := 5) (u := .int v) f26_42 rfl (fun q hq => by cases hq) rfl (show 5 < 7 by decide) (by cases l4 <;> rfl) rfl
theorem f26_44 : zz_fetch zz_prog 26 44 = some (.iload 5, 2, [], []) := zz_fetch_of p26 rfl rfl
theorem s26_44 : zz_Run zz_prog d 26 (44, [l0, l1, l2, l3, l4, some (.int v), l6], st, k, h) = zz_Run zz_prog d 26 (46, [l0, l1, l2, l3, l4, some (.int v), l6], .int v :: st, k, h) := zz_k_num f26_44 rfl
theorem f26_46 : zz_fetch zz_prog 26 46 = some (.bipush 12, 2, [], []) := zz_fetch_of p26 rfl rfl
theorem s26_46 : zz_Run zz_prog d 26 (46, [l0, l1, l2, l3, l4, l5, l6], st, k, h) = zz_Run zz_prog d 26 (48, [l0, l1, l2, l3, l4, l5, l6], .int 12 :: st, k, h) := zz_k_num f26_46 (congrArg (fun u => some (48, [l0, l1, l2, l3, l4, l5, l6], Value.int u :: st)) (by decide : (Int8.ofInt 12).toInt32 = 12))
theorem f26_48 : zz_fetch zz_prog 26 48 = some (.if_icmp .gt 28, 3, [76], []) := zz_fetch_of p26 rfl rfl
theorem s26_48 : zz_Run zz_prog d 26 (48, [l0, l1, l2, l3, l4, l5, l6], .int w :: .int v :: st, k, h) = if w < v then zz_Run zz_prog d 26 (76, [l0, l1, l2, l3, l4, l5, l6], st, k, h) else zz_Run zz_prog d 26 (51, [l0, l1, l2, l3, l4, l5, l6], st, k, h) := zz_k_br (w < v) rfl (zz_k_num f26_48 rfl)
theorem f26_51 : zz_fetch zz_prog 26 51 = some (.iload 4, 2, [], []) := zz_fetch_of p26 rfl rfl
theorem s26_51 : zz_Run zz_prog d 26 (51, [l0, l1, l2, l3, some (.int v), l5, l6], st, k, h) = zz_Run zz_prog d 26 (53, [l0, l1, l2, l3, some (.int v), l5, l6], .int v :: st, k, h) := zz_k_num f26_51 rfl
theorem f26_53 : zz_fetch zz_prog 26 53 = some (.iload 5, 2, [], []) := zz_fetch_of p26 rfl rfl
theorem s26_53 : zz_Run zz_prog d 26 (53, [l0, l1, l2, l3, l4, some (.int v), l6], st, k, h) = zz_Run zz_prog d 26 (55, [l0, l1, l2, l3, l4, some (.int v), l6], .int v :: st, k, h) := zz_k_num f26_53 rfl
theorem f26_55 : zz_fetch zz_prog 26 55 = some (.invokestatic 239, 3, [0, 72, 1], []) := zz_fetch_of p26 rfl rfl
theorem s26_55 : zz_Run zz_prog d 26 (55, [l0, l1, l2, l3, l4, l5, l6], [b0, b1], k, h) = zz_ret (zz_Call zz_prog d 72 [b0] h) (fun v k' h' => zz_Run zz_prog d 26 (58, [l0, l1, l2, l3, l4, l5, l6], v.toList ++ [b1], k && k', h')) (fun a k' h' => zz_th d 26 55 a [l0, l1, l2, l3, l4, l5, l6] (k && k') h') := zz_k_call f26_55 rfl rfl rfl
theorem f26_58 : zz_fetch zz_prog 26 58 = some (.aload_n 0, 1, [], []) := zz_fetch_of p26 rfl rfl
theorem s26_58 : zz_Run zz_prog d 26 (58, [some (.ref a), l1, l2, l3, l4, l5, l6], st, k, h) = zz_Run zz_prog d 26 (59, [some (.ref a), l1, l2, l3, l4, l5, l6], .ref a :: st, k, h) := zz_k_num f26_58 rfl
theorem f26_59 : zz_fetch zz_prog 26 59 = some (.iload_n 1, 1, [], []) := zz_fetch_of p26 rfl rfl
theorem s26_59 : zz_Run zz_prog d 26 (59, [l0, some (.int v), l2, l3, l4, l5, l6], st, k, h) = zz_Run zz_prog d 26 (60, [l0, some (.int v), l2, l3, l4, l5, l6], .int v :: st, k, h) := zz_k_num f26_59 rfl
theorem f26_60 : zz_fetch zz_prog 26 60 = some (.iload_n 2, 1, [], []) := zz_fetch_of p26 rfl rfl
theorem s26_60 : zz_Run zz_prog d 26 (60, [l0, l1, some (.int v), l3, l4, l5, l6], st, k, h) = zz_Run zz_prog d 26 (61, [l0, l1, some (.int v), l3, l4, l5, l6], .int v :: st, k, h) := zz_k_num f26_60 rfl
theorem f26_61 : zz_fetch zz_prog 26 61 = some (.iload 5, 2, [], []) := zz_fetch_of p26 rfl rfl
theorem s26_61 : zz_Run zz_prog d 26 (61, [l0, l1, l2, l3, l4, some (.int v), l6], st, k, h) = zz_Run zz_prog d 26 (63, [l0, l1, l2, l3, l4, some (.int v), l6], .int v :: st, k, h) := zz_k_num f26_61 rfl
theorem f26_63 : zz_fetch zz_prog 26 63 = some (.invokevirtual 242, 3, [0, 68, 4, 1], []) := zz_fetch_of p26 rfl rfl
theorem s26_63 : zz_Run zz_prog d 26 (63, [l0, l1, l2, l3, l4, l5, l6], [b0, b1, b2, .ref 5, b4, b5], k, (zz_hp n I J ex)) = zz_ret (zz_Call zz_prog d 68 [.ref 5, b2, b1, b0] (zz_hp n I J ex)) (fun v k' h' => zz_Run zz_prog d 26 (66, [l0, l1, l2, l3, l4, l5, l6], v.toList ++ [b4, b5], k && k', h')) (fun a k' h' => zz_th d 26 63 a [l0, l1, l2, l3, l4, l5, l6] (k && k') h') := zz_k_call f26_63 rfl rfl rfl
theorem f26_66 : zz_fetch zz_prog 26 66 = some (.imul, 1, [], []) := zz_fetch_of p26 rfl rfl
theorem s26_66 : zz_Run zz_prog d 26 (66, [l0, l1, l2, l3, l4, l5, l6], .int w :: .int v :: st, k, h) = zz_Run zz_prog d 26 (67, [l0, l1, l2, l3, l4, l5, l6], .int (v * w) :: st, k, h) := zz_k_num f26_66 rfl
theorem f26_67 : zz_fetch zz_prog 26 67 = some (.iadd, 1, [], []) := zz_fetch_of p26 rfl rfl
theorem s26_67 : zz_Run zz_prog d 26 (67, [l0, l1, l2, l3, l4, l5, l6], .int w :: .int v :: st, k, h) = zz_Run zz_prog d 26 (68, [l0, l1, l2, l3, l4, l5, l6], .int (v + w) :: st, k, h) := zz_k_num f26_67 rfl
theorem f26_68 : zz_fetch zz_prog 26 68 = some (.istore 4, 2, [], []) := zz_fetch_of p26 rfl rfl
theorem s26_68 : zz_Run zz_prog d 26 (68, [l0, l1, l2, l3, l4, l5, l6], .int v :: st, k, h) = zz_sl l3 (zz_Run zz_prog d 26 (70, [l0, l1, l2, l3, some (.int v), l5, l6], st, k, h)) := zz_k_st (j := 4) (u := .int v) f26_68 rfl (fun q hq => by cases hq) rfl (show 4 < 7 by decide) (by cases l3 <;> rfl) rfl
theorem f26_70 : zz_fetch zz_prog 26 70 = some (.iinc 5 1, 3, [], []) := zz_fetch_of p26 rfl rfl
theorem s26_70 : zz_Run zz_prog d 26 (70, [l0, l1, l2, l3, l4, some (.int v), l6], st, k, h) = zz_sl l4 (zz_Run zz_prog d 26 (73, [l0, l1, l2, l3, l4, some (.int (v + 1)), l6], st, k, h)) := zz_k_st (j := 5) (u := .int (v + 1)) f26_70 rfl (fun q hq => by cases hq) rfl (show 5 < 7 by decide) (by cases l4 <;> rfl) rfl
theorem f26_73 : zz_fetch zz_prog 26 73 = some (.goto (-29), 3, [44], []) := zz_fetch_of p26 rfl rfl
theorem s26_73 : zz_Run zz_prog d 26 (73, [l0, l1, l2, l3, l4, l5, l6], st, k, h) = zz_Run zz_prog d 26 (44, [l0, l1, l2, l3, l4, l5, l6], st, k, h) := zz_k_num f26_73 rfl
theorem f26_76 : zz_fetch zz_prog 26 76 = some (.iload_n 3, 1, [], []) := zz_fetch_of p26 rfl rfl
theorem s26_76 : zz_Run zz_prog d 26 (76, [l0, l1, l2, some (.int v), l4, l5, l6], st, k, h) = zz_Run zz_prog d 26 (77, [l0, l1, l2, some (.int v), l4, l5, l6], .int v :: st, k, h) := zz_k_num f26_76 rfl
theorem f26_77 : zz_fetch zz_prog 26 77 = some (.iload 4, 2, [], []) := zz_fetch_of p26 rfl rfl
theorem s26_77 : zz_Run zz_prog d 26 (77, [l0, l1, l2, l3, some (.int v), l5, l6], st, k, h) = zz_Run zz_prog d 26 (79, [l0, l1, l2, l3, some (.int v), l5, l6], .int v :: st, k, h) := zz_k_num f26_77 rfl
theorem f26_79 : zz_fetch zz_prog 26 79 = some (.imul, 1, [], []) := zz_fetch_of p26 rfl rfl
theorem s26_79 : zz_Run zz_prog d 26 (79, [l0, l1, l2, l3, l4, l5, l6], .int w :: .int v :: st, k, h) = zz_Run zz_prog d 26 (80, [l0, l1, l2, l3, l4, l5, l6], .int (v * w) :: st, k, h) := zz_k_num f26_79 rfl
theorem f26_80 : zz_fetch zz_prog 26 80 = some (.istore 5, 2, [], []) := zz_fetch_of p26 rfl rfl
theorem s26_80 : zz_Run zz_prog d 26 (80, [l0, l1, l2, l3, l4, l5, l6], .int v :: st, k, h) = zz_sl l4 (zz_Run zz_prog d 26 (82, [l0, l1, l2, l3, l4, some (.int v), l6], st, k, h)) := zz_k_st (j := 5) (u := .int v) f26_80 rfl (fun q hq => by cases hq) rfl (show 5 < 7 by decide) (by cases l4 <;> rfl) rfl
theorem f26_82 : zz_fetch zz_prog 26 82 = some (.iconst 1, 1, [], []) := zz_fetch_of p26 rfl rfl
theorem s26_82 : zz_Run zz_prog d 26 (82, [l0, l1, l2, l3, l4, l5, l6], st, k, h) = zz_Run zz_prog d 26 (83, [l0, l1, l2, l3, l4, l5, l6], .int 1 :: st, k, h) := zz_k_num f26_82 rfl
theorem f26_83 : zz_fetch zz_prog 26 83 = some (.istore 6, 2, [], []) := zz_fetch_of p26 rfl rfl
theorem s26_83 : zz_Run zz_prog d 26 (83, [l0, l1, l2, l3, l4, l5, l6], .int v :: st, k, h) = zz_sl l5 (zz_Run zz_prog d 26 (85, [l0, l1, l2, l3, l4, l5, some (.int v)], st, k, h)) := zz_k_st (j := 6) (u := .int v) f26_83 rfl (fun q hq => by cases hq) rfl (show 6 < 7 by decide) (by cases l5 <;> rfl) rfl
theorem f26_85 : zz_fetch zz_prog 26 85 = some (.iload 6, 2, [], []) := zz_fetch_of p26 rfl rfl
theorem s26_85 : zz_Run zz_prog d 26 (85, [l0, l1, l2, l3, l4, l5, some (.int v)], st, k, h) = zz_Run zz_prog d 26 (87, [l0, l1, l2, l3, l4, l5, some (.int v)], .int v :: st, k, h) := zz_k_num f26_85 rfl
theorem f26_87 : zz_fetch zz_prog 26 87 = some (.iload_n 3, 1, [], []) := zz_fetch_of p26 rfl rfl
theorem s26_87 : zz_Run zz_prog d 26 (87, [l0, l1, l2, some (.int v), l4, l5, l6], st, k, h) = zz_Run zz_prog d 26 (88, [l0, l1, l2, some (.int v), l4, l5, l6], .int v :: st, k, h) := zz_k_num f26_87 rfl
theorem f26_88 : zz_fetch zz_prog 26 88 = some (.if_icmp .ge 16, 3, [104], []) := zz_fetch_of p26 rfl rfl
theorem s26_88 : zz_Run zz_prog d 26 (88, [l0, l1, l2, l3, l4, l5, l6], .int w :: .int v :: st, k, h) = if w ≤ v then zz_Run zz_prog d 26 (104, [l0, l1, l2, l3, l4, l5, l6], st, k, h) else zz_Run zz_prog d 26 (91, [l0, l1, l2, l3, l4, l5, l6], st, k, h) := zz_k_br (w ≤ v) rfl (zz_k_num f26_88 rfl)
theorem f26_91 : zz_fetch zz_prog 26 91 = some (.iload 5, 2, [], []) := zz_fetch_of p26 rfl rfl
theorem s26_91 : zz_Run zz_prog d 26 (91, [l0, l1, l2, l3, l4, some (.int v), l6], st, k, h) = zz_Run zz_prog d 26 (93, [l0, l1, l2, l3, l4, some (.int v), l6], .int v :: st, k, h) := zz_k_num f26_91 rfl
theorem f26_93 : zz_fetch zz_prog 26 93 = some (.bipush 36, 2, [], []) := zz_fetch_of p26 rfl rfl
theorem s26_93 : zz_Run zz_prog d 26 (93, [l0, l1, l2, l3, l4, l5, l6], st, k, h) = zz_Run zz_prog d 26 (95, [l0, l1, l2, l3, l4, l5, l6], .int 36 :: st, k, h) := zz_k_num f26_93 (congrArg (fun u => some (95, [l0, l1, l2, l3, l4, l5, l6], Value.int u :: st)) (by decide : (Int8.ofInt 36).toInt32 = 36))
theorem f26_95 : zz_fetch zz_prog 26 95 = some (.imul, 1, [], []) := zz_fetch_of p26 rfl rfl
theorem s26_95 : zz_Run zz_prog d 26 (95, [l0, l1, l2, l3, l4, l5, l6], .int w :: .int v :: st, k, h) = zz_Run zz_prog d 26 (96, [l0, l1, l2, l3, l4, l5, l6], .int (v * w) :: st, k, h) := zz_k_num f26_95 rfl
theorem f26_96 : zz_fetch zz_prog 26 96 = some (.istore 5, 2, [], []) := zz_fetch_of p26 rfl rfl
theorem s26_96 : zz_Run zz_prog d 26 (96, [l0, l1, l2, l3, l4, l5, l6], .int v :: st, k, h) = zz_sl l4 (zz_Run zz_prog d 26 (98, [l0, l1, l2, l3, l4, some (.int v), l6], st, k, h)) := zz_k_st (j := 5) (u := .int v) f26_96 rfl (fun q hq => by cases hq) rfl (show 5 < 7 by decide) (by cases l4 <;> rfl) rfl
theorem f26_98 : zz_fetch zz_prog 26 98 = some (.iinc 6 1, 3, [], []) := zz_fetch_of p26 rfl rfl
theorem s26_98 : zz_Run zz_prog d 26 (98, [l0, l1, l2, l3, l4, l5, some (.int v)], st, k, h) = zz_sl l5 (zz_Run zz_prog d 26 (101, [l0, l1, l2, l3, l4, l5, some (.int (v + 1))], st, k, h)) := zz_k_st (j := 6) (u := .int (v + 1)) f26_98 rfl (fun q hq => by cases hq) rfl (show 6 < 7 by decide) (by cases l5 <;> rfl) rfl
theorem f26_101 : zz_fetch zz_prog 26 101 = some (.goto (-16), 3, [85], []) := zz_fetch_of p26 rfl rfl
theorem s26_101 : zz_Run zz_prog d 26 (101, [l0, l1, l2, l3, l4, l5, l6], st, k, h) = zz_Run zz_prog d 26 (85, [l0, l1, l2, l3, l4, l5, l6], st, k, h) := zz_k_num f26_101 rfl
theorem f26_104 : zz_fetch zz_prog 26 104 = some (.iload 5, 2, [], []) := zz_fetch_of p26 rfl rfl
theorem s26_104 : zz_Run zz_prog d 26 (104, [l0, l1, l2, l3, l4, some (.int v), l6], st, k, h) = zz_Run zz_prog d 26 (106, [l0, l1, l2, l3, l4, some (.int v), l6], .int v :: st, k, h) := zz_k_num f26_104 rfl
theorem f26_106 : zz_fetch zz_prog 26 106 = some (.ireturn, 1, [0], []) := zz_fetch_of p26 rfl rfl
theorem s26_106 : zz_Run zz_prog d 26 (106, [l0, l1, l2, l3, l4, l5, l6], [.int v], k, h) = some (.inl (some (.int v)), k, h) := zz_k_stop f26_106 rfl rfl rfl
end S26
section S27
variable {d n j : Nat} {l0 l1 : Option Value} {st : List Value} {k : Bool} {h : zz_H} {v w v1 v2 : Int32} {y y1 : Int64} {a a1 a2 : Nat} {b0 b1 b2 b3 b4 b5 b6 b7 b8 : Value} {I : Nat → Nat → Int32} {J : Nat → Nat → Int64} {ex : List (Nat × Nat)}
theorem p27 : zz_prog 27 = some zz_m27 := rfl
theorem e27 (g0 : Nat) (g1 : Int32) : zz_Call zz_prog (d + 1) 27 [.ref g0, .int g1] h = zz_Run zz_prog d 27 (0, [some (.ref g0), some (.int g1)], [], true, h) := rfl
theorem t27 (pc : Nat) (L : List (Option Value)) : zz_th d 27 pc a L k h = some (.inr a, k, h) := zz_th_out p27 rfl
theorem f27_0 : zz_fetch zz_prog 27 0 = some (.aload_n 0, 1, [], []) := zz_fetch_of p27 rfl rfl
theorem s27_0 : zz_Run zz_prog d 27 (0, [some (.ref a), l1], st, k, h) = zz_Run zz_prog d 27 (1, [some (.ref a), l1], .ref a :: st, k, h) := zz_k_num f27_0 rfl
theorem f27_1 : zz_fetch zz_prog 27 1 = some (.getfield 28, 3, [1, 7, 3], []) := zz_fetch_of p27 rfl rfl
theorem s27_1 : zz_Run zz_prog d 27 (1, [l0, l1], .ref 5 :: st, k, (zz_hp n I J ex)) = zz_Run zz_prog d 27 (4, [l0, l1], .ref 9 :: st, k, (zz_hp n I J ex)) := zz_k_go f27_1 rfl rfl rfl
theorem f27_4 : zz_fetch zz_prog 27 4 = some (.getfield 89, 3, [0, 0, 0], []) := zz_fetch_of p27 rfl rfl
theorem s27_4 : zz_Run zz_prog d 27 (4, [l0, l1], .ref 9 :: st, k, (zz_hp n I J ex)) = zz_Run zz_prog d 27 (7, [l0, l1], .int (I 9 0) :: st, k, (zz_hp n I J ex)) := zz_k_go f27_4 rfl rfl rfl
theorem s27_4b : zz_Run zz_prog d 27 (4, [l0, l1], .ref 16 :: st, k, (zz_hp n I J ex)) = zz_Run zz_prog d 27 (7, [l0, l1], .int (I 16 0) :: st, k, (zz_hp n I J ex)) := zz_k_go f27_4 rfl rfl rfl
theorem f27_7 : zz_fetch zz_prog 27 7 = some (.iload_n 1, 1, [], []) := zz_fetch_of p27 rfl rfl
theorem s27_7 : zz_Run zz_prog d 27 (7, [l0, some (.int v)], st, k, h) = zz_Run zz_prog d 27 (8, [l0, some (.int v)], .int v :: st, k, h) := zz_k_num f27_7 rfl
theorem f27_8 : zz_fetch zz_prog 27 8 = some (.if_icmp .eq 11, 3, [19], []) := zz_fetch_of p27 rfl rfl
theorem s27_8 : zz_Run zz_prog d 27 (8, [l0, l1], .int w :: .int v :: st, k, h) = if v = w then zz_Run zz_prog d 27 (19, [l0, l1], st, k, h) else zz_Run zz_prog d 27 (11, [l0, l1], st, k, h) := zz_k_br (v = w) rfl (zz_k_num f27_8 rfl)
theorem f27_11 : zz_fetch zz_prog 27 11 = some (.new 54, 3, [4, 3], []) := zz_fetch_of p27 rfl rfl
theorem s27_11 : zz_Run zz_prog d 27 (11, [l0, l1], [], true, (zz_hp n I J ex)) = some (.inr (zz_exa ex), false, zz_hp n I J (ex ++ [(4, 3)])) := zz_k_throw f27_11 (by simp)
theorem f27_19 : zz_fetch zz_prog 27 19 = some (.return_, 1, [], []) := zz_fetch_of p27 rfl rfl
theorem s27_19 : zz_Run zz_prog d 27 (19, [l0, l1], [], k, h) = some (.inl none, k, h) := zz_k_stop f27_19 rfl rfl rfl
end S27
section S28
variable {d n j : Nat} {l0 l1 : Option Value} {st : List Value} {k : Bool} {h : zz_H} {v w v1 v2 : Int32} {y y1 : Int64} {a a1 a2 : Nat} {b0 b1 b2 b3 b4 b5 b6 b7 b8 : Value} {I : Nat → Nat → Int32} {J : Nat → Nat → Int64} {ex : List (Nat × Nat)}
theorem p28 : zz_prog 28 = some zz_m28 := rfl
theorem e28 (g0 : Nat) (g1 : Int32) : zz_Call zz_prog (d + 1) 28 [.ref g0, .int g1] h = zz_Run zz_prog d 28 (0, [some (.ref g0), some (.int g1)], [], true, h) := rfl
theorem t28 (pc : Nat) (L : List (Option Value)) : zz_th d 28 pc a L k h = some (.inr a, k, h) := zz_th_out p28 rfl
theorem f28_0 : zz_fetch zz_prog 28 0 = some (.aload_n 0, 1, [], []) := zz_fetch_of p28 rfl rfl
theorem s28_0 : zz_Run zz_prog d 28 (0, [some (.ref a), l1], st, k, h) = zz_Run zz_prog d 28 (1, [some (.ref a), l1], .ref a :: st, k, h) := zz_k_num f28_0 rfl
theorem f28_1 : zz_fetch zz_prog 28 1 = some (.iload_n 1, 1, [], []) := zz_fetch_of p28 rfl rfl
theorem s28_1 : zz_Run zz_prog d 28 (1, [l0, some (.int v)], st, k, h) = zz_Run zz_prog d 28 (2, [l0, some (.int v)], .int v :: st, k, h) := zz_k_num f28_1 rfl
theorem f28_2 : zz_fetch zz_prog 28 2 = some (.invokevirtual 126, 3, [0, 29, 2, 1], []) := zz_fetch_of p28 rfl rfl
theorem s28_2 : zz_Run zz_prog d 28 (2, [l0, l1], [b0, .ref 5], k, (zz_hp n I J ex)) = zz_ret (zz_Call zz_prog d 29 [.ref 5, b0] (zz_hp n I J ex)) (fun v k' h' => zz_Run zz_prog d 28 (5, [l0, l1], v.toList ++ [], k && k', h')) (fun a k' h' => zz_th d 28 2 a [l0, l1] (k && k') h') := zz_k_call f28_2 rfl rfl rfl
theorem f28_5 : zz_fetch zz_prog 28 5 = some (.ifCond .ne 11, 3, [16], []) := zz_fetch_of p28 rfl rfl
theorem s28_5 : zz_Run zz_prog d 28 (5, [l0, l1], .int v :: st, k, h) = if ¬ v = 0 then zz_Run zz_prog d 28 (16, [l0, l1], st, k, h) else zz_Run zz_prog d 28 (8, [l0, l1], st, k, h) := zz_k_br (¬ v = 0) rfl (zz_k_num f28_5 rfl)
theorem f28_8 : zz_fetch zz_prog 28 8 = some (.new 218, 3, [4, 6], []) := zz_fetch_of p28 rfl rfl
theorem s28_8 : zz_Run zz_prog d 28 (8, [l0, l1], [], true, (zz_hp n I J ex)) = some (.inr (zz_exa ex), false, zz_hp n I J (ex ++ [(4, 6)])) := zz_k_throw f28_8 (by simp)
theorem f28_16 : zz_fetch zz_prog 28 16 = some (.return_, 1, [], []) := zz_fetch_of p28 rfl rfl
theorem s28_16 : zz_Run zz_prog d 28 (16, [l0, l1], [], k, h) = some (.inl none, k, h) := zz_k_stop f28_16 rfl rfl rfl
end S28
section S29
variable {d n j : Nat} {l0 l1 : Option Value} {st : List Value} {k : Bool} {h : zz_H} {v w v1 v2 : Int32} {y y1 : Int64} {a a1 a2 : Nat} {b0 b1 b2 b3 b4 b5 b6 b7 b8 : Value} {I : Nat → Nat → Int32} {J : Nat → Nat → Int64} {ex : List (Nat × Nat)}
theorem p29 : zz_prog 29 = some zz_m29 := rfl
theorem e29 (g0 : Nat) (g1 : Int32) : zz_Call zz_prog (d + 1) 29 [.ref g0, .int g1] h = zz_Run zz_prog d 29 (0, [some (.ref g0), some (.int g1)], [], true, h) := rfl
theorem t29 (pc : Nat) (L : List (Option Value)) : zz_th d 29 pc a L k h = some (.inr a, k, h) := zz_th_out p29 rfl
theorem f29_0 : zz_fetch zz_prog 29 0 = some (.iload_n 1, 1, [], []) := zz_fetch_of p29 rfl rfl
theorem s29_0 : zz_Run zz_prog d 29 (0, [l0, some (.int v)], st, k, h) = zz_Run zz_prog d 29 (1, [l0, some (.int v)], .int v :: st, k, h) := zz_k_num f29_0 rfl
theorem f29_1 : zz_fetch zz_prog 29 1 = some (.ifCond .lt 15, 3, [16], []) := zz_fetch_of p29 rfl rfl
theorem s29_1 : zz_Run zz_prog d 29 (1, [l0, l1], .int v :: st, k, h) = if v < 0 then zz_Run zz_prog d 29 (16, [l0, l1], st, k, h) else zz_Run zz_prog d 29 (4, [l0, l1], st, k, h) := zz_k_br (v < 0) rfl (zz_k_num f29_1 rfl)
theorem f29_4 : zz_fetch zz_prog 29 4 = some (.iload_n 1, 1, [], []) := zz_fetch_of p29 rfl rfl
theorem s29_4 : zz_Run zz_prog d 29 (4, [l0, some (.int v)], st, k, h) = zz_Run zz_prog d 29 (5, [l0, some (.int v)], .int v :: st, k, h) := zz_k_num f29_4 rfl
theorem f29_5 : zz_fetch zz_prog 29 5 = some (.aload_n 0, 1, [], []) := zz_fetch_of p29 rfl rfl
theorem s29_5 : zz_Run zz_prog d 29 (5, [some (.ref a), l1], st, k, h) = zz_Run zz_prog d 29 (6, [some (.ref a), l1], .ref a :: st, k, h) := zz_k_num f29_5 rfl
theorem f29_6 : zz_fetch zz_prog 29 6 = some (.getfield 73, 3, [1, 5, 0], []) := zz_fetch_of p29 rfl rfl
theorem s29_6 : zz_Run zz_prog d 29 (6, [l0, l1], .ref 5 :: st, k, (zz_hp n I J ex)) = zz_Run zz_prog d 29 (9, [l0, l1], .int (I 5 5) :: st, k, (zz_hp n I J ex)) := zz_k_go f29_6 rfl rfl rfl
theorem f29_9 : zz_fetch zz_prog 29 9 = some (.if_icmp .ge 7, 3, [16], []) := zz_fetch_of p29 rfl rfl
theorem s29_9 : zz_Run zz_prog d 29 (9, [l0, l1], .int w :: .int v :: st, k, h) = if w ≤ v then zz_Run zz_prog d 29 (16, [l0, l1], st, k, h) else zz_Run zz_prog d 29 (12, [l0, l1], st, k, h) := zz_k_br (w ≤ v) rfl (zz_k_num f29_9 rfl)
theorem f29_12 : zz_fetch zz_prog 29 12 = some (.iconst 1, 1, [], []) := zz_fetch_of p29 rfl rfl
theorem s29_12 : zz_Run zz_prog d 29 (12, [l0, l1], st, k, h) = zz_Run zz_prog d 29 (13, [l0, l1], .int 1 :: st, k, h) := zz_k_num f29_12 rfl
theorem f29_13 : zz_fetch zz_prog 29 13 = some (.goto 4, 3, [17], []) := zz_fetch_of p29 rfl rfl
theorem s29_13 : zz_Run zz_prog d 29 (13, [l0, l1], st, k, h) = zz_Run zz_prog d 29 (17, [l0, l1], st, k, h) := zz_k_num f29_13 rfl
theorem f29_16 : zz_fetch zz_prog 29 16 = some (.iconst 0, 1, [], []) := zz_fetch_of p29 rfl rfl
theorem s29_16 : zz_Run zz_prog d 29 (16, [l0, l1], st, k, h) = zz_Run zz_prog d 29 (17, [l0, l1], .int 0 :: st, k, h) := zz_k_num f29_16 rfl
theorem f29_17 : zz_fetch zz_prog 29 17 = some (.ireturn, 1, [1], []) := zz_fetch_of p29 rfl rfl
theorem s29_17 : zz_Run zz_prog d 29 (17, [l0, l1], [.int v], k, h) = zz_ck (decide (v = 0 ∨ v = 1)) (some (.inl (some (.int v)), k, h)) := zz_k_retz f29_17
end S29
section S30
variable {d n j : Nat} {l0 : Option Value} {st : List Value} {k : Bool} {h : zz_H} {v w v1 v2 : Int32} {y y1 : Int64} {a a1 a2 : Nat} {b0 b1 b2 b3 b4 b5 b6 b7 b8 : Value} {I : Nat → Nat → Int32} {J : Nat → Nat → Int64} {ex : List (Nat × Nat)}
theorem p30 : zz_prog 30 = some zz_m30 := rfl
theorem e30 (g0 : Int32) : zz_Call zz_prog (d + 1) 30 [.int g0] h = zz_Run zz_prog d 30 (0, [some (.int g0)], [], true, h) := rfl
theorem t30 (pc : Nat) (L : List (Option Value)) : zz_th d 30 pc a L k h = some (.inr a, k, h) := zz_th_out p30 rfl
theorem f30_0 : zz_fetch zz_prog 30 0 = some (.iload_n 0, 1, [], []) := zz_fetch_of p30 rfl rfl
theorem s30_0 : zz_Run zz_prog d 30 (0, [some (.int v)], st, k, h) = zz_Run zz_prog d 30 (1, [some (.int v)], .int v :: st, k, h) := zz_k_num f30_0 rfl
theorem f30_1 : zz_fetch zz_prog 30 1 = some (.ifCond .lt 13, 3, [14], []) := zz_fetch_of p30 rfl rfl
theorem s30_1 : zz_Run zz_prog d 30 (1, [l0], .int v :: st, k, h) = if v < 0 then zz_Run zz_prog d 30 (14, [l0], st, k, h) else zz_Run zz_prog d 30 (4, [l0], st, k, h) := zz_k_br (v < 0) rfl (zz_k_num f30_1 rfl)
theorem f30_4 : zz_fetch zz_prog 30 4 = some (.iload_n 0, 1, [], []) := zz_fetch_of p30 rfl rfl
theorem s30_4 : zz_Run zz_prog d 30 (4, [some (.int v)], st, k, h) = zz_Run zz_prog d 30 (5, [some (.int v)], .int v :: st, k, h) := zz_k_num f30_4 rfl
theorem f30_5 : zz_fetch zz_prog 30 5 = some (.bipush 19, 2, [], []) := zz_fetch_of p30 rfl rfl
theorem s30_5 : zz_Run zz_prog d 30 (5, [l0], st, k, h) = zz_Run zz_prog d 30 (7, [l0], .int 19 :: st, k, h) := zz_k_num f30_5 (congrArg (fun u => some (7, [l0], Value.int u :: st)) (by decide : (Int8.ofInt 19).toInt32 = 19))
theorem f30_7 : zz_fetch zz_prog 30 7 = some (.if_icmp .ge 7, 3, [14], []) := zz_fetch_of p30 rfl rfl
theorem s30_7 : zz_Run zz_prog d 30 (7, [l0], .int w :: .int v :: st, k, h) = if w ≤ v then zz_Run zz_prog d 30 (14, [l0], st, k, h) else zz_Run zz_prog d 30 (10, [l0], st, k, h) := zz_k_br (w ≤ v) rfl (zz_k_num f30_7 rfl)
theorem f30_10 : zz_fetch zz_prog 30 10 = some (.iconst 1, 1, [], []) := zz_fetch_of p30 rfl rfl
theorem s30_10 : zz_Run zz_prog d 30 (10, [l0], st, k, h) = zz_Run zz_prog d 30 (11, [l0], .int 1 :: st, k, h) := zz_k_num f30_10 rfl
theorem f30_11 : zz_fetch zz_prog 30 11 = some (.goto 4, 3, [15], []) := zz_fetch_of p30 rfl rfl
theorem s30_11 : zz_Run zz_prog d 30 (11, [l0], st, k, h) = zz_Run zz_prog d 30 (15, [l0], st, k, h) := zz_k_num f30_11 rfl
theorem f30_14 : zz_fetch zz_prog 30 14 = some (.iconst 0, 1, [], []) := zz_fetch_of p30 rfl rfl
theorem s30_14 : zz_Run zz_prog d 30 (14, [l0], st, k, h) = zz_Run zz_prog d 30 (15, [l0], .int 0 :: st, k, h) := zz_k_num f30_14 rfl
theorem f30_15 : zz_fetch zz_prog 30 15 = some (.ireturn, 1, [1], []) := zz_fetch_of p30 rfl rfl
theorem s30_15 : zz_Run zz_prog d 30 (15, [l0], [.int v], k, h) = zz_ck (decide (v = 0 ∨ v = 1)) (some (.inl (some (.int v)), k, h)) := zz_k_retz f30_15
end S30
section S31
variable {d n j : Nat} {l0 : Option Value} {st : List Value} {k : Bool} {h : zz_H} {v w v1 v2 : Int32} {y y1 : Int64} {a a1 a2 : Nat} {b0 b1 b2 b3 b4 b5 b6 b7 b8 : Value} {I : Nat → Nat → Int32} {J : Nat → Nat → Int64} {ex : List (Nat × Nat)}
theorem p31 : zz_prog 31 = some zz_m31 := rfl
theorem e31 (g0 : Int32) : zz_Call zz_prog (d + 1) 31 [.int g0] h = zz_Run zz_prog d 31 (0, [some (.int g0)], [], true, h) := rfl
theorem t31 (pc : Nat) (L : List (Option Value)) : zz_th d 31 pc a L k h = some (.inr a, k, h) := zz_th_out p31 rfl
theorem f31_0 : zz_fetch zz_prog 31 0 = some (.iload_n 0, 1, [], []) := zz_fetch_of p31 rfl rfl
theorem s31_0 : zz_Run zz_prog d 31 (0, [some (.int v)], st, k, h) = zz_Run zz_prog d 31 (1, [some (.int v)], .int v :: st, k, h) := zz_k_num f31_0 rfl
theorem f31_1 : zz_fetch zz_prog 31 1 = some (.ifCond .lt 12, 3, [13], []) := zz_fetch_of p31 rfl rfl
theorem s31_1 : zz_Run zz_prog d 31 (1, [l0], .int v :: st, k, h) = if v < 0 then zz_Run zz_prog d 31 (13, [l0], st, k, h) else zz_Run zz_prog d 31 (4, [l0], st, k, h) := zz_k_br (v < 0) rfl (zz_k_num f31_1 rfl)
theorem f31_4 : zz_fetch zz_prog 31 4 = some (.iload_n 0, 1, [], []) := zz_fetch_of p31 rfl rfl
theorem s31_4 : zz_Run zz_prog d 31 (4, [some (.int v)], st, k, h) = zz_Run zz_prog d 31 (5, [some (.int v)], .int v :: st, k, h) := zz_k_num f31_4 rfl
theorem f31_5 : zz_fetch zz_prog 31 5 = some (.iconst 5, 1, [], []) := zz_fetch_of p31 rfl rfl
theorem s31_5 : zz_Run zz_prog d 31 (5, [l0], st, k, h) = zz_Run zz_prog d 31 (6, [l0], .int 5 :: st, k, h) := zz_k_num f31_5 rfl
theorem f31_6 : zz_fetch zz_prog 31 6 = some (.if_icmp .ge 7, 3, [13], []) := zz_fetch_of p31 rfl rfl
theorem s31_6 : zz_Run zz_prog d 31 (6, [l0], .int w :: .int v :: st, k, h) = if w ≤ v then zz_Run zz_prog d 31 (13, [l0], st, k, h) else zz_Run zz_prog d 31 (9, [l0], st, k, h) := zz_k_br (w ≤ v) rfl (zz_k_num f31_6 rfl)
theorem f31_9 : zz_fetch zz_prog 31 9 = some (.iconst 1, 1, [], []) := zz_fetch_of p31 rfl rfl
theorem s31_9 : zz_Run zz_prog d 31 (9, [l0], st, k, h) = zz_Run zz_prog d 31 (10, [l0], .int 1 :: st, k, h) := zz_k_num f31_9 rfl
theorem f31_10 : zz_fetch zz_prog 31 10 = some (.goto 4, 3, [14], []) := zz_fetch_of p31 rfl rfl
theorem s31_10 : zz_Run zz_prog d 31 (10, [l0], st, k, h) = zz_Run zz_prog d 31 (14, [l0], st, k, h) := zz_k_num f31_10 rfl
theorem f31_13 : zz_fetch zz_prog 31 13 = some (.iconst 0, 1, [], []) := zz_fetch_of p31 rfl rfl
theorem s31_13 : zz_Run zz_prog d 31 (13, [l0], st, k, h) = zz_Run zz_prog d 31 (14, [l0], .int 0 :: st, k, h) := zz_k_num f31_13 rfl
theorem f31_14 : zz_fetch zz_prog 31 14 = some (.ireturn, 1, [1], []) := zz_fetch_of p31 rfl rfl
theorem s31_14 : zz_Run zz_prog d 31 (14, [l0], [.int v], k, h) = zz_ck (decide (v = 0 ∨ v = 1)) (some (.inl (some (.int v)), k, h)) := zz_k_retz f31_14
end S31
section S32
variable {d n j : Nat} {l0 l1 : Option Value} {st : List Value} {k : Bool} {h : zz_H} {v w v1 v2 : Int32} {y y1 : Int64} {a a1 a2 : Nat} {b0 b1 b2 b3 b4 b5 b6 b7 b8 : Value} {I : Nat → Nat → Int32} {J : Nat → Nat → Int64} {ex : List (Nat × Nat)}
theorem p32 : zz_prog 32 = some zz_m32 := rfl
theorem e32 (g0 : Int32) (g1 : Int32) : zz_Call zz_prog (d + 1) 32 [.int g0, .int g1] h = zz_Run zz_prog d 32 (0, [some (.int g0), some (.int g1)], [], true, h) := rfl
theorem t32 (pc : Nat) (L : List (Option Value)) : zz_th d 32 pc a L k h = some (.inr a, k, h) := zz_th_out p32 rfl
theorem f32_0 : zz_fetch zz_prog 32 0 = some (.iload_n 0, 1, [], []) := zz_fetch_of p32 rfl rfl
theorem s32_0 : zz_Run zz_prog d 32 (0, [some (.int v), l1], st, k, h) = zz_Run zz_prog d 32 (1, [some (.int v), l1], .int v :: st, k, h) := zz_k_num f32_0 rfl
theorem f32_1 : zz_fetch zz_prog 32 1 = some (.iconst 5, 1, [], []) := zz_fetch_of p32 rfl rfl
theorem s32_1 : zz_Run zz_prog d 32 (1, [l0, l1], st, k, h) = zz_Run zz_prog d 32 (2, [l0, l1], .int 5 :: st, k, h) := zz_k_num f32_1 rfl
theorem f32_2 : zz_fetch zz_prog 32 2 = some (.if_icmp .ne 13, 3, [15], []) := zz_fetch_of p32 rfl rfl
theorem s32_2 : zz_Run zz_prog d 32 (2, [l0, l1], .int w :: .int v :: st, k, h) = if ¬ v = w then zz_Run zz_prog d 32 (15, [l0, l1], st, k, h) else zz_Run zz_prog d 32 (5, [l0, l1], st, k, h) := zz_k_br (¬ v = w) rfl (zz_k_num f32_2 rfl)
theorem f32_5 : zz_fetch zz_prog 32 5 = some (.iload_n 1, 1, [], []) := zz_fetch_of p32 rfl rfl
theorem s32_5 : zz_Run zz_prog d 32 (5, [l0, some (.int v)], st, k, h) = zz_Run zz_prog d 32 (6, [l0, some (.int v)], .int v :: st, k, h) := zz_k_num f32_5 rfl
theorem f32_6 : zz_fetch zz_prog 32 6 = some (.ifCond .ne 7, 3, [13], []) := zz_fetch_of p32 rfl rfl
theorem s32_6 : zz_Run zz_prog d 32 (6, [l0, l1], .int v :: st, k, h) = if ¬ v = 0 then zz_Run zz_prog d 32 (13, [l0, l1], st, k, h) else zz_Run zz_prog d 32 (9, [l0, l1], st, k, h) := zz_k_br (¬ v = 0) rfl (zz_k_num f32_6 rfl)
theorem f32_9 : zz_fetch zz_prog 32 9 = some (.iconst 1, 1, [], []) := zz_fetch_of p32 rfl rfl
theorem s32_9 : zz_Run zz_prog d 32 (9, [l0, l1], st, k, h) = zz_Run zz_prog d 32 (10, [l0, l1], .int 1 :: st, k, h) := zz_k_num f32_9 rfl
theorem f32_10 : zz_fetch zz_prog 32 10 = some (.goto 4, 3, [14], []) := zz_fetch_of p32 rfl rfl
theorem s32_10 : zz_Run zz_prog d 32 (10, [l0, l1], st, k, h) = zz_Run zz_prog d 32 (14, [l0, l1], st, k, h) := zz_k_num f32_10 rfl
theorem f32_13 : zz_fetch zz_prog 32 13 = some (.iconst 0, 1, [], []) := zz_fetch_of p32 rfl rfl
theorem s32_13 : zz_Run zz_prog d 32 (13, [l0, l1], st, k, h) = zz_Run zz_prog d 32 (14, [l0, l1], .int 0 :: st, k, h) := zz_k_num f32_13 rfl
theorem f32_14 : zz_fetch zz_prog 32 14 = some (.ireturn, 1, [1], []) := zz_fetch_of p32 rfl rfl
theorem s32_14 : zz_Run zz_prog d 32 (14, [l0, l1], [.int v], k, h) = zz_ck (decide (v = 0 ∨ v = 1)) (some (.inl (some (.int v)), k, h)) := zz_k_retz f32_14
theorem f32_15 : zz_fetch zz_prog 32 15 = some (.iload_n 0, 1, [], []) := zz_fetch_of p32 rfl rfl
theorem s32_15 : zz_Run zz_prog d 32 (15, [some (.int v), l1], st, k, h) = zz_Run zz_prog d 32 (16, [some (.int v), l1], .int v :: st, k, h) := zz_k_num f32_15 rfl
theorem f32_16 : zz_fetch zz_prog 32 16 = some (.invokestatic 129, 3, [0, 31, 1], []) := zz_fetch_of p32 rfl rfl
theorem s32_16 : zz_Run zz_prog d 32 (16, [l0, l1], [b0], k, h) = zz_ret (zz_Call zz_prog d 31 [b0] h) (fun v k' h' => zz_Run zz_prog d 32 (19, [l0, l1], v.toList ++ [], k && k', h')) (fun a k' h' => zz_th d 32 16 a [l0, l1] (k && k') h') := zz_k_call f32_16 rfl rfl rfl
theorem f32_19 : zz_fetch zz_prog 32 19 = some (.ifCond .eq 24, 3, [43], []) := zz_fetch_of p32 rfl rfl
theorem s32_19 : zz_Run zz_prog d 32 (19, [l0, l1], .int v :: st, k, h) = if v = 0 then zz_Run zz_prog d 32 (43, [l0, l1], st, k, h) else zz_Run zz_prog d 32 (22, [l0, l1], st, k, h) := zz_k_br (v = 0) rfl (zz_k_num f32_19 rfl)
theorem f32_22 : zz_fetch zz_prog 32 22 = some (.iload_n 1, 1, [], []) := zz_fetch_of p32 rfl rfl
theorem s32_22 : zz_Run zz_prog d 32 (22, [l0, some (.int v)], st, k, h) = zz_Run zz_prog d 32 (23, [l0, some (.int v)], .int v :: st, k, h) := zz_k_num f32_22 rfl
theorem f32_23 : zz_fetch zz_prog 32 23 = some (.iconst 2, 1, [], []) := zz_fetch_of p32 rfl rfl
theorem s32_23 : zz_Run zz_prog d 32 (23, [l0, l1], st, k, h) = zz_Run zz_prog d 32 (24, [l0, l1], .int 2 :: st, k, h) := zz_k_num f32_23 rfl
theorem f32_24 : zz_fetch zz_prog 32 24 = some (.if_icmp .lt 19, 3, [43], []) := zz_fetch_of p32 rfl rfl
theorem s32_24 : zz_Run zz_prog d 32 (24, [l0, l1], .int w :: .int v :: st, k, h) = if v < w then zz_Run zz_prog d 32 (43, [l0, l1], st, k, h) else zz_Run zz_prog d 32 (27, [l0, l1], st, k, h) := zz_k_br (v < w) rfl (zz_k_num f32_24 rfl)
theorem f32_27 : zz_fetch zz_prog 32 27 = some (.iload_n 1, 1, [], []) := zz_fetch_of p32 rfl rfl
theorem s32_27 : zz_Run zz_prog d 32 (27, [l0, some (.int v)], st, k, h) = zz_Run zz_prog d 32 (28, [l0, some (.int v)], .int v :: st, k, h) := zz_k_num f32_27 rfl
theorem f32_28 : zz_fetch zz_prog 32 28 = some (.bipush 12, 2, [], []) := zz_fetch_of p32 rfl rfl
theorem s32_28 : zz_Run zz_prog d 32 (28, [l0, l1], st, k, h) = zz_Run zz_prog d 32 (30, [l0, l1], .int 12 :: st, k, h) := zz_k_num f32_28 (congrArg (fun u => some (30, [l0, l1], Value.int u :: st)) (by decide : (Int8.ofInt 12).toInt32 = 12))
theorem f32_30 : zz_fetch zz_prog 32 30 = some (.if_icmp .gt 13, 3, [43], []) := zz_fetch_of p32 rfl rfl
theorem s32_30 : zz_Run zz_prog d 32 (30, [l0, l1], .int w :: .int v :: st, k, h) = if w < v then zz_Run zz_prog d 32 (43, [l0, l1], st, k, h) else zz_Run zz_prog d 32 (33, [l0, l1], st, k, h) := zz_k_br (w < v) rfl (zz_k_num f32_30 rfl)
theorem f32_33 : zz_fetch zz_prog 32 33 = some (.iload_n 1, 1, [], []) := zz_fetch_of p32 rfl rfl
theorem s32_33 : zz_Run zz_prog d 32 (33, [l0, some (.int v)], st, k, h) = zz_Run zz_prog d 32 (34, [l0, some (.int v)], .int v :: st, k, h) := zz_k_num f32_33 rfl
theorem f32_34 : zz_fetch zz_prog 32 34 = some (.bipush 7, 2, [], []) := zz_fetch_of p32 rfl rfl
theorem s32_34 : zz_Run zz_prog d 32 (34, [l0, l1], st, k, h) = zz_Run zz_prog d 32 (36, [l0, l1], .int 7 :: st, k, h) := zz_k_num f32_34 (congrArg (fun u => some (36, [l0, l1], Value.int u :: st)) (by decide : (Int8.ofInt 7).toInt32 = 7))
theorem f32_36 : zz_fetch zz_prog 32 36 = some (.if_icmp .eq 7, 3, [43], []) := zz_fetch_of p32 rfl rfl
theorem s32_36 : zz_Run zz_prog d 32 (36, [l0, l1], .int w :: .int v :: st, k, h) = if v = w then zz_Run zz_prog d 32 (43, [l0, l1], st, k, h) else zz_Run zz_prog d 32 (39, [l0, l1], st, k, h) := zz_k_br (v = w) rfl (zz_k_num f32_36 rfl)
theorem f32_39 : zz_fetch zz_prog 32 39 = some (.iconst 1, 1, [], []) := zz_fetch_of p32 rfl rfl
theorem s32_39 : zz_Run zz_prog d 32 (39, [l0, l1], st, k, h) = zz_Run zz_prog d 32 (40, [l0, l1], .int 1 :: st, k, h) := zz_k_num f32_39 rfl
theorem f32_40 : zz_fetch zz_prog 32 40 = some (.goto 4, 3, [44], []) := zz_fetch_of p32 rfl rfl
theorem s32_40 : zz_Run zz_prog d 32 (40, [l0, l1], st, k, h) = zz_Run zz_prog d 32 (44, [l0, l1], st, k, h) := zz_k_num f32_40 rfl
theorem f32_43 : zz_fetch zz_prog 32 43 = some (.iconst 0, 1, [], []) := zz_fetch_of p32 rfl rfl
theorem s32_43 : zz_Run zz_prog d 32 (43, [l0, l1], st, k, h) = zz_Run zz_prog d 32 (44, [l0, l1], .int 0 :: st, k, h) := zz_k_num f32_43 rfl
theorem f32_44 : zz_fetch zz_prog 32 44 = some (.ireturn, 1, [1], []) := zz_fetch_of p32 rfl rfl
theorem s32_44 : zz_Run zz_prog d 32 (44, [l0, l1], [.int v], k, h) = zz_ck (decide (v = 0 ∨ v = 1)) (some (.inl (some (.int v)), k, h)) := zz_k_retz f32_44
end S32
section S33
variable {d n j : Nat} {l0 l1 : Option Value} {st : List Value} {k : Bool} {h : zz_H} {v w v1 v2 : Int32} {y y1 : Int64} {a a1 a2 : Nat} {b0 b1 b2 b3 b4 b5 b6 b7 b8 : Value} {I : Nat → Nat → Int32} {J : Nat → Nat → Int64} {ex : List (Nat × Nat)}
theorem p33 : zz_prog 33 = some zz_m33 := rfl
theorem e33 (g0 : Int32) (g1 : Int32) : zz_Call zz_prog (d + 1) 33 [.int g0, .int g1] h = zz_Run zz_prog d 33 (0, [some (.int g0), some (.int g1)], [], true, h) := rfl
theorem t33 (pc : Nat) (L : List (Option Value)) : zz_th d 33 pc a L k h = some (.inr a, k, h) := zz_th_out p33 rfl
theorem f33_0 : zz_fetch zz_prog 33 0 = some (.iload_n 1, 1, [], []) := zz_fetch_of p33 rfl rfl
theorem s33_0 : zz_Run zz_prog d 33 (0, [l0, some (.int v)], st, k, h) = zz_Run zz_prog d 33 (1, [l0, some (.int v)], .int v :: st, k, h) := zz_k_num f33_0 rfl
theorem f33_1 : zz_fetch zz_prog 33 1 = some (.ifCond .lt 15, 3, [16], []) := zz_fetch_of p33 rfl rfl
theorem s33_1 : zz_Run zz_prog d 33 (1, [l0, l1], .int v :: st, k, h) = if v < 0 then zz_Run zz_prog d 33 (16, [l0, l1], st, k, h) else zz_Run zz_prog d 33 (4, [l0, l1], st, k, h) := zz_k_br (v < 0) rfl (zz_k_num f33_1 rfl)
theorem f33_4 : zz_fetch zz_prog 33 4 = some (.iload_n 1, 1, [], []) := zz_fetch_of p33 rfl rfl
theorem s33_4 : zz_Run zz_prog d 33 (4, [l0, some (.int v)], st, k, h) = zz_Run zz_prog d 33 (5, [l0, some (.int v)], .int v :: st, k, h) := zz_k_num f33_4 rfl
theorem f33_5 : zz_fetch zz_prog 33 5 = some (.iload_n 0, 1, [], []) := zz_fetch_of p33 rfl rfl
theorem s33_5 : zz_Run zz_prog d 33 (5, [some (.int v), l1], st, k, h) = zz_Run zz_prog d 33 (6, [some (.int v), l1], .int v :: st, k, h) := zz_k_num f33_5 rfl
theorem f33_6 : zz_fetch zz_prog 33 6 = some (.invokestatic 236, 3, [0, 34, 1], []) := zz_fetch_of p33 rfl rfl
theorem s33_6 : zz_Run zz_prog d 33 (6, [l0, l1], [b0, b1], k, h) = zz_ret (zz_Call zz_prog d 34 [b0] h) (fun v k' h' => zz_Run zz_prog d 33 (9, [l0, l1], v.toList ++ [b1], k && k', h')) (fun a k' h' => zz_th d 33 6 a [l0, l1] (k && k') h') := zz_k_call f33_6 rfl rfl rfl
theorem f33_9 : zz_fetch zz_prog 33 9 = some (.if_icmp .ge 7, 3, [16], []) := zz_fetch_of p33 rfl rfl
theorem s33_9 : zz_Run zz_prog d 33 (9, [l0, l1], .int w :: .int v :: st, k, h) = if w ≤ v then zz_Run zz_prog d 33 (16, [l0, l1], st, k, h) else zz_Run zz_prog d 33 (12, [l0, l1], st, k, h) := zz_k_br (w ≤ v) rfl (zz_k_num f33_9 rfl)
theorem f33_12 : zz_fetch zz_prog 33 12 = some (.iconst 1, 1, [], []) := zz_fetch_of p33 rfl rfl
theorem s33_12 : zz_Run zz_prog d 33 (12, [l0, l1], st, k, h) = zz_Run zz_prog d 33 (13, [l0, l1], .int 1 :: st, k, h) := zz_k_num f33_12 rfl
theorem f33_13 : zz_fetch zz_prog 33 13 = some (.goto 4, 3, [17], []) := zz_fetch_of p33 rfl rfl
theorem s33_13 : zz_Run zz_prog d 33 (13, [l0, l1], st, k, h) = zz_Run zz_prog d 33 (17, [l0, l1], st, k, h) := zz_k_num f33_13 rfl
theorem f33_16 : zz_fetch zz_prog 33 16 = some (.iconst 0, 1, [], []) := zz_fetch_of p33 rfl rfl
theorem s33_16 : zz_Run zz_prog d 33 (16, [l0, l1], st, k, h) = zz_Run zz_prog d 33 (17, [l0, l1], .int 0 :: st, k, h) := zz_k_num f33_16 rfl
theorem f33_17 : zz_fetch zz_prog 33 17 = some (.ireturn, 1, [1], []) := zz_fetch_of p33 rfl rfl
theorem s33_17 : zz_Run zz_prog d 33 (17, [l0, l1], [.int v], k, h) = zz_ck (decide (v = 0 ∨ v = 1)) (some (.inl (some (.int v)), k, h)) := zz_k_retz f33_17
end S33
