section S100
variable {d n j : Nat} {l0 l1 l2 l3 : Option Value} {st : List Value} {k : Bool} {h : zz_H} {v w v1 v2 : Int32} {y y1 : Int64} {a a1 a2 : Nat} {b0 b1 b2 b3 b4 b5 b6 b7 b8 : Value} {I : Nat → Nat → Int32} {J : Nat → Nat → Int64} {ex : List (Nat × Nat)}
theorem p100 : zz_prog 100 = some zz_m100 := rfl
theorem e100 (g0 : Nat) (g1 : Int32) (g2 : Int32) : zz_Call zz_prog (d + 1) 100 [.ref g0, .int g1, .int g2] h = zz_Run zz_prog d 100 (0, [some (.ref g0), some (.int g1), some (.int g2), none], [], true, h) := rfl
theorem t100 (pc : Nat) (L : List (Option Value)) : zz_th d 100 pc a L k h = some (.inr a, k, h) := zz_th_out p100 rfl
theorem f100_0 : zz_fetch zz_prog 100 0 = some (.aload_n 0, 1, [], []) := zz_fetch_of p100 rfl rfl
theorem s100_0 : zz_Run zz_prog d 100 (0, [some (.ref a), l1, l2, l3], st, k, h) = zz_Run zz_prog d 100 (1, [some (.ref a), l1, l2, l3], .ref a :: st, k, h) := zz_k_num f100_0 rfl
theorem f100_1 : zz_fetch zz_prog 100 1 = some (.aload_n 0, 1, [], []) := zz_fetch_of p100 rfl rfl
theorem s100_1 : zz_Run zz_prog d 100 (1, [some (.ref a), l1, l2, l3], st, k, h) = zz_Run zz_prog d 100 (2, [some (.ref a), l1, l2, l3], .ref a :: st, k, h) := zz_k_num f100_1 rfl
theorem f100_2 : zz_fetch zz_prog 100 2 = some (.getfield 7, 3, [2, 1, 3], []) := zz_fetch_of p100 rfl rfl
theorem s100_2 : zz_Run zz_prog d 100 (2, [l0, l1, l2, l3], .ref 23 :: st, k, (zz_hp n I J ex)) = zz_Run zz_prog d 100 (5, [l0, l1, l2, l3], .ref 24 :: st, k, (zz_hp n I J ex)) := zz_k_go f100_2 rfl rfl rfl
theorem f100_5 : zz_fetch zz_prog 100 5 = some (.sipush 180, 3, [], []) := zz_fetch_of p100 rfl rfl
theorem s100_5 : zz_Run zz_prog d 100 (5, [l0, l1, l2, l3], st, k, h) = zz_Run zz_prog d 100 (8, [l0, l1, l2, l3], .int 180 :: st, k, h) := zz_k_num f100_5 (congrArg (fun u => some (8, [l0, l1, l2, l3], Value.int u :: st)) (by decide : (Int16.ofInt 180).toInt32 = 180))
theorem f100_8 : zz_fetch zz_prog 100 8 = some (.iaload, 1, [], []) := zz_fetch_of p100 rfl rfl
theorem s100_8 (ha : zz_isrd a = true) : zz_Run zz_prog d 100 (8, [l0, l1, l2, l3], .int v :: .ref a :: st, k, (zz_hp n I J ex)) = zz_ck (zz_in v (zz_ary n a)) (zz_Run zz_prog d 100 (9, [l0, l1, l2, l3], .int (I a v.toNatClampNeg) :: st, k, (zz_hp n I J ex))) := zz_k_iald f100_8 ha
theorem f100_9 : zz_fetch zz_prog 100 9 = some (.ifCond .eq 7, 3, [16], []) := zz_fetch_of p100 rfl rfl
theorem s100_9 : zz_Run zz_prog d 100 (9, [l0, l1, l2, l3], .int v :: st, k, h) = if v = 0 then zz_Run zz_prog d 100 (16, [l0, l1, l2, l3], st, k, h) else zz_Run zz_prog d 100 (12, [l0, l1, l2, l3], st, k, h) := zz_k_br (v = 0) rfl (zz_k_num f100_9 rfl)
theorem f100_12 : zz_fetch zz_prog 100 12 = some (.iconst 1, 1, [], []) := zz_fetch_of p100 rfl rfl
theorem s100_12 : zz_Run zz_prog d 100 (12, [l0, l1, l2, l3], st, k, h) = zz_Run zz_prog d 100 (13, [l0, l1, l2, l3], .int 1 :: st, k, h) := zz_k_num f100_12 rfl
theorem f100_13 : zz_fetch zz_prog 100 13 = some (.goto 4, 3, [17], []) := zz_fetch_of p100 rfl rfl
theorem s100_13 : zz_Run zz_prog d 100 (13, [l0, l1, l2, l3], st, k, h) = zz_Run zz_prog d 100 (17, [l0, l1, l2, l3], st, k, h) := zz_k_num f100_13 rfl
theorem f100_16 : zz_fetch zz_prog 100 16 = some (.iconst 0, 1, [], []) := zz_fetch_of p100 rfl rfl
theorem s100_16 : zz_Run zz_prog d 100 (16, [l0, l1, l2, l3], st, k, h) = zz_Run zz_prog d 100 (17, [l0, l1, l2, l3], .int 0 :: st, k, h) := zz_k_num f100_16 rfl
theorem f100_17 : zz_fetch zz_prog 100 17 = some (.iload_n 1, 1, [], []) := zz_fetch_of p100 rfl rfl
theorem s100_17 : zz_Run zz_prog d 100 (17, [l0, some (.int v), l2, l3], st, k, h) = zz_Run zz_prog d 100 (18, [l0, some (.int v), l2, l3], .int v :: st, k, h) := zz_k_num f100_17 rfl
theorem f100_18 : zz_fetch zz_prog 100 18 = some (.iconst 2, 1, [], []) := zz_fetch_of p100 rfl rfl
theorem s100_18 : zz_Run zz_prog d 100 (18, [l0, l1, l2, l3], st, k, h) = zz_Run zz_prog d 100 (19, [l0, l1, l2, l3], .int 2 :: st, k, h) := zz_k_num f100_18 rfl
theorem f100_19 : zz_fetch zz_prog 100 19 = some (.if_icmp .lt 19, 3, [38], []) := zz_fetch_of p100 rfl rfl
theorem s100_19 : zz_Run zz_prog d 100 (19, [l0, l1, l2, l3], .int w :: .int v :: st, k, h) = if v < w then zz_Run zz_prog d 100 (38, [l0, l1, l2, l3], st, k, h) else zz_Run zz_prog d 100 (22, [l0, l1, l2, l3], st, k, h) := zz_k_br (v < w) rfl (zz_k_num f100_19 rfl)
theorem f100_22 : zz_fetch zz_prog 100 22 = some (.iload_n 1, 1, [], []) := zz_fetch_of p100 rfl rfl
theorem s100_22 : zz_Run zz_prog d 100 (22, [l0, some (.int v), l2, l3], st, k, h) = zz_Run zz_prog d 100 (23, [l0, some (.int v), l2, l3], .int v :: st, k, h) := zz_k_num f100_22 rfl
theorem f100_23 : zz_fetch zz_prog 100 23 = some (.iconst 4, 1, [], []) := zz_fetch_of p100 rfl rfl
theorem s100_23 : zz_Run zz_prog d 100 (23, [l0, l1, l2, l3], st, k, h) = zz_Run zz_prog d 100 (24, [l0, l1, l2, l3], .int 4 :: st, k, h) := zz_k_num f100_23 rfl
theorem f100_24 : zz_fetch zz_prog 100 24 = some (.if_icmp .gt 14, 3, [38], []) := zz_fetch_of p100 rfl rfl
theorem s100_24 : zz_Run zz_prog d 100 (24, [l0, l1, l2, l3], .int w :: .int v :: st, k, h) = if w < v then zz_Run zz_prog d 100 (38, [l0, l1, l2, l3], st, k, h) else zz_Run zz_prog d 100 (27, [l0, l1, l2, l3], st, k, h) := zz_k_br (w < v) rfl (zz_k_num f100_24 rfl)
theorem f100_27 : zz_fetch zz_prog 100 27 = some (.iload_n 2, 1, [], []) := zz_fetch_of p100 rfl rfl
theorem s100_27 : zz_Run zz_prog d 100 (27, [l0, l1, some (.int v), l3], st, k, h) = zz_Run zz_prog d 100 (28, [l0, l1, some (.int v), l3], .int v :: st, k, h) := zz_k_num f100_27 rfl
theorem f100_28 : zz_fetch zz_prog 100 28 = some (.iconst 3, 1, [], []) := zz_fetch_of p100 rfl rfl
theorem s100_28 : zz_Run zz_prog d 100 (28, [l0, l1, l2, l3], st, k, h) = zz_Run zz_prog d 100 (29, [l0, l1, l2, l3], .int 3 :: st, k, h) := zz_k_num f100_28 rfl
theorem f100_29 : zz_fetch zz_prog 100 29 = some (.if_icmp .lt 9, 3, [38], []) := zz_fetch_of p100 rfl rfl
theorem s100_29 : zz_Run zz_prog d 100 (29, [l0, l1, l2, l3], .int w :: .int v :: st, k, h) = if v < w then zz_Run zz_prog d 100 (38, [l0, l1, l2, l3], st, k, h) else zz_Run zz_prog d 100 (32, [l0, l1, l2, l3], st, k, h) := zz_k_br (v < w) rfl (zz_k_num f100_29 rfl)
theorem f100_32 : zz_fetch zz_prog 100 32 = some (.iload_n 2, 1, [], []) := zz_fetch_of p100 rfl rfl
theorem s100_32 : zz_Run zz_prog d 100 (32, [l0, l1, some (.int v), l3], st, k, h) = zz_Run zz_prog d 100 (33, [l0, l1, some (.int v), l3], .int v :: st, k, h) := zz_k_num f100_32 rfl
theorem f100_33 : zz_fetch zz_prog 100 33 = some (.bipush 12, 2, [], []) := zz_fetch_of p100 rfl rfl
theorem s100_33 : zz_Run zz_prog d 100 (33, [l0, l1, l2, l3], st, k, h) = zz_Run zz_prog d 100 (35, [l0, l1, l2, l3], .int 12 :: st, k, h) := zz_k_num f100_33 (congrArg (fun u => some (35, [l0, l1, l2, l3], Value.int u :: st)) (by decide : (Int8.ofInt 12).toInt32 = 12))
theorem f100_35 : zz_fetch zz_prog 100 35 = some (.if_icmp .le 7, 3, [42], []) := zz_fetch_of p100 rfl rfl
theorem s100_35 : zz_Run zz_prog d 100 (35, [l0, l1, l2, l3], .int w :: .int v :: st, k, h) = if v ≤ w then zz_Run zz_prog d 100 (42, [l0, l1, l2, l3], st, k, h) else zz_Run zz_prog d 100 (38, [l0, l1, l2, l3], st, k, h) := zz_k_br (v ≤ w) rfl (zz_k_num f100_35 rfl)
theorem f100_38 : zz_fetch zz_prog 100 38 = some (.iconst 1, 1, [], []) := zz_fetch_of p100 rfl rfl
theorem s100_38 : zz_Run zz_prog d 100 (38, [l0, l1, l2, l3], st, k, h) = zz_Run zz_prog d 100 (39, [l0, l1, l2, l3], .int 1 :: st, k, h) := zz_k_num f100_38 rfl
theorem f100_39 : zz_fetch zz_prog 100 39 = some (.goto 4, 3, [43], []) := zz_fetch_of p100 rfl rfl
theorem s100_39 : zz_Run zz_prog d 100 (39, [l0, l1, l2, l3], st, k, h) = zz_Run zz_prog d 100 (43, [l0, l1, l2, l3], st, k, h) := zz_k_num f100_39 rfl
theorem f100_42 : zz_fetch zz_prog 100 42 = some (.iconst 0, 1, [], []) := zz_fetch_of p100 rfl rfl
theorem s100_42 : zz_Run zz_prog d 100 (42, [l0, l1, l2, l3], st, k, h) = zz_Run zz_prog d 100 (43, [l0, l1, l2, l3], .int 0 :: st, k, h) := zz_k_num f100_42 rfl
theorem f100_43 : zz_fetch zz_prog 100 43 = some (.iconst 0, 1, [], []) := zz_fetch_of p100 rfl rfl
theorem s100_43 : zz_Run zz_prog d 100 (43, [l0, l1, l2, l3], st, k, h) = zz_Run zz_prog d 100 (44, [l0, l1, l2, l3], .int 0 :: st, k, h) := zz_k_num f100_43 rfl
theorem f100_44 : zz_fetch zz_prog 100 44 = some (.invokevirtual 89, 3, [0, 95, 4, 2], []) := zz_fetch_of p100 rfl rfl
theorem s100_44 : zz_Run zz_prog d 100 (44, [l0, l1, l2, l3], [b0, b1, b2, .ref 23], k, (zz_hp n I J ex)) = zz_ret (zz_Call zz_prog d 95 [.ref 23, b2, b1, b0] (zz_hp n I J ex)) (fun v k' h' => zz_Run zz_prog d 100 (47, [l0, l1, l2, l3], v.toList ++ [], k && k', h')) (fun a k' h' => zz_th d 100 44 a [l0, l1, l2, l3] (k && k') h') := zz_k_call f100_44 rfl rfl rfl
theorem f100_47 : zz_fetch zz_prog 100 47 = some (.ifCond .eq 4, 3, [51], []) := zz_fetch_of p100 rfl rfl
theorem s100_47 : zz_Run zz_prog d 100 (47, [l0, l1, l2, l3], .int v :: st, k, h) = if v = 0 then zz_Run zz_prog d 100 (51, [l0, l1, l2, l3], st, k, h) else zz_Run zz_prog d 100 (50, [l0, l1, l2, l3], st, k, h) := zz_k_br (v = 0) rfl (zz_k_num f100_47 rfl)
theorem f100_50 : zz_fetch zz_prog 100 50 = some (.return_, 1, [], []) := zz_fetch_of p100 rfl rfl
theorem s100_50 : zz_Run zz_prog d 100 (50, [l0, l1, l2, l3], [], k, h) = some (.inl none, k, h) := zz_k_stop f100_50 rfl rfl rfl
theorem f100_51 : zz_fetch zz_prog 100 51 = some (.aload_n 0, 1, [], []) := zz_fetch_of p100 rfl rfl
theorem s100_51 : zz_Run zz_prog d 100 (51, [some (.ref a), l1, l2, l3], st, k, h) = zz_Run zz_prog d 100 (52, [some (.ref a), l1, l2, l3], .ref a :: st, k, h) := zz_k_num f100_51 rfl
theorem f100_52 : zz_fetch zz_prog 100 52 = some (.iload_n 1, 1, [], []) := zz_fetch_of p100 rfl rfl
theorem s100_52 : zz_Run zz_prog d 100 (52, [l0, some (.int v), l2, l3], st, k, h) = zz_Run zz_prog d 100 (53, [l0, some (.int v), l2, l3], .int v :: st, k, h) := zz_k_num f100_52 rfl
theorem f100_53 : zz_fetch zz_prog 100 53 = some (.putfield 105, 3, [2, 15, 0], []) := zz_fetch_of p100 rfl rfl
theorem s100_53 : zz_Run zz_prog d 100 (53, [l0, l1, l2, l3], .int v :: .ref 23 :: st, k, (zz_hp n I J ex)) = zz_Run zz_prog d 100 (56, [l0, l1, l2, l3], st, false, (zz_hp n (zz_up I 23 15 v) J ex)) := zz_k_go f100_53 rfl rfl rfl
theorem f100_56 : zz_fetch zz_prog 100 56 = some (.aload_n 0, 1, [], []) := zz_fetch_of p100 rfl rfl
theorem s100_56 : zz_Run zz_prog d 100 (56, [some (.ref a), l1, l2, l3], st, k, h) = zz_Run zz_prog d 100 (57, [some (.ref a), l1, l2, l3], .ref a :: st, k, h) := zz_k_num f100_56 rfl
theorem f100_57 : zz_fetch zz_prog 100 57 = some (.iload_n 2, 1, [], []) := zz_fetch_of p100 rfl rfl
theorem s100_57 : zz_Run zz_prog d 100 (57, [l0, l1, some (.int v), l3], st, k, h) = zz_Run zz_prog d 100 (58, [l0, l1, some (.int v), l3], .int v :: st, k, h) := zz_k_num f100_57 rfl
theorem f100_58 : zz_fetch zz_prog 100 58 = some (.putfield 108, 3, [2, 16, 0], []) := zz_fetch_of p100 rfl rfl
theorem s100_58 : zz_Run zz_prog d 100 (58, [l0, l1, l2, l3], .int v :: .ref 23 :: st, k, (zz_hp n I J ex)) = zz_Run zz_prog d 100 (61, [l0, l1, l2, l3], st, false, (zz_hp n (zz_up I 23 16 v) J ex)) := zz_k_go f100_58 rfl rfl rfl
theorem f100_61 : zz_fetch zz_prog 100 61 = some (.aload_n 0, 1, [], []) := zz_fetch_of p100 rfl rfl
theorem s100_61 : zz_Run zz_prog d 100 (61, [some (.ref a), l1, l2, l3], st, k, h) = zz_Run zz_prog d 100 (62, [some (.ref a), l1, l2, l3], .ref a :: st, k, h) := zz_k_num f100_61 rfl
theorem f100_62 : zz_fetch zz_prog 100 62 = some (.getfield 7, 3, [2, 1, 3], []) := zz_fetch_of p100 rfl rfl
theorem s100_62 : zz_Run zz_prog d 100 (62, [l0, l1, l2, l3], .ref 23 :: st, k, (zz_hp n I J ex)) = zz_Run zz_prog d 100 (65, [l0, l1, l2, l3], .ref 24 :: st, k, (zz_hp n I J ex)) := zz_k_go f100_62 rfl rfl rfl
theorem f100_65 : zz_fetch zz_prog 100 65 = some (.sipush 180, 3, [], []) := zz_fetch_of p100 rfl rfl
theorem s100_65 : zz_Run zz_prog d 100 (65, [l0, l1, l2, l3], st, k, h) = zz_Run zz_prog d 100 (68, [l0, l1, l2, l3], .int 180 :: st, k, h) := zz_k_num f100_65 (congrArg (fun u => some (68, [l0, l1, l2, l3], Value.int u :: st)) (by decide : (Int16.ofInt 180).toInt32 = 180))
theorem f100_68 : zz_fetch zz_prog 100 68 = some (.iconst 1, 1, [], []) := zz_fetch_of p100 rfl rfl
theorem s100_68 : zz_Run zz_prog d 100 (68, [l0, l1, l2, l3], st, k, h) = zz_Run zz_prog d 100 (69, [l0, l1, l2, l3], .int 1 :: st, k, h) := zz_k_num f100_68 rfl
theorem f100_69 : zz_fetch zz_prog 100 69 = some (.iastore, 1, [], []) := zz_fetch_of p100 rfl rfl
theorem s100_69 (ha : zz_isar a = true) : zz_Run zz_prog d 100 (69, [l0, l1, l2, l3], .int w :: .int v :: .ref a :: st, k, (zz_hp n I J ex)) = zz_ck (zz_in v (zz_ary n a)) (zz_Run zz_prog d 100 (70, [l0, l1, l2, l3], st, false, (zz_hp n (zz_up I a v.toNatClampNeg w) J ex))) := zz_k_iast f100_69 ha
theorem f100_70 : zz_fetch zz_prog 100 70 = some (.aload_n 0, 1, [], []) := zz_fetch_of p100 rfl rfl
theorem s100_70 : zz_Run zz_prog d 100 (70, [some (.ref a), l1, l2, l3], st, k, h) = zz_Run zz_prog d 100 (71, [some (.ref a), l1, l2, l3], .ref a :: st, k, h) := zz_k_num f100_70 rfl
theorem f100_71 : zz_fetch zz_prog 100 71 = some (.getfield 7, 3, [2, 1, 3], []) := zz_fetch_of p100 rfl rfl
theorem s100_71 : zz_Run zz_prog d 100 (71, [l0, l1, l2, l3], .ref 23 :: st, k, (zz_hp n I J ex)) = zz_Run zz_prog d 100 (74, [l0, l1, l2, l3], .ref 24 :: st, k, (zz_hp n I J ex)) := zz_k_go f100_71 rfl rfl rfl
theorem f100_74 : zz_fetch zz_prog 100 74 = some (.sipush 181, 3, [], []) := zz_fetch_of p100 rfl rfl
theorem s100_74 : zz_Run zz_prog d 100 (74, [l0, l1, l2, l3], st, k, h) = zz_Run zz_prog d 100 (77, [l0, l1, l2, l3], .int 181 :: st, k, h) := zz_k_num f100_74 (congrArg (fun u => some (77, [l0, l1, l2, l3], Value.int u :: st)) (by decide : (Int16.ofInt 181).toInt32 = 181))
theorem f100_77 : zz_fetch zz_prog 100 77 = some (.iconst 0, 1, [], []) := zz_fetch_of p100 rfl rfl
theorem s100_77 : zz_Run zz_prog d 100 (77, [l0, l1, l2, l3], st, k, h) = zz_Run zz_prog d 100 (78, [l0, l1, l2, l3], .int 0 :: st, k, h) := zz_k_num f100_77 rfl
theorem f100_78 : zz_fetch zz_prog 100 78 = some (.iastore, 1, [], []) := zz_fetch_of p100 rfl rfl
theorem s100_78 (ha : zz_isar a = true) : zz_Run zz_prog d 100 (78, [l0, l1, l2, l3], .int w :: .int v :: .ref a :: st, k, (zz_hp n I J ex)) = zz_ck (zz_in v (zz_ary n a)) (zz_Run zz_prog d 100 (79, [l0, l1, l2, l3], st, false, (zz_hp n (zz_up I a v.toNatClampNeg w) J ex))) := zz_k_iast f100_78 ha
theorem f100_79 : zz_fetch zz_prog 100 79 = some (.bipush 18, 2, [], []) := zz_fetch_of p100 rfl rfl
theorem s100_79 : zz_Run zz_prog d 100 (79, [l0, l1, l2, l3], st, k, h) = zz_Run zz_prog d 100 (81, [l0, l1, l2, l3], .int 18 :: st, k, h) := zz_k_num f100_79 (congrArg (fun u => some (81, [l0, l1, l2, l3], Value.int u :: st)) (by decide : (Int8.ofInt 18).toInt32 = 18))
theorem f100_81 : zz_fetch zz_prog 100 81 = some (.istore_n 3, 1, [], []) := zz_fetch_of p100 rfl rfl
theorem s100_81 : zz_Run zz_prog d 100 (81, [l0, l1, l2, l3], .int v :: st, k, h) = zz_sl l2 (zz_Run zz_prog d 100 (82, [l0, l1, l2, some (.int v)], st, k, h)) := zz_k_st (j := 3) (u := .int v) f100_81 rfl (fun q hq => by cases hq) rfl (show 3 < 4 by decide) (by cases l2 <;> rfl) rfl
theorem f100_82 : zz_fetch zz_prog 100 82 = some (.iload_n 3, 1, [], []) := zz_fetch_of p100 rfl rfl
theorem s100_82 : zz_Run zz_prog d 100 (82, [l0, l1, l2, some (.int v)], st, k, h) = zz_Run zz_prog d 100 (83, [l0, l1, l2, some (.int v)], .int v :: st, k, h) := zz_k_num f100_82 rfl
theorem f100_83 : zz_fetch zz_prog 100 83 = some (.ifCond .lt 39, 3, [122], []) := zz_fetch_of p100 rfl rfl
theorem s100_83 : zz_Run zz_prog d 100 (83, [l0, l1, l2, l3], .int v :: st, k, h) = if v < 0 then zz_Run zz_prog d 100 (122, [l0, l1, l2, l3], st, k, h) else zz_Run zz_prog d 100 (86, [l0, l1, l2, l3], st, k, h) := zz_k_br (v < 0) rfl (zz_k_num f100_83 rfl)
theorem f100_86 : zz_fetch zz_prog 100 86 = some (.aload_n 0, 1, [], []) := zz_fetch_of p100 rfl rfl
theorem s100_86 : zz_Run zz_prog d 100 (86, [some (.ref a), l1, l2, l3], st, k, h) = zz_Run zz_prog d 100 (87, [some (.ref a), l1, l2, l3], .ref a :: st, k, h) := zz_k_num f100_86 rfl
theorem f100_87 : zz_fetch zz_prog 100 87 = some (.getfield 7, 3, [2, 1, 3], []) := zz_fetch_of p100 rfl rfl
theorem s100_87 : zz_Run zz_prog d 100 (87, [l0, l1, l2, l3], .ref 23 :: st, k, (zz_hp n I J ex)) = zz_Run zz_prog d 100 (90, [l0, l1, l2, l3], .ref 24 :: st, k, (zz_hp n I J ex)) := zz_k_go f100_87 rfl rfl rfl
theorem f100_90 : zz_fetch zz_prog 100 90 = some (.sipush 182, 3, [], []) := zz_fetch_of p100 rfl rfl
theorem s100_90 : zz_Run zz_prog d 100 (90, [l0, l1, l2, l3], st, k, h) = zz_Run zz_prog d 100 (93, [l0, l1, l2, l3], .int 182 :: st, k, h) := zz_k_num f100_90 (congrArg (fun u => some (93, [l0, l1, l2, l3], Value.int u :: st)) (by decide : (Int16.ofInt 182).toInt32 = 182))
theorem f100_93 : zz_fetch zz_prog 100 93 = some (.aload_n 0, 1, [], []) := zz_fetch_of p100 rfl rfl
theorem s100_93 : zz_Run zz_prog d 100 (93, [some (.ref a), l1, l2, l3], st, k, h) = zz_Run zz_prog d 100 (94, [some (.ref a), l1, l2, l3], .ref a :: st, k, h) := zz_k_num f100_93 rfl
theorem f100_94 : zz_fetch zz_prog 100 94 = some (.getfield 31, 3, [2, 9, 3], []) := zz_fetch_of p100 rfl rfl
theorem s100_94 : zz_Run zz_prog d 100 (94, [l0, l1, l2, l3], .ref 23 :: st, k, (zz_hp n I J ex)) = zz_Run zz_prog d 100 (97, [l0, l1, l2, l3], .ref 31 :: st, k, (zz_hp n I J ex)) := zz_k_go f100_94 rfl rfl rfl
theorem f100_97 : zz_fetch zz_prog 100 97 = some (.iload_n 3, 1, [], []) := zz_fetch_of p100 rfl rfl
theorem s100_97 : zz_Run zz_prog d 100 (97, [l0, l1, l2, some (.int v)], st, k, h) = zz_Run zz_prog d 100 (98, [l0, l1, l2, some (.int v)], .int v :: st, k, h) := zz_k_num f100_97 rfl
theorem f100_98 : zz_fetch zz_prog 100 98 = some (.iaload, 1, [], []) := zz_fetch_of p100 rfl rfl
theorem s100_98 (ha : zz_isrd a = true) : zz_Run zz_prog d 100 (98, [l0, l1, l2, l3], .int v :: .ref a :: st, k, (zz_hp n I J ex)) = zz_ck (zz_in v (zz_ary n a)) (zz_Run zz_prog d 100 (99, [l0, l1, l2, l3], .int (I a v.toNatClampNeg) :: st, k, (zz_hp n I J ex))) := zz_k_iald f100_98 ha
theorem f100_99 : zz_fetch zz_prog 100 99 = some (.iconst 5, 1, [], []) := zz_fetch_of p100 rfl rfl
theorem s100_99 : zz_Run zz_prog d 100 (99, [l0, l1, l2, l3], st, k, h) = zz_Run zz_prog d 100 (100, [l0, l1, l2, l3], .int 5 :: st, k, h) := zz_k_num f100_99 rfl
theorem f100_100 : zz_fetch zz_prog 100 100 = some (.if_icmp .ne 7, 3, [107], []) := zz_fetch_of p100 rfl rfl
theorem s100_100 : zz_Run zz_prog d 100 (100, [l0, l1, l2, l3], .int w :: .int v :: st, k, h) = if ¬ v = w then zz_Run zz_prog d 100 (107, [l0, l1, l2, l3], st, k, h) else zz_Run zz_prog d 100 (103, [l0, l1, l2, l3], st, k, h) := zz_k_br (¬ v = w) rfl (zz_k_num f100_100 rfl)
theorem f100_103 : zz_fetch zz_prog 100 103 = some (.iload_n 3, 1, [], []) := zz_fetch_of p100 rfl rfl
theorem s100_103 : zz_Run zz_prog d 100 (103, [l0, l1, l2, some (.int v)], st, k, h) = zz_Run zz_prog d 100 (104, [l0, l1, l2, some (.int v)], .int v :: st, k, h) := zz_k_num f100_103 rfl
theorem f100_104 : zz_fetch zz_prog 100 104 = some (.goto 11, 3, [115], []) := zz_fetch_of p100 rfl rfl
theorem s100_104 : zz_Run zz_prog d 100 (104, [l0, l1, l2, l3], st, k, h) = zz_Run zz_prog d 100 (115, [l0, l1, l2, l3], st, k, h) := zz_k_num f100_104 rfl
theorem f100_107 : zz_fetch zz_prog 100 107 = some (.aload_n 0, 1, [], []) := zz_fetch_of p100 rfl rfl
theorem s100_107 : zz_Run zz_prog d 100 (107, [some (.ref a), l1, l2, l3], st, k, h) = zz_Run zz_prog d 100 (108, [some (.ref a), l1, l2, l3], .ref a :: st, k, h) := zz_k_num f100_107 rfl
theorem f100_108 : zz_fetch zz_prog 100 108 = some (.getfield 7, 3, [2, 1, 3], []) := zz_fetch_of p100 rfl rfl
theorem s100_108 : zz_Run zz_prog d 100 (108, [l0, l1, l2, l3], .ref 23 :: st, k, (zz_hp n I J ex)) = zz_Run zz_prog d 100 (111, [l0, l1, l2, l3], .ref 24 :: st, k, (zz_hp n I J ex)) := zz_k_go f100_108 rfl rfl rfl
theorem f100_111 : zz_fetch zz_prog 100 111 = some (.sipush 182, 3, [], []) := zz_fetch_of p100 rfl rfl
theorem s100_111 : zz_Run zz_prog d 100 (111, [l0, l1, l2, l3], st, k, h) = zz_Run zz_prog d 100 (114, [l0, l1, l2, l3], .int 182 :: st, k, h) := zz_k_num f100_111 (congrArg (fun u => some (114, [l0, l1, l2, l3], Value.int u :: st)) (by decide : (Int16.ofInt 182).toInt32 = 182))
theorem f100_114 : zz_fetch zz_prog 100 114 = some (.iaload, 1, [], []) := zz_fetch_of p100 rfl rfl
theorem s100_114 (ha : zz_isrd a = true) : zz_Run zz_prog d 100 (114, [l0, l1, l2, l3], .int v :: .ref a :: st, k, (zz_hp n I J ex)) = zz_ck (zz_in v (zz_ary n a)) (zz_Run zz_prog d 100 (115, [l0, l1, l2, l3], .int (I a v.toNatClampNeg) :: st, k, (zz_hp n I J ex))) := zz_k_iald f100_114 ha
theorem f100_115 : zz_fetch zz_prog 100 115 = some (.iastore, 1, [], []) := zz_fetch_of p100 rfl rfl
theorem s100_115 (ha : zz_isar a = true) : zz_Run zz_prog d 100 (115, [l0, l1, l2, l3], .int w :: .int v :: .ref a :: st, k, (zz_hp n I J ex)) = zz_ck (zz_in v (zz_ary n a)) (zz_Run zz_prog d 100 (116, [l0, l1, l2, l3], st, false, (zz_hp n (zz_up I a v.toNatClampNeg w) J ex))) := zz_k_iast f100_115 ha
theorem f100_116 : zz_fetch zz_prog 100 116 = some (.iinc 3 (-1), 3, [], []) := zz_fetch_of p100 rfl rfl
theorem s100_116 : zz_Run zz_prog d 100 (116, [l0, l1, l2, some (.int v)], st, k, h) = zz_sl l2 (zz_Run zz_prog d 100 (119, [l0, l1, l2, some (.int (v + (-1)))], st, k, h)) := zz_k_st (j := 3) (u := .int (v + (-1))) f100_116 rfl (fun q hq => by cases hq) rfl (show 3 < 4 by decide) (by cases l2 <;> rfl) rfl
theorem f100_119 : zz_fetch zz_prog 100 119 = some (.goto (-37), 3, [82], []) := zz_fetch_of p100 rfl rfl
theorem s100_119 : zz_Run zz_prog d 100 (119, [l0, l1, l2, l3], st, k, h) = zz_Run zz_prog d 100 (82, [l0, l1, l2, l3], st, k, h) := zz_k_num f100_119 rfl
theorem f100_122 : zz_fetch zz_prog 100 122 = some (.return_, 1, [], []) := zz_fetch_of p100 rfl rfl
theorem s100_122 : zz_Run zz_prog d 100 (122, [l0, l1, l2, l3], [], k, h) = some (.inl none, k, h) := zz_k_stop f100_122 rfl rfl rfl
end S100
section S101
variable {d n j : Nat} {l0 l1 l2 : Option Value} {st : List Value} {k : Bool} {h : zz_H} {v w v1 v2 : Int32} {y y1 : Int64} {a a1 a2 : Nat} {b0 b1 b2 b3 b4 b5 b6 b7 b8 : Value} {I : Nat → Nat → Int32} {J : Nat → Nat → Int64} {ex : List (Nat × Nat)}
theorem p101 : zz_prog 101 = some zz_m101 := rfl
theorem e101 (g0 : Nat) (g1 : Int32) (g2 : Int32) : zz_Call zz_prog (d + 1) 101 [.ref g0, .int g1, .int g2] h = zz_Run zz_prog d 101 (0, [some (.ref g0), some (.int g1), some (.int g2)], [], true, h) := rfl
theorem t101 (pc : Nat) (L : List (Option Value)) : zz_th d 101 pc a L k h = some (.inr a, k, h) := zz_th_out p101 rfl
theorem f101_0 : zz_fetch zz_prog 101 0 = some (.aload_n 0, 1, [], []) := zz_fetch_of p101 rfl rfl
theorem s101_0 : zz_Run zz_prog d 101 (0, [some (.ref a), l1, l2], st, k, h) = zz_Run zz_prog d 101 (1, [some (.ref a), l1, l2], .ref a :: st, k, h) := zz_k_num f101_0 rfl
theorem f101_1 : zz_fetch zz_prog 101 1 = some (.getfield 7, 3, [2, 1, 3], []) := zz_fetch_of p101 rfl rfl
theorem s101_1 : zz_Run zz_prog d 101 (1, [l0, l1, l2], .ref 23 :: st, k, (zz_hp n I J ex)) = zz_Run zz_prog d 101 (4, [l0, l1, l2], .ref 24 :: st, k, (zz_hp n I J ex)) := zz_k_go f101_1 rfl rfl rfl
theorem f101_4 : zz_fetch zz_prog 101 4 = some (.bipush 72, 2, [], []) := zz_fetch_of p101 rfl rfl
theorem s101_4 : zz_Run zz_prog d 101 (4, [l0, l1, l2], st, k, h) = zz_Run zz_prog d 101 (6, [l0, l1, l2], .int 72 :: st, k, h) := zz_k_num f101_4 (congrArg (fun u => some (6, [l0, l1, l2], Value.int u :: st)) (by decide : (Int8.ofInt 72).toInt32 = 72))
theorem f101_6 : zz_fetch zz_prog 101 6 = some (.iload_n 1, 1, [], []) := zz_fetch_of p101 rfl rfl
theorem s101_6 : zz_Run zz_prog d 101 (6, [l0, some (.int v), l2], st, k, h) = zz_Run zz_prog d 101 (7, [l0, some (.int v), l2], .int v :: st, k, h) := zz_k_num f101_6 rfl
theorem f101_7 : zz_fetch zz_prog 101 7 = some (.iadd, 1, [], []) := zz_fetch_of p101 rfl rfl
theorem s101_7 : zz_Run zz_prog d 101 (7, [l0, l1, l2], .int w :: .int v :: st, k, h) = zz_Run zz_prog d 101 (8, [l0, l1, l2], .int (v + w) :: st, k, h) := zz_k_num f101_7 rfl
theorem f101_8 : zz_fetch zz_prog 101 8 = some (.iaload, 1, [], []) := zz_fetch_of p101 rfl rfl
theorem s101_8 (ha : zz_isrd a = true) : zz_Run zz_prog d 101 (8, [l0, l1, l2], .int v :: .ref a :: st, k, (zz_hp n I J ex)) = zz_ck (zz_in v (zz_ary n a)) (zz_Run zz_prog d 101 (9, [l0, l1, l2], .int (I a v.toNatClampNeg) :: st, k, (zz_hp n I J ex))) := zz_k_iald f101_8 ha
theorem f101_9 : zz_fetch zz_prog 101 9 = some (.ifCond .le 25, 3, [34], []) := zz_fetch_of p101 rfl rfl
theorem s101_9 : zz_Run zz_prog d 101 (9, [l0, l1, l2], .int v :: st, k, h) = if v ≤ 0 then zz_Run zz_prog d 101 (34, [l0, l1, l2], st, k, h) else zz_Run zz_prog d 101 (12, [l0, l1, l2], st, k, h) := zz_k_br (v ≤ 0) rfl (zz_k_num f101_9 rfl)
theorem f101_12 : zz_fetch zz_prog 101 12 = some (.aload_n 0, 1, [], []) := zz_fetch_of p101 rfl rfl
theorem s101_12 : zz_Run zz_prog d 101 (12, [some (.ref a), l1, l2], st, k, h) = zz_Run zz_prog d 101 (13, [some (.ref a), l1, l2], .ref a :: st, k, h) := zz_k_num f101_12 rfl
theorem f101_13 : zz_fetch zz_prog 101 13 = some (.getfield 7, 3, [2, 1, 3], []) := zz_fetch_of p101 rfl rfl
theorem s101_13 : zz_Run zz_prog d 101 (13, [l0, l1, l2], .ref 23 :: st, k, (zz_hp n I J ex)) = zz_Run zz_prog d 101 (16, [l0, l1, l2], .ref 24 :: st, k, (zz_hp n I J ex)) := zz_k_go f101_13 rfl rfl rfl
theorem f101_16 : zz_fetch zz_prog 101 16 = some (.bipush 72, 2, [], []) := zz_fetch_of p101 rfl rfl
theorem s101_16 : zz_Run zz_prog d 101 (16, [l0, l1, l2], st, k, h) = zz_Run zz_prog d 101 (18, [l0, l1, l2], .int 72 :: st, k, h) := zz_k_num f101_16 (congrArg (fun u => some (18, [l0, l1, l2], Value.int u :: st)) (by decide : (Int8.ofInt 72).toInt32 = 72))
theorem f101_18 : zz_fetch zz_prog 101 18 = some (.iload_n 1, 1, [], []) := zz_fetch_of p101 rfl rfl
theorem s101_18 : zz_Run zz_prog d 101 (18, [l0, some (.int v), l2], st, k, h) = zz_Run zz_prog d 101 (19, [l0, some (.int v), l2], .int v :: st, k, h) := zz_k_num f101_18 rfl
theorem f101_19 : zz_fetch zz_prog 101 19 = some (.iadd, 1, [], []) := zz_fetch_of p101 rfl rfl
theorem s101_19 : zz_Run zz_prog d 101 (19, [l0, l1, l2], .int w :: .int v :: st, k, h) = zz_Run zz_prog d 101 (20, [l0, l1, l2], .int (v + w) :: st, k, h) := zz_k_num f101_19 rfl
theorem f101_20 : zz_fetch zz_prog 101 20 = some (.iaload, 1, [], []) := zz_fetch_of p101 rfl rfl
theorem s101_20 (ha : zz_isrd a = true) : zz_Run zz_prog d 101 (20, [l0, l1, l2], .int v :: .ref a :: st, k, (zz_hp n I J ex)) = zz_ck (zz_in v (zz_ary n a)) (zz_Run zz_prog d 101 (21, [l0, l1, l2], .int (I a v.toNatClampNeg) :: st, k, (zz_hp n I J ex))) := zz_k_iald f101_20 ha
theorem f101_21 : zz_fetch zz_prog 101 21 = some (.iconst 1, 1, [], []) := zz_fetch_of p101 rfl rfl
theorem s101_21 : zz_Run zz_prog d 101 (21, [l0, l1, l2], st, k, h) = zz_Run zz_prog d 101 (22, [l0, l1, l2], .int 1 :: st, k, h) := zz_k_num f101_21 rfl
theorem f101_22 : zz_fetch zz_prog 101 22 = some (.isub, 1, [], []) := zz_fetch_of p101 rfl rfl
theorem s101_22 : zz_Run zz_prog d 101 (22, [l0, l1, l2], .int w :: .int v :: st, k, h) = zz_Run zz_prog d 101 (23, [l0, l1, l2], .int (v - w) :: st, k, h) := zz_k_num f101_22 rfl
theorem f101_23 : zz_fetch zz_prog 101 23 = some (.bipush 8, 2, [], []) := zz_fetch_of p101 rfl rfl
theorem s101_23 : zz_Run zz_prog d 101 (23, [l0, l1, l2], st, k, h) = zz_Run zz_prog d 101 (25, [l0, l1, l2], .int 8 :: st, k, h) := zz_k_num f101_23 (congrArg (fun u => some (25, [l0, l1, l2], Value.int u :: st)) (by decide : (Int8.ofInt 8).toInt32 = 8))
theorem f101_25 : zz_fetch zz_prog 101 25 = some (.irem, 1, [], []) := zz_fetch_of p101 rfl rfl
theorem s101_25 (hw : ¬ w = 0) : zz_Run zz_prog d 101 (25, [l0, l1, l2], .int w :: .int v :: st, k, h) = zz_Run zz_prog d 101 (26, [l0, l1, l2], .int (v - v / w * w) :: st, k, h) := zz_k_irem f101_25 hw
theorem f101_26 : zz_fetch zz_prog 101 26 = some (.iload_n 2, 1, [], []) := zz_fetch_of p101 rfl rfl
theorem s101_26 : zz_Run zz_prog d 101 (26, [l0, l1, some (.int v)], st, k, h) = zz_Run zz_prog d 101 (27, [l0, l1, some (.int v)], .int v :: st, k, h) := zz_k_num f101_26 rfl
theorem f101_27 : zz_fetch zz_prog 101 27 = some (.if_icmp .ne 7, 3, [34], []) := zz_fetch_of p101 rfl rfl
theorem s101_27 : zz_Run zz_prog d 101 (27, [l0, l1, l2], .int w :: .int v :: st, k, h) = if ¬ v = w then zz_Run zz_prog d 101 (34, [l0, l1, l2], st, k, h) else zz_Run zz_prog d 101 (30, [l0, l1, l2], st, k, h) := zz_k_br (¬ v = w) rfl (zz_k_num f101_27 rfl)
theorem f101_30 : zz_fetch zz_prog 101 30 = some (.iconst 1, 1, [], []) := zz_fetch_of p101 rfl rfl
theorem s101_30 : zz_Run zz_prog d 101 (30, [l0, l1, l2], st, k, h) = zz_Run zz_prog d 101 (31, [l0, l1, l2], .int 1 :: st, k, h) := zz_k_num f101_30 rfl
theorem f101_31 : zz_fetch zz_prog 101 31 = some (.goto 4, 3, [35], []) := zz_fetch_of p101 rfl rfl
theorem s101_31 : zz_Run zz_prog d 101 (31, [l0, l1, l2], st, k, h) = zz_Run zz_prog d 101 (35, [l0, l1, l2], st, k, h) := zz_k_num f101_31 rfl
theorem f101_34 : zz_fetch zz_prog 101 34 = some (.iconst 0, 1, [], []) := zz_fetch_of p101 rfl rfl
theorem s101_34 : zz_Run zz_prog d 101 (34, [l0, l1, l2], st, k, h) = zz_Run zz_prog d 101 (35, [l0, l1, l2], .int 0 :: st, k, h) := zz_k_num f101_34 rfl
theorem f101_35 : zz_fetch zz_prog 101 35 = some (.ireturn, 1, [1], []) := zz_fetch_of p101 rfl rfl
theorem s101_35 : zz_Run zz_prog d 101 (35, [l0, l1, l2], [.int v], k, h) = zz_ck (decide (v = 0 ∨ v = 1)) (some (.inl (some (.int v)), k, h)) := zz_k_retz f101_35
end S101
section S102
variable {d n j : Nat} {l0 l1 l2 : Option Value} {st : List Value} {k : Bool} {h : zz_H} {v w v1 v2 : Int32} {y y1 : Int64} {a a1 a2 : Nat} {b0 b1 b2 b3 b4 b5 b6 b7 b8 : Value} {I : Nat → Nat → Int32} {J : Nat → Nat → Int64} {ex : List (Nat × Nat)}
theorem p102 : zz_prog 102 = some zz_m102 := rfl
theorem e102 (g0 : Nat) (g1 : Int32) (g2 : Int32) : zz_Call zz_prog (d + 1) 102 [.ref g0, .int g1, .int g2] h = zz_Run zz_prog d 102 (0, [some (.ref g0), some (.int g1), some (.int g2)], [], true, h) := rfl
theorem t102 (pc : Nat) (L : List (Option Value)) : zz_th d 102 pc a L k h = some (.inr a, k, h) := zz_th_out p102 rfl
theorem f102_0 : zz_fetch zz_prog 102 0 = some (.aload_n 0, 1, [], []) := zz_fetch_of p102 rfl rfl
theorem s102_0 : zz_Run zz_prog d 102 (0, [some (.ref a), l1, l2], st, k, h) = zz_Run zz_prog d 102 (1, [some (.ref a), l1, l2], .ref a :: st, k, h) := zz_k_num f102_0 rfl
theorem f102_1 : zz_fetch zz_prog 102 1 = some (.getfield 7, 3, [2, 1, 3], []) := zz_fetch_of p102 rfl rfl
theorem s102_1 : zz_Run zz_prog d 102 (1, [l0, l1, l2], .ref 23 :: st, k, (zz_hp n I J ex)) = zz_Run zz_prog d 102 (4, [l0, l1, l2], .ref 24 :: st, k, (zz_hp n I J ex)) := zz_k_go f102_1 rfl rfl rfl
theorem f102_4 : zz_fetch zz_prog 102 4 = some (.bipush 72, 2, [], []) := zz_fetch_of p102 rfl rfl
theorem s102_4 : zz_Run zz_prog d 102 (4, [l0, l1, l2], st, k, h) = zz_Run zz_prog d 102 (6, [l0, l1, l2], .int 72 :: st, k, h) := zz_k_num f102_4 (congrArg (fun u => some (6, [l0, l1, l2], Value.int u :: st)) (by decide : (Int8.ofInt 72).toInt32 = 72))
theorem f102_6 : zz_fetch zz_prog 102 6 = some (.iload_n 1, 1, [], []) := zz_fetch_of p102 rfl rfl
theorem s102_6 : zz_Run zz_prog d 102 (6, [l0, some (.int v), l2], st, k, h) = zz_Run zz_prog d 102 (7, [l0, some (.int v), l2], .int v :: st, k, h) := zz_k_num f102_6 rfl
theorem f102_7 : zz_fetch zz_prog 102 7 = some (.iadd, 1, [], []) := zz_fetch_of p102 rfl rfl
theorem s102_7 : zz_Run zz_prog d 102 (7, [l0, l1, l2], .int w :: .int v :: st, k, h) = zz_Run zz_prog d 102 (8, [l0, l1, l2], .int (v + w) :: st, k, h) := zz_k_num f102_7 rfl
theorem f102_8 : zz_fetch zz_prog 102 8 = some (.iaload, 1, [], []) := zz_fetch_of p102 rfl rfl
theorem s102_8 (ha : zz_isrd a = true) : zz_Run zz_prog d 102 (8, [l0, l1, l2], .int v :: .ref a :: st, k, (zz_hp n I J ex)) = zz_ck (zz_in v (zz_ary n a)) (zz_Run zz_prog d 102 (9, [l0, l1, l2], .int (I a v.toNatClampNeg) :: st, k, (zz_hp n I J ex))) := zz_k_iald f102_8 ha
theorem f102_9 : zz_fetch zz_prog 102 9 = some (.ifCond .le 16, 3, [25], []) := zz_fetch_of p102 rfl rfl
theorem s102_9 : zz_Run zz_prog d 102 (9, [l0, l1, l2], .int v :: st, k, h) = if v ≤ 0 then zz_Run zz_prog d 102 (25, [l0, l1, l2], st, k, h) else zz_Run zz_prog d 102 (12, [l0, l1, l2], st, k, h) := zz_k_br (v ≤ 0) rfl (zz_k_num f102_9 rfl)
theorem f102_12 : zz_fetch zz_prog 102 12 = some (.aload_n 0, 1, [], []) := zz_fetch_of p102 rfl rfl
theorem s102_12 : zz_Run zz_prog d 102 (12, [some (.ref a), l1, l2], st, k, h) = zz_Run zz_prog d 102 (13, [some (.ref a), l1, l2], .ref a :: st, k, h) := zz_k_num f102_12 rfl
theorem f102_13 : zz_fetch zz_prog 102 13 = some (.iload_n 1, 1, [], []) := zz_fetch_of p102 rfl rfl
theorem s102_13 : zz_Run zz_prog d 102 (13, [l0, some (.int v), l2], st, k, h) = zz_Run zz_prog d 102 (14, [l0, some (.int v), l2], .int v :: st, k, h) := zz_k_num f102_13 rfl
theorem f102_14 : zz_fetch zz_prog 102 14 = some (.iload_n 2, 1, [], []) := zz_fetch_of p102 rfl rfl
theorem s102_14 : zz_Run zz_prog d 102 (14, [l0, l1, some (.int v)], st, k, h) = zz_Run zz_prog d 102 (15, [l0, l1, some (.int v)], .int v :: st, k, h) := zz_k_num f102_14 rfl
theorem f102_15 : zz_fetch zz_prog 102 15 = some (.invokevirtual 111, 3, [0, 101, 3, 2], []) := zz_fetch_of p102 rfl rfl
theorem s102_15 : zz_Run zz_prog d 102 (15, [l0, l1, l2], [b0, b1, .ref 23], k, (zz_hp n I J ex)) = zz_ret (zz_Call zz_prog d 101 [.ref 23, b1, b0] (zz_hp n I J ex)) (fun v k' h' => zz_Run zz_prog d 102 (18, [l0, l1, l2], v.toList ++ [], k && k', h')) (fun a k' h' => zz_th d 102 15 a [l0, l1, l2] (k && k') h') := zz_k_call f102_15 rfl rfl rfl
theorem f102_18 : zz_fetch zz_prog 102 18 = some (.ifCond .ne 7, 3, [25], []) := zz_fetch_of p102 rfl rfl
theorem s102_18 : zz_Run zz_prog d 102 (18, [l0, l1, l2], .int v :: st, k, h) = if ¬ v = 0 then zz_Run zz_prog d 102 (25, [l0, l1, l2], st, k, h) else zz_Run zz_prog d 102 (21, [l0, l1, l2], st, k, h) := zz_k_br (¬ v = 0) rfl (zz_k_num f102_18 rfl)
theorem f102_21 : zz_fetch zz_prog 102 21 = some (.iconst 1, 1, [], []) := zz_fetch_of p102 rfl rfl
theorem s102_21 : zz_Run zz_prog d 102 (21, [l0, l1, l2], st, k, h) = zz_Run zz_prog d 102 (22, [l0, l1, l2], .int 1 :: st, k, h) := zz_k_num f102_21 rfl
theorem f102_22 : zz_fetch zz_prog 102 22 = some (.goto 4, 3, [26], []) := zz_fetch_of p102 rfl rfl
theorem s102_22 : zz_Run zz_prog d 102 (22, [l0, l1, l2], st, k, h) = zz_Run zz_prog d 102 (26, [l0, l1, l2], st, k, h) := zz_k_num f102_22 rfl
theorem f102_25 : zz_fetch zz_prog 102 25 = some (.iconst 0, 1, [], []) := zz_fetch_of p102 rfl rfl
theorem s102_25 : zz_Run zz_prog d 102 (25, [l0, l1, l2], st, k, h) = zz_Run zz_prog d 102 (26, [l0, l1, l2], .int 0 :: st, k, h) := zz_k_num f102_25 rfl
theorem f102_26 : zz_fetch zz_prog 102 26 = some (.ireturn, 1, [1], []) := zz_fetch_of p102 rfl rfl
theorem s102_26 : zz_Run zz_prog d 102 (26, [l0, l1, l2], [.int v], k, h) = zz_ck (decide (v = 0 ∨ v = 1)) (some (.inl (some (.int v)), k, h)) := zz_k_retz f102_26
end S102
section S103
variable {d n j : Nat} {l0 l1 l2 l3 l4 : Option Value} {st : List Value} {k : Bool} {h : zz_H} {v w v1 v2 : Int32} {y y1 : Int64} {a a1 a2 : Nat} {b0 b1 b2 b3 b4 b5 b6 b7 b8 : Value} {I : Nat → Nat → Int32} {J : Nat → Nat → Int64} {ex : List (Nat × Nat)}
theorem p103 : zz_prog 103 = some zz_m103 := rfl
theorem e103 (g0 : Nat) (g1 : Int32) (g2 : Int32) : zz_Call zz_prog (d + 1) 103 [.ref g0, .int g1, .int g2] h = zz_Run zz_prog d 103 (0, [some (.ref g0), some (.int g1), some (.int g2), none, none], [], true, h) := rfl
theorem t103 (pc : Nat) (L : List (Option Value)) : zz_th d 103 pc a L k h = some (.inr a, k, h) := zz_th_out p103 rfl
theorem f103_0 : zz_fetch zz_prog 103 0 = some (.iconst 0, 1, [], []) := zz_fetch_of p103 rfl rfl
theorem s103_0 : zz_Run zz_prog d 103 (0, [l0, l1, l2, l3, l4], st, k, h) = zz_Run zz_prog d 103 (1, [l0, l1, l2, l3, l4], .int 0 :: st, k, h) := zz_k_num f103_0 rfl
theorem f103_1 : zz_fetch zz_prog 103 1 = some (.istore_n 3, 1, [], []) := zz_fetch_of p103 rfl rfl
theorem s103_1 : zz_Run zz_prog d 103 (1, [l0, l1, l2, l3, l4], .int v :: st, k, h) = zz_sl l2 (zz_Run zz_prog d 103 (2, [l0, l1, l2, some (.int v), l4], st, k, h)) := zz_k_st (j := 3) (u := .int v) f103_1 rfl (fun q hq => by cases hq) rfl (show 3 < 5 by decide) (by cases l2 <;> rfl) rfl
theorem f103_2 : zz_fetch zz_prog 103 2 = some (.iconst 0, 1, [], []) := zz_fetch_of p103 rfl rfl
theorem s103_2 : zz_Run zz_prog d 103 (2, [l0, l1, l2, l3, l4], st, k, h) = zz_Run zz_prog d 103 (3, [l0, l1, l2, l3, l4], .int 0 :: st, k, h) := zz_k_num f103_2 rfl
theorem f103_3 : zz_fetch zz_prog 103 3 = some (.istore 4, 2, [], []) := zz_fetch_of p103 rfl rfl
theorem s103_3 : zz_Run zz_prog d 103 (3, [l0, l1, l2, l3, l4], .int v :: st, k, h) = zz_sl l3 (zz_Run zz_prog d 103 (5, [l0, l1, l2, l3, some (.int v)], st, k, h)) := zz_k_st (j := 4) (u := .int v) f103_3 rfl (fun q hq => by cases hq) rfl (show 4 < 5 by decide) (by cases l3 <;> rfl) rfl
theorem f103_5 : zz_fetch zz_prog 103 5 = some (.iload 4, 2, [], []) := zz_fetch_of p103 rfl rfl
theorem s103_5 : zz_Run zz_prog d 103 (5, [l0, l1, l2, l3, some (.int v)], st, k, h) = zz_Run zz_prog d 103 (7, [l0, l1, l2, l3, some (.int v)], .int v :: st, k, h) := zz_k_num f103_5 rfl
theorem f103_7 : zz_fetch zz_prog 103 7 = some (.bipush 72, 2, [], []) := zz_fetch_of p103 rfl rfl
theorem s103_7 : zz_Run zz_prog d 103 (7, [l0, l1, l2, l3, l4], st, k, h) = zz_Run zz_prog d 103 (9, [l0, l1, l2, l3, l4], .int 72 :: st, k, h) := zz_k_num f103_7 (congrArg (fun u => some (9, [l0, l1, l2, l3, l4], Value.int u :: st)) (by decide : (Int8.ofInt 72).toInt32 = 72))
theorem f103_9 : zz_fetch zz_prog 103 9 = some (.if_icmp .ge 36, 3, [45], []) := zz_fetch_of p103 rfl rfl
theorem s103_9 : zz_Run zz_prog d 103 (9, [l0, l1, l2, l3, l4], .int w :: .int v :: st, k, h) = if w ≤ v then zz_Run zz_prog d 103 (45, [l0, l1, l2, l3, l4], st, k, h) else zz_Run zz_prog d 103 (12, [l0, l1, l2, l3, l4], st, k, h) := zz_k_br (w ≤ v) rfl (zz_k_num f103_9 rfl)
theorem f103_12 : zz_fetch zz_prog 103 12 = some (.iload_n 2, 1, [], []) := zz_fetch_of p103 rfl rfl
theorem s103_12 : zz_Run zz_prog d 103 (12, [l0, l1, some (.int v), l3, l4], st, k, h) = zz_Run zz_prog d 103 (13, [l0, l1, some (.int v), l3, l4], .int v :: st, k, h) := zz_k_num f103_12 rfl
theorem f103_13 : zz_fetch zz_prog 103 13 = some (.ifCond .ne 32, 3, [45], []) := zz_fetch_of p103 rfl rfl
theorem s103_13 : zz_Run zz_prog d 103 (13, [l0, l1, l2, l3, l4], .int v :: st, k, h) = if ¬ v = 0 then zz_Run zz_prog d 103 (45, [l0, l1, l2, l3, l4], st, k, h) else zz_Run zz_prog d 103 (16, [l0, l1, l2, l3, l4], st, k, h) := zz_k_br (¬ v = 0) rfl (zz_k_num f103_13 rfl)
theorem f103_16 : zz_fetch zz_prog 103 16 = some (.aload_n 0, 1, [], []) := zz_fetch_of p103 rfl rfl
theorem s103_16 : zz_Run zz_prog d 103 (16, [some (.ref a), l1, l2, l3, l4], st, k, h) = zz_Run zz_prog d 103 (17, [some (.ref a), l1, l2, l3, l4], .ref a :: st, k, h) := zz_k_num f103_16 rfl
theorem f103_17 : zz_fetch zz_prog 103 17 = some (.getfield 7, 3, [2, 1, 3], []) := zz_fetch_of p103 rfl rfl
theorem s103_17 : zz_Run zz_prog d 103 (17, [l0, l1, l2, l3, l4], .ref 23 :: st, k, (zz_hp n I J ex)) = zz_Run zz_prog d 103 (20, [l0, l1, l2, l3, l4], .ref 24 :: st, k, (zz_hp n I J ex)) := zz_k_go f103_17 rfl rfl rfl
theorem f103_20 : zz_fetch zz_prog 103 20 = some (.iconst 0, 1, [], []) := zz_fetch_of p103 rfl rfl
theorem s103_20 : zz_Run zz_prog d 103 (20, [l0, l1, l2, l3, l4], st, k, h) = zz_Run zz_prog d 103 (21, [l0, l1, l2, l3, l4], .int 0 :: st, k, h) := zz_k_num f103_20 rfl
theorem f103_21 : zz_fetch zz_prog 103 21 = some (.iload 4, 2, [], []) := zz_fetch_of p103 rfl rfl
theorem s103_21 : zz_Run zz_prog d 103 (21, [l0, l1, l2, l3, some (.int v)], st, k, h) = zz_Run zz_prog d 103 (23, [l0, l1, l2, l3, some (.int v)], .int v :: st, k, h) := zz_k_num f103_21 rfl
theorem f103_23 : zz_fetch zz_prog 103 23 = some (.iadd, 1, [], []) := zz_fetch_of p103 rfl rfl
theorem s103_23 : zz_Run zz_prog d 103 (23, [l0, l1, l2, l3, l4], .int w :: .int v :: st, k, h) = zz_Run zz_prog d 103 (24, [l0, l1, l2, l3, l4], .int (v + w) :: st, k, h) := zz_k_num f103_23 rfl
theorem f103_24 : zz_fetch zz_prog 103 24 = some (.iaload, 1, [], []) := zz_fetch_of p103 rfl rfl
theorem s103_24 (ha : zz_isrd a = true) : zz_Run zz_prog d 103 (24, [l0, l1, l2, l3, l4], .int v :: .ref a :: st, k, (zz_hp n I J ex)) = zz_ck (zz_in v (zz_ary n a)) (zz_Run zz_prog d 103 (25, [l0, l1, l2, l3, l4], .int (I a v.toNatClampNeg) :: st, k, (zz_hp n I J ex))) := zz_k_iald f103_24 ha
theorem f103_25 : zz_fetch zz_prog 103 25 = some (.iload_n 1, 1, [], []) := zz_fetch_of p103 rfl rfl
theorem s103_25 : zz_Run zz_prog d 103 (25, [l0, some (.int v), l2, l3, l4], st, k, h) = zz_Run zz_prog d 103 (26, [l0, some (.int v), l2, l3, l4], .int v :: st, k, h) := zz_k_num f103_25 rfl
theorem f103_26 : zz_fetch zz_prog 103 26 = some (.iconst 1, 1, [], []) := zz_fetch_of p103 rfl rfl
theorem s103_26 : zz_Run zz_prog d 103 (26, [l0, l1, l2, l3, l4], st, k, h) = zz_Run zz_prog d 103 (27, [l0, l1, l2, l3, l4], .int 1 :: st, k, h) := zz_k_num f103_26 rfl
theorem f103_27 : zz_fetch zz_prog 103 27 = some (.iadd, 1, [], []) := zz_fetch_of p103 rfl rfl
theorem s103_27 : zz_Run zz_prog d 103 (27, [l0, l1, l2, l3, l4], .int w :: .int v :: st, k, h) = zz_Run zz_prog d 103 (28, [l0, l1, l2, l3, l4], .int (v + w) :: st, k, h) := zz_k_num f103_27 rfl
theorem f103_28 : zz_fetch zz_prog 103 28 = some (.if_icmp .ne 9, 3, [37], []) := zz_fetch_of p103 rfl rfl
theorem s103_28 : zz_Run zz_prog d 103 (28, [l0, l1, l2, l3, l4], .int w :: .int v :: st, k, h) = if ¬ v = w then zz_Run zz_prog d 103 (37, [l0, l1, l2, l3, l4], st, k, h) else zz_Run zz_prog d 103 (31, [l0, l1, l2, l3, l4], st, k, h) := zz_k_br (¬ v = w) rfl (zz_k_num f103_28 rfl)
theorem f103_31 : zz_fetch zz_prog 103 31 = some (.iload_n 3, 1, [], []) := zz_fetch_of p103 rfl rfl
theorem s103_31 : zz_Run zz_prog d 103 (31, [l0, l1, l2, some (.int v), l4], st, k, h) = zz_Run zz_prog d 103 (32, [l0, l1, l2, some (.int v), l4], .int v :: st, k, h) := zz_k_num f103_31 rfl
theorem f103_32 : zz_fetch zz_prog 103 32 = some (.iconst 1, 1, [], []) := zz_fetch_of p103 rfl rfl
theorem s103_32 : zz_Run zz_prog d 103 (32, [l0, l1, l2, l3, l4], st, k, h) = zz_Run zz_prog d 103 (33, [l0, l1, l2, l3, l4], .int 1 :: st, k, h) := zz_k_num f103_32 rfl
theorem f103_33 : zz_fetch zz_prog 103 33 = some (.iadd, 1, [], []) := zz_fetch_of p103 rfl rfl
theorem s103_33 : zz_Run zz_prog d 103 (33, [l0, l1, l2, l3, l4], .int w :: .int v :: st, k, h) = zz_Run zz_prog d 103 (34, [l0, l1, l2, l3, l4], .int (v + w) :: st, k, h) := zz_k_num f103_33 rfl
theorem f103_34 : zz_fetch zz_prog 103 34 = some (.goto 4, 3, [38], []) := zz_fetch_of p103 rfl rfl
theorem s103_34 : zz_Run zz_prog d 103 (34, [l0, l1, l2, l3, l4], st, k, h) = zz_Run zz_prog d 103 (38, [l0, l1, l2, l3, l4], st, k, h) := zz_k_num f103_34 rfl
theorem f103_37 : zz_fetch zz_prog 103 37 = some (.iload_n 3, 1, [], []) := zz_fetch_of p103 rfl rfl
theorem s103_37 : zz_Run zz_prog d 103 (37, [l0, l1, l2, some (.int v), l4], st, k, h) = zz_Run zz_prog d 103 (38, [l0, l1, l2, some (.int v), l4], .int v :: st, k, h) := zz_k_num f103_37 rfl
theorem f103_38 : zz_fetch zz_prog 103 38 = some (.istore_n 3, 1, [], []) := zz_fetch_of p103 rfl rfl
theorem s103_38 : zz_Run zz_prog d 103 (38, [l0, l1, l2, l3, l4], .int v :: st, k, h) = zz_sl l2 (zz_Run zz_prog d 103 (39, [l0, l1, l2, some (.int v), l4], st, k, h)) := zz_k_st (j := 3) (u := .int v) f103_38 rfl (fun q hq => by cases hq) rfl (show 3 < 5 by decide) (by cases l2 <;> rfl) rfl
theorem f103_39 : zz_fetch zz_prog 103 39 = some (.iinc 4 1, 3, [], []) := zz_fetch_of p103 rfl rfl
theorem s103_39 : zz_Run zz_prog d 103 (39, [l0, l1, l2, l3, some (.int v)], st, k, h) = zz_sl l3 (zz_Run zz_prog d 103 (42, [l0, l1, l2, l3, some (.int (v + 1))], st, k, h)) := zz_k_st (j := 4) (u := .int (v + 1)) f103_39 rfl (fun q hq => by cases hq) rfl (show 4 < 5 by decide) (by cases l3 <;> rfl) rfl
theorem f103_42 : zz_fetch zz_prog 103 42 = some (.goto (-37), 3, [5], []) := zz_fetch_of p103 rfl rfl
theorem s103_42 : zz_Run zz_prog d 103 (42, [l0, l1, l2, l3, l4], st, k, h) = zz_Run zz_prog d 103 (5, [l0, l1, l2, l3, l4], st, k, h) := zz_k_num f103_42 rfl
theorem f103_45 : zz_fetch zz_prog 103 45 = some (.iconst 0, 1, [], []) := zz_fetch_of p103 rfl rfl
theorem s103_45 : zz_Run zz_prog d 103 (45, [l0, l1, l2, l3, l4], st, k, h) = zz_Run zz_prog d 103 (46, [l0, l1, l2, l3, l4], .int 0 :: st, k, h) := zz_k_num f103_45 rfl
theorem f103_46 : zz_fetch zz_prog 103 46 = some (.istore 4, 2, [], []) := zz_fetch_of p103 rfl rfl
theorem s103_46 : zz_Run zz_prog d 103 (46, [l0, l1, l2, l3, l4], .int v :: st, k, h) = zz_sl l3 (zz_Run zz_prog d 103 (48, [l0, l1, l2, l3, some (.int v)], st, k, h)) := zz_k_st (j := 4) (u := .int v) f103_46 rfl (fun q hq => by cases hq) rfl (show 4 < 5 by decide) (by cases l3 <;> rfl) rfl
theorem f103_48 : zz_fetch zz_prog 103 48 = some (.iload 4, 2, [], []) := zz_fetch_of p103 rfl rfl
theorem s103_48 : zz_Run zz_prog d 103 (48, [l0, l1, l2, l3, some (.int v)], st, k, h) = zz_Run zz_prog d 103 (50, [l0, l1, l2, l3, some (.int v)], .int v :: st, k, h) := zz_k_num f103_48 rfl
theorem f103_50 : zz_fetch zz_prog 103 50 = some (.bipush 54, 2, [], []) := zz_fetch_of p103 rfl rfl
theorem s103_50 : zz_Run zz_prog d 103 (50, [l0, l1, l2, l3, l4], st, k, h) = zz_Run zz_prog d 103 (52, [l0, l1, l2, l3, l4], .int 54 :: st, k, h) := zz_k_num f103_50 (congrArg (fun u => some (52, [l0, l1, l2, l3, l4], Value.int u :: st)) (by decide : (Int8.ofInt 54).toInt32 = 54))
theorem f103_52 : zz_fetch zz_prog 103 52 = some (.if_icmp .ge 49, 3, [101], []) := zz_fetch_of p103 rfl rfl
theorem s103_52 : zz_Run zz_prog d 103 (52, [l0, l1, l2, l3, l4], .int w :: .int v :: st, k, h) = if w ≤ v then zz_Run zz_prog d 103 (101, [l0, l1, l2, l3, l4], st, k, h) else zz_Run zz_prog d 103 (55, [l0, l1, l2, l3, l4], st, k, h) := zz_k_br (w ≤ v) rfl (zz_k_num f103_52 rfl)
theorem f103_55 : zz_fetch zz_prog 103 55 = some (.iload_n 2, 1, [], []) := zz_fetch_of p103 rfl rfl
theorem s103_55 : zz_Run zz_prog d 103 (55, [l0, l1, some (.int v), l3, l4], st, k, h) = zz_Run zz_prog d 103 (56, [l0, l1, some (.int v), l3, l4], .int v :: st, k, h) := zz_k_num f103_55 rfl
theorem f103_56 : zz_fetch zz_prog 103 56 = some (.ifCond .le 45, 3, [101], []) := zz_fetch_of p103 rfl rfl
theorem s103_56 : zz_Run zz_prog d 103 (56, [l0, l1, l2, l3, l4], .int v :: st, k, h) = if v ≤ 0 then zz_Run zz_prog d 103 (101, [l0, l1, l2, l3, l4], st, k, h) else zz_Run zz_prog d 103 (59, [l0, l1, l2, l3, l4], st, k, h) := zz_k_br (v ≤ 0) rfl (zz_k_num f103_56 rfl)
theorem f103_59 : zz_fetch zz_prog 103 59 = some (.aload_n 0, 1, [], []) := zz_fetch_of p103 rfl rfl
theorem s103_59 : zz_Run zz_prog d 103 (59, [some (.ref a), l1, l2, l3, l4], st, k, h) = zz_Run zz_prog d 103 (60, [some (.ref a), l1, l2, l3, l4], .ref a :: st, k, h) := zz_k_num f103_59 rfl
theorem f103_60 : zz_fetch zz_prog 103 60 = some (.getfield 7, 3, [2, 1, 3], []) := zz_fetch_of p103 rfl rfl
theorem s103_60 : zz_Run zz_prog d 103 (60, [l0, l1, l2, l3, l4], .ref 23 :: st, k, (zz_hp n I J ex)) = zz_Run zz_prog d 103 (63, [l0, l1, l2, l3, l4], .ref 24 :: st, k, (zz_hp n I J ex)) := zz_k_go f103_60 rfl rfl rfl
theorem f103_63 : zz_fetch zz_prog 103 63 = some (.bipush 72, 2, [], []) := zz_fetch_of p103 rfl rfl
theorem s103_63 : zz_Run zz_prog d 103 (63, [l0, l1, l2, l3, l4], st, k, h) = zz_Run zz_prog d 103 (65, [l0, l1, l2, l3, l4], .int 72 :: st, k, h) := zz_k_num f103_63 (congrArg (fun u => some (65, [l0, l1, l2, l3, l4], Value.int u :: st)) (by decide : (Int8.ofInt 72).toInt32 = 72))
theorem f103_65 : zz_fetch zz_prog 103 65 = some (.iload 4, 2, [], []) := zz_fetch_of p103 rfl rfl
theorem s103_65 : zz_Run zz_prog d 103 (65, [l0, l1, l2, l3, some (.int v)], st, k, h) = zz_Run zz_prog d 103 (67, [l0, l1, l2, l3, some (.int v)], .int v :: st, k, h) := zz_k_num f103_65 rfl
theorem f103_67 : zz_fetch zz_prog 103 67 = some (.iadd, 1, [], []) := zz_fetch_of p103 rfl rfl
theorem s103_67 : zz_Run zz_prog d 103 (67, [l0, l1, l2, l3, l4], .int w :: .int v :: st, k, h) = zz_Run zz_prog d 103 (68, [l0, l1, l2, l3, l4], .int (v + w) :: st, k, h) := zz_k_num f103_67 rfl
theorem f103_68 : zz_fetch zz_prog 103 68 = some (.iaload, 1, [], []) := zz_fetch_of p103 rfl rfl
theorem s103_68 (ha : zz_isrd a = true) : zz_Run zz_prog d 103 (68, [l0, l1, l2, l3, l4], .int v :: .ref a :: st, k, (zz_hp n I J ex)) = zz_ck (zz_in v (zz_ary n a)) (zz_Run zz_prog d 103 (69, [l0, l1, l2, l3, l4], .int (I a v.toNatClampNeg) :: st, k, (zz_hp n I J ex))) := zz_k_iald f103_68 ha
theorem f103_69 : zz_fetch zz_prog 103 69 = some (.iload_n 2, 1, [], []) := zz_fetch_of p103 rfl rfl
theorem s103_69 : zz_Run zz_prog d 103 (69, [l0, l1, some (.int v), l3, l4], st, k, h) = zz_Run zz_prog d 103 (70, [l0, l1, some (.int v), l3, l4], .int v :: st, k, h) := zz_k_num f103_69 rfl
theorem f103_70 : zz_fetch zz_prog 103 70 = some (.iconst 1, 1, [], []) := zz_fetch_of p103 rfl rfl
theorem s103_70 : zz_Run zz_prog d 103 (70, [l0, l1, l2, l3, l4], st, k, h) = zz_Run zz_prog d 103 (71, [l0, l1, l2, l3, l4], .int 1 :: st, k, h) := zz_k_num f103_70 rfl
theorem f103_71 : zz_fetch zz_prog 103 71 = some (.if_icmp .ne 9, 3, [80], []) := zz_fetch_of p103 rfl rfl
theorem s103_71 : zz_Run zz_prog d 103 (71, [l0, l1, l2, l3, l4], .int w :: .int v :: st, k, h) = if ¬ v = w then zz_Run zz_prog d 103 (80, [l0, l1, l2, l3, l4], st, k, h) else zz_Run zz_prog d 103 (74, [l0, l1, l2, l3, l4], st, k, h) := zz_k_br (¬ v = w) rfl (zz_k_num f103_71 rfl)
theorem f103_74 : zz_fetch zz_prog 103 74 = some (.iload_n 1, 1, [], []) := zz_fetch_of p103 rfl rfl
theorem s103_74 : zz_Run zz_prog d 103 (74, [l0, some (.int v), l2, l3, l4], st, k, h) = zz_Run zz_prog d 103 (75, [l0, some (.int v), l2, l3, l4], .int v :: st, k, h) := zz_k_num f103_74 rfl
theorem f103_75 : zz_fetch zz_prog 103 75 = some (.iconst 1, 1, [], []) := zz_fetch_of p103 rfl rfl
theorem s103_75 : zz_Run zz_prog d 103 (75, [l0, l1, l2, l3, l4], st, k, h) = zz_Run zz_prog d 103 (76, [l0, l1, l2, l3, l4], .int 1 :: st, k, h) := zz_k_num f103_75 rfl
theorem f103_76 : zz_fetch zz_prog 103 76 = some (.iadd, 1, [], []) := zz_fetch_of p103 rfl rfl
theorem s103_76 : zz_Run zz_prog d 103 (76, [l0, l1, l2, l3, l4], .int w :: .int v :: st, k, h) = zz_Run zz_prog d 103 (77, [l0, l1, l2, l3, l4], .int (v + w) :: st, k, h) := zz_k_num f103_76 rfl
theorem f103_77 : zz_fetch zz_prog 103 77 = some (.goto 7, 3, [84], []) := zz_fetch_of p103 rfl rfl
theorem s103_77 : zz_Run zz_prog d 103 (77, [l0, l1, l2, l3, l4], st, k, h) = zz_Run zz_prog d 103 (84, [l0, l1, l2, l3, l4], st, k, h) := zz_k_num f103_77 rfl
theorem f103_80 : zz_fetch zz_prog 103 80 = some (.iload_n 1, 1, [], []) := zz_fetch_of p103 rfl rfl
theorem s103_80 : zz_Run zz_prog d 103 (80, [l0, some (.int v), l2, l3, l4], st, k, h) = zz_Run zz_prog d 103 (81, [l0, some (.int v), l2, l3, l4], .int v :: st, k, h) := zz_k_num f103_80 rfl
theorem f103_81 : zz_fetch zz_prog 103 81 = some (.bipush 9, 2, [], []) := zz_fetch_of p103 rfl rfl
theorem s103_81 : zz_Run zz_prog d 103 (81, [l0, l1, l2, l3, l4], st, k, h) = zz_Run zz_prog d 103 (83, [l0, l1, l2, l3, l4], .int 9 :: st, k, h) := zz_k_num f103_81 (congrArg (fun u => some (83, [l0, l1, l2, l3, l4], Value.int u :: st)) (by decide : (Int8.ofInt 9).toInt32 = 9))
theorem f103_83 : zz_fetch zz_prog 103 83 = some (.iadd, 1, [], []) := zz_fetch_of p103 rfl rfl
theorem s103_83 : zz_Run zz_prog d 103 (83, [l0, l1, l2, l3, l4], .int w :: .int v :: st, k, h) = zz_Run zz_prog d 103 (84, [l0, l1, l2, l3, l4], .int (v + w) :: st, k, h) := zz_k_num f103_83 rfl
theorem f103_84 : zz_fetch zz_prog 103 84 = some (.if_icmp .ne 9, 3, [93], []) := zz_fetch_of p103 rfl rfl
theorem s103_84 : zz_Run zz_prog d 103 (84, [l0, l1, l2, l3, l4], .int w :: .int v :: st, k, h) = if ¬ v = w then zz_Run zz_prog d 103 (93, [l0, l1, l2, l3, l4], st, k, h) else zz_Run zz_prog d 103 (87, [l0, l1, l2, l3, l4], st, k, h) := zz_k_br (¬ v = w) rfl (zz_k_num f103_84 rfl)
theorem f103_87 : zz_fetch zz_prog 103 87 = some (.iload_n 3, 1, [], []) := zz_fetch_of p103 rfl rfl
theorem s103_87 : zz_Run zz_prog d 103 (87, [l0, l1, l2, some (.int v), l4], st, k, h) = zz_Run zz_prog d 103 (88, [l0, l1, l2, some (.int v), l4], .int v :: st, k, h) := zz_k_num f103_87 rfl
theorem f103_88 : zz_fetch zz_prog 103 88 = some (.iconst 1, 1, [], []) := zz_fetch_of p103 rfl rfl
theorem s103_88 : zz_Run zz_prog d 103 (88, [l0, l1, l2, l3, l4], st, k, h) = zz_Run zz_prog d 103 (89, [l0, l1, l2, l3, l4], .int 1 :: st, k, h) := zz_k_num f103_88 rfl
theorem f103_89 : zz_fetch zz_prog 103 89 = some (.iadd, 1, [], []) := zz_fetch_of p103 rfl rfl
theorem s103_89 : zz_Run zz_prog d 103 (89, [l0, l1, l2, l3, l4], .int w :: .int v :: st, k, h) = zz_Run zz_prog d 103 (90, [l0, l1, l2, l3, l4], .int (v + w) :: st, k, h) := zz_k_num f103_89 rfl
theorem f103_90 : zz_fetch zz_prog 103 90 = some (.goto 4, 3, [94], []) := zz_fetch_of p103 rfl rfl
theorem s103_90 : zz_Run zz_prog d 103 (90, [l0, l1, l2, l3, l4], st, k, h) = zz_Run zz_prog d 103 (94, [l0, l1, l2, l3, l4], st, k, h) := zz_k_num f103_90 rfl
theorem f103_93 : zz_fetch zz_prog 103 93 = some (.iload_n 3, 1, [], []) := zz_fetch_of p103 rfl rfl
theorem s103_93 : zz_Run zz_prog d 103 (93, [l0, l1, l2, some (.int v), l4], st, k, h) = zz_Run zz_prog d 103 (94, [l0, l1, l2, some (.int v), l4], .int v :: st, k, h) := zz_k_num f103_93 rfl
theorem f103_94 : zz_fetch zz_prog 103 94 = some (.istore_n 3, 1, [], []) := zz_fetch_of p103 rfl rfl
theorem s103_94 : zz_Run zz_prog d 103 (94, [l0, l1, l2, l3, l4], .int v :: st, k, h) = zz_sl l2 (zz_Run zz_prog d 103 (95, [l0, l1, l2, some (.int v), l4], st, k, h)) := zz_k_st (j := 3) (u := .int v) f103_94 rfl (fun q hq => by cases hq) rfl (show 3 < 5 by decide) (by cases l2 <;> rfl) rfl
theorem f103_95 : zz_fetch zz_prog 103 95 = some (.iinc 4 1, 3, [], []) := zz_fetch_of p103 rfl rfl
theorem s103_95 : zz_Run zz_prog d 103 (95, [l0, l1, l2, l3, some (.int v)], st, k, h) = zz_sl l3 (zz_Run zz_prog d 103 (98, [l0, l1, l2, l3, some (.int (v + 1))], st, k, h)) := zz_k_st (j := 4) (u := .int (v + 1)) f103_95 rfl (fun q hq => by cases hq) rfl (show 4 < 5 by decide) (by cases l3 <;> rfl) rfl
theorem f103_98 : zz_fetch zz_prog 103 98 = some (.goto (-50), 3, [48], []) := zz_fetch_of p103 rfl rfl
theorem s103_98 : zz_Run zz_prog d 103 (98, [l0, l1, l2, l3, l4], st, k, h) = zz_Run zz_prog d 103 (48, [l0, l1, l2, l3, l4], st, k, h) := zz_k_num f103_98 rfl
theorem f103_101 : zz_fetch zz_prog 103 101 = some (.iload_n 3, 1, [], []) := zz_fetch_of p103 rfl rfl
theorem s103_101 : zz_Run zz_prog d 103 (101, [l0, l1, l2, some (.int v), l4], st, k, h) = zz_Run zz_prog d 103 (102, [l0, l1, l2, some (.int v), l4], .int v :: st, k, h) := zz_k_num f103_101 rfl
theorem f103_102 : zz_fetch zz_prog 103 102 = some (.ireturn, 1, [0], []) := zz_fetch_of p103 rfl rfl
theorem s103_102 : zz_Run zz_prog d 103 (102, [l0, l1, l2, l3, l4], [.int v], k, h) = some (.inl (some (.int v)), k, h) := zz_k_stop f103_102 rfl rfl rfl
end S103
section S104
variable {d n j : Nat} {l0 l1 l2 l3 l4 : Option Value} {st : List Value} {k : Bool} {h : zz_H} {v w v1 v2 : Int32} {y y1 : Int64} {a a1 a2 : Nat} {b0 b1 b2 b3 b4 b5 b6 b7 b8 : Value} {I : Nat → Nat → Int32} {J : Nat → Nat → Int64} {ex : List (Nat × Nat)}
theorem p104 : zz_prog 104 = some zz_m104 := rfl
theorem e104 (g0 : Nat) (g1 : Int32) (g2 : Int32) : zz_Call zz_prog (d + 1) 104 [.ref g0, .int g1, .int g2] h = zz_Run zz_prog d 104 (0, [some (.ref g0), some (.int g1), some (.int g2), none, none], [], true, h) := rfl
theorem t104 (pc : Nat) (L : List (Option Value)) : zz_th d 104 pc a L k h = some (.inr a, k, h) := zz_th_out p104 rfl
theorem f104_0 : zz_fetch zz_prog 104 0 = some (.iconst 0, 1, [], []) := zz_fetch_of p104 rfl rfl
theorem s104_0 : zz_Run zz_prog d 104 (0, [l0, l1, l2, l3, l4], st, k, h) = zz_Run zz_prog d 104 (1, [l0, l1, l2, l3, l4], .int 0 :: st, k, h) := zz_k_num f104_0 rfl
theorem f104_1 : zz_fetch zz_prog 104 1 = some (.istore_n 3, 1, [], []) := zz_fetch_of p104 rfl rfl
theorem s104_1 : zz_Run zz_prog d 104 (1, [l0, l1, l2, l3, l4], .int v :: st, k, h) = zz_sl l2 (zz_Run zz_prog d 104 (2, [l0, l1, l2, some (.int v), l4], st, k, h)) := zz_k_st (j := 3) (u := .int v) f104_1 rfl (fun q hq => by cases hq) rfl (show 3 < 5 by decide) (by cases l2 <;> rfl) rfl
theorem f104_2 : zz_fetch zz_prog 104 2 = some (.iconst 0, 1, [], []) := zz_fetch_of p104 rfl rfl
theorem s104_2 : zz_Run zz_prog d 104 (2, [l0, l1, l2, l3, l4], st, k, h) = zz_Run zz_prog d 104 (3, [l0, l1, l2, l3, l4], .int 0 :: st, k, h) := zz_k_num f104_2 rfl
theorem f104_3 : zz_fetch zz_prog 104 3 = some (.istore 4, 2, [], []) := zz_fetch_of p104 rfl rfl
theorem s104_3 : zz_Run zz_prog d 104 (3, [l0, l1, l2, l3, l4], .int v :: st, k, h) = zz_sl l3 (zz_Run zz_prog d 104 (5, [l0, l1, l2, l3, some (.int v)], st, k, h)) := zz_k_st (j := 4) (u := .int v) f104_3 rfl (fun q hq => by cases hq) rfl (show 4 < 5 by decide) (by cases l3 <;> rfl) rfl
theorem f104_5 : zz_fetch zz_prog 104 5 = some (.iload 4, 2, [], []) := zz_fetch_of p104 rfl rfl
theorem s104_5 : zz_Run zz_prog d 104 (5, [l0, l1, l2, l3, some (.int v)], st, k, h) = zz_Run zz_prog d 104 (7, [l0, l1, l2, l3, some (.int v)], .int v :: st, k, h) := zz_k_num f104_5 rfl
theorem f104_7 : zz_fetch zz_prog 104 7 = some (.bipush 72, 2, [], []) := zz_fetch_of p104 rfl rfl
theorem s104_7 : zz_Run zz_prog d 104 (7, [l0, l1, l2, l3, l4], st, k, h) = zz_Run zz_prog d 104 (9, [l0, l1, l2, l3, l4], .int 72 :: st, k, h) := zz_k_num f104_7 (congrArg (fun u => some (9, [l0, l1, l2, l3, l4], Value.int u :: st)) (by decide : (Int8.ofInt 72).toInt32 = 72))
theorem f104_9 : zz_fetch zz_prog 104 9 = some (.if_icmp .ge 56, 3, [65], []) := zz_fetch_of p104 rfl rfl
theorem s104_9 : zz_Run zz_prog d 104 (9, [l0, l1, l2, l3, l4], .int w :: .int v :: st, k, h) = if w ≤ v then zz_Run zz_prog d 104 (65, [l0, l1, l2, l3, l4], st, k, h) else zz_Run zz_prog d 104 (12, [l0, l1, l2, l3, l4], st, k, h) := zz_k_br (w ≤ v) rfl (zz_k_num f104_9 rfl)
theorem f104_12 : zz_fetch zz_prog 104 12 = some (.iload_n 3, 1, [], []) := zz_fetch_of p104 rfl rfl
theorem s104_12 : zz_Run zz_prog d 104 (12, [l0, l1, l2, some (.int v), l4], st, k, h) = zz_Run zz_prog d 104 (13, [l0, l1, l2, some (.int v), l4], .int v :: st, k, h) := zz_k_num f104_12 rfl
theorem f104_13 : zz_fetch zz_prog 104 13 = some (.ifCond .ne 40, 3, [53], []) := zz_fetch_of p104 rfl rfl
theorem s104_13 : zz_Run zz_prog d 104 (13, [l0, l1, l2, l3, l4], .int v :: st, k, h) = if ¬ v = 0 then zz_Run zz_prog d 104 (53, [l0, l1, l2, l3, l4], st, k, h) else zz_Run zz_prog d 104 (16, [l0, l1, l2, l3, l4], st, k, h) := zz_k_br (¬ v = 0) rfl (zz_k_num f104_13 rfl)
theorem f104_16 : zz_fetch zz_prog 104 16 = some (.aload_n 0, 1, [], []) := zz_fetch_of p104 rfl rfl
theorem s104_16 : zz_Run zz_prog d 104 (16, [some (.ref a), l1, l2, l3, l4], st, k, h) = zz_Run zz_prog d 104 (17, [some (.ref a), l1, l2, l3, l4], .ref a :: st, k, h) := zz_k_num f104_16 rfl
theorem f104_17 : zz_fetch zz_prog 104 17 = some (.getfield 7, 3, [2, 1, 3], []) := zz_fetch_of p104 rfl rfl
theorem s104_17 : zz_Run zz_prog d 104 (17, [l0, l1, l2, l3, l4], .ref 23 :: st, k, (zz_hp n I J ex)) = zz_Run zz_prog d 104 (20, [l0, l1, l2, l3, l4], .ref 24 :: st, k, (zz_hp n I J ex)) := zz_k_go f104_17 rfl rfl rfl
theorem f104_20 : zz_fetch zz_prog 104 20 = some (.iconst 0, 1, [], []) := zz_fetch_of p104 rfl rfl
theorem s104_20 : zz_Run zz_prog d 104 (20, [l0, l1, l2, l3, l4], st, k, h) = zz_Run zz_prog d 104 (21, [l0, l1, l2, l3, l4], .int 0 :: st, k, h) := zz_k_num f104_20 rfl
theorem f104_21 : zz_fetch zz_prog 104 21 = some (.iload 4, 2, [], []) := zz_fetch_of p104 rfl rfl
theorem s104_21 : zz_Run zz_prog d 104 (21, [l0, l1, l2, l3, some (.int v)], st, k, h) = zz_Run zz_prog d 104 (23, [l0, l1, l2, l3, some (.int v)], .int v :: st, k, h) := zz_k_num f104_21 rfl
theorem f104_23 : zz_fetch zz_prog 104 23 = some (.iadd, 1, [], []) := zz_fetch_of p104 rfl rfl
theorem s104_23 : zz_Run zz_prog d 104 (23, [l0, l1, l2, l3, l4], .int w :: .int v :: st, k, h) = zz_Run zz_prog d 104 (24, [l0, l1, l2, l3, l4], .int (v + w) :: st, k, h) := zz_k_num f104_23 rfl
theorem f104_24 : zz_fetch zz_prog 104 24 = some (.iaload, 1, [], []) := zz_fetch_of p104 rfl rfl
theorem s104_24 (ha : zz_isrd a = true) : zz_Run zz_prog d 104 (24, [l0, l1, l2, l3, l4], .int v :: .ref a :: st, k, (zz_hp n I J ex)) = zz_ck (zz_in v (zz_ary n a)) (zz_Run zz_prog d 104 (25, [l0, l1, l2, l3, l4], .int (I a v.toNatClampNeg) :: st, k, (zz_hp n I J ex))) := zz_k_iald f104_24 ha
theorem f104_25 : zz_fetch zz_prog 104 25 = some (.iload_n 2, 1, [], []) := zz_fetch_of p104 rfl rfl
theorem s104_25 : zz_Run zz_prog d 104 (25, [l0, l1, some (.int v), l3, l4], st, k, h) = zz_Run zz_prog d 104 (26, [l0, l1, some (.int v), l3, l4], .int v :: st, k, h) := zz_k_num f104_25 rfl
theorem f104_26 : zz_fetch zz_prog 104 26 = some (.iconst 1, 1, [], []) := zz_fetch_of p104 rfl rfl
theorem s104_26 : zz_Run zz_prog d 104 (26, [l0, l1, l2, l3, l4], st, k, h) = zz_Run zz_prog d 104 (27, [l0, l1, l2, l3, l4], .int 1 :: st, k, h) := zz_k_num f104_26 rfl
theorem f104_27 : zz_fetch zz_prog 104 27 = some (.iadd, 1, [], []) := zz_fetch_of p104 rfl rfl
theorem s104_27 : zz_Run zz_prog d 104 (27, [l0, l1, l2, l3, l4], .int w :: .int v :: st, k, h) = zz_Run zz_prog d 104 (28, [l0, l1, l2, l3, l4], .int (v + w) :: st, k, h) := zz_k_num f104_27 rfl
theorem f104_28 : zz_fetch zz_prog 104 28 = some (.if_icmp .ne 29, 3, [57], []) := zz_fetch_of p104 rfl rfl
theorem s104_28 : zz_Run zz_prog d 104 (28, [l0, l1, l2, l3, l4], .int w :: .int v :: st, k, h) = if ¬ v = w then zz_Run zz_prog d 104 (57, [l0, l1, l2, l3, l4], st, k, h) else zz_Run zz_prog d 104 (31, [l0, l1, l2, l3, l4], st, k, h) := zz_k_br (¬ v = w) rfl (zz_k_num f104_28 rfl)
theorem f104_31 : zz_fetch zz_prog 104 31 = some (.aload_n 0, 1, [], []) := zz_fetch_of p104 rfl rfl
theorem s104_31 : zz_Run zz_prog d 104 (31, [some (.ref a), l1, l2, l3, l4], st, k, h) = zz_Run zz_prog d 104 (32, [some (.ref a), l1, l2, l3, l4], .ref a :: st, k, h) := zz_k_num f104_31 rfl
theorem f104_32 : zz_fetch zz_prog 104 32 = some (.getfield 22, 3, [2, 6, 3], []) := zz_fetch_of p104 rfl rfl
theorem s104_32 : zz_Run zz_prog d 104 (32, [l0, l1, l2, l3, l4], .ref 23 :: st, k, (zz_hp n I J ex)) = zz_Run zz_prog d 104 (35, [l0, l1, l2, l3, l4], .ref 28 :: st, k, (zz_hp n I J ex)) := zz_k_go f104_32 rfl rfl rfl
theorem f104_35 : zz_fetch zz_prog 104 35 = some (.iload 4, 2, [], []) := zz_fetch_of p104 rfl rfl
theorem s104_35 : zz_Run zz_prog d 104 (35, [l0, l1, l2, l3, some (.int v)], st, k, h) = zz_Run zz_prog d 104 (37, [l0, l1, l2, l3, some (.int v)], .int v :: st, k, h) := zz_k_num f104_35 rfl
theorem f104_37 : zz_fetch zz_prog 104 37 = some (.iaload, 1, [], []) := zz_fetch_of p104 rfl rfl
theorem s104_37 (ha : zz_isrd a = true) : zz_Run zz_prog d 104 (37, [l0, l1, l2, l3, l4], .int v :: .ref a :: st, k, (zz_hp n I J ex)) = zz_ck (zz_in v (zz_ary n a)) (zz_Run zz_prog d 104 (38, [l0, l1, l2, l3, l4], .int (I a v.toNatClampNeg) :: st, k, (zz_hp n I J ex))) := zz_k_iald f104_37 ha
theorem f104_38 : zz_fetch zz_prog 104 38 = some (.iload_n 1, 1, [], []) := zz_fetch_of p104 rfl rfl
theorem s104_38 : zz_Run zz_prog d 104 (38, [l0, some (.int v), l2, l3, l4], st, k, h) = zz_Run zz_prog d 104 (39, [l0, some (.int v), l2, l3, l4], .int v :: st, k, h) := zz_k_num f104_38 rfl
theorem f104_39 : zz_fetch zz_prog 104 39 = some (.if_icmp .eq 14, 3, [53], []) := zz_fetch_of p104 rfl rfl
theorem s104_39 : zz_Run zz_prog d 104 (39, [l0, l1, l2, l3, l4], .int w :: .int v :: st, k, h) = if v = w then zz_Run zz_prog d 104 (53, [l0, l1, l2, l3, l4], st, k, h) else zz_Run zz_prog d 104 (42, [l0, l1, l2, l3, l4], st, k, h) := zz_k_br (v = w) rfl (zz_k_num f104_39 rfl)
theorem f104_42 : zz_fetch zz_prog 104 42 = some (.aload_n 0, 1, [], []) := zz_fetch_of p104 rfl rfl
theorem s104_42 : zz_Run zz_prog d 104 (42, [some (.ref a), l1, l2, l3, l4], st, k, h) = zz_Run zz_prog d 104 (43, [some (.ref a), l1, l2, l3, l4], .ref a :: st, k, h) := zz_k_num f104_42 rfl
theorem f104_43 : zz_fetch zz_prog 104 43 = some (.getfield 25, 3, [2, 7, 3], []) := zz_fetch_of p104 rfl rfl
theorem s104_43 : zz_Run zz_prog d 104 (43, [l0, l1, l2, l3, l4], .ref 23 :: st, k, (zz_hp n I J ex)) = zz_Run zz_prog d 104 (46, [l0, l1, l2, l3, l4], .ref 29 :: st, k, (zz_hp n I J ex)) := zz_k_go f104_43 rfl rfl rfl
theorem f104_46 : zz_fetch zz_prog 104 46 = some (.iload 4, 2, [], []) := zz_fetch_of p104 rfl rfl
theorem s104_46 : zz_Run zz_prog d 104 (46, [l0, l1, l2, l3, some (.int v)], st, k, h) = zz_Run zz_prog d 104 (48, [l0, l1, l2, l3, some (.int v)], .int v :: st, k, h) := zz_k_num f104_46 rfl
theorem f104_48 : zz_fetch zz_prog 104 48 = some (.iaload, 1, [], []) := zz_fetch_of p104 rfl rfl
theorem s104_48 (ha : zz_isrd a = true) : zz_Run zz_prog d 104 (48, [l0, l1, l2, l3, l4], .int v :: .ref a :: st, k, (zz_hp n I J ex)) = zz_ck (zz_in v (zz_ary n a)) (zz_Run zz_prog d 104 (49, [l0, l1, l2, l3, l4], .int (I a v.toNatClampNeg) :: st, k, (zz_hp n I J ex))) := zz_k_iald f104_48 ha
theorem f104_49 : zz_fetch zz_prog 104 49 = some (.iload_n 1, 1, [], []) := zz_fetch_of p104 rfl rfl
theorem s104_49 : zz_Run zz_prog d 104 (49, [l0, some (.int v), l2, l3, l4], st, k, h) = zz_Run zz_prog d 104 (50, [l0, some (.int v), l2, l3, l4], .int v :: st, k, h) := zz_k_num f104_49 rfl
theorem f104_50 : zz_fetch zz_prog 104 50 = some (.if_icmp .ne 7, 3, [57], []) := zz_fetch_of p104 rfl rfl
theorem s104_50 : zz_Run zz_prog d 104 (50, [l0, l1, l2, l3, l4], .int w :: .int v :: st, k, h) = if ¬ v = w then zz_Run zz_prog d 104 (57, [l0, l1, l2, l3, l4], st, k, h) else zz_Run zz_prog d 104 (53, [l0, l1, l2, l3, l4], st, k, h) := zz_k_br (¬ v = w) rfl (zz_k_num f104_50 rfl)
theorem f104_53 : zz_fetch zz_prog 104 53 = some (.iconst 1, 1, [], []) := zz_fetch_of p104 rfl rfl
theorem s104_53 : zz_Run zz_prog d 104 (53, [l0, l1, l2, l3, l4], st, k, h) = zz_Run zz_prog d 104 (54, [l0, l1, l2, l3, l4], .int 1 :: st, k, h) := zz_k_num f104_53 rfl
theorem f104_54 : zz_fetch zz_prog 104 54 = some (.goto 4, 3, [58], []) := zz_fetch_of p104 rfl rfl
theorem s104_54 : zz_Run zz_prog d 104 (54, [l0, l1, l2, l3, l4], st, k, h) = zz_Run zz_prog d 104 (58, [l0, l1, l2, l3, l4], st, k, h) := zz_k_num f104_54 rfl
theorem f104_57 : zz_fetch zz_prog 104 57 = some (.iconst 0, 1, [], []) := zz_fetch_of p104 rfl rfl
theorem s104_57 : zz_Run zz_prog d 104 (57, [l0, l1, l2, l3, l4], st, k, h) = zz_Run zz_prog d 104 (58, [l0, l1, l2, l3, l4], .int 0 :: st, k, h) := zz_k_num f104_57 rfl
theorem f104_58 : zz_fetch zz_prog 104 58 = some (.istore_n 3, 1, [], []) := zz_fetch_of p104 rfl rfl
theorem s104_58 : zz_Run zz_prog d 104 (58, [l0, l1, l2, l3, l4], .int v :: st, k, h) = zz_sl l2 (zz_Run zz_prog d 104 (59, [l0, l1, l2, some (.int v), l4], st, k, h)) := zz_k_st (j := 3) (u := .int v) f104_58 rfl (fun q hq => by cases hq) rfl (show 3 < 5 by decide) (by cases l2 <;> rfl) rfl
theorem f104_59 : zz_fetch zz_prog 104 59 = some (.iinc 4 1, 3, [], []) := zz_fetch_of p104 rfl rfl
theorem s104_59 : zz_Run zz_prog d 104 (59, [l0, l1, l2, l3, some (.int v)], st, k, h) = zz_sl l3 (zz_Run zz_prog d 104 (62, [l0, l1, l2, l3, some (.int (v + 1))], st, k, h)) := zz_k_st (j := 4) (u := .int (v + 1)) f104_59 rfl (fun q hq => by cases hq) rfl (show 4 < 5 by decide) (by cases l3 <;> rfl) rfl
theorem f104_62 : zz_fetch zz_prog 104 62 = some (.goto (-57), 3, [5], []) := zz_fetch_of p104 rfl rfl
theorem s104_62 : zz_Run zz_prog d 104 (62, [l0, l1, l2, l3, l4], st, k, h) = zz_Run zz_prog d 104 (5, [l0, l1, l2, l3, l4], st, k, h) := zz_k_num f104_62 rfl
theorem f104_65 : zz_fetch zz_prog 104 65 = some (.iload_n 3, 1, [], []) := zz_fetch_of p104 rfl rfl
theorem s104_65 : zz_Run zz_prog d 104 (65, [l0, l1, l2, some (.int v), l4], st, k, h) = zz_Run zz_prog d 104 (66, [l0, l1, l2, some (.int v), l4], .int v :: st, k, h) := zz_k_num f104_65 rfl
theorem f104_66 : zz_fetch zz_prog 104 66 = some (.ireturn, 1, [1], []) := zz_fetch_of p104 rfl rfl
theorem s104_66 : zz_Run zz_prog d 104 (66, [l0, l1, l2, l3, l4], [.int v], k, h) = zz_ck (decide (v = 0 ∨ v = 1)) (some (.inl (some (.int v)), k, h)) := zz_k_retz f104_66
end S104
section S105
variable {d n j : Nat} {l0 l1 l2 l3 l4 : Option Value} {st : List Value} {k : Bool} {h : zz_H} {v w v1 v2 : Int32} {y y1 : Int64} {a a1 a2 : Nat} {b0 b1 b2 b3 b4 b5 b6 b7 b8 : Value} {I : Nat → Nat → Int32} {J : Nat → Nat → Int64} {ex : List (Nat × Nat)}
theorem p105 : zz_prog 105 = some zz_m105 := rfl
theorem e105 (g0 : Nat) (g1 : Int32) : zz_Call zz_prog (d + 1) 105 [.ref g0, .int g1] h = zz_Run zz_prog d 105 (0, [some (.ref g0), some (.int g1), none, none, none], [], true, h) := rfl
theorem t105 (pc : Nat) (L : List (Option Value)) : zz_th d 105 pc a L k h = some (.inr a, k, h) := zz_th_out p105 rfl
theorem f105_0 : zz_fetch zz_prog 105 0 = some (.aload_n 0, 1, [], []) := zz_fetch_of p105 rfl rfl
theorem s105_0 : zz_Run zz_prog d 105 (0, [some (.ref a), l1, l2, l3, l4], st, k, h) = zz_Run zz_prog d 105 (1, [some (.ref a), l1, l2, l3, l4], .ref a :: st, k, h) := zz_k_num f105_0 rfl
theorem f105_1 : zz_fetch zz_prog 105 1 = some (.getfield 7, 3, [2, 1, 3], []) := zz_fetch_of p105 rfl rfl
theorem s105_1 : zz_Run zz_prog d 105 (1, [l0, l1, l2, l3, l4], .ref 23 :: st, k, (zz_hp n I J ex)) = zz_Run zz_prog d 105 (4, [l0, l1, l2, l3, l4], .ref 24 :: st, k, (zz_hp n I J ex)) := zz_k_go f105_1 rfl rfl rfl
theorem f105_4 : zz_fetch zz_prog 105 4 = some (.bipush 72, 2, [], []) := zz_fetch_of p105 rfl rfl
theorem s105_4 : zz_Run zz_prog d 105 (4, [l0, l1, l2, l3, l4], st, k, h) = zz_Run zz_prog d 105 (6, [l0, l1, l2, l3, l4], .int 72 :: st, k, h) := zz_k_num f105_4 (congrArg (fun u => some (6, [l0, l1, l2, l3, l4], Value.int u :: st)) (by decide : (Int8.ofInt 72).toInt32 = 72))
theorem f105_6 : zz_fetch zz_prog 105 6 = some (.iload_n 1, 1, [], []) := zz_fetch_of p105 rfl rfl
theorem s105_6 : zz_Run zz_prog d 105 (6, [l0, some (.int v), l2, l3, l4], st, k, h) = zz_Run zz_prog d 105 (7, [l0, some (.int v), l2, l3, l4], .int v :: st, k, h) := zz_k_num f105_6 rfl
theorem f105_7 : zz_fetch zz_prog 105 7 = some (.iadd, 1, [], []) := zz_fetch_of p105 rfl rfl
theorem s105_7 : zz_Run zz_prog d 105 (7, [l0, l1, l2, l3, l4], .int w :: .int v :: st, k, h) = zz_Run zz_prog d 105 (8, [l0, l1, l2, l3, l4], .int (v + w) :: st, k, h) := zz_k_num f105_7 rfl
theorem f105_8 : zz_fetch zz_prog 105 8 = some (.iaload, 1, [], []) := zz_fetch_of p105 rfl rfl
theorem s105_8 (ha : zz_isrd a = true) : zz_Run zz_prog d 105 (8, [l0, l1, l2, l3, l4], .int v :: .ref a :: st, k, (zz_hp n I J ex)) = zz_ck (zz_in v (zz_ary n a)) (zz_Run zz_prog d 105 (9, [l0, l1, l2, l3, l4], .int (I a v.toNatClampNeg) :: st, k, (zz_hp n I J ex))) := zz_k_iald f105_8 ha
theorem f105_9 : zz_fetch zz_prog 105 9 = some (.ifCond .ne 7, 3, [16], []) := zz_fetch_of p105 rfl rfl
theorem s105_9 : zz_Run zz_prog d 105 (9, [l0, l1, l2, l3, l4], .int v :: st, k, h) = if ¬ v = 0 then zz_Run zz_prog d 105 (16, [l0, l1, l2, l3, l4], st, k, h) else zz_Run zz_prog d 105 (12, [l0, l1, l2, l3, l4], st, k, h) := zz_k_br (¬ v = 0) rfl (zz_k_num f105_9 rfl)
theorem f105_12 : zz_fetch zz_prog 105 12 = some (.iconst 1, 1, [], []) := zz_fetch_of p105 rfl rfl
theorem s105_12 : zz_Run zz_prog d 105 (12, [l0, l1, l2, l3, l4], st, k, h) = zz_Run zz_prog d 105 (13, [l0, l1, l2, l3, l4], .int 1 :: st, k, h) := zz_k_num f105_12 rfl
theorem f105_13 : zz_fetch zz_prog 105 13 = some (.goto 4, 3, [17], []) := zz_fetch_of p105 rfl rfl
theorem s105_13 : zz_Run zz_prog d 105 (13, [l0, l1, l2, l3, l4], st, k, h) = zz_Run zz_prog d 105 (17, [l0, l1, l2, l3, l4], st, k, h) := zz_k_num f105_13 rfl
theorem f105_16 : zz_fetch zz_prog 105 16 = some (.iconst 0, 1, [], []) := zz_fetch_of p105 rfl rfl
theorem s105_16 : zz_Run zz_prog d 105 (16, [l0, l1, l2, l3, l4], st, k, h) = zz_Run zz_prog d 105 (17, [l0, l1, l2, l3, l4], .int 0 :: st, k, h) := zz_k_num f105_16 rfl
theorem f105_17 : zz_fetch zz_prog 105 17 = some (.istore_n 2, 1, [], []) := zz_fetch_of p105 rfl rfl
theorem s105_17 : zz_Run zz_prog d 105 (17, [l0, l1, l2, l3, l4], .int v :: st, k, h) = zz_sl l1 (zz_Run zz_prog d 105 (18, [l0, l1, some (.int v), l3, l4], st, k, h)) := zz_k_st (j := 2) (u := .int v) f105_17 rfl (fun q hq => by cases hq) rfl (show 2 < 5 by decide) (by cases l1 <;> rfl) rfl
theorem f105_18 : zz_fetch zz_prog 105 18 = some (.iconst 0, 1, [], []) := zz_fetch_of p105 rfl rfl
theorem s105_18 : zz_Run zz_prog d 105 (18, [l0, l1, l2, l3, l4], st, k, h) = zz_Run zz_prog d 105 (19, [l0, l1, l2, l3, l4], .int 0 :: st, k, h) := zz_k_num f105_18 rfl
theorem f105_19 : zz_fetch zz_prog 105 19 = some (.istore_n 3, 1, [], []) := zz_fetch_of p105 rfl rfl
theorem s105_19 : zz_Run zz_prog d 105 (19, [l0, l1, l2, l3, l4], .int v :: st, k, h) = zz_sl l2 (zz_Run zz_prog d 105 (20, [l0, l1, l2, some (.int v), l4], st, k, h)) := zz_k_st (j := 3) (u := .int v) f105_19 rfl (fun q hq => by cases hq) rfl (show 3 < 5 by decide) (by cases l2 <;> rfl) rfl
theorem f105_20 : zz_fetch zz_prog 105 20 = some (.iload_n 3, 1, [], []) := zz_fetch_of p105 rfl rfl
theorem s105_20 : zz_Run zz_prog d 105 (20, [l0, l1, l2, some (.int v), l4], st, k, h) = zz_Run zz_prog d 105 (21, [l0, l1, l2, some (.int v), l4], .int v :: st, k, h) := zz_k_num f105_20 rfl
theorem f105_21 : zz_fetch zz_prog 105 21 = some (.bipush 72, 2, [], []) := zz_fetch_of p105 rfl rfl
theorem s105_21 : zz_Run zz_prog d 105 (21, [l0, l1, l2, l3, l4], st, k, h) = zz_Run zz_prog d 105 (23, [l0, l1, l2, l3, l4], .int 72 :: st, k, h) := zz_k_num f105_21 (congrArg (fun u => some (23, [l0, l1, l2, l3, l4], Value.int u :: st)) (by decide : (Int8.ofInt 72).toInt32 = 72))
theorem f105_23 : zz_fetch zz_prog 105 23 = some (.if_icmp .ge 73, 3, [96], []) := zz_fetch_of p105 rfl rfl
theorem s105_23 : zz_Run zz_prog d 105 (23, [l0, l1, l2, l3, l4], .int w :: .int v :: st, k, h) = if w ≤ v then zz_Run zz_prog d 105 (96, [l0, l1, l2, l3, l4], st, k, h) else zz_Run zz_prog d 105 (26, [l0, l1, l2, l3, l4], st, k, h) := zz_k_br (w ≤ v) rfl (zz_k_num f105_23 rfl)
theorem f105_26 : zz_fetch zz_prog 105 26 = some (.aload_n 0, 1, [], []) := zz_fetch_of p105 rfl rfl
theorem s105_26 : zz_Run zz_prog d 105 (26, [some (.ref a), l1, l2, l3, l4], st, k, h) = zz_Run zz_prog d 105 (27, [some (.ref a), l1, l2, l3, l4], .ref a :: st, k, h) := zz_k_num f105_26 rfl
theorem f105_27 : zz_fetch zz_prog 105 27 = some (.getfield 22, 3, [2, 6, 3], []) := zz_fetch_of p105 rfl rfl
theorem s105_27 : zz_Run zz_prog d 105 (27, [l0, l1, l2, l3, l4], .ref 23 :: st, k, (zz_hp n I J ex)) = zz_Run zz_prog d 105 (30, [l0, l1, l2, l3, l4], .ref 28 :: st, k, (zz_hp n I J ex)) := zz_k_go f105_27 rfl rfl rfl
theorem f105_30 : zz_fetch zz_prog 105 30 = some (.iload_n 3, 1, [], []) := zz_fetch_of p105 rfl rfl
theorem s105_30 : zz_Run zz_prog d 105 (30, [l0, l1, l2, some (.int v), l4], st, k, h) = zz_Run zz_prog d 105 (31, [l0, l1, l2, some (.int v), l4], .int v :: st, k, h) := zz_k_num f105_30 rfl
theorem f105_31 : zz_fetch zz_prog 105 31 = some (.iaload, 1, [], []) := zz_fetch_of p105 rfl rfl
theorem s105_31 (ha : zz_isrd a = true) : zz_Run zz_prog d 105 (31, [l0, l1, l2, l3, l4], .int v :: .ref a :: st, k, (zz_hp n I J ex)) = zz_ck (zz_in v (zz_ary n a)) (zz_Run zz_prog d 105 (32, [l0, l1, l2, l3, l4], .int (I a v.toNatClampNeg) :: st, k, (zz_hp n I J ex))) := zz_k_iald f105_31 ha
theorem f105_32 : zz_fetch zz_prog 105 32 = some (.iload_n 1, 1, [], []) := zz_fetch_of p105 rfl rfl
theorem s105_32 : zz_Run zz_prog d 105 (32, [l0, some (.int v), l2, l3, l4], st, k, h) = zz_Run zz_prog d 105 (33, [l0, some (.int v), l2, l3, l4], .int v :: st, k, h) := zz_k_num f105_32 rfl
theorem f105_33 : zz_fetch zz_prog 105 33 = some (.if_icmp .ne 12, 3, [45], []) := zz_fetch_of p105 rfl rfl
theorem s105_33 : zz_Run zz_prog d 105 (33, [l0, l1, l2, l3, l4], .int w :: .int v :: st, k, h) = if ¬ v = w then zz_Run zz_prog d 105 (45, [l0, l1, l2, l3, l4], st, k, h) else zz_Run zz_prog d 105 (36, [l0, l1, l2, l3, l4], st, k, h) := zz_k_br (¬ v = w) rfl (zz_k_num f105_33 rfl)
theorem f105_36 : zz_fetch zz_prog 105 36 = some (.aload_n 0, 1, [], []) := zz_fetch_of p105 rfl rfl
theorem s105_36 : zz_Run zz_prog d 105 (36, [some (.ref a), l1, l2, l3, l4], st, k, h) = zz_Run zz_prog d 105 (37, [some (.ref a), l1, l2, l3, l4], .ref a :: st, k, h) := zz_k_num f105_36 rfl
theorem f105_37 : zz_fetch zz_prog 105 37 = some (.getfield 25, 3, [2, 7, 3], []) := zz_fetch_of p105 rfl rfl
theorem s105_37 : zz_Run zz_prog d 105 (37, [l0, l1, l2, l3, l4], .ref 23 :: st, k, (zz_hp n I J ex)) = zz_Run zz_prog d 105 (40, [l0, l1, l2, l3, l4], .ref 29 :: st, k, (zz_hp n I J ex)) := zz_k_go f105_37 rfl rfl rfl
theorem f105_40 : zz_fetch zz_prog 105 40 = some (.iload_n 3, 1, [], []) := zz_fetch_of p105 rfl rfl
theorem s105_40 : zz_Run zz_prog d 105 (40, [l0, l1, l2, some (.int v), l4], st, k, h) = zz_Run zz_prog d 105 (41, [l0, l1, l2, some (.int v), l4], .int v :: st, k, h) := zz_k_num f105_40 rfl
theorem f105_41 : zz_fetch zz_prog 105 41 = some (.iaload, 1, [], []) := zz_fetch_of p105 rfl rfl
theorem s105_41 (ha : zz_isrd a = true) : zz_Run zz_prog d 105 (41, [l0, l1, l2, l3, l4], .int v :: .ref a :: st, k, (zz_hp n I J ex)) = zz_ck (zz_in v (zz_ary n a)) (zz_Run zz_prog d 105 (42, [l0, l1, l2, l3, l4], .int (I a v.toNatClampNeg) :: st, k, (zz_hp n I J ex))) := zz_k_iald f105_41 ha
theorem f105_42 : zz_fetch zz_prog 105 42 = some (.goto 23, 3, [65], []) := zz_fetch_of p105 rfl rfl
theorem s105_42 : zz_Run zz_prog d 105 (42, [l0, l1, l2, l3, l4], st, k, h) = zz_Run zz_prog d 105 (65, [l0, l1, l2, l3, l4], st, k, h) := zz_k_num f105_42 rfl
theorem f105_45 : zz_fetch zz_prog 105 45 = some (.aload_n 0, 1, [], []) := zz_fetch_of p105 rfl rfl
theorem s105_45 : zz_Run zz_prog d 105 (45, [some (.ref a), l1, l2, l3, l4], st, k, h) = zz_Run zz_prog d 105 (46, [some (.ref a), l1, l2, l3, l4], .ref a :: st, k, h) := zz_k_num f105_45 rfl
theorem f105_46 : zz_fetch zz_prog 105 46 = some (.getfield 25, 3, [2, 7, 3], []) := zz_fetch_of p105 rfl rfl
theorem s105_46 : zz_Run zz_prog d 105 (46, [l0, l1, l2, l3, l4], .ref 23 :: st, k, (zz_hp n I J ex)) = zz_Run zz_prog d 105 (49, [l0, l1, l2, l3, l4], .ref 29 :: st, k, (zz_hp n I J ex)) := zz_k_go f105_46 rfl rfl rfl
theorem f105_49 : zz_fetch zz_prog 105 49 = some (.iload_n 3, 1, [], []) := zz_fetch_of p105 rfl rfl
theorem s105_49 : zz_Run zz_prog d 105 (49, [l0, l1, l2, some (.int v), l4], st, k, h) = zz_Run zz_prog d 105 (50, [l0, l1, l2, some (.int v), l4], .int v :: st, k, h) := zz_k_num f105_49 rfl
theorem f105_50 : zz_fetch zz_prog 105 50 = some (.iaload, 1, [], []) := zz_fetch_of p105 rfl rfl
theorem s105_50 (ha : zz_isrd a = true) : zz_Run zz_prog d 105 (50, [l0, l1, l2, l3, l4], .int v :: .ref a :: st, k, (zz_hp n I J ex)) = zz_ck (zz_in v (zz_ary n a)) (zz_Run zz_prog d 105 (51, [l0, l1, l2, l3, l4], .int (I a v.toNatClampNeg) :: st, k, (zz_hp n I J ex))) := zz_k_iald f105_50 ha
theorem f105_51 : zz_fetch zz_prog 105 51 = some (.iload_n 1, 1, [], []) := zz_fetch_of p105 rfl rfl
theorem s105_51 : zz_Run zz_prog d 105 (51, [l0, some (.int v), l2, l3, l4], st, k, h) = zz_Run zz_prog d 105 (52, [l0, some (.int v), l2, l3, l4], .int v :: st, k, h) := zz_k_num f105_51 rfl
theorem f105_52 : zz_fetch zz_prog 105 52 = some (.if_icmp .ne 12, 3, [64], []) := zz_fetch_of p105 rfl rfl
theorem s105_52 : zz_Run zz_prog d 105 (52, [l0, l1, l2, l3, l4], .int w :: .int v :: st, k, h) = if ¬ v = w then zz_Run zz_prog d 105 (64, [l0, l1, l2, l3, l4], st, k, h) else zz_Run zz_prog d 105 (55, [l0, l1, l2, l3, l4], st, k, h) := zz_k_br (¬ v = w) rfl (zz_k_num f105_52 rfl)
theorem f105_55 : zz_fetch zz_prog 105 55 = some (.aload_n 0, 1, [], []) := zz_fetch_of p105 rfl rfl
theorem s105_55 : zz_Run zz_prog d 105 (55, [some (.ref a), l1, l2, l3, l4], st, k, h) = zz_Run zz_prog d 105 (56, [some (.ref a), l1, l2, l3, l4], .ref a :: st, k, h) := zz_k_num f105_55 rfl
theorem f105_56 : zz_fetch zz_prog 105 56 = some (.getfield 22, 3, [2, 6, 3], []) := zz_fetch_of p105 rfl rfl
theorem s105_56 : zz_Run zz_prog d 105 (56, [l0, l1, l2, l3, l4], .ref 23 :: st, k, (zz_hp n I J ex)) = zz_Run zz_prog d 105 (59, [l0, l1, l2, l3, l4], .ref 28 :: st, k, (zz_hp n I J ex)) := zz_k_go f105_56 rfl rfl rfl
theorem f105_59 : zz_fetch zz_prog 105 59 = some (.iload_n 3, 1, [], []) := zz_fetch_of p105 rfl rfl
theorem s105_59 : zz_Run zz_prog d 105 (59, [l0, l1, l2, some (.int v), l4], st, k, h) = zz_Run zz_prog d 105 (60, [l0, l1, l2, some (.int v), l4], .int v :: st, k, h) := zz_k_num f105_59 rfl
theorem f105_60 : zz_fetch zz_prog 105 60 = some (.iaload, 1, [], []) := zz_fetch_of p105 rfl rfl
theorem s105_60 (ha : zz_isrd a = true) : zz_Run zz_prog d 105 (60, [l0, l1, l2, l3, l4], .int v :: .ref a :: st, k, (zz_hp n I J ex)) = zz_ck (zz_in v (zz_ary n a)) (zz_Run zz_prog d 105 (61, [l0, l1, l2, l3, l4], .int (I a v.toNatClampNeg) :: st, k, (zz_hp n I J ex))) := zz_k_iald f105_60 ha
theorem f105_61 : zz_fetch zz_prog 105 61 = some (.goto 4, 3, [65], []) := zz_fetch_of p105 rfl rfl
theorem s105_61 : zz_Run zz_prog d 105 (61, [l0, l1, l2, l3, l4], st, k, h) = zz_Run zz_prog d 105 (65, [l0, l1, l2, l3, l4], st, k, h) := zz_k_num f105_61 rfl
theorem f105_64 : zz_fetch zz_prog 105 64 = some (.iload_n 1, 1, [], []) := zz_fetch_of p105 rfl rfl
theorem s105_64 : zz_Run zz_prog d 105 (64, [l0, some (.int v), l2, l3, l4], st, k, h) = zz_Run zz_prog d 105 (65, [l0, some (.int v), l2, l3, l4], .int v :: st, k, h) := zz_k_num f105_64 rfl
theorem f105_65 : zz_fetch zz_prog 105 65 = some (.istore 4, 2, [], []) := zz_fetch_of p105 rfl rfl
theorem s105_65 : zz_Run zz_prog d 105 (65, [l0, l1, l2, l3, l4], .int v :: st, k, h) = zz_sl l3 (zz_Run zz_prog d 105 (67, [l0, l1, l2, l3, some (.int v)], st, k, h)) := zz_k_st (j := 4) (u := .int v) f105_65 rfl (fun q hq => by cases hq) rfl (show 4 < 5 by decide) (by cases l3 <;> rfl) rfl
theorem f105_67 : zz_fetch zz_prog 105 67 = some (.iload_n 2, 1, [], []) := zz_fetch_of p105 rfl rfl
theorem s105_67 : zz_Run zz_prog d 105 (67, [l0, l1, some (.int v), l3, l4], st, k, h) = zz_Run zz_prog d 105 (68, [l0, l1, some (.int v), l3, l4], .int v :: st, k, h) := zz_k_num f105_67 rfl
theorem f105_68 : zz_fetch zz_prog 105 68 = some (.ifCond .eq 20, 3, [88], []) := zz_fetch_of p105 rfl rfl
theorem s105_68 : zz_Run zz_prog d 105 (68, [l0, l1, l2, l3, l4], .int v :: st, k, h) = if v = 0 then zz_Run zz_prog d 105 (88, [l0, l1, l2, l3, l4], st, k, h) else zz_Run zz_prog d 105 (71, [l0, l1, l2, l3, l4], st, k, h) := zz_k_br (v = 0) rfl (zz_k_num f105_68 rfl)
theorem f105_71 : zz_fetch zz_prog 105 71 = some (.aload_n 0, 1, [], []) := zz_fetch_of p105 rfl rfl
theorem s105_71 : zz_Run zz_prog d 105 (71, [some (.ref a), l1, l2, l3, l4], st, k, h) = zz_Run zz_prog d 105 (72, [some (.ref a), l1, l2, l3, l4], .ref a :: st, k, h) := zz_k_num f105_71 rfl
theorem f105_72 : zz_fetch zz_prog 105 72 = some (.getfield 7, 3, [2, 1, 3], []) := zz_fetch_of p105 rfl rfl
theorem s105_72 : zz_Run zz_prog d 105 (72, [l0, l1, l2, l3, l4], .ref 23 :: st, k, (zz_hp n I J ex)) = zz_Run zz_prog d 105 (75, [l0, l1, l2, l3, l4], .ref 24 :: st, k, (zz_hp n I J ex)) := zz_k_go f105_72 rfl rfl rfl
theorem f105_75 : zz_fetch zz_prog 105 75 = some (.bipush 72, 2, [], []) := zz_fetch_of p105 rfl rfl
theorem s105_75 : zz_Run zz_prog d 105 (75, [l0, l1, l2, l3, l4], st, k, h) = zz_Run zz_prog d 105 (77, [l0, l1, l2, l3, l4], .int 72 :: st, k, h) := zz_k_num f105_75 (congrArg (fun u => some (77, [l0, l1, l2, l3, l4], Value.int u :: st)) (by decide : (Int8.ofInt 72).toInt32 = 72))
theorem f105_77 : zz_fetch zz_prog 105 77 = some (.iload 4, 2, [], []) := zz_fetch_of p105 rfl rfl
theorem s105_77 : zz_Run zz_prog d 105 (77, [l0, l1, l2, l3, some (.int v)], st, k, h) = zz_Run zz_prog d 105 (79, [l0, l1, l2, l3, some (.int v)], .int v :: st, k, h) := zz_k_num f105_77 rfl
theorem f105_79 : zz_fetch zz_prog 105 79 = some (.iadd, 1, [], []) := zz_fetch_of p105 rfl rfl
theorem s105_79 : zz_Run zz_prog d 105 (79, [l0, l1, l2, l3, l4], .int w :: .int v :: st, k, h) = zz_Run zz_prog d 105 (80, [l0, l1, l2, l3, l4], .int (v + w) :: st, k, h) := zz_k_num f105_79 rfl
theorem f105_80 : zz_fetch zz_prog 105 80 = some (.iaload, 1, [], []) := zz_fetch_of p105 rfl rfl
theorem s105_80 (ha : zz_isrd a = true) : zz_Run zz_prog d 105 (80, [l0, l1, l2, l3, l4], .int v :: .ref a :: st, k, (zz_hp n I J ex)) = zz_ck (zz_in v (zz_ary n a)) (zz_Run zz_prog d 105 (81, [l0, l1, l2, l3, l4], .int (I a v.toNatClampNeg) :: st, k, (zz_hp n I J ex))) := zz_k_iald f105_80 ha
theorem f105_81 : zz_fetch zz_prog 105 81 = some (.ifCond .ne 7, 3, [88], []) := zz_fetch_of p105 rfl rfl
theorem s105_81 : zz_Run zz_prog d 105 (81, [l0, l1, l2, l3, l4], .int v :: st, k, h) = if ¬ v = 0 then zz_Run zz_prog d 105 (88, [l0, l1, l2, l3, l4], st, k, h) else zz_Run zz_prog d 105 (84, [l0, l1, l2, l3, l4], st, k, h) := zz_k_br (¬ v = 0) rfl (zz_k_num f105_81 rfl)
theorem f105_84 : zz_fetch zz_prog 105 84 = some (.iconst 1, 1, [], []) := zz_fetch_of p105 rfl rfl
theorem s105_84 : zz_Run zz_prog d 105 (84, [l0, l1, l2, l3, l4], st, k, h) = zz_Run zz_prog d 105 (85, [l0, l1, l2, l3, l4], .int 1 :: st, k, h) := zz_k_num f105_84 rfl
theorem f105_85 : zz_fetch zz_prog 105 85 = some (.goto 4, 3, [89], []) := zz_fetch_of p105 rfl rfl
theorem s105_85 : zz_Run zz_prog d 105 (85, [l0, l1, l2, l3, l4], st, k, h) = zz_Run zz_prog d 105 (89, [l0, l1, l2, l3, l4], st, k, h) := zz_k_num f105_85 rfl
theorem f105_88 : zz_fetch zz_prog 105 88 = some (.iconst 0, 1, [], []) := zz_fetch_of p105 rfl rfl
theorem s105_88 : zz_Run zz_prog d 105 (88, [l0, l1, l2, l3, l4], st, k, h) = zz_Run zz_prog d 105 (89, [l0, l1, l2, l3, l4], .int 0 :: st, k, h) := zz_k_num f105_88 rfl
theorem f105_89 : zz_fetch zz_prog 105 89 = some (.istore_n 2, 1, [], []) := zz_fetch_of p105 rfl rfl
theorem s105_89 : zz_Run zz_prog d 105 (89, [l0, l1, l2, l3, l4], .int v :: st, k, h) = zz_sl l1 (zz_Run zz_prog d 105 (90, [l0, l1, some (.int v), l3, l4], st, k, h)) := zz_k_st (j := 2) (u := .int v) f105_89 rfl (fun q hq => by cases hq) rfl (show 2 < 5 by decide) (by cases l1 <;> rfl) rfl
theorem f105_90 : zz_fetch zz_prog 105 90 = some (.iinc 3 1, 3, [], []) := zz_fetch_of p105 rfl rfl
theorem s105_90 : zz_Run zz_prog d 105 (90, [l0, l1, l2, some (.int v), l4], st, k, h) = zz_sl l2 (zz_Run zz_prog d 105 (93, [l0, l1, l2, some (.int (v + 1)), l4], st, k, h)) := zz_k_st (j := 3) (u := .int (v + 1)) f105_90 rfl (fun q hq => by cases hq) rfl (show 3 < 5 by decide) (by cases l2 <;> rfl) rfl
theorem f105_93 : zz_fetch zz_prog 105 93 = some (.goto (-73), 3, [20], []) := zz_fetch_of p105 rfl rfl
theorem s105_93 : zz_Run zz_prog d 105 (93, [l0, l1, l2, l3, l4], st, k, h) = zz_Run zz_prog d 105 (20, [l0, l1, l2, l3, l4], st, k, h) := zz_k_num f105_93 rfl
theorem f105_96 : zz_fetch zz_prog 105 96 = some (.iload_n 2, 1, [], []) := zz_fetch_of p105 rfl rfl
theorem s105_96 : zz_Run zz_prog d 105 (96, [l0, l1, some (.int v), l3, l4], st, k, h) = zz_Run zz_prog d 105 (97, [l0, l1, some (.int v), l3, l4], .int v :: st, k, h) := zz_k_num f105_96 rfl
theorem f105_97 : zz_fetch zz_prog 105 97 = some (.ireturn, 1, [1], []) := zz_fetch_of p105 rfl rfl
theorem s105_97 : zz_Run zz_prog d 105 (97, [l0, l1, l2, l3, l4], [.int v], k, h) = zz_ck (decide (v = 0 ∨ v = 1)) (some (.inl (some (.int v)), k, h)) := zz_k_retz f105_97
end S105
section S106
variable {d n j : Nat} {l0 l1 l2 : Option Value} {st : List Value} {k : Bool} {h : zz_H} {v w v1 v2 : Int32} {y y1 : Int64} {a a1 a2 : Nat} {b0 b1 b2 b3 b4 b5 b6 b7 b8 : Value} {I : Nat → Nat → Int32} {J : Nat → Nat → Int64} {ex : List (Nat × Nat)}
theorem p106 : zz_prog 106 = some zz_m106 := rfl
theorem e106 (g0 : Nat) (g1 : Int32) (g2 : Int32) : zz_Call zz_prog (d + 1) 106 [.ref g0, .int g1, .int g2] h = zz_Run zz_prog d 106 (0, [some (.ref g0), some (.int g1), some (.int g2)], [], true, h) := rfl
theorem t106 (pc : Nat) (L : List (Option Value)) : zz_th d 106 pc a L k h = some (.inr a, k, h) := zz_th_out p106 rfl
theorem f106_0 : zz_fetch zz_prog 106 0 = some (.aload_n 0, 1, [], []) := zz_fetch_of p106 rfl rfl
theorem s106_0 : zz_Run zz_prog d 106 (0, [some (.ref a), l1, l2], st, k, h) = zz_Run zz_prog d 106 (1, [some (.ref a), l1, l2], .ref a :: st, k, h) := zz_k_num f106_0 rfl
theorem f106_1 : zz_fetch zz_prog 106 1 = some (.iload_n 1, 1, [], []) := zz_fetch_of p106 rfl rfl
theorem s106_1 : zz_Run zz_prog d 106 (1, [l0, some (.int v), l2], st, k, h) = zz_Run zz_prog d 106 (2, [l0, some (.int v), l2], .int v :: st, k, h) := zz_k_num f106_1 rfl
theorem f106_2 : zz_fetch zz_prog 106 2 = some (.iload_n 2, 1, [], []) := zz_fetch_of p106 rfl rfl
theorem s106_2 : zz_Run zz_prog d 106 (2, [l0, l1, some (.int v)], st, k, h) = zz_Run zz_prog d 106 (3, [l0, l1, some (.int v)], .int v :: st, k, h) := zz_k_num f106_2 rfl
theorem f106_3 : zz_fetch zz_prog 106 3 = some (.invokevirtual 111, 3, [0, 101, 3, 2], []) := zz_fetch_of p106 rfl rfl
theorem s106_3 : zz_Run zz_prog d 106 (3, [l0, l1, l2], [b0, b1, .ref 23], k, (zz_hp n I J ex)) = zz_ret (zz_Call zz_prog d 101 [.ref 23, b1, b0] (zz_hp n I J ex)) (fun v k' h' => zz_Run zz_prog d 106 (6, [l0, l1, l2], v.toList ++ [], k && k', h')) (fun a k' h' => zz_th d 106 3 a [l0, l1, l2] (k && k') h') := zz_k_call f106_3 rfl rfl rfl
theorem f106_6 : zz_fetch zz_prog 106 6 = some (.ifCond .ne 24, 3, [30], []) := zz_fetch_of p106 rfl rfl
theorem s106_6 : zz_Run zz_prog d 106 (6, [l0, l1, l2], .int v :: st, k, h) = if ¬ v = 0 then zz_Run zz_prog d 106 (30, [l0, l1, l2], st, k, h) else zz_Run zz_prog d 106 (9, [l0, l1, l2], st, k, h) := zz_k_br (¬ v = 0) rfl (zz_k_num f106_6 rfl)
theorem f106_9 : zz_fetch zz_prog 106 9 = some (.aload_n 0, 1, [], []) := zz_fetch_of p106 rfl rfl
theorem s106_9 : zz_Run zz_prog d 106 (9, [some (.ref a), l1, l2], st, k, h) = zz_Run zz_prog d 106 (10, [some (.ref a), l1, l2], .ref a :: st, k, h) := zz_k_num f106_9 rfl
theorem f106_10 : zz_fetch zz_prog 106 10 = some (.getfield 7, 3, [2, 1, 3], []) := zz_fetch_of p106 rfl rfl
theorem s106_10 : zz_Run zz_prog d 106 (10, [l0, l1, l2], .ref 23 :: st, k, (zz_hp n I J ex)) = zz_Run zz_prog d 106 (13, [l0, l1, l2], .ref 24 :: st, k, (zz_hp n I J ex)) := zz_k_go f106_10 rfl rfl rfl
theorem f106_13 : zz_fetch zz_prog 106 13 = some (.bipush 72, 2, [], []) := zz_fetch_of p106 rfl rfl
theorem s106_13 : zz_Run zz_prog d 106 (13, [l0, l1, l2], st, k, h) = zz_Run zz_prog d 106 (15, [l0, l1, l2], .int 72 :: st, k, h) := zz_k_num f106_13 (congrArg (fun u => some (15, [l0, l1, l2], Value.int u :: st)) (by decide : (Int8.ofInt 72).toInt32 = 72))
theorem f106_15 : zz_fetch zz_prog 106 15 = some (.iload_n 1, 1, [], []) := zz_fetch_of p106 rfl rfl
theorem s106_15 : zz_Run zz_prog d 106 (15, [l0, some (.int v), l2], st, k, h) = zz_Run zz_prog d 106 (16, [l0, some (.int v), l2], .int v :: st, k, h) := zz_k_num f106_15 rfl
theorem f106_16 : zz_fetch zz_prog 106 16 = some (.iadd, 1, [], []) := zz_fetch_of p106 rfl rfl
theorem s106_16 : zz_Run zz_prog d 106 (16, [l0, l1, l2], .int w :: .int v :: st, k, h) = zz_Run zz_prog d 106 (17, [l0, l1, l2], .int (v + w) :: st, k, h) := zz_k_num f106_16 rfl
theorem f106_17 : zz_fetch zz_prog 106 17 = some (.iaload, 1, [], []) := zz_fetch_of p106 rfl rfl
theorem s106_17 (ha : zz_isrd a = true) : zz_Run zz_prog d 106 (17, [l0, l1, l2], .int v :: .ref a :: st, k, (zz_hp n I J ex)) = zz_ck (zz_in v (zz_ary n a)) (zz_Run zz_prog d 106 (18, [l0, l1, l2], .int (I a v.toNatClampNeg) :: st, k, (zz_hp n I J ex))) := zz_k_iald f106_17 ha
theorem f106_18 : zz_fetch zz_prog 106 18 = some (.ifCond .ne 16, 3, [34], []) := zz_fetch_of p106 rfl rfl
theorem s106_18 : zz_Run zz_prog d 106 (18, [l0, l1, l2], .int v :: st, k, h) = if ¬ v = 0 then zz_Run zz_prog d 106 (34, [l0, l1, l2], st, k, h) else zz_Run zz_prog d 106 (21, [l0, l1, l2], st, k, h) := zz_k_br (¬ v = 0) rfl (zz_k_num f106_18 rfl)
theorem f106_21 : zz_fetch zz_prog 106 21 = some (.aload_n 0, 1, [], []) := zz_fetch_of p106 rfl rfl
theorem s106_21 : zz_Run zz_prog d 106 (21, [some (.ref a), l1, l2], st, k, h) = zz_Run zz_prog d 106 (22, [some (.ref a), l1, l2], .ref a :: st, k, h) := zz_k_num f106_21 rfl
theorem f106_22 : zz_fetch zz_prog 106 22 = some (.iload_n 1, 1, [], []) := zz_fetch_of p106 rfl rfl
theorem s106_22 : zz_Run zz_prog d 106 (22, [l0, some (.int v), l2], st, k, h) = zz_Run zz_prog d 106 (23, [l0, some (.int v), l2], .int v :: st, k, h) := zz_k_num f106_22 rfl
theorem f106_23 : zz_fetch zz_prog 106 23 = some (.iload_n 2, 1, [], []) := zz_fetch_of p106 rfl rfl
theorem s106_23 : zz_Run zz_prog d 106 (23, [l0, l1, some (.int v)], st, k, h) = zz_Run zz_prog d 106 (24, [l0, l1, some (.int v)], .int v :: st, k, h) := zz_k_num f106_23 rfl
theorem f106_24 : zz_fetch zz_prog 106 24 = some (.invokevirtual 114, 3, [0, 104, 3, 2], []) := zz_fetch_of p106 rfl rfl
theorem s106_24 : zz_Run zz_prog d 106 (24, [l0, l1, l2], [b0, b1, .ref 23], k, (zz_hp n I J ex)) = zz_ret (zz_Call zz_prog d 104 [.ref 23, b1, b0] (zz_hp n I J ex)) (fun v k' h' => zz_Run zz_prog d 106 (27, [l0, l1, l2], v.toList ++ [], k && k', h')) (fun a k' h' => zz_th d 106 24 a [l0, l1, l2] (k && k') h') := zz_k_call f106_24 rfl rfl rfl
theorem f106_27 : zz_fetch zz_prog 106 27 = some (.ifCond .eq 7, 3, [34], []) := zz_fetch_of p106 rfl rfl
theorem s106_27 : zz_Run zz_prog d 106 (27, [l0, l1, l2], .int v :: st, k, h) = if v = 0 then zz_Run zz_prog d 106 (34, [l0, l1, l2], st, k, h) else zz_Run zz_prog d 106 (30, [l0, l1, l2], st, k, h) := zz_k_br (v = 0) rfl (zz_k_num f106_27 rfl)
theorem f106_30 : zz_fetch zz_prog 106 30 = some (.iconst 1, 1, [], []) := zz_fetch_of p106 rfl rfl
theorem s106_30 : zz_Run zz_prog d 106 (30, [l0, l1, l2], st, k, h) = zz_Run zz_prog d 106 (31, [l0, l1, l2], .int 1 :: st, k, h) := zz_k_num f106_30 rfl
theorem f106_31 : zz_fetch zz_prog 106 31 = some (.goto 4, 3, [35], []) := zz_fetch_of p106 rfl rfl
theorem s106_31 : zz_Run zz_prog d 106 (31, [l0, l1, l2], st, k, h) = zz_Run zz_prog d 106 (35, [l0, l1, l2], st, k, h) := zz_k_num f106_31 rfl
theorem f106_34 : zz_fetch zz_prog 106 34 = some (.iconst 0, 1, [], []) := zz_fetch_of p106 rfl rfl
theorem s106_34 : zz_Run zz_prog d 106 (34, [l0, l1, l2], st, k, h) = zz_Run zz_prog d 106 (35, [l0, l1, l2], .int 0 :: st, k, h) := zz_k_num f106_34 rfl
theorem f106_35 : zz_fetch zz_prog 106 35 = some (.ireturn, 1, [1], []) := zz_fetch_of p106 rfl rfl
theorem s106_35 : zz_Run zz_prog d 106 (35, [l0, l1, l2], [.int v], k, h) = zz_ck (decide (v = 0 ∨ v = 1)) (some (.inl (some (.int v)), k, h)) := zz_k_retz f106_35
end S106
section S107
variable {d n j : Nat} {l0 l1 l2 l3 l4 l5 : Option Value} {st : List Value} {k : Bool} {h : zz_H} {v w v1 v2 : Int32} {y y1 : Int64} {a a1 a2 : Nat} {b0 b1 b2 b3 b4 b5 b6 b7 b8 : Value} {I : Nat → Nat → Int32} {J : Nat → Nat → Int64} {ex : List (Nat × Nat)}
theorem p107 : zz_prog 107 = some zz_m107 := rfl
theorem e107 (g0 : Nat) (g1 : Int32) (g2 : Int32) : zz_Call zz_prog (d + 1) 107 [.ref g0, .int g1, .int g2] h = zz_Run zz_prog d 107 (0, [some (.ref g0), some (.int g1), some (.int g2), none, none, none], [], true, h) := rfl
theorem t107 (pc : Nat) (L : List (Option Value)) : zz_th d 107 pc a L k h = some (.inr a, k, h) := zz_th_out p107 rfl
theorem f107_0 : zz_fetch zz_prog 107 0 = some (.aload_n 0, 1, [], []) := zz_fetch_of p107 rfl rfl
theorem s107_0 : zz_Run zz_prog d 107 (0, [some (.ref a), l1, l2, l3, l4, l5], st, k, h) = zz_Run zz_prog d 107 (1, [some (.ref a), l1, l2, l3, l4, l5], .ref a :: st, k, h) := zz_k_num f107_0 rfl
theorem f107_1 : zz_fetch zz_prog 107 1 = some (.getfield 7, 3, [2, 1, 3], []) := zz_fetch_of p107 rfl rfl
theorem s107_1 : zz_Run zz_prog d 107 (1, [l0, l1, l2, l3, l4, l5], .ref 23 :: st, k, (zz_hp n I J ex)) = zz_Run zz_prog d 107 (4, [l0, l1, l2, l3, l4, l5], .ref 24 :: st, k, (zz_hp n I J ex)) := zz_k_go f107_1 rfl rfl rfl
theorem f107_4 : zz_fetch zz_prog 107 4 = some (.sipush 181, 3, [], []) := zz_fetch_of p107 rfl rfl
theorem s107_4 : zz_Run zz_prog d 107 (4, [l0, l1, l2, l3, l4, l5], st, k, h) = zz_Run zz_prog d 107 (7, [l0, l1, l2, l3, l4, l5], .int 181 :: st, k, h) := zz_k_num f107_4 (congrArg (fun u => some (7, [l0, l1, l2, l3, l4, l5], Value.int u :: st)) (by decide : (Int16.ofInt 181).toInt32 = 181))
theorem f107_7 : zz_fetch zz_prog 107 7 = some (.iaload, 1, [], []) := zz_fetch_of p107 rfl rfl
theorem s107_7 (ha : zz_isrd a = true) : zz_Run zz_prog d 107 (7, [l0, l1, l2, l3, l4, l5], .int v :: .ref a :: st, k, (zz_hp n I J ex)) = zz_ck (zz_in v (zz_ary n a)) (zz_Run zz_prog d 107 (8, [l0, l1, l2, l3, l4, l5], .int (I a v.toNatClampNeg) :: st, k, (zz_hp n I J ex))) := zz_k_iald f107_7 ha
theorem f107_8 : zz_fetch zz_prog 107 8 = some (.istore_n 3, 1, [], []) := zz_fetch_of p107 rfl rfl
theorem s107_8 : zz_Run zz_prog d 107 (8, [l0, l1, l2, l3, l4, l5], .int v :: st, k, h) = zz_sl l2 (zz_Run zz_prog d 107 (9, [l0, l1, l2, some (.int v), l4, l5], st, k, h)) := zz_k_st (j := 3) (u := .int v) f107_8 rfl (fun q hq => by cases hq) rfl (show 3 < 6 by decide) (by cases l2 <;> rfl) rfl
theorem f107_9 : zz_fetch zz_prog 107 9 = some (.iload_n 1, 1, [], []) := zz_fetch_of p107 rfl rfl
theorem s107_9 : zz_Run zz_prog d 107 (9, [l0, some (.int v), l2, l3, l4, l5], st, k, h) = zz_Run zz_prog d 107 (10, [l0, some (.int v), l2, l3, l4, l5], .int v :: st, k, h) := zz_k_num f107_9 rfl
theorem f107_10 : zz_fetch zz_prog 107 10 = some (.ifCond .ne 121, 3, [131], []) := zz_fetch_of p107 rfl rfl
theorem s107_10 : zz_Run zz_prog d 107 (10, [l0, l1, l2, l3, l4, l5], .int v :: st, k, h) = if ¬ v = 0 then zz_Run zz_prog d 107 (131, [l0, l1, l2, l3, l4, l5], st, k, h) else zz_Run zz_prog d 107 (13, [l0, l1, l2, l3, l4, l5], st, k, h) := zz_k_br (¬ v = 0) rfl (zz_k_num f107_10 rfl)
theorem f107_13 : zz_fetch zz_prog 107 13 = some (.aload_n 0, 1, [], []) := zz_fetch_of p107 rfl rfl
theorem s107_13 : zz_Run zz_prog d 107 (13, [some (.ref a), l1, l2, l3, l4, l5], st, k, h) = zz_Run zz_prog d 107 (14, [some (.ref a), l1, l2, l3, l4, l5], .ref a :: st, k, h) := zz_k_num f107_13 rfl
theorem f107_14 : zz_fetch zz_prog 107 14 = some (.getfield 7, 3, [2, 1, 3], []) := zz_fetch_of p107 rfl rfl
theorem s107_14 : zz_Run zz_prog d 107 (14, [l0, l1, l2, l3, l4, l5], .ref 23 :: st, k, (zz_hp n I J ex)) = zz_Run zz_prog d 107 (17, [l0, l1, l2, l3, l4, l5], .ref 24 :: st, k, (zz_hp n I J ex)) := zz_k_go f107_14 rfl rfl rfl
theorem f107_17 : zz_fetch zz_prog 107 17 = some (.iconst 0, 1, [], []) := zz_fetch_of p107 rfl rfl
theorem s107_17 : zz_Run zz_prog d 107 (17, [l0, l1, l2, l3, l4, l5], st, k, h) = zz_Run zz_prog d 107 (18, [l0, l1, l2, l3, l4, l5], .int 0 :: st, k, h) := zz_k_num f107_17 rfl
theorem f107_18 : zz_fetch zz_prog 107 18 = some (.iload_n 2, 1, [], []) := zz_fetch_of p107 rfl rfl
theorem s107_18 : zz_Run zz_prog d 107 (18, [l0, l1, some (.int v), l3, l4, l5], st, k, h) = zz_Run zz_prog d 107 (19, [l0, l1, some (.int v), l3, l4, l5], .int v :: st, k, h) := zz_k_num f107_18 rfl
theorem f107_19 : zz_fetch zz_prog 107 19 = some (.iadd, 1, [], []) := zz_fetch_of p107 rfl rfl
theorem s107_19 : zz_Run zz_prog d 107 (19, [l0, l1, l2, l3, l4, l5], .int w :: .int v :: st, k, h) = zz_Run zz_prog d 107 (20, [l0, l1, l2, l3, l4, l5], .int (v + w) :: st, k, h) := zz_k_num f107_19 rfl
theorem f107_20 : zz_fetch zz_prog 107 20 = some (.iaload, 1, [], []) := zz_fetch_of p107 rfl rfl
theorem s107_20 (ha : zz_isrd a = true) : zz_Run zz_prog d 107 (20, [l0, l1, l2, l3, l4, l5], .int v :: .ref a :: st, k, (zz_hp n I J ex)) = zz_ck (zz_in v (zz_ary n a)) (zz_Run zz_prog d 107 (21, [l0, l1, l2, l3, l4, l5], .int (I a v.toNatClampNeg) :: st, k, (zz_hp n I J ex))) := zz_k_iald f107_20 ha
theorem f107_21 : zz_fetch zz_prog 107 21 = some (.ifCond .ne 7, 3, [28], []) := zz_fetch_of p107 rfl rfl
theorem s107_21 : zz_Run zz_prog d 107 (21, [l0, l1, l2, l3, l4, l5], .int v :: st, k, h) = if ¬ v = 0 then zz_Run zz_prog d 107 (28, [l0, l1, l2, l3, l4, l5], st, k, h) else zz_Run zz_prog d 107 (24, [l0, l1, l2, l3, l4, l5], st, k, h) := zz_k_br (¬ v = 0) rfl (zz_k_num f107_21 rfl)
theorem f107_24 : zz_fetch zz_prog 107 24 = some (.iconst 1, 1, [], []) := zz_fetch_of p107 rfl rfl
theorem s107_24 : zz_Run zz_prog d 107 (24, [l0, l1, l2, l3, l4, l5], st, k, h) = zz_Run zz_prog d 107 (25, [l0, l1, l2, l3, l4, l5], .int 1 :: st, k, h) := zz_k_num f107_24 rfl
theorem f107_25 : zz_fetch zz_prog 107 25 = some (.goto 4, 3, [29], []) := zz_fetch_of p107 rfl rfl
theorem s107_25 : zz_Run zz_prog d 107 (25, [l0, l1, l2, l3, l4, l5], st, k, h) = zz_Run zz_prog d 107 (29, [l0, l1, l2, l3, l4, l5], st, k, h) := zz_k_num f107_25 rfl
theorem f107_28 : zz_fetch zz_prog 107 28 = some (.iconst 0, 1, [], []) := zz_fetch_of p107 rfl rfl
theorem s107_28 : zz_Run zz_prog d 107 (28, [l0, l1, l2, l3, l4, l5], st, k, h) = zz_Run zz_prog d 107 (29, [l0, l1, l2, l3, l4, l5], .int 0 :: st, k, h) := zz_k_num f107_28 rfl
theorem f107_29 : zz_fetch zz_prog 107 29 = some (.istore 4, 2, [], []) := zz_fetch_of p107 rfl rfl
theorem s107_29 : zz_Run zz_prog d 107 (29, [l0, l1, l2, l3, l4, l5], .int v :: st, k, h) = zz_sl l3 (zz_Run zz_prog d 107 (31, [l0, l1, l2, l3, some (.int v), l5], st, k, h)) := zz_k_st (j := 4) (u := .int v) f107_29 rfl (fun q hq => by cases hq) rfl (show 4 < 6 by decide) (by cases l3 <;> rfl) rfl
theorem f107_31 : zz_fetch zz_prog 107 31 = some (.aload_n 0, 1, [], []) := zz_fetch_of p107 rfl rfl
theorem s107_31 : zz_Run zz_prog d 107 (31, [some (.ref a), l1, l2, l3, l4, l5], st, k, h) = zz_Run zz_prog d 107 (32, [some (.ref a), l1, l2, l3, l4, l5], .ref a :: st, k, h) := zz_k_num f107_31 rfl
theorem f107_32 : zz_fetch zz_prog 107 32 = some (.getfield 22, 3, [2, 6, 3], []) := zz_fetch_of p107 rfl rfl
theorem s107_32 : zz_Run zz_prog d 107 (32, [l0, l1, l2, l3, l4, l5], .ref 23 :: st, k, (zz_hp n I J ex)) = zz_Run zz_prog d 107 (35, [l0, l1, l2, l3, l4, l5], .ref 28 :: st, k, (zz_hp n I J ex)) := zz_k_go f107_32 rfl rfl rfl
theorem f107_35 : zz_fetch zz_prog 107 35 = some (.iload_n 2, 1, [], []) := zz_fetch_of p107 rfl rfl
theorem s107_35 : zz_Run zz_prog d 107 (35, [l0, l1, some (.int v), l3, l4, l5], st, k, h) = zz_Run zz_prog d 107 (36, [l0, l1, some (.int v), l3, l4, l5], .int v :: st, k, h) := zz_k_num f107_35 rfl
theorem f107_36 : zz_fetch zz_prog 107 36 = some (.iaload, 1, [], []) := zz_fetch_of p107 rfl rfl
theorem s107_36 (ha : zz_isrd a = true) : zz_Run zz_prog d 107 (36, [l0, l1, l2, l3, l4, l5], .int v :: .ref a :: st, k, (zz_hp n I J ex)) = zz_ck (zz_in v (zz_ary n a)) (zz_Run zz_prog d 107 (37, [l0, l1, l2, l3, l4, l5], .int (I a v.toNatClampNeg) :: st, k, (zz_hp n I J ex))) := zz_k_iald f107_36 ha
theorem f107_37 : zz_fetch zz_prog 107 37 = some (.aload_n 0, 1, [], []) := zz_fetch_of p107 rfl rfl
theorem s107_37 : zz_Run zz_prog d 107 (37, [some (.ref a), l1, l2, l3, l4, l5], st, k, h) = zz_Run zz_prog d 107 (38, [some (.ref a), l1, l2, l3, l4, l5], .ref a :: st, k, h) := zz_k_num f107_37 rfl
theorem f107_38 : zz_fetch zz_prog 107 38 = some (.getfield 7, 3, [2, 1, 3], []) := zz_fetch_of p107 rfl rfl
theorem s107_38 : zz_Run zz_prog d 107 (38, [l0, l1, l2, l3, l4, l5], .ref 23 :: st, k, (zz_hp n I J ex)) = zz_Run zz_prog d 107 (41, [l0, l1, l2, l3, l4, l5], .ref 24 :: st, k, (zz_hp n I J ex)) := zz_k_go f107_38 rfl rfl rfl
theorem f107_41 : zz_fetch zz_prog 107 41 = some (.sipush 192, 3, [], []) := zz_fetch_of p107 rfl rfl
theorem s107_41 : zz_Run zz_prog d 107 (41, [l0, l1, l2, l3, l4, l5], st, k, h) = zz_Run zz_prog d 107 (44, [l0, l1, l2, l3, l4, l5], .int 192 :: st, k, h) := zz_k_num f107_41 (congrArg (fun u => some (44, [l0, l1, l2, l3, l4, l5], Value.int u :: st)) (by decide : (Int16.ofInt 192).toInt32 = 192))
theorem f107_44 : zz_fetch zz_prog 107 44 = some (.iaload, 1, [], []) := zz_fetch_of p107 rfl rfl
theorem s107_44 (ha : zz_isrd a = true) : zz_Run zz_prog d 107 (44, [l0, l1, l2, l3, l4, l5], .int v :: .ref a :: st, k, (zz_hp n I J ex)) = zz_ck (zz_in v (zz_ary n a)) (zz_Run zz_prog d 107 (45, [l0, l1, l2, l3, l4, l5], .int (I a v.toNatClampNeg) :: st, k, (zz_hp n I J ex))) := zz_k_iald f107_44 ha
theorem f107_45 : zz_fetch zz_prog 107 45 = some (.if_icmp .eq 20, 3, [65], []) := zz_fetch_of p107 rfl rfl
theorem s107_45 : zz_Run zz_prog d 107 (45, [l0, l1, l2, l3, l4, l5], .int w :: .int v :: st, k, h) = if v = w then zz_Run zz_prog d 107 (65, [l0, l1, l2, l3, l4, l5], st, k, h) else zz_Run zz_prog d 107 (48, [l0, l1, l2, l3, l4, l5], st, k, h) := zz_k_br (v = w) rfl (zz_k_num f107_45 rfl)
theorem f107_48 : zz_fetch zz_prog 107 48 = some (.aload_n 0, 1, [], []) := zz_fetch_of p107 rfl rfl
theorem s107_48 : zz_Run zz_prog d 107 (48, [some (.ref a), l1, l2, l3, l4, l5], st, k, h) = zz_Run zz_prog d 107 (49, [some (.ref a), l1, l2, l3, l4, l5], .ref a :: st, k, h) := zz_k_num f107_48 rfl
theorem f107_49 : zz_fetch zz_prog 107 49 = some (.getfield 25, 3, [2, 7, 3], []) := zz_fetch_of p107 rfl rfl
theorem s107_49 : zz_Run zz_prog d 107 (49, [l0, l1, l2, l3, l4, l5], .ref 23 :: st, k, (zz_hp n I J ex)) = zz_Run zz_prog d 107 (52, [l0, l1, l2, l3, l4, l5], .ref 29 :: st, k, (zz_hp n I J ex)) := zz_k_go f107_49 rfl rfl rfl
theorem f107_52 : zz_fetch zz_prog 107 52 = some (.iload_n 2, 1, [], []) := zz_fetch_of p107 rfl rfl
theorem s107_52 : zz_Run zz_prog d 107 (52, [l0, l1, some (.int v), l3, l4, l5], st, k, h) = zz_Run zz_prog d 107 (53, [l0, l1, some (.int v), l3, l4, l5], .int v :: st, k, h) := zz_k_num f107_52 rfl
theorem f107_53 : zz_fetch zz_prog 107 53 = some (.iaload, 1, [], []) := zz_fetch_of p107 rfl rfl
theorem s107_53 (ha : zz_isrd a = true) : zz_Run zz_prog d 107 (53, [l0, l1, l2, l3, l4, l5], .int v :: .ref a :: st, k, (zz_hp n I J ex)) = zz_ck (zz_in v (zz_ary n a)) (zz_Run zz_prog d 107 (54, [l0, l1, l2, l3, l4, l5], .int (I a v.toNatClampNeg) :: st, k, (zz_hp n I J ex))) := zz_k_iald f107_53 ha
theorem f107_54 : zz_fetch zz_prog 107 54 = some (.aload_n 0, 1, [], []) := zz_fetch_of p107 rfl rfl
theorem s107_54 : zz_Run zz_prog d 107 (54, [some (.ref a), l1, l2, l3, l4, l5], st, k, h) = zz_Run zz_prog d 107 (55, [some (.ref a), l1, l2, l3, l4, l5], .ref a :: st, k, h) := zz_k_num f107_54 rfl
theorem f107_55 : zz_fetch zz_prog 107 55 = some (.getfield 7, 3, [2, 1, 3], []) := zz_fetch_of p107 rfl rfl
theorem s107_55 : zz_Run zz_prog d 107 (55, [l0, l1, l2, l3, l4, l5], .ref 23 :: st, k, (zz_hp n I J ex)) = zz_Run zz_prog d 107 (58, [l0, l1, l2, l3, l4, l5], .ref 24 :: st, k, (zz_hp n I J ex)) := zz_k_go f107_55 rfl rfl rfl
theorem f107_58 : zz_fetch zz_prog 107 58 = some (.sipush 192, 3, [], []) := zz_fetch_of p107 rfl rfl
theorem s107_58 : zz_Run zz_prog d 107 (58, [l0, l1, l2, l3, l4, l5], st, k, h) = zz_Run zz_prog d 107 (61, [l0, l1, l2, l3, l4, l5], .int 192 :: st, k, h) := zz_k_num f107_58 (congrArg (fun u => some (61, [l0, l1, l2, l3, l4, l5], Value.int u :: st)) (by decide : (Int16.ofInt 192).toInt32 = 192))
theorem f107_61 : zz_fetch zz_prog 107 61 = some (.iaload, 1, [], []) := zz_fetch_of p107 rfl rfl
theorem s107_61 (ha : zz_isrd a = true) : zz_Run zz_prog d 107 (61, [l0, l1, l2, l3, l4, l5], .int v :: .ref a :: st, k, (zz_hp n I J ex)) = zz_ck (zz_in v (zz_ary n a)) (zz_Run zz_prog d 107 (62, [l0, l1, l2, l3, l4, l5], .int (I a v.toNatClampNeg) :: st, k, (zz_hp n I J ex))) := zz_k_iald f107_61 ha
theorem f107_62 : zz_fetch zz_prog 107 62 = some (.if_icmp .ne 7, 3, [69], []) := zz_fetch_of p107 rfl rfl
theorem s107_62 : zz_Run zz_prog d 107 (62, [l0, l1, l2, l3, l4, l5], .int w :: .int v :: st, k, h) = if ¬ v = w then zz_Run zz_prog d 107 (69, [l0, l1, l2, l3, l4, l5], st, k, h) else zz_Run zz_prog d 107 (65, [l0, l1, l2, l3, l4, l5], st, k, h) := zz_k_br (¬ v = w) rfl (zz_k_num f107_62 rfl)
theorem f107_65 : zz_fetch zz_prog 107 65 = some (.iconst 1, 1, [], []) := zz_fetch_of p107 rfl rfl
theorem s107_65 : zz_Run zz_prog d 107 (65, [l0, l1, l2, l3, l4, l5], st, k, h) = zz_Run zz_prog d 107 (66, [l0, l1, l2, l3, l4, l5], .int 1 :: st, k, h) := zz_k_num f107_65 rfl
theorem f107_66 : zz_fetch zz_prog 107 66 = some (.goto 4, 3, [70], []) := zz_fetch_of p107 rfl rfl
theorem s107_66 : zz_Run zz_prog d 107 (66, [l0, l1, l2, l3, l4, l5], st, k, h) = zz_Run zz_prog d 107 (70, [l0, l1, l2, l3, l4, l5], st, k, h) := zz_k_num f107_66 rfl
theorem f107_69 : zz_fetch zz_prog 107 69 = some (.iconst 0, 1, [], []) := zz_fetch_of p107 rfl rfl
theorem s107_69 : zz_Run zz_prog d 107 (69, [l0, l1, l2, l3, l4, l5], st, k, h) = zz_Run zz_prog d 107 (70, [l0, l1, l2, l3, l4, l5], .int 0 :: st, k, h) := zz_k_num f107_69 rfl
theorem f107_70 : zz_fetch zz_prog 107 70 = some (.istore 5, 2, [], []) := zz_fetch_of p107 rfl rfl
theorem s107_70 : zz_Run zz_prog d 107 (70, [l0, l1, l2, l3, l4, l5], .int v :: st, k, h) = zz_sl l4 (zz_Run zz_prog d 107 (72, [l0, l1, l2, l3, l4, some (.int v)], st, k, h)) := zz_k_st (j := 5) (u := .int v) f107_70 rfl (fun q hq => by cases hq) rfl (show 5 < 6 by decide) (by cases l4 <;> rfl) rfl
theorem f107_72 : zz_fetch zz_prog 107 72 = some (.iload 4, 2, [], []) := zz_fetch_of p107 rfl rfl
theorem s107_72 : zz_Run zz_prog d 107 (72, [l0, l1, l2, l3, some (.int v), l5], st, k, h) = zz_Run zz_prog d 107 (74, [l0, l1, l2, l3, some (.int v), l5], .int v :: st, k, h) := zz_k_num f107_72 rfl
theorem f107_74 : zz_fetch zz_prog 107 74 = some (.ifCond .eq 55, 3, [129], []) := zz_fetch_of p107 rfl rfl
theorem s107_74 : zz_Run zz_prog d 107 (74, [l0, l1, l2, l3, l4, l5], .int v :: st, k, h) = if v = 0 then zz_Run zz_prog d 107 (129, [l0, l1, l2, l3, l4, l5], st, k, h) else zz_Run zz_prog d 107 (77, [l0, l1, l2, l3, l4, l5], st, k, h) := zz_k_br (v = 0) rfl (zz_k_num f107_74 rfl)
theorem f107_77 : zz_fetch zz_prog 107 77 = some (.aload_n 0, 1, [], []) := zz_fetch_of p107 rfl rfl
theorem s107_77 : zz_Run zz_prog d 107 (77, [some (.ref a), l1, l2, l3, l4, l5], st, k, h) = zz_Run zz_prog d 107 (78, [some (.ref a), l1, l2, l3, l4, l5], .ref a :: st, k, h) := zz_k_num f107_77 rfl
theorem f107_78 : zz_fetch zz_prog 107 78 = some (.getfield 7, 3, [2, 1, 3], []) := zz_fetch_of p107 rfl rfl
theorem s107_78 : zz_Run zz_prog d 107 (78, [l0, l1, l2, l3, l4, l5], .ref 23 :: st, k, (zz_hp n I J ex)) = zz_Run zz_prog d 107 (81, [l0, l1, l2, l3, l4, l5], .ref 24 :: st, k, (zz_hp n I J ex)) := zz_k_go f107_78 rfl rfl rfl
theorem f107_81 : zz_fetch zz_prog 107 81 = some (.sipush 180, 3, [], []) := zz_fetch_of p107 rfl rfl
theorem s107_81 : zz_Run zz_prog d 107 (81, [l0, l1, l2, l3, l4, l5], st, k, h) = zz_Run zz_prog d 107 (84, [l0, l1, l2, l3, l4, l5], .int 180 :: st, k, h) := zz_k_num f107_81 (congrArg (fun u => some (84, [l0, l1, l2, l3, l4, l5], Value.int u :: st)) (by decide : (Int16.ofInt 180).toInt32 = 180))
theorem f107_84 : zz_fetch zz_prog 107 84 = some (.iaload, 1, [], []) := zz_fetch_of p107 rfl rfl
theorem s107_84 (ha : zz_isrd a = true) : zz_Run zz_prog d 107 (84, [l0, l1, l2, l3, l4, l5], .int v :: .ref a :: st, k, (zz_hp n I J ex)) = zz_ck (zz_in v (zz_ary n a)) (zz_Run zz_prog d 107 (85, [l0, l1, l2, l3, l4, l5], .int (I a v.toNatClampNeg) :: st, k, (zz_hp n I J ex))) := zz_k_iald f107_84 ha
theorem f107_85 : zz_fetch zz_prog 107 85 = some (.iconst 2, 1, [], []) := zz_fetch_of p107 rfl rfl
theorem s107_85 : zz_Run zz_prog d 107 (85, [l0, l1, l2, l3, l4, l5], st, k, h) = zz_Run zz_prog d 107 (86, [l0, l1, l2, l3, l4, l5], .int 2 :: st, k, h) := zz_k_num f107_85 rfl
theorem f107_86 : zz_fetch zz_prog 107 86 = some (.if_icmp .ne 11, 3, [97], []) := zz_fetch_of p107 rfl rfl
theorem s107_86 : zz_Run zz_prog d 107 (86, [l0, l1, l2, l3, l4, l5], .int w :: .int v :: st, k, h) = if ¬ v = w then zz_Run zz_prog d 107 (97, [l0, l1, l2, l3, l4, l5], st, k, h) else zz_Run zz_prog d 107 (89, [l0, l1, l2, l3, l4, l5], st, k, h) := zz_k_br (¬ v = w) rfl (zz_k_num f107_86 rfl)
theorem f107_89 : zz_fetch zz_prog 107 89 = some (.iload 5, 2, [], []) := zz_fetch_of p107 rfl rfl
theorem s107_89 : zz_Run zz_prog d 107 (89, [l0, l1, l2, l3, l4, some (.int v)], st, k, h) = zz_Run zz_prog d 107 (91, [l0, l1, l2, l3, l4, some (.int v)], .int v :: st, k, h) := zz_k_num f107_89 rfl
theorem f107_91 : zz_fetch zz_prog 107 91 = some (.ifCond .eq 38, 3, [129], []) := zz_fetch_of p107 rfl rfl
theorem s107_91 : zz_Run zz_prog d 107 (91, [l0, l1, l2, l3, l4, l5], .int v :: st, k, h) = if v = 0 then zz_Run zz_prog d 107 (129, [l0, l1, l2, l3, l4, l5], st, k, h) else zz_Run zz_prog d 107 (94, [l0, l1, l2, l3, l4, l5], st, k, h) := zz_k_br (v = 0) rfl (zz_k_num f107_91 rfl)
theorem f107_94 : zz_fetch zz_prog 107 94 = some (.goto 31, 3, [125], []) := zz_fetch_of p107 rfl rfl
theorem s107_94 : zz_Run zz_prog d 107 (94, [l0, l1, l2, l3, l4, l5], st, k, h) = zz_Run zz_prog d 107 (125, [l0, l1, l2, l3, l4, l5], st, k, h) := zz_k_num f107_94 rfl
theorem f107_97 : zz_fetch zz_prog 107 97 = some (.aload_n 0, 1, [], []) := zz_fetch_of p107 rfl rfl
theorem s107_97 : zz_Run zz_prog d 107 (97, [some (.ref a), l1, l2, l3, l4, l5], st, k, h) = zz_Run zz_prog d 107 (98, [some (.ref a), l1, l2, l3, l4, l5], .ref a :: st, k, h) := zz_k_num f107_97 rfl
theorem f107_98 : zz_fetch zz_prog 107 98 = some (.aload_n 0, 1, [], []) := zz_fetch_of p107 rfl rfl
theorem s107_98 : zz_Run zz_prog d 107 (98, [some (.ref a), l1, l2, l3, l4, l5], st, k, h) = zz_Run zz_prog d 107 (99, [some (.ref a), l1, l2, l3, l4, l5], .ref a :: st, k, h) := zz_k_num f107_98 rfl
theorem f107_99 : zz_fetch zz_prog 107 99 = some (.getfield 22, 3, [2, 6, 3], []) := zz_fetch_of p107 rfl rfl
theorem s107_99 : zz_Run zz_prog d 107 (99, [l0, l1, l2, l3, l4, l5], .ref 23 :: st, k, (zz_hp n I J ex)) = zz_Run zz_prog d 107 (102, [l0, l1, l2, l3, l4, l5], .ref 28 :: st, k, (zz_hp n I J ex)) := zz_k_go f107_99 rfl rfl rfl
theorem f107_102 : zz_fetch zz_prog 107 102 = some (.iload_n 2, 1, [], []) := zz_fetch_of p107 rfl rfl
theorem s107_102 : zz_Run zz_prog d 107 (102, [l0, l1, some (.int v), l3, l4, l5], st, k, h) = zz_Run zz_prog d 107 (103, [l0, l1, some (.int v), l3, l4, l5], .int v :: st, k, h) := zz_k_num f107_102 rfl
theorem f107_103 : zz_fetch zz_prog 107 103 = some (.iaload, 1, [], []) := zz_fetch_of p107 rfl rfl
theorem s107_103 (ha : zz_isrd a = true) : zz_Run zz_prog d 107 (103, [l0, l1, l2, l3, l4, l5], .int v :: .ref a :: st, k, (zz_hp n I J ex)) = zz_ck (zz_in v (zz_ary n a)) (zz_Run zz_prog d 107 (104, [l0, l1, l2, l3, l4, l5], .int (I a v.toNatClampNeg) :: st, k, (zz_hp n I J ex))) := zz_k_iald f107_103 ha
theorem f107_104 : zz_fetch zz_prog 107 104 = some (.iload_n 3, 1, [], []) := zz_fetch_of p107 rfl rfl
theorem s107_104 : zz_Run zz_prog d 107 (104, [l0, l1, l2, some (.int v), l4, l5], st, k, h) = zz_Run zz_prog d 107 (105, [l0, l1, l2, some (.int v), l4, l5], .int v :: st, k, h) := zz_k_num f107_104 rfl
theorem f107_105 : zz_fetch zz_prog 107 105 = some (.invokevirtual 117, 3, [0, 106, 3, 2], []) := zz_fetch_of p107 rfl rfl
theorem s107_105 : zz_Run zz_prog d 107 (105, [l0, l1, l2, l3, l4, l5], [b0, b1, .ref 23], k, (zz_hp n I J ex)) = zz_ret (zz_Call zz_prog d 106 [.ref 23, b1, b0] (zz_hp n I J ex)) (fun v k' h' => zz_Run zz_prog d 107 (108, [l0, l1, l2, l3, l4, l5], v.toList ++ [], k && k', h')) (fun a k' h' => zz_th d 107 105 a [l0, l1, l2, l3, l4, l5] (k && k') h') := zz_k_call f107_105 rfl rfl rfl
theorem f107_108 : zz_fetch zz_prog 107 108 = some (.ifCond .ne 17, 3, [125], []) := zz_fetch_of p107 rfl rfl
theorem s107_108 : zz_Run zz_prog d 107 (108, [l0, l1, l2, l3, l4, l5], .int v :: st, k, h) = if ¬ v = 0 then zz_Run zz_prog d 107 (125, [l0, l1, l2, l3, l4, l5], st, k, h) else zz_Run zz_prog d 107 (111, [l0, l1, l2, l3, l4, l5], st, k, h) := zz_k_br (¬ v = 0) rfl (zz_k_num f107_108 rfl)
theorem f107_111 : zz_fetch zz_prog 107 111 = some (.aload_n 0, 1, [], []) := zz_fetch_of p107 rfl rfl
theorem s107_111 : zz_Run zz_prog d 107 (111, [some (.ref a), l1, l2, l3, l4, l5], st, k, h) = zz_Run zz_prog d 107 (112, [some (.ref a), l1, l2, l3, l4, l5], .ref a :: st, k, h) := zz_k_num f107_111 rfl
theorem f107_112 : zz_fetch zz_prog 107 112 = some (.aload_n 0, 1, [], []) := zz_fetch_of p107 rfl rfl
theorem s107_112 : zz_Run zz_prog d 107 (112, [some (.ref a), l1, l2, l3, l4, l5], st, k, h) = zz_Run zz_prog d 107 (113, [some (.ref a), l1, l2, l3, l4, l5], .ref a :: st, k, h) := zz_k_num f107_112 rfl
theorem f107_113 : zz_fetch zz_prog 107 113 = some (.getfield 25, 3, [2, 7, 3], []) := zz_fetch_of p107 rfl rfl
theorem s107_113 : zz_Run zz_prog d 107 (113, [l0, l1, l2, l3, l4, l5], .ref 23 :: st, k, (zz_hp n I J ex)) = zz_Run zz_prog d 107 (116, [l0, l1, l2, l3, l4, l5], .ref 29 :: st, k, (zz_hp n I J ex)) := zz_k_go f107_113 rfl rfl rfl
theorem f107_116 : zz_fetch zz_prog 107 116 = some (.iload_n 2, 1, [], []) := zz_fetch_of p107 rfl rfl
theorem s107_116 : zz_Run zz_prog d 107 (116, [l0, l1, some (.int v), l3, l4, l5], st, k, h) = zz_Run zz_prog d 107 (117, [l0, l1, some (.int v), l3, l4, l5], .int v :: st, k, h) := zz_k_num f107_116 rfl
theorem f107_117 : zz_fetch zz_prog 107 117 = some (.iaload, 1, [], []) := zz_fetch_of p107 rfl rfl
theorem s107_117 (ha : zz_isrd a = true) : zz_Run zz_prog d 107 (117, [l0, l1, l2, l3, l4, l5], .int v :: .ref a :: st, k, (zz_hp n I J ex)) = zz_ck (zz_in v (zz_ary n a)) (zz_Run zz_prog d 107 (118, [l0, l1, l2, l3, l4, l5], .int (I a v.toNatClampNeg) :: st, k, (zz_hp n I J ex))) := zz_k_iald f107_117 ha
theorem f107_118 : zz_fetch zz_prog 107 118 = some (.iload_n 3, 1, [], []) := zz_fetch_of p107 rfl rfl
theorem s107_118 : zz_Run zz_prog d 107 (118, [l0, l1, l2, some (.int v), l4, l5], st, k, h) = zz_Run zz_prog d 107 (119, [l0, l1, l2, some (.int v), l4, l5], .int v :: st, k, h) := zz_k_num f107_118 rfl
theorem f107_119 : zz_fetch zz_prog 107 119 = some (.invokevirtual 117, 3, [0, 106, 3, 2], []) := zz_fetch_of p107 rfl rfl
theorem s107_119 : zz_Run zz_prog d 107 (119, [l0, l1, l2, l3, l4, l5], [b0, b1, .ref 23], k, (zz_hp n I J ex)) = zz_ret (zz_Call zz_prog d 106 [.ref 23, b1, b0] (zz_hp n I J ex)) (fun v k' h' => zz_Run zz_prog d 107 (122, [l0, l1, l2, l3, l4, l5], v.toList ++ [], k && k', h')) (fun a k' h' => zz_th d 107 119 a [l0, l1, l2, l3, l4, l5] (k && k') h') := zz_k_call f107_119 rfl rfl rfl
theorem f107_122 : zz_fetch zz_prog 107 122 = some (.ifCond .eq 7, 3, [129], []) := zz_fetch_of p107 rfl rfl
theorem s107_122 : zz_Run zz_prog d 107 (122, [l0, l1, l2, l3, l4, l5], .int v :: st, k, h) = if v = 0 then zz_Run zz_prog d 107 (129, [l0, l1, l2, l3, l4, l5], st, k, h) else zz_Run zz_prog d 107 (125, [l0, l1, l2, l3, l4, l5], st, k, h) := zz_k_br (v = 0) rfl (zz_k_num f107_122 rfl)
theorem f107_125 : zz_fetch zz_prog 107 125 = some (.iconst 1, 1, [], []) := zz_fetch_of p107 rfl rfl
theorem s107_125 : zz_Run zz_prog d 107 (125, [l0, l1, l2, l3, l4, l5], st, k, h) = zz_Run zz_prog d 107 (126, [l0, l1, l2, l3, l4, l5], .int 1 :: st, k, h) := zz_k_num f107_125 rfl
theorem f107_126 : zz_fetch zz_prog 107 126 = some (.goto 4, 3, [130], []) := zz_fetch_of p107 rfl rfl
theorem s107_126 : zz_Run zz_prog d 107 (126, [l0, l1, l2, l3, l4, l5], st, k, h) = zz_Run zz_prog d 107 (130, [l0, l1, l2, l3, l4, l5], st, k, h) := zz_k_num f107_126 rfl
theorem f107_129 : zz_fetch zz_prog 107 129 = some (.iconst 0, 1, [], []) := zz_fetch_of p107 rfl rfl
theorem s107_129 : zz_Run zz_prog d 107 (129, [l0, l1, l2, l3, l4, l5], st, k, h) = zz_Run zz_prog d 107 (130, [l0, l1, l2, l3, l4, l5], .int 0 :: st, k, h) := zz_k_num f107_129 rfl
theorem f107_130 : zz_fetch zz_prog 107 130 = some (.ireturn, 1, [1], []) := zz_fetch_of p107 rfl rfl
theorem s107_130 : zz_Run zz_prog d 107 (130, [l0, l1, l2, l3, l4, l5], [.int v], k, h) = zz_ck (decide (v = 0 ∨ v = 1)) (some (.inl (some (.int v)), k, h)) := zz_k_retz f107_130
theorem f107_131 : zz_fetch zz_prog 107 131 = some (.iload_n 1, 1, [], []) := zz_fetch_of p107 rfl rfl
theorem s107_131 : zz_Run zz_prog d 107 (131, [l0, some (.int v), l2, l3, l4, l5], st, k, h) = zz_Run zz_prog d 107 (132, [l0, some (.int v), l2, l3, l4, l5], .int v :: st, k, h) := zz_k_num f107_131 rfl
theorem f107_132 : zz_fetch zz_prog 107 132 = some (.iconst 1, 1, [], []) := zz_fetch_of p107 rfl rfl
theorem s107_132 : zz_Run zz_prog d 107 (132, [l0, l1, l2, l3, l4, l5], st, k, h) = zz_Run zz_prog d 107 (133, [l0, l1, l2, l3, l4, l5], .int 1 :: st, k, h) := zz_k_num f107_132 rfl
theorem f107_133 : zz_fetch zz_prog 107 133 = some (.if_icmp .ne 38, 3, [171], []) := zz_fetch_of p107 rfl rfl
theorem s107_133 : zz_Run zz_prog d 107 (133, [l0, l1, l2, l3, l4, l5], .int w :: .int v :: st, k, h) = if ¬ v = w then zz_Run zz_prog d 107 (171, [l0, l1, l2, l3, l4, l5], st, k, h) else zz_Run zz_prog d 107 (136, [l0, l1, l2, l3, l4, l5], st, k, h) := zz_k_br (¬ v = w) rfl (zz_k_num f107_133 rfl)
theorem f107_136 : zz_fetch zz_prog 107 136 = some (.aload_n 0, 1, [], []) := zz_fetch_of p107 rfl rfl
theorem s107_136 : zz_Run zz_prog d 107 (136, [some (.ref a), l1, l2, l3, l4, l5], st, k, h) = zz_Run zz_prog d 107 (137, [some (.ref a), l1, l2, l3, l4, l5], .ref a :: st, k, h) := zz_k_num f107_136 rfl
theorem f107_137 : zz_fetch zz_prog 107 137 = some (.iload_n 2, 1, [], []) := zz_fetch_of p107 rfl rfl
theorem s107_137 : zz_Run zz_prog d 107 (137, [l0, l1, some (.int v), l3, l4, l5], st, k, h) = zz_Run zz_prog d 107 (138, [l0, l1, some (.int v), l3, l4, l5], .int v :: st, k, h) := zz_k_num f107_137 rfl
theorem f107_138 : zz_fetch zz_prog 107 138 = some (.invokevirtual 120, 3, [0, 105, 2, 2], []) := zz_fetch_of p107 rfl rfl
theorem s107_138 : zz_Run zz_prog d 107 (138, [l0, l1, l2, l3, l4, l5], [b0, .ref 23], k, (zz_hp n I J ex)) = zz_ret (zz_Call zz_prog d 105 [.ref 23, b0] (zz_hp n I J ex)) (fun v k' h' => zz_Run zz_prog d 107 (141, [l0, l1, l2, l3, l4, l5], v.toList ++ [], k && k', h')) (fun a k' h' => zz_th d 107 138 a [l0, l1, l2, l3, l4, l5] (k && k') h') := zz_k_call f107_138 rfl rfl rfl
theorem f107_141 : zz_fetch zz_prog 107 141 = some (.ifCond .eq 28, 3, [169], []) := zz_fetch_of p107 rfl rfl
theorem s107_141 : zz_Run zz_prog d 107 (141, [l0, l1, l2, l3, l4, l5], .int v :: st, k, h) = if v = 0 then zz_Run zz_prog d 107 (169, [l0, l1, l2, l3, l4, l5], st, k, h) else zz_Run zz_prog d 107 (144, [l0, l1, l2, l3, l4, l5], st, k, h) := zz_k_br (v = 0) rfl (zz_k_num f107_141 rfl)
theorem f107_144 : zz_fetch zz_prog 107 144 = some (.aload_n 0, 1, [], []) := zz_fetch_of p107 rfl rfl
theorem s107_144 : zz_Run zz_prog d 107 (144, [some (.ref a), l1, l2, l3, l4, l5], st, k, h) = zz_Run zz_prog d 107 (145, [some (.ref a), l1, l2, l3, l4, l5], .ref a :: st, k, h) := zz_k_num f107_144 rfl
theorem f107_145 : zz_fetch zz_prog 107 145 = some (.getfield 7, 3, [2, 1, 3], []) := zz_fetch_of p107 rfl rfl
theorem s107_145 : zz_Run zz_prog d 107 (145, [l0, l1, l2, l3, l4, l5], .ref 23 :: st, k, (zz_hp n I J ex)) = zz_Run zz_prog d 107 (148, [l0, l1, l2, l3, l4, l5], .ref 24 :: st, k, (zz_hp n I J ex)) := zz_k_go f107_145 rfl rfl rfl
theorem f107_148 : zz_fetch zz_prog 107 148 = some (.sipush 180, 3, [], []) := zz_fetch_of p107 rfl rfl
theorem s107_148 : zz_Run zz_prog d 107 (148, [l0, l1, l2, l3, l4, l5], st, k, h) = zz_Run zz_prog d 107 (151, [l0, l1, l2, l3, l4, l5], .int 180 :: st, k, h) := zz_k_num f107_148 (congrArg (fun u => some (151, [l0, l1, l2, l3, l4, l5], Value.int u :: st)) (by decide : (Int16.ofInt 180).toInt32 = 180))
theorem f107_151 : zz_fetch zz_prog 107 151 = some (.iaload, 1, [], []) := zz_fetch_of p107 rfl rfl
theorem s107_151 (ha : zz_isrd a = true) : zz_Run zz_prog d 107 (151, [l0, l1, l2, l3, l4, l5], .int v :: .ref a :: st, k, (zz_hp n I J ex)) = zz_ck (zz_in v (zz_ary n a)) (zz_Run zz_prog d 107 (152, [l0, l1, l2, l3, l4, l5], .int (I a v.toNatClampNeg) :: st, k, (zz_hp n I J ex))) := zz_k_iald f107_151 ha
theorem f107_152 : zz_fetch zz_prog 107 152 = some (.iconst 1, 1, [], []) := zz_fetch_of p107 rfl rfl
theorem s107_152 : zz_Run zz_prog d 107 (152, [l0, l1, l2, l3, l4, l5], st, k, h) = zz_Run zz_prog d 107 (153, [l0, l1, l2, l3, l4, l5], .int 1 :: st, k, h) := zz_k_num f107_152 rfl
theorem f107_153 : zz_fetch zz_prog 107 153 = some (.if_icmp .eq 12, 3, [165], []) := zz_fetch_of p107 rfl rfl
theorem s107_153 : zz_Run zz_prog d 107 (153, [l0, l1, l2, l3, l4, l5], .int w :: .int v :: st, k, h) = if v = w then zz_Run zz_prog d 107 (165, [l0, l1, l2, l3, l4, l5], st, k, h) else zz_Run zz_prog d 107 (156, [l0, l1, l2, l3, l4, l5], st, k, h) := zz_k_br (v = w) rfl (zz_k_num f107_153 rfl)
theorem f107_156 : zz_fetch zz_prog 107 156 = some (.aload_n 0, 1, [], []) := zz_fetch_of p107 rfl rfl
theorem s107_156 : zz_Run zz_prog d 107 (156, [some (.ref a), l1, l2, l3, l4, l5], st, k, h) = zz_Run zz_prog d 107 (157, [some (.ref a), l1, l2, l3, l4, l5], .ref a :: st, k, h) := zz_k_num f107_156 rfl
theorem f107_157 : zz_fetch zz_prog 107 157 = some (.iload_n 2, 1, [], []) := zz_fetch_of p107 rfl rfl
theorem s107_157 : zz_Run zz_prog d 107 (157, [l0, l1, some (.int v), l3, l4, l5], st, k, h) = zz_Run zz_prog d 107 (158, [l0, l1, some (.int v), l3, l4, l5], .int v :: st, k, h) := zz_k_num f107_157 rfl
theorem f107_158 : zz_fetch zz_prog 107 158 = some (.iload_n 3, 1, [], []) := zz_fetch_of p107 rfl rfl
theorem s107_158 : zz_Run zz_prog d 107 (158, [l0, l1, l2, some (.int v), l4, l5], st, k, h) = zz_Run zz_prog d 107 (159, [l0, l1, l2, some (.int v), l4, l5], .int v :: st, k, h) := zz_k_num f107_158 rfl
theorem f107_159 : zz_fetch zz_prog 107 159 = some (.invokevirtual 114, 3, [0, 104, 3, 2], []) := zz_fetch_of p107 rfl rfl
theorem s107_159 : zz_Run zz_prog d 107 (159, [l0, l1, l2, l3, l4, l5], [b0, b1, .ref 23], k, (zz_hp n I J ex)) = zz_ret (zz_Call zz_prog d 104 [.ref 23, b1, b0] (zz_hp n I J ex)) (fun v k' h' => zz_Run zz_prog d 107 (162, [l0, l1, l2, l3, l4, l5], v.toList ++ [], k && k', h')) (fun a k' h' => zz_th d 107 159 a [l0, l1, l2, l3, l4, l5] (k && k') h') := zz_k_call f107_159 rfl rfl rfl
theorem f107_162 : zz_fetch zz_prog 107 162 = some (.ifCond .eq 7, 3, [169], []) := zz_fetch_of p107 rfl rfl
theorem s107_162 : zz_Run zz_prog d 107 (162, [l0, l1, l2, l3, l4, l5], .int v :: st, k, h) = if v = 0 then zz_Run zz_prog d 107 (169, [l0, l1, l2, l3, l4, l5], st, k, h) else zz_Run zz_prog d 107 (165, [l0, l1, l2, l3, l4, l5], st, k, h) := zz_k_br (v = 0) rfl (zz_k_num f107_162 rfl)
theorem f107_165 : zz_fetch zz_prog 107 165 = some (.iconst 1, 1, [], []) := zz_fetch_of p107 rfl rfl
theorem s107_165 : zz_Run zz_prog d 107 (165, [l0, l1, l2, l3, l4, l5], st, k, h) = zz_Run zz_prog d 107 (166, [l0, l1, l2, l3, l4, l5], .int 1 :: st, k, h) := zz_k_num f107_165 rfl
theorem f107_166 : zz_fetch zz_prog 107 166 = some (.goto 4, 3, [170], []) := zz_fetch_of p107 rfl rfl
theorem s107_166 : zz_Run zz_prog d 107 (166, [l0, l1, l2, l3, l4, l5], st, k, h) = zz_Run zz_prog d 107 (170, [l0, l1, l2, l3, l4, l5], st, k, h) := zz_k_num f107_166 rfl
theorem f107_169 : zz_fetch zz_prog 107 169 = some (.iconst 0, 1, [], []) := zz_fetch_of p107 rfl rfl
theorem s107_169 : zz_Run zz_prog d 107 (169, [l0, l1, l2, l3, l4, l5], st, k, h) = zz_Run zz_prog d 107 (170, [l0, l1, l2, l3, l4, l5], .int 0 :: st, k, h) := zz_k_num f107_169 rfl
theorem f107_170 : zz_fetch zz_prog 107 170 = some (.ireturn, 1, [1], []) := zz_fetch_of p107 rfl rfl
theorem s107_170 : zz_Run zz_prog d 107 (170, [l0, l1, l2, l3, l4, l5], [.int v], k, h) = zz_ck (decide (v = 0 ∨ v = 1)) (some (.inl (some (.int v)), k, h)) := zz_k_retz f107_170
theorem f107_171 : zz_fetch zz_prog 107 171 = some (.aload_n 0, 1, [], []) := zz_fetch_of p107 rfl rfl
theorem s107_171 : zz_Run zz_prog d 107 (171, [some (.ref a), l1, l2, l3, l4, l5], st, k, h) = zz_Run zz_prog d 107 (172, [some (.ref a), l1, l2, l3, l4, l5], .ref a :: st, k, h) := zz_k_num f107_171 rfl
theorem f107_172 : zz_fetch zz_prog 107 172 = some (.getfield 7, 3, [2, 1, 3], []) := zz_fetch_of p107 rfl rfl
theorem s107_172 : zz_Run zz_prog d 107 (172, [l0, l1, l2, l3, l4, l5], .ref 23 :: st, k, (zz_hp n I J ex)) = zz_Run zz_prog d 107 (175, [l0, l1, l2, l3, l4, l5], .ref 24 :: st, k, (zz_hp n I J ex)) := zz_k_go f107_172 rfl rfl rfl
theorem f107_175 : zz_fetch zz_prog 107 175 = some (.bipush 72, 2, [], []) := zz_fetch_of p107 rfl rfl
theorem s107_175 : zz_Run zz_prog d 107 (175, [l0, l1, l2, l3, l4, l5], st, k, h) = zz_Run zz_prog d 107 (177, [l0, l1, l2, l3, l4, l5], .int 72 :: st, k, h) := zz_k_num f107_175 (congrArg (fun u => some (177, [l0, l1, l2, l3, l4, l5], Value.int u :: st)) (by decide : (Int8.ofInt 72).toInt32 = 72))
theorem f107_177 : zz_fetch zz_prog 107 177 = some (.iload_n 2, 1, [], []) := zz_fetch_of p107 rfl rfl
theorem s107_177 : zz_Run zz_prog d 107 (177, [l0, l1, some (.int v), l3, l4, l5], st, k, h) = zz_Run zz_prog d 107 (178, [l0, l1, some (.int v), l3, l4, l5], .int v :: st, k, h) := zz_k_num f107_177 rfl
theorem f107_178 : zz_fetch zz_prog 107 178 = some (.iadd, 1, [], []) := zz_fetch_of p107 rfl rfl
theorem s107_178 : zz_Run zz_prog d 107 (178, [l0, l1, l2, l3, l4, l5], .int w :: .int v :: st, k, h) = zz_Run zz_prog d 107 (179, [l0, l1, l2, l3, l4, l5], .int (v + w) :: st, k, h) := zz_k_num f107_178 rfl
theorem f107_179 : zz_fetch zz_prog 107 179 = some (.iaload, 1, [], []) := zz_fetch_of p107 rfl rfl
theorem s107_179 (ha : zz_isrd a = true) : zz_Run zz_prog d 107 (179, [l0, l1, l2, l3, l4, l5], .int v :: .ref a :: st, k, (zz_hp n I J ex)) = zz_ck (zz_in v (zz_ary n a)) (zz_Run zz_prog d 107 (180, [l0, l1, l2, l3, l4, l5], .int (I a v.toNatClampNeg) :: st, k, (zz_hp n I J ex))) := zz_k_iald f107_179 ha
theorem f107_180 : zz_fetch zz_prog 107 180 = some (.iload_n 3, 1, [], []) := zz_fetch_of p107 rfl rfl
theorem s107_180 : zz_Run zz_prog d 107 (180, [l0, l1, l2, some (.int v), l4, l5], st, k, h) = zz_Run zz_prog d 107 (181, [l0, l1, l2, some (.int v), l4, l5], .int v :: st, k, h) := zz_k_num f107_180 rfl
theorem f107_181 : zz_fetch zz_prog 107 181 = some (.iconst 1, 1, [], []) := zz_fetch_of p107 rfl rfl
theorem s107_181 : zz_Run zz_prog d 107 (181, [l0, l1, l2, l3, l4, l5], st, k, h) = zz_Run zz_prog d 107 (182, [l0, l1, l2, l3, l4, l5], .int 1 :: st, k, h) := zz_k_num f107_181 rfl
theorem f107_182 : zz_fetch zz_prog 107 182 = some (.iadd, 1, [], []) := zz_fetch_of p107 rfl rfl
theorem s107_182 : zz_Run zz_prog d 107 (182, [l0, l1, l2, l3, l4, l5], .int w :: .int v :: st, k, h) = zz_Run zz_prog d 107 (183, [l0, l1, l2, l3, l4, l5], .int (v + w) :: st, k, h) := zz_k_num f107_182 rfl
theorem f107_183 : zz_fetch zz_prog 107 183 = some (.if_icmp .ne 7, 3, [190], []) := zz_fetch_of p107 rfl rfl
theorem s107_183 : zz_Run zz_prog d 107 (183, [l0, l1, l2, l3, l4, l5], .int w :: .int v :: st, k, h) = if ¬ v = w then zz_Run zz_prog d 107 (190, [l0, l1, l2, l3, l4, l5], st, k, h) else zz_Run zz_prog d 107 (186, [l0, l1, l2, l3, l4, l5], st, k, h) := zz_k_br (¬ v = w) rfl (zz_k_num f107_183 rfl)
theorem f107_186 : zz_fetch zz_prog 107 186 = some (.iconst 1, 1, [], []) := zz_fetch_of p107 rfl rfl
theorem s107_186 : zz_Run zz_prog d 107 (186, [l0, l1, l2, l3, l4, l5], st, k, h) = zz_Run zz_prog d 107 (187, [l0, l1, l2, l3, l4, l5], .int 1 :: st, k, h) := zz_k_num f107_186 rfl
theorem f107_187 : zz_fetch zz_prog 107 187 = some (.goto 4, 3, [191], []) := zz_fetch_of p107 rfl rfl
theorem s107_187 : zz_Run zz_prog d 107 (187, [l0, l1, l2, l3, l4, l5], st, k, h) = zz_Run zz_prog d 107 (191, [l0, l1, l2, l3, l4, l5], st, k, h) := zz_k_num f107_187 rfl
theorem f107_190 : zz_fetch zz_prog 107 190 = some (.iconst 0, 1, [], []) := zz_fetch_of p107 rfl rfl
theorem s107_190 : zz_Run zz_prog d 107 (190, [l0, l1, l2, l3, l4, l5], st, k, h) = zz_Run zz_prog d 107 (191, [l0, l1, l2, l3, l4, l5], .int 0 :: st, k, h) := zz_k_num f107_190 rfl
theorem f107_191 : zz_fetch zz_prog 107 191 = some (.ireturn, 1, [1], []) := zz_fetch_of p107 rfl rfl
theorem s107_191 : zz_Run zz_prog d 107 (191, [l0, l1, l2, l3, l4, l5], [.int v], k, h) = zz_ck (decide (v = 0 ∨ v = 1)) (some (.inl (some (.int v)), k, h)) := zz_k_retz f107_191
end S107
section S108
variable {d n j : Nat} {l0 l1 l2 : Option Value} {st : List Value} {k : Bool} {h : zz_H} {v w v1 v2 : Int32} {y y1 : Int64} {a a1 a2 : Nat} {b0 b1 b2 b3 b4 b5 b6 b7 b8 : Value} {I : Nat → Nat → Int32} {J : Nat → Nat → Int64} {ex : List (Nat × Nat)}
theorem p108 : zz_prog 108 = some zz_m108 := rfl
theorem e108 (g0 : Nat) (g1 : Int32) (g2 : Int32) : zz_Call zz_prog (d + 1) 108 [.ref g0, .int g1, .int g2] h = zz_Run zz_prog d 108 (0, [some (.ref g0), some (.int g1), some (.int g2)], [], true, h) := rfl
theorem t108 (pc : Nat) (L : List (Option Value)) : zz_th d 108 pc a L k h = some (.inr a, k, h) := zz_th_out p108 rfl
theorem f108_0 : zz_fetch zz_prog 108 0 = some (.aload_n 0, 1, [], []) := zz_fetch_of p108 rfl rfl
theorem s108_0 : zz_Run zz_prog d 108 (0, [some (.ref a), l1, l2], st, k, h) = zz_Run zz_prog d 108 (1, [some (.ref a), l1, l2], .ref a :: st, k, h) := zz_k_num f108_0 rfl
theorem f108_1 : zz_fetch zz_prog 108 1 = some (.getfield 46, 3, [2, 17, 3], []) := zz_fetch_of p108 rfl rfl
theorem s108_1 : zz_Run zz_prog d 108 (1, [l0, l1, l2], .ref 23 :: st, k, (zz_hp n I J ex)) = zz_Run zz_prog d 108 (4, [l0, l1, l2], .ref 36 :: st, k, (zz_hp n I J ex)) := zz_k_go f108_1 rfl rfl rfl
theorem f108_4 : zz_fetch zz_prog 108 4 = some (.iconst 5, 1, [], []) := zz_fetch_of p108 rfl rfl
theorem s108_4 : zz_Run zz_prog d 108 (4, [l0, l1, l2], st, k, h) = zz_Run zz_prog d 108 (5, [l0, l1, l2], .int 5 :: st, k, h) := zz_k_num f108_4 rfl
theorem f108_5 : zz_fetch zz_prog 108 5 = some (.iload_n 1, 1, [], []) := zz_fetch_of p108 rfl rfl
theorem s108_5 : zz_Run zz_prog d 108 (5, [l0, some (.int v), l2], st, k, h) = zz_Run zz_prog d 108 (6, [l0, some (.int v), l2], .int v :: st, k, h) := zz_k_num f108_5 rfl
theorem f108_6 : zz_fetch zz_prog 108 6 = some (.imul, 1, [], []) := zz_fetch_of p108 rfl rfl
theorem s108_6 : zz_Run zz_prog d 108 (6, [l0, l1, l2], .int w :: .int v :: st, k, h) = zz_Run zz_prog d 108 (7, [l0, l1, l2], .int (v * w) :: st, k, h) := zz_k_num f108_6 rfl
theorem f108_7 : zz_fetch zz_prog 108 7 = some (.iload_n 2, 1, [], []) := zz_fetch_of p108 rfl rfl
theorem s108_7 : zz_Run zz_prog d 108 (7, [l0, l1, some (.int v)], st, k, h) = zz_Run zz_prog d 108 (8, [l0, l1, some (.int v)], .int v :: st, k, h) := zz_k_num f108_7 rfl
theorem f108_8 : zz_fetch zz_prog 108 8 = some (.iadd, 1, [], []) := zz_fetch_of p108 rfl rfl
theorem s108_8 : zz_Run zz_prog d 108 (8, [l0, l1, l2], .int w :: .int v :: st, k, h) = zz_Run zz_prog d 108 (9, [l0, l1, l2], .int (v + w) :: st, k, h) := zz_k_num f108_8 rfl
theorem f108_9 : zz_fetch zz_prog 108 9 = some (.iaload, 1, [], []) := zz_fetch_of p108 rfl rfl
theorem s108_9 (ha : zz_isrd a = true) : zz_Run zz_prog d 108 (9, [l0, l1, l2], .int v :: .ref a :: st, k, (zz_hp n I J ex)) = zz_ck (zz_in v (zz_ary n a)) (zz_Run zz_prog d 108 (10, [l0, l1, l2], .int (I a v.toNatClampNeg) :: st, k, (zz_hp n I J ex))) := zz_k_iald f108_9 ha
theorem f108_10 : zz_fetch zz_prog 108 10 = some (.ireturn, 1, [0], []) := zz_fetch_of p108 rfl rfl
theorem s108_10 : zz_Run zz_prog d 108 (10, [l0, l1, l2], [.int v], k, h) = some (.inl (some (.int v)), k, h) := zz_k_stop f108_10 rfl rfl rfl
end S108
section S109
variable {d n j : Nat} {l0 l1 l2 l3 l4 : Option Value} {st : List Value} {k : Bool} {h : zz_H} {v w v1 v2 : Int32} {y y1 : Int64} {a a1 a2 : Nat} {b0 b1 b2 b3 b4 b5 b6 b7 b8 : Value} {I : Nat → Nat → Int32} {J : Nat → Nat → Int64} {ex : List (Nat × Nat)}
theorem p109 : zz_prog 109 = some zz_m109 := rfl
theorem e109 (g0 : Nat) (g1 : Int32) (g2 : Int32) : zz_Call zz_prog (d + 1) 109 [.ref g0, .int g1, .int g2] h = zz_Run zz_prog d 109 (0, [some (.ref g0), some (.int g1), some (.int g2), none, none], [], true, h) := rfl
theorem t109 (pc : Nat) (L : List (Option Value)) : zz_th d 109 pc a L k h = some (.inr a, k, h) := zz_th_out p109 rfl
theorem f109_0 : zz_fetch zz_prog 109 0 = some (.iconst 1, 1, [], []) := zz_fetch_of p109 rfl rfl
theorem s109_0 : zz_Run zz_prog d 109 (0, [l0, l1, l2, l3, l4], st, k, h) = zz_Run zz_prog d 109 (1, [l0, l1, l2, l3, l4], .int 1 :: st, k, h) := zz_k_num f109_0 rfl
theorem f109_1 : zz_fetch zz_prog 109 1 = some (.istore_n 3, 1, [], []) := zz_fetch_of p109 rfl rfl
theorem s109_1 : zz_Run zz_prog d 109 (1, [l0, l1, l2, l3, l4], .int v :: st, k, h) = zz_sl l2 (zz_Run zz_prog d 109 (2, [l0, l1, l2, some (.int v), l4], st, k, h)) := zz_k_st (j := 3) (u := .int v) f109_1 rfl (fun q hq => by cases hq) rfl (show 3 < 5 by decide) (by cases l2 <;> rfl) rfl
theorem f109_2 : zz_fetch zz_prog 109 2 = some (.iconst 0, 1, [], []) := zz_fetch_of p109 rfl rfl
theorem s109_2 : zz_Run zz_prog d 109 (2, [l0, l1, l2, l3, l4], st, k, h) = zz_Run zz_prog d 109 (3, [l0, l1, l2, l3, l4], .int 0 :: st, k, h) := zz_k_num f109_2 rfl
theorem f109_3 : zz_fetch zz_prog 109 3 = some (.istore 4, 2, [], []) := zz_fetch_of p109 rfl rfl
theorem s109_3 : zz_Run zz_prog d 109 (3, [l0, l1, l2, l3, l4], .int v :: st, k, h) = zz_sl l3 (zz_Run zz_prog d 109 (5, [l0, l1, l2, l3, some (.int v)], st, k, h)) := zz_k_st (j := 4) (u := .int v) f109_3 rfl (fun q hq => by cases hq) rfl (show 4 < 5 by decide) (by cases l3 <;> rfl) rfl
theorem f109_5 : zz_fetch zz_prog 109 5 = some (.iload 4, 2, [], []) := zz_fetch_of p109 rfl rfl
theorem s109_5 : zz_Run zz_prog d 109 (5, [l0, l1, l2, l3, some (.int v)], st, k, h) = zz_Run zz_prog d 109 (7, [l0, l1, l2, l3, some (.int v)], .int v :: st, k, h) := zz_k_num f109_5 rfl
theorem f109_7 : zz_fetch zz_prog 109 7 = some (.iconst 5, 1, [], []) := zz_fetch_of p109 rfl rfl
theorem s109_7 : zz_Run zz_prog d 109 (7, [l0, l1, l2, l3, l4], st, k, h) = zz_Run zz_prog d 109 (8, [l0, l1, l2, l3, l4], .int 5 :: st, k, h) := zz_k_num f109_7 rfl
theorem f109_8 : zz_fetch zz_prog 109 8 = some (.if_icmp .ge 43, 3, [51], []) := zz_fetch_of p109 rfl rfl
theorem s109_8 : zz_Run zz_prog d 109 (8, [l0, l1, l2, l3, l4], .int w :: .int v :: st, k, h) = if w ≤ v then zz_Run zz_prog d 109 (51, [l0, l1, l2, l3, l4], st, k, h) else zz_Run zz_prog d 109 (11, [l0, l1, l2, l3, l4], st, k, h) := zz_k_br (w ≤ v) rfl (zz_k_num f109_8 rfl)
theorem f109_11 : zz_fetch zz_prog 109 11 = some (.iload_n 3, 1, [], []) := zz_fetch_of p109 rfl rfl
theorem s109_11 : zz_Run zz_prog d 109 (11, [l0, l1, l2, some (.int v), l4], st, k, h) = zz_Run zz_prog d 109 (12, [l0, l1, l2, some (.int v), l4], .int v :: st, k, h) := zz_k_num f109_11 rfl
theorem f109_12 : zz_fetch zz_prog 109 12 = some (.ifCond .eq 31, 3, [43], []) := zz_fetch_of p109 rfl rfl
theorem s109_12 : zz_Run zz_prog d 109 (12, [l0, l1, l2, l3, l4], .int v :: st, k, h) = if v = 0 then zz_Run zz_prog d 109 (43, [l0, l1, l2, l3, l4], st, k, h) else zz_Run zz_prog d 109 (15, [l0, l1, l2, l3, l4], st, k, h) := zz_k_br (v = 0) rfl (zz_k_num f109_12 rfl)
theorem f109_15 : zz_fetch zz_prog 109 15 = some (.aload_n 0, 1, [], []) := zz_fetch_of p109 rfl rfl
theorem s109_15 : zz_Run zz_prog d 109 (15, [some (.ref a), l1, l2, l3, l4], st, k, h) = zz_Run zz_prog d 109 (16, [some (.ref a), l1, l2, l3, l4], .ref a :: st, k, h) := zz_k_num f109_15 rfl
theorem f109_16 : zz_fetch zz_prog 109 16 = some (.getfield 7, 3, [2, 1, 3], []) := zz_fetch_of p109 rfl rfl
theorem s109_16 : zz_Run zz_prog d 109 (16, [l0, l1, l2, l3, l4], .ref 23 :: st, k, (zz_hp n I J ex)) = zz_Run zz_prog d 109 (19, [l0, l1, l2, l3, l4], .ref 24 :: st, k, (zz_hp n I J ex)) := zz_k_go f109_16 rfl rfl rfl
theorem f109_19 : zz_fetch zz_prog 109 19 = some (.bipush 126, 2, [], []) := zz_fetch_of p109 rfl rfl
theorem s109_19 : zz_Run zz_prog d 109 (19, [l0, l1, l2, l3, l4], st, k, h) = zz_Run zz_prog d 109 (21, [l0, l1, l2, l3, l4], .int 126 :: st, k, h) := zz_k_num f109_19 (congrArg (fun u => some (21, [l0, l1, l2, l3, l4], Value.int u :: st)) (by decide : (Int8.ofInt 126).toInt32 = 126))
theorem f109_21 : zz_fetch zz_prog 109 21 = some (.iconst 5, 1, [], []) := zz_fetch_of p109 rfl rfl
theorem s109_21 : zz_Run zz_prog d 109 (21, [l0, l1, l2, l3, l4], st, k, h) = zz_Run zz_prog d 109 (22, [l0, l1, l2, l3, l4], .int 5 :: st, k, h) := zz_k_num f109_21 rfl
theorem f109_22 : zz_fetch zz_prog 109 22 = some (.iload_n 1, 1, [], []) := zz_fetch_of p109 rfl rfl
theorem s109_22 : zz_Run zz_prog d 109 (22, [l0, some (.int v), l2, l3, l4], st, k, h) = zz_Run zz_prog d 109 (23, [l0, some (.int v), l2, l3, l4], .int v :: st, k, h) := zz_k_num f109_22 rfl
theorem f109_23 : zz_fetch zz_prog 109 23 = some (.imul, 1, [], []) := zz_fetch_of p109 rfl rfl
theorem s109_23 : zz_Run zz_prog d 109 (23, [l0, l1, l2, l3, l4], .int w :: .int v :: st, k, h) = zz_Run zz_prog d 109 (24, [l0, l1, l2, l3, l4], .int (v * w) :: st, k, h) := zz_k_num f109_23 rfl
theorem f109_24 : zz_fetch zz_prog 109 24 = some (.iadd, 1, [], []) := zz_fetch_of p109 rfl rfl
theorem s109_24 : zz_Run zz_prog d 109 (24, [l0, l1, l2, l3, l4], .int w :: .int v :: st, k, h) = zz_Run zz_prog d 109 (25, [l0, l1, l2, l3, l4], .int (v + w) :: st, k, h) := zz_k_num f109_24 rfl
theorem f109_25 : zz_fetch zz_prog 109 25 = some (.iload 4, 2, [], []) := zz_fetch_of p109 rfl rfl
theorem s109_25 : zz_Run zz_prog d 109 (25, [l0, l1, l2, l3, some (.int v)], st, k, h) = zz_Run zz_prog d 109 (27, [l0, l1, l2, l3, some (.int v)], .int v :: st, k, h) := zz_k_num f109_25 rfl
theorem f109_27 : zz_fetch zz_prog 109 27 = some (.iadd, 1, [], []) := zz_fetch_of p109 rfl rfl
theorem s109_27 : zz_Run zz_prog d 109 (27, [l0, l1, l2, l3, l4], .int w :: .int v :: st, k, h) = zz_Run zz_prog d 109 (28, [l0, l1, l2, l3, l4], .int (v + w) :: st, k, h) := zz_k_num f109_27 rfl
theorem f109_28 : zz_fetch zz_prog 109 28 = some (.iaload, 1, [], []) := zz_fetch_of p109 rfl rfl
theorem s109_28 (ha : zz_isrd a = true) : zz_Run zz_prog d 109 (28, [l0, l1, l2, l3, l4], .int v :: .ref a :: st, k, (zz_hp n I J ex)) = zz_ck (zz_in v (zz_ary n a)) (zz_Run zz_prog d 109 (29, [l0, l1, l2, l3, l4], .int (I a v.toNatClampNeg) :: st, k, (zz_hp n I J ex))) := zz_k_iald f109_28 ha
theorem f109_29 : zz_fetch zz_prog 109 29 = some (.aload_n 0, 1, [], []) := zz_fetch_of p109 rfl rfl
theorem s109_29 : zz_Run zz_prog d 109 (29, [some (.ref a), l1, l2, l3, l4], st, k, h) = zz_Run zz_prog d 109 (30, [some (.ref a), l1, l2, l3, l4], .ref a :: st, k, h) := zz_k_num f109_29 rfl
theorem f109_30 : zz_fetch zz_prog 109 30 = some (.iload_n 2, 1, [], []) := zz_fetch_of p109 rfl rfl
theorem s109_30 : zz_Run zz_prog d 109 (30, [l0, l1, some (.int v), l3, l4], st, k, h) = zz_Run zz_prog d 109 (31, [l0, l1, some (.int v), l3, l4], .int v :: st, k, h) := zz_k_num f109_30 rfl
theorem f109_31 : zz_fetch zz_prog 109 31 = some (.iload 4, 2, [], []) := zz_fetch_of p109 rfl rfl
theorem s109_31 : zz_Run zz_prog d 109 (31, [l0, l1, l2, l3, some (.int v)], st, k, h) = zz_Run zz_prog d 109 (33, [l0, l1, l2, l3, some (.int v)], .int v :: st, k, h) := zz_k_num f109_31 rfl
theorem f109_33 : zz_fetch zz_prog 109 33 = some (.invokevirtual 123, 3, [0, 108, 3, 2], []) := zz_fetch_of p109 rfl rfl
theorem s109_33 : zz_Run zz_prog d 109 (33, [l0, l1, l2, l3, l4], [b0, b1, .ref 23, b3], k, (zz_hp n I J ex)) = zz_ret (zz_Call zz_prog d 108 [.ref 23, b1, b0] (zz_hp n I J ex)) (fun v k' h' => zz_Run zz_prog d 109 (36, [l0, l1, l2, l3, l4], v.toList ++ [b3], k && k', h')) (fun a k' h' => zz_th d 109 33 a [l0, l1, l2, l3, l4] (k && k') h') := zz_k_call f109_33 rfl rfl rfl
theorem f109_36 : zz_fetch zz_prog 109 36 = some (.if_icmp .lt 7, 3, [43], []) := zz_fetch_of p109 rfl rfl
theorem s109_36 : zz_Run zz_prog d 109 (36, [l0, l1, l2, l3, l4], .int w :: .int v :: st, k, h) = if v < w then zz_Run zz_prog d 109 (43, [l0, l1, l2, l3, l4], st, k, h) else zz_Run zz_prog d 109 (39, [l0, l1, l2, l3, l4], st, k, h) := zz_k_br (v < w) rfl (zz_k_num f109_36 rfl)
theorem f109_39 : zz_fetch zz_prog 109 39 = some (.iconst 1, 1, [], []) := zz_fetch_of p109 rfl rfl
theorem s109_39 : zz_Run zz_prog d 109 (39, [l0, l1, l2, l3, l4], st, k, h) = zz_Run zz_prog d 109 (40, [l0, l1, l2, l3, l4], .int 1 :: st, k, h) := zz_k_num f109_39 rfl
theorem f109_40 : zz_fetch zz_prog 109 40 = some (.goto 4, 3, [44], []) := zz_fetch_of p109 rfl rfl
theorem s109_40 : zz_Run zz_prog d 109 (40, [l0, l1, l2, l3, l4], st, k, h) = zz_Run zz_prog d 109 (44, [l0, l1, l2, l3, l4], st, k, h) := zz_k_num f109_40 rfl
theorem f109_43 : zz_fetch zz_prog 109 43 = some (.iconst 0, 1, [], []) := zz_fetch_of p109 rfl rfl
theorem s109_43 : zz_Run zz_prog d 109 (43, [l0, l1, l2, l3, l4], st, k, h) = zz_Run zz_prog d 109 (44, [l0, l1, l2, l3, l4], .int 0 :: st, k, h) := zz_k_num f109_43 rfl
theorem f109_44 : zz_fetch zz_prog 109 44 = some (.istore_n 3, 1, [], []) := zz_fetch_of p109 rfl rfl
theorem s109_44 : zz_Run zz_prog d 109 (44, [l0, l1, l2, l3, l4], .int v :: st, k, h) = zz_sl l2 (zz_Run zz_prog d 109 (45, [l0, l1, l2, some (.int v), l4], st, k, h)) := zz_k_st (j := 3) (u := .int v) f109_44 rfl (fun q hq => by cases hq) rfl (show 3 < 5 by decide) (by cases l2 <;> rfl) rfl
theorem f109_45 : zz_fetch zz_prog 109 45 = some (.iinc 4 1, 3, [], []) := zz_fetch_of p109 rfl rfl
theorem s109_45 : zz_Run zz_prog d 109 (45, [l0, l1, l2, l3, some (.int v)], st, k, h) = zz_sl l3 (zz_Run zz_prog d 109 (48, [l0, l1, l2, l3, some (.int (v + 1))], st, k, h)) := zz_k_st (j := 4) (u := .int (v + 1)) f109_45 rfl (fun q hq => by cases hq) rfl (show 4 < 5 by decide) (by cases l3 <;> rfl) rfl
theorem f109_48 : zz_fetch zz_prog 109 48 = some (.goto (-43), 3, [5], []) := zz_fetch_of p109 rfl rfl
theorem s109_48 : zz_Run zz_prog d 109 (48, [l0, l1, l2, l3, l4], st, k, h) = zz_Run zz_prog d 109 (5, [l0, l1, l2, l3, l4], st, k, h) := zz_k_num f109_48 rfl
theorem f109_51 : zz_fetch zz_prog 109 51 = some (.iload_n 3, 1, [], []) := zz_fetch_of p109 rfl rfl
theorem s109_51 : zz_Run zz_prog d 109 (51, [l0, l1, l2, some (.int v), l4], st, k, h) = zz_Run zz_prog d 109 (52, [l0, l1, l2, some (.int v), l4], .int v :: st, k, h) := zz_k_num f109_51 rfl
theorem f109_52 : zz_fetch zz_prog 109 52 = some (.ireturn, 1, [1], []) := zz_fetch_of p109 rfl rfl
theorem s109_52 : zz_Run zz_prog d 109 (52, [l0, l1, l2, l3, l4], [.int v], k, h) = zz_ck (decide (v = 0 ∨ v = 1)) (some (.inl (some (.int v)), k, h)) := zz_k_retz f109_52
end S109
section S110
variable {d n j : Nat} {l0 l1 l2 l3 : Option Value} {st : List Value} {k : Bool} {h : zz_H} {v w v1 v2 : Int32} {y y1 : Int64} {a a1 a2 : Nat} {b0 b1 b2 b3 b4 b5 b6 b7 b8 : Value} {I : Nat → Nat → Int32} {J : Nat → Nat → Int64} {ex : List (Nat × Nat)}
theorem p110 : zz_prog 110 = some zz_m110 := rfl
theorem e110 (g0 : Nat) (g1 : Int32) (g2 : Int32) : zz_Call zz_prog (d + 1) 110 [.ref g0, .int g1, .int g2] h = zz_Run zz_prog d 110 (0, [some (.ref g0), some (.int g1), some (.int g2), none], [], true, h) := rfl
theorem t110 (pc : Nat) (L : List (Option Value)) : zz_th d 110 pc a L k h = some (.inr a, k, h) := zz_th_out p110 rfl
theorem f110_0 : zz_fetch zz_prog 110 0 = some (.iconst 0, 1, [], []) := zz_fetch_of p110 rfl rfl
theorem s110_0 : zz_Run zz_prog d 110 (0, [l0, l1, l2, l3], st, k, h) = zz_Run zz_prog d 110 (1, [l0, l1, l2, l3], .int 0 :: st, k, h) := zz_k_num f110_0 rfl
theorem f110_1 : zz_fetch zz_prog 110 1 = some (.istore_n 3, 1, [], []) := zz_fetch_of p110 rfl rfl
theorem s110_1 : zz_Run zz_prog d 110 (1, [l0, l1, l2, l3], .int v :: st, k, h) = zz_sl l2 (zz_Run zz_prog d 110 (2, [l0, l1, l2, some (.int v)], st, k, h)) := zz_k_st (j := 3) (u := .int v) f110_1 rfl (fun q hq => by cases hq) rfl (show 3 < 4 by decide) (by cases l2 <;> rfl) rfl
theorem f110_2 : zz_fetch zz_prog 110 2 = some (.iload_n 3, 1, [], []) := zz_fetch_of p110 rfl rfl
theorem s110_2 : zz_Run zz_prog d 110 (2, [l0, l1, l2, some (.int v)], st, k, h) = zz_Run zz_prog d 110 (3, [l0, l1, l2, some (.int v)], .int v :: st, k, h) := zz_k_num f110_2 rfl
theorem f110_3 : zz_fetch zz_prog 110 3 = some (.iconst 5, 1, [], []) := zz_fetch_of p110 rfl rfl
theorem s110_3 : zz_Run zz_prog d 110 (3, [l0, l1, l2, l3], st, k, h) = zz_Run zz_prog d 110 (4, [l0, l1, l2, l3], .int 5 :: st, k, h) := zz_k_num f110_3 rfl
theorem f110_4 : zz_fetch zz_prog 110 4 = some (.if_icmp .ge 50, 3, [54], []) := zz_fetch_of p110 rfl rfl
theorem s110_4 : zz_Run zz_prog d 110 (4, [l0, l1, l2, l3], .int w :: .int v :: st, k, h) = if w ≤ v then zz_Run zz_prog d 110 (54, [l0, l1, l2, l3], st, k, h) else zz_Run zz_prog d 110 (7, [l0, l1, l2, l3], st, k, h) := zz_k_br (w ≤ v) rfl (zz_k_num f110_4 rfl)
theorem f110_7 : zz_fetch zz_prog 110 7 = some (.aload_n 0, 1, [], []) := zz_fetch_of p110 rfl rfl
theorem s110_7 : zz_Run zz_prog d 110 (7, [some (.ref a), l1, l2, l3], st, k, h) = zz_Run zz_prog d 110 (8, [some (.ref a), l1, l2, l3], .ref a :: st, k, h) := zz_k_num f110_7 rfl
theorem f110_8 : zz_fetch zz_prog 110 8 = some (.getfield 7, 3, [2, 1, 3], []) := zz_fetch_of p110 rfl rfl
theorem s110_8 : zz_Run zz_prog d 110 (8, [l0, l1, l2, l3], .ref 23 :: st, k, (zz_hp n I J ex)) = zz_Run zz_prog d 110 (11, [l0, l1, l2, l3], .ref 24 :: st, k, (zz_hp n I J ex)) := zz_k_go f110_8 rfl rfl rfl
theorem f110_11 : zz_fetch zz_prog 110 11 = some (.bipush 126, 2, [], []) := zz_fetch_of p110 rfl rfl
theorem s110_11 : zz_Run zz_prog d 110 (11, [l0, l1, l2, l3], st, k, h) = zz_Run zz_prog d 110 (13, [l0, l1, l2, l3], .int 126 :: st, k, h) := zz_k_num f110_11 (congrArg (fun u => some (13, [l0, l1, l2, l3], Value.int u :: st)) (by decide : (Int8.ofInt 126).toInt32 = 126))
theorem f110_13 : zz_fetch zz_prog 110 13 = some (.iconst 5, 1, [], []) := zz_fetch_of p110 rfl rfl
theorem s110_13 : zz_Run zz_prog d 110 (13, [l0, l1, l2, l3], st, k, h) = zz_Run zz_prog d 110 (14, [l0, l1, l2, l3], .int 5 :: st, k, h) := zz_k_num f110_13 rfl
theorem f110_14 : zz_fetch zz_prog 110 14 = some (.iload_n 1, 1, [], []) := zz_fetch_of p110 rfl rfl
theorem s110_14 : zz_Run zz_prog d 110 (14, [l0, some (.int v), l2, l3], st, k, h) = zz_Run zz_prog d 110 (15, [l0, some (.int v), l2, l3], .int v :: st, k, h) := zz_k_num f110_14 rfl
theorem f110_15 : zz_fetch zz_prog 110 15 = some (.imul, 1, [], []) := zz_fetch_of p110 rfl rfl
theorem s110_15 : zz_Run zz_prog d 110 (15, [l0, l1, l2, l3], .int w :: .int v :: st, k, h) = zz_Run zz_prog d 110 (16, [l0, l1, l2, l3], .int (v * w) :: st, k, h) := zz_k_num f110_15 rfl
theorem f110_16 : zz_fetch zz_prog 110 16 = some (.iadd, 1, [], []) := zz_fetch_of p110 rfl rfl
theorem s110_16 : zz_Run zz_prog d 110 (16, [l0, l1, l2, l3], .int w :: .int v :: st, k, h) = zz_Run zz_prog d 110 (17, [l0, l1, l2, l3], .int (v + w) :: st, k, h) := zz_k_num f110_16 rfl
theorem f110_17 : zz_fetch zz_prog 110 17 = some (.iload_n 3, 1, [], []) := zz_fetch_of p110 rfl rfl
theorem s110_17 : zz_Run zz_prog d 110 (17, [l0, l1, l2, some (.int v)], st, k, h) = zz_Run zz_prog d 110 (18, [l0, l1, l2, some (.int v)], .int v :: st, k, h) := zz_k_num f110_17 rfl
theorem f110_18 : zz_fetch zz_prog 110 18 = some (.iadd, 1, [], []) := zz_fetch_of p110 rfl rfl
theorem s110_18 : zz_Run zz_prog d 110 (18, [l0, l1, l2, l3], .int w :: .int v :: st, k, h) = zz_Run zz_prog d 110 (19, [l0, l1, l2, l3], .int (v + w) :: st, k, h) := zz_k_num f110_18 rfl
theorem f110_19 : zz_fetch zz_prog 110 19 = some (.dup2, 1, [], []) := zz_fetch_of p110 rfl rfl
theorem s110_19 : zz_Run zz_prog d 110 (19, [l0, l1, l2, l3], .int v :: .ref a1 :: st, k, h) = zz_Run zz_prog d 110 (20, [l0, l1, l2, l3], .int v :: .ref a1 :: .int v :: .ref a1 :: st, k, h) := zz_k_num f110_19 rfl
theorem f110_20 : zz_fetch zz_prog 110 20 = some (.iaload, 1, [], []) := zz_fetch_of p110 rfl rfl
theorem s110_20 (ha : zz_isrd a = true) : zz_Run zz_prog d 110 (20, [l0, l1, l2, l3], .int v :: .ref a :: st, k, (zz_hp n I J ex)) = zz_ck (zz_in v (zz_ary n a)) (zz_Run zz_prog d 110 (21, [l0, l1, l2, l3], .int (I a v.toNatClampNeg) :: st, k, (zz_hp n I J ex))) := zz_k_iald f110_20 ha
theorem f110_21 : zz_fetch zz_prog 110 21 = some (.aload_n 0, 1, [], []) := zz_fetch_of p110 rfl rfl
theorem s110_21 : zz_Run zz_prog d 110 (21, [some (.ref a), l1, l2, l3], st, k, h) = zz_Run zz_prog d 110 (22, [some (.ref a), l1, l2, l3], .ref a :: st, k, h) := zz_k_num f110_21 rfl
theorem f110_22 : zz_fetch zz_prog 110 22 = some (.iload_n 2, 1, [], []) := zz_fetch_of p110 rfl rfl
theorem s110_22 : zz_Run zz_prog d 110 (22, [l0, l1, some (.int v), l3], st, k, h) = zz_Run zz_prog d 110 (23, [l0, l1, some (.int v), l3], .int v :: st, k, h) := zz_k_num f110_22 rfl
theorem f110_23 : zz_fetch zz_prog 110 23 = some (.iload_n 3, 1, [], []) := zz_fetch_of p110 rfl rfl
theorem s110_23 : zz_Run zz_prog d 110 (23, [l0, l1, l2, some (.int v)], st, k, h) = zz_Run zz_prog d 110 (24, [l0, l1, l2, some (.int v)], .int v :: st, k, h) := zz_k_num f110_23 rfl
theorem f110_24 : zz_fetch zz_prog 110 24 = some (.invokevirtual 123, 3, [0, 108, 3, 2], []) := zz_fetch_of p110 rfl rfl
theorem s110_24 : zz_Run zz_prog d 110 (24, [l0, l1, l2, l3], [b0, b1, .ref 23, b3, b4, b5], k, (zz_hp n I J ex)) = zz_ret (zz_Call zz_prog d 108 [.ref 23, b1, b0] (zz_hp n I J ex)) (fun v k' h' => zz_Run zz_prog d 110 (27, [l0, l1, l2, l3], v.toList ++ [b3, b4, b5], k && k', h')) (fun a k' h' => zz_th d 110 24 a [l0, l1, l2, l3] (k && k') h') := zz_k_call f110_24 rfl rfl rfl
theorem f110_27 : zz_fetch zz_prog 110 27 = some (.isub, 1, [], []) := zz_fetch_of p110 rfl rfl
theorem s110_27 : zz_Run zz_prog d 110 (27, [l0, l1, l2, l3], .int w :: .int v :: st, k, h) = zz_Run zz_prog d 110 (28, [l0, l1, l2, l3], .int (v - w) :: st, k, h) := zz_k_num f110_27 rfl
theorem f110_28 : zz_fetch zz_prog 110 28 = some (.iastore, 1, [], []) := zz_fetch_of p110 rfl rfl
theorem s110_28 (ha : zz_isar a = true) : zz_Run zz_prog d 110 (28, [l0, l1, l2, l3], .int w :: .int v :: .ref a :: st, k, (zz_hp n I J ex)) = zz_ck (zz_in v (zz_ary n a)) (zz_Run zz_prog d 110 (29, [l0, l1, l2, l3], st, false, (zz_hp n (zz_up I a v.toNatClampNeg w) J ex))) := zz_k_iast f110_28 ha
theorem f110_29 : zz_fetch zz_prog 110 29 = some (.aload_n 0, 1, [], []) := zz_fetch_of p110 rfl rfl
theorem s110_29 : zz_Run zz_prog d 110 (29, [some (.ref a), l1, l2, l3], st, k, h) = zz_Run zz_prog d 110 (30, [some (.ref a), l1, l2, l3], .ref a :: st, k, h) := zz_k_num f110_29 rfl
theorem f110_30 : zz_fetch zz_prog 110 30 = some (.getfield 7, 3, [2, 1, 3], []) := zz_fetch_of p110 rfl rfl
theorem s110_30 : zz_Run zz_prog d 110 (30, [l0, l1, l2, l3], .ref 23 :: st, k, (zz_hp n I J ex)) = zz_Run zz_prog d 110 (33, [l0, l1, l2, l3], .ref 24 :: st, k, (zz_hp n I J ex)) := zz_k_go f110_30 rfl rfl rfl
theorem f110_33 : zz_fetch zz_prog 110 33 = some (.sipush 146, 3, [], []) := zz_fetch_of p110 rfl rfl
theorem s110_33 : zz_Run zz_prog d 110 (33, [l0, l1, l2, l3], st, k, h) = zz_Run zz_prog d 110 (36, [l0, l1, l2, l3], .int 146 :: st, k, h) := zz_k_num f110_33 (congrArg (fun u => some (36, [l0, l1, l2, l3], Value.int u :: st)) (by decide : (Int16.ofInt 146).toInt32 = 146))
theorem f110_36 : zz_fetch zz_prog 110 36 = some (.iload_n 3, 1, [], []) := zz_fetch_of p110 rfl rfl
theorem s110_36 : zz_Run zz_prog d 110 (36, [l0, l1, l2, some (.int v)], st, k, h) = zz_Run zz_prog d 110 (37, [l0, l1, l2, some (.int v)], .int v :: st, k, h) := zz_k_num f110_36 rfl
theorem f110_37 : zz_fetch zz_prog 110 37 = some (.iadd, 1, [], []) := zz_fetch_of p110 rfl rfl
theorem s110_37 : zz_Run zz_prog d 110 (37, [l0, l1, l2, l3], .int w :: .int v :: st, k, h) = zz_Run zz_prog d 110 (38, [l0, l1, l2, l3], .int (v + w) :: st, k, h) := zz_k_num f110_37 rfl
theorem f110_38 : zz_fetch zz_prog 110 38 = some (.dup2, 1, [], []) := zz_fetch_of p110 rfl rfl
theorem s110_38 : zz_Run zz_prog d 110 (38, [l0, l1, l2, l3], .int v :: .ref a1 :: st, k, h) = zz_Run zz_prog d 110 (39, [l0, l1, l2, l3], .int v :: .ref a1 :: .int v :: .ref a1 :: st, k, h) := zz_k_num f110_38 rfl
theorem f110_39 : zz_fetch zz_prog 110 39 = some (.iaload, 1, [], []) := zz_fetch_of p110 rfl rfl
theorem s110_39 (ha : zz_isrd a = true) : zz_Run zz_prog d 110 (39, [l0, l1, l2, l3], .int v :: .ref a :: st, k, (zz_hp n I J ex)) = zz_ck (zz_in v (zz_ary n a)) (zz_Run zz_prog d 110 (40, [l0, l1, l2, l3], .int (I a v.toNatClampNeg) :: st, k, (zz_hp n I J ex))) := zz_k_iald f110_39 ha
theorem f110_40 : zz_fetch zz_prog 110 40 = some (.aload_n 0, 1, [], []) := zz_fetch_of p110 rfl rfl
theorem s110_40 : zz_Run zz_prog d 110 (40, [some (.ref a), l1, l2, l3], st, k, h) = zz_Run zz_prog d 110 (41, [some (.ref a), l1, l2, l3], .ref a :: st, k, h) := zz_k_num f110_40 rfl
theorem f110_41 : zz_fetch zz_prog 110 41 = some (.iload_n 2, 1, [], []) := zz_fetch_of p110 rfl rfl
theorem s110_41 : zz_Run zz_prog d 110 (41, [l0, l1, some (.int v), l3], st, k, h) = zz_Run zz_prog d 110 (42, [l0, l1, some (.int v), l3], .int v :: st, k, h) := zz_k_num f110_41 rfl
theorem f110_42 : zz_fetch zz_prog 110 42 = some (.iload_n 3, 1, [], []) := zz_fetch_of p110 rfl rfl
theorem s110_42 : zz_Run zz_prog d 110 (42, [l0, l1, l2, some (.int v)], st, k, h) = zz_Run zz_prog d 110 (43, [l0, l1, l2, some (.int v)], .int v :: st, k, h) := zz_k_num f110_42 rfl
theorem f110_43 : zz_fetch zz_prog 110 43 = some (.invokevirtual 123, 3, [0, 108, 3, 2], []) := zz_fetch_of p110 rfl rfl
theorem s110_43 : zz_Run zz_prog d 110 (43, [l0, l1, l2, l3], [b0, b1, .ref 23, b3, b4, b5], k, (zz_hp n I J ex)) = zz_ret (zz_Call zz_prog d 108 [.ref 23, b1, b0] (zz_hp n I J ex)) (fun v k' h' => zz_Run zz_prog d 110 (46, [l0, l1, l2, l3], v.toList ++ [b3, b4, b5], k && k', h')) (fun a k' h' => zz_th d 110 43 a [l0, l1, l2, l3] (k && k') h') := zz_k_call f110_43 rfl rfl rfl
theorem f110_46 : zz_fetch zz_prog 110 46 = some (.iadd, 1, [], []) := zz_fetch_of p110 rfl rfl
theorem s110_46 : zz_Run zz_prog d 110 (46, [l0, l1, l2, l3], .int w :: .int v :: st, k, h) = zz_Run zz_prog d 110 (47, [l0, l1, l2, l3], .int (v + w) :: st, k, h) := zz_k_num f110_46 rfl
theorem f110_47 : zz_fetch zz_prog 110 47 = some (.iastore, 1, [], []) := zz_fetch_of p110 rfl rfl
theorem s110_47 (ha : zz_isar a = true) : zz_Run zz_prog d 110 (47, [l0, l1, l2, l3], .int w :: .int v :: .ref a :: st, k, (zz_hp n I J ex)) = zz_ck (zz_in v (zz_ary n a)) (zz_Run zz_prog d 110 (48, [l0, l1, l2, l3], st, false, (zz_hp n (zz_up I a v.toNatClampNeg w) J ex))) := zz_k_iast f110_47 ha
theorem f110_48 : zz_fetch zz_prog 110 48 = some (.iinc 3 1, 3, [], []) := zz_fetch_of p110 rfl rfl
theorem s110_48 : zz_Run zz_prog d 110 (48, [l0, l1, l2, some (.int v)], st, k, h) = zz_sl l2 (zz_Run zz_prog d 110 (51, [l0, l1, l2, some (.int (v + 1))], st, k, h)) := zz_k_st (j := 3) (u := .int (v + 1)) f110_48 rfl (fun q hq => by cases hq) rfl (show 3 < 4 by decide) (by cases l2 <;> rfl) rfl
theorem f110_51 : zz_fetch zz_prog 110 51 = some (.goto (-49), 3, [2], []) := zz_fetch_of p110 rfl rfl
theorem s110_51 : zz_Run zz_prog d 110 (51, [l0, l1, l2, l3], st, k, h) = zz_Run zz_prog d 110 (2, [l0, l1, l2, l3], st, k, h) := zz_k_num f110_51 rfl
theorem f110_54 : zz_fetch zz_prog 110 54 = some (.return_, 1, [], []) := zz_fetch_of p110 rfl rfl
theorem s110_54 : zz_Run zz_prog d 110 (54, [l0, l1, l2, l3], [], k, h) = some (.inl none, k, h) := zz_k_stop f110_54 rfl rfl rfl
end S110
section S111
variable {d n j : Nat} {l0 l1 l2 l3 : Option Value} {st : List Value} {k : Bool} {h : zz_H} {v w v1 v2 : Int32} {y y1 : Int64} {a a1 a2 : Nat} {b0 b1 b2 b3 b4 b5 b6 b7 b8 : Value} {I : Nat → Nat → Int32} {J : Nat → Nat → Int64} {ex : List (Nat × Nat)}
theorem p111 : zz_prog 111 = some zz_m111 := rfl
theorem e111 (g0 : Nat) (g1 : Int32) : zz_Call zz_prog (d + 1) 111 [.ref g0, .int g1] h = zz_Run zz_prog d 111 (0, [some (.ref g0), some (.int g1), none, none], [], true, h) := rfl
theorem t111 (pc : Nat) (L : List (Option Value)) : zz_th d 111 pc a L k h = some (.inr a, k, h) := zz_th_out p111 rfl
theorem f111_0 : zz_fetch zz_prog 111 0 = some (.aload_n 0, 1, [], []) := zz_fetch_of p111 rfl rfl
theorem s111_0 : zz_Run zz_prog d 111 (0, [some (.ref a), l1, l2, l3], st, k, h) = zz_Run zz_prog d 111 (1, [some (.ref a), l1, l2, l3], .ref a :: st, k, h) := zz_k_num f111_0 rfl
theorem f111_1 : zz_fetch zz_prog 111 1 = some (.getfield 7, 3, [2, 1, 3], []) := zz_fetch_of p111 rfl rfl
theorem s111_1 : zz_Run zz_prog d 111 (1, [l0, l1, l2, l3], .ref 23 :: st, k, (zz_hp n I J ex)) = zz_Run zz_prog d 111 (4, [l0, l1, l2, l3], .ref 24 :: st, k, (zz_hp n I J ex)) := zz_k_go f111_1 rfl rfl rfl
theorem f111_4 : zz_fetch zz_prog 111 4 = some (.sipush 180, 3, [], []) := zz_fetch_of p111 rfl rfl
theorem s111_4 : zz_Run zz_prog d 111 (4, [l0, l1, l2, l3], st, k, h) = zz_Run zz_prog d 111 (7, [l0, l1, l2, l3], .int 180 :: st, k, h) := zz_k_num f111_4 (congrArg (fun u => some (7, [l0, l1, l2, l3], Value.int u :: st)) (by decide : (Int16.ofInt 180).toInt32 = 180))
theorem f111_7 : zz_fetch zz_prog 111 7 = some (.iaload, 1, [], []) := zz_fetch_of p111 rfl rfl
theorem s111_7 (ha : zz_isrd a = true) : zz_Run zz_prog d 111 (7, [l0, l1, l2, l3], .int v :: .ref a :: st, k, (zz_hp n I J ex)) = zz_ck (zz_in v (zz_ary n a)) (zz_Run zz_prog d 111 (8, [l0, l1, l2, l3], .int (I a v.toNatClampNeg) :: st, k, (zz_hp n I J ex))) := zz_k_iald f111_7 ha
theorem f111_8 : zz_fetch zz_prog 111 8 = some (.istore_n 2, 1, [], []) := zz_fetch_of p111 rfl rfl
theorem s111_8 : zz_Run zz_prog d 111 (8, [l0, l1, l2, l3], .int v :: st, k, h) = zz_sl l1 (zz_Run zz_prog d 111 (9, [l0, l1, some (.int v), l3], st, k, h)) := zz_k_st (j := 2) (u := .int v) f111_8 rfl (fun q hq => by cases hq) rfl (show 2 < 4 by decide) (by cases l1 <;> rfl) rfl
theorem f111_9 : zz_fetch zz_prog 111 9 = some (.iload_n 2, 1, [], []) := zz_fetch_of p111 rfl rfl
theorem s111_9 : zz_Run zz_prog d 111 (9, [l0, l1, some (.int v), l3], st, k, h) = zz_Run zz_prog d 111 (10, [l0, l1, some (.int v), l3], .int v :: st, k, h) := zz_k_num f111_9 rfl
theorem f111_10 : zz_fetch zz_prog 111 10 = some (.bipush 6, 2, [], []) := zz_fetch_of p111 rfl rfl
theorem s111_10 : zz_Run zz_prog d 111 (10, [l0, l1, l2, l3], st, k, h) = zz_Run zz_prog d 111 (12, [l0, l1, l2, l3], .int 6 :: st, k, h) := zz_k_num f111_10 (congrArg (fun u => some (12, [l0, l1, l2, l3], Value.int u :: st)) (by decide : (Int8.ofInt 6).toInt32 = 6))
theorem f111_12 : zz_fetch zz_prog 111 12 = some (.if_icmp .eq 28, 3, [40], []) := zz_fetch_of p111 rfl rfl
theorem s111_12 : zz_Run zz_prog d 111 (12, [l0, l1, l2, l3], .int w :: .int v :: st, k, h) = if v = w then zz_Run zz_prog d 111 (40, [l0, l1, l2, l3], st, k, h) else zz_Run zz_prog d 111 (15, [l0, l1, l2, l3], st, k, h) := zz_k_br (v = w) rfl (zz_k_num f111_12 rfl)
theorem f111_15 : zz_fetch zz_prog 111 15 = some (.iload_n 1, 1, [], []) := zz_fetch_of p111 rfl rfl
theorem s111_15 : zz_Run zz_prog d 111 (15, [l0, some (.int v), l2, l3], st, k, h) = zz_Run zz_prog d 111 (16, [l0, some (.int v), l2, l3], .int v :: st, k, h) := zz_k_num f111_15 rfl
theorem f111_16 : zz_fetch zz_prog 111 16 = some (.ifCond .ne 14, 3, [30], []) := zz_fetch_of p111 rfl rfl
theorem s111_16 : zz_Run zz_prog d 111 (16, [l0, l1, l2, l3], .int v :: st, k, h) = if ¬ v = 0 then zz_Run zz_prog d 111 (30, [l0, l1, l2, l3], st, k, h) else zz_Run zz_prog d 111 (19, [l0, l1, l2, l3], st, k, h) := zz_k_br (¬ v = 0) rfl (zz_k_num f111_16 rfl)
theorem f111_19 : zz_fetch zz_prog 111 19 = some (.iload_n 2, 1, [], []) := zz_fetch_of p111 rfl rfl
theorem s111_19 : zz_Run zz_prog d 111 (19, [l0, l1, some (.int v), l3], st, k, h) = zz_Run zz_prog d 111 (20, [l0, l1, some (.int v), l3], .int v :: st, k, h) := zz_k_num f111_19 rfl
theorem f111_20 : zz_fetch zz_prog 111 20 = some (.iconst 2, 1, [], []) := zz_fetch_of p111 rfl rfl
theorem s111_20 : zz_Run zz_prog d 111 (20, [l0, l1, l2, l3], st, k, h) = zz_Run zz_prog d 111 (21, [l0, l1, l2, l3], .int 2 :: st, k, h) := zz_k_num f111_20 rfl
theorem f111_21 : zz_fetch zz_prog 111 21 = some (.if_icmp .eq 19, 3, [40], []) := zz_fetch_of p111 rfl rfl
theorem s111_21 : zz_Run zz_prog d 111 (21, [l0, l1, l2, l3], .int w :: .int v :: st, k, h) = if v = w then zz_Run zz_prog d 111 (40, [l0, l1, l2, l3], st, k, h) else zz_Run zz_prog d 111 (24, [l0, l1, l2, l3], st, k, h) := zz_k_br (v = w) rfl (zz_k_num f111_21 rfl)
theorem f111_24 : zz_fetch zz_prog 111 24 = some (.iload_n 2, 1, [], []) := zz_fetch_of p111 rfl rfl
theorem s111_24 : zz_Run zz_prog d 111 (24, [l0, l1, some (.int v), l3], st, k, h) = zz_Run zz_prog d 111 (25, [l0, l1, some (.int v), l3], .int v :: st, k, h) := zz_k_num f111_24 rfl
theorem f111_25 : zz_fetch zz_prog 111 25 = some (.bipush 7, 2, [], []) := zz_fetch_of p111 rfl rfl
theorem s111_25 : zz_Run zz_prog d 111 (25, [l0, l1, l2, l3], st, k, h) = zz_Run zz_prog d 111 (27, [l0, l1, l2, l3], .int 7 :: st, k, h) := zz_k_num f111_25 (congrArg (fun u => some (27, [l0, l1, l2, l3], Value.int u :: st)) (by decide : (Int8.ofInt 7).toInt32 = 7))
theorem f111_27 : zz_fetch zz_prog 111 27 = some (.if_icmp .eq 13, 3, [40], []) := zz_fetch_of p111 rfl rfl
theorem s111_27 : zz_Run zz_prog d 111 (27, [l0, l1, l2, l3], .int w :: .int v :: st, k, h) = if v = w then zz_Run zz_prog d 111 (40, [l0, l1, l2, l3], st, k, h) else zz_Run zz_prog d 111 (30, [l0, l1, l2, l3], st, k, h) := zz_k_br (v = w) rfl (zz_k_num f111_27 rfl)
theorem f111_30 : zz_fetch zz_prog 111 30 = some (.iload_n 1, 1, [], []) := zz_fetch_of p111 rfl rfl
theorem s111_30 : zz_Run zz_prog d 111 (30, [l0, some (.int v), l2, l3], st, k, h) = zz_Run zz_prog d 111 (31, [l0, some (.int v), l2, l3], .int v :: st, k, h) := zz_k_num f111_30 rfl
theorem f111_31 : zz_fetch zz_prog 111 31 = some (.iconst 1, 1, [], []) := zz_fetch_of p111 rfl rfl
theorem s111_31 : zz_Run zz_prog d 111 (31, [l0, l1, l2, l3], st, k, h) = zz_Run zz_prog d 111 (32, [l0, l1, l2, l3], .int 1 :: st, k, h) := zz_k_num f111_31 rfl
theorem f111_32 : zz_fetch zz_prog 111 32 = some (.if_icmp .ne 12, 3, [44], []) := zz_fetch_of p111 rfl rfl
theorem s111_32 : zz_Run zz_prog d 111 (32, [l0, l1, l2, l3], .int w :: .int v :: st, k, h) = if ¬ v = w then zz_Run zz_prog d 111 (44, [l0, l1, l2, l3], st, k, h) else zz_Run zz_prog d 111 (35, [l0, l1, l2, l3], st, k, h) := zz_k_br (¬ v = w) rfl (zz_k_num f111_32 rfl)
theorem f111_35 : zz_fetch zz_prog 111 35 = some (.iload_n 2, 1, [], []) := zz_fetch_of p111 rfl rfl
theorem s111_35 : zz_Run zz_prog d 111 (35, [l0, l1, some (.int v), l3], st, k, h) = zz_Run zz_prog d 111 (36, [l0, l1, some (.int v), l3], .int v :: st, k, h) := zz_k_num f111_35 rfl
theorem f111_36 : zz_fetch zz_prog 111 36 = some (.iconst 1, 1, [], []) := zz_fetch_of p111 rfl rfl
theorem s111_36 : zz_Run zz_prog d 111 (36, [l0, l1, l2, l3], st, k, h) = zz_Run zz_prog d 111 (37, [l0, l1, l2, l3], .int 1 :: st, k, h) := zz_k_num f111_36 rfl
theorem f111_37 : zz_fetch zz_prog 111 37 = some (.if_icmp .ne 7, 3, [44], []) := zz_fetch_of p111 rfl rfl
theorem s111_37 : zz_Run zz_prog d 111 (37, [l0, l1, l2, l3], .int w :: .int v :: st, k, h) = if ¬ v = w then zz_Run zz_prog d 111 (44, [l0, l1, l2, l3], st, k, h) else zz_Run zz_prog d 111 (40, [l0, l1, l2, l3], st, k, h) := zz_k_br (¬ v = w) rfl (zz_k_num f111_37 rfl)
theorem f111_40 : zz_fetch zz_prog 111 40 = some (.iconst 1, 1, [], []) := zz_fetch_of p111 rfl rfl
theorem s111_40 : zz_Run zz_prog d 111 (40, [l0, l1, l2, l3], st, k, h) = zz_Run zz_prog d 111 (41, [l0, l1, l2, l3], .int 1 :: st, k, h) := zz_k_num f111_40 rfl
theorem f111_41 : zz_fetch zz_prog 111 41 = some (.goto 4, 3, [45], []) := zz_fetch_of p111 rfl rfl
theorem s111_41 : zz_Run zz_prog d 111 (41, [l0, l1, l2, l3], st, k, h) = zz_Run zz_prog d 111 (45, [l0, l1, l2, l3], st, k, h) := zz_k_num f111_41 rfl
theorem f111_44 : zz_fetch zz_prog 111 44 = some (.iconst 0, 1, [], []) := zz_fetch_of p111 rfl rfl
theorem s111_44 : zz_Run zz_prog d 111 (44, [l0, l1, l2, l3], st, k, h) = zz_Run zz_prog d 111 (45, [l0, l1, l2, l3], .int 0 :: st, k, h) := zz_k_num f111_44 rfl
theorem f111_45 : zz_fetch zz_prog 111 45 = some (.istore_n 3, 1, [], []) := zz_fetch_of p111 rfl rfl
theorem s111_45 : zz_Run zz_prog d 111 (45, [l0, l1, l2, l3], .int v :: st, k, h) = zz_sl l2 (zz_Run zz_prog d 111 (46, [l0, l1, l2, some (.int v)], st, k, h)) := zz_k_st (j := 3) (u := .int v) f111_45 rfl (fun q hq => by cases hq) rfl (show 3 < 4 by decide) (by cases l2 <;> rfl) rfl
theorem f111_46 : zz_fetch zz_prog 111 46 = some (.iload_n 3, 1, [], []) := zz_fetch_of p111 rfl rfl
theorem s111_46 : zz_Run zz_prog d 111 (46, [l0, l1, l2, some (.int v)], st, k, h) = zz_Run zz_prog d 111 (47, [l0, l1, l2, some (.int v)], .int v :: st, k, h) := zz_k_num f111_46 rfl
theorem f111_47 : zz_fetch zz_prog 111 47 = some (.ifCond .eq 64, 3, [111], []) := zz_fetch_of p111 rfl rfl
theorem s111_47 : zz_Run zz_prog d 111 (47, [l0, l1, l2, l3], .int v :: st, k, h) = if v = 0 then zz_Run zz_prog d 111 (111, [l0, l1, l2, l3], st, k, h) else zz_Run zz_prog d 111 (50, [l0, l1, l2, l3], st, k, h) := zz_k_br (v = 0) rfl (zz_k_num f111_47 rfl)
theorem f111_50 : zz_fetch zz_prog 111 50 = some (.aload_n 0, 1, [], []) := zz_fetch_of p111 rfl rfl
theorem s111_50 : zz_Run zz_prog d 111 (50, [some (.ref a), l1, l2, l3], st, k, h) = zz_Run zz_prog d 111 (51, [some (.ref a), l1, l2, l3], .ref a :: st, k, h) := zz_k_num f111_50 rfl
theorem f111_51 : zz_fetch zz_prog 111 51 = some (.aload_n 0, 1, [], []) := zz_fetch_of p111 rfl rfl
theorem s111_51 : zz_Run zz_prog d 111 (51, [some (.ref a), l1, l2, l3], st, k, h) = zz_Run zz_prog d 111 (52, [some (.ref a), l1, l2, l3], .ref a :: st, k, h) := zz_k_num f111_51 rfl
theorem f111_52 : zz_fetch zz_prog 111 52 = some (.getfield 7, 3, [2, 1, 3], []) := zz_fetch_of p111 rfl rfl
theorem s111_52 : zz_Run zz_prog d 111 (52, [l0, l1, l2, l3], .ref 23 :: st, k, (zz_hp n I J ex)) = zz_Run zz_prog d 111 (55, [l0, l1, l2, l3], .ref 24 :: st, k, (zz_hp n I J ex)) := zz_k_go f111_52 rfl rfl rfl
theorem f111_55 : zz_fetch zz_prog 111 55 = some (.sipush 181, 3, [], []) := zz_fetch_of p111 rfl rfl
theorem s111_55 : zz_Run zz_prog d 111 (55, [l0, l1, l2, l3], st, k, h) = zz_Run zz_prog d 111 (58, [l0, l1, l2, l3], .int 181 :: st, k, h) := zz_k_num f111_55 (congrArg (fun u => some (58, [l0, l1, l2, l3], Value.int u :: st)) (by decide : (Int16.ofInt 181).toInt32 = 181))
theorem f111_58 : zz_fetch zz_prog 111 58 = some (.iaload, 1, [], []) := zz_fetch_of p111 rfl rfl
theorem s111_58 (ha : zz_isrd a = true) : zz_Run zz_prog d 111 (58, [l0, l1, l2, l3], .int v :: .ref a :: st, k, (zz_hp n I J ex)) = zz_ck (zz_in v (zz_ary n a)) (zz_Run zz_prog d 111 (59, [l0, l1, l2, l3], .int (I a v.toNatClampNeg) :: st, k, (zz_hp n I J ex))) := zz_k_iald f111_58 ha
theorem f111_59 : zz_fetch zz_prog 111 59 = some (.iload_n 1, 1, [], []) := zz_fetch_of p111 rfl rfl
theorem s111_59 : zz_Run zz_prog d 111 (59, [l0, some (.int v), l2, l3], st, k, h) = zz_Run zz_prog d 111 (60, [l0, some (.int v), l2, l3], .int v :: st, k, h) := zz_k_num f111_59 rfl
theorem f111_60 : zz_fetch zz_prog 111 60 = some (.invokevirtual 126, 3, [0, 103, 3, 2], []) := zz_fetch_of p111 rfl rfl
theorem s111_60 : zz_Run zz_prog d 111 (60, [l0, l1, l2, l3], [b0, b1, .ref 23], k, (zz_hp n I J ex)) = zz_ret (zz_Call zz_prog d 103 [.ref 23, b1, b0] (zz_hp n I J ex)) (fun v k' h' => zz_Run zz_prog d 111 (63, [l0, l1, l2, l3], v.toList ++ [], k && k', h')) (fun a k' h' => zz_th d 111 60 a [l0, l1, l2, l3] (k && k') h') := zz_k_call f111_60 rfl rfl rfl
theorem f111_63 : zz_fetch zz_prog 111 63 = some (.iload_n 1, 1, [], []) := zz_fetch_of p111 rfl rfl
theorem s111_63 : zz_Run zz_prog d 111 (63, [l0, some (.int v), l2, l3], st, k, h) = zz_Run zz_prog d 111 (64, [l0, some (.int v), l2, l3], .int v :: st, k, h) := zz_k_num f111_63 rfl
theorem f111_64 : zz_fetch zz_prog 111 64 = some (.ifCond .ne 8, 3, [72], []) := zz_fetch_of p111 rfl rfl
theorem s111_64 : zz_Run zz_prog d 111 (64, [l0, l1, l2, l3], .int v :: st, k, h) = if ¬ v = 0 then zz_Run zz_prog d 111 (72, [l0, l1, l2, l3], st, k, h) else zz_Run zz_prog d 111 (67, [l0, l1, l2, l3], st, k, h) := zz_k_br (¬ v = 0) rfl (zz_k_num f111_64 rfl)
theorem f111_67 : zz_fetch zz_prog 111 67 = some (.bipush 15, 2, [], []) := zz_fetch_of p111 rfl rfl
theorem s111_67 : zz_Run zz_prog d 111 (67, [l0, l1, l2, l3], st, k, h) = zz_Run zz_prog d 111 (69, [l0, l1, l2, l3], .int 15 :: st, k, h) := zz_k_num f111_67 (congrArg (fun u => some (69, [l0, l1, l2, l3], Value.int u :: st)) (by decide : (Int8.ofInt 15).toInt32 = 15))
theorem f111_69 : zz_fetch zz_prog 111 69 = some (.goto 13, 3, [82], []) := zz_fetch_of p111 rfl rfl
theorem s111_69 : zz_Run zz_prog d 111 (69, [l0, l1, l2, l3], st, k, h) = zz_Run zz_prog d 111 (82, [l0, l1, l2, l3], st, k, h) := zz_k_num f111_69 rfl
theorem f111_72 : zz_fetch zz_prog 111 72 = some (.iload_n 1, 1, [], []) := zz_fetch_of p111 rfl rfl
theorem s111_72 : zz_Run zz_prog d 111 (72, [l0, some (.int v), l2, l3], st, k, h) = zz_Run zz_prog d 111 (73, [l0, some (.int v), l2, l3], .int v :: st, k, h) := zz_k_num f111_72 rfl
theorem f111_73 : zz_fetch zz_prog 111 73 = some (.iconst 1, 1, [], []) := zz_fetch_of p111 rfl rfl
theorem s111_73 : zz_Run zz_prog d 111 (73, [l0, l1, l2, l3], st, k, h) = zz_Run zz_prog d 111 (74, [l0, l1, l2, l3], .int 1 :: st, k, h) := zz_k_num f111_73 rfl
theorem f111_74 : zz_fetch zz_prog 111 74 = some (.if_icmp .ne 7, 3, [81], []) := zz_fetch_of p111 rfl rfl
theorem s111_74 : zz_Run zz_prog d 111 (74, [l0, l1, l2, l3], .int w :: .int v :: st, k, h) = if ¬ v = w then zz_Run zz_prog d 111 (81, [l0, l1, l2, l3], st, k, h) else zz_Run zz_prog d 111 (77, [l0, l1, l2, l3], st, k, h) := zz_k_br (¬ v = w) rfl (zz_k_num f111_74 rfl)
theorem f111_77 : zz_fetch zz_prog 111 77 = some (.iconst 5, 1, [], []) := zz_fetch_of p111 rfl rfl
theorem s111_77 : zz_Run zz_prog d 111 (77, [l0, l1, l2, l3], st, k, h) = zz_Run zz_prog d 111 (78, [l0, l1, l2, l3], .int 5 :: st, k, h) := zz_k_num f111_77 rfl
theorem f111_78 : zz_fetch zz_prog 111 78 = some (.goto 4, 3, [82], []) := zz_fetch_of p111 rfl rfl
theorem s111_78 : zz_Run zz_prog d 111 (78, [l0, l1, l2, l3], st, k, h) = zz_Run zz_prog d 111 (82, [l0, l1, l2, l3], st, k, h) := zz_k_num f111_78 rfl
theorem f111_81 : zz_fetch zz_prog 111 81 = some (.iconst 4, 1, [], []) := zz_fetch_of p111 rfl rfl
theorem s111_81 : zz_Run zz_prog d 111 (81, [l0, l1, l2, l3], st, k, h) = zz_Run zz_prog d 111 (82, [l0, l1, l2, l3], .int 4 :: st, k, h) := zz_k_num f111_81 rfl
theorem f111_82 : zz_fetch zz_prog 111 82 = some (.if_icmp .ge 29, 3, [111], []) := zz_fetch_of p111 rfl rfl
theorem s111_82 : zz_Run zz_prog d 111 (82, [l0, l1, l2, l3], .int w :: .int v :: st, k, h) = if w ≤ v then zz_Run zz_prog d 111 (111, [l0, l1, l2, l3], st, k, h) else zz_Run zz_prog d 111 (85, [l0, l1, l2, l3], st, k, h) := zz_k_br (w ≤ v) rfl (zz_k_num f111_82 rfl)
theorem f111_85 : zz_fetch zz_prog 111 85 = some (.iload_n 2, 1, [], []) := zz_fetch_of p111 rfl rfl
theorem s111_85 : zz_Run zz_prog d 111 (85, [l0, l1, some (.int v), l3], st, k, h) = zz_Run zz_prog d 111 (86, [l0, l1, some (.int v), l3], .int v :: st, k, h) := zz_k_num f111_85 rfl
theorem f111_86 : zz_fetch zz_prog 111 86 = some (.bipush 6, 2, [], []) := zz_fetch_of p111 rfl rfl
theorem s111_86 : zz_Run zz_prog d 111 (86, [l0, l1, l2, l3], st, k, h) = zz_Run zz_prog d 111 (88, [l0, l1, l2, l3], .int 6 :: st, k, h) := zz_k_num f111_86 (congrArg (fun u => some (88, [l0, l1, l2, l3], Value.int u :: st)) (by decide : (Int8.ofInt 6).toInt32 = 6))
theorem f111_88 : zz_fetch zz_prog 111 88 = some (.if_icmp .ne 19, 3, [107], []) := zz_fetch_of p111 rfl rfl
theorem s111_88 : zz_Run zz_prog d 111 (88, [l0, l1, l2, l3], .int w :: .int v :: st, k, h) = if ¬ v = w then zz_Run zz_prog d 111 (107, [l0, l1, l2, l3], st, k, h) else zz_Run zz_prog d 111 (91, [l0, l1, l2, l3], st, k, h) := zz_k_br (¬ v = w) rfl (zz_k_num f111_88 rfl)
theorem f111_91 : zz_fetch zz_prog 111 91 = some (.aload_n 0, 1, [], []) := zz_fetch_of p111 rfl rfl
theorem s111_91 : zz_Run zz_prog d 111 (91, [some (.ref a), l1, l2, l3], st, k, h) = zz_Run zz_prog d 111 (92, [some (.ref a), l1, l2, l3], .ref a :: st, k, h) := zz_k_num f111_91 rfl
theorem f111_92 : zz_fetch zz_prog 111 92 = some (.aload_n 0, 1, [], []) := zz_fetch_of p111 rfl rfl
theorem s111_92 : zz_Run zz_prog d 111 (92, [some (.ref a), l1, l2, l3], st, k, h) = zz_Run zz_prog d 111 (93, [some (.ref a), l1, l2, l3], .ref a :: st, k, h) := zz_k_num f111_92 rfl
theorem f111_93 : zz_fetch zz_prog 111 93 = some (.getfield 7, 3, [2, 1, 3], []) := zz_fetch_of p111 rfl rfl
theorem s111_93 : zz_Run zz_prog d 111 (93, [l0, l1, l2, l3], .ref 23 :: st, k, (zz_hp n I J ex)) = zz_Run zz_prog d 111 (96, [l0, l1, l2, l3], .ref 24 :: st, k, (zz_hp n I J ex)) := zz_k_go f111_93 rfl rfl rfl
theorem f111_96 : zz_fetch zz_prog 111 96 = some (.sipush 181, 3, [], []) := zz_fetch_of p111 rfl rfl
theorem s111_96 : zz_Run zz_prog d 111 (96, [l0, l1, l2, l3], st, k, h) = zz_Run zz_prog d 111 (99, [l0, l1, l2, l3], .int 181 :: st, k, h) := zz_k_num f111_96 (congrArg (fun u => some (99, [l0, l1, l2, l3], Value.int u :: st)) (by decide : (Int16.ofInt 181).toInt32 = 181))
theorem f111_99 : zz_fetch zz_prog 111 99 = some (.iaload, 1, [], []) := zz_fetch_of p111 rfl rfl
theorem s111_99 (ha : zz_isrd a = true) : zz_Run zz_prog d 111 (99, [l0, l1, l2, l3], .int v :: .ref a :: st, k, (zz_hp n I J ex)) = zz_ck (zz_in v (zz_ary n a)) (zz_Run zz_prog d 111 (100, [l0, l1, l2, l3], .int (I a v.toNatClampNeg) :: st, k, (zz_hp n I J ex))) := zz_k_iald f111_99 ha
theorem f111_100 : zz_fetch zz_prog 111 100 = some (.iload_n 1, 1, [], []) := zz_fetch_of p111 rfl rfl
theorem s111_100 : zz_Run zz_prog d 111 (100, [l0, some (.int v), l2, l3], st, k, h) = zz_Run zz_prog d 111 (101, [l0, some (.int v), l2, l3], .int v :: st, k, h) := zz_k_num f111_100 rfl
theorem f111_101 : zz_fetch zz_prog 111 101 = some (.invokevirtual 129, 3, [0, 109, 3, 2], []) := zz_fetch_of p111 rfl rfl
theorem s111_101 : zz_Run zz_prog d 111 (101, [l0, l1, l2, l3], [b0, b1, .ref 23], k, (zz_hp n I J ex)) = zz_ret (zz_Call zz_prog d 109 [.ref 23, b1, b0] (zz_hp n I J ex)) (fun v k' h' => zz_Run zz_prog d 111 (104, [l0, l1, l2, l3], v.toList ++ [], k && k', h')) (fun a k' h' => zz_th d 111 101 a [l0, l1, l2, l3] (k && k') h') := zz_k_call f111_101 rfl rfl rfl
theorem f111_104 : zz_fetch zz_prog 111 104 = some (.ifCond .eq 7, 3, [111], []) := zz_fetch_of p111 rfl rfl
theorem s111_104 : zz_Run zz_prog d 111 (104, [l0, l1, l2, l3], .int v :: st, k, h) = if v = 0 then zz_Run zz_prog d 111 (111, [l0, l1, l2, l3], st, k, h) else zz_Run zz_prog d 111 (107, [l0, l1, l2, l3], st, k, h) := zz_k_br (v = 0) rfl (zz_k_num f111_104 rfl)
theorem f111_107 : zz_fetch zz_prog 111 107 = some (.iconst 1, 1, [], []) := zz_fetch_of p111 rfl rfl
theorem s111_107 : zz_Run zz_prog d 111 (107, [l0, l1, l2, l3], st, k, h) = zz_Run zz_prog d 111 (108, [l0, l1, l2, l3], .int 1 :: st, k, h) := zz_k_num f111_107 rfl
theorem f111_108 : zz_fetch zz_prog 111 108 = some (.goto 4, 3, [112], []) := zz_fetch_of p111 rfl rfl
theorem s111_108 : zz_Run zz_prog d 111 (108, [l0, l1, l2, l3], st, k, h) = zz_Run zz_prog d 111 (112, [l0, l1, l2, l3], st, k, h) := zz_k_num f111_108 rfl
theorem f111_111 : zz_fetch zz_prog 111 111 = some (.iconst 0, 1, [], []) := zz_fetch_of p111 rfl rfl
theorem s111_111 : zz_Run zz_prog d 111 (111, [l0, l1, l2, l3], st, k, h) = zz_Run zz_prog d 111 (112, [l0, l1, l2, l3], .int 0 :: st, k, h) := zz_k_num f111_111 rfl
theorem f111_112 : zz_fetch zz_prog 111 112 = some (.ireturn, 1, [1], []) := zz_fetch_of p111 rfl rfl
theorem s111_112 : zz_Run zz_prog d 111 (112, [l0, l1, l2, l3], [.int v], k, h) = zz_ck (decide (v = 0 ∨ v = 1)) (some (.inl (some (.int v)), k, h)) := zz_k_retz f111_112
end S111
section S112
variable {d n j : Nat} {l0 l1 : Option Value} {st : List Value} {k : Bool} {h : zz_H} {v w v1 v2 : Int32} {y y1 : Int64} {a a1 a2 : Nat} {b0 b1 b2 b3 b4 b5 b6 b7 b8 : Value} {I : Nat → Nat → Int32} {J : Nat → Nat → Int64} {ex : List (Nat × Nat)}
theorem p112 : zz_prog 112 = some zz_m112 := rfl
theorem e112 (g0 : Int32) (g1 : Int32) : zz_Call zz_prog (d + 1) 112 [.int g0, .int g1] h = zz_Run zz_prog d 112 (0, [some (.int g0), some (.int g1)], [], true, h) := rfl
theorem t112 (pc : Nat) (L : List (Option Value)) : zz_th d 112 pc a L k h = some (.inr a, k, h) := zz_th_out p112 rfl
theorem f112_0 : zz_fetch zz_prog 112 0 = some (.iload_n 0, 1, [], []) := zz_fetch_of p112 rfl rfl
theorem s112_0 : zz_Run zz_prog d 112 (0, [some (.int v), l1], st, k, h) = zz_Run zz_prog d 112 (1, [some (.int v), l1], .int v :: st, k, h) := zz_k_num f112_0 rfl
theorem f112_1 : zz_fetch zz_prog 112 1 = some (.ifCond .lt 31, 3, [32], []) := zz_fetch_of p112 rfl rfl
theorem s112_1 : zz_Run zz_prog d 112 (1, [l0, l1], .int v :: st, k, h) = if v < 0 then zz_Run zz_prog d 112 (32, [l0, l1], st, k, h) else zz_Run zz_prog d 112 (4, [l0, l1], st, k, h) := zz_k_br (v < 0) rfl (zz_k_num f112_1 rfl)
theorem f112_4 : zz_fetch zz_prog 112 4 = some (.iload_n 0, 1, [], []) := zz_fetch_of p112 rfl rfl
theorem s112_4 : zz_Run zz_prog d 112 (4, [some (.int v), l1], st, k, h) = zz_Run zz_prog d 112 (5, [some (.int v), l1], .int v :: st, k, h) := zz_k_num f112_4 rfl
theorem f112_5 : zz_fetch zz_prog 112 5 = some (.iconst 2, 1, [], []) := zz_fetch_of p112 rfl rfl
theorem s112_5 : zz_Run zz_prog d 112 (5, [l0, l1], st, k, h) = zz_Run zz_prog d 112 (6, [l0, l1], .int 2 :: st, k, h) := zz_k_num f112_5 rfl
theorem f112_6 : zz_fetch zz_prog 112 6 = some (.if_icmp .gt 26, 3, [32], []) := zz_fetch_of p112 rfl rfl
theorem s112_6 : zz_Run zz_prog d 112 (6, [l0, l1], .int w :: .int v :: st, k, h) = if w < v then zz_Run zz_prog d 112 (32, [l0, l1], st, k, h) else zz_Run zz_prog d 112 (9, [l0, l1], st, k, h) := zz_k_br (w < v) rfl (zz_k_num f112_6 rfl)
theorem f112_9 : zz_fetch zz_prog 112 9 = some (.iload_n 1, 1, [], []) := zz_fetch_of p112 rfl rfl
theorem s112_9 : zz_Run zz_prog d 112 (9, [l0, some (.int v)], st, k, h) = zz_Run zz_prog d 112 (10, [l0, some (.int v)], .int v :: st, k, h) := zz_k_num f112_9 rfl
theorem f112_10 : zz_fetch zz_prog 112 10 = some (.ifCond .lt 22, 3, [32], []) := zz_fetch_of p112 rfl rfl
theorem s112_10 : zz_Run zz_prog d 112 (10, [l0, l1], .int v :: st, k, h) = if v < 0 then zz_Run zz_prog d 112 (32, [l0, l1], st, k, h) else zz_Run zz_prog d 112 (13, [l0, l1], st, k, h) := zz_k_br (v < 0) rfl (zz_k_num f112_10 rfl)
theorem f112_13 : zz_fetch zz_prog 112 13 = some (.iload_n 1, 1, [], []) := zz_fetch_of p112 rfl rfl
theorem s112_13 : zz_Run zz_prog d 112 (13, [l0, some (.int v)], st, k, h) = zz_Run zz_prog d 112 (14, [l0, some (.int v)], .int v :: st, k, h) := zz_k_num f112_13 rfl
theorem f112_14 : zz_fetch zz_prog 112 14 = some (.iload_n 0, 1, [], []) := zz_fetch_of p112 rfl rfl
theorem s112_14 : zz_Run zz_prog d 112 (14, [some (.int v), l1], st, k, h) = zz_Run zz_prog d 112 (15, [some (.int v), l1], .int v :: st, k, h) := zz_k_num f112_14 rfl
theorem f112_15 : zz_fetch zz_prog 112 15 = some (.ifCond .ne 8, 3, [23], []) := zz_fetch_of p112 rfl rfl
theorem s112_15 : zz_Run zz_prog d 112 (15, [l0, l1], .int v :: st, k, h) = if ¬ v = 0 then zz_Run zz_prog d 112 (23, [l0, l1], st, k, h) else zz_Run zz_prog d 112 (18, [l0, l1], st, k, h) := zz_k_br (¬ v = 0) rfl (zz_k_num f112_15 rfl)
theorem f112_18 : zz_fetch zz_prog 112 18 = some (.bipush 72, 2, [], []) := zz_fetch_of p112 rfl rfl
theorem s112_18 : zz_Run zz_prog d 112 (18, [l0, l1], st, k, h) = zz_Run zz_prog d 112 (20, [l0, l1], .int 72 :: st, k, h) := zz_k_num f112_18 (congrArg (fun u => some (20, [l0, l1], Value.int u :: st)) (by decide : (Int8.ofInt 72).toInt32 = 72))
theorem f112_20 : zz_fetch zz_prog 112 20 = some (.goto 5, 3, [25], []) := zz_fetch_of p112 rfl rfl
theorem s112_20 : zz_Run zz_prog d 112 (20, [l0, l1], st, k, h) = zz_Run zz_prog d 112 (25, [l0, l1], st, k, h) := zz_k_num f112_20 rfl
theorem f112_23 : zz_fetch zz_prog 112 23 = some (.bipush 54, 2, [], []) := zz_fetch_of p112 rfl rfl
theorem s112_23 : zz_Run zz_prog d 112 (23, [l0, l1], st, k, h) = zz_Run zz_prog d 112 (25, [l0, l1], .int 54 :: st, k, h) := zz_k_num f112_23 (congrArg (fun u => some (25, [l0, l1], Value.int u :: st)) (by decide : (Int8.ofInt 54).toInt32 = 54))
theorem f112_25 : zz_fetch zz_prog 112 25 = some (.if_icmp .ge 7, 3, [32], []) := zz_fetch_of p112 rfl rfl
theorem s112_25 : zz_Run zz_prog d 112 (25, [l0, l1], .int w :: .int v :: st, k, h) = if w ≤ v then zz_Run zz_prog d 112 (32, [l0, l1], st, k, h) else zz_Run zz_prog d 112 (28, [l0, l1], st, k, h) := zz_k_br (w ≤ v) rfl (zz_k_num f112_25 rfl)
theorem f112_28 : zz_fetch zz_prog 112 28 = some (.iconst 1, 1, [], []) := zz_fetch_of p112 rfl rfl
theorem s112_28 : zz_Run zz_prog d 112 (28, [l0, l1], st, k, h) = zz_Run zz_prog d 112 (29, [l0, l1], .int 1 :: st, k, h) := zz_k_num f112_28 rfl
theorem f112_29 : zz_fetch zz_prog 112 29 = some (.goto 4, 3, [33], []) := zz_fetch_of p112 rfl rfl
theorem s112_29 : zz_Run zz_prog d 112 (29, [l0, l1], st, k, h) = zz_Run zz_prog d 112 (33, [l0, l1], st, k, h) := zz_k_num f112_29 rfl
theorem f112_32 : zz_fetch zz_prog 112 32 = some (.iconst 0, 1, [], []) := zz_fetch_of p112 rfl rfl
theorem s112_32 : zz_Run zz_prog d 112 (32, [l0, l1], st, k, h) = zz_Run zz_prog d 112 (33, [l0, l1], .int 0 :: st, k, h) := zz_k_num f112_32 rfl
theorem f112_33 : zz_fetch zz_prog 112 33 = some (.ireturn, 1, [1], []) := zz_fetch_of p112 rfl rfl
theorem s112_33 : zz_Run zz_prog d 112 (33, [l0, l1], [.int v], k, h) = zz_ck (decide (v = 0 ∨ v = 1)) (some (.inl (some (.int v)), k, h)) := zz_k_retz f112_33
end S112
section S113
variable {d n j : Nat} {l0 l1 l2 l3 l4 l5 : Option Value} {st : List Value} {k : Bool} {h : zz_H} {v w v1 v2 : Int32} {y y1 : Int64} {a a1 a2 : Nat} {b0 b1 b2 b3 b4 b5 b6 b7 b8 : Value} {I : Nat → Nat → Int32} {J : Nat → Nat → Int64} {ex : List (Nat × Nat)}
theorem p113 : zz_prog 113 = some zz_m113 := rfl
theorem e113 (g0 : Nat) (g1 : Int32) : zz_Call zz_prog (d + 1) 113 [.ref g0, .int g1] h = zz_Run zz_prog d 113 (0, [some (.ref g0), some (.int g1), none, none, none, none], [], true, h) := rfl
theorem t113 (pc : Nat) (L : List (Option Value)) : zz_th d 113 pc a L k h = some (.inr a, k, h) := zz_th_out p113 rfl
theorem f113_0 : zz_fetch zz_prog 113 0 = some (.iconst 0, 1, [], []) := zz_fetch_of p113 rfl rfl
theorem s113_0 : zz_Run zz_prog d 113 (0, [l0, l1, l2, l3, l4, l5], st, k, h) = zz_Run zz_prog d 113 (1, [l0, l1, l2, l3, l4, l5], .int 0 :: st, k, h) := zz_k_num f113_0 rfl
theorem f113_1 : zz_fetch zz_prog 113 1 = some (.istore_n 2, 1, [], []) := zz_fetch_of p113 rfl rfl
theorem s113_1 : zz_Run zz_prog d 113 (1, [l0, l1, l2, l3, l4, l5], .int v :: st, k, h) = zz_sl l1 (zz_Run zz_prog d 113 (2, [l0, l1, some (.int v), l3, l4, l5], st, k, h)) := zz_k_st (j := 2) (u := .int v) f113_1 rfl (fun q hq => by cases hq) rfl (show 2 < 6 by decide) (by cases l1 <;> rfl) rfl
theorem f113_2 : zz_fetch zz_prog 113 2 = some (.iconst 0, 1, [], []) := zz_fetch_of p113 rfl rfl
theorem s113_2 : zz_Run zz_prog d 113 (2, [l0, l1, l2, l3, l4, l5], st, k, h) = zz_Run zz_prog d 113 (3, [l0, l1, l2, l3, l4, l5], .int 0 :: st, k, h) := zz_k_num f113_2 rfl
theorem f113_3 : zz_fetch zz_prog 113 3 = some (.istore_n 3, 1, [], []) := zz_fetch_of p113 rfl rfl
theorem s113_3 : zz_Run zz_prog d 113 (3, [l0, l1, l2, l3, l4, l5], .int v :: st, k, h) = zz_sl l2 (zz_Run zz_prog d 113 (4, [l0, l1, l2, some (.int v), l4, l5], st, k, h)) := zz_k_st (j := 3) (u := .int v) f113_3 rfl (fun q hq => by cases hq) rfl (show 3 < 6 by decide) (by cases l2 <;> rfl) rfl
theorem f113_4 : zz_fetch zz_prog 113 4 = some (.iload_n 3, 1, [], []) := zz_fetch_of p113 rfl rfl
theorem s113_4 : zz_Run zz_prog d 113 (4, [l0, l1, l2, some (.int v), l4, l5], st, k, h) = zz_Run zz_prog d 113 (5, [l0, l1, l2, some (.int v), l4, l5], .int v :: st, k, h) := zz_k_num f113_4 rfl
theorem f113_5 : zz_fetch zz_prog 113 5 = some (.bipush 72, 2, [], []) := zz_fetch_of p113 rfl rfl
theorem s113_5 : zz_Run zz_prog d 113 (5, [l0, l1, l2, l3, l4, l5], st, k, h) = zz_Run zz_prog d 113 (7, [l0, l1, l2, l3, l4, l5], .int 72 :: st, k, h) := zz_k_num f113_5 (congrArg (fun u => some (7, [l0, l1, l2, l3, l4, l5], Value.int u :: st)) (by decide : (Int8.ofInt 72).toInt32 = 72))
theorem f113_7 : zz_fetch zz_prog 113 7 = some (.if_icmp .ge 33, 3, [40], []) := zz_fetch_of p113 rfl rfl
theorem s113_7 : zz_Run zz_prog d 113 (7, [l0, l1, l2, l3, l4, l5], .int w :: .int v :: st, k, h) = if w ≤ v then zz_Run zz_prog d 113 (40, [l0, l1, l2, l3, l4, l5], st, k, h) else zz_Run zz_prog d 113 (10, [l0, l1, l2, l3, l4, l5], st, k, h) := zz_k_br (w ≤ v) rfl (zz_k_num f113_7 rfl)
theorem f113_10 : zz_fetch zz_prog 113 10 = some (.aload_n 0, 1, [], []) := zz_fetch_of p113 rfl rfl
theorem s113_10 : zz_Run zz_prog d 113 (10, [some (.ref a), l1, l2, l3, l4, l5], st, k, h) = zz_Run zz_prog d 113 (11, [some (.ref a), l1, l2, l3, l4, l5], .ref a :: st, k, h) := zz_k_num f113_10 rfl
theorem f113_11 : zz_fetch zz_prog 113 11 = some (.getfield 7, 3, [2, 1, 3], []) := zz_fetch_of p113 rfl rfl
theorem s113_11 : zz_Run zz_prog d 113 (11, [l0, l1, l2, l3, l4, l5], .ref 23 :: st, k, (zz_hp n I J ex)) = zz_Run zz_prog d 113 (14, [l0, l1, l2, l3, l4, l5], .ref 24 :: st, k, (zz_hp n I J ex)) := zz_k_go f113_11 rfl rfl rfl
theorem f113_14 : zz_fetch zz_prog 113 14 = some (.iconst 0, 1, [], []) := zz_fetch_of p113 rfl rfl
theorem s113_14 : zz_Run zz_prog d 113 (14, [l0, l1, l2, l3, l4, l5], st, k, h) = zz_Run zz_prog d 113 (15, [l0, l1, l2, l3, l4, l5], .int 0 :: st, k, h) := zz_k_num f113_14 rfl
theorem f113_15 : zz_fetch zz_prog 113 15 = some (.iload_n 3, 1, [], []) := zz_fetch_of p113 rfl rfl
theorem s113_15 : zz_Run zz_prog d 113 (15, [l0, l1, l2, some (.int v), l4, l5], st, k, h) = zz_Run zz_prog d 113 (16, [l0, l1, l2, some (.int v), l4, l5], .int v :: st, k, h) := zz_k_num f113_15 rfl
theorem f113_16 : zz_fetch zz_prog 113 16 = some (.iadd, 1, [], []) := zz_fetch_of p113 rfl rfl
theorem s113_16 : zz_Run zz_prog d 113 (16, [l0, l1, l2, l3, l4, l5], .int w :: .int v :: st, k, h) = zz_Run zz_prog d 113 (17, [l0, l1, l2, l3, l4, l5], .int (v + w) :: st, k, h) := zz_k_num f113_16 rfl
theorem f113_17 : zz_fetch zz_prog 113 17 = some (.iaload, 1, [], []) := zz_fetch_of p113 rfl rfl
theorem s113_17 (ha : zz_isrd a = true) : zz_Run zz_prog d 113 (17, [l0, l1, l2, l3, l4, l5], .int v :: .ref a :: st, k, (zz_hp n I J ex)) = zz_ck (zz_in v (zz_ary n a)) (zz_Run zz_prog d 113 (18, [l0, l1, l2, l3, l4, l5], .int (I a v.toNatClampNeg) :: st, k, (zz_hp n I J ex))) := zz_k_iald f113_17 ha
theorem f113_18 : zz_fetch zz_prog 113 18 = some (.iload_n 1, 1, [], []) := zz_fetch_of p113 rfl rfl
theorem s113_18 : zz_Run zz_prog d 113 (18, [l0, some (.int v), l2, l3, l4, l5], st, k, h) = zz_Run zz_prog d 113 (19, [l0, some (.int v), l2, l3, l4, l5], .int v :: st, k, h) := zz_k_num f113_18 rfl
theorem f113_19 : zz_fetch zz_prog 113 19 = some (.iconst 1, 1, [], []) := zz_fetch_of p113 rfl rfl
theorem s113_19 : zz_Run zz_prog d 113 (19, [l0, l1, l2, l3, l4, l5], st, k, h) = zz_Run zz_prog d 113 (20, [l0, l1, l2, l3, l4, l5], .int 1 :: st, k, h) := zz_k_num f113_19 rfl
theorem f113_20 : zz_fetch zz_prog 113 20 = some (.iadd, 1, [], []) := zz_fetch_of p113 rfl rfl
theorem s113_20 : zz_Run zz_prog d 113 (20, [l0, l1, l2, l3, l4, l5], .int w :: .int v :: st, k, h) = zz_Run zz_prog d 113 (21, [l0, l1, l2, l3, l4, l5], .int (v + w) :: st, k, h) := zz_k_num f113_20 rfl
theorem f113_21 : zz_fetch zz_prog 113 21 = some (.if_icmp .ne 13, 3, [34], []) := zz_fetch_of p113 rfl rfl
theorem s113_21 : zz_Run zz_prog d 113 (21, [l0, l1, l2, l3, l4, l5], .int w :: .int v :: st, k, h) = if ¬ v = w then zz_Run zz_prog d 113 (34, [l0, l1, l2, l3, l4, l5], st, k, h) else zz_Run zz_prog d 113 (24, [l0, l1, l2, l3, l4, l5], st, k, h) := zz_k_br (¬ v = w) rfl (zz_k_num f113_21 rfl)
theorem f113_24 : zz_fetch zz_prog 113 24 = some (.aload_n 0, 1, [], []) := zz_fetch_of p113 rfl rfl
theorem s113_24 : zz_Run zz_prog d 113 (24, [some (.ref a), l1, l2, l3, l4, l5], st, k, h) = zz_Run zz_prog d 113 (25, [some (.ref a), l1, l2, l3, l4, l5], .ref a :: st, k, h) := zz_k_num f113_24 rfl
theorem f113_25 : zz_fetch zz_prog 113 25 = some (.getfield 55, 3, [2, 20, 3], []) := zz_fetch_of p113 rfl rfl
theorem s113_25 : zz_Run zz_prog d 113 (25, [l0, l1, l2, l3, l4, l5], .ref 23 :: st, k, (zz_hp n I J ex)) = zz_Run zz_prog d 113 (28, [l0, l1, l2, l3, l4, l5], .ref 39 :: st, k, (zz_hp n I J ex)) := zz_k_go f113_25 rfl rfl rfl
theorem f113_28 : zz_fetch zz_prog 113 28 = some (.iload_n 2, 1, [], []) := zz_fetch_of p113 rfl rfl
theorem s113_28 : zz_Run zz_prog d 113 (28, [l0, l1, some (.int v), l3, l4, l5], st, k, h) = zz_Run zz_prog d 113 (29, [l0, l1, some (.int v), l3, l4, l5], .int v :: st, k, h) := zz_k_num f113_28 rfl
theorem f113_29 : zz_fetch zz_prog 113 29 = some (.iload_n 3, 1, [], []) := zz_fetch_of p113 rfl rfl
theorem s113_29 : zz_Run zz_prog d 113 (29, [l0, l1, l2, some (.int v), l4, l5], st, k, h) = zz_Run zz_prog d 113 (30, [l0, l1, l2, some (.int v), l4, l5], .int v :: st, k, h) := zz_k_num f113_29 rfl
theorem f113_30 : zz_fetch zz_prog 113 30 = some (.iastore, 1, [], []) := zz_fetch_of p113 rfl rfl
theorem s113_30 (ha : zz_isar a = true) : zz_Run zz_prog d 113 (30, [l0, l1, l2, l3, l4, l5], .int w :: .int v :: .ref a :: st, k, (zz_hp n I J ex)) = zz_ck (zz_in v (zz_ary n a)) (zz_Run zz_prog d 113 (31, [l0, l1, l2, l3, l4, l5], st, false, (zz_hp n (zz_up I a v.toNatClampNeg w) J ex))) := zz_k_iast f113_30 ha
theorem f113_31 : zz_fetch zz_prog 113 31 = some (.iinc 2 1, 3, [], []) := zz_fetch_of p113 rfl rfl
theorem s113_31 : zz_Run zz_prog d 113 (31, [l0, l1, some (.int v), l3, l4, l5], st, k, h) = zz_sl l1 (zz_Run zz_prog d 113 (34, [l0, l1, some (.int (v + 1)), l3, l4, l5], st, k, h)) := zz_k_st (j := 2) (u := .int (v + 1)) f113_31 rfl (fun q hq => by cases hq) rfl (show 2 < 6 by decide) (by cases l1 <;> rfl) rfl
theorem f113_34 : zz_fetch zz_prog 113 34 = some (.iinc 3 1, 3, [], []) := zz_fetch_of p113 rfl rfl
theorem s113_34 : zz_Run zz_prog d 113 (34, [l0, l1, l2, some (.int v), l4, l5], st, k, h) = zz_sl l2 (zz_Run zz_prog d 113 (37, [l0, l1, l2, some (.int (v + 1)), l4, l5], st, k, h)) := zz_k_st (j := 3) (u := .int (v + 1)) f113_34 rfl (fun q hq => by cases hq) rfl (show 3 < 6 by decide) (by cases l2 <;> rfl) rfl
theorem f113_37 : zz_fetch zz_prog 113 37 = some (.goto (-33), 3, [4], []) := zz_fetch_of p113 rfl rfl
theorem s113_37 : zz_Run zz_prog d 113 (37, [l0, l1, l2, l3, l4, l5], st, k, h) = zz_Run zz_prog d 113 (4, [l0, l1, l2, l3, l4, l5], st, k, h) := zz_k_num f113_37 rfl
theorem f113_40 : zz_fetch zz_prog 113 40 = some (.iconst 0, 1, [], []) := zz_fetch_of p113 rfl rfl
theorem s113_40 : zz_Run zz_prog d 113 (40, [l0, l1, l2, l3, l4, l5], st, k, h) = zz_Run zz_prog d 113 (41, [l0, l1, l2, l3, l4, l5], .int 0 :: st, k, h) := zz_k_num f113_40 rfl
theorem f113_41 : zz_fetch zz_prog 113 41 = some (.istore_n 3, 1, [], []) := zz_fetch_of p113 rfl rfl
theorem s113_41 : zz_Run zz_prog d 113 (41, [l0, l1, l2, l3, l4, l5], .int v :: st, k, h) = zz_sl l2 (zz_Run zz_prog d 113 (42, [l0, l1, l2, some (.int v), l4, l5], st, k, h)) := zz_k_st (j := 3) (u := .int v) f113_41 rfl (fun q hq => by cases hq) rfl (show 3 < 6 by decide) (by cases l2 <;> rfl) rfl
theorem f113_42 : zz_fetch zz_prog 113 42 = some (.iconst 0, 1, [], []) := zz_fetch_of p113 rfl rfl
theorem s113_42 : zz_Run zz_prog d 113 (42, [l0, l1, l2, l3, l4, l5], st, k, h) = zz_Run zz_prog d 113 (43, [l0, l1, l2, l3, l4, l5], .int 0 :: st, k, h) := zz_k_num f113_42 rfl
theorem f113_43 : zz_fetch zz_prog 113 43 = some (.istore 4, 2, [], []) := zz_fetch_of p113 rfl rfl
theorem s113_43 : zz_Run zz_prog d 113 (43, [l0, l1, l2, l3, l4, l5], .int v :: st, k, h) = zz_sl l3 (zz_Run zz_prog d 113 (45, [l0, l1, l2, l3, some (.int v), l5], st, k, h)) := zz_k_st (j := 4) (u := .int v) f113_43 rfl (fun q hq => by cases hq) rfl (show 4 < 6 by decide) (by cases l3 <;> rfl) rfl
theorem f113_45 : zz_fetch zz_prog 113 45 = some (.iload 4, 2, [], []) := zz_fetch_of p113 rfl rfl
theorem s113_45 : zz_Run zz_prog d 113 (45, [l0, l1, l2, l3, some (.int v), l5], st, k, h) = zz_Run zz_prog d 113 (47, [l0, l1, l2, l3, some (.int v), l5], .int v :: st, k, h) := zz_k_num f113_45 rfl
theorem f113_47 : zz_fetch zz_prog 113 47 = some (.bipush 54, 2, [], []) := zz_fetch_of p113 rfl rfl
theorem s113_47 : zz_Run zz_prog d 113 (47, [l0, l1, l2, l3, l4, l5], st, k, h) = zz_Run zz_prog d 113 (49, [l0, l1, l2, l3, l4, l5], .int 54 :: st, k, h) := zz_k_num f113_47 (congrArg (fun u => some (49, [l0, l1, l2, l3, l4, l5], Value.int u :: st)) (by decide : (Int8.ofInt 54).toInt32 = 54))
theorem f113_49 : zz_fetch zz_prog 113 49 = some (.if_icmp .ge 46, 3, [95], []) := zz_fetch_of p113 rfl rfl
theorem s113_49 : zz_Run zz_prog d 113 (49, [l0, l1, l2, l3, l4, l5], .int w :: .int v :: st, k, h) = if w ≤ v then zz_Run zz_prog d 113 (95, [l0, l1, l2, l3, l4, l5], st, k, h) else zz_Run zz_prog d 113 (52, [l0, l1, l2, l3, l4, l5], st, k, h) := zz_k_br (w ≤ v) rfl (zz_k_num f113_49 rfl)
theorem f113_52 : zz_fetch zz_prog 113 52 = some (.aload_n 0, 1, [], []) := zz_fetch_of p113 rfl rfl
theorem s113_52 : zz_Run zz_prog d 113 (52, [some (.ref a), l1, l2, l3, l4, l5], st, k, h) = zz_Run zz_prog d 113 (53, [some (.ref a), l1, l2, l3, l4, l5], .ref a :: st, k, h) := zz_k_num f113_52 rfl
theorem f113_53 : zz_fetch zz_prog 113 53 = some (.iload 4, 2, [], []) := zz_fetch_of p113 rfl rfl
theorem s113_53 : zz_Run zz_prog d 113 (53, [l0, l1, l2, l3, some (.int v), l5], st, k, h) = zz_Run zz_prog d 113 (55, [l0, l1, l2, l3, some (.int v), l5], .int v :: st, k, h) := zz_k_num f113_53 rfl
theorem f113_55 : zz_fetch zz_prog 113 55 = some (.iload_n 1, 1, [], []) := zz_fetch_of p113 rfl rfl
theorem s113_55 : zz_Run zz_prog d 113 (55, [l0, some (.int v), l2, l3, l4, l5], st, k, h) = zz_Run zz_prog d 113 (56, [l0, some (.int v), l2, l3, l4, l5], .int v :: st, k, h) := zz_k_num f113_55 rfl
theorem f113_56 : zz_fetch zz_prog 113 56 = some (.invokevirtual 114, 3, [0, 104, 3, 2], []) := zz_fetch_of p113 rfl rfl
theorem s113_56 : zz_Run zz_prog d 113 (56, [l0, l1, l2, l3, l4, l5], [b0, b1, .ref 23], k, (zz_hp n I J ex)) = zz_ret (zz_Call zz_prog d 104 [.ref 23, b1, b0] (zz_hp n I J ex)) (fun v k' h' => zz_Run zz_prog d 113 (59, [l0, l1, l2, l3, l4, l5], v.toList ++ [], k && k', h')) (fun a k' h' => zz_th d 113 56 a [l0, l1, l2, l3, l4, l5] (k && k') h') := zz_k_call f113_56 rfl rfl rfl
theorem f113_59 : zz_fetch zz_prog 113 59 = some (.ifCond .eq 14, 3, [73], []) := zz_fetch_of p113 rfl rfl
theorem s113_59 : zz_Run zz_prog d 113 (59, [l0, l1, l2, l3, l4, l5], .int v :: st, k, h) = if v = 0 then zz_Run zz_prog d 113 (73, [l0, l1, l2, l3, l4, l5], st, k, h) else zz_Run zz_prog d 113 (62, [l0, l1, l2, l3, l4, l5], st, k, h) := zz_k_br (v = 0) rfl (zz_k_num f113_59 rfl)
theorem f113_62 : zz_fetch zz_prog 113 62 = some (.aload_n 0, 1, [], []) := zz_fetch_of p113 rfl rfl
theorem s113_62 : zz_Run zz_prog d 113 (62, [some (.ref a), l1, l2, l3, l4, l5], st, k, h) = zz_Run zz_prog d 113 (63, [some (.ref a), l1, l2, l3, l4, l5], .ref a :: st, k, h) := zz_k_num f113_62 rfl
theorem f113_63 : zz_fetch zz_prog 113 63 = some (.iload 4, 2, [], []) := zz_fetch_of p113 rfl rfl
theorem s113_63 : zz_Run zz_prog d 113 (63, [l0, l1, l2, l3, some (.int v), l5], st, k, h) = zz_Run zz_prog d 113 (65, [l0, l1, l2, l3, some (.int v), l5], .int v :: st, k, h) := zz_k_num f113_63 rfl
theorem f113_65 : zz_fetch zz_prog 113 65 = some (.iload_n 1, 1, [], []) := zz_fetch_of p113 rfl rfl
theorem s113_65 : zz_Run zz_prog d 113 (65, [l0, some (.int v), l2, l3, l4, l5], st, k, h) = zz_Run zz_prog d 113 (66, [l0, some (.int v), l2, l3, l4, l5], .int v :: st, k, h) := zz_k_num f113_65 rfl
theorem f113_66 : zz_fetch zz_prog 113 66 = some (.iload_n 2, 1, [], []) := zz_fetch_of p113 rfl rfl
theorem s113_66 : zz_Run zz_prog d 113 (66, [l0, l1, some (.int v), l3, l4, l5], st, k, h) = zz_Run zz_prog d 113 (67, [l0, l1, some (.int v), l3, l4, l5], .int v :: st, k, h) := zz_k_num f113_66 rfl
theorem f113_67 : zz_fetch zz_prog 113 67 = some (.invokevirtual 132, 3, [0, 114, 4, 2], []) := zz_fetch_of p113 rfl rfl
theorem s113_67 : zz_Run zz_prog d 113 (67, [l0, l1, l2, l3, l4, l5], [b0, b1, b2, .ref 23], k, (zz_hp n I J ex)) = zz_ret (zz_Call zz_prog d 114 [.ref 23, b2, b1, b0] (zz_hp n I J ex)) (fun v k' h' => zz_Run zz_prog d 113 (70, [l0, l1, l2, l3, l4, l5], v.toList ++ [], k && k', h')) (fun a k' h' => zz_th d 113 67 a [l0, l1, l2, l3, l4, l5] (k && k') h') := zz_k_call f113_67 rfl rfl rfl
theorem f113_70 : zz_fetch zz_prog 113 70 = some (.goto 4, 3, [74], []) := zz_fetch_of p113 rfl rfl
theorem s113_70 : zz_Run zz_prog d 113 (70, [l0, l1, l2, l3, l4, l5], st, k, h) = zz_Run zz_prog d 113 (74, [l0, l1, l2, l3, l4, l5], st, k, h) := zz_k_num f113_70 rfl
theorem f113_73 : zz_fetch zz_prog 113 73 = some (.iconst 0, 1, [], []) := zz_fetch_of p113 rfl rfl
theorem s113_73 : zz_Run zz_prog d 113 (73, [l0, l1, l2, l3, l4, l5], st, k, h) = zz_Run zz_prog d 113 (74, [l0, l1, l2, l3, l4, l5], .int 0 :: st, k, h) := zz_k_num f113_73 rfl
theorem f113_74 : zz_fetch zz_prog 113 74 = some (.istore 5, 2, [], []) := zz_fetch_of p113 rfl rfl
theorem s113_74 : zz_Run zz_prog d 113 (74, [l0, l1, l2, l3, l4, l5], .int v :: st, k, h) = zz_sl l4 (zz_Run zz_prog d 113 (76, [l0, l1, l2, l3, l4, some (.int v)], st, k, h)) := zz_k_st (j := 5) (u := .int v) f113_74 rfl (fun q hq => by cases hq) rfl (show 5 < 6 by decide) (by cases l4 <;> rfl) rfl
theorem f113_76 : zz_fetch zz_prog 113 76 = some (.iload 5, 2, [], []) := zz_fetch_of p113 rfl rfl
theorem s113_76 : zz_Run zz_prog d 113 (76, [l0, l1, l2, l3, l4, some (.int v)], st, k, h) = zz_Run zz_prog d 113 (78, [l0, l1, l2, l3, l4, some (.int v)], .int v :: st, k, h) := zz_k_num f113_76 rfl
theorem f113_78 : zz_fetch zz_prog 113 78 = some (.iload_n 3, 1, [], []) := zz_fetch_of p113 rfl rfl
theorem s113_78 : zz_Run zz_prog d 113 (78, [l0, l1, l2, some (.int v), l4, l5], st, k, h) = zz_Run zz_prog d 113 (79, [l0, l1, l2, some (.int v), l4, l5], .int v :: st, k, h) := zz_k_num f113_78 rfl
theorem f113_79 : zz_fetch zz_prog 113 79 = some (.if_icmp .le 8, 3, [87], []) := zz_fetch_of p113 rfl rfl
theorem s113_79 : zz_Run zz_prog d 113 (79, [l0, l1, l2, l3, l4, l5], .int w :: .int v :: st, k, h) = if v ≤ w then zz_Run zz_prog d 113 (87, [l0, l1, l2, l3, l4, l5], st, k, h) else zz_Run zz_prog d 113 (82, [l0, l1, l2, l3, l4, l5], st, k, h) := zz_k_br (v ≤ w) rfl (zz_k_num f113_79 rfl)
theorem f113_82 : zz_fetch zz_prog 113 82 = some (.iload 5, 2, [], []) := zz_fetch_of p113 rfl rfl
theorem s113_82 : zz_Run zz_prog d 113 (82, [l0, l1, l2, l3, l4, some (.int v)], st, k, h) = zz_Run zz_prog d 113 (84, [l0, l1, l2, l3, l4, some (.int v)], .int v :: st, k, h) := zz_k_num f113_82 rfl
theorem f113_84 : zz_fetch zz_prog 113 84 = some (.goto 4, 3, [88], []) := zz_fetch_of p113 rfl rfl
theorem s113_84 : zz_Run zz_prog d 113 (84, [l0, l1, l2, l3, l4, l5], st, k, h) = zz_Run zz_prog d 113 (88, [l0, l1, l2, l3, l4, l5], st, k, h) := zz_k_num f113_84 rfl
theorem f113_87 : zz_fetch zz_prog 113 87 = some (.iload_n 3, 1, [], []) := zz_fetch_of p113 rfl rfl
theorem s113_87 : zz_Run zz_prog d 113 (87, [l0, l1, l2, some (.int v), l4, l5], st, k, h) = zz_Run zz_prog d 113 (88, [l0, l1, l2, some (.int v), l4, l5], .int v :: st, k, h) := zz_k_num f113_87 rfl
theorem f113_88 : zz_fetch zz_prog 113 88 = some (.istore_n 3, 1, [], []) := zz_fetch_of p113 rfl rfl
theorem s113_88 : zz_Run zz_prog d 113 (88, [l0, l1, l2, l3, l4, l5], .int v :: st, k, h) = zz_sl l2 (zz_Run zz_prog d 113 (89, [l0, l1, l2, some (.int v), l4, l5], st, k, h)) := zz_k_st (j := 3) (u := .int v) f113_88 rfl (fun q hq => by cases hq) rfl (show 3 < 6 by decide) (by cases l2 <;> rfl) rfl
theorem f113_89 : zz_fetch zz_prog 113 89 = some (.iinc 4 1, 3, [], []) := zz_fetch_of p113 rfl rfl
theorem s113_89 : zz_Run zz_prog d 113 (89, [l0, l1, l2, l3, some (.int v), l5], st, k, h) = zz_sl l3 (zz_Run zz_prog d 113 (92, [l0, l1, l2, l3, some (.int (v + 1)), l5], st, k, h)) := zz_k_st (j := 4) (u := .int (v + 1)) f113_89 rfl (fun q hq => by cases hq) rfl (show 4 < 6 by decide) (by cases l3 <;> rfl) rfl
theorem f113_92 : zz_fetch zz_prog 113 92 = some (.goto (-47), 3, [45], []) := zz_fetch_of p113 rfl rfl
theorem s113_92 : zz_Run zz_prog d 113 (92, [l0, l1, l2, l3, l4, l5], st, k, h) = zz_Run zz_prog d 113 (45, [l0, l1, l2, l3, l4, l5], st, k, h) := zz_k_num f113_92 rfl
theorem f113_95 : zz_fetch zz_prog 113 95 = some (.iload_n 3, 1, [], []) := zz_fetch_of p113 rfl rfl
theorem s113_95 : zz_Run zz_prog d 113 (95, [l0, l1, l2, some (.int v), l4, l5], st, k, h) = zz_Run zz_prog d 113 (96, [l0, l1, l2, some (.int v), l4, l5], .int v :: st, k, h) := zz_k_num f113_95 rfl
theorem f113_96 : zz_fetch zz_prog 113 96 = some (.ireturn, 1, [0], []) := zz_fetch_of p113 rfl rfl
theorem s113_96 : zz_Run zz_prog d 113 (96, [l0, l1, l2, l3, l4, l5], [.int v], k, h) = some (.inl (some (.int v)), k, h) := zz_k_stop f113_96 rfl rfl rfl
end S113
section S114
variable {d n j : Nat} {l0 l1 l2 l3 l4 l5 l6 l7 l8 l9 l10 l11 : Option Value} {st : List Value} {k : Bool} {h : zz_H} {v w v1 v2 : Int32} {y y1 : Int64} {a a1 a2 : Nat} {b0 b1 b2 b3 b4 b5 b6 b7 b8 : Value} {I : Nat → Nat → Int32} {J : Nat → Nat → Int64} {ex : List (Nat × Nat)}
theorem p114 : zz_prog 114 = some zz_m114 := rfl
theorem e114 (g0 : Nat) (g1 : Int32) (g2 : Int32) (g3 : Int32) : zz_Call zz_prog (d + 1) 114 [.ref g0, .int g1, .int g2, .int g3] h = zz_Run zz_prog d 114 (0, [some (.ref g0), some (.int g1), some (.int g2), some (.int g3), none, none, none, none, none, none, none, none], [], true, h) := rfl
theorem t114 (pc : Nat) (L : List (Option Value)) : zz_th d 114 pc a L k h = some (.inr a, k, h) := zz_th_out p114 rfl
theorem f114_0 : zz_fetch zz_prog 114 0 = some (.iconst 0, 1, [], []) := zz_fetch_of p114 rfl rfl
theorem s114_0 : zz_Run zz_prog d 114 (0, [l0, l1, l2, l3, l4, l5, l6, l7, l8, l9, l10, l11], st, k, h) = zz_Run zz_prog d 114 (1, [l0, l1, l2, l3, l4, l5, l6, l7, l8, l9, l10, l11], .int 0 :: st, k, h) := zz_k_num f114_0 rfl
theorem f114_1 : zz_fetch zz_prog 114 1 = some (.istore 4, 2, [], []) := zz_fetch_of p114 rfl rfl
theorem s114_1 : zz_Run zz_prog d 114 (1, [l0, l1, l2, l3, l4, l5, l6, l7, l8, l9, l10, l11], .int v :: st, k, h) = zz_sl l3 (zz_Run zz_prog d 114 (3, [l0, l1, l2, l3, some (.int v), l5, l6, l7, l8, l9, l10, l11], st, k, h)) := zz_k_st (j := 4) (u := .int v) f114_1 rfl (fun q hq => by cases hq) rfl (show 4 < 12 by decide) (by cases l3 <;> rfl) rfl
theorem f114_3 : zz_fetch zz_prog 114 3 = some (.iconst 0, 1, [], []) := zz_fetch_of p114 rfl rfl
theorem s114_3 : zz_Run zz_prog d 114 (3, [l0, l1, l2, l3, l4, l5, l6, l7, l8, l9, l10, l11], st, k, h) = zz_Run zz_prog d 114 (4, [l0, l1, l2, l3, l4, l5, l6, l7, l8, l9, l10, l11], .int 0 :: st, k, h) := zz_k_num f114_3 rfl
theorem f114_4 : zz_fetch zz_prog 114 4 = some (.istore 5, 2, [], []) := zz_fetch_of p114 rfl rfl
theorem s114_4 : zz_Run zz_prog d 114 (4, [l0, l1, l2, l3, l4, l5, l6, l7, l8, l9, l10, l11], .int v :: st, k, h) = zz_sl l4 (zz_Run zz_prog d 114 (6, [l0, l1, l2, l3, l4, some (.int v), l6, l7, l8, l9, l10, l11], st, k, h)) := zz_k_st (j := 5) (u := .int v) f114_4 rfl (fun q hq => by cases hq) rfl (show 5 < 12 by decide) (by cases l4 <;> rfl) rfl
theorem f114_6 : zz_fetch zz_prog 114 6 = some (.iconst 0, 1, [], []) := zz_fetch_of p114 rfl rfl
theorem s114_6 : zz_Run zz_prog d 114 (6, [l0, l1, l2, l3, l4, l5, l6, l7, l8, l9, l10, l11], st, k, h) = zz_Run zz_prog d 114 (7, [l0, l1, l2, l3, l4, l5, l6, l7, l8, l9, l10, l11], .int 0 :: st, k, h) := zz_k_num f114_6 rfl
theorem f114_7 : zz_fetch zz_prog 114 7 = some (.istore 6, 2, [], []) := zz_fetch_of p114 rfl rfl
theorem s114_7 : zz_Run zz_prog d 114 (7, [l0, l1, l2, l3, l4, l5, l6, l7, l8, l9, l10, l11], .int v :: st, k, h) = zz_sl l5 (zz_Run zz_prog d 114 (9, [l0, l1, l2, l3, l4, l5, some (.int v), l7, l8, l9, l10, l11], st, k, h)) := zz_k_st (j := 6) (u := .int v) f114_7 rfl (fun q hq => by cases hq) rfl (show 6 < 12 by decide) (by cases l5 <;> rfl) rfl
theorem f114_9 : zz_fetch zz_prog 114 9 = some (.aload_n 0, 1, [], []) := zz_fetch_of p114 rfl rfl
theorem s114_9 : zz_Run zz_prog d 114 (9, [some (.ref a), l1, l2, l3, l4, l5, l6, l7, l8, l9, l10, l11], st, k, h) = zz_Run zz_prog d 114 (10, [some (.ref a), l1, l2, l3, l4, l5, l6, l7, l8, l9, l10, l11], .ref a :: st, k, h) := zz_k_num f114_9 rfl
theorem f114_10 : zz_fetch zz_prog 114 10 = some (.getfield 58, 3, [2, 21, 3], []) := zz_fetch_of p114 rfl rfl
theorem s114_10 : zz_Run zz_prog d 114 (10, [l0, l1, l2, l3, l4, l5, l6, l7, l8, l9, l10, l11], .ref 23 :: st, k, (zz_hp n I J ex)) = zz_Run zz_prog d 114 (13, [l0, l1, l2, l3, l4, l5, l6, l7, l8, l9, l10, l11], .ref 40 :: st, k, (zz_hp n I J ex)) := zz_k_go f114_10 rfl rfl rfl
theorem f114_13 : zz_fetch zz_prog 114 13 = some (.iconst 0, 1, [], []) := zz_fetch_of p114 rfl rfl
theorem s114_13 : zz_Run zz_prog d 114 (13, [l0, l1, l2, l3, l4, l5, l6, l7, l8, l9, l10, l11], st, k, h) = zz_Run zz_prog d 114 (14, [l0, l1, l2, l3, l4, l5, l6, l7, l8, l9, l10, l11], .int 0 :: st, k, h) := zz_k_num f114_13 rfl
theorem f114_14 : zz_fetch zz_prog 114 14 = some (.iload_n 1, 1, [], []) := zz_fetch_of p114 rfl rfl
theorem s114_14 : zz_Run zz_prog d 114 (14, [l0, some (.int v), l2, l3, l4, l5, l6, l7, l8, l9, l10, l11], st, k, h) = zz_Run zz_prog d 114 (15, [l0, some (.int v), l2, l3, l4, l5, l6, l7, l8, l9, l10, l11], .int v :: st, k, h) := zz_k_num f114_14 rfl
theorem f114_15 : zz_fetch zz_prog 114 15 = some (.iastore, 1, [], []) := zz_fetch_of p114 rfl rfl
theorem s114_15 (ha : zz_isar a = true) : zz_Run zz_prog d 114 (15, [l0, l1, l2, l3, l4, l5, l6, l7, l8, l9, l10, l11], .int w :: .int v :: .ref a :: st, k, (zz_hp n I J ex)) = zz_ck (zz_in v (zz_ary n a)) (zz_Run zz_prog d 114 (16, [l0, l1, l2, l3, l4, l5, l6, l7, l8, l9, l10, l11], st, false, (zz_hp n (zz_up I a v.toNatClampNeg w) J ex))) := zz_k_iast f114_15 ha
theorem f114_16 : zz_fetch zz_prog 114 16 = some (.aload_n 0, 1, [], []) := zz_fetch_of p114 rfl rfl
theorem s114_16 : zz_Run zz_prog d 114 (16, [some (.ref a), l1, l2, l3, l4, l5, l6, l7, l8, l9, l10, l11], st, k, h) = zz_Run zz_prog d 114 (17, [some (.ref a), l1, l2, l3, l4, l5, l6, l7, l8, l9, l10, l11], .ref a :: st, k, h) := zz_k_num f114_16 rfl
theorem f114_17 : zz_fetch zz_prog 114 17 = some (.getfield 61, 3, [2, 22, 3], []) := zz_fetch_of p114 rfl rfl
theorem s114_17 : zz_Run zz_prog d 114 (17, [l0, l1, l2, l3, l4, l5, l6, l7, l8, l9, l10, l11], .ref 23 :: st, k, (zz_hp n I J ex)) = zz_Run zz_prog d 114 (20, [l0, l1, l2, l3, l4, l5, l6, l7, l8, l9, l10, l11], .ref 41 :: st, k, (zz_hp n I J ex)) := zz_k_go f114_17 rfl rfl rfl
theorem f114_20 : zz_fetch zz_prog 114 20 = some (.iconst 0, 1, [], []) := zz_fetch_of p114 rfl rfl
theorem s114_20 : zz_Run zz_prog d 114 (20, [l0, l1, l2, l3, l4, l5, l6, l7, l8, l9, l10, l11], st, k, h) = zz_Run zz_prog d 114 (21, [l0, l1, l2, l3, l4, l5, l6, l7, l8, l9, l10, l11], .int 0 :: st, k, h) := zz_k_num f114_20 rfl
theorem f114_21 : zz_fetch zz_prog 114 21 = some (.iconst 0, 1, [], []) := zz_fetch_of p114 rfl rfl
theorem s114_21 : zz_Run zz_prog d 114 (21, [l0, l1, l2, l3, l4, l5, l6, l7, l8, l9, l10, l11], st, k, h) = zz_Run zz_prog d 114 (22, [l0, l1, l2, l3, l4, l5, l6, l7, l8, l9, l10, l11], .int 0 :: st, k, h) := zz_k_num f114_21 rfl
theorem f114_22 : zz_fetch zz_prog 114 22 = some (.iastore, 1, [], []) := zz_fetch_of p114 rfl rfl
theorem s114_22 (ha : zz_isar a = true) : zz_Run zz_prog d 114 (22, [l0, l1, l2, l3, l4, l5, l6, l7, l8, l9, l10, l11], .int w :: .int v :: .ref a :: st, k, (zz_hp n I J ex)) = zz_ck (zz_in v (zz_ary n a)) (zz_Run zz_prog d 114 (23, [l0, l1, l2, l3, l4, l5, l6, l7, l8, l9, l10, l11], st, false, (zz_hp n (zz_up I a v.toNatClampNeg w) J ex))) := zz_k_iast f114_22 ha
theorem f114_23 : zz_fetch zz_prog 114 23 = some (.iload 5, 2, [], []) := zz_fetch_of p114 rfl rfl
theorem s114_23 : zz_Run zz_prog d 114 (23, [l0, l1, l2, l3, l4, some (.int v), l6, l7, l8, l9, l10, l11], st, k, h) = zz_Run zz_prog d 114 (25, [l0, l1, l2, l3, l4, some (.int v), l6, l7, l8, l9, l10, l11], .int v :: st, k, h) := zz_k_num f114_23 rfl
theorem f114_25 : zz_fetch zz_prog 114 25 = some (.ifCond .lt 223, 3, [248], []) := zz_fetch_of p114 rfl rfl
theorem s114_25 : zz_Run zz_prog d 114 (25, [l0, l1, l2, l3, l4, l5, l6, l7, l8, l9, l10, l11], .int v :: st, k, h) = if v < 0 then zz_Run zz_prog d 114 (248, [l0, l1, l2, l3, l4, l5, l6, l7, l8, l9, l10, l11], st, k, h) else zz_Run zz_prog d 114 (28, [l0, l1, l2, l3, l4, l5, l6, l7, l8, l9, l10, l11], st, k, h) := zz_k_br (v < 0) rfl (zz_k_num f114_25 rfl)
theorem f114_28 : zz_fetch zz_prog 114 28 = some (.aload_n 0, 1, [], []) := zz_fetch_of p114 rfl rfl
theorem s114_28 : zz_Run zz_prog d 114 (28, [some (.ref a), l1, l2, l3, l4, l5, l6, l7, l8, l9, l10, l11], st, k, h) = zz_Run zz_prog d 114 (29, [some (.ref a), l1, l2, l3, l4, l5, l6, l7, l8, l9, l10, l11], .ref a :: st, k, h) := zz_k_num f114_28 rfl
theorem f114_29 : zz_fetch zz_prog 114 29 = some (.getfield 61, 3, [2, 22, 3], []) := zz_fetch_of p114 rfl rfl
theorem s114_29 : zz_Run zz_prog d 114 (29, [l0, l1, l2, l3, l4, l5, l6, l7, l8, l9, l10, l11], .ref 23 :: st, k, (zz_hp n I J ex)) = zz_Run zz_prog d 114 (32, [l0, l1, l2, l3, l4, l5, l6, l7, l8, l9, l10, l11], .ref 41 :: st, k, (zz_hp n I J ex)) := zz_k_go f114_29 rfl rfl rfl
theorem f114_32 : zz_fetch zz_prog 114 32 = some (.iload 5, 2, [], []) := zz_fetch_of p114 rfl rfl
theorem s114_32 : zz_Run zz_prog d 114 (32, [l0, l1, l2, l3, l4, some (.int v), l6, l7, l8, l9, l10, l11], st, k, h) = zz_Run zz_prog d 114 (34, [l0, l1, l2, l3, l4, some (.int v), l6, l7, l8, l9, l10, l11], .int v :: st, k, h) := zz_k_num f114_32 rfl
theorem f114_34 : zz_fetch zz_prog 114 34 = some (.iaload, 1, [], []) := zz_fetch_of p114 rfl rfl
theorem s114_34 (ha : zz_isrd a = true) : zz_Run zz_prog d 114 (34, [l0, l1, l2, l3, l4, l5, l6, l7, l8, l9, l10, l11], .int v :: .ref a :: st, k, (zz_hp n I J ex)) = zz_ck (zz_in v (zz_ary n a)) (zz_Run zz_prog d 114 (35, [l0, l1, l2, l3, l4, l5, l6, l7, l8, l9, l10, l11], .int (I a v.toNatClampNeg) :: st, k, (zz_hp n I J ex))) := zz_k_iald f114_34 ha
theorem f114_35 : zz_fetch zz_prog 114 35 = some (.iload_n 3, 1, [], []) := zz_fetch_of p114 rfl rfl
theorem s114_35 : zz_Run zz_prog d 114 (35, [l0, l1, l2, some (.int v), l4, l5, l6, l7, l8, l9, l10, l11], st, k, h) = zz_Run zz_prog d 114 (36, [l0, l1, l2, some (.int v), l4, l5, l6, l7, l8, l9, l10, l11], .int v :: st, k, h) := zz_k_num f114_35 rfl
theorem f114_36 : zz_fetch zz_prog 114 36 = some (.if_icmp .ne 35, 3, [71], []) := zz_fetch_of p114 rfl rfl
theorem s114_36 : zz_Run zz_prog d 114 (36, [l0, l1, l2, l3, l4, l5, l6, l7, l8, l9, l10, l11], .int w :: .int v :: st, k, h) = if ¬ v = w then zz_Run zz_prog d 114 (71, [l0, l1, l2, l3, l4, l5, l6, l7, l8, l9, l10, l11], st, k, h) else zz_Run zz_prog d 114 (39, [l0, l1, l2, l3, l4, l5, l6, l7, l8, l9, l10, l11], st, k, h) := zz_k_br (¬ v = w) rfl (zz_k_num f114_36 rfl)
theorem f114_39 : zz_fetch zz_prog 114 39 = some (.iload 5, 2, [], []) := zz_fetch_of p114 rfl rfl
theorem s114_39 : zz_Run zz_prog d 114 (39, [l0, l1, l2, l3, l4, some (.int v), l6, l7, l8, l9, l10, l11], st, k, h) = zz_Run zz_prog d 114 (41, [l0, l1, l2, l3, l4, some (.int v), l6, l7, l8, l9, l10, l11], .int v :: st, k, h) := zz_k_num f114_39 rfl
theorem f114_41 : zz_fetch zz_prog 114 41 = some (.ifCond .le 20, 3, [61], []) := zz_fetch_of p114 rfl rfl
theorem s114_41 : zz_Run zz_prog d 114 (41, [l0, l1, l2, l3, l4, l5, l6, l7, l8, l9, l10, l11], .int v :: st, k, h) = if v ≤ 0 then zz_Run zz_prog d 114 (61, [l0, l1, l2, l3, l4, l5, l6, l7, l8, l9, l10, l11], st, k, h) else zz_Run zz_prog d 114 (44, [l0, l1, l2, l3, l4, l5, l6, l7, l8, l9, l10, l11], st, k, h) := zz_k_br (v ≤ 0) rfl (zz_k_num f114_41 rfl)
theorem f114_44 : zz_fetch zz_prog 114 44 = some (.iload 6, 2, [], []) := zz_fetch_of p114 rfl rfl
theorem s114_44 : zz_Run zz_prog d 114 (44, [l0, l1, l2, l3, l4, l5, some (.int v), l7, l8, l9, l10, l11], st, k, h) = zz_Run zz_prog d 114 (46, [l0, l1, l2, l3, l4, l5, some (.int v), l7, l8, l9, l10, l11], .int v :: st, k, h) := zz_k_num f114_44 rfl
theorem f114_46 : zz_fetch zz_prog 114 46 = some (.iconst 1, 1, [], []) := zz_fetch_of p114 rfl rfl
theorem s114_46 : zz_Run zz_prog d 114 (46, [l0, l1, l2, l3, l4, l5, l6, l7, l8, l9, l10, l11], st, k, h) = zz_Run zz_prog d 114 (47, [l0, l1, l2, l3, l4, l5, l6, l7, l8, l9, l10, l11], .int 1 :: st, k, h) := zz_k_num f114_46 rfl
theorem f114_47 : zz_fetch zz_prog 114 47 = some (.aload_n 0, 1, [], []) := zz_fetch_of p114 rfl rfl
theorem s114_47 : zz_Run zz_prog d 114 (47, [some (.ref a), l1, l2, l3, l4, l5, l6, l7, l8, l9, l10, l11], st, k, h) = zz_Run zz_prog d 114 (48, [some (.ref a), l1, l2, l3, l4, l5, l6, l7, l8, l9, l10, l11], .ref a :: st, k, h) := zz_k_num f114_47 rfl
theorem f114_48 : zz_fetch zz_prog 114 48 = some (.getfield 64, 3, [2, 23, 3], []) := zz_fetch_of p114 rfl rfl
theorem s114_48 : zz_Run zz_prog d 114 (48, [l0, l1, l2, l3, l4, l5, l6, l7, l8, l9, l10, l11], .ref 23 :: st, k, (zz_hp n I J ex)) = zz_Run zz_prog d 114 (51, [l0, l1, l2, l3, l4, l5, l6, l7, l8, l9, l10, l11], .ref 42 :: st, k, (zz_hp n I J ex)) := zz_k_go f114_48 rfl rfl rfl
theorem f114_51 : zz_fetch zz_prog 114 51 = some (.iload 5, 2, [], []) := zz_fetch_of p114 rfl rfl
theorem s114_51 : zz_Run zz_prog d 114 (51, [l0, l1, l2, l3, l4, some (.int v), l6, l7, l8, l9, l10, l11], st, k, h) = zz_Run zz_prog d 114 (53, [l0, l1, l2, l3, l4, some (.int v), l6, l7, l8, l9, l10, l11], .int v :: st, k, h) := zz_k_num f114_51 rfl
theorem f114_53 : zz_fetch zz_prog 114 53 = some (.iaload, 1, [], []) := zz_fetch_of p114 rfl rfl
theorem s114_53 (ha : zz_isrd a = true) : zz_Run zz_prog d 114 (53, [l0, l1, l2, l3, l4, l5, l6, l7, l8, l9, l10, l11], .int v :: .ref a :: st, k, (zz_hp n I J ex)) = zz_ck (zz_in v (zz_ary n a)) (zz_Run zz_prog d 114 (54, [l0, l1, l2, l3, l4, l5, l6, l7, l8, l9, l10, l11], .int (I a v.toNatClampNeg) :: st, k, (zz_hp n I J ex))) := zz_k_iald f114_53 ha
theorem f114_54 : zz_fetch zz_prog 114 54 = some (.ishl, 1, [], []) := zz_fetch_of p114 rfl rfl
theorem s114_54 : zz_Run zz_prog d 114 (54, [l0, l1, l2, l3, l4, l5, l6, l7, l8, l9, l10, l11], .int w :: .int v :: st, k, h) = zz_Run zz_prog d 114 (55, [l0, l1, l2, l3, l4, l5, l6, l7, l8, l9, l10, l11], .int (v <<< (w &&& 31)) :: st, k, h) := zz_k_num f114_54 rfl
theorem f114_55 : zz_fetch zz_prog 114 55 = some (.iconst (-1), 1, [], []) := zz_fetch_of p114 rfl rfl
theorem s114_55 : zz_Run zz_prog d 114 (55, [l0, l1, l2, l3, l4, l5, l6, l7, l8, l9, l10, l11], st, k, h) = zz_Run zz_prog d 114 (56, [l0, l1, l2, l3, l4, l5, l6, l7, l8, l9, l10, l11], .int (-1) :: st, k, h) := zz_k_num f114_55 rfl
theorem f114_56 : zz_fetch zz_prog 114 56 = some (.ixor, 1, [], []) := zz_fetch_of p114 rfl rfl
theorem s114_56 : zz_Run zz_prog d 114 (56, [l0, l1, l2, l3, l4, l5, l6, l7, l8, l9, l10, l11], .int w :: .int v :: st, k, h) = zz_Run zz_prog d 114 (57, [l0, l1, l2, l3, l4, l5, l6, l7, l8, l9, l10, l11], .int (v ^^^ w) :: st, k, h) := zz_k_num f114_56 rfl
theorem f114_57 : zz_fetch zz_prog 114 57 = some (.iand, 1, [], []) := zz_fetch_of p114 rfl rfl
theorem s114_57 : zz_Run zz_prog d 114 (57, [l0, l1, l2, l3, l4, l5, l6, l7, l8, l9, l10, l11], .int w :: .int v :: st, k, h) = zz_Run zz_prog d 114 (58, [l0, l1, l2, l3, l4, l5, l6, l7, l8, l9, l10, l11], .int (v &&& w) :: st, k, h) := zz_k_num f114_57 rfl
theorem f114_58 : zz_fetch zz_prog 114 58 = some (.goto 5, 3, [63], []) := zz_fetch_of p114 rfl rfl
theorem s114_58 : zz_Run zz_prog d 114 (58, [l0, l1, l2, l3, l4, l5, l6, l7, l8, l9, l10, l11], st, k, h) = zz_Run zz_prog d 114 (63, [l0, l1, l2, l3, l4, l5, l6, l7, l8, l9, l10, l11], st, k, h) := zz_k_num f114_58 rfl
theorem f114_61 : zz_fetch zz_prog 114 61 = some (.iload 6, 2, [], []) := zz_fetch_of p114 rfl rfl
theorem s114_61 : zz_Run zz_prog d 114 (61, [l0, l1, l2, l3, l4, l5, some (.int v), l7, l8, l9, l10, l11], st, k, h) = zz_Run zz_prog d 114 (63, [l0, l1, l2, l3, l4, l5, some (.int v), l7, l8, l9, l10, l11], .int v :: st, k, h) := zz_k_num f114_61 rfl
theorem f114_63 : zz_fetch zz_prog 114 63 = some (.istore 6, 2, [], []) := zz_fetch_of p114 rfl rfl
theorem s114_63 : zz_Run zz_prog d 114 (63, [l0, l1, l2, l3, l4, l5, l6, l7, l8, l9, l10, l11], .int v :: st, k, h) = zz_sl l5 (zz_Run zz_prog d 114 (65, [l0, l1, l2, l3, l4, l5, some (.int v), l7, l8, l9, l10, l11], st, k, h)) := zz_k_st (j := 6) (u := .int v) f114_63 rfl (fun q hq => by cases hq) rfl (show 6 < 12 by decide) (by cases l5 <;> rfl) rfl
theorem f114_65 : zz_fetch zz_prog 114 65 = some (.iinc 5 (-1), 3, [], []) := zz_fetch_of p114 rfl rfl
theorem s114_65 : zz_Run zz_prog d 114 (65, [l0, l1, l2, l3, l4, some (.int v), l6, l7, l8, l9, l10, l11], st, k, h) = zz_sl l4 (zz_Run zz_prog d 114 (68, [l0, l1, l2, l3, l4, some (.int (v + (-1))), l6, l7, l8, l9, l10, l11], st, k, h)) := zz_k_st (j := 5) (u := .int (v + (-1))) f114_65 rfl (fun q hq => by cases hq) rfl (show 5 < 12 by decide) (by cases l4 <;> rfl) rfl
theorem f114_68 : zz_fetch zz_prog 114 68 = some (.goto (-45), 3, [23], []) := zz_fetch_of p114 rfl rfl
theorem s114_68 : zz_Run zz_prog d 114 (68, [l0, l1, l2, l3, l4, l5, l6, l7, l8, l9, l10, l11], st, k, h) = zz_Run zz_prog d 114 (23, [l0, l1, l2, l3, l4, l5, l6, l7, l8, l9, l10, l11], st, k, h) := zz_k_num f114_68 rfl
theorem f114_71 : zz_fetch zz_prog 114 71 = some (.aload_n 0, 1, [], []) := zz_fetch_of p114 rfl rfl
theorem s114_71 : zz_Run zz_prog d 114 (71, [some (.ref a), l1, l2, l3, l4, l5, l6, l7, l8, l9, l10, l11], st, k, h) = zz_Run zz_prog d 114 (72, [some (.ref a), l1, l2, l3, l4, l5, l6, l7, l8, l9, l10, l11], .ref a :: st, k, h) := zz_k_num f114_71 rfl
theorem f114_72 : zz_fetch zz_prog 114 72 = some (.getfield 61, 3, [2, 22, 3], []) := zz_fetch_of p114 rfl rfl
theorem s114_72 : zz_Run zz_prog d 114 (72, [l0, l1, l2, l3, l4, l5, l6, l7, l8, l9, l10, l11], .ref 23 :: st, k, (zz_hp n I J ex)) = zz_Run zz_prog d 114 (75, [l0, l1, l2, l3, l4, l5, l6, l7, l8, l9, l10, l11], .ref 41 :: st, k, (zz_hp n I J ex)) := zz_k_go f114_72 rfl rfl rfl
theorem f114_75 : zz_fetch zz_prog 114 75 = some (.iload 5, 2, [], []) := zz_fetch_of p114 rfl rfl
theorem s114_75 : zz_Run zz_prog d 114 (75, [l0, l1, l2, l3, l4, some (.int v), l6, l7, l8, l9, l10, l11], st, k, h) = zz_Run zz_prog d 114 (77, [l0, l1, l2, l3, l4, some (.int v), l6, l7, l8, l9, l10, l11], .int v :: st, k, h) := zz_k_num f114_75 rfl
theorem f114_77 : zz_fetch zz_prog 114 77 = some (.iaload, 1, [], []) := zz_fetch_of p114 rfl rfl
theorem s114_77 (ha : zz_isrd a = true) : zz_Run zz_prog d 114 (77, [l0, l1, l2, l3, l4, l5, l6, l7, l8, l9, l10, l11], .int v :: .ref a :: st, k, (zz_hp n I J ex)) = zz_ck (zz_in v (zz_ary n a)) (zz_Run zz_prog d 114 (78, [l0, l1, l2, l3, l4, l5, l6, l7, l8, l9, l10, l11], .int (I a v.toNatClampNeg) :: st, k, (zz_hp n I J ex))) := zz_k_iald f114_77 ha
theorem f114_78 : zz_fetch zz_prog 114 78 = some (.istore 7, 2, [], []) := zz_fetch_of p114 rfl rfl
theorem s114_78 : zz_Run zz_prog d 114 (78, [l0, l1, l2, l3, l4, l5, l6, l7, l8, l9, l10, l11], .int v :: st, k, h) = zz_sl l6 (zz_Run zz_prog d 114 (80, [l0, l1, l2, l3, l4, l5, l6, some (.int v), l8, l9, l10, l11], st, k, h)) := zz_k_st (j := 7) (u := .int v) f114_78 rfl (fun q hq => by cases hq) rfl (show 7 < 12 by decide) (by cases l6 <;> rfl) rfl
theorem f114_80 : zz_fetch zz_prog 114 80 = some (.aload_n 0, 1, [], []) := zz_fetch_of p114 rfl rfl
theorem s114_80 : zz_Run zz_prog d 114 (80, [some (.ref a), l1, l2, l3, l4, l5, l6, l7, l8, l9, l10, l11], st, k, h) = zz_Run zz_prog d 114 (81, [some (.ref a), l1, l2, l3, l4, l5, l6, l7, l8, l9, l10, l11], .ref a :: st, k, h) := zz_k_num f114_80 rfl
theorem f114_81 : zz_fetch zz_prog 114 81 = some (.getfield 61, 3, [2, 22, 3], []) := zz_fetch_of p114 rfl rfl
theorem s114_81 : zz_Run zz_prog d 114 (81, [l0, l1, l2, l3, l4, l5, l6, l7, l8, l9, l10, l11], .ref 23 :: st, k, (zz_hp n I J ex)) = zz_Run zz_prog d 114 (84, [l0, l1, l2, l3, l4, l5, l6, l7, l8, l9, l10, l11], .ref 41 :: st, k, (zz_hp n I J ex)) := zz_k_go f114_81 rfl rfl rfl
theorem f114_84 : zz_fetch zz_prog 114 84 = some (.iload 5, 2, [], []) := zz_fetch_of p114 rfl rfl
theorem s114_84 : zz_Run zz_prog d 114 (84, [l0, l1, l2, l3, l4, some (.int v), l6, l7, l8, l9, l10, l11], st, k, h) = zz_Run zz_prog d 114 (86, [l0, l1, l2, l3, l4, some (.int v), l6, l7, l8, l9, l10, l11], .int v :: st, k, h) := zz_k_num f114_84 rfl
theorem f114_86 : zz_fetch zz_prog 114 86 = some (.dup2, 1, [], []) := zz_fetch_of p114 rfl rfl
theorem s114_86 : zz_Run zz_prog d 114 (86, [l0, l1, l2, l3, l4, l5, l6, l7, l8, l9, l10, l11], .int v :: .ref a1 :: st, k, h) = zz_Run zz_prog d 114 (87, [l0, l1, l2, l3, l4, l5, l6, l7, l8, l9, l10, l11], .int v :: .ref a1 :: .int v :: .ref a1 :: st, k, h) := zz_k_num f114_86 rfl
theorem f114_87 : zz_fetch zz_prog 114 87 = some (.iaload, 1, [], []) := zz_fetch_of p114 rfl rfl
theorem s114_87 (ha : zz_isrd a = true) : zz_Run zz_prog d 114 (87, [l0, l1, l2, l3, l4, l5, l6, l7, l8, l9, l10, l11], .int v :: .ref a :: st, k, (zz_hp n I J ex)) = zz_ck (zz_in v (zz_ary n a)) (zz_Run zz_prog d 114 (88, [l0, l1, l2, l3, l4, l5, l6, l7, l8, l9, l10, l11], .int (I a v.toNatClampNeg) :: st, k, (zz_hp n I J ex))) := zz_k_iald f114_87 ha
theorem f114_88 : zz_fetch zz_prog 114 88 = some (.iconst 1, 1, [], []) := zz_fetch_of p114 rfl rfl
theorem s114_88 : zz_Run zz_prog d 114 (88, [l0, l1, l2, l3, l4, l5, l6, l7, l8, l9, l10, l11], st, k, h) = zz_Run zz_prog d 114 (89, [l0, l1, l2, l3, l4, l5, l6, l7, l8, l9, l10, l11], .int 1 :: st, k, h) := zz_k_num f114_88 rfl
theorem f114_89 : zz_fetch zz_prog 114 89 = some (.iadd, 1, [], []) := zz_fetch_of p114 rfl rfl
theorem s114_89 : zz_Run zz_prog d 114 (89, [l0, l1, l2, l3, l4, l5, l6, l7, l8, l9, l10, l11], .int w :: .int v :: st, k, h) = zz_Run zz_prog d 114 (90, [l0, l1, l2, l3, l4, l5, l6, l7, l8, l9, l10, l11], .int (v + w) :: st, k, h) := zz_k_num f114_89 rfl
theorem f114_90 : zz_fetch zz_prog 114 90 = some (.iastore, 1, [], []) := zz_fetch_of p114 rfl rfl
theorem s114_90 (ha : zz_isar a = true) : zz_Run zz_prog d 114 (90, [l0, l1, l2, l3, l4, l5, l6, l7, l8, l9, l10, l11], .int w :: .int v :: .ref a :: st, k, (zz_hp n I J ex)) = zz_ck (zz_in v (zz_ary n a)) (zz_Run zz_prog d 114 (91, [l0, l1, l2, l3, l4, l5, l6, l7, l8, l9, l10, l11], st, false, (zz_hp n (zz_up I a v.toNatClampNeg w) J ex))) := zz_k_iast f114_90 ha
theorem f114_91 : zz_fetch zz_prog 114 91 = some (.aload_n 0, 1, [], []) := zz_fetch_of p114 rfl rfl
theorem s114_91 : zz_Run zz_prog d 114 (91, [some (.ref a), l1, l2, l3, l4, l5, l6, l7, l8, l9, l10, l11], st, k, h) = zz_Run zz_prog d 114 (92, [some (.ref a), l1, l2, l3, l4, l5, l6, l7, l8, l9, l10, l11], .ref a :: st, k, h) := zz_k_num f114_91 rfl
theorem f114_92 : zz_fetch zz_prog 114 92 = some (.getfield 22, 3, [2, 6, 3], []) := zz_fetch_of p114 rfl rfl
theorem s114_92 : zz_Run zz_prog d 114 (92, [l0, l1, l2, l3, l4, l5, l6, l7, l8, l9, l10, l11], .ref 23 :: st, k, (zz_hp n I J ex)) = zz_Run zz_prog d 114 (95, [l0, l1, l2, l3, l4, l5, l6, l7, l8, l9, l10, l11], .ref 28 :: st, k, (zz_hp n I J ex)) := zz_k_go f114_92 rfl rfl rfl
theorem f114_95 : zz_fetch zz_prog 114 95 = some (.aload_n 0, 1, [], []) := zz_fetch_of p114 rfl rfl
theorem s114_95 : zz_Run zz_prog d 114 (95, [some (.ref a), l1, l2, l3, l4, l5, l6, l7, l8, l9, l10, l11], st, k, h) = zz_Run zz_prog d 114 (96, [some (.ref a), l1, l2, l3, l4, l5, l6, l7, l8, l9, l10, l11], .ref a :: st, k, h) := zz_k_num f114_95 rfl
theorem f114_96 : zz_fetch zz_prog 114 96 = some (.getfield 55, 3, [2, 20, 3], []) := zz_fetch_of p114 rfl rfl
theorem s114_96 : zz_Run zz_prog d 114 (96, [l0, l1, l2, l3, l4, l5, l6, l7, l8, l9, l10, l11], .ref 23 :: st, k, (zz_hp n I J ex)) = zz_Run zz_prog d 114 (99, [l0, l1, l2, l3, l4, l5, l6, l7, l8, l9, l10, l11], .ref 39 :: st, k, (zz_hp n I J ex)) := zz_k_go f114_96 rfl rfl rfl
theorem f114_99 : zz_fetch zz_prog 114 99 = some (.iload 7, 2, [], []) := zz_fetch_of p114 rfl rfl
theorem s114_99 : zz_Run zz_prog d 114 (99, [l0, l1, l2, l3, l4, l5, l6, some (.int v), l8, l9, l10, l11], st, k, h) = zz_Run zz_prog d 114 (101, [l0, l1, l2, l3, l4, l5, l6, some (.int v), l8, l9, l10, l11], .int v :: st, k, h) := zz_k_num f114_99 rfl
theorem f114_101 : zz_fetch zz_prog 114 101 = some (.iaload, 1, [], []) := zz_fetch_of p114 rfl rfl
theorem s114_101 (ha : zz_isrd a = true) : zz_Run zz_prog d 114 (101, [l0, l1, l2, l3, l4, l5, l6, l7, l8, l9, l10, l11], .int v :: .ref a :: st, k, (zz_hp n I J ex)) = zz_ck (zz_in v (zz_ary n a)) (zz_Run zz_prog d 114 (102, [l0, l1, l2, l3, l4, l5, l6, l7, l8, l9, l10, l11], .int (I a v.toNatClampNeg) :: st, k, (zz_hp n I J ex))) := zz_k_iald f114_101 ha
theorem f114_102 : zz_fetch zz_prog 114 102 = some (.iaload, 1, [], []) := zz_fetch_of p114 rfl rfl
theorem s114_102 (ha : zz_isrd a = true) : zz_Run zz_prog d 114 (102, [l0, l1, l2, l3, l4, l5, l6, l7, l8, l9, l10, l11], .int v :: .ref a :: st, k, (zz_hp n I J ex)) = zz_ck (zz_in v (zz_ary n a)) (zz_Run zz_prog d 114 (103, [l0, l1, l2, l3, l4, l5, l6, l7, l8, l9, l10, l11], .int (I a v.toNatClampNeg) :: st, k, (zz_hp n I J ex))) := zz_k_iald f114_102 ha
theorem f114_103 : zz_fetch zz_prog 114 103 = some (.istore 8, 2, [], []) := zz_fetch_of p114 rfl rfl
theorem s114_103 : zz_Run zz_prog d 114 (103, [l0, l1, l2, l3, l4, l5, l6, l7, l8, l9, l10, l11], .int v :: st, k, h) = zz_sl l7 (zz_Run zz_prog d 114 (105, [l0, l1, l2, l3, l4, l5, l6, l7, some (.int v), l9, l10, l11], st, k, h)) := zz_k_st (j := 8) (u := .int v) f114_103 rfl (fun q hq => by cases hq) rfl (show 8 < 12 by decide) (by cases l7 <;> rfl) rfl
theorem f114_105 : zz_fetch zz_prog 114 105 = some (.aload_n 0, 1, [], []) := zz_fetch_of p114 rfl rfl
theorem s114_105 : zz_Run zz_prog d 114 (105, [some (.ref a), l1, l2, l3, l4, l5, l6, l7, l8, l9, l10, l11], st, k, h) = zz_Run zz_prog d 114 (106, [some (.ref a), l1, l2, l3, l4, l5, l6, l7, l8, l9, l10, l11], .ref a :: st, k, h) := zz_k_num f114_105 rfl
theorem f114_106 : zz_fetch zz_prog 114 106 = some (.getfield 25, 3, [2, 7, 3], []) := zz_fetch_of p114 rfl rfl
theorem s114_106 : zz_Run zz_prog d 114 (106, [l0, l1, l2, l3, l4, l5, l6, l7, l8, l9, l10, l11], .ref 23 :: st, k, (zz_hp n I J ex)) = zz_Run zz_prog d 114 (109, [l0, l1, l2, l3, l4, l5, l6, l7, l8, l9, l10, l11], .ref 29 :: st, k, (zz_hp n I J ex)) := zz_k_go f114_106 rfl rfl rfl
theorem f114_109 : zz_fetch zz_prog 114 109 = some (.aload_n 0, 1, [], []) := zz_fetch_of p114 rfl rfl
theorem s114_109 : zz_Run zz_prog d 114 (109, [some (.ref a), l1, l2, l3, l4, l5, l6, l7, l8, l9, l10, l11], st, k, h) = zz_Run zz_prog d 114 (110, [some (.ref a), l1, l2, l3, l4, l5, l6, l7, l8, l9, l10, l11], .ref a :: st, k, h) := zz_k_num f114_109 rfl
theorem f114_110 : zz_fetch zz_prog 114 110 = some (.getfield 55, 3, [2, 20, 3], []) := zz_fetch_of p114 rfl rfl
theorem s114_110 : zz_Run zz_prog d 114 (110, [l0, l1, l2, l3, l4, l5, l6, l7, l8, l9, l10, l11], .ref 23 :: st, k, (zz_hp n I J ex)) = zz_Run zz_prog d 114 (113, [l0, l1, l2, l3, l4, l5, l6, l7, l8, l9, l10, l11], .ref 39 :: st, k, (zz_hp n I J ex)) := zz_k_go f114_110 rfl rfl rfl
theorem f114_113 : zz_fetch zz_prog 114 113 = some (.iload 7, 2, [], []) := zz_fetch_of p114 rfl rfl
theorem s114_113 : zz_Run zz_prog d 114 (113, [l0, l1, l2, l3, l4, l5, l6, some (.int v), l8, l9, l10, l11], st, k, h) = zz_Run zz_prog d 114 (115, [l0, l1, l2, l3, l4, l5, l6, some (.int v), l8, l9, l10, l11], .int v :: st, k, h) := zz_k_num f114_113 rfl
theorem f114_115 : zz_fetch zz_prog 114 115 = some (.iaload, 1, [], []) := zz_fetch_of p114 rfl rfl
theorem s114_115 (ha : zz_isrd a = true) : zz_Run zz_prog d 114 (115, [l0, l1, l2, l3, l4, l5, l6, l7, l8, l9, l10, l11], .int v :: .ref a :: st, k, (zz_hp n I J ex)) = zz_ck (zz_in v (zz_ary n a)) (zz_Run zz_prog d 114 (116, [l0, l1, l2, l3, l4, l5, l6, l7, l8, l9, l10, l11], .int (I a v.toNatClampNeg) :: st, k, (zz_hp n I J ex))) := zz_k_iald f114_115 ha
theorem f114_116 : zz_fetch zz_prog 114 116 = some (.iaload, 1, [], []) := zz_fetch_of p114 rfl rfl
theorem s114_116 (ha : zz_isrd a = true) : zz_Run zz_prog d 114 (116, [l0, l1, l2, l3, l4, l5, l6, l7, l8, l9, l10, l11], .int v :: .ref a :: st, k, (zz_hp n I J ex)) = zz_ck (zz_in v (zz_ary n a)) (zz_Run zz_prog d 114 (117, [l0, l1, l2, l3, l4, l5, l6, l7, l8, l9, l10, l11], .int (I a v.toNatClampNeg) :: st, k, (zz_hp n I J ex))) := zz_k_iald f114_116 ha
theorem f114_117 : zz_fetch zz_prog 114 117 = some (.istore 9, 2, [], []) := zz_fetch_of p114 rfl rfl
theorem s114_117 : zz_Run zz_prog d 114 (117, [l0, l1, l2, l3, l4, l5, l6, l7, l8, l9, l10, l11], .int v :: st, k, h) = zz_sl l8 (zz_Run zz_prog d 114 (119, [l0, l1, l2, l3, l4, l5, l6, l7, l8, some (.int v), l10, l11], st, k, h)) := zz_k_st (j := 9) (u := .int v) f114_117 rfl (fun q hq => by cases hq) rfl (show 9 < 12 by decide) (by cases l8 <;> rfl) rfl
theorem f114_119 : zz_fetch zz_prog 114 119 = some (.aload_n 0, 1, [], []) := zz_fetch_of p114 rfl rfl
theorem s114_119 : zz_Run zz_prog d 114 (119, [some (.ref a), l1, l2, l3, l4, l5, l6, l7, l8, l9, l10, l11], st, k, h) = zz_Run zz_prog d 114 (120, [some (.ref a), l1, l2, l3, l4, l5, l6, l7, l8, l9, l10, l11], .ref a :: st, k, h) := zz_k_num f114_119 rfl
theorem f114_120 : zz_fetch zz_prog 114 120 = some (.getfield 58, 3, [2, 21, 3], []) := zz_fetch_of p114 rfl rfl
theorem s114_120 : zz_Run zz_prog d 114 (120, [l0, l1, l2, l3, l4, l5, l6, l7, l8, l9, l10, l11], .ref 23 :: st, k, (zz_hp n I J ex)) = zz_Run zz_prog d 114 (123, [l0, l1, l2, l3, l4, l5, l6, l7, l8, l9, l10, l11], .ref 40 :: st, k, (zz_hp n I J ex)) := zz_k_go f114_120 rfl rfl rfl
theorem f114_123 : zz_fetch zz_prog 114 123 = some (.iload 5, 2, [], []) := zz_fetch_of p114 rfl rfl
theorem s114_123 : zz_Run zz_prog d 114 (123, [l0, l1, l2, l3, l4, some (.int v), l6, l7, l8, l9, l10, l11], st, k, h) = zz_Run zz_prog d 114 (125, [l0, l1, l2, l3, l4, some (.int v), l6, l7, l8, l9, l10, l11], .int v :: st, k, h) := zz_k_num f114_123 rfl
theorem f114_125 : zz_fetch zz_prog 114 125 = some (.iaload, 1, [], []) := zz_fetch_of p114 rfl rfl
theorem s114_125 (ha : zz_isrd a = true) : zz_Run zz_prog d 114 (125, [l0, l1, l2, l3, l4, l5, l6, l7, l8, l9, l10, l11], .int v :: .ref a :: st, k, (zz_hp n I J ex)) = zz_ck (zz_in v (zz_ary n a)) (zz_Run zz_prog d 114 (126, [l0, l1, l2, l3, l4, l5, l6, l7, l8, l9, l10, l11], .int (I a v.toNatClampNeg) :: st, k, (zz_hp n I J ex))) := zz_k_iald f114_125 ha
theorem f114_126 : zz_fetch zz_prog 114 126 = some (.istore 10, 2, [], []) := zz_fetch_of p114 rfl rfl
theorem s114_126 : zz_Run zz_prog d 114 (126, [l0, l1, l2, l3, l4, l5, l6, l7, l8, l9, l10, l11], .int v :: st, k, h) = zz_sl l9 (zz_Run zz_prog d 114 (128, [l0, l1, l2, l3, l4, l5, l6, l7, l8, l9, some (.int v), l11], st, k, h)) := zz_k_st (j := 10) (u := .int v) f114_126 rfl (fun q hq => by cases hq) rfl (show 10 < 12 by decide) (by cases l9 <;> rfl) rfl
theorem f114_128 : zz_fetch zz_prog 114 128 = some (.iload 5, 2, [], []) := zz_fetch_of p114 rfl rfl
theorem s114_128 : zz_Run zz_prog d 114 (128, [l0, l1, l2, l3, l4, some (.int v), l6, l7, l8, l9, l10, l11], st, k, h) = zz_Run zz_prog d 114 (130, [l0, l1, l2, l3, l4, some (.int v), l6, l7, l8, l9, l10, l11], .int v :: st, k, h) := zz_k_num f114_128 rfl
theorem f114_130 : zz_fetch zz_prog 114 130 = some (.ifCond .eq 13, 3, [143], []) := zz_fetch_of p114 rfl rfl
theorem s114_130 : zz_Run zz_prog d 114 (130, [l0, l1, l2, l3, l4, l5, l6, l7, l8, l9, l10, l11], .int v :: st, k, h) = if v = 0 then zz_Run zz_prog d 114 (143, [l0, l1, l2, l3, l4, l5, l6, l7, l8, l9, l10, l11], st, k, h) else zz_Run zz_prog d 114 (133, [l0, l1, l2, l3, l4, l5, l6, l7, l8, l9, l10, l11], st, k, h) := zz_k_br (v = 0) rfl (zz_k_num f114_130 rfl)
theorem f114_133 : zz_fetch zz_prog 114 133 = some (.aload_n 0, 1, [], []) := zz_fetch_of p114 rfl rfl
theorem s114_133 : zz_Run zz_prog d 114 (133, [some (.ref a), l1, l2, l3, l4, l5, l6, l7, l8, l9, l10, l11], st, k, h) = zz_Run zz_prog d 114 (134, [some (.ref a), l1, l2, l3, l4, l5, l6, l7, l8, l9, l10, l11], .ref a :: st, k, h) := zz_k_num f114_133 rfl
theorem f114_134 : zz_fetch zz_prog 114 134 = some (.iload 10, 2, [], []) := zz_fetch_of p114 rfl rfl
theorem s114_134 : zz_Run zz_prog d 114 (134, [l0, l1, l2, l3, l4, l5, l6, l7, l8, l9, some (.int v), l11], st, k, h) = zz_Run zz_prog d 114 (136, [l0, l1, l2, l3, l4, l5, l6, l7, l8, l9, some (.int v), l11], .int v :: st, k, h) := zz_k_num f114_134 rfl
theorem f114_136 : zz_fetch zz_prog 114 136 = some (.iload_n 2, 1, [], []) := zz_fetch_of p114 rfl rfl
theorem s114_136 : zz_Run zz_prog d 114 (136, [l0, l1, some (.int v), l3, l4, l5, l6, l7, l8, l9, l10, l11], st, k, h) = zz_Run zz_prog d 114 (137, [l0, l1, some (.int v), l3, l4, l5, l6, l7, l8, l9, l10, l11], .int v :: st, k, h) := zz_k_num f114_136 rfl
theorem f114_137 : zz_fetch zz_prog 114 137 = some (.invokevirtual 136, 3, [0, 102, 3, 2], []) := zz_fetch_of p114 rfl rfl
theorem s114_137 : zz_Run zz_prog d 114 (137, [l0, l1, l2, l3, l4, l5, l6, l7, l8, l9, l10, l11], [b0, b1, .ref 23], k, (zz_hp n I J ex)) = zz_ret (zz_Call zz_prog d 102 [.ref 23, b1, b0] (zz_hp n I J ex)) (fun v k' h' => zz_Run zz_prog d 114 (140, [l0, l1, l2, l3, l4, l5, l6, l7, l8, l9, l10, l11], v.toList ++ [], k && k', h')) (fun a k' h' => zz_th d 114 137 a [l0, l1, l2, l3, l4, l5, l6, l7, l8, l9, l10, l11] (k && k') h') := zz_k_call f114_137 rfl rfl rfl
theorem f114_140 : zz_fetch zz_prog 114 140 = some (.ifCond .ne 7, 3, [147], []) := zz_fetch_of p114 rfl rfl
theorem s114_140 : zz_Run zz_prog d 114 (140, [l0, l1, l2, l3, l4, l5, l6, l7, l8, l9, l10, l11], .int v :: st, k, h) = if ¬ v = 0 then zz_Run zz_prog d 114 (147, [l0, l1, l2, l3, l4, l5, l6, l7, l8, l9, l10, l11], st, k, h) else zz_Run zz_prog d 114 (143, [l0, l1, l2, l3, l4, l5, l6, l7, l8, l9, l10, l11], st, k, h) := zz_k_br (¬ v = 0) rfl (zz_k_num f114_140 rfl)
theorem f114_143 : zz_fetch zz_prog 114 143 = some (.iconst 1, 1, [], []) := zz_fetch_of p114 rfl rfl
theorem s114_143 : zz_Run zz_prog d 114 (143, [l0, l1, l2, l3, l4, l5, l6, l7, l8, l9, l10, l11], st, k, h) = zz_Run zz_prog d 114 (144, [l0, l1, l2, l3, l4, l5, l6, l7, l8, l9, l10, l11], .int 1 :: st, k, h) := zz_k_num f114_143 rfl
theorem f114_144 : zz_fetch zz_prog 114 144 = some (.goto 4, 3, [148], []) := zz_fetch_of p114 rfl rfl
theorem s114_144 : zz_Run zz_prog d 114 (144, [l0, l1, l2, l3, l4, l5, l6, l7, l8, l9, l10, l11], st, k, h) = zz_Run zz_prog d 114 (148, [l0, l1, l2, l3, l4, l5, l6, l7, l8, l9, l10, l11], st, k, h) := zz_k_num f114_144 rfl
theorem f114_147 : zz_fetch zz_prog 114 147 = some (.iconst 0, 1, [], []) := zz_fetch_of p114 rfl rfl
theorem s114_147 : zz_Run zz_prog d 114 (147, [l0, l1, l2, l3, l4, l5, l6, l7, l8, l9, l10, l11], st, k, h) = zz_Run zz_prog d 114 (148, [l0, l1, l2, l3, l4, l5, l6, l7, l8, l9, l10, l11], .int 0 :: st, k, h) := zz_k_num f114_147 rfl
theorem f114_148 : zz_fetch zz_prog 114 148 = some (.istore 11, 2, [], []) := zz_fetch_of p114 rfl rfl
theorem s114_148 : zz_Run zz_prog d 114 (148, [l0, l1, l2, l3, l4, l5, l6, l7, l8, l9, l10, l11], .int v :: st, k, h) = zz_sl l10 (zz_Run zz_prog d 114 (150, [l0, l1, l2, l3, l4, l5, l6, l7, l8, l9, l10, some (.int v)], st, k, h)) := zz_k_st (j := 11) (u := .int v) f114_148 rfl (fun q hq => by cases hq) rfl (show 11 < 12 by decide) (by cases l10 <;> rfl) rfl
theorem f114_150 : zz_fetch zz_prog 114 150 = some (.iload 11, 2, [], []) := zz_fetch_of p114 rfl rfl
theorem s114_150 : zz_Run zz_prog d 114 (150, [l0, l1, l2, l3, l4, l5, l6, l7, l8, l9, l10, some (.int v)], st, k, h) = zz_Run zz_prog d 114 (152, [l0, l1, l2, l3, l4, l5, l6, l7, l8, l9, l10, some (.int v)], .int v :: st, k, h) := zz_k_num f114_150 rfl
theorem f114_152 : zz_fetch zz_prog 114 152 = some (.ifCond .eq 93, 3, [245], []) := zz_fetch_of p114 rfl rfl
theorem s114_152 : zz_Run zz_prog d 114 (152, [l0, l1, l2, l3, l4, l5, l6, l7, l8, l9, l10, l11], .int v :: st, k, h) = if v = 0 then zz_Run zz_prog d 114 (245, [l0, l1, l2, l3, l4, l5, l6, l7, l8, l9, l10, l11], st, k, h) else zz_Run zz_prog d 114 (155, [l0, l1, l2, l3, l4, l5, l6, l7, l8, l9, l10, l11], st, k, h) := zz_k_br (v = 0) rfl (zz_k_num f114_152 rfl)
theorem f114_155 : zz_fetch zz_prog 114 155 = some (.iload 6, 2, [], []) := zz_fetch_of p114 rfl rfl
theorem s114_155 : zz_Run zz_prog d 114 (155, [l0, l1, l2, l3, l4, l5, some (.int v), l7, l8, l9, l10, l11], st, k, h) = zz_Run zz_prog d 114 (157, [l0, l1, l2, l3, l4, l5, some (.int v), l7, l8, l9, l10, l11], .int v :: st, k, h) := zz_k_num f114_155 rfl
theorem f114_157 : zz_fetch zz_prog 114 157 = some (.iload 7, 2, [], []) := zz_fetch_of p114 rfl rfl
theorem s114_157 : zz_Run zz_prog d 114 (157, [l0, l1, l2, l3, l4, l5, l6, some (.int v), l8, l9, l10, l11], st, k, h) = zz_Run zz_prog d 114 (159, [l0, l1, l2, l3, l4, l5, l6, some (.int v), l8, l9, l10, l11], .int v :: st, k, h) := zz_k_num f114_157 rfl
theorem f114_159 : zz_fetch zz_prog 114 159 = some (.ishr, 1, [], []) := zz_fetch_of p114 rfl rfl
theorem s114_159 : zz_Run zz_prog d 114 (159, [l0, l1, l2, l3, l4, l5, l6, l7, l8, l9, l10, l11], .int w :: .int v :: st, k, h) = zz_Run zz_prog d 114 (160, [l0, l1, l2, l3, l4, l5, l6, l7, l8, l9, l10, l11], .int (v >>> (w &&& 31)) :: st, k, h) := zz_k_num f114_159 rfl
theorem f114_160 : zz_fetch zz_prog 114 160 = some (.iconst 1, 1, [], []) := zz_fetch_of p114 rfl rfl
theorem s114_160 : zz_Run zz_prog d 114 (160, [l0, l1, l2, l3, l4, l5, l6, l7, l8, l9, l10, l11], st, k, h) = zz_Run zz_prog d 114 (161, [l0, l1, l2, l3, l4, l5, l6, l7, l8, l9, l10, l11], .int 1 :: st, k, h) := zz_k_num f114_160 rfl
theorem f114_161 : zz_fetch zz_prog 114 161 = some (.iand, 1, [], []) := zz_fetch_of p114 rfl rfl
theorem s114_161 : zz_Run zz_prog d 114 (161, [l0, l1, l2, l3, l4, l5, l6, l7, l8, l9, l10, l11], .int w :: .int v :: st, k, h) = zz_Run zz_prog d 114 (162, [l0, l1, l2, l3, l4, l5, l6, l7, l8, l9, l10, l11], .int (v &&& w) :: st, k, h) := zz_k_num f114_161 rfl
theorem f114_162 : zz_fetch zz_prog 114 162 = some (.ifCond .ne 83, 3, [245], []) := zz_fetch_of p114 rfl rfl
theorem s114_162 : zz_Run zz_prog d 114 (162, [l0, l1, l2, l3, l4, l5, l6, l7, l8, l9, l10, l11], .int v :: st, k, h) = if ¬ v = 0 then zz_Run zz_prog d 114 (245, [l0, l1, l2, l3, l4, l5, l6, l7, l8, l9, l10, l11], st, k, h) else zz_Run zz_prog d 114 (165, [l0, l1, l2, l3, l4, l5, l6, l7, l8, l9, l10, l11], st, k, h) := zz_k_br (¬ v = 0) rfl (zz_k_num f114_162 rfl)
theorem f114_165 : zz_fetch zz_prog 114 165 = some (.iload 8, 2, [], []) := zz_fetch_of p114 rfl rfl
theorem s114_165 : zz_Run zz_prog d 114 (165, [l0, l1, l2, l3, l4, l5, l6, l7, some (.int v), l9, l10, l11], st, k, h) = zz_Run zz_prog d 114 (167, [l0, l1, l2, l3, l4, l5, l6, l7, some (.int v), l9, l10, l11], .int v :: st, k, h) := zz_k_num f114_165 rfl
theorem f114_167 : zz_fetch zz_prog 114 167 = some (.iload 10, 2, [], []) := zz_fetch_of p114 rfl rfl
theorem s114_167 : zz_Run zz_prog d 114 (167, [l0, l1, l2, l3, l4, l5, l6, l7, l8, l9, some (.int v), l11], st, k, h) = zz_Run zz_prog d 114 (169, [l0, l1, l2, l3, l4, l5, l6, l7, l8, l9, some (.int v), l11], .int v :: st, k, h) := zz_k_num f114_167 rfl
theorem f114_169 : zz_fetch zz_prog 114 169 = some (.if_icmp .eq 10, 3, [179], []) := zz_fetch_of p114 rfl rfl
theorem s114_169 : zz_Run zz_prog d 114 (169, [l0, l1, l2, l3, l4, l5, l6, l7, l8, l9, l10, l11], .int w :: .int v :: st, k, h) = if v = w then zz_Run zz_prog d 114 (179, [l0, l1, l2, l3, l4, l5, l6, l7, l8, l9, l10, l11], st, k, h) else zz_Run zz_prog d 114 (172, [l0, l1, l2, l3, l4, l5, l6, l7, l8, l9, l10, l11], st, k, h) := zz_k_br (v = w) rfl (zz_k_num f114_169 rfl)
theorem f114_172 : zz_fetch zz_prog 114 172 = some (.iload 9, 2, [], []) := zz_fetch_of p114 rfl rfl
theorem s114_172 : zz_Run zz_prog d 114 (172, [l0, l1, l2, l3, l4, l5, l6, l7, l8, some (.int v), l10, l11], st, k, h) = zz_Run zz_prog d 114 (174, [l0, l1, l2, l3, l4, l5, l6, l7, l8, some (.int v), l10, l11], .int v :: st, k, h) := zz_k_num f114_172 rfl
theorem f114_174 : zz_fetch zz_prog 114 174 = some (.iload 10, 2, [], []) := zz_fetch_of p114 rfl rfl
theorem s114_174 : zz_Run zz_prog d 114 (174, [l0, l1, l2, l3, l4, l5, l6, l7, l8, l9, some (.int v), l11], st, k, h) = zz_Run zz_prog d 114 (176, [l0, l1, l2, l3, l4, l5, l6, l7, l8, l9, some (.int v), l11], .int v :: st, k, h) := zz_k_num f114_174 rfl
theorem f114_176 : zz_fetch zz_prog 114 176 = some (.if_icmp .ne 69, 3, [245], []) := zz_fetch_of p114 rfl rfl
theorem s114_176 : zz_Run zz_prog d 114 (176, [l0, l1, l2, l3, l4, l5, l6, l7, l8, l9, l10, l11], .int w :: .int v :: st, k, h) = if ¬ v = w then zz_Run zz_prog d 114 (245, [l0, l1, l2, l3, l4, l5, l6, l7, l8, l9, l10, l11], st, k, h) else zz_Run zz_prog d 114 (179, [l0, l1, l2, l3, l4, l5, l6, l7, l8, l9, l10, l11], st, k, h) := zz_k_br (¬ v = w) rfl (zz_k_num f114_176 rfl)
theorem f114_179 : zz_fetch zz_prog 114 179 = some (.iload 6, 2, [], []) := zz_fetch_of p114 rfl rfl
theorem s114_179 : zz_Run zz_prog d 114 (179, [l0, l1, l2, l3, l4, l5, some (.int v), l7, l8, l9, l10, l11], st, k, h) = zz_Run zz_prog d 114 (181, [l0, l1, l2, l3, l4, l5, some (.int v), l7, l8, l9, l10, l11], .int v :: st, k, h) := zz_k_num f114_179 rfl
theorem f114_181 : zz_fetch zz_prog 114 181 = some (.iconst 1, 1, [], []) := zz_fetch_of p114 rfl rfl
theorem s114_181 : zz_Run zz_prog d 114 (181, [l0, l1, l2, l3, l4, l5, l6, l7, l8, l9, l10, l11], st, k, h) = zz_Run zz_prog d 114 (182, [l0, l1, l2, l3, l4, l5, l6, l7, l8, l9, l10, l11], .int 1 :: st, k, h) := zz_k_num f114_181 rfl
theorem f114_182 : zz_fetch zz_prog 114 182 = some (.iload 7, 2, [], []) := zz_fetch_of p114 rfl rfl
theorem s114_182 : zz_Run zz_prog d 114 (182, [l0, l1, l2, l3, l4, l5, l6, some (.int v), l8, l9, l10, l11], st, k, h) = zz_Run zz_prog d 114 (184, [l0, l1, l2, l3, l4, l5, l6, some (.int v), l8, l9, l10, l11], .int v :: st, k, h) := zz_k_num f114_182 rfl
theorem f114_184 : zz_fetch zz_prog 114 184 = some (.ishl, 1, [], []) := zz_fetch_of p114 rfl rfl
theorem s114_184 : zz_Run zz_prog d 114 (184, [l0, l1, l2, l3, l4, l5, l6, l7, l8, l9, l10, l11], .int w :: .int v :: st, k, h) = zz_Run zz_prog d 114 (185, [l0, l1, l2, l3, l4, l5, l6, l7, l8, l9, l10, l11], .int (v <<< (w &&& 31)) :: st, k, h) := zz_k_num f114_184 rfl
theorem f114_185 : zz_fetch zz_prog 114 185 = some (.ior, 1, [], []) := zz_fetch_of p114 rfl rfl
theorem s114_185 : zz_Run zz_prog d 114 (185, [l0, l1, l2, l3, l4, l5, l6, l7, l8, l9, l10, l11], .int w :: .int v :: st, k, h) = zz_Run zz_prog d 114 (186, [l0, l1, l2, l3, l4, l5, l6, l7, l8, l9, l10, l11], .int (v ||| w) :: st, k, h) := zz_k_num f114_185 rfl
theorem f114_186 : zz_fetch zz_prog 114 186 = some (.istore 6, 2, [], []) := zz_fetch_of p114 rfl rfl
theorem s114_186 : zz_Run zz_prog d 114 (186, [l0, l1, l2, l3, l4, l5, l6, l7, l8, l9, l10, l11], .int v :: st, k, h) = zz_sl l5 (zz_Run zz_prog d 114 (188, [l0, l1, l2, l3, l4, l5, some (.int v), l7, l8, l9, l10, l11], st, k, h)) := zz_k_st (j := 6) (u := .int v) f114_186 rfl (fun q hq => by cases hq) rfl (show 6 < 12 by decide) (by cases l5 <;> rfl) rfl
theorem f114_188 : zz_fetch zz_prog 114 188 = some (.iinc 5 1, 3, [], []) := zz_fetch_of p114 rfl rfl
theorem s114_188 : zz_Run zz_prog d 114 (188, [l0, l1, l2, l3, l4, some (.int v), l6, l7, l8, l9, l10, l11], st, k, h) = zz_sl l4 (zz_Run zz_prog d 114 (191, [l0, l1, l2, l3, l4, some (.int (v + 1)), l6, l7, l8, l9, l10, l11], st, k, h)) := zz_k_st (j := 5) (u := .int (v + 1)) f114_188 rfl (fun q hq => by cases hq) rfl (show 5 < 12 by decide) (by cases l4 <;> rfl) rfl
theorem f114_191 : zz_fetch zz_prog 114 191 = some (.aload_n 0, 1, [], []) := zz_fetch_of p114 rfl rfl
theorem s114_191 : zz_Run zz_prog d 114 (191, [some (.ref a), l1, l2, l3, l4, l5, l6, l7, l8, l9, l10, l11], st, k, h) = zz_Run zz_prog d 114 (192, [some (.ref a), l1, l2, l3, l4, l5, l6, l7, l8, l9, l10, l11], .ref a :: st, k, h) := zz_k_num f114_191 rfl
theorem f114_192 : zz_fetch zz_prog 114 192 = some (.getfield 58, 3, [2, 21, 3], []) := zz_fetch_of p114 rfl rfl
theorem s114_192 : zz_Run zz_prog d 114 (192, [l0, l1, l2, l3, l4, l5, l6, l7, l8, l9, l10, l11], .ref 23 :: st, k, (zz_hp n I J ex)) = zz_Run zz_prog d 114 (195, [l0, l1, l2, l3, l4, l5, l6, l7, l8, l9, l10, l11], .ref 40 :: st, k, (zz_hp n I J ex)) := zz_k_go f114_192 rfl rfl rfl
theorem f114_195 : zz_fetch zz_prog 114 195 = some (.iload 5, 2, [], []) := zz_fetch_of p114 rfl rfl
theorem s114_195 : zz_Run zz_prog d 114 (195, [l0, l1, l2, l3, l4, some (.int v), l6, l7, l8, l9, l10, l11], st, k, h) = zz_Run zz_prog d 114 (197, [l0, l1, l2, l3, l4, some (.int v), l6, l7, l8, l9, l10, l11], .int v :: st, k, h) := zz_k_num f114_195 rfl
theorem f114_197 : zz_fetch zz_prog 114 197 = some (.iload 8, 2, [], []) := zz_fetch_of p114 rfl rfl
theorem s114_197 : zz_Run zz_prog d 114 (197, [l0, l1, l2, l3, l4, l5, l6, l7, some (.int v), l9, l10, l11], st, k, h) = zz_Run zz_prog d 114 (199, [l0, l1, l2, l3, l4, l5, l6, l7, some (.int v), l9, l10, l11], .int v :: st, k, h) := zz_k_num f114_197 rfl
theorem f114_199 : zz_fetch zz_prog 114 199 = some (.iload 10, 2, [], []) := zz_fetch_of p114 rfl rfl
theorem s114_199 : zz_Run zz_prog d 114 (199, [l0, l1, l2, l3, l4, l5, l6, l7, l8, l9, some (.int v), l11], st, k, h) = zz_Run zz_prog d 114 (201, [l0, l1, l2, l3, l4, l5, l6, l7, l8, l9, some (.int v), l11], .int v :: st, k, h) := zz_k_num f114_199 rfl
theorem f114_201 : zz_fetch zz_prog 114 201 = some (.if_icmp .ne 8, 3, [209], []) := zz_fetch_of p114 rfl rfl
theorem s114_201 : zz_Run zz_prog d 114 (201, [l0, l1, l2, l3, l4, l5, l6, l7, l8, l9, l10, l11], .int w :: .int v :: st, k, h) = if ¬ v = w then zz_Run zz_prog d 114 (209, [l0, l1, l2, l3, l4, l5, l6, l7, l8, l9, l10, l11], st, k, h) else zz_Run zz_prog d 114 (204, [l0, l1, l2, l3, l4, l5, l6, l7, l8, l9, l10, l11], st, k, h) := zz_k_br (¬ v = w) rfl (zz_k_num f114_201 rfl)
theorem f114_204 : zz_fetch zz_prog 114 204 = some (.iload 9, 2, [], []) := zz_fetch_of p114 rfl rfl
theorem s114_204 : zz_Run zz_prog d 114 (204, [l0, l1, l2, l3, l4, l5, l6, l7, l8, some (.int v), l10, l11], st, k, h) = zz_Run zz_prog d 114 (206, [l0, l1, l2, l3, l4, l5, l6, l7, l8, some (.int v), l10, l11], .int v :: st, k, h) := zz_k_num f114_204 rfl
theorem f114_206 : zz_fetch zz_prog 114 206 = some (.goto 5, 3, [211], []) := zz_fetch_of p114 rfl rfl
theorem s114_206 : zz_Run zz_prog d 114 (206, [l0, l1, l2, l3, l4, l5, l6, l7, l8, l9, l10, l11], st, k, h) = zz_Run zz_prog d 114 (211, [l0, l1, l2, l3, l4, l5, l6, l7, l8, l9, l10, l11], st, k, h) := zz_k_num f114_206 rfl
theorem f114_209 : zz_fetch zz_prog 114 209 = some (.iload 8, 2, [], []) := zz_fetch_of p114 rfl rfl
theorem s114_209 : zz_Run zz_prog d 114 (209, [l0, l1, l2, l3, l4, l5, l6, l7, some (.int v), l9, l10, l11], st, k, h) = zz_Run zz_prog d 114 (211, [l0, l1, l2, l3, l4, l5, l6, l7, some (.int v), l9, l10, l11], .int v :: st, k, h) := zz_k_num f114_209 rfl
theorem f114_211 : zz_fetch zz_prog 114 211 = some (.iastore, 1, [], []) := zz_fetch_of p114 rfl rfl
theorem s114_211 (ha : zz_isar a = true) : zz_Run zz_prog d 114 (211, [l0, l1, l2, l3, l4, l5, l6, l7, l8, l9, l10, l11], .int w :: .int v :: .ref a :: st, k, (zz_hp n I J ex)) = zz_ck (zz_in v (zz_ary n a)) (zz_Run zz_prog d 114 (212, [l0, l1, l2, l3, l4, l5, l6, l7, l8, l9, l10, l11], st, false, (zz_hp n (zz_up I a v.toNatClampNeg w) J ex))) := zz_k_iast f114_211 ha
theorem f114_212 : zz_fetch zz_prog 114 212 = some (.aload_n 0, 1, [], []) := zz_fetch_of p114 rfl rfl
theorem s114_212 : zz_Run zz_prog d 114 (212, [some (.ref a), l1, l2, l3, l4, l5, l6, l7, l8, l9, l10, l11], st, k, h) = zz_Run zz_prog d 114 (213, [some (.ref a), l1, l2, l3, l4, l5, l6, l7, l8, l9, l10, l11], .ref a :: st, k, h) := zz_k_num f114_212 rfl
theorem f114_213 : zz_fetch zz_prog 114 213 = some (.getfield 61, 3, [2, 22, 3], []) := zz_fetch_of p114 rfl rfl
theorem s114_213 : zz_Run zz_prog d 114 (213, [l0, l1, l2, l3, l4, l5, l6, l7, l8, l9, l10, l11], .ref 23 :: st, k, (zz_hp n I J ex)) = zz_Run zz_prog d 114 (216, [l0, l1, l2, l3, l4, l5, l6, l7, l8, l9, l10, l11], .ref 41 :: st, k, (zz_hp n I J ex)) := zz_k_go f114_213 rfl rfl rfl
theorem f114_216 : zz_fetch zz_prog 114 216 = some (.iload 5, 2, [], []) := zz_fetch_of p114 rfl rfl
theorem s114_216 : zz_Run zz_prog d 114 (216, [l0, l1, l2, l3, l4, some (.int v), l6, l7, l8, l9, l10, l11], st, k, h) = zz_Run zz_prog d 114 (218, [l0, l1, l2, l3, l4, some (.int v), l6, l7, l8, l9, l10, l11], .int v :: st, k, h) := zz_k_num f114_216 rfl
theorem f114_218 : zz_fetch zz_prog 114 218 = some (.iconst 0, 1, [], []) := zz_fetch_of p114 rfl rfl
theorem s114_218 : zz_Run zz_prog d 114 (218, [l0, l1, l2, l3, l4, l5, l6, l7, l8, l9, l10, l11], st, k, h) = zz_Run zz_prog d 114 (219, [l0, l1, l2, l3, l4, l5, l6, l7, l8, l9, l10, l11], .int 0 :: st, k, h) := zz_k_num f114_218 rfl
theorem f114_219 : zz_fetch zz_prog 114 219 = some (.iastore, 1, [], []) := zz_fetch_of p114 rfl rfl
theorem s114_219 (ha : zz_isar a = true) : zz_Run zz_prog d 114 (219, [l0, l1, l2, l3, l4, l5, l6, l7, l8, l9, l10, l11], .int w :: .int v :: .ref a :: st, k, (zz_hp n I J ex)) = zz_ck (zz_in v (zz_ary n a)) (zz_Run zz_prog d 114 (220, [l0, l1, l2, l3, l4, l5, l6, l7, l8, l9, l10, l11], st, false, (zz_hp n (zz_up I a v.toNatClampNeg w) J ex))) := zz_k_iast f114_219 ha
theorem f114_220 : zz_fetch zz_prog 114 220 = some (.aload_n 0, 1, [], []) := zz_fetch_of p114 rfl rfl
theorem s114_220 : zz_Run zz_prog d 114 (220, [some (.ref a), l1, l2, l3, l4, l5, l6, l7, l8, l9, l10, l11], st, k, h) = zz_Run zz_prog d 114 (221, [some (.ref a), l1, l2, l3, l4, l5, l6, l7, l8, l9, l10, l11], .ref a :: st, k, h) := zz_k_num f114_220 rfl
theorem f114_221 : zz_fetch zz_prog 114 221 = some (.getfield 64, 3, [2, 23, 3], []) := zz_fetch_of p114 rfl rfl
theorem s114_221 : zz_Run zz_prog d 114 (221, [l0, l1, l2, l3, l4, l5, l6, l7, l8, l9, l10, l11], .ref 23 :: st, k, (zz_hp n I J ex)) = zz_Run zz_prog d 114 (224, [l0, l1, l2, l3, l4, l5, l6, l7, l8, l9, l10, l11], .ref 42 :: st, k, (zz_hp n I J ex)) := zz_k_go f114_221 rfl rfl rfl
theorem f114_224 : zz_fetch zz_prog 114 224 = some (.iload 5, 2, [], []) := zz_fetch_of p114 rfl rfl
theorem s114_224 : zz_Run zz_prog d 114 (224, [l0, l1, l2, l3, l4, some (.int v), l6, l7, l8, l9, l10, l11], st, k, h) = zz_Run zz_prog d 114 (226, [l0, l1, l2, l3, l4, some (.int v), l6, l7, l8, l9, l10, l11], .int v :: st, k, h) := zz_k_num f114_224 rfl
theorem f114_226 : zz_fetch zz_prog 114 226 = some (.iload 7, 2, [], []) := zz_fetch_of p114 rfl rfl
theorem s114_226 : zz_Run zz_prog d 114 (226, [l0, l1, l2, l3, l4, l5, l6, some (.int v), l8, l9, l10, l11], st, k, h) = zz_Run zz_prog d 114 (228, [l0, l1, l2, l3, l4, l5, l6, some (.int v), l8, l9, l10, l11], .int v :: st, k, h) := zz_k_num f114_226 rfl
theorem f114_228 : zz_fetch zz_prog 114 228 = some (.iastore, 1, [], []) := zz_fetch_of p114 rfl rfl
theorem s114_228 (ha : zz_isar a = true) : zz_Run zz_prog d 114 (228, [l0, l1, l2, l3, l4, l5, l6, l7, l8, l9, l10, l11], .int w :: .int v :: .ref a :: st, k, (zz_hp n I J ex)) = zz_ck (zz_in v (zz_ary n a)) (zz_Run zz_prog d 114 (229, [l0, l1, l2, l3, l4, l5, l6, l7, l8, l9, l10, l11], st, false, (zz_hp n (zz_up I a v.toNatClampNeg w) J ex))) := zz_k_iast f114_228 ha
theorem f114_229 : zz_fetch zz_prog 114 229 = some (.iload 5, 2, [], []) := zz_fetch_of p114 rfl rfl
theorem s114_229 : zz_Run zz_prog d 114 (229, [l0, l1, l2, l3, l4, some (.int v), l6, l7, l8, l9, l10, l11], st, k, h) = zz_Run zz_prog d 114 (231, [l0, l1, l2, l3, l4, some (.int v), l6, l7, l8, l9, l10, l11], .int v :: st, k, h) := zz_k_num f114_229 rfl
theorem f114_231 : zz_fetch zz_prog 114 231 = some (.iload 4, 2, [], []) := zz_fetch_of p114 rfl rfl
theorem s114_231 : zz_Run zz_prog d 114 (231, [l0, l1, l2, l3, some (.int v), l5, l6, l7, l8, l9, l10, l11], st, k, h) = zz_Run zz_prog d 114 (233, [l0, l1, l2, l3, some (.int v), l5, l6, l7, l8, l9, l10, l11], .int v :: st, k, h) := zz_k_num f114_231 rfl
theorem f114_233 : zz_fetch zz_prog 114 233 = some (.if_icmp .le 8, 3, [241], []) := zz_fetch_of p114 rfl rfl
theorem s114_233 : zz_Run zz_prog d 114 (233, [l0, l1, l2, l3, l4, l5, l6, l7, l8, l9, l10, l11], .int w :: .int v :: st, k, h) = if v ≤ w then zz_Run zz_prog d 114 (241, [l0, l1, l2, l3, l4, l5, l6, l7, l8, l9, l10, l11], st, k, h) else zz_Run zz_prog d 114 (236, [l0, l1, l2, l3, l4, l5, l6, l7, l8, l9, l10, l11], st, k, h) := zz_k_br (v ≤ w) rfl (zz_k_num f114_233 rfl)
theorem f114_236 : zz_fetch zz_prog 114 236 = some (.iload 5, 2, [], []) := zz_fetch_of p114 rfl rfl
theorem s114_236 : zz_Run zz_prog d 114 (236, [l0, l1, l2, l3, l4, some (.int v), l6, l7, l8, l9, l10, l11], st, k, h) = zz_Run zz_prog d 114 (238, [l0, l1, l2, l3, l4, some (.int v), l6, l7, l8, l9, l10, l11], .int v :: st, k, h) := zz_k_num f114_236 rfl
theorem f114_238 : zz_fetch zz_prog 114 238 = some (.goto 5, 3, [243], []) := zz_fetch_of p114 rfl rfl
theorem s114_238 : zz_Run zz_prog d 114 (238, [l0, l1, l2, l3, l4, l5, l6, l7, l8, l9, l10, l11], st, k, h) = zz_Run zz_prog d 114 (243, [l0, l1, l2, l3, l4, l5, l6, l7, l8, l9, l10, l11], st, k, h) := zz_k_num f114_238 rfl
theorem f114_241 : zz_fetch zz_prog 114 241 = some (.iload 4, 2, [], []) := zz_fetch_of p114 rfl rfl
theorem s114_241 : zz_Run zz_prog d 114 (241, [l0, l1, l2, l3, some (.int v), l5, l6, l7, l8, l9, l10, l11], st, k, h) = zz_Run zz_prog d 114 (243, [l0, l1, l2, l3, some (.int v), l5, l6, l7, l8, l9, l10, l11], .int v :: st, k, h) := zz_k_num f114_241 rfl
theorem f114_243 : zz_fetch zz_prog 114 243 = some (.istore 4, 2, [], []) := zz_fetch_of p114 rfl rfl
theorem s114_243 : zz_Run zz_prog d 114 (243, [l0, l1, l2, l3, l4, l5, l6, l7, l8, l9, l10, l11], .int v :: st, k, h) = zz_sl l3 (zz_Run zz_prog d 114 (245, [l0, l1, l2, l3, some (.int v), l5, l6, l7, l8, l9, l10, l11], st, k, h)) := zz_k_st (j := 4) (u := .int v) f114_243 rfl (fun q hq => by cases hq) rfl (show 4 < 12 by decide) (by cases l3 <;> rfl) rfl
theorem f114_245 : zz_fetch zz_prog 114 245 = some (.goto (-222), 3, [23], []) := zz_fetch_of p114 rfl rfl
theorem s114_245 : zz_Run zz_prog d 114 (245, [l0, l1, l2, l3, l4, l5, l6, l7, l8, l9, l10, l11], st, k, h) = zz_Run zz_prog d 114 (23, [l0, l1, l2, l3, l4, l5, l6, l7, l8, l9, l10, l11], st, k, h) := zz_k_num f114_245 rfl
theorem f114_248 : zz_fetch zz_prog 114 248 = some (.iload 4, 2, [], []) := zz_fetch_of p114 rfl rfl
theorem s114_248 : zz_Run zz_prog d 114 (248, [l0, l1, l2, l3, some (.int v), l5, l6, l7, l8, l9, l10, l11], st, k, h) = zz_Run zz_prog d 114 (250, [l0, l1, l2, l3, some (.int v), l5, l6, l7, l8, l9, l10, l11], .int v :: st, k, h) := zz_k_num f114_248 rfl
theorem f114_250 : zz_fetch zz_prog 114 250 = some (.ireturn, 1, [0], []) := zz_fetch_of p114 rfl rfl
theorem s114_250 : zz_Run zz_prog d 114 (250, [l0, l1, l2, l3, l4, l5, l6, l7, l8, l9, l10, l11], [.int v], k, h) = some (.inl (some (.int v)), k, h) := zz_k_stop f114_250 rfl rfl rfl
end S114
section S115
variable {d n j : Nat} {l0 l1 : Option Value} {st : List Value} {k : Bool} {h : zz_H} {v w v1 v2 : Int32} {y y1 : Int64} {a a1 a2 : Nat} {b0 b1 b2 b3 b4 b5 b6 b7 b8 : Value} {I : Nat → Nat → Int32} {J : Nat → Nat → Int64} {ex : List (Nat × Nat)}
theorem p115 : zz_prog 115 = some zz_m115 := rfl
theorem e115 (g0 : Nat) (g1 : Int32) : zz_Call zz_prog (d + 1) 115 [.ref g0, .int g1] h = zz_Run zz_prog d 115 (0, [some (.ref g0), some (.int g1)], [], true, h) := rfl
theorem t115 (pc : Nat) (L : List (Option Value)) : zz_th d 115 pc a L k h = some (.inr a, k, h) := zz_th_out p115 rfl
theorem f115_0 : zz_fetch zz_prog 115 0 = some (.aload_n 0, 1, [], []) := zz_fetch_of p115 rfl rfl
theorem s115_0 : zz_Run zz_prog d 115 (0, [some (.ref a), l1], st, k, h) = zz_Run zz_prog d 115 (1, [some (.ref a), l1], .ref a :: st, k, h) := zz_k_num f115_0 rfl
theorem f115_1 : zz_fetch zz_prog 115 1 = some (.iload_n 1, 1, [], []) := zz_fetch_of p115 rfl rfl
theorem s115_1 : zz_Run zz_prog d 115 (1, [l0, some (.int v)], st, k, h) = zz_Run zz_prog d 115 (2, [l0, some (.int v)], .int v :: st, k, h) := zz_k_num f115_1 rfl
theorem f115_2 : zz_fetch zz_prog 115 2 = some (.iconst 1, 1, [], []) := zz_fetch_of p115 rfl rfl
theorem s115_2 : zz_Run zz_prog d 115 (2, [l0, l1], st, k, h) = zz_Run zz_prog d 115 (3, [l0, l1], .int 1 :: st, k, h) := zz_k_num f115_2 rfl
theorem f115_3 : zz_fetch zz_prog 115 3 = some (.invokevirtual 126, 3, [0, 103, 3, 2], []) := zz_fetch_of p115 rfl rfl
theorem s115_3 : zz_Run zz_prog d 115 (3, [l0, l1], [b0, b1, .ref 23], k, (zz_hp n I J ex)) = zz_ret (zz_Call zz_prog d 103 [.ref 23, b1, b0] (zz_hp n I J ex)) (fun v k' h' => zz_Run zz_prog d 115 (6, [l0, l1], v.toList ++ [], k && k', h')) (fun a k' h' => zz_th d 115 3 a [l0, l1] (k && k') h') := zz_k_call f115_3 rfl rfl rfl
theorem f115_6 : zz_fetch zz_prog 115 6 = some (.iconst 2, 1, [], []) := zz_fetch_of p115 rfl rfl
theorem s115_6 : zz_Run zz_prog d 115 (6, [l0, l1], st, k, h) = zz_Run zz_prog d 115 (7, [l0, l1], .int 2 :: st, k, h) := zz_k_num f115_6 rfl
theorem f115_7 : zz_fetch zz_prog 115 7 = some (.aload_n 0, 1, [], []) := zz_fetch_of p115 rfl rfl
theorem s115_7 : zz_Run zz_prog d 115 (7, [some (.ref a), l1], st, k, h) = zz_Run zz_prog d 115 (8, [some (.ref a), l1], .ref a :: st, k, h) := zz_k_num f115_7 rfl
theorem f115_8 : zz_fetch zz_prog 115 8 = some (.iload_n 1, 1, [], []) := zz_fetch_of p115 rfl rfl
theorem s115_8 : zz_Run zz_prog d 115 (8, [l0, some (.int v)], st, k, h) = zz_Run zz_prog d 115 (9, [l0, some (.int v)], .int v :: st, k, h) := zz_k_num f115_8 rfl
theorem f115_9 : zz_fetch zz_prog 115 9 = some (.iconst 2, 1, [], []) := zz_fetch_of p115 rfl rfl
theorem s115_9 : zz_Run zz_prog d 115 (9, [l0, l1], st, k, h) = zz_Run zz_prog d 115 (10, [l0, l1], .int 2 :: st, k, h) := zz_k_num f115_9 rfl
theorem f115_10 : zz_fetch zz_prog 115 10 = some (.invokevirtual 126, 3, [0, 103, 3, 2], []) := zz_fetch_of p115 rfl rfl
theorem s115_10 : zz_Run zz_prog d 115 (10, [l0, l1], [b0, b1, .ref 23, b3, b4], k, (zz_hp n I J ex)) = zz_ret (zz_Call zz_prog d 103 [.ref 23, b1, b0] (zz_hp n I J ex)) (fun v k' h' => zz_Run zz_prog d 115 (13, [l0, l1], v.toList ++ [b3, b4], k && k', h')) (fun a k' h' => zz_th d 115 10 a [l0, l1] (k && k') h') := zz_k_call f115_10 rfl rfl rfl
theorem f115_13 : zz_fetch zz_prog 115 13 = some (.imul, 1, [], []) := zz_fetch_of p115 rfl rfl
theorem s115_13 : zz_Run zz_prog d 115 (13, [l0, l1], .int w :: .int v :: st, k, h) = zz_Run zz_prog d 115 (14, [l0, l1], .int (v * w) :: st, k, h) := zz_k_num f115_13 rfl
theorem f115_14 : zz_fetch zz_prog 115 14 = some (.iadd, 1, [], []) := zz_fetch_of p115 rfl rfl
theorem s115_14 : zz_Run zz_prog d 115 (14, [l0, l1], .int w :: .int v :: st, k, h) = zz_Run zz_prog d 115 (15, [l0, l1], .int (v + w) :: st, k, h) := zz_k_num f115_14 rfl
theorem f115_15 : zz_fetch zz_prog 115 15 = some (.aload_n 0, 1, [], []) := zz_fetch_of p115 rfl rfl
theorem s115_15 : zz_Run zz_prog d 115 (15, [some (.ref a), l1], st, k, h) = zz_Run zz_prog d 115 (16, [some (.ref a), l1], .ref a :: st, k, h) := zz_k_num f115_15 rfl
theorem f115_16 : zz_fetch zz_prog 115 16 = some (.getfield 7, 3, [2, 1, 3], []) := zz_fetch_of p115 rfl rfl
theorem s115_16 : zz_Run zz_prog d 115 (16, [l0, l1], .ref 23 :: st, k, (zz_hp n I J ex)) = zz_Run zz_prog d 115 (19, [l0, l1], .ref 24 :: st, k, (zz_hp n I J ex)) := zz_k_go f115_16 rfl rfl rfl
theorem f115_19 : zz_fetch zz_prog 115 19 = some (.sipush 151, 3, [], []) := zz_fetch_of p115 rfl rfl
theorem s115_19 : zz_Run zz_prog d 115 (19, [l0, l1], st, k, h) = zz_Run zz_prog d 115 (22, [l0, l1], .int 151 :: st, k, h) := zz_k_num f115_19 (congrArg (fun u => some (22, [l0, l1], Value.int u :: st)) (by decide : (Int16.ofInt 151).toInt32 = 151))
theorem f115_22 : zz_fetch zz_prog 115 22 = some (.iconst 5, 1, [], []) := zz_fetch_of p115 rfl rfl
theorem s115_22 : zz_Run zz_prog d 115 (22, [l0, l1], st, k, h) = zz_Run zz_prog d 115 (23, [l0, l1], .int 5 :: st, k, h) := zz_k_num f115_22 rfl
theorem f115_23 : zz_fetch zz_prog 115 23 = some (.iload_n 1, 1, [], []) := zz_fetch_of p115 rfl rfl
theorem s115_23 : zz_Run zz_prog d 115 (23, [l0, some (.int v)], st, k, h) = zz_Run zz_prog d 115 (24, [l0, some (.int v)], .int v :: st, k, h) := zz_k_num f115_23 rfl
theorem f115_24 : zz_fetch zz_prog 115 24 = some (.imul, 1, [], []) := zz_fetch_of p115 rfl rfl
theorem s115_24 : zz_Run zz_prog d 115 (24, [l0, l1], .int w :: .int v :: st, k, h) = zz_Run zz_prog d 115 (25, [l0, l1], .int (v * w) :: st, k, h) := zz_k_num f115_24 rfl
theorem f115_25 : zz_fetch zz_prog 115 25 = some (.iadd, 1, [], []) := zz_fetch_of p115 rfl rfl
theorem s115_25 : zz_Run zz_prog d 115 (25, [l0, l1], .int w :: .int v :: st, k, h) = zz_Run zz_prog d 115 (26, [l0, l1], .int (v + w) :: st, k, h) := zz_k_num f115_25 rfl
theorem f115_26 : zz_fetch zz_prog 115 26 = some (.iconst 4, 1, [], []) := zz_fetch_of p115 rfl rfl
theorem s115_26 : zz_Run zz_prog d 115 (26, [l0, l1], st, k, h) = zz_Run zz_prog d 115 (27, [l0, l1], .int 4 :: st, k, h) := zz_k_num f115_26 rfl
theorem f115_27 : zz_fetch zz_prog 115 27 = some (.iadd, 1, [], []) := zz_fetch_of p115 rfl rfl
theorem s115_27 : zz_Run zz_prog d 115 (27, [l0, l1], .int w :: .int v :: st, k, h) = zz_Run zz_prog d 115 (28, [l0, l1], .int (v + w) :: st, k, h) := zz_k_num f115_27 rfl
theorem f115_28 : zz_fetch zz_prog 115 28 = some (.iaload, 1, [], []) := zz_fetch_of p115 rfl rfl
theorem s115_28 (ha : zz_isrd a = true) : zz_Run zz_prog d 115 (28, [l0, l1], .int v :: .ref a :: st, k, (zz_hp n I J ex)) = zz_ck (zz_in v (zz_ary n a)) (zz_Run zz_prog d 115 (29, [l0, l1], .int (I a v.toNatClampNeg) :: st, k, (zz_hp n I J ex))) := zz_k_iald f115_28 ha
theorem f115_29 : zz_fetch zz_prog 115 29 = some (.iadd, 1, [], []) := zz_fetch_of p115 rfl rfl
theorem s115_29 : zz_Run zz_prog d 115 (29, [l0, l1], .int w :: .int v :: st, k, h) = zz_Run zz_prog d 115 (30, [l0, l1], .int (v + w) :: st, k, h) := zz_k_num f115_29 rfl
theorem f115_30 : zz_fetch zz_prog 115 30 = some (.aload_n 0, 1, [], []) := zz_fetch_of p115 rfl rfl
theorem s115_30 : zz_Run zz_prog d 115 (30, [some (.ref a), l1], st, k, h) = zz_Run zz_prog d 115 (31, [some (.ref a), l1], .ref a :: st, k, h) := zz_k_num f115_30 rfl
theorem f115_31 : zz_fetch zz_prog 115 31 = some (.getfield 7, 3, [2, 1, 3], []) := zz_fetch_of p115 rfl rfl
theorem s115_31 : zz_Run zz_prog d 115 (31, [l0, l1], .ref 23 :: st, k, (zz_hp n I J ex)) = zz_Run zz_prog d 115 (34, [l0, l1], .ref 24 :: st, k, (zz_hp n I J ex)) := zz_k_go f115_31 rfl rfl rfl
theorem f115_34 : zz_fetch zz_prog 115 34 = some (.sipush 189, 3, [], []) := zz_fetch_of p115 rfl rfl
theorem s115_34 : zz_Run zz_prog d 115 (34, [l0, l1], st, k, h) = zz_Run zz_prog d 115 (37, [l0, l1], .int 189 :: st, k, h) := zz_k_num f115_34 (congrArg (fun u => some (37, [l0, l1], Value.int u :: st)) (by decide : (Int16.ofInt 189).toInt32 = 189))
theorem f115_37 : zz_fetch zz_prog 115 37 = some (.iaload, 1, [], []) := zz_fetch_of p115 rfl rfl
theorem s115_37 (ha : zz_isrd a = true) : zz_Run zz_prog d 115 (37, [l0, l1], .int v :: .ref a :: st, k, (zz_hp n I J ex)) = zz_ck (zz_in v (zz_ary n a)) (zz_Run zz_prog d 115 (38, [l0, l1], .int (I a v.toNatClampNeg) :: st, k, (zz_hp n I J ex))) := zz_k_iald f115_37 ha
theorem f115_38 : zz_fetch zz_prog 115 38 = some (.iload_n 1, 1, [], []) := zz_fetch_of p115 rfl rfl
theorem s115_38 : zz_Run zz_prog d 115 (38, [l0, some (.int v)], st, k, h) = zz_Run zz_prog d 115 (39, [l0, some (.int v)], .int v :: st, k, h) := zz_k_num f115_38 rfl
theorem f115_39 : zz_fetch zz_prog 115 39 = some (.if_icmp .ne 7, 3, [46], []) := zz_fetch_of p115 rfl rfl
theorem s115_39 : zz_Run zz_prog d 115 (39, [l0, l1], .int w :: .int v :: st, k, h) = if ¬ v = w then zz_Run zz_prog d 115 (46, [l0, l1], st, k, h) else zz_Run zz_prog d 115 (42, [l0, l1], st, k, h) := zz_k_br (¬ v = w) rfl (zz_k_num f115_39 rfl)
theorem f115_42 : zz_fetch zz_prog 115 42 = some (.iconst 2, 1, [], []) := zz_fetch_of p115 rfl rfl
theorem s115_42 : zz_Run zz_prog d 115 (42, [l0, l1], st, k, h) = zz_Run zz_prog d 115 (43, [l0, l1], .int 2 :: st, k, h) := zz_k_num f115_42 rfl
theorem f115_43 : zz_fetch zz_prog 115 43 = some (.goto 4, 3, [47], []) := zz_fetch_of p115 rfl rfl
theorem s115_43 : zz_Run zz_prog d 115 (43, [l0, l1], st, k, h) = zz_Run zz_prog d 115 (47, [l0, l1], st, k, h) := zz_k_num f115_43 rfl
theorem f115_46 : zz_fetch zz_prog 115 46 = some (.iconst 0, 1, [], []) := zz_fetch_of p115 rfl rfl
theorem s115_46 : zz_Run zz_prog d 115 (46, [l0, l1], st, k, h) = zz_Run zz_prog d 115 (47, [l0, l1], .int 0 :: st, k, h) := zz_k_num f115_46 rfl
theorem f115_47 : zz_fetch zz_prog 115 47 = some (.iadd, 1, [], []) := zz_fetch_of p115 rfl rfl
theorem s115_47 : zz_Run zz_prog d 115 (47, [l0, l1], .int w :: .int v :: st, k, h) = zz_Run zz_prog d 115 (48, [l0, l1], .int (v + w) :: st, k, h) := zz_k_num f115_47 rfl
theorem f115_48 : zz_fetch zz_prog 115 48 = some (.ireturn, 1, [0], []) := zz_fetch_of p115 rfl rfl
theorem s115_48 : zz_Run zz_prog d 115 (48, [l0, l1], [.int v], k, h) = some (.inl (some (.int v)), k, h) := zz_k_stop f115_48 rfl rfl rfl
end S115
section S116
variable {d n j : Nat} {l0 l1 l2 l3 l4 : Option Value} {st : List Value} {k : Bool} {h : zz_H} {v w v1 v2 : Int32} {y y1 : Int64} {a a1 a2 : Nat} {b0 b1 b2 b3 b4 b5 b6 b7 b8 : Value} {I : Nat → Nat → Int32} {J : Nat → Nat → Int64} {ex : List (Nat × Nat)}
theorem p116 : zz_prog 116 = some zz_m116 := rfl
theorem e116 (g0 : Nat) : zz_Call zz_prog (d + 1) 116 [.ref g0] h = zz_Run zz_prog d 116 (0, [some (.ref g0), none, none, none, none], [], true, h) := rfl
theorem t116 (pc : Nat) (L : List (Option Value)) : zz_th d 116 pc a L k h = some (.inr a, k, h) := zz_th_out p116 rfl
theorem f116_0 : zz_fetch zz_prog 116 0 = some (.iconst 0, 1, [], []) := zz_fetch_of p116 rfl rfl
theorem s116_0 : zz_Run zz_prog d 116 (0, [l0, l1, l2, l3, l4], st, k, h) = zz_Run zz_prog d 116 (1, [l0, l1, l2, l3, l4], .int 0 :: st, k, h) := zz_k_num f116_0 rfl
theorem f116_1 : zz_fetch zz_prog 116 1 = some (.istore_n 1, 1, [], []) := zz_fetch_of p116 rfl rfl
theorem s116_1 : zz_Run zz_prog d 116 (1, [l0, l1, l2, l3, l4], .int v :: st, k, h) = zz_sl l0 (zz_Run zz_prog d 116 (2, [l0, some (.int v), l2, l3, l4], st, k, h)) := zz_k_st (j := 1) (u := .int v) f116_1 rfl (fun q hq => by cases hq) rfl (show 1 < 5 by decide) (by cases l0 <;> rfl) rfl
theorem f116_2 : zz_fetch zz_prog 116 2 = some (.iconst (-1), 1, [], []) := zz_fetch_of p116 rfl rfl
theorem s116_2 : zz_Run zz_prog d 116 (2, [l0, l1, l2, l3, l4], st, k, h) = zz_Run zz_prog d 116 (3, [l0, l1, l2, l3, l4], .int (-1) :: st, k, h) := zz_k_num f116_2 rfl
theorem f116_3 : zz_fetch zz_prog 116 3 = some (.istore_n 2, 1, [], []) := zz_fetch_of p116 rfl rfl
theorem s116_3 : zz_Run zz_prog d 116 (3, [l0, l1, l2, l3, l4], .int v :: st, k, h) = zz_sl l1 (zz_Run zz_prog d 116 (4, [l0, l1, some (.int v), l3, l4], st, k, h)) := zz_k_st (j := 2) (u := .int v) f116_3 rfl (fun q hq => by cases hq) rfl (show 2 < 5 by decide) (by cases l1 <;> rfl) rfl
theorem f116_4 : zz_fetch zz_prog 116 4 = some (.iconst 0, 1, [], []) := zz_fetch_of p116 rfl rfl
theorem s116_4 : zz_Run zz_prog d 116 (4, [l0, l1, l2, l3, l4], st, k, h) = zz_Run zz_prog d 116 (5, [l0, l1, l2, l3, l4], .int 0 :: st, k, h) := zz_k_num f116_4 rfl
theorem f116_5 : zz_fetch zz_prog 116 5 = some (.istore_n 3, 1, [], []) := zz_fetch_of p116 rfl rfl
theorem s116_5 : zz_Run zz_prog d 116 (5, [l0, l1, l2, l3, l4], .int v :: st, k, h) = zz_sl l2 (zz_Run zz_prog d 116 (6, [l0, l1, l2, some (.int v), l4], st, k, h)) := zz_k_st (j := 3) (u := .int v) f116_5 rfl (fun q hq => by cases hq) rfl (show 3 < 5 by decide) (by cases l2 <;> rfl) rfl
theorem f116_6 : zz_fetch zz_prog 116 6 = some (.iload_n 3, 1, [], []) := zz_fetch_of p116 rfl rfl
theorem s116_6 : zz_Run zz_prog d 116 (6, [l0, l1, l2, some (.int v), l4], st, k, h) = zz_Run zz_prog d 116 (7, [l0, l1, l2, some (.int v), l4], .int v :: st, k, h) := zz_k_num f116_6 rfl
theorem f116_7 : zz_fetch zz_prog 116 7 = some (.aload_n 0, 1, [], []) := zz_fetch_of p116 rfl rfl
theorem s116_7 : zz_Run zz_prog d 116 (7, [some (.ref a), l1, l2, l3, l4], st, k, h) = zz_Run zz_prog d 116 (8, [some (.ref a), l1, l2, l3, l4], .ref a :: st, k, h) := zz_k_num f116_7 rfl
theorem f116_8 : zz_fetch zz_prog 116 8 = some (.getfield 105, 3, [2, 15, 0], []) := zz_fetch_of p116 rfl rfl
theorem s116_8 : zz_Run zz_prog d 116 (8, [l0, l1, l2, l3, l4], .ref 23 :: st, k, (zz_hp n I J ex)) = zz_Run zz_prog d 116 (11, [l0, l1, l2, l3, l4], .int (I 23 15) :: st, k, (zz_hp n I J ex)) := zz_k_go f116_8 rfl rfl rfl
theorem f116_11 : zz_fetch zz_prog 116 11 = some (.if_icmp .ge 51, 3, [62], []) := zz_fetch_of p116 rfl rfl
theorem s116_11 : zz_Run zz_prog d 116 (11, [l0, l1, l2, l3, l4], .int w :: .int v :: st, k, h) = if w ≤ v then zz_Run zz_prog d 116 (62, [l0, l1, l2, l3, l4], st, k, h) else zz_Run zz_prog d 116 (14, [l0, l1, l2, l3, l4], st, k, h) := zz_k_br (w ≤ v) rfl (zz_k_num f116_11 rfl)
theorem f116_14 : zz_fetch zz_prog 116 14 = some (.aload_n 0, 1, [], []) := zz_fetch_of p116 rfl rfl
theorem s116_14 : zz_Run zz_prog d 116 (14, [some (.ref a), l1, l2, l3, l4], st, k, h) = zz_Run zz_prog d 116 (15, [some (.ref a), l1, l2, l3, l4], .ref a :: st, k, h) := zz_k_num f116_14 rfl
theorem f116_15 : zz_fetch zz_prog 116 15 = some (.iload_n 3, 1, [], []) := zz_fetch_of p116 rfl rfl
theorem s116_15 : zz_Run zz_prog d 116 (15, [l0, l1, l2, some (.int v), l4], st, k, h) = zz_Run zz_prog d 116 (16, [l0, l1, l2, some (.int v), l4], .int v :: st, k, h) := zz_k_num f116_15 rfl
theorem f116_16 : zz_fetch zz_prog 116 16 = some (.invokevirtual 139, 3, [0, 113, 2, 2], []) := zz_fetch_of p116 rfl rfl
theorem s116_16 : zz_Run zz_prog d 116 (16, [l0, l1, l2, l3, l4], [b0, .ref 23], k, (zz_hp n I J ex)) = zz_ret (zz_Call zz_prog d 113 [.ref 23, b0] (zz_hp n I J ex)) (fun v k' h' => zz_Run zz_prog d 116 (19, [l0, l1, l2, l3, l4], v.toList ++ [], k && k', h')) (fun a k' h' => zz_th d 116 16 a [l0, l1, l2, l3, l4] (k && k') h') := zz_k_call f116_16 rfl rfl rfl
theorem f116_19 : zz_fetch zz_prog 116 19 = some (.istore 4, 2, [], []) := zz_fetch_of p116 rfl rfl
theorem s116_19 : zz_Run zz_prog d 116 (19, [l0, l1, l2, l3, l4], .int v :: st, k, h) = zz_sl l3 (zz_Run zz_prog d 116 (21, [l0, l1, l2, l3, some (.int v)], st, k, h)) := zz_k_st (j := 4) (u := .int v) f116_19 rfl (fun q hq => by cases hq) rfl (show 4 < 5 by decide) (by cases l3 <;> rfl) rfl
theorem f116_21 : zz_fetch zz_prog 116 21 = some (.iload 4, 2, [], []) := zz_fetch_of p116 rfl rfl
theorem s116_21 : zz_Run zz_prog d 116 (21, [l0, l1, l2, l3, some (.int v)], st, k, h) = zz_Run zz_prog d 116 (23, [l0, l1, l2, l3, some (.int v)], .int v :: st, k, h) := zz_k_num f116_21 rfl
theorem f116_23 : zz_fetch zz_prog 116 23 = some (.iload_n 1, 1, [], []) := zz_fetch_of p116 rfl rfl
theorem s116_23 : zz_Run zz_prog d 116 (23, [l0, some (.int v), l2, l3, l4], st, k, h) = zz_Run zz_prog d 116 (24, [l0, some (.int v), l2, l3, l4], .int v :: st, k, h) := zz_k_num f116_23 rfl
theorem f116_24 : zz_fetch zz_prog 116 24 = some (.if_icmp .le 7, 3, [31], []) := zz_fetch_of p116 rfl rfl
theorem s116_24 : zz_Run zz_prog d 116 (24, [l0, l1, l2, l3, l4], .int w :: .int v :: st, k, h) = if v ≤ w then zz_Run zz_prog d 116 (31, [l0, l1, l2, l3, l4], st, k, h) else zz_Run zz_prog d 116 (27, [l0, l1, l2, l3, l4], st, k, h) := zz_k_br (v ≤ w) rfl (zz_k_num f116_24 rfl)
theorem f116_27 : zz_fetch zz_prog 116 27 = some (.iload_n 3, 1, [], []) := zz_fetch_of p116 rfl rfl
theorem s116_27 : zz_Run zz_prog d 116 (27, [l0, l1, l2, some (.int v), l4], st, k, h) = zz_Run zz_prog d 116 (28, [l0, l1, l2, some (.int v), l4], .int v :: st, k, h) := zz_k_num f116_27 rfl
theorem f116_28 : zz_fetch zz_prog 116 28 = some (.goto 14, 3, [42], []) := zz_fetch_of p116 rfl rfl
theorem s116_28 : zz_Run zz_prog d 116 (28, [l0, l1, l2, l3, l4], st, k, h) = zz_Run zz_prog d 116 (42, [l0, l1, l2, l3, l4], st, k, h) := zz_k_num f116_28 rfl
theorem f116_31 : zz_fetch zz_prog 116 31 = some (.iload 4, 2, [], []) := zz_fetch_of p116 rfl rfl
theorem s116_31 : zz_Run zz_prog d 116 (31, [l0, l1, l2, l3, some (.int v)], st, k, h) = zz_Run zz_prog d 116 (33, [l0, l1, l2, l3, some (.int v)], .int v :: st, k, h) := zz_k_num f116_31 rfl
theorem f116_33 : zz_fetch zz_prog 116 33 = some (.iload_n 1, 1, [], []) := zz_fetch_of p116 rfl rfl
theorem s116_33 : zz_Run zz_prog d 116 (33, [l0, some (.int v), l2, l3, l4], st, k, h) = zz_Run zz_prog d 116 (34, [l0, some (.int v), l2, l3, l4], .int v :: st, k, h) := zz_k_num f116_33 rfl
theorem f116_34 : zz_fetch zz_prog 116 34 = some (.if_icmp .ne 7, 3, [41], []) := zz_fetch_of p116 rfl rfl
theorem s116_34 : zz_Run zz_prog d 116 (34, [l0, l1, l2, l3, l4], .int w :: .int v :: st, k, h) = if ¬ v = w then zz_Run zz_prog d 116 (41, [l0, l1, l2, l3, l4], st, k, h) else zz_Run zz_prog d 116 (37, [l0, l1, l2, l3, l4], st, k, h) := zz_k_br (¬ v = w) rfl (zz_k_num f116_34 rfl)
theorem f116_37 : zz_fetch zz_prog 116 37 = some (.iconst (-1), 1, [], []) := zz_fetch_of p116 rfl rfl
theorem s116_37 : zz_Run zz_prog d 116 (37, [l0, l1, l2, l3, l4], st, k, h) = zz_Run zz_prog d 116 (38, [l0, l1, l2, l3, l4], .int (-1) :: st, k, h) := zz_k_num f116_37 rfl
theorem f116_38 : zz_fetch zz_prog 116 38 = some (.goto 4, 3, [42], []) := zz_fetch_of p116 rfl rfl
theorem s116_38 : zz_Run zz_prog d 116 (38, [l0, l1, l2, l3, l4], st, k, h) = zz_Run zz_prog d 116 (42, [l0, l1, l2, l3, l4], st, k, h) := zz_k_num f116_38 rfl
theorem f116_41 : zz_fetch zz_prog 116 41 = some (.iload_n 2, 1, [], []) := zz_fetch_of p116 rfl rfl
theorem s116_41 : zz_Run zz_prog d 116 (41, [l0, l1, some (.int v), l3, l4], st, k, h) = zz_Run zz_prog d 116 (42, [l0, l1, some (.int v), l3, l4], .int v :: st, k, h) := zz_k_num f116_41 rfl
theorem f116_42 : zz_fetch zz_prog 116 42 = some (.istore_n 2, 1, [], []) := zz_fetch_of p116 rfl rfl
theorem s116_42 : zz_Run zz_prog d 116 (42, [l0, l1, l2, l3, l4], .int v :: st, k, h) = zz_sl l1 (zz_Run zz_prog d 116 (43, [l0, l1, some (.int v), l3, l4], st, k, h)) := zz_k_st (j := 2) (u := .int v) f116_42 rfl (fun q hq => by cases hq) rfl (show 2 < 5 by decide) (by cases l1 <;> rfl) rfl
theorem f116_43 : zz_fetch zz_prog 116 43 = some (.iload 4, 2, [], []) := zz_fetch_of p116 rfl rfl
theorem s116_43 : zz_Run zz_prog d 116 (43, [l0, l1, l2, l3, some (.int v)], st, k, h) = zz_Run zz_prog d 116 (45, [l0, l1, l2, l3, some (.int v)], .int v :: st, k, h) := zz_k_num f116_43 rfl
theorem f116_45 : zz_fetch zz_prog 116 45 = some (.iload_n 1, 1, [], []) := zz_fetch_of p116 rfl rfl
theorem s116_45 : zz_Run zz_prog d 116 (45, [l0, some (.int v), l2, l3, l4], st, k, h) = zz_Run zz_prog d 116 (46, [l0, some (.int v), l2, l3, l4], .int v :: st, k, h) := zz_k_num f116_45 rfl
theorem f116_46 : zz_fetch zz_prog 116 46 = some (.if_icmp .le 8, 3, [54], []) := zz_fetch_of p116 rfl rfl
theorem s116_46 : zz_Run zz_prog d 116 (46, [l0, l1, l2, l3, l4], .int w :: .int v :: st, k, h) = if v ≤ w then zz_Run zz_prog d 116 (54, [l0, l1, l2, l3, l4], st, k, h) else zz_Run zz_prog d 116 (49, [l0, l1, l2, l3, l4], st, k, h) := zz_k_br (v ≤ w) rfl (zz_k_num f116_46 rfl)
theorem f116_49 : zz_fetch zz_prog 116 49 = some (.iload 4, 2, [], []) := zz_fetch_of p116 rfl rfl
theorem s116_49 : zz_Run zz_prog d 116 (49, [l0, l1, l2, l3, some (.int v)], st, k, h) = zz_Run zz_prog d 116 (51, [l0, l1, l2, l3, some (.int v)], .int v :: st, k, h) := zz_k_num f116_49 rfl
theorem f116_51 : zz_fetch zz_prog 116 51 = some (.goto 4, 3, [55], []) := zz_fetch_of p116 rfl rfl
theorem s116_51 : zz_Run zz_prog d 116 (51, [l0, l1, l2, l3, l4], st, k, h) = zz_Run zz_prog d 116 (55, [l0, l1, l2, l3, l4], st, k, h) := zz_k_num f116_51 rfl
theorem f116_54 : zz_fetch zz_prog 116 54 = some (.iload_n 1, 1, [], []) := zz_fetch_of p116 rfl rfl
theorem s116_54 : zz_Run zz_prog d 116 (54, [l0, some (.int v), l2, l3, l4], st, k, h) = zz_Run zz_prog d 116 (55, [l0, some (.int v), l2, l3, l4], .int v :: st, k, h) := zz_k_num f116_54 rfl
theorem f116_55 : zz_fetch zz_prog 116 55 = some (.istore_n 1, 1, [], []) := zz_fetch_of p116 rfl rfl
theorem s116_55 : zz_Run zz_prog d 116 (55, [l0, l1, l2, l3, l4], .int v :: st, k, h) = zz_sl l0 (zz_Run zz_prog d 116 (56, [l0, some (.int v), l2, l3, l4], st, k, h)) := zz_k_st (j := 1) (u := .int v) f116_55 rfl (fun q hq => by cases hq) rfl (show 1 < 5 by decide) (by cases l0 <;> rfl) rfl
theorem f116_56 : zz_fetch zz_prog 116 56 = some (.iinc 3 1, 3, [], []) := zz_fetch_of p116 rfl rfl
theorem s116_56 : zz_Run zz_prog d 116 (56, [l0, l1, l2, some (.int v), l4], st, k, h) = zz_sl l2 (zz_Run zz_prog d 116 (59, [l0, l1, l2, some (.int (v + 1)), l4], st, k, h)) := zz_k_st (j := 3) (u := .int (v + 1)) f116_56 rfl (fun q hq => by cases hq) rfl (show 3 < 5 by decide) (by cases l2 <;> rfl) rfl
theorem f116_59 : zz_fetch zz_prog 116 59 = some (.goto (-53), 3, [6], []) := zz_fetch_of p116 rfl rfl
theorem s116_59 : zz_Run zz_prog d 116 (59, [l0, l1, l2, l3, l4], st, k, h) = zz_Run zz_prog d 116 (6, [l0, l1, l2, l3, l4], st, k, h) := zz_k_num f116_59 rfl
theorem f116_62 : zz_fetch zz_prog 116 62 = some (.aload_n 0, 1, [], []) := zz_fetch_of p116 rfl rfl
theorem s116_62 : zz_Run zz_prog d 116 (62, [some (.ref a), l1, l2, l3, l4], st, k, h) = zz_Run zz_prog d 116 (63, [some (.ref a), l1, l2, l3, l4], .ref a :: st, k, h) := zz_k_num f116_62 rfl
theorem f116_63 : zz_fetch zz_prog 116 63 = some (.getfield 7, 3, [2, 1, 3], []) := zz_fetch_of p116 rfl rfl
theorem s116_63 : zz_Run zz_prog d 116 (63, [l0, l1, l2, l3, l4], .ref 23 :: st, k, (zz_hp n I J ex)) = zz_Run zz_prog d 116 (66, [l0, l1, l2, l3, l4], .ref 24 :: st, k, (zz_hp n I J ex)) := zz_k_go f116_63 rfl rfl rfl
theorem f116_66 : zz_fetch zz_prog 116 66 = some (.sipush 189, 3, [], []) := zz_fetch_of p116 rfl rfl
theorem s116_66 : zz_Run zz_prog d 116 (66, [l0, l1, l2, l3, l4], st, k, h) = zz_Run zz_prog d 116 (69, [l0, l1, l2, l3, l4], .int 189 :: st, k, h) := zz_k_num f116_66 (congrArg (fun u => some (69, [l0, l1, l2, l3, l4], Value.int u :: st)) (by decide : (Int16.ofInt 189).toInt32 = 189))
theorem f116_69 : zz_fetch zz_prog 116 69 = some (.iaload, 1, [], []) := zz_fetch_of p116 rfl rfl
theorem s116_69 (ha : zz_isrd a = true) : zz_Run zz_prog d 116 (69, [l0, l1, l2, l3, l4], .int v :: .ref a :: st, k, (zz_hp n I J ex)) = zz_ck (zz_in v (zz_ary n a)) (zz_Run zz_prog d 116 (70, [l0, l1, l2, l3, l4], .int (I a v.toNatClampNeg) :: st, k, (zz_hp n I J ex))) := zz_k_iald f116_69 ha
theorem f116_70 : zz_fetch zz_prog 116 70 = some (.ifCond .lt 23, 3, [93], []) := zz_fetch_of p116 rfl rfl
theorem s116_70 : zz_Run zz_prog d 116 (70, [l0, l1, l2, l3, l4], .int v :: st, k, h) = if v < 0 then zz_Run zz_prog d 116 (93, [l0, l1, l2, l3, l4], st, k, h) else zz_Run zz_prog d 116 (73, [l0, l1, l2, l3, l4], st, k, h) := zz_k_br (v < 0) rfl (zz_k_num f116_70 rfl)
theorem f116_73 : zz_fetch zz_prog 116 73 = some (.aload_n 0, 1, [], []) := zz_fetch_of p116 rfl rfl
theorem s116_73 : zz_Run zz_prog d 116 (73, [some (.ref a), l1, l2, l3, l4], st, k, h) = zz_Run zz_prog d 116 (74, [some (.ref a), l1, l2, l3, l4], .ref a :: st, k, h) := zz_k_num f116_73 rfl
theorem f116_74 : zz_fetch zz_prog 116 74 = some (.aload_n 0, 1, [], []) := zz_fetch_of p116 rfl rfl
theorem s116_74 : zz_Run zz_prog d 116 (74, [some (.ref a), l1, l2, l3, l4], st, k, h) = zz_Run zz_prog d 116 (75, [some (.ref a), l1, l2, l3, l4], .ref a :: st, k, h) := zz_k_num f116_74 rfl
theorem f116_75 : zz_fetch zz_prog 116 75 = some (.getfield 7, 3, [2, 1, 3], []) := zz_fetch_of p116 rfl rfl
theorem s116_75 : zz_Run zz_prog d 116 (75, [l0, l1, l2, l3, l4], .ref 23 :: st, k, (zz_hp n I J ex)) = zz_Run zz_prog d 116 (78, [l0, l1, l2, l3, l4], .ref 24 :: st, k, (zz_hp n I J ex)) := zz_k_go f116_75 rfl rfl rfl
theorem f116_78 : zz_fetch zz_prog 116 78 = some (.sipush 189, 3, [], []) := zz_fetch_of p116 rfl rfl
theorem s116_78 : zz_Run zz_prog d 116 (78, [l0, l1, l2, l3, l4], st, k, h) = zz_Run zz_prog d 116 (81, [l0, l1, l2, l3, l4], .int 189 :: st, k, h) := zz_k_num f116_78 (congrArg (fun u => some (81, [l0, l1, l2, l3, l4], Value.int u :: st)) (by decide : (Int16.ofInt 189).toInt32 = 189))
theorem f116_81 : zz_fetch zz_prog 116 81 = some (.iaload, 1, [], []) := zz_fetch_of p116 rfl rfl
theorem s116_81 (ha : zz_isrd a = true) : zz_Run zz_prog d 116 (81, [l0, l1, l2, l3, l4], .int v :: .ref a :: st, k, (zz_hp n I J ex)) = zz_ck (zz_in v (zz_ary n a)) (zz_Run zz_prog d 116 (82, [l0, l1, l2, l3, l4], .int (I a v.toNatClampNeg) :: st, k, (zz_hp n I J ex))) := zz_k_iald f116_81 ha
theorem f116_82 : zz_fetch zz_prog 116 82 = some (.invokevirtual 139, 3, [0, 113, 2, 2], []) := zz_fetch_of p116 rfl rfl
theorem s116_82 : zz_Run zz_prog d 116 (82, [l0, l1, l2, l3, l4], [b0, .ref 23], k, (zz_hp n I J ex)) = zz_ret (zz_Call zz_prog d 113 [.ref 23, b0] (zz_hp n I J ex)) (fun v k' h' => zz_Run zz_prog d 116 (85, [l0, l1, l2, l3, l4], v.toList ++ [], k && k', h')) (fun a k' h' => zz_th d 116 82 a [l0, l1, l2, l3, l4] (k && k') h') := zz_k_call f116_82 rfl rfl rfl
theorem f116_85 : zz_fetch zz_prog 116 85 = some (.iload_n 1, 1, [], []) := zz_fetch_of p116 rfl rfl
theorem s116_85 : zz_Run zz_prog d 116 (85, [l0, some (.int v), l2, l3, l4], st, k, h) = zz_Run zz_prog d 116 (86, [l0, some (.int v), l2, l3, l4], .int v :: st, k, h) := zz_k_num f116_85 rfl
theorem f116_86 : zz_fetch zz_prog 116 86 = some (.if_icmp .lt 7, 3, [93], []) := zz_fetch_of p116 rfl rfl
theorem s116_86 : zz_Run zz_prog d 116 (86, [l0, l1, l2, l3, l4], .int w :: .int v :: st, k, h) = if v < w then zz_Run zz_prog d 116 (93, [l0, l1, l2, l3, l4], st, k, h) else zz_Run zz_prog d 116 (89, [l0, l1, l2, l3, l4], st, k, h) := zz_k_br (v < w) rfl (zz_k_num f116_86 rfl)
theorem f116_89 : zz_fetch zz_prog 116 89 = some (.iconst 1, 1, [], []) := zz_fetch_of p116 rfl rfl
theorem s116_89 : zz_Run zz_prog d 116 (89, [l0, l1, l2, l3, l4], st, k, h) = zz_Run zz_prog d 116 (90, [l0, l1, l2, l3, l4], .int 1 :: st, k, h) := zz_k_num f116_89 rfl
theorem f116_90 : zz_fetch zz_prog 116 90 = some (.goto 4, 3, [94], []) := zz_fetch_of p116 rfl rfl
theorem s116_90 : zz_Run zz_prog d 116 (90, [l0, l1, l2, l3, l4], st, k, h) = zz_Run zz_prog d 116 (94, [l0, l1, l2, l3, l4], st, k, h) := zz_k_num f116_90 rfl
theorem f116_93 : zz_fetch zz_prog 116 93 = some (.iconst 0, 1, [], []) := zz_fetch_of p116 rfl rfl
theorem s116_93 : zz_Run zz_prog d 116 (93, [l0, l1, l2, l3, l4], st, k, h) = zz_Run zz_prog d 116 (94, [l0, l1, l2, l3, l4], .int 0 :: st, k, h) := zz_k_num f116_93 rfl
theorem f116_94 : zz_fetch zz_prog 116 94 = some (.istore_n 3, 1, [], []) := zz_fetch_of p116 rfl rfl
theorem s116_94 : zz_Run zz_prog d 116 (94, [l0, l1, l2, l3, l4], .int v :: st, k, h) = zz_sl l2 (zz_Run zz_prog d 116 (95, [l0, l1, l2, some (.int v), l4], st, k, h)) := zz_k_st (j := 3) (u := .int v) f116_94 rfl (fun q hq => by cases hq) rfl (show 3 < 5 by decide) (by cases l2 <;> rfl) rfl
theorem f116_95 : zz_fetch zz_prog 116 95 = some (.aload_n 0, 1, [], []) := zz_fetch_of p116 rfl rfl
theorem s116_95 : zz_Run zz_prog d 116 (95, [some (.ref a), l1, l2, l3, l4], st, k, h) = zz_Run zz_prog d 116 (96, [some (.ref a), l1, l2, l3, l4], .ref a :: st, k, h) := zz_k_num f116_95 rfl
theorem f116_96 : zz_fetch zz_prog 116 96 = some (.getfield 7, 3, [2, 1, 3], []) := zz_fetch_of p116 rfl rfl
theorem s116_96 : zz_Run zz_prog d 116 (96, [l0, l1, l2, l3, l4], .ref 23 :: st, k, (zz_hp n I J ex)) = zz_Run zz_prog d 116 (99, [l0, l1, l2, l3, l4], .ref 24 :: st, k, (zz_hp n I J ex)) := zz_k_go f116_96 rfl rfl rfl
theorem f116_99 : zz_fetch zz_prog 116 99 = some (.sipush 189, 3, [], []) := zz_fetch_of p116 rfl rfl
theorem s116_99 : zz_Run zz_prog d 116 (99, [l0, l1, l2, l3, l4], st, k, h) = zz_Run zz_prog d 116 (102, [l0, l1, l2, l3, l4], .int 189 :: st, k, h) := zz_k_num f116_99 (congrArg (fun u => some (102, [l0, l1, l2, l3, l4], Value.int u :: st)) (by decide : (Int16.ofInt 189).toInt32 = 189))
theorem f116_102 : zz_fetch zz_prog 116 102 = some (.iload_n 1, 1, [], []) := zz_fetch_of p116 rfl rfl
theorem s116_102 : zz_Run zz_prog d 116 (102, [l0, some (.int v), l2, l3, l4], st, k, h) = zz_Run zz_prog d 116 (103, [l0, some (.int v), l2, l3, l4], .int v :: st, k, h) := zz_k_num f116_102 rfl
theorem f116_103 : zz_fetch zz_prog 116 103 = some (.iconst 5, 1, [], []) := zz_fetch_of p116 rfl rfl
theorem s116_103 : zz_Run zz_prog d 116 (103, [l0, l1, l2, l3, l4], st, k, h) = zz_Run zz_prog d 116 (104, [l0, l1, l2, l3, l4], .int 5 :: st, k, h) := zz_k_num f116_103 rfl
theorem f116_104 : zz_fetch zz_prog 116 104 = some (.if_icmp .ge 7, 3, [111], []) := zz_fetch_of p116 rfl rfl
theorem s116_104 : zz_Run zz_prog d 116 (104, [l0, l1, l2, l3, l4], .int w :: .int v :: st, k, h) = if w ≤ v then zz_Run zz_prog d 116 (111, [l0, l1, l2, l3, l4], st, k, h) else zz_Run zz_prog d 116 (107, [l0, l1, l2, l3, l4], st, k, h) := zz_k_br (w ≤ v) rfl (zz_k_num f116_104 rfl)
theorem f116_107 : zz_fetch zz_prog 116 107 = some (.iconst (-1), 1, [], []) := zz_fetch_of p116 rfl rfl
theorem s116_107 : zz_Run zz_prog d 116 (107, [l0, l1, l2, l3, l4], st, k, h) = zz_Run zz_prog d 116 (108, [l0, l1, l2, l3, l4], .int (-1) :: st, k, h) := zz_k_num f116_107 rfl
theorem f116_108 : zz_fetch zz_prog 116 108 = some (.goto 19, 3, [127], []) := zz_fetch_of p116 rfl rfl
theorem s116_108 : zz_Run zz_prog d 116 (108, [l0, l1, l2, l3, l4], st, k, h) = zz_Run zz_prog d 116 (127, [l0, l1, l2, l3, l4], st, k, h) := zz_k_num f116_108 rfl
theorem f116_111 : zz_fetch zz_prog 116 111 = some (.iload_n 3, 1, [], []) := zz_fetch_of p116 rfl rfl
theorem s116_111 : zz_Run zz_prog d 116 (111, [l0, l1, l2, some (.int v), l4], st, k, h) = zz_Run zz_prog d 116 (112, [l0, l1, l2, some (.int v), l4], .int v :: st, k, h) := zz_k_num f116_111 rfl
theorem f116_112 : zz_fetch zz_prog 116 112 = some (.ifCond .eq 14, 3, [126], []) := zz_fetch_of p116 rfl rfl
theorem s116_112 : zz_Run zz_prog d 116 (112, [l0, l1, l2, l3, l4], .int v :: st, k, h) = if v = 0 then zz_Run zz_prog d 116 (126, [l0, l1, l2, l3, l4], st, k, h) else zz_Run zz_prog d 116 (115, [l0, l1, l2, l3, l4], st, k, h) := zz_k_br (v = 0) rfl (zz_k_num f116_112 rfl)
theorem f116_115 : zz_fetch zz_prog 116 115 = some (.aload_n 0, 1, [], []) := zz_fetch_of p116 rfl rfl
theorem s116_115 : zz_Run zz_prog d 116 (115, [some (.ref a), l1, l2, l3, l4], st, k, h) = zz_Run zz_prog d 116 (116, [some (.ref a), l1, l2, l3, l4], .ref a :: st, k, h) := zz_k_num f116_115 rfl
theorem f116_116 : zz_fetch zz_prog 116 116 = some (.getfield 7, 3, [2, 1, 3], []) := zz_fetch_of p116 rfl rfl
theorem s116_116 : zz_Run zz_prog d 116 (116, [l0, l1, l2, l3, l4], .ref 23 :: st, k, (zz_hp n I J ex)) = zz_Run zz_prog d 116 (119, [l0, l1, l2, l3, l4], .ref 24 :: st, k, (zz_hp n I J ex)) := zz_k_go f116_116 rfl rfl rfl
theorem f116_119 : zz_fetch zz_prog 116 119 = some (.sipush 189, 3, [], []) := zz_fetch_of p116 rfl rfl
theorem s116_119 : zz_Run zz_prog d 116 (119, [l0, l1, l2, l3, l4], st, k, h) = zz_Run zz_prog d 116 (122, [l0, l1, l2, l3, l4], .int 189 :: st, k, h) := zz_k_num f116_119 (congrArg (fun u => some (122, [l0, l1, l2, l3, l4], Value.int u :: st)) (by decide : (Int16.ofInt 189).toInt32 = 189))
theorem f116_122 : zz_fetch zz_prog 116 122 = some (.iaload, 1, [], []) := zz_fetch_of p116 rfl rfl
theorem s116_122 (ha : zz_isrd a = true) : zz_Run zz_prog d 116 (122, [l0, l1, l2, l3, l4], .int v :: .ref a :: st, k, (zz_hp n I J ex)) = zz_ck (zz_in v (zz_ary n a)) (zz_Run zz_prog d 116 (123, [l0, l1, l2, l3, l4], .int (I a v.toNatClampNeg) :: st, k, (zz_hp n I J ex))) := zz_k_iald f116_122 ha
theorem f116_123 : zz_fetch zz_prog 116 123 = some (.goto 4, 3, [127], []) := zz_fetch_of p116 rfl rfl
theorem s116_123 : zz_Run zz_prog d 116 (123, [l0, l1, l2, l3, l4], st, k, h) = zz_Run zz_prog d 116 (127, [l0, l1, l2, l3, l4], st, k, h) := zz_k_num f116_123 rfl
theorem f116_126 : zz_fetch zz_prog 116 126 = some (.iload_n 2, 1, [], []) := zz_fetch_of p116 rfl rfl
theorem s116_126 : zz_Run zz_prog d 116 (126, [l0, l1, some (.int v), l3, l4], st, k, h) = zz_Run zz_prog d 116 (127, [l0, l1, some (.int v), l3, l4], .int v :: st, k, h) := zz_k_num f116_126 rfl
theorem f116_127 : zz_fetch zz_prog 116 127 = some (.iastore, 1, [], []) := zz_fetch_of p116 rfl rfl
theorem s116_127 (ha : zz_isar a = true) : zz_Run zz_prog d 116 (127, [l0, l1, l2, l3, l4], .int w :: .int v :: .ref a :: st, k, (zz_hp n I J ex)) = zz_ck (zz_in v (zz_ary n a)) (zz_Run zz_prog d 116 (128, [l0, l1, l2, l3, l4], st, false, (zz_hp n (zz_up I a v.toNatClampNeg w) J ex))) := zz_k_iast f116_127 ha
theorem f116_128 : zz_fetch zz_prog 116 128 = some (.aload_n 0, 1, [], []) := zz_fetch_of p116 rfl rfl
theorem s116_128 : zz_Run zz_prog d 116 (128, [some (.ref a), l1, l2, l3, l4], st, k, h) = zz_Run zz_prog d 116 (129, [some (.ref a), l1, l2, l3, l4], .ref a :: st, k, h) := zz_k_num f116_128 rfl
theorem f116_129 : zz_fetch zz_prog 116 129 = some (.getfield 7, 3, [2, 1, 3], []) := zz_fetch_of p116 rfl rfl
theorem s116_129 : zz_Run zz_prog d 116 (129, [l0, l1, l2, l3, l4], .ref 23 :: st, k, (zz_hp n I J ex)) = zz_Run zz_prog d 116 (132, [l0, l1, l2, l3, l4], .ref 24 :: st, k, (zz_hp n I J ex)) := zz_k_go f116_129 rfl rfl rfl
theorem f116_132 : zz_fetch zz_prog 116 132 = some (.sipush 180, 3, [], []) := zz_fetch_of p116 rfl rfl
theorem s116_132 : zz_Run zz_prog d 116 (132, [l0, l1, l2, l3, l4], st, k, h) = zz_Run zz_prog d 116 (135, [l0, l1, l2, l3, l4], .int 180 :: st, k, h) := zz_k_num f116_132 (congrArg (fun u => some (135, [l0, l1, l2, l3, l4], Value.int u :: st)) (by decide : (Int16.ofInt 180).toInt32 = 180))
theorem f116_135 : zz_fetch zz_prog 116 135 = some (.iaload, 1, [], []) := zz_fetch_of p116 rfl rfl
theorem s116_135 (ha : zz_isrd a = true) : zz_Run zz_prog d 116 (135, [l0, l1, l2, l3, l4], .int v :: .ref a :: st, k, (zz_hp n I J ex)) = zz_ck (zz_in v (zz_ary n a)) (zz_Run zz_prog d 116 (136, [l0, l1, l2, l3, l4], .int (I a v.toNatClampNeg) :: st, k, (zz_hp n I J ex))) := zz_k_iald f116_135 ha
theorem f116_136 : zz_fetch zz_prog 116 136 = some (.iconst 3, 1, [], []) := zz_fetch_of p116 rfl rfl
theorem s116_136 : zz_Run zz_prog d 116 (136, [l0, l1, l2, l3, l4], st, k, h) = zz_Run zz_prog d 116 (137, [l0, l1, l2, l3, l4], .int 3 :: st, k, h) := zz_k_num f116_136 rfl
theorem f116_137 : zz_fetch zz_prog 116 137 = some (.if_icmp .lt 61, 3, [198], []) := zz_fetch_of p116 rfl rfl
theorem s116_137 : zz_Run zz_prog d 116 (137, [l0, l1, l2, l3, l4], .int w :: .int v :: st, k, h) = if v < w then zz_Run zz_prog d 116 (198, [l0, l1, l2, l3, l4], st, k, h) else zz_Run zz_prog d 116 (140, [l0, l1, l2, l3, l4], st, k, h) := zz_k_br (v < w) rfl (zz_k_num f116_137 rfl)
theorem f116_140 : zz_fetch zz_prog 116 140 = some (.aload_n 0, 1, [], []) := zz_fetch_of p116 rfl rfl
theorem s116_140 : zz_Run zz_prog d 116 (140, [some (.ref a), l1, l2, l3, l4], st, k, h) = zz_Run zz_prog d 116 (141, [some (.ref a), l1, l2, l3, l4], .ref a :: st, k, h) := zz_k_num f116_140 rfl
theorem f116_141 : zz_fetch zz_prog 116 141 = some (.getfield 7, 3, [2, 1, 3], []) := zz_fetch_of p116 rfl rfl
theorem s116_141 : zz_Run zz_prog d 116 (141, [l0, l1, l2, l3, l4], .ref 23 :: st, k, (zz_hp n I J ex)) = zz_Run zz_prog d 116 (144, [l0, l1, l2, l3, l4], .ref 24 :: st, k, (zz_hp n I J ex)) := zz_k_go f116_141 rfl rfl rfl
theorem f116_144 : zz_fetch zz_prog 116 144 = some (.sipush 180, 3, [], []) := zz_fetch_of p116 rfl rfl
theorem s116_144 : zz_Run zz_prog d 116 (144, [l0, l1, l2, l3, l4], st, k, h) = zz_Run zz_prog d 116 (147, [l0, l1, l2, l3, l4], .int 180 :: st, k, h) := zz_k_num f116_144 (congrArg (fun u => some (147, [l0, l1, l2, l3, l4], Value.int u :: st)) (by decide : (Int16.ofInt 180).toInt32 = 180))
theorem f116_147 : zz_fetch zz_prog 116 147 = some (.iaload, 1, [], []) := zz_fetch_of p116 rfl rfl
theorem s116_147 (ha : zz_isrd a = true) : zz_Run zz_prog d 116 (147, [l0, l1, l2, l3, l4], .int v :: .ref a :: st, k, (zz_hp n I J ex)) = zz_ck (zz_in v (zz_ary n a)) (zz_Run zz_prog d 116 (148, [l0, l1, l2, l3, l4], .int (I a v.toNatClampNeg) :: st, k, (zz_hp n I J ex))) := zz_k_iald f116_147 ha
theorem f116_148 : zz_fetch zz_prog 116 148 = some (.bipush 7, 2, [], []) := zz_fetch_of p116 rfl rfl
theorem s116_148 : zz_Run zz_prog d 116 (148, [l0, l1, l2, l3, l4], st, k, h) = zz_Run zz_prog d 116 (150, [l0, l1, l2, l3, l4], .int 7 :: st, k, h) := zz_k_num f116_148 (congrArg (fun u => some (150, [l0, l1, l2, l3, l4], Value.int u :: st)) (by decide : (Int8.ofInt 7).toInt32 = 7))
theorem f116_150 : zz_fetch zz_prog 116 150 = some (.if_icmp .gt 48, 3, [198], []) := zz_fetch_of p116 rfl rfl
theorem s116_150 : zz_Run zz_prog d 116 (150, [l0, l1, l2, l3, l4], .int w :: .int v :: st, k, h) = if w < v then zz_Run zz_prog d 116 (198, [l0, l1, l2, l3, l4], st, k, h) else zz_Run zz_prog d 116 (153, [l0, l1, l2, l3, l4], st, k, h) := zz_k_br (w < v) rfl (zz_k_num f116_150 rfl)
theorem f116_153 : zz_fetch zz_prog 116 153 = some (.aload_n 0, 1, [], []) := zz_fetch_of p116 rfl rfl
theorem s116_153 : zz_Run zz_prog d 116 (153, [some (.ref a), l1, l2, l3, l4], st, k, h) = zz_Run zz_prog d 116 (154, [some (.ref a), l1, l2, l3, l4], .ref a :: st, k, h) := zz_k_num f116_153 rfl
theorem f116_154 : zz_fetch zz_prog 116 154 = some (.aload_n 0, 1, [], []) := zz_fetch_of p116 rfl rfl
theorem s116_154 : zz_Run zz_prog d 116 (154, [some (.ref a), l1, l2, l3, l4], st, k, h) = zz_Run zz_prog d 116 (155, [some (.ref a), l1, l2, l3, l4], .ref a :: st, k, h) := zz_k_num f116_154 rfl
theorem f116_155 : zz_fetch zz_prog 116 155 = some (.getfield 7, 3, [2, 1, 3], []) := zz_fetch_of p116 rfl rfl
theorem s116_155 : zz_Run zz_prog d 116 (155, [l0, l1, l2, l3, l4], .ref 23 :: st, k, (zz_hp n I J ex)) = zz_Run zz_prog d 116 (158, [l0, l1, l2, l3, l4], .ref 24 :: st, k, (zz_hp n I J ex)) := zz_k_go f116_155 rfl rfl rfl
theorem f116_158 : zz_fetch zz_prog 116 158 = some (.sipush 181, 3, [], []) := zz_fetch_of p116 rfl rfl
theorem s116_158 : zz_Run zz_prog d 116 (158, [l0, l1, l2, l3, l4], st, k, h) = zz_Run zz_prog d 116 (161, [l0, l1, l2, l3, l4], .int 181 :: st, k, h) := zz_k_num f116_158 (congrArg (fun u => some (161, [l0, l1, l2, l3, l4], Value.int u :: st)) (by decide : (Int16.ofInt 181).toInt32 = 181))
theorem f116_161 : zz_fetch zz_prog 116 161 = some (.iaload, 1, [], []) := zz_fetch_of p116 rfl rfl
theorem s116_161 (ha : zz_isrd a = true) : zz_Run zz_prog d 116 (161, [l0, l1, l2, l3, l4], .int v :: .ref a :: st, k, (zz_hp n I J ex)) = zz_ck (zz_in v (zz_ary n a)) (zz_Run zz_prog d 116 (162, [l0, l1, l2, l3, l4], .int (I a v.toNatClampNeg) :: st, k, (zz_hp n I J ex))) := zz_k_iald f116_161 ha
theorem f116_162 : zz_fetch zz_prog 116 162 = some (.invokevirtual 142, 3, [0, 115, 2, 2], []) := zz_fetch_of p116 rfl rfl
theorem s116_162 : zz_Run zz_prog d 116 (162, [l0, l1, l2, l3, l4], [b0, .ref 23], k, (zz_hp n I J ex)) = zz_ret (zz_Call zz_prog d 115 [.ref 23, b0] (zz_hp n I J ex)) (fun v k' h' => zz_Run zz_prog d 116 (165, [l0, l1, l2, l3, l4], v.toList ++ [], k && k', h')) (fun a k' h' => zz_th d 116 162 a [l0, l1, l2, l3, l4] (k && k') h') := zz_k_call f116_162 rfl rfl rfl
theorem f116_165 : zz_fetch zz_prog 116 165 = some (.aload_n 0, 1, [], []) := zz_fetch_of p116 rfl rfl
theorem s116_165 : zz_Run zz_prog d 116 (165, [some (.ref a), l1, l2, l3, l4], st, k, h) = zz_Run zz_prog d 116 (166, [some (.ref a), l1, l2, l3, l4], .ref a :: st, k, h) := zz_k_num f116_165 rfl
theorem f116_166 : zz_fetch zz_prog 116 166 = some (.getfield 108, 3, [2, 16, 0], []) := zz_fetch_of p116 rfl rfl
theorem s116_166 : zz_Run zz_prog d 116 (166, [l0, l1, l2, l3, l4], .ref 23 :: st, k, (zz_hp n I J ex)) = zz_Run zz_prog d 116 (169, [l0, l1, l2, l3, l4], .int (I 23 16) :: st, k, (zz_hp n I J ex)) := zz_k_go f116_166 rfl rfl rfl
theorem f116_169 : zz_fetch zz_prog 116 169 = some (.if_icmp .lt 29, 3, [198], []) := zz_fetch_of p116 rfl rfl
theorem s116_169 : zz_Run zz_prog d 116 (169, [l0, l1, l2, l3, l4], .int w :: .int v :: st, k, h) = if v < w then zz_Run zz_prog d 116 (198, [l0, l1, l2, l3, l4], st, k, h) else zz_Run zz_prog d 116 (172, [l0, l1, l2, l3, l4], st, k, h) := zz_k_br (v < w) rfl (zz_k_num f116_169 rfl)
theorem f116_172 : zz_fetch zz_prog 116 172 = some (.aload_n 0, 1, [], []) := zz_fetch_of p116 rfl rfl
theorem s116_172 : zz_Run zz_prog d 116 (172, [some (.ref a), l1, l2, l3, l4], st, k, h) = zz_Run zz_prog d 116 (173, [some (.ref a), l1, l2, l3, l4], .ref a :: st, k, h) := zz_k_num f116_172 rfl
theorem f116_173 : zz_fetch zz_prog 116 173 = some (.getfield 7, 3, [2, 1, 3], []) := zz_fetch_of p116 rfl rfl
theorem s116_173 : zz_Run zz_prog d 116 (173, [l0, l1, l2, l3, l4], .ref 23 :: st, k, (zz_hp n I J ex)) = zz_Run zz_prog d 116 (176, [l0, l1, l2, l3, l4], .ref 24 :: st, k, (zz_hp n I J ex)) := zz_k_go f116_173 rfl rfl rfl
theorem f116_176 : zz_fetch zz_prog 116 176 = some (.sipush 190, 3, [], []) := zz_fetch_of p116 rfl rfl
theorem s116_176 : zz_Run zz_prog d 116 (176, [l0, l1, l2, l3, l4], st, k, h) = zz_Run zz_prog d 116 (179, [l0, l1, l2, l3, l4], .int 190 :: st, k, h) := zz_k_num f116_176 (congrArg (fun u => some (179, [l0, l1, l2, l3, l4], Value.int u :: st)) (by decide : (Int16.ofInt 190).toInt32 = 190))
theorem f116_179 : zz_fetch zz_prog 116 179 = some (.aload_n 0, 1, [], []) := zz_fetch_of p116 rfl rfl
theorem s116_179 : zz_Run zz_prog d 116 (179, [some (.ref a), l1, l2, l3, l4], st, k, h) = zz_Run zz_prog d 116 (180, [some (.ref a), l1, l2, l3, l4], .ref a :: st, k, h) := zz_k_num f116_179 rfl
theorem f116_180 : zz_fetch zz_prog 116 180 = some (.getfield 7, 3, [2, 1, 3], []) := zz_fetch_of p116 rfl rfl
theorem s116_180 : zz_Run zz_prog d 116 (180, [l0, l1, l2, l3, l4], .ref 23 :: st, k, (zz_hp n I J ex)) = zz_Run zz_prog d 116 (183, [l0, l1, l2, l3, l4], .ref 24 :: st, k, (zz_hp n I J ex)) := zz_k_go f116_180 rfl rfl rfl
theorem f116_183 : zz_fetch zz_prog 116 183 = some (.sipush 181, 3, [], []) := zz_fetch_of p116 rfl rfl
theorem s116_183 : zz_Run zz_prog d 116 (183, [l0, l1, l2, l3, l4], st, k, h) = zz_Run zz_prog d 116 (186, [l0, l1, l2, l3, l4], .int 181 :: st, k, h) := zz_k_num f116_183 (congrArg (fun u => some (186, [l0, l1, l2, l3, l4], Value.int u :: st)) (by decide : (Int16.ofInt 181).toInt32 = 181))
theorem f116_186 : zz_fetch zz_prog 116 186 = some (.iaload, 1, [], []) := zz_fetch_of p116 rfl rfl
theorem s116_186 (ha : zz_isrd a = true) : zz_Run zz_prog d 116 (186, [l0, l1, l2, l3, l4], .int v :: .ref a :: st, k, (zz_hp n I J ex)) = zz_ck (zz_in v (zz_ary n a)) (zz_Run zz_prog d 116 (187, [l0, l1, l2, l3, l4], .int (I a v.toNatClampNeg) :: st, k, (zz_hp n I J ex))) := zz_k_iald f116_186 ha
theorem f116_187 : zz_fetch zz_prog 116 187 = some (.iastore, 1, [], []) := zz_fetch_of p116 rfl rfl
theorem s116_187 (ha : zz_isar a = true) : zz_Run zz_prog d 116 (187, [l0, l1, l2, l3, l4], .int w :: .int v :: .ref a :: st, k, (zz_hp n I J ex)) = zz_ck (zz_in v (zz_ary n a)) (zz_Run zz_prog d 116 (188, [l0, l1, l2, l3, l4], st, false, (zz_hp n (zz_up I a v.toNatClampNeg w) J ex))) := zz_k_iast f116_187 ha
theorem f116_188 : zz_fetch zz_prog 116 188 = some (.aload_n 0, 1, [], []) := zz_fetch_of p116 rfl rfl
theorem s116_188 : zz_Run zz_prog d 116 (188, [some (.ref a), l1, l2, l3, l4], st, k, h) = zz_Run zz_prog d 116 (189, [some (.ref a), l1, l2, l3, l4], .ref a :: st, k, h) := zz_k_num f116_188 rfl
theorem f116_189 : zz_fetch zz_prog 116 189 = some (.getfield 7, 3, [2, 1, 3], []) := zz_fetch_of p116 rfl rfl
theorem s116_189 : zz_Run zz_prog d 116 (189, [l0, l1, l2, l3, l4], .ref 23 :: st, k, (zz_hp n I J ex)) = zz_Run zz_prog d 116 (192, [l0, l1, l2, l3, l4], .ref 24 :: st, k, (zz_hp n I J ex)) := zz_k_go f116_189 rfl rfl rfl
theorem f116_192 : zz_fetch zz_prog 116 192 = some (.sipush 180, 3, [], []) := zz_fetch_of p116 rfl rfl
theorem s116_192 : zz_Run zz_prog d 116 (192, [l0, l1, l2, l3, l4], st, k, h) = zz_Run zz_prog d 116 (195, [l0, l1, l2, l3, l4], .int 180 :: st, k, h) := zz_k_num f116_192 (congrArg (fun u => some (195, [l0, l1, l2, l3, l4], Value.int u :: st)) (by decide : (Int16.ofInt 180).toInt32 = 180))
theorem f116_195 : zz_fetch zz_prog 116 195 = some (.bipush 8, 2, [], []) := zz_fetch_of p116 rfl rfl
theorem s116_195 : zz_Run zz_prog d 116 (195, [l0, l1, l2, l3, l4], st, k, h) = zz_Run zz_prog d 116 (197, [l0, l1, l2, l3, l4], .int 8 :: st, k, h) := zz_k_num f116_195 (congrArg (fun u => some (197, [l0, l1, l2, l3, l4], Value.int u :: st)) (by decide : (Int8.ofInt 8).toInt32 = 8))
theorem f116_197 : zz_fetch zz_prog 116 197 = some (.iastore, 1, [], []) := zz_fetch_of p116 rfl rfl
theorem s116_197 (ha : zz_isar a = true) : zz_Run zz_prog d 116 (197, [l0, l1, l2, l3, l4], .int w :: .int v :: .ref a :: st, k, (zz_hp n I J ex)) = zz_ck (zz_in v (zz_ary n a)) (zz_Run zz_prog d 116 (198, [l0, l1, l2, l3, l4], st, false, (zz_hp n (zz_up I a v.toNatClampNeg w) J ex))) := zz_k_iast f116_197 ha
theorem f116_198 : zz_fetch zz_prog 116 198 = some (.return_, 1, [], []) := zz_fetch_of p116 rfl rfl
theorem s116_198 : zz_Run zz_prog d 116 (198, [l0, l1, l2, l3, l4], [], k, h) = some (.inl none, k, h) := zz_k_stop f116_198 rfl rfl rfl
end S116
section S117
variable {d n j : Nat} {l0 l1 : Option Value} {st : List Value} {k : Bool} {h : zz_H} {v w v1 v2 : Int32} {y y1 : Int64} {a a1 a2 : Nat} {b0 b1 b2 b3 b4 b5 b6 b7 b8 : Value} {I : Nat → Nat → Int32} {J : Nat → Nat → Int64} {ex : List (Nat × Nat)}
theorem p117 : zz_prog 117 = some zz_m117 := rfl
theorem e117 (g0 : Nat) : zz_Call zz_prog (d + 1) 117 [.ref g0] h = zz_Run zz_prog d 117 (0, [some (.ref g0), none], [], true, h) := rfl
theorem t117 (pc : Nat) (L : List (Option Value)) : zz_th d 117 pc a L k h = some (.inr a, k, h) := zz_th_out p117 rfl
theorem f117_0 : zz_fetch zz_prog 117 0 = some (.iconst 0, 1, [], []) := zz_fetch_of p117 rfl rfl
theorem s117_0 : zz_Run zz_prog d 117 (0, [l0, l1], st, k, h) = zz_Run zz_prog d 117 (1, [l0, l1], .int 0 :: st, k, h) := zz_k_num f117_0 rfl
theorem f117_1 : zz_fetch zz_prog 117 1 = some (.istore_n 1, 1, [], []) := zz_fetch_of p117 rfl rfl
theorem s117_1 : zz_Run zz_prog d 117 (1, [l0, l1], .int v :: st, k, h) = zz_sl l0 (zz_Run zz_prog d 117 (2, [l0, some (.int v)], st, k, h)) := zz_k_st (j := 1) (u := .int v) f117_1 rfl (fun q hq => by cases hq) rfl (show 1 < 2 by decide) (by cases l0 <;> rfl) rfl
theorem f117_2 : zz_fetch zz_prog 117 2 = some (.iload_n 1, 1, [], []) := zz_fetch_of p117 rfl rfl
theorem s117_2 : zz_Run zz_prog d 117 (2, [l0, some (.int v)], st, k, h) = zz_Run zz_prog d 117 (3, [l0, some (.int v)], .int v :: st, k, h) := zz_k_num f117_2 rfl
theorem f117_3 : zz_fetch zz_prog 117 3 = some (.sipush 193, 3, [], []) := zz_fetch_of p117 rfl rfl
theorem s117_3 : zz_Run zz_prog d 117 (3, [l0, l1], st, k, h) = zz_Run zz_prog d 117 (6, [l0, l1], .int 193 :: st, k, h) := zz_k_num f117_3 (congrArg (fun u => some (6, [l0, l1], Value.int u :: st)) (by decide : (Int16.ofInt 193).toInt32 = 193))
theorem f117_6 : zz_fetch zz_prog 117 6 = some (.if_icmp .ge 21, 3, [27], []) := zz_fetch_of p117 rfl rfl
theorem s117_6 : zz_Run zz_prog d 117 (6, [l0, l1], .int w :: .int v :: st, k, h) = if w ≤ v then zz_Run zz_prog d 117 (27, [l0, l1], st, k, h) else zz_Run zz_prog d 117 (9, [l0, l1], st, k, h) := zz_k_br (w ≤ v) rfl (zz_k_num f117_6 rfl)
theorem f117_9 : zz_fetch zz_prog 117 9 = some (.aload_n 0, 1, [], []) := zz_fetch_of p117 rfl rfl
theorem s117_9 : zz_Run zz_prog d 117 (9, [some (.ref a), l1], st, k, h) = zz_Run zz_prog d 117 (10, [some (.ref a), l1], .ref a :: st, k, h) := zz_k_num f117_9 rfl
theorem f117_10 : zz_fetch zz_prog 117 10 = some (.getfield 13, 3, [2, 2, 3], []) := zz_fetch_of p117 rfl rfl
theorem s117_10 : zz_Run zz_prog d 117 (10, [l0, l1], .ref 23 :: st, k, (zz_hp n I J ex)) = zz_Run zz_prog d 117 (13, [l0, l1], .ref 25 :: st, k, (zz_hp n I J ex)) := zz_k_go f117_10 rfl rfl rfl
theorem f117_13 : zz_fetch zz_prog 117 13 = some (.iload_n 1, 1, [], []) := zz_fetch_of p117 rfl rfl
theorem s117_13 : zz_Run zz_prog d 117 (13, [l0, some (.int v)], st, k, h) = zz_Run zz_prog d 117 (14, [l0, some (.int v)], .int v :: st, k, h) := zz_k_num f117_13 rfl
theorem f117_14 : zz_fetch zz_prog 117 14 = some (.aload_n 0, 1, [], []) := zz_fetch_of p117 rfl rfl
theorem s117_14 : zz_Run zz_prog d 117 (14, [some (.ref a), l1], st, k, h) = zz_Run zz_prog d 117 (15, [some (.ref a), l1], .ref a :: st, k, h) := zz_k_num f117_14 rfl
theorem f117_15 : zz_fetch zz_prog 117 15 = some (.getfield 7, 3, [2, 1, 3], []) := zz_fetch_of p117 rfl rfl
theorem s117_15 : zz_Run zz_prog d 117 (15, [l0, l1], .ref 23 :: st, k, (zz_hp n I J ex)) = zz_Run zz_prog d 117 (18, [l0, l1], .ref 24 :: st, k, (zz_hp n I J ex)) := zz_k_go f117_15 rfl rfl rfl
theorem f117_18 : zz_fetch zz_prog 117 18 = some (.iload_n 1, 1, [], []) := zz_fetch_of p117 rfl rfl
theorem s117_18 : zz_Run zz_prog d 117 (18, [l0, some (.int v)], st, k, h) = zz_Run zz_prog d 117 (19, [l0, some (.int v)], .int v :: st, k, h) := zz_k_num f117_18 rfl
theorem f117_19 : zz_fetch zz_prog 117 19 = some (.iaload, 1, [], []) := zz_fetch_of p117 rfl rfl
theorem s117_19 (ha : zz_isrd a = true) : zz_Run zz_prog d 117 (19, [l0, l1], .int v :: .ref a :: st, k, (zz_hp n I J ex)) = zz_ck (zz_in v (zz_ary n a)) (zz_Run zz_prog d 117 (20, [l0, l1], .int (I a v.toNatClampNeg) :: st, k, (zz_hp n I J ex))) := zz_k_iald f117_19 ha
theorem f117_20 : zz_fetch zz_prog 117 20 = some (.iastore, 1, [], []) := zz_fetch_of p117 rfl rfl
theorem s117_20 (ha : zz_isar a = true) : zz_Run zz_prog d 117 (20, [l0, l1], .int w :: .int v :: .ref a :: st, k, (zz_hp n I J ex)) = zz_ck (zz_in v (zz_ary n a)) (zz_Run zz_prog d 117 (21, [l0, l1], st, false, (zz_hp n (zz_up I a v.toNatClampNeg w) J ex))) := zz_k_iast f117_20 ha
theorem f117_21 : zz_fetch zz_prog 117 21 = some (.iinc 1 1, 3, [], []) := zz_fetch_of p117 rfl rfl
theorem s117_21 : zz_Run zz_prog d 117 (21, [l0, some (.int v)], st, k, h) = zz_sl l0 (zz_Run zz_prog d 117 (24, [l0, some (.int (v + 1))], st, k, h)) := zz_k_st (j := 1) (u := .int (v + 1)) f117_21 rfl (fun q hq => by cases hq) rfl (show 1 < 2 by decide) (by cases l0 <;> rfl) rfl
theorem f117_24 : zz_fetch zz_prog 117 24 = some (.goto (-22), 3, [2], []) := zz_fetch_of p117 rfl rfl
theorem s117_24 : zz_Run zz_prog d 117 (24, [l0, l1], st, k, h) = zz_Run zz_prog d 117 (2, [l0, l1], st, k, h) := zz_k_num f117_24 rfl
theorem f117_27 : zz_fetch zz_prog 117 27 = some (.aload_n 0, 1, [], []) := zz_fetch_of p117 rfl rfl
theorem s117_27 : zz_Run zz_prog d 117 (27, [some (.ref a), l1], st, k, h) = zz_Run zz_prog d 117 (28, [some (.ref a), l1], .ref a :: st, k, h) := zz_k_num f117_27 rfl
theorem f117_28 : zz_fetch zz_prog 117 28 = some (.iconst 1, 1, [], []) := zz_fetch_of p117 rfl rfl
theorem s117_28 : zz_Run zz_prog d 117 (28, [l0, l1], st, k, h) = zz_Run zz_prog d 117 (29, [l0, l1], .int 1 :: st, k, h) := zz_k_num f117_28 rfl
theorem f117_29 : zz_fetch zz_prog 117 29 = some (.putfield 145, 3, [2, 3, 1], []) := zz_fetch_of p117 rfl rfl
theorem s117_29 : zz_Run zz_prog d 117 (29, [l0, l1], .int v :: .ref 23 :: st, k, (zz_hp n I J ex)) = zz_ck (decide (v = 0 ∨ v = 1)) (zz_Run zz_prog d 117 (32, [l0, l1], st, false, (zz_hp n (zz_up I 23 3 v) J ex))) := zz_k_putz f117_29 rfl
theorem f117_32 : zz_fetch zz_prog 117 32 = some (.return_, 1, [], []) := zz_fetch_of p117 rfl rfl
theorem s117_32 : zz_Run zz_prog d 117 (32, [l0, l1], [], k, h) = some (.inl none, k, h) := zz_k_stop f117_32 rfl rfl rfl
end S117
section S118
variable {d n j : Nat} {l0 l1 l2 : Option Value} {st : List Value} {k : Bool} {h : zz_H} {v w v1 v2 : Int32} {y y1 : Int64} {a a1 a2 : Nat} {b0 b1 b2 b3 b4 b5 b6 b7 b8 : Value} {I : Nat → Nat → Int32} {J : Nat → Nat → Int64} {ex : List (Nat × Nat)}
theorem p118 : zz_prog 118 = some zz_m118 := rfl
theorem e118 (g0 : Nat) : zz_Call zz_prog (d + 1) 118 [.ref g0] h = zz_Run zz_prog d 118 (0, [some (.ref g0), none, none], [], true, h) := rfl
theorem t118 (pc : Nat) (L : List (Option Value)) : zz_th d 118 pc a L k h = some (.inr a, k, h) := zz_th_out p118 rfl
theorem f118_0 : zz_fetch zz_prog 118 0 = some (.iconst 0, 1, [], []) := zz_fetch_of p118 rfl rfl
theorem s118_0 : zz_Run zz_prog d 118 (0, [l0, l1, l2], st, k, h) = zz_Run zz_prog d 118 (1, [l0, l1, l2], .int 0 :: st, k, h) := zz_k_num f118_0 rfl
theorem f118_1 : zz_fetch zz_prog 118 1 = some (.istore_n 1, 1, [], []) := zz_fetch_of p118 rfl rfl
theorem s118_1 : zz_Run zz_prog d 118 (1, [l0, l1, l2], .int v :: st, k, h) = zz_sl l0 (zz_Run zz_prog d 118 (2, [l0, some (.int v), l2], st, k, h)) := zz_k_st (j := 1) (u := .int v) f118_1 rfl (fun q hq => by cases hq) rfl (show 1 < 3 by decide) (by cases l0 <;> rfl) rfl
theorem f118_2 : zz_fetch zz_prog 118 2 = some (.iconst 0, 1, [], []) := zz_fetch_of p118 rfl rfl
theorem s118_2 : zz_Run zz_prog d 118 (2, [l0, l1, l2], st, k, h) = zz_Run zz_prog d 118 (3, [l0, l1, l2], .int 0 :: st, k, h) := zz_k_num f118_2 rfl
theorem f118_3 : zz_fetch zz_prog 118 3 = some (.istore_n 2, 1, [], []) := zz_fetch_of p118 rfl rfl
theorem s118_3 : zz_Run zz_prog d 118 (3, [l0, l1, l2], .int v :: st, k, h) = zz_sl l1 (zz_Run zz_prog d 118 (4, [l0, l1, some (.int v)], st, k, h)) := zz_k_st (j := 2) (u := .int v) f118_3 rfl (fun q hq => by cases hq) rfl (show 2 < 3 by decide) (by cases l1 <;> rfl) rfl
theorem f118_4 : zz_fetch zz_prog 118 4 = some (.iload_n 2, 1, [], []) := zz_fetch_of p118 rfl rfl
theorem s118_4 : zz_Run zz_prog d 118 (4, [l0, l1, some (.int v)], st, k, h) = zz_Run zz_prog d 118 (5, [l0, l1, some (.int v)], .int v :: st, k, h) := zz_k_num f118_4 rfl
theorem f118_5 : zz_fetch zz_prog 118 5 = some (.bipush 72, 2, [], []) := zz_fetch_of p118 rfl rfl
theorem s118_5 : zz_Run zz_prog d 118 (5, [l0, l1, l2], st, k, h) = zz_Run zz_prog d 118 (7, [l0, l1, l2], .int 72 :: st, k, h) := zz_k_num f118_5 (congrArg (fun u => some (7, [l0, l1, l2], Value.int u :: st)) (by decide : (Int8.ofInt 72).toInt32 = 72))
theorem f118_7 : zz_fetch zz_prog 118 7 = some (.if_icmp .ge 28, 3, [35], []) := zz_fetch_of p118 rfl rfl
theorem s118_7 : zz_Run zz_prog d 118 (7, [l0, l1, l2], .int w :: .int v :: st, k, h) = if w ≤ v then zz_Run zz_prog d 118 (35, [l0, l1, l2], st, k, h) else zz_Run zz_prog d 118 (10, [l0, l1, l2], st, k, h) := zz_k_br (w ≤ v) rfl (zz_k_num f118_7 rfl)
theorem f118_10 : zz_fetch zz_prog 118 10 = some (.iload_n 1, 1, [], []) := zz_fetch_of p118 rfl rfl
theorem s118_10 : zz_Run zz_prog d 118 (10, [l0, some (.int v), l2], st, k, h) = zz_Run zz_prog d 118 (11, [l0, some (.int v), l2], .int v :: st, k, h) := zz_k_num f118_10 rfl
theorem f118_11 : zz_fetch zz_prog 118 11 = some (.ifCond .ne 12, 3, [23], []) := zz_fetch_of p118 rfl rfl
theorem s118_11 : zz_Run zz_prog d 118 (11, [l0, l1, l2], .int v :: st, k, h) = if ¬ v = 0 then zz_Run zz_prog d 118 (23, [l0, l1, l2], st, k, h) else zz_Run zz_prog d 118 (14, [l0, l1, l2], st, k, h) := zz_k_br (¬ v = 0) rfl (zz_k_num f118_11 rfl)
theorem f118_14 : zz_fetch zz_prog 118 14 = some (.aload_n 0, 1, [], []) := zz_fetch_of p118 rfl rfl
theorem s118_14 : zz_Run zz_prog d 118 (14, [some (.ref a), l1, l2], st, k, h) = zz_Run zz_prog d 118 (15, [some (.ref a), l1, l2], .ref a :: st, k, h) := zz_k_num f118_14 rfl
theorem f118_15 : zz_fetch zz_prog 118 15 = some (.iconst 0, 1, [], []) := zz_fetch_of p118 rfl rfl
theorem s118_15 : zz_Run zz_prog d 118 (15, [l0, l1, l2], st, k, h) = zz_Run zz_prog d 118 (16, [l0, l1, l2], .int 0 :: st, k, h) := zz_k_num f118_15 rfl
theorem f118_16 : zz_fetch zz_prog 118 16 = some (.iload_n 2, 1, [], []) := zz_fetch_of p118 rfl rfl
theorem s118_16 : zz_Run zz_prog d 118 (16, [l0, l1, some (.int v)], st, k, h) = zz_Run zz_prog d 118 (17, [l0, l1, some (.int v)], .int v :: st, k, h) := zz_k_num f118_16 rfl
theorem f118_17 : zz_fetch zz_prog 118 17 = some (.invokevirtual 149, 3, [0, 107, 3, 2], []) := zz_fetch_of p118 rfl rfl
theorem s118_17 : zz_Run zz_prog d 118 (17, [l0, l1, l2], [b0, b1, .ref 23], k, (zz_hp n I J ex)) = zz_ret (zz_Call zz_prog d 107 [.ref 23, b1, b0] (zz_hp n I J ex)) (fun v k' h' => zz_Run zz_prog d 118 (20, [l0, l1, l2], v.toList ++ [], k && k', h')) (fun a k' h' => zz_th d 118 17 a [l0, l1, l2] (k && k') h') := zz_k_call f118_17 rfl rfl rfl
theorem f118_20 : zz_fetch zz_prog 118 20 = some (.ifCond .eq 7, 3, [27], []) := zz_fetch_of p118 rfl rfl
theorem s118_20 : zz_Run zz_prog d 118 (20, [l0, l1, l2], .int v :: st, k, h) = if v = 0 then zz_Run zz_prog d 118 (27, [l0, l1, l2], st, k, h) else zz_Run zz_prog d 118 (23, [l0, l1, l2], st, k, h) := zz_k_br (v = 0) rfl (zz_k_num f118_20 rfl)
theorem f118_23 : zz_fetch zz_prog 118 23 = some (.iconst 1, 1, [], []) := zz_fetch_of p118 rfl rfl
theorem s118_23 : zz_Run zz_prog d 118 (23, [l0, l1, l2], st, k, h) = zz_Run zz_prog d 118 (24, [l0, l1, l2], .int 1 :: st, k, h) := zz_k_num f118_23 rfl
theorem f118_24 : zz_fetch zz_prog 118 24 = some (.goto 4, 3, [28], []) := zz_fetch_of p118 rfl rfl
theorem s118_24 : zz_Run zz_prog d 118 (24, [l0, l1, l2], st, k, h) = zz_Run zz_prog d 118 (28, [l0, l1, l2], st, k, h) := zz_k_num f118_24 rfl
theorem f118_27 : zz_fetch zz_prog 118 27 = some (.iconst 0, 1, [], []) := zz_fetch_of p118 rfl rfl
theorem s118_27 : zz_Run zz_prog d 118 (27, [l0, l1, l2], st, k, h) = zz_Run zz_prog d 118 (28, [l0, l1, l2], .int 0 :: st, k, h) := zz_k_num f118_27 rfl
theorem f118_28 : zz_fetch zz_prog 118 28 = some (.istore_n 1, 1, [], []) := zz_fetch_of p118 rfl rfl
theorem s118_28 : zz_Run zz_prog d 118 (28, [l0, l1, l2], .int v :: st, k, h) = zz_sl l0 (zz_Run zz_prog d 118 (29, [l0, some (.int v), l2], st, k, h)) := zz_k_st (j := 1) (u := .int v) f118_28 rfl (fun q hq => by cases hq) rfl (show 1 < 3 by decide) (by cases l0 <;> rfl) rfl
theorem f118_29 : zz_fetch zz_prog 118 29 = some (.iinc 2 1, 3, [], []) := zz_fetch_of p118 rfl rfl
theorem s118_29 : zz_Run zz_prog d 118 (29, [l0, l1, some (.int v)], st, k, h) = zz_sl l1 (zz_Run zz_prog d 118 (32, [l0, l1, some (.int (v + 1))], st, k, h)) := zz_k_st (j := 2) (u := .int (v + 1)) f118_29 rfl (fun q hq => by cases hq) rfl (show 2 < 3 by decide) (by cases l1 <;> rfl) rfl
theorem f118_32 : zz_fetch zz_prog 118 32 = some (.goto (-28), 3, [4], []) := zz_fetch_of p118 rfl rfl
theorem s118_32 : zz_Run zz_prog d 118 (32, [l0, l1, l2], st, k, h) = zz_Run zz_prog d 118 (4, [l0, l1, l2], st, k, h) := zz_k_num f118_32 rfl
theorem f118_35 : zz_fetch zz_prog 118 35 = some (.aload_n 0, 1, [], []) := zz_fetch_of p118 rfl rfl
theorem s118_35 : zz_Run zz_prog d 118 (35, [some (.ref a), l1, l2], st, k, h) = zz_Run zz_prog d 118 (36, [some (.ref a), l1, l2], .ref a :: st, k, h) := zz_k_num f118_35 rfl
theorem f118_36 : zz_fetch zz_prog 118 36 = some (.getfield 7, 3, [2, 1, 3], []) := zz_fetch_of p118 rfl rfl
theorem s118_36 : zz_Run zz_prog d 118 (36, [l0, l1, l2], .ref 23 :: st, k, (zz_hp n I J ex)) = zz_Run zz_prog d 118 (39, [l0, l1, l2], .ref 24 :: st, k, (zz_hp n I J ex)) := zz_k_go f118_36 rfl rfl rfl
theorem f118_39 : zz_fetch zz_prog 118 39 = some (.sipush 185, 3, [], []) := zz_fetch_of p118 rfl rfl
theorem s118_39 : zz_Run zz_prog d 118 (39, [l0, l1, l2], st, k, h) = zz_Run zz_prog d 118 (42, [l0, l1, l2], .int 185 :: st, k, h) := zz_k_num f118_39 (congrArg (fun u => some (42, [l0, l1, l2], Value.int u :: st)) (by decide : (Int16.ofInt 185).toInt32 = 185))
theorem f118_42 : zz_fetch zz_prog 118 42 = some (.iaload, 1, [], []) := zz_fetch_of p118 rfl rfl
theorem s118_42 (ha : zz_isrd a = true) : zz_Run zz_prog d 118 (42, [l0, l1, l2], .int v :: .ref a :: st, k, (zz_hp n I J ex)) = zz_ck (zz_in v (zz_ary n a)) (zz_Run zz_prog d 118 (43, [l0, l1, l2], .int (I a v.toNatClampNeg) :: st, k, (zz_hp n I J ex))) := zz_k_iald f118_42 ha
theorem f118_43 : zz_fetch zz_prog 118 43 = some (.ifCond .eq 25, 3, [68], []) := zz_fetch_of p118 rfl rfl
theorem s118_43 : zz_Run zz_prog d 118 (43, [l0, l1, l2], .int v :: st, k, h) = if v = 0 then zz_Run zz_prog d 118 (68, [l0, l1, l2], st, k, h) else zz_Run zz_prog d 118 (46, [l0, l1, l2], st, k, h) := zz_k_br (v = 0) rfl (zz_k_num f118_43 rfl)
theorem f118_46 : zz_fetch zz_prog 118 46 = some (.aload_n 0, 1, [], []) := zz_fetch_of p118 rfl rfl
theorem s118_46 : zz_Run zz_prog d 118 (46, [some (.ref a), l1, l2], st, k, h) = zz_Run zz_prog d 118 (47, [some (.ref a), l1, l2], .ref a :: st, k, h) := zz_k_num f118_46 rfl
theorem f118_47 : zz_fetch zz_prog 118 47 = some (.aload_n 0, 1, [], []) := zz_fetch_of p118 rfl rfl
theorem s118_47 : zz_Run zz_prog d 118 (47, [some (.ref a), l1, l2], st, k, h) = zz_Run zz_prog d 118 (48, [some (.ref a), l1, l2], .ref a :: st, k, h) := zz_k_num f118_47 rfl
theorem f118_48 : zz_fetch zz_prog 118 48 = some (.getfield 7, 3, [2, 1, 3], []) := zz_fetch_of p118 rfl rfl
theorem s118_48 : zz_Run zz_prog d 118 (48, [l0, l1, l2], .ref 23 :: st, k, (zz_hp n I J ex)) = zz_Run zz_prog d 118 (51, [l0, l1, l2], .ref 24 :: st, k, (zz_hp n I J ex)) := zz_k_go f118_48 rfl rfl rfl
theorem f118_51 : zz_fetch zz_prog 118 51 = some (.sipush 181, 3, [], []) := zz_fetch_of p118 rfl rfl
theorem s118_51 : zz_Run zz_prog d 118 (51, [l0, l1, l2], st, k, h) = zz_Run zz_prog d 118 (54, [l0, l1, l2], .int 181 :: st, k, h) := zz_k_num f118_51 (congrArg (fun u => some (54, [l0, l1, l2], Value.int u :: st)) (by decide : (Int16.ofInt 181).toInt32 = 181))
theorem f118_54 : zz_fetch zz_prog 118 54 = some (.iaload, 1, [], []) := zz_fetch_of p118 rfl rfl
theorem s118_54 (ha : zz_isrd a = true) : zz_Run zz_prog d 118 (54, [l0, l1, l2], .int v :: .ref a :: st, k, (zz_hp n I J ex)) = zz_ck (zz_in v (zz_ary n a)) (zz_Run zz_prog d 118 (55, [l0, l1, l2], .int (I a v.toNatClampNeg) :: st, k, (zz_hp n I J ex))) := zz_k_iald f118_54 ha
theorem f118_55 : zz_fetch zz_prog 118 55 = some (.iconst 0, 1, [], []) := zz_fetch_of p118 rfl rfl
theorem s118_55 : zz_Run zz_prog d 118 (55, [l0, l1, l2], st, k, h) = zz_Run zz_prog d 118 (56, [l0, l1, l2], .int 0 :: st, k, h) := zz_k_num f118_55 rfl
theorem f118_56 : zz_fetch zz_prog 118 56 = some (.invokevirtual 126, 3, [0, 103, 3, 2], []) := zz_fetch_of p118 rfl rfl
theorem s118_56 : zz_Run zz_prog d 118 (56, [l0, l1, l2], [b0, b1, .ref 23], k, (zz_hp n I J ex)) = zz_ret (zz_Call zz_prog d 103 [.ref 23, b1, b0] (zz_hp n I J ex)) (fun v k' h' => zz_Run zz_prog d 118 (59, [l0, l1, l2], v.toList ++ [], k && k', h')) (fun a k' h' => zz_th d 118 56 a [l0, l1, l2] (k && k') h') := zz_k_call f118_56 rfl rfl rfl
theorem f118_59 : zz_fetch zz_prog 118 59 = some (.bipush 15, 2, [], []) := zz_fetch_of p118 rfl rfl
theorem s118_59 : zz_Run zz_prog d 118 (59, [l0, l1, l2], st, k, h) = zz_Run zz_prog d 118 (61, [l0, l1, l2], .int 15 :: st, k, h) := zz_k_num f118_59 (congrArg (fun u => some (61, [l0, l1, l2], Value.int u :: st)) (by decide : (Int8.ofInt 15).toInt32 = 15))
theorem f118_61 : zz_fetch zz_prog 118 61 = some (.if_icmp .eq 7, 3, [68], []) := zz_fetch_of p118 rfl rfl
theorem s118_61 : zz_Run zz_prog d 118 (61, [l0, l1, l2], .int w :: .int v :: st, k, h) = if v = w then zz_Run zz_prog d 118 (68, [l0, l1, l2], st, k, h) else zz_Run zz_prog d 118 (64, [l0, l1, l2], st, k, h) := zz_k_br (v = w) rfl (zz_k_num f118_61 rfl)
theorem f118_64 : zz_fetch zz_prog 118 64 = some (.iload_n 1, 1, [], []) := zz_fetch_of p118 rfl rfl
theorem s118_64 : zz_Run zz_prog d 118 (64, [l0, some (.int v), l2], st, k, h) = zz_Run zz_prog d 118 (65, [l0, some (.int v), l2], .int v :: st, k, h) := zz_k_num f118_64 rfl
theorem f118_65 : zz_fetch zz_prog 118 65 = some (.ifCond .ne 22, 3, [87], []) := zz_fetch_of p118 rfl rfl
theorem s118_65 : zz_Run zz_prog d 118 (65, [l0, l1, l2], .int v :: st, k, h) = if ¬ v = 0 then zz_Run zz_prog d 118 (87, [l0, l1, l2], st, k, h) else zz_Run zz_prog d 118 (68, [l0, l1, l2], st, k, h) := zz_k_br (¬ v = 0) rfl (zz_k_num f118_65 rfl)
theorem f118_68 : zz_fetch zz_prog 118 68 = some (.aload_n 0, 1, [], []) := zz_fetch_of p118 rfl rfl
theorem s118_68 : zz_Run zz_prog d 118 (68, [some (.ref a), l1, l2], st, k, h) = zz_Run zz_prog d 118 (69, [some (.ref a), l1, l2], .ref a :: st, k, h) := zz_k_num f118_68 rfl
theorem f118_69 : zz_fetch zz_prog 118 69 = some (.getfield 7, 3, [2, 1, 3], []) := zz_fetch_of p118 rfl rfl
theorem s118_69 : zz_Run zz_prog d 118 (69, [l0, l1, l2], .ref 23 :: st, k, (zz_hp n I J ex)) = zz_Run zz_prog d 118 (72, [l0, l1, l2], .ref 24 :: st, k, (zz_hp n I J ex)) := zz_k_go f118_69 rfl rfl rfl
theorem f118_72 : zz_fetch zz_prog 118 72 = some (.sipush 180, 3, [], []) := zz_fetch_of p118 rfl rfl
theorem s118_72 : zz_Run zz_prog d 118 (72, [l0, l1, l2], st, k, h) = zz_Run zz_prog d 118 (75, [l0, l1, l2], .int 180 :: st, k, h) := zz_k_num f118_72 (congrArg (fun u => some (75, [l0, l1, l2], Value.int u :: st)) (by decide : (Int16.ofInt 180).toInt32 = 180))
theorem f118_75 : zz_fetch zz_prog 118 75 = some (.bipush 6, 2, [], []) := zz_fetch_of p118 rfl rfl
theorem s118_75 : zz_Run zz_prog d 118 (75, [l0, l1, l2], st, k, h) = zz_Run zz_prog d 118 (77, [l0, l1, l2], .int 6 :: st, k, h) := zz_k_num f118_75 (congrArg (fun u => some (77, [l0, l1, l2], Value.int u :: st)) (by decide : (Int8.ofInt 6).toInt32 = 6))
theorem f118_77 : zz_fetch zz_prog 118 77 = some (.iastore, 1, [], []) := zz_fetch_of p118 rfl rfl
theorem s118_77 (ha : zz_isar a = true) : zz_Run zz_prog d 118 (77, [l0, l1, l2], .int w :: .int v :: .ref a :: st, k, (zz_hp n I J ex)) = zz_ck (zz_in v (zz_ary n a)) (zz_Run zz_prog d 118 (78, [l0, l1, l2], st, false, (zz_hp n (zz_up I a v.toNatClampNeg w) J ex))) := zz_k_iast f118_77 ha
theorem f118_78 : zz_fetch zz_prog 118 78 = some (.aload_n 0, 1, [], []) := zz_fetch_of p118 rfl rfl
theorem s118_78 : zz_Run zz_prog d 118 (78, [some (.ref a), l1, l2], st, k, h) = zz_Run zz_prog d 118 (79, [some (.ref a), l1, l2], .ref a :: st, k, h) := zz_k_num f118_78 rfl
theorem f118_79 : zz_fetch zz_prog 118 79 = some (.getfield 7, 3, [2, 1, 3], []) := zz_fetch_of p118 rfl rfl
theorem s118_79 : zz_Run zz_prog d 118 (79, [l0, l1, l2], .ref 23 :: st, k, (zz_hp n I J ex)) = zz_Run zz_prog d 118 (82, [l0, l1, l2], .ref 24 :: st, k, (zz_hp n I J ex)) := zz_k_go f118_79 rfl rfl rfl
theorem f118_82 : zz_fetch zz_prog 118 82 = some (.sipush 185, 3, [], []) := zz_fetch_of p118 rfl rfl
theorem s118_82 : zz_Run zz_prog d 118 (82, [l0, l1, l2], st, k, h) = zz_Run zz_prog d 118 (85, [l0, l1, l2], .int 185 :: st, k, h) := zz_k_num f118_82 (congrArg (fun u => some (85, [l0, l1, l2], Value.int u :: st)) (by decide : (Int16.ofInt 185).toInt32 = 185))
theorem f118_85 : zz_fetch zz_prog 118 85 = some (.iconst 0, 1, [], []) := zz_fetch_of p118 rfl rfl
theorem s118_85 : zz_Run zz_prog d 118 (85, [l0, l1, l2], st, k, h) = zz_Run zz_prog d 118 (86, [l0, l1, l2], .int 0 :: st, k, h) := zz_k_num f118_85 rfl
theorem f118_86 : zz_fetch zz_prog 118 86 = some (.iastore, 1, [], []) := zz_fetch_of p118 rfl rfl
theorem s118_86 (ha : zz_isar a = true) : zz_Run zz_prog d 118 (86, [l0, l1, l2], .int w :: .int v :: .ref a :: st, k, (zz_hp n I J ex)) = zz_ck (zz_in v (zz_ary n a)) (zz_Run zz_prog d 118 (87, [l0, l1, l2], st, false, (zz_hp n (zz_up I a v.toNatClampNeg w) J ex))) := zz_k_iast f118_86 ha
theorem f118_87 : zz_fetch zz_prog 118 87 = some (.return_, 1, [], []) := zz_fetch_of p118 rfl rfl
theorem s118_87 : zz_Run zz_prog d 118 (87, [l0, l1, l2], [], k, h) = some (.inl none, k, h) := zz_k_stop f118_87 rfl rfl rfl
end S118
