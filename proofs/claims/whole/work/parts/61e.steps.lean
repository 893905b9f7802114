section S119
variable {d n j : Nat} {l0 l1 l2 l3 : Option Value} {st : List Value} {k : Bool} {h : zz_H} {v w v1 v2 : Int32} {y y1 : Int64} {a a1 a2 : Nat} {b0 b1 b2 b3 b4 b5 b6 b7 b8 : Value} {I : Nat → Nat → Int32} {J : Nat → Nat → Int64} {ex : List (Nat × Nat)}
theorem p119 : zz_prog 119 = some zz_m119 := rfl
theorem e119 (g0 : Nat) (g1 : Int32) : zz_Call zz_prog (d + 1) 119 [.ref g0, .int g1] h = zz_Run zz_prog d 119 (0, [some (.ref g0), some (.int g1), none, none], [], true, h) := rfl
theorem t119 (pc : Nat) (L : List (Option Value)) : zz_th d 119 pc a L k h = some (.inr a, k, h) := zz_th_out p119 rfl
theorem f119_0 : zz_fetch zz_prog 119 0 = some (.aload_n 0, 1, [], []) := zz_fetch_of p119 rfl rfl
theorem s119_0 : zz_Run zz_prog d 119 (0, [some (.ref a), l1, l2, l3], st, k, h) = zz_Run zz_prog d 119 (1, [some (.ref a), l1, l2, l3], .ref a :: st, k, h) := zz_k_num f119_0 rfl
theorem f119_1 : zz_fetch zz_prog 119 1 = some (.getfield 7, 3, [2, 1, 3], []) := zz_fetch_of p119 rfl rfl
theorem s119_1 : zz_Run zz_prog d 119 (1, [l0, l1, l2, l3], .ref 23 :: st, k, (zz_hp n I J ex)) = zz_Run zz_prog d 119 (4, [l0, l1, l2, l3], .ref 24 :: st, k, (zz_hp n I J ex)) := zz_k_go f119_1 rfl rfl rfl
theorem f119_4 : zz_fetch zz_prog 119 4 = some (.sipush 181, 3, [], []) := zz_fetch_of p119 rfl rfl
theorem s119_4 : zz_Run zz_prog d 119 (4, [l0, l1, l2, l3], st, k, h) = zz_Run zz_prog d 119 (7, [l0, l1, l2, l3], .int 181 :: st, k, h) := zz_k_num f119_4 (congrArg (fun u => some (7, [l0, l1, l2, l3], Value.int u :: st)) (by decide : (Int16.ofInt 181).toInt32 = 181))
theorem f119_7 : zz_fetch zz_prog 119 7 = some (.iaload, 1, [], []) := zz_fetch_of p119 rfl rfl
theorem s119_7 (ha : zz_isrd a = true) : zz_Run zz_prog d 119 (7, [l0, l1, l2, l3], .int v :: .ref a :: st, k, (zz_hp n I J ex)) = zz_ck (zz_in v (zz_ary n a)) (zz_Run zz_prog d 119 (8, [l0, l1, l2, l3], .int (I a v.toNatClampNeg) :: st, k, (zz_hp n I J ex))) := zz_k_iald f119_7 ha
theorem f119_8 : zz_fetch zz_prog 119 8 = some (.istore_n 2, 1, [], []) := zz_fetch_of p119 rfl rfl
theorem s119_8 : zz_Run zz_prog d 119 (8, [l0, l1, l2, l3], .int v :: st, k, h) = zz_sl l1 (zz_Run zz_prog d 119 (9, [l0, l1, some (.int v), l3], st, k, h)) := zz_k_st (j := 2) (u := .int v) f119_8 rfl (fun q hq => by cases hq) rfl (show 2 < 4 by decide) (by cases l1 <;> rfl) rfl
theorem f119_9 : zz_fetch zz_prog 119 9 = some (.aload_n 0, 1, [], []) := zz_fetch_of p119 rfl rfl
theorem s119_9 : zz_Run zz_prog d 119 (9, [some (.ref a), l1, l2, l3], st, k, h) = zz_Run zz_prog d 119 (10, [some (.ref a), l1, l2, l3], .ref a :: st, k, h) := zz_k_num f119_9 rfl
theorem f119_10 : zz_fetch zz_prog 119 10 = some (.getfield 7, 3, [2, 1, 3], []) := zz_fetch_of p119 rfl rfl
theorem s119_10 : zz_Run zz_prog d 119 (10, [l0, l1, l2, l3], .ref 23 :: st, k, (zz_hp n I J ex)) = zz_Run zz_prog d 119 (13, [l0, l1, l2, l3], .ref 24 :: st, k, (zz_hp n I J ex)) := zz_k_go f119_10 rfl rfl rfl
theorem f119_13 : zz_fetch zz_prog 119 13 = some (.sipush 192, 3, [], []) := zz_fetch_of p119 rfl rfl
theorem s119_13 : zz_Run zz_prog d 119 (13, [l0, l1, l2, l3], st, k, h) = zz_Run zz_prog d 119 (16, [l0, l1, l2, l3], .int 192 :: st, k, h) := zz_k_num f119_13 (congrArg (fun u => some (16, [l0, l1, l2, l3], Value.int u :: st)) (by decide : (Int16.ofInt 192).toInt32 = 192))
theorem f119_16 : zz_fetch zz_prog 119 16 = some (.iload_n 1, 1, [], []) := zz_fetch_of p119 rfl rfl
theorem s119_16 : zz_Run zz_prog d 119 (16, [l0, some (.int v), l2, l3], st, k, h) = zz_Run zz_prog d 119 (17, [l0, some (.int v), l2, l3], .int v :: st, k, h) := zz_k_num f119_16 rfl
theorem f119_17 : zz_fetch zz_prog 119 17 = some (.iastore, 1, [], []) := zz_fetch_of p119 rfl rfl
theorem s119_17 (ha : zz_isar a = true) : zz_Run zz_prog d 119 (17, [l0, l1, l2, l3], .int w :: .int v :: .ref a :: st, k, (zz_hp n I J ex)) = zz_ck (zz_in v (zz_ary n a)) (zz_Run zz_prog d 119 (18, [l0, l1, l2, l3], st, false, (zz_hp n (zz_up I a v.toNatClampNeg w) J ex))) := zz_k_iast f119_17 ha
theorem f119_18 : zz_fetch zz_prog 119 18 = some (.aload_n 0, 1, [], []) := zz_fetch_of p119 rfl rfl
theorem s119_18 : zz_Run zz_prog d 119 (18, [some (.ref a), l1, l2, l3], st, k, h) = zz_Run zz_prog d 119 (19, [some (.ref a), l1, l2, l3], .ref a :: st, k, h) := zz_k_num f119_18 rfl
theorem f119_19 : zz_fetch zz_prog 119 19 = some (.getfield 7, 3, [2, 1, 3], []) := zz_fetch_of p119 rfl rfl
theorem s119_19 : zz_Run zz_prog d 119 (19, [l0, l1, l2, l3], .ref 23 :: st, k, (zz_hp n I J ex)) = zz_Run zz_prog d 119 (22, [l0, l1, l2, l3], .ref 24 :: st, k, (zz_hp n I J ex)) := zz_k_go f119_19 rfl rfl rfl
theorem f119_22 : zz_fetch zz_prog 119 22 = some (.sipush 191, 3, [], []) := zz_fetch_of p119 rfl rfl
theorem s119_22 : zz_Run zz_prog d 119 (22, [l0, l1, l2, l3], st, k, h) = zz_Run zz_prog d 119 (25, [l0, l1, l2, l3], .int 191 :: st, k, h) := zz_k_num f119_22 (congrArg (fun u => some (25, [l0, l1, l2, l3], Value.int u :: st)) (by decide : (Int16.ofInt 191).toInt32 = 191))
theorem f119_25 : zz_fetch zz_prog 119 25 = some (.dup2, 1, [], []) := zz_fetch_of p119 rfl rfl
theorem s119_25 : zz_Run zz_prog d 119 (25, [l0, l1, l2, l3], .int v :: .ref a1 :: st, k, h) = zz_Run zz_prog d 119 (26, [l0, l1, l2, l3], .int v :: .ref a1 :: .int v :: .ref a1 :: st, k, h) := zz_k_num f119_25 rfl
theorem f119_26 : zz_fetch zz_prog 119 26 = some (.iaload, 1, [], []) := zz_fetch_of p119 rfl rfl
theorem s119_26 (ha : zz_isrd a = true) : zz_Run zz_prog d 119 (26, [l0, l1, l2, l3], .int v :: .ref a :: st, k, (zz_hp n I J ex)) = zz_ck (zz_in v (zz_ary n a)) (zz_Run zz_prog d 119 (27, [l0, l1, l2, l3], .int (I a v.toNatClampNeg) :: st, k, (zz_hp n I J ex))) := zz_k_iald f119_26 ha
theorem f119_27 : zz_fetch zz_prog 119 27 = some (.iconst 1, 1, [], []) := zz_fetch_of p119 rfl rfl
theorem s119_27 : zz_Run zz_prog d 119 (27, [l0, l1, l2, l3], st, k, h) = zz_Run zz_prog d 119 (28, [l0, l1, l2, l3], .int 1 :: st, k, h) := zz_k_num f119_27 rfl
theorem f119_28 : zz_fetch zz_prog 119 28 = some (.iadd, 1, [], []) := zz_fetch_of p119 rfl rfl
theorem s119_28 : zz_Run zz_prog d 119 (28, [l0, l1, l2, l3], .int w :: .int v :: st, k, h) = zz_Run zz_prog d 119 (29, [l0, l1, l2, l3], .int (v + w) :: st, k, h) := zz_k_num f119_28 rfl
theorem f119_29 : zz_fetch zz_prog 119 29 = some (.iastore, 1, [], []) := zz_fetch_of p119 rfl rfl
theorem s119_29 (ha : zz_isar a = true) : zz_Run zz_prog d 119 (29, [l0, l1, l2, l3], .int w :: .int v :: .ref a :: st, k, (zz_hp n I J ex)) = zz_ck (zz_in v (zz_ary n a)) (zz_Run zz_prog d 119 (30, [l0, l1, l2, l3], st, false, (zz_hp n (zz_up I a v.toNatClampNeg w) J ex))) := zz_k_iast f119_29 ha
theorem f119_30 : zz_fetch zz_prog 119 30 = some (.iconst 0, 1, [], []) := zz_fetch_of p119 rfl rfl
theorem s119_30 : zz_Run zz_prog d 119 (30, [l0, l1, l2, l3], st, k, h) = zz_Run zz_prog d 119 (31, [l0, l1, l2, l3], .int 0 :: st, k, h) := zz_k_num f119_30 rfl
theorem f119_31 : zz_fetch zz_prog 119 31 = some (.istore_n 3, 1, [], []) := zz_fetch_of p119 rfl rfl
theorem s119_31 : zz_Run zz_prog d 119 (31, [l0, l1, l2, l3], .int v :: st, k, h) = zz_sl l2 (zz_Run zz_prog d 119 (32, [l0, l1, l2, some (.int v)], st, k, h)) := zz_k_st (j := 3) (u := .int v) f119_31 rfl (fun q hq => by cases hq) rfl (show 3 < 4 by decide) (by cases l2 <;> rfl) rfl
theorem f119_32 : zz_fetch zz_prog 119 32 = some (.iload_n 3, 1, [], []) := zz_fetch_of p119 rfl rfl
theorem s119_32 : zz_Run zz_prog d 119 (32, [l0, l1, l2, some (.int v)], st, k, h) = zz_Run zz_prog d 119 (33, [l0, l1, l2, some (.int v)], .int v :: st, k, h) := zz_k_num f119_32 rfl
theorem f119_33 : zz_fetch zz_prog 119 33 = some (.bipush 19, 2, [], []) := zz_fetch_of p119 rfl rfl
theorem s119_33 : zz_Run zz_prog d 119 (33, [l0, l1, l2, l3], st, k, h) = zz_Run zz_prog d 119 (35, [l0, l1, l2, l3], .int 19 :: st, k, h) := zz_k_num f119_33 (congrArg (fun u => some (35, [l0, l1, l2, l3], Value.int u :: st)) (by decide : (Int8.ofInt 19).toInt32 = 19))
theorem f119_35 : zz_fetch zz_prog 119 35 = some (.if_icmp .ge 84, 3, [119], []) := zz_fetch_of p119 rfl rfl
theorem s119_35 : zz_Run zz_prog d 119 (35, [l0, l1, l2, l3], .int w :: .int v :: st, k, h) = if w ≤ v then zz_Run zz_prog d 119 (119, [l0, l1, l2, l3], st, k, h) else zz_Run zz_prog d 119 (38, [l0, l1, l2, l3], st, k, h) := zz_k_br (w ≤ v) rfl (zz_k_num f119_35 rfl)
theorem f119_38 : zz_fetch zz_prog 119 38 = some (.aload_n 0, 1, [], []) := zz_fetch_of p119 rfl rfl
theorem s119_38 : zz_Run zz_prog d 119 (38, [some (.ref a), l1, l2, l3], st, k, h) = zz_Run zz_prog d 119 (39, [some (.ref a), l1, l2, l3], .ref a :: st, k, h) := zz_k_num f119_38 rfl
theorem f119_39 : zz_fetch zz_prog 119 39 = some (.getfield 7, 3, [2, 1, 3], []) := zz_fetch_of p119 rfl rfl
theorem s119_39 : zz_Run zz_prog d 119 (39, [l0, l1, l2, l3], .ref 23 :: st, k, (zz_hp n I J ex)) = zz_Run zz_prog d 119 (42, [l0, l1, l2, l3], .ref 24 :: st, k, (zz_hp n I J ex)) := zz_k_go f119_39 rfl rfl rfl
theorem f119_42 : zz_fetch zz_prog 119 42 = some (.sipush 191, 3, [], []) := zz_fetch_of p119 rfl rfl
theorem s119_42 : zz_Run zz_prog d 119 (42, [l0, l1, l2, l3], st, k, h) = zz_Run zz_prog d 119 (45, [l0, l1, l2, l3], .int 191 :: st, k, h) := zz_k_num f119_42 (congrArg (fun u => some (45, [l0, l1, l2, l3], Value.int u :: st)) (by decide : (Int16.ofInt 191).toInt32 = 191))
theorem f119_45 : zz_fetch zz_prog 119 45 = some (.iaload, 1, [], []) := zz_fetch_of p119 rfl rfl
theorem s119_45 (ha : zz_isrd a = true) : zz_Run zz_prog d 119 (45, [l0, l1, l2, l3], .int v :: .ref a :: st, k, (zz_hp n I J ex)) = zz_ck (zz_in v (zz_ary n a)) (zz_Run zz_prog d 119 (46, [l0, l1, l2, l3], .int (I a v.toNatClampNeg) :: st, k, (zz_hp n I J ex))) := zz_k_iald f119_45 ha
theorem f119_46 : zz_fetch zz_prog 119 46 = some (.aload_n 0, 1, [], []) := zz_fetch_of p119 rfl rfl
theorem s119_46 : zz_Run zz_prog d 119 (46, [some (.ref a), l1, l2, l3], st, k, h) = zz_Run zz_prog d 119 (47, [some (.ref a), l1, l2, l3], .ref a :: st, k, h) := zz_k_num f119_46 rfl
theorem f119_47 : zz_fetch zz_prog 119 47 = some (.getfield 105, 3, [2, 15, 0], []) := zz_fetch_of p119 rfl rfl
theorem s119_47 : zz_Run zz_prog d 119 (47, [l0, l1, l2, l3], .ref 23 :: st, k, (zz_hp n I J ex)) = zz_Run zz_prog d 119 (50, [l0, l1, l2, l3], .int (I 23 15) :: st, k, (zz_hp n I J ex)) := zz_k_go f119_47 rfl rfl rfl
theorem f119_50 : zz_fetch zz_prog 119 50 = some (.if_icmp .le 69, 3, [119], []) := zz_fetch_of p119 rfl rfl
theorem s119_50 : zz_Run zz_prog d 119 (50, [l0, l1, l2, l3], .int w :: .int v :: st, k, h) = if v ≤ w then zz_Run zz_prog d 119 (119, [l0, l1, l2, l3], st, k, h) else zz_Run zz_prog d 119 (53, [l0, l1, l2, l3], st, k, h) := zz_k_br (v ≤ w) rfl (zz_k_num f119_50 rfl)
theorem f119_53 : zz_fetch zz_prog 119 53 = some (.aload_n 0, 1, [], []) := zz_fetch_of p119 rfl rfl
theorem s119_53 : zz_Run zz_prog d 119 (53, [some (.ref a), l1, l2, l3], st, k, h) = zz_Run zz_prog d 119 (54, [some (.ref a), l1, l2, l3], .ref a :: st, k, h) := zz_k_num f119_53 rfl
theorem f119_54 : zz_fetch zz_prog 119 54 = some (.getfield 31, 3, [2, 9, 3], []) := zz_fetch_of p119 rfl rfl
theorem s119_54 : zz_Run zz_prog d 119 (54, [l0, l1, l2, l3], .ref 23 :: st, k, (zz_hp n I J ex)) = zz_Run zz_prog d 119 (57, [l0, l1, l2, l3], .ref 31 :: st, k, (zz_hp n I J ex)) := zz_k_go f119_54 rfl rfl rfl
theorem f119_57 : zz_fetch zz_prog 119 57 = some (.iload_n 3, 1, [], []) := zz_fetch_of p119 rfl rfl
theorem s119_57 : zz_Run zz_prog d 119 (57, [l0, l1, l2, some (.int v)], st, k, h) = zz_Run zz_prog d 119 (58, [l0, l1, l2, some (.int v)], .int v :: st, k, h) := zz_k_num f119_57 rfl
theorem f119_58 : zz_fetch zz_prog 119 58 = some (.iaload, 1, [], []) := zz_fetch_of p119 rfl rfl
theorem s119_58 (ha : zz_isrd a = true) : zz_Run zz_prog d 119 (58, [l0, l1, l2, l3], .int v :: .ref a :: st, k, (zz_hp n I J ex)) = zz_ck (zz_in v (zz_ary n a)) (zz_Run zz_prog d 119 (59, [l0, l1, l2, l3], .int (I a v.toNatClampNeg) :: st, k, (zz_hp n I J ex))) := zz_k_iald f119_58 ha
theorem f119_59 : zz_fetch zz_prog 119 59 = some (.iconst 5, 1, [], []) := zz_fetch_of p119 rfl rfl
theorem s119_59 : zz_Run zz_prog d 119 (59, [l0, l1, l2, l3], st, k, h) = zz_Run zz_prog d 119 (60, [l0, l1, l2, l3], .int 5 :: st, k, h) := zz_k_num f119_59 rfl
theorem f119_60 : zz_fetch zz_prog 119 60 = some (.if_icmp .ge 53, 3, [113], []) := zz_fetch_of p119 rfl rfl
theorem s119_60 : zz_Run zz_prog d 119 (60, [l0, l1, l2, l3], .int w :: .int v :: st, k, h) = if w ≤ v then zz_Run zz_prog d 119 (113, [l0, l1, l2, l3], st, k, h) else zz_Run zz_prog d 119 (63, [l0, l1, l2, l3], st, k, h) := zz_k_br (w ≤ v) rfl (zz_k_num f119_60 rfl)
theorem f119_63 : zz_fetch zz_prog 119 63 = some (.aload_n 0, 1, [], []) := zz_fetch_of p119 rfl rfl
theorem s119_63 : zz_Run zz_prog d 119 (63, [some (.ref a), l1, l2, l3], st, k, h) = zz_Run zz_prog d 119 (64, [some (.ref a), l1, l2, l3], .ref a :: st, k, h) := zz_k_num f119_63 rfl
theorem f119_64 : zz_fetch zz_prog 119 64 = some (.iload_n 1, 1, [], []) := zz_fetch_of p119 rfl rfl
theorem s119_64 : zz_Run zz_prog d 119 (64, [l0, some (.int v), l2, l3], st, k, h) = zz_Run zz_prog d 119 (65, [l0, some (.int v), l2, l3], .int v :: st, k, h) := zz_k_num f119_64 rfl
theorem f119_65 : zz_fetch zz_prog 119 65 = some (.iload_n 3, 1, [], []) := zz_fetch_of p119 rfl rfl
theorem s119_65 : zz_Run zz_prog d 119 (65, [l0, l1, l2, some (.int v)], st, k, h) = zz_Run zz_prog d 119 (66, [l0, l1, l2, some (.int v)], .int v :: st, k, h) := zz_k_num f119_65 rfl
theorem f119_66 : zz_fetch zz_prog 119 66 = some (.invokevirtual 86, 3, [0, 93, 3, 2], []) := zz_fetch_of p119 rfl rfl
theorem s119_66 : zz_Run zz_prog d 119 (66, [l0, l1, l2, l3], [b0, b1, .ref 23], k, (zz_hp n I J ex)) = zz_ret (zz_Call zz_prog d 93 [.ref 23, b1, b0] (zz_hp n I J ex)) (fun v k' h' => zz_Run zz_prog d 119 (69, [l0, l1, l2, l3], v.toList ++ [], k && k', h')) (fun a k' h' => zz_th d 119 66 a [l0, l1, l2, l3] (k && k') h') := zz_k_call f119_66 rfl rfl rfl
theorem f119_69 : zz_fetch zz_prog 119 69 = some (.ifCond .eq 44, 3, [113], []) := zz_fetch_of p119 rfl rfl
theorem s119_69 : zz_Run zz_prog d 119 (69, [l0, l1, l2, l3], .int v :: st, k, h) = if v = 0 then zz_Run zz_prog d 119 (113, [l0, l1, l2, l3], st, k, h) else zz_Run zz_prog d 119 (72, [l0, l1, l2, l3], st, k, h) := zz_k_br (v = 0) rfl (zz_k_num f119_69 rfl)
theorem f119_72 : zz_fetch zz_prog 119 72 = some (.aload_n 0, 1, [], []) := zz_fetch_of p119 rfl rfl
theorem s119_72 : zz_Run zz_prog d 119 (72, [some (.ref a), l1, l2, l3], st, k, h) = zz_Run zz_prog d 119 (73, [some (.ref a), l1, l2, l3], .ref a :: st, k, h) := zz_k_num f119_72 rfl
theorem f119_73 : zz_fetch zz_prog 119 73 = some (.getfield 7, 3, [2, 1, 3], []) := zz_fetch_of p119 rfl rfl
theorem s119_73 : zz_Run zz_prog d 119 (73, [l0, l1, l2, l3], .ref 23 :: st, k, (zz_hp n I J ex)) = zz_Run zz_prog d 119 (76, [l0, l1, l2, l3], .ref 24 :: st, k, (zz_hp n I J ex)) := zz_k_go f119_73 rfl rfl rfl
theorem f119_76 : zz_fetch zz_prog 119 76 = some (.bipush 126, 2, [], []) := zz_fetch_of p119 rfl rfl
theorem s119_76 : zz_Run zz_prog d 119 (76, [l0, l1, l2, l3], st, k, h) = zz_Run zz_prog d 119 (78, [l0, l1, l2, l3], .int 126 :: st, k, h) := zz_k_num f119_76 (congrArg (fun u => some (78, [l0, l1, l2, l3], Value.int u :: st)) (by decide : (Int8.ofInt 126).toInt32 = 126))
theorem f119_78 : zz_fetch zz_prog 119 78 = some (.iconst 5, 1, [], []) := zz_fetch_of p119 rfl rfl
theorem s119_78 : zz_Run zz_prog d 119 (78, [l0, l1, l2, l3], st, k, h) = zz_Run zz_prog d 119 (79, [l0, l1, l2, l3], .int 5 :: st, k, h) := zz_k_num f119_78 rfl
theorem f119_79 : zz_fetch zz_prog 119 79 = some (.iload_n 2, 1, [], []) := zz_fetch_of p119 rfl rfl
theorem s119_79 : zz_Run zz_prog d 119 (79, [l0, l1, some (.int v), l3], st, k, h) = zz_Run zz_prog d 119 (80, [l0, l1, some (.int v), l3], .int v :: st, k, h) := zz_k_num f119_79 rfl
theorem f119_80 : zz_fetch zz_prog 119 80 = some (.imul, 1, [], []) := zz_fetch_of p119 rfl rfl
theorem s119_80 : zz_Run zz_prog d 119 (80, [l0, l1, l2, l3], .int w :: .int v :: st, k, h) = zz_Run zz_prog d 119 (81, [l0, l1, l2, l3], .int (v * w) :: st, k, h) := zz_k_num f119_80 rfl
theorem f119_81 : zz_fetch zz_prog 119 81 = some (.iadd, 1, [], []) := zz_fetch_of p119 rfl rfl
theorem s119_81 : zz_Run zz_prog d 119 (81, [l0, l1, l2, l3], .int w :: .int v :: st, k, h) = zz_Run zz_prog d 119 (82, [l0, l1, l2, l3], .int (v + w) :: st, k, h) := zz_k_num f119_81 rfl
theorem f119_82 : zz_fetch zz_prog 119 82 = some (.aload_n 0, 1, [], []) := zz_fetch_of p119 rfl rfl
theorem s119_82 : zz_Run zz_prog d 119 (82, [some (.ref a), l1, l2, l3], st, k, h) = zz_Run zz_prog d 119 (83, [some (.ref a), l1, l2, l3], .ref a :: st, k, h) := zz_k_num f119_82 rfl
theorem f119_83 : zz_fetch zz_prog 119 83 = some (.getfield 31, 3, [2, 9, 3], []) := zz_fetch_of p119 rfl rfl
theorem s119_83 : zz_Run zz_prog d 119 (83, [l0, l1, l2, l3], .ref 23 :: st, k, (zz_hp n I J ex)) = zz_Run zz_prog d 119 (86, [l0, l1, l2, l3], .ref 31 :: st, k, (zz_hp n I J ex)) := zz_k_go f119_83 rfl rfl rfl
theorem f119_86 : zz_fetch zz_prog 119 86 = some (.iload_n 3, 1, [], []) := zz_fetch_of p119 rfl rfl
theorem s119_86 : zz_Run zz_prog d 119 (86, [l0, l1, l2, some (.int v)], st, k, h) = zz_Run zz_prog d 119 (87, [l0, l1, l2, some (.int v)], .int v :: st, k, h) := zz_k_num f119_86 rfl
theorem f119_87 : zz_fetch zz_prog 119 87 = some (.iaload, 1, [], []) := zz_fetch_of p119 rfl rfl
theorem s119_87 (ha : zz_isrd a = true) : zz_Run zz_prog d 119 (87, [l0, l1, l2, l3], .int v :: .ref a :: st, k, (zz_hp n I J ex)) = zz_ck (zz_in v (zz_ary n a)) (zz_Run zz_prog d 119 (88, [l0, l1, l2, l3], .int (I a v.toNatClampNeg) :: st, k, (zz_hp n I J ex))) := zz_k_iald f119_87 ha
theorem f119_88 : zz_fetch zz_prog 119 88 = some (.iadd, 1, [], []) := zz_fetch_of p119 rfl rfl
theorem s119_88 : zz_Run zz_prog d 119 (88, [l0, l1, l2, l3], .int w :: .int v :: st, k, h) = zz_Run zz_prog d 119 (89, [l0, l1, l2, l3], .int (v + w) :: st, k, h) := zz_k_num f119_88 rfl
theorem f119_89 : zz_fetch zz_prog 119 89 = some (.dup2, 1, [], []) := zz_fetch_of p119 rfl rfl
theorem s119_89 : zz_Run zz_prog d 119 (89, [l0, l1, l2, l3], .int v :: .ref a1 :: st, k, h) = zz_Run zz_prog d 119 (90, [l0, l1, l2, l3], .int v :: .ref a1 :: .int v :: .ref a1 :: st, k, h) := zz_k_num f119_89 rfl
theorem f119_90 : zz_fetch zz_prog 119 90 = some (.iaload, 1, [], []) := zz_fetch_of p119 rfl rfl
theorem s119_90 (ha : zz_isrd a = true) : zz_Run zz_prog d 119 (90, [l0, l1, l2, l3], .int v :: .ref a :: st, k, (zz_hp n I J ex)) = zz_ck (zz_in v (zz_ary n a)) (zz_Run zz_prog d 119 (91, [l0, l1, l2, l3], .int (I a v.toNatClampNeg) :: st, k, (zz_hp n I J ex))) := zz_k_iald f119_90 ha
theorem f119_91 : zz_fetch zz_prog 119 91 = some (.iconst 1, 1, [], []) := zz_fetch_of p119 rfl rfl
theorem s119_91 : zz_Run zz_prog d 119 (91, [l0, l1, l2, l3], st, k, h) = zz_Run zz_prog d 119 (92, [l0, l1, l2, l3], .int 1 :: st, k, h) := zz_k_num f119_91 rfl
theorem f119_92 : zz_fetch zz_prog 119 92 = some (.iadd, 1, [], []) := zz_fetch_of p119 rfl rfl
theorem s119_92 : zz_Run zz_prog d 119 (92, [l0, l1, l2, l3], .int w :: .int v :: st, k, h) = zz_Run zz_prog d 119 (93, [l0, l1, l2, l3], .int (v + w) :: st, k, h) := zz_k_num f119_92 rfl
theorem f119_93 : zz_fetch zz_prog 119 93 = some (.iastore, 1, [], []) := zz_fetch_of p119 rfl rfl
theorem s119_93 (ha : zz_isar a = true) : zz_Run zz_prog d 119 (93, [l0, l1, l2, l3], .int w :: .int v :: .ref a :: st, k, (zz_hp n I J ex)) = zz_ck (zz_in v (zz_ary n a)) (zz_Run zz_prog d 119 (94, [l0, l1, l2, l3], st, false, (zz_hp n (zz_up I a v.toNatClampNeg w) J ex))) := zz_k_iast f119_93 ha
theorem f119_94 : zz_fetch zz_prog 119 94 = some (.aload_n 0, 1, [], []) := zz_fetch_of p119 rfl rfl
theorem s119_94 : zz_Run zz_prog d 119 (94, [some (.ref a), l1, l2, l3], st, k, h) = zz_Run zz_prog d 119 (95, [some (.ref a), l1, l2, l3], .ref a :: st, k, h) := zz_k_num f119_94 rfl
theorem f119_95 : zz_fetch zz_prog 119 95 = some (.getfield 7, 3, [2, 1, 3], []) := zz_fetch_of p119 rfl rfl
theorem s119_95 : zz_Run zz_prog d 119 (95, [l0, l1, l2, l3], .ref 23 :: st, k, (zz_hp n I J ex)) = zz_Run zz_prog d 119 (98, [l0, l1, l2, l3], .ref 24 :: st, k, (zz_hp n I J ex)) := zz_k_go f119_95 rfl rfl rfl
theorem f119_98 : zz_fetch zz_prog 119 98 = some (.sipush 146, 3, [], []) := zz_fetch_of p119 rfl rfl
theorem s119_98 : zz_Run zz_prog d 119 (98, [l0, l1, l2, l3], st, k, h) = zz_Run zz_prog d 119 (101, [l0, l1, l2, l3], .int 146 :: st, k, h) := zz_k_num f119_98 (congrArg (fun u => some (101, [l0, l1, l2, l3], Value.int u :: st)) (by decide : (Int16.ofInt 146).toInt32 = 146))
theorem f119_101 : zz_fetch zz_prog 119 101 = some (.aload_n 0, 1, [], []) := zz_fetch_of p119 rfl rfl
theorem s119_101 : zz_Run zz_prog d 119 (101, [some (.ref a), l1, l2, l3], st, k, h) = zz_Run zz_prog d 119 (102, [some (.ref a), l1, l2, l3], .ref a :: st, k, h) := zz_k_num f119_101 rfl
theorem f119_102 : zz_fetch zz_prog 119 102 = some (.getfield 31, 3, [2, 9, 3], []) := zz_fetch_of p119 rfl rfl
theorem s119_102 : zz_Run zz_prog d 119 (102, [l0, l1, l2, l3], .ref 23 :: st, k, (zz_hp n I J ex)) = zz_Run zz_prog d 119 (105, [l0, l1, l2, l3], .ref 31 :: st, k, (zz_hp n I J ex)) := zz_k_go f119_102 rfl rfl rfl
theorem f119_105 : zz_fetch zz_prog 119 105 = some (.iload_n 3, 1, [], []) := zz_fetch_of p119 rfl rfl
theorem s119_105 : zz_Run zz_prog d 119 (105, [l0, l1, l2, some (.int v)], st, k, h) = zz_Run zz_prog d 119 (106, [l0, l1, l2, some (.int v)], .int v :: st, k, h) := zz_k_num f119_105 rfl
theorem f119_106 : zz_fetch zz_prog 119 106 = some (.iaload, 1, [], []) := zz_fetch_of p119 rfl rfl
theorem s119_106 (ha : zz_isrd a = true) : zz_Run zz_prog d 119 (106, [l0, l1, l2, l3], .int v :: .ref a :: st, k, (zz_hp n I J ex)) = zz_ck (zz_in v (zz_ary n a)) (zz_Run zz_prog d 119 (107, [l0, l1, l2, l3], .int (I a v.toNatClampNeg) :: st, k, (zz_hp n I J ex))) := zz_k_iald f119_106 ha
theorem f119_107 : zz_fetch zz_prog 119 107 = some (.iadd, 1, [], []) := zz_fetch_of p119 rfl rfl
theorem s119_107 : zz_Run zz_prog d 119 (107, [l0, l1, l2, l3], .int w :: .int v :: st, k, h) = zz_Run zz_prog d 119 (108, [l0, l1, l2, l3], .int (v + w) :: st, k, h) := zz_k_num f119_107 rfl
theorem f119_108 : zz_fetch zz_prog 119 108 = some (.dup2, 1, [], []) := zz_fetch_of p119 rfl rfl
theorem s119_108 : zz_Run zz_prog d 119 (108, [l0, l1, l2, l3], .int v :: .ref a1 :: st, k, h) = zz_Run zz_prog d 119 (109, [l0, l1, l2, l3], .int v :: .ref a1 :: .int v :: .ref a1 :: st, k, h) := zz_k_num f119_108 rfl
theorem f119_109 : zz_fetch zz_prog 119 109 = some (.iaload, 1, [], []) := zz_fetch_of p119 rfl rfl
theorem s119_109 (ha : zz_isrd a = true) : zz_Run zz_prog d 119 (109, [l0, l1, l2, l3], .int v :: .ref a :: st, k, (zz_hp n I J ex)) = zz_ck (zz_in v (zz_ary n a)) (zz_Run zz_prog d 119 (110, [l0, l1, l2, l3], .int (I a v.toNatClampNeg) :: st, k, (zz_hp n I J ex))) := zz_k_iald f119_109 ha
theorem f119_110 : zz_fetch zz_prog 119 110 = some (.iconst 1, 1, [], []) := zz_fetch_of p119 rfl rfl
theorem s119_110 : zz_Run zz_prog d 119 (110, [l0, l1, l2, l3], st, k, h) = zz_Run zz_prog d 119 (111, [l0, l1, l2, l3], .int 1 :: st, k, h) := zz_k_num f119_110 rfl
theorem f119_111 : zz_fetch zz_prog 119 111 = some (.isub, 1, [], []) := zz_fetch_of p119 rfl rfl
theorem s119_111 : zz_Run zz_prog d 119 (111, [l0, l1, l2, l3], .int w :: .int v :: st, k, h) = zz_Run zz_prog d 119 (112, [l0, l1, l2, l3], .int (v - w) :: st, k, h) := zz_k_num f119_111 rfl
theorem f119_112 : zz_fetch zz_prog 119 112 = some (.iastore, 1, [], []) := zz_fetch_of p119 rfl rfl
theorem s119_112 (ha : zz_isar a = true) : zz_Run zz_prog d 119 (112, [l0, l1, l2, l3], .int w :: .int v :: .ref a :: st, k, (zz_hp n I J ex)) = zz_ck (zz_in v (zz_ary n a)) (zz_Run zz_prog d 119 (113, [l0, l1, l2, l3], st, false, (zz_hp n (zz_up I a v.toNatClampNeg w) J ex))) := zz_k_iast f119_112 ha
theorem f119_113 : zz_fetch zz_prog 119 113 = some (.iinc 3 1, 3, [], []) := zz_fetch_of p119 rfl rfl
theorem s119_113 : zz_Run zz_prog d 119 (113, [l0, l1, l2, some (.int v)], st, k, h) = zz_sl l2 (zz_Run zz_prog d 119 (116, [l0, l1, l2, some (.int (v + 1))], st, k, h)) := zz_k_st (j := 3) (u := .int (v + 1)) f119_113 rfl (fun q hq => by cases hq) rfl (show 3 < 4 by decide) (by cases l2 <;> rfl) rfl
theorem f119_116 : zz_fetch zz_prog 119 116 = some (.goto (-84), 3, [32], []) := zz_fetch_of p119 rfl rfl
theorem s119_116 : zz_Run zz_prog d 119 (116, [l0, l1, l2, l3], st, k, h) = zz_Run zz_prog d 119 (32, [l0, l1, l2, l3], st, k, h) := zz_k_num f119_116 rfl
theorem f119_119 : zz_fetch zz_prog 119 119 = some (.aload_n 0, 1, [], []) := zz_fetch_of p119 rfl rfl
theorem s119_119 : zz_Run zz_prog d 119 (119, [some (.ref a), l1, l2, l3], st, k, h) = zz_Run zz_prog d 119 (120, [some (.ref a), l1, l2, l3], .ref a :: st, k, h) := zz_k_num f119_119 rfl
theorem f119_120 : zz_fetch zz_prog 119 120 = some (.getfield 7, 3, [2, 1, 3], []) := zz_fetch_of p119 rfl rfl
theorem s119_120 : zz_Run zz_prog d 119 (120, [l0, l1, l2, l3], .ref 23 :: st, k, (zz_hp n I J ex)) = zz_Run zz_prog d 119 (123, [l0, l1, l2, l3], .ref 24 :: st, k, (zz_hp n I J ex)) := zz_k_go f119_120 rfl rfl rfl
theorem f119_123 : zz_fetch zz_prog 119 123 = some (.sipush 180, 3, [], []) := zz_fetch_of p119 rfl rfl
theorem s119_123 : zz_Run zz_prog d 119 (123, [l0, l1, l2, l3], st, k, h) = zz_Run zz_prog d 119 (126, [l0, l1, l2, l3], .int 180 :: st, k, h) := zz_k_num f119_123 (congrArg (fun u => some (126, [l0, l1, l2, l3], Value.int u :: st)) (by decide : (Int16.ofInt 180).toInt32 = 180))
theorem f119_126 : zz_fetch zz_prog 119 126 = some (.iconst 2, 1, [], []) := zz_fetch_of p119 rfl rfl
theorem s119_126 : zz_Run zz_prog d 119 (126, [l0, l1, l2, l3], st, k, h) = zz_Run zz_prog d 119 (127, [l0, l1, l2, l3], .int 2 :: st, k, h) := zz_k_num f119_126 rfl
theorem f119_127 : zz_fetch zz_prog 119 127 = some (.iastore, 1, [], []) := zz_fetch_of p119 rfl rfl
theorem s119_127 (ha : zz_isar a = true) : zz_Run zz_prog d 119 (127, [l0, l1, l2, l3], .int w :: .int v :: .ref a :: st, k, (zz_hp n I J ex)) = zz_ck (zz_in v (zz_ary n a)) (zz_Run zz_prog d 119 (128, [l0, l1, l2, l3], st, false, (zz_hp n (zz_up I a v.toNatClampNeg w) J ex))) := zz_k_iast f119_127 ha
theorem f119_128 : zz_fetch zz_prog 119 128 = some (.return_, 1, [], []) := zz_fetch_of p119 rfl rfl
theorem s119_128 : zz_Run zz_prog d 119 (128, [l0, l1, l2, l3], [], k, h) = some (.inl none, k, h) := zz_k_stop f119_128 rfl rfl rfl
end S119
section S120
variable {d n j : Nat} {l0 l1 : Option Value} {st : List Value} {k : Bool} {h : zz_H} {v w v1 v2 : Int32} {y y1 : Int64} {a a1 a2 : Nat} {b0 b1 b2 b3 b4 b5 b6 b7 b8 : Value} {I : Nat → Nat → Int32} {J : Nat → Nat → Int64} {ex : List (Nat × Nat)}
theorem p120 : zz_prog 120 = some zz_m120 := rfl
theorem e120 (g0 : Nat) : zz_Call zz_prog (d + 1) 120 [.ref g0] h = zz_Run zz_prog d 120 (0, [some (.ref g0), none], [], true, h) := rfl
theorem t120 (pc : Nat) (L : List (Option Value)) : zz_th d 120 pc a L k h = some (.inr a, k, h) := zz_th_out p120 rfl
theorem f120_0 : zz_fetch zz_prog 120 0 = some (.aload_n 0, 1, [], []) := zz_fetch_of p120 rfl rfl
theorem s120_0 : zz_Run zz_prog d 120 (0, [some (.ref a), l1], st, k, h) = zz_Run zz_prog d 120 (1, [some (.ref a), l1], .ref a :: st, k, h) := zz_k_num f120_0 rfl
theorem f120_1 : zz_fetch zz_prog 120 1 = some (.getfield 7, 3, [2, 1, 3], []) := zz_fetch_of p120 rfl rfl
theorem s120_1 : zz_Run zz_prog d 120 (1, [l0, l1], .ref 23 :: st, k, (zz_hp n I J ex)) = zz_Run zz_prog d 120 (4, [l0, l1], .ref 24 :: st, k, (zz_hp n I J ex)) := zz_k_go f120_1 rfl rfl rfl
theorem f120_4 : zz_fetch zz_prog 120 4 = some (.sipush 191, 3, [], []) := zz_fetch_of p120 rfl rfl
theorem s120_4 : zz_Run zz_prog d 120 (4, [l0, l1], st, k, h) = zz_Run zz_prog d 120 (7, [l0, l1], .int 191 :: st, k, h) := zz_k_num f120_4 (congrArg (fun u => some (7, [l0, l1], Value.int u :: st)) (by decide : (Int16.ofInt 191).toInt32 = 191))
theorem f120_7 : zz_fetch zz_prog 120 7 = some (.iaload, 1, [], []) := zz_fetch_of p120 rfl rfl
theorem s120_7 (ha : zz_isrd a = true) : zz_Run zz_prog d 120 (7, [l0, l1], .int v :: .ref a :: st, k, (zz_hp n I J ex)) = zz_ck (zz_in v (zz_ary n a)) (zz_Run zz_prog d 120 (8, [l0, l1], .int (I a v.toNatClampNeg) :: st, k, (zz_hp n I J ex))) := zz_k_iald f120_7 ha
theorem f120_8 : zz_fetch zz_prog 120 8 = some (.istore_n 1, 1, [], []) := zz_fetch_of p120 rfl rfl
theorem s120_8 : zz_Run zz_prog d 120 (8, [l0, l1], .int v :: st, k, h) = zz_sl l0 (zz_Run zz_prog d 120 (9, [l0, some (.int v)], st, k, h)) := zz_k_st (j := 1) (u := .int v) f120_8 rfl (fun q hq => by cases hq) rfl (show 1 < 2 by decide) (by cases l0 <;> rfl) rfl
theorem f120_9 : zz_fetch zz_prog 120 9 = some (.aload_n 0, 1, [], []) := zz_fetch_of p120 rfl rfl
theorem s120_9 : zz_Run zz_prog d 120 (9, [some (.ref a), l1], st, k, h) = zz_Run zz_prog d 120 (10, [some (.ref a), l1], .ref a :: st, k, h) := zz_k_num f120_9 rfl
theorem f120_10 : zz_fetch zz_prog 120 10 = some (.getfield 7, 3, [2, 1, 3], []) := zz_fetch_of p120 rfl rfl
theorem s120_10 : zz_Run zz_prog d 120 (10, [l0, l1], .ref 23 :: st, k, (zz_hp n I J ex)) = zz_Run zz_prog d 120 (13, [l0, l1], .ref 24 :: st, k, (zz_hp n I J ex)) := zz_k_go f120_10 rfl rfl rfl
theorem f120_13 : zz_fetch zz_prog 120 13 = some (.sipush 181, 3, [], []) := zz_fetch_of p120 rfl rfl
theorem s120_13 : zz_Run zz_prog d 120 (13, [l0, l1], st, k, h) = zz_Run zz_prog d 120 (16, [l0, l1], .int 181 :: st, k, h) := zz_k_num f120_13 (congrArg (fun u => some (16, [l0, l1], Value.int u :: st)) (by decide : (Int16.ofInt 181).toInt32 = 181))
theorem f120_16 : zz_fetch zz_prog 120 16 = some (.iload_n 1, 1, [], []) := zz_fetch_of p120 rfl rfl
theorem s120_16 : zz_Run zz_prog d 120 (16, [l0, some (.int v)], st, k, h) = zz_Run zz_prog d 120 (17, [l0, some (.int v)], .int v :: st, k, h) := zz_k_num f120_16 rfl
theorem f120_17 : zz_fetch zz_prog 120 17 = some (.iconst 2, 1, [], []) := zz_fetch_of p120 rfl rfl
theorem s120_17 : zz_Run zz_prog d 120 (17, [l0, l1], st, k, h) = zz_Run zz_prog d 120 (18, [l0, l1], .int 2 :: st, k, h) := zz_k_num f120_17 rfl
theorem f120_18 : zz_fetch zz_prog 120 18 = some (.aload_n 0, 1, [], []) := zz_fetch_of p120 rfl rfl
theorem s120_18 : zz_Run zz_prog d 120 (18, [some (.ref a), l1], st, k, h) = zz_Run zz_prog d 120 (19, [some (.ref a), l1], .ref a :: st, k, h) := zz_k_num f120_18 rfl
theorem f120_19 : zz_fetch zz_prog 120 19 = some (.getfield 105, 3, [2, 15, 0], []) := zz_fetch_of p120 rfl rfl
theorem s120_19 : zz_Run zz_prog d 120 (19, [l0, l1], .ref 23 :: st, k, (zz_hp n I J ex)) = zz_Run zz_prog d 120 (22, [l0, l1], .int (I 23 15) :: st, k, (zz_hp n I J ex)) := zz_k_go f120_19 rfl rfl rfl
theorem f120_22 : zz_fetch zz_prog 120 22 = some (.imul, 1, [], []) := zz_fetch_of p120 rfl rfl
theorem s120_22 : zz_Run zz_prog d 120 (22, [l0, l1], .int w :: .int v :: st, k, h) = zz_Run zz_prog d 120 (23, [l0, l1], .int (v * w) :: st, k, h) := zz_k_num f120_22 rfl
theorem f120_23 : zz_fetch zz_prog 120 23 = some (.if_icmp .ne 7, 3, [30], []) := zz_fetch_of p120 rfl rfl
theorem s120_23 : zz_Run zz_prog d 120 (23, [l0, l1], .int w :: .int v :: st, k, h) = if ¬ v = w then zz_Run zz_prog d 120 (30, [l0, l1], st, k, h) else zz_Run zz_prog d 120 (26, [l0, l1], st, k, h) := zz_k_br (¬ v = w) rfl (zz_k_num f120_23 rfl)
theorem f120_26 : zz_fetch zz_prog 120 26 = some (.iconst 0, 1, [], []) := zz_fetch_of p120 rfl rfl
theorem s120_26 : zz_Run zz_prog d 120 (26, [l0, l1], st, k, h) = zz_Run zz_prog d 120 (27, [l0, l1], .int 0 :: st, k, h) := zz_k_num f120_26 rfl
theorem f120_27 : zz_fetch zz_prog 120 27 = some (.goto 25, 3, [52], []) := zz_fetch_of p120 rfl rfl
theorem s120_27 : zz_Run zz_prog d 120 (27, [l0, l1], st, k, h) = zz_Run zz_prog d 120 (52, [l0, l1], st, k, h) := zz_k_num f120_27 rfl
theorem f120_30 : zz_fetch zz_prog 120 30 = some (.iload_n 1, 1, [], []) := zz_fetch_of p120 rfl rfl
theorem s120_30 : zz_Run zz_prog d 120 (30, [l0, some (.int v)], st, k, h) = zz_Run zz_prog d 120 (31, [l0, some (.int v)], .int v :: st, k, h) := zz_k_num f120_30 rfl
theorem f120_31 : zz_fetch zz_prog 120 31 = some (.aload_n 0, 1, [], []) := zz_fetch_of p120 rfl rfl
theorem s120_31 : zz_Run zz_prog d 120 (31, [some (.ref a), l1], st, k, h) = zz_Run zz_prog d 120 (32, [some (.ref a), l1], .ref a :: st, k, h) := zz_k_num f120_31 rfl
theorem f120_32 : zz_fetch zz_prog 120 32 = some (.getfield 105, 3, [2, 15, 0], []) := zz_fetch_of p120 rfl rfl
theorem s120_32 : zz_Run zz_prog d 120 (32, [l0, l1], .ref 23 :: st, k, (zz_hp n I J ex)) = zz_Run zz_prog d 120 (35, [l0, l1], .int (I 23 15) :: st, k, (zz_hp n I J ex)) := zz_k_go f120_32 rfl rfl rfl
theorem f120_35 : zz_fetch zz_prog 120 35 = some (.if_icmp .ge 7, 3, [42], []) := zz_fetch_of p120 rfl rfl
theorem s120_35 : zz_Run zz_prog d 120 (35, [l0, l1], .int w :: .int v :: st, k, h) = if w ≤ v then zz_Run zz_prog d 120 (42, [l0, l1], st, k, h) else zz_Run zz_prog d 120 (38, [l0, l1], st, k, h) := zz_k_br (w ≤ v) rfl (zz_k_num f120_35 rfl)
theorem f120_38 : zz_fetch zz_prog 120 38 = some (.iload_n 1, 1, [], []) := zz_fetch_of p120 rfl rfl
theorem s120_38 : zz_Run zz_prog d 120 (38, [l0, some (.int v)], st, k, h) = zz_Run zz_prog d 120 (39, [l0, some (.int v)], .int v :: st, k, h) := zz_k_num f120_38 rfl
theorem f120_39 : zz_fetch zz_prog 120 39 = some (.goto 13, 3, [52], []) := zz_fetch_of p120 rfl rfl
theorem s120_39 : zz_Run zz_prog d 120 (39, [l0, l1], st, k, h) = zz_Run zz_prog d 120 (52, [l0, l1], st, k, h) := zz_k_num f120_39 rfl
theorem f120_42 : zz_fetch zz_prog 120 42 = some (.iconst 2, 1, [], []) := zz_fetch_of p120 rfl rfl
theorem s120_42 : zz_Run zz_prog d 120 (42, [l0, l1], st, k, h) = zz_Run zz_prog d 120 (43, [l0, l1], .int 2 :: st, k, h) := zz_k_num f120_42 rfl
theorem f120_43 : zz_fetch zz_prog 120 43 = some (.aload_n 0, 1, [], []) := zz_fetch_of p120 rfl rfl
theorem s120_43 : zz_Run zz_prog d 120 (43, [some (.ref a), l1], st, k, h) = zz_Run zz_prog d 120 (44, [some (.ref a), l1], .ref a :: st, k, h) := zz_k_num f120_43 rfl
theorem f120_44 : zz_fetch zz_prog 120 44 = some (.getfield 105, 3, [2, 15, 0], []) := zz_fetch_of p120 rfl rfl
theorem s120_44 : zz_Run zz_prog d 120 (44, [l0, l1], .ref 23 :: st, k, (zz_hp n I J ex)) = zz_Run zz_prog d 120 (47, [l0, l1], .int (I 23 15) :: st, k, (zz_hp n I J ex)) := zz_k_go f120_44 rfl rfl rfl
theorem f120_47 : zz_fetch zz_prog 120 47 = some (.imul, 1, [], []) := zz_fetch_of p120 rfl rfl
theorem s120_47 : zz_Run zz_prog d 120 (47, [l0, l1], .int w :: .int v :: st, k, h) = zz_Run zz_prog d 120 (48, [l0, l1], .int (v * w) :: st, k, h) := zz_k_num f120_47 rfl
theorem f120_48 : zz_fetch zz_prog 120 48 = some (.iconst 1, 1, [], []) := zz_fetch_of p120 rfl rfl
theorem s120_48 : zz_Run zz_prog d 120 (48, [l0, l1], st, k, h) = zz_Run zz_prog d 120 (49, [l0, l1], .int 1 :: st, k, h) := zz_k_num f120_48 rfl
theorem f120_49 : zz_fetch zz_prog 120 49 = some (.isub, 1, [], []) := zz_fetch_of p120 rfl rfl
theorem s120_49 : zz_Run zz_prog d 120 (49, [l0, l1], .int w :: .int v :: st, k, h) = zz_Run zz_prog d 120 (50, [l0, l1], .int (v - w) :: st, k, h) := zz_k_num f120_49 rfl
theorem f120_50 : zz_fetch zz_prog 120 50 = some (.iload_n 1, 1, [], []) := zz_fetch_of p120 rfl rfl
theorem s120_50 : zz_Run zz_prog d 120 (50, [l0, some (.int v)], st, k, h) = zz_Run zz_prog d 120 (51, [l0, some (.int v)], .int v :: st, k, h) := zz_k_num f120_50 rfl
theorem f120_51 : zz_fetch zz_prog 120 51 = some (.isub, 1, [], []) := zz_fetch_of p120 rfl rfl
theorem s120_51 : zz_Run zz_prog d 120 (51, [l0, l1], .int w :: .int v :: st, k, h) = zz_Run zz_prog d 120 (52, [l0, l1], .int (v - w) :: st, k, h) := zz_k_num f120_51 rfl
theorem f120_52 : zz_fetch zz_prog 120 52 = some (.iastore, 1, [], []) := zz_fetch_of p120 rfl rfl
theorem s120_52 (ha : zz_isar a = true) : zz_Run zz_prog d 120 (52, [l0, l1], .int w :: .int v :: .ref a :: st, k, (zz_hp n I J ex)) = zz_ck (zz_in v (zz_ary n a)) (zz_Run zz_prog d 120 (53, [l0, l1], st, false, (zz_hp n (zz_up I a v.toNatClampNeg w) J ex))) := zz_k_iast f120_52 ha
theorem f120_53 : zz_fetch zz_prog 120 53 = some (.aload_n 0, 1, [], []) := zz_fetch_of p120 rfl rfl
theorem s120_53 : zz_Run zz_prog d 120 (53, [some (.ref a), l1], st, k, h) = zz_Run zz_prog d 120 (54, [some (.ref a), l1], .ref a :: st, k, h) := zz_k_num f120_53 rfl
theorem f120_54 : zz_fetch zz_prog 120 54 = some (.getfield 7, 3, [2, 1, 3], []) := zz_fetch_of p120 rfl rfl
theorem s120_54 : zz_Run zz_prog d 120 (54, [l0, l1], .ref 23 :: st, k, (zz_hp n I J ex)) = zz_Run zz_prog d 120 (57, [l0, l1], .ref 24 :: st, k, (zz_hp n I J ex)) := zz_k_go f120_54 rfl rfl rfl
theorem f120_57 : zz_fetch zz_prog 120 57 = some (.sipush 180, 3, [], []) := zz_fetch_of p120 rfl rfl
theorem s120_57 : zz_Run zz_prog d 120 (57, [l0, l1], st, k, h) = zz_Run zz_prog d 120 (60, [l0, l1], .int 180 :: st, k, h) := zz_k_num f120_57 (congrArg (fun u => some (60, [l0, l1], Value.int u :: st)) (by decide : (Int16.ofInt 180).toInt32 = 180))
theorem f120_60 : zz_fetch zz_prog 120 60 = some (.iload_n 1, 1, [], []) := zz_fetch_of p120 rfl rfl
theorem s120_60 : zz_Run zz_prog d 120 (60, [l0, some (.int v)], st, k, h) = zz_Run zz_prog d 120 (61, [l0, some (.int v)], .int v :: st, k, h) := zz_k_num f120_60 rfl
theorem f120_61 : zz_fetch zz_prog 120 61 = some (.iconst 2, 1, [], []) := zz_fetch_of p120 rfl rfl
theorem s120_61 : zz_Run zz_prog d 120 (61, [l0, l1], st, k, h) = zz_Run zz_prog d 120 (62, [l0, l1], .int 2 :: st, k, h) := zz_k_num f120_61 rfl
theorem f120_62 : zz_fetch zz_prog 120 62 = some (.aload_n 0, 1, [], []) := zz_fetch_of p120 rfl rfl
theorem s120_62 : zz_Run zz_prog d 120 (62, [some (.ref a), l1], st, k, h) = zz_Run zz_prog d 120 (63, [some (.ref a), l1], .ref a :: st, k, h) := zz_k_num f120_62 rfl
theorem f120_63 : zz_fetch zz_prog 120 63 = some (.getfield 105, 3, [2, 15, 0], []) := zz_fetch_of p120 rfl rfl
theorem s120_63 : zz_Run zz_prog d 120 (63, [l0, l1], .ref 23 :: st, k, (zz_hp n I J ex)) = zz_Run zz_prog d 120 (66, [l0, l1], .int (I 23 15) :: st, k, (zz_hp n I J ex)) := zz_k_go f120_63 rfl rfl rfl
theorem f120_66 : zz_fetch zz_prog 120 66 = some (.imul, 1, [], []) := zz_fetch_of p120 rfl rfl
theorem s120_66 : zz_Run zz_prog d 120 (66, [l0, l1], .int w :: .int v :: st, k, h) = zz_Run zz_prog d 120 (67, [l0, l1], .int (v * w) :: st, k, h) := zz_k_num f120_66 rfl
theorem f120_67 : zz_fetch zz_prog 120 67 = some (.if_icmp .ne 7, 3, [74], []) := zz_fetch_of p120 rfl rfl
theorem s120_67 : zz_Run zz_prog d 120 (67, [l0, l1], .int w :: .int v :: st, k, h) = if ¬ v = w then zz_Run zz_prog d 120 (74, [l0, l1], st, k, h) else zz_Run zz_prog d 120 (70, [l0, l1], st, k, h) := zz_k_br (¬ v = w) rfl (zz_k_num f120_67 rfl)
theorem f120_70 : zz_fetch zz_prog 120 70 = some (.iconst 3, 1, [], []) := zz_fetch_of p120 rfl rfl
theorem s120_70 : zz_Run zz_prog d 120 (70, [l0, l1], st, k, h) = zz_Run zz_prog d 120 (71, [l0, l1], .int 3 :: st, k, h) := zz_k_num f120_70 rfl
theorem f120_71 : zz_fetch zz_prog 120 71 = some (.goto 4, 3, [75], []) := zz_fetch_of p120 rfl rfl
theorem s120_71 : zz_Run zz_prog d 120 (71, [l0, l1], st, k, h) = zz_Run zz_prog d 120 (75, [l0, l1], st, k, h) := zz_k_num f120_71 rfl
theorem f120_74 : zz_fetch zz_prog 120 74 = some (.iconst 1, 1, [], []) := zz_fetch_of p120 rfl rfl
theorem s120_74 : zz_Run zz_prog d 120 (74, [l0, l1], st, k, h) = zz_Run zz_prog d 120 (75, [l0, l1], .int 1 :: st, k, h) := zz_k_num f120_74 rfl
theorem f120_75 : zz_fetch zz_prog 120 75 = some (.iastore, 1, [], []) := zz_fetch_of p120 rfl rfl
theorem s120_75 (ha : zz_isar a = true) : zz_Run zz_prog d 120 (75, [l0, l1], .int w :: .int v :: .ref a :: st, k, (zz_hp n I J ex)) = zz_ck (zz_in v (zz_ary n a)) (zz_Run zz_prog d 120 (76, [l0, l1], st, false, (zz_hp n (zz_up I a v.toNatClampNeg w) J ex))) := zz_k_iast f120_75 ha
theorem f120_76 : zz_fetch zz_prog 120 76 = some (.return_, 1, [], []) := zz_fetch_of p120 rfl rfl
theorem s120_76 : zz_Run zz_prog d 120 (76, [l0, l1], [], k, h) = some (.inl none, k, h) := zz_k_stop f120_76 rfl rfl rfl
end S120
section S121
variable {d n j : Nat} {l0 l1 l2 l3 l4 l5 l6 : Option Value} {st : List Value} {k : Bool} {h : zz_H} {v w v1 v2 : Int32} {y y1 : Int64} {a a1 a2 : Nat} {b0 b1 b2 b3 b4 b5 b6 b7 b8 : Value} {I : Nat → Nat → Int32} {J : Nat → Nat → Int64} {ex : List (Nat × Nat)}
theorem p121 : zz_prog 121 = some zz_m121 := rfl
theorem e121 (g0 : Nat) (g1 : Int32) (g2 : Int32) : zz_Call zz_prog (d + 1) 121 [.ref g0, .int g1, .int g2] h = zz_Run zz_prog d 121 (0, [some (.ref g0), some (.int g1), some (.int g2), none, none, none, none], [], true, h) := rfl
theorem t121 (pc : Nat) (L : List (Option Value)) : zz_th d 121 pc a L k h = some (.inr a, k, h) := zz_th_out p121 rfl
theorem f121_0 : zz_fetch zz_prog 121 0 = some (.iload_n 1, 1, [], []) := zz_fetch_of p121 rfl rfl
theorem s121_0 : zz_Run zz_prog d 121 (0, [l0, some (.int v), l2, l3, l4, l5, l6], st, k, h) = zz_Run zz_prog d 121 (1, [l0, some (.int v), l2, l3, l4, l5, l6], .int v :: st, k, h) := zz_k_num f121_0 rfl
theorem f121_1 : zz_fetch zz_prog 121 1 = some (.iload_n 2, 1, [], []) := zz_fetch_of p121 rfl rfl
theorem s121_1 : zz_Run zz_prog d 121 (1, [l0, l1, some (.int v), l3, l4, l5, l6], st, k, h) = zz_Run zz_prog d 121 (2, [l0, l1, some (.int v), l3, l4, l5, l6], .int v :: st, k, h) := zz_k_num f121_1 rfl
theorem f121_2 : zz_fetch zz_prog 121 2 = some (.invokestatic 152, 3, [0, 112, 2], []) := zz_fetch_of p121 rfl rfl
theorem s121_2 : zz_Run zz_prog d 121 (2, [l0, l1, l2, l3, l4, l5, l6], [b0, b1], k, h) = zz_ret (zz_Call zz_prog d 112 [b1, b0] h) (fun v k' h' => zz_Run zz_prog d 121 (5, [l0, l1, l2, l3, l4, l5, l6], v.toList ++ [], k && k', h')) (fun a k' h' => zz_th d 121 2 a [l0, l1, l2, l3, l4, l5, l6] (k && k') h') := zz_k_call f121_2 rfl rfl rfl
theorem f121_5 : zz_fetch zz_prog 121 5 = some (.ifCond .ne 7, 3, [12], []) := zz_fetch_of p121 rfl rfl
theorem s121_5 : zz_Run zz_prog d 121 (5, [l0, l1, l2, l3, l4, l5, l6], .int v :: st, k, h) = if ¬ v = 0 then zz_Run zz_prog d 121 (12, [l0, l1, l2, l3, l4, l5, l6], st, k, h) else zz_Run zz_prog d 121 (8, [l0, l1, l2, l3, l4, l5, l6], st, k, h) := zz_k_br (¬ v = 0) rfl (zz_k_num f121_5 rfl)
theorem f121_8 : zz_fetch zz_prog 121 8 = some (.iconst 1, 1, [], []) := zz_fetch_of p121 rfl rfl
theorem s121_8 : zz_Run zz_prog d 121 (8, [l0, l1, l2, l3, l4, l5, l6], st, k, h) = zz_Run zz_prog d 121 (9, [l0, l1, l2, l3, l4, l5, l6], .int 1 :: st, k, h) := zz_k_num f121_8 rfl
theorem f121_9 : zz_fetch zz_prog 121 9 = some (.goto 4, 3, [13], []) := zz_fetch_of p121 rfl rfl
theorem s121_9 : zz_Run zz_prog d 121 (9, [l0, l1, l2, l3, l4, l5, l6], st, k, h) = zz_Run zz_prog d 121 (13, [l0, l1, l2, l3, l4, l5, l6], st, k, h) := zz_k_num f121_9 rfl
theorem f121_12 : zz_fetch zz_prog 121 12 = some (.iconst 0, 1, [], []) := zz_fetch_of p121 rfl rfl
theorem s121_12 : zz_Run zz_prog d 121 (12, [l0, l1, l2, l3, l4, l5, l6], st, k, h) = zz_Run zz_prog d 121 (13, [l0, l1, l2, l3, l4, l5, l6], .int 0 :: st, k, h) := zz_k_num f121_12 rfl
theorem f121_13 : zz_fetch zz_prog 121 13 = some (.istore_n 3, 1, [], []) := zz_fetch_of p121 rfl rfl
theorem s121_13 : zz_Run zz_prog d 121 (13, [l0, l1, l2, l3, l4, l5, l6], .int v :: st, k, h) = zz_sl l2 (zz_Run zz_prog d 121 (14, [l0, l1, l2, some (.int v), l4, l5, l6], st, k, h)) := zz_k_st (j := 3) (u := .int v) f121_13 rfl (fun q hq => by cases hq) rfl (show 3 < 7 by decide) (by cases l2 <;> rfl) rfl
theorem f121_14 : zz_fetch zz_prog 121 14 = some (.iload_n 3, 1, [], []) := zz_fetch_of p121 rfl rfl
theorem s121_14 : zz_Run zz_prog d 121 (14, [l0, l1, l2, some (.int v), l4, l5, l6], st, k, h) = zz_Run zz_prog d 121 (15, [l0, l1, l2, some (.int v), l4, l5, l6], .int v :: st, k, h) := zz_k_num f121_14 rfl
theorem f121_15 : zz_fetch zz_prog 121 15 = some (.ifCond .ne 15, 3, [30], []) := zz_fetch_of p121 rfl rfl
theorem s121_15 : zz_Run zz_prog d 121 (15, [l0, l1, l2, l3, l4, l5, l6], .int v :: st, k, h) = if ¬ v = 0 then zz_Run zz_prog d 121 (30, [l0, l1, l2, l3, l4, l5, l6], st, k, h) else zz_Run zz_prog d 121 (18, [l0, l1, l2, l3, l4, l5, l6], st, k, h) := zz_k_br (¬ v = 0) rfl (zz_k_num f121_15 rfl)
theorem f121_18 : zz_fetch zz_prog 121 18 = some (.aload_n 0, 1, [], []) := zz_fetch_of p121 rfl rfl
theorem s121_18 : zz_Run zz_prog d 121 (18, [some (.ref a), l1, l2, l3, l4, l5, l6], st, k, h) = zz_Run zz_prog d 121 (19, [some (.ref a), l1, l2, l3, l4, l5, l6], .ref a :: st, k, h) := zz_k_num f121_18 rfl
theorem f121_19 : zz_fetch zz_prog 121 19 = some (.iload_n 1, 1, [], []) := zz_fetch_of p121 rfl rfl
theorem s121_19 : zz_Run zz_prog d 121 (19, [l0, some (.int v), l2, l3, l4, l5, l6], st, k, h) = zz_Run zz_prog d 121 (20, [l0, some (.int v), l2, l3, l4, l5, l6], .int v :: st, k, h) := zz_k_num f121_19 rfl
theorem f121_20 : zz_fetch zz_prog 121 20 = some (.invokevirtual 155, 3, [0, 111, 2, 2], []) := zz_fetch_of p121 rfl rfl
theorem s121_20 : zz_Run zz_prog d 121 (20, [l0, l1, l2, l3, l4, l5, l6], [b0, .ref 23], k, (zz_hp n I J ex)) = zz_ret (zz_Call zz_prog d 111 [.ref 23, b0] (zz_hp n I J ex)) (fun v k' h' => zz_Run zz_prog d 121 (23, [l0, l1, l2, l3, l4, l5, l6], v.toList ++ [], k && k', h')) (fun a k' h' => zz_th d 121 20 a [l0, l1, l2, l3, l4, l5, l6] (k && k') h') := zz_k_call f121_20 rfl rfl rfl
theorem f121_23 : zz_fetch zz_prog 121 23 = some (.ifCond .ne 7, 3, [30], []) := zz_fetch_of p121 rfl rfl
theorem s121_23 : zz_Run zz_prog d 121 (23, [l0, l1, l2, l3, l4, l5, l6], .int v :: st, k, h) = if ¬ v = 0 then zz_Run zz_prog d 121 (30, [l0, l1, l2, l3, l4, l5, l6], st, k, h) else zz_Run zz_prog d 121 (26, [l0, l1, l2, l3, l4, l5, l6], st, k, h) := zz_k_br (¬ v = 0) rfl (zz_k_num f121_23 rfl)
theorem f121_26 : zz_fetch zz_prog 121 26 = some (.iconst 1, 1, [], []) := zz_fetch_of p121 rfl rfl
theorem s121_26 : zz_Run zz_prog d 121 (26, [l0, l1, l2, l3, l4, l5, l6], st, k, h) = zz_Run zz_prog d 121 (27, [l0, l1, l2, l3, l4, l5, l6], .int 1 :: st, k, h) := zz_k_num f121_26 rfl
theorem f121_27 : zz_fetch zz_prog 121 27 = some (.goto 4, 3, [31], []) := zz_fetch_of p121 rfl rfl
theorem s121_27 : zz_Run zz_prog d 121 (27, [l0, l1, l2, l3, l4, l5, l6], st, k, h) = zz_Run zz_prog d 121 (31, [l0, l1, l2, l3, l4, l5, l6], st, k, h) := zz_k_num f121_27 rfl
theorem f121_30 : zz_fetch zz_prog 121 30 = some (.iconst 0, 1, [], []) := zz_fetch_of p121 rfl rfl
theorem s121_30 : zz_Run zz_prog d 121 (30, [l0, l1, l2, l3, l4, l5, l6], st, k, h) = zz_Run zz_prog d 121 (31, [l0, l1, l2, l3, l4, l5, l6], .int 0 :: st, k, h) := zz_k_num f121_30 rfl
theorem f121_31 : zz_fetch zz_prog 121 31 = some (.istore 4, 2, [], []) := zz_fetch_of p121 rfl rfl
theorem s121_31 : zz_Run zz_prog d 121 (31, [l0, l1, l2, l3, l4, l5, l6], .int v :: st, k, h) = zz_sl l3 (zz_Run zz_prog d 121 (33, [l0, l1, l2, l3, some (.int v), l5, l6], st, k, h)) := zz_k_st (j := 4) (u := .int v) f121_31 rfl (fun q hq => by cases hq) rfl (show 4 < 7 by decide) (by cases l3 <;> rfl) rfl
theorem f121_33 : zz_fetch zz_prog 121 33 = some (.aload_n 0, 1, [], []) := zz_fetch_of p121 rfl rfl
theorem s121_33 : zz_Run zz_prog d 121 (33, [some (.ref a), l1, l2, l3, l4, l5, l6], st, k, h) = zz_Run zz_prog d 121 (34, [some (.ref a), l1, l2, l3, l4, l5, l6], .ref a :: st, k, h) := zz_k_num f121_33 rfl
theorem f121_34 : zz_fetch zz_prog 121 34 = some (.iload_n 3, 1, [], []) := zz_fetch_of p121 rfl rfl
theorem s121_34 : zz_Run zz_prog d 121 (34, [l0, l1, l2, some (.int v), l4, l5, l6], st, k, h) = zz_Run zz_prog d 121 (35, [l0, l1, l2, some (.int v), l4, l5, l6], .int v :: st, k, h) := zz_k_num f121_34 rfl
theorem f121_35 : zz_fetch zz_prog 121 35 = some (.iload 4, 2, [], []) := zz_fetch_of p121 rfl rfl
theorem s121_35 : zz_Run zz_prog d 121 (35, [l0, l1, l2, l3, some (.int v), l5, l6], st, k, h) = zz_Run zz_prog d 121 (37, [l0, l1, l2, l3, some (.int v), l5, l6], .int v :: st, k, h) := zz_k_num f121_35 rfl
theorem f121_37 : zz_fetch zz_prog 121 37 = some (.iload_n 3, 1, [], []) := zz_fetch_of p121 rfl rfl
theorem s121_37 : zz_Run zz_prog d 121 (37, [l0, l1, l2, some (.int v), l4, l5, l6], st, k, h) = zz_Run zz_prog d 121 (38, [l0, l1, l2, some (.int v), l4, l5, l6], .int v :: st, k, h) := zz_k_num f121_37 rfl
theorem f121_38 : zz_fetch zz_prog 121 38 = some (.ifCond .ne 21, 3, [59], []) := zz_fetch_of p121 rfl rfl
theorem s121_38 : zz_Run zz_prog d 121 (38, [l0, l1, l2, l3, l4, l5, l6], .int v :: st, k, h) = if ¬ v = 0 then zz_Run zz_prog d 121 (59, [l0, l1, l2, l3, l4, l5, l6], st, k, h) else zz_Run zz_prog d 121 (41, [l0, l1, l2, l3, l4, l5, l6], st, k, h) := zz_k_br (¬ v = 0) rfl (zz_k_num f121_38 rfl)
theorem f121_41 : zz_fetch zz_prog 121 41 = some (.iload 4, 2, [], []) := zz_fetch_of p121 rfl rfl
theorem s121_41 : zz_Run zz_prog d 121 (41, [l0, l1, l2, l3, some (.int v), l5, l6], st, k, h) = zz_Run zz_prog d 121 (43, [l0, l1, l2, l3, some (.int v), l5, l6], .int v :: st, k, h) := zz_k_num f121_41 rfl
theorem f121_43 : zz_fetch zz_prog 121 43 = some (.ifCond .ne 16, 3, [59], []) := zz_fetch_of p121 rfl rfl
theorem s121_43 : zz_Run zz_prog d 121 (43, [l0, l1, l2, l3, l4, l5, l6], .int v :: st, k, h) = if ¬ v = 0 then zz_Run zz_prog d 121 (59, [l0, l1, l2, l3, l4, l5, l6], st, k, h) else zz_Run zz_prog d 121 (46, [l0, l1, l2, l3, l4, l5, l6], st, k, h) := zz_k_br (¬ v = 0) rfl (zz_k_num f121_43 rfl)
theorem f121_46 : zz_fetch zz_prog 121 46 = some (.aload_n 0, 1, [], []) := zz_fetch_of p121 rfl rfl
theorem s121_46 : zz_Run zz_prog d 121 (46, [some (.ref a), l1, l2, l3, l4, l5, l6], st, k, h) = zz_Run zz_prog d 121 (47, [some (.ref a), l1, l2, l3, l4, l5, l6], .ref a :: st, k, h) := zz_k_num f121_46 rfl
theorem f121_47 : zz_fetch zz_prog 121 47 = some (.iload_n 1, 1, [], []) := zz_fetch_of p121 rfl rfl
theorem s121_47 : zz_Run zz_prog d 121 (47, [l0, some (.int v), l2, l3, l4, l5, l6], st, k, h) = zz_Run zz_prog d 121 (48, [l0, some (.int v), l2, l3, l4, l5, l6], .int v :: st, k, h) := zz_k_num f121_47 rfl
theorem f121_48 : zz_fetch zz_prog 121 48 = some (.iload_n 2, 1, [], []) := zz_fetch_of p121 rfl rfl
theorem s121_48 : zz_Run zz_prog d 121 (48, [l0, l1, some (.int v), l3, l4, l5, l6], st, k, h) = zz_Run zz_prog d 121 (49, [l0, l1, some (.int v), l3, l4, l5, l6], .int v :: st, k, h) := zz_k_num f121_48 rfl
theorem f121_49 : zz_fetch zz_prog 121 49 = some (.invokevirtual 149, 3, [0, 107, 3, 2], []) := zz_fetch_of p121 rfl rfl
theorem s121_49 : zz_Run zz_prog d 121 (49, [l0, l1, l2, l3, l4, l5, l6], [b0, b1, .ref 23, b3, b4, b5], k, (zz_hp n I J ex)) = zz_ret (zz_Call zz_prog d 107 [.ref 23, b1, b0] (zz_hp n I J ex)) (fun v k' h' => zz_Run zz_prog d 121 (52, [l0, l1, l2, l3, l4, l5, l6], v.toList ++ [b3, b4, b5], k && k', h')) (fun a k' h' => zz_th d 121 49 a [l0, l1, l2, l3, l4, l5, l6] (k && k') h') := zz_k_call f121_49 rfl rfl rfl
theorem f121_52 : zz_fetch zz_prog 121 52 = some (.ifCond .ne 7, 3, [59], []) := zz_fetch_of p121 rfl rfl
theorem s121_52 : zz_Run zz_prog d 121 (52, [l0, l1, l2, l3, l4, l5, l6], .int v :: st, k, h) = if ¬ v = 0 then zz_Run zz_prog d 121 (59, [l0, l1, l2, l3, l4, l5, l6], st, k, h) else zz_Run zz_prog d 121 (55, [l0, l1, l2, l3, l4, l5, l6], st, k, h) := zz_k_br (¬ v = 0) rfl (zz_k_num f121_52 rfl)
theorem f121_55 : zz_fetch zz_prog 121 55 = some (.iconst 1, 1, [], []) := zz_fetch_of p121 rfl rfl
theorem s121_55 : zz_Run zz_prog d 121 (55, [l0, l1, l2, l3, l4, l5, l6], st, k, h) = zz_Run zz_prog d 121 (56, [l0, l1, l2, l3, l4, l5, l6], .int 1 :: st, k, h) := zz_k_num f121_55 rfl
theorem f121_56 : zz_fetch zz_prog 121 56 = some (.goto 4, 3, [60], []) := zz_fetch_of p121 rfl rfl
theorem s121_56 : zz_Run zz_prog d 121 (56, [l0, l1, l2, l3, l4, l5, l6], st, k, h) = zz_Run zz_prog d 121 (60, [l0, l1, l2, l3, l4, l5, l6], st, k, h) := zz_k_num f121_56 rfl
theorem f121_59 : zz_fetch zz_prog 121 59 = some (.iconst 0, 1, [], []) := zz_fetch_of p121 rfl rfl
theorem s121_59 : zz_Run zz_prog d 121 (59, [l0, l1, l2, l3, l4, l5, l6], st, k, h) = zz_Run zz_prog d 121 (60, [l0, l1, l2, l3, l4, l5, l6], .int 0 :: st, k, h) := zz_k_num f121_59 rfl
theorem f121_60 : zz_fetch zz_prog 121 60 = some (.invokevirtual 89, 3, [0, 95, 4, 2], []) := zz_fetch_of p121 rfl rfl
theorem s121_60 : zz_Run zz_prog d 121 (60, [l0, l1, l2, l3, l4, l5, l6], [b0, b1, b2, .ref 23], k, (zz_hp n I J ex)) = zz_ret (zz_Call zz_prog d 95 [.ref 23, b2, b1, b0] (zz_hp n I J ex)) (fun v k' h' => zz_Run zz_prog d 121 (63, [l0, l1, l2, l3, l4, l5, l6], v.toList ++ [], k && k', h')) (fun a k' h' => zz_th d 121 60 a [l0, l1, l2, l3, l4, l5, l6] (k && k') h') := zz_k_call f121_60 rfl rfl rfl
theorem f121_63 : zz_fetch zz_prog 121 63 = some (.ifCond .eq 5, 3, [68], []) := zz_fetch_of p121 rfl rfl
theorem s121_63 : zz_Run zz_prog d 121 (63, [l0, l1, l2, l3, l4, l5, l6], .int v :: st, k, h) = if v = 0 then zz_Run zz_prog d 121 (68, [l0, l1, l2, l3, l4, l5, l6], st, k, h) else zz_Run zz_prog d 121 (66, [l0, l1, l2, l3, l4, l5, l6], st, k, h) := zz_k_br (v = 0) rfl (zz_k_num f121_63 rfl)
theorem f121_66 : zz_fetch zz_prog 121 66 = some (.iconst 0, 1, [], []) := zz_fetch_of p121 rfl rfl
theorem s121_66 : zz_Run zz_prog d 121 (66, [l0, l1, l2, l3, l4, l5, l6], st, k, h) = zz_Run zz_prog d 121 (67, [l0, l1, l2, l3, l4, l5, l6], .int 0 :: st, k, h) := zz_k_num f121_66 rfl
theorem f121_67 : zz_fetch zz_prog 121 67 = some (.ireturn, 1, [0], []) := zz_fetch_of p121 rfl rfl
theorem s121_67 : zz_Run zz_prog d 121 (67, [l0, l1, l2, l3, l4, l5, l6], [.int v], k, h) = some (.inl (some (.int v)), k, h) := zz_k_stop f121_67 rfl rfl rfl
theorem f121_68 : zz_fetch zz_prog 121 68 = some (.aload_n 0, 1, [], []) := zz_fetch_of p121 rfl rfl
theorem s121_68 : zz_Run zz_prog d 121 (68, [some (.ref a), l1, l2, l3, l4, l5, l6], st, k, h) = zz_Run zz_prog d 121 (69, [some (.ref a), l1, l2, l3, l4, l5, l6], .ref a :: st, k, h) := zz_k_num f121_68 rfl
theorem f121_69 : zz_fetch zz_prog 121 69 = some (.invokevirtual 158, 3, [0, 117, 1, 2], []) := zz_fetch_of p121 rfl rfl
theorem s121_69 : zz_Run zz_prog d 121 (69, [l0, l1, l2, l3, l4, l5, l6], [.ref 23], k, (zz_hp n I J ex)) = zz_ret (zz_Call zz_prog d 117 [.ref 23] (zz_hp n I J ex)) (fun v k' h' => zz_Run zz_prog d 121 (72, [l0, l1, l2, l3, l4, l5, l6], v.toList ++ [], k && k', h')) (fun a k' h' => zz_th d 121 69 a [l0, l1, l2, l3, l4, l5, l6] (k && k') h') := zz_k_call f121_69 rfl rfl rfl
theorem f121_72 : zz_fetch zz_prog 121 72 = some (.aload_n 0, 1, [], []) := zz_fetch_of p121 rfl rfl
theorem s121_72 : zz_Run zz_prog d 121 (72, [some (.ref a), l1, l2, l3, l4, l5, l6], st, k, h) = zz_Run zz_prog d 121 (73, [some (.ref a), l1, l2, l3, l4, l5, l6], .ref a :: st, k, h) := zz_k_num f121_72 rfl
theorem f121_73 : zz_fetch zz_prog 121 73 = some (.getfield 7, 3, [2, 1, 3], []) := zz_fetch_of p121 rfl rfl
theorem s121_73 : zz_Run zz_prog d 121 (73, [l0, l1, l2, l3, l4, l5, l6], .ref 23 :: st, k, (zz_hp n I J ex)) = zz_Run zz_prog d 121 (76, [l0, l1, l2, l3, l4, l5, l6], .ref 24 :: st, k, (zz_hp n I J ex)) := zz_k_go f121_73 rfl rfl rfl
theorem f121_76 : zz_fetch zz_prog 121 76 = some (.sipush 181, 3, [], []) := zz_fetch_of p121 rfl rfl
theorem s121_76 : zz_Run zz_prog d 121 (76, [l0, l1, l2, l3, l4, l5, l6], st, k, h) = zz_Run zz_prog d 121 (79, [l0, l1, l2, l3, l4, l5, l6], .int 181 :: st, k, h) := zz_k_num f121_76 (congrArg (fun u => some (79, [l0, l1, l2, l3, l4, l5, l6], Value.int u :: st)) (by decide : (Int16.ofInt 181).toInt32 = 181))
theorem f121_79 : zz_fetch zz_prog 121 79 = some (.iaload, 1, [], []) := zz_fetch_of p121 rfl rfl
theorem s121_79 (ha : zz_isrd a = true) : zz_Run zz_prog d 121 (79, [l0, l1, l2, l3, l4, l5, l6], .int v :: .ref a :: st, k, (zz_hp n I J ex)) = zz_ck (zz_in v (zz_ary n a)) (zz_Run zz_prog d 121 (80, [l0, l1, l2, l3, l4, l5, l6], .int (I a v.toNatClampNeg) :: st, k, (zz_hp n I J ex))) := zz_k_iald f121_79 ha
theorem f121_80 : zz_fetch zz_prog 121 80 = some (.istore 5, 2, [], []) := zz_fetch_of p121 rfl rfl
theorem s121_80 : zz_Run zz_prog d 121 (80, [l0, l1, l2, l3, l4, l5, l6], .int v :: st, k, h) = zz_sl l4 (zz_Run zz_prog d 121 (82, [l0, l1, l2, l3, l4, some (.int v), l6], st, k, h)) := zz_k_st (j := 5) (u := .int v) f121_80 rfl (fun q hq => by cases hq) rfl (show 5 < 7 by decide) (by cases l4 <;> rfl) rfl
theorem f121_82 : zz_fetch zz_prog 121 82 = some (.aload_n 0, 1, [], []) := zz_fetch_of p121 rfl rfl
theorem s121_82 : zz_Run zz_prog d 121 (82, [some (.ref a), l1, l2, l3, l4, l5, l6], st, k, h) = zz_Run zz_prog d 121 (83, [some (.ref a), l1, l2, l3, l4, l5, l6], .ref a :: st, k, h) := zz_k_num f121_82 rfl
theorem f121_83 : zz_fetch zz_prog 121 83 = some (.getfield 7, 3, [2, 1, 3], []) := zz_fetch_of p121 rfl rfl
theorem s121_83 : zz_Run zz_prog d 121 (83, [l0, l1, l2, l3, l4, l5, l6], .ref 23 :: st, k, (zz_hp n I J ex)) = zz_Run zz_prog d 121 (86, [l0, l1, l2, l3, l4, l5, l6], .ref 24 :: st, k, (zz_hp n I J ex)) := zz_k_go f121_83 rfl rfl rfl
theorem f121_86 : zz_fetch zz_prog 121 86 = some (.sipush 180, 3, [], []) := zz_fetch_of p121 rfl rfl
theorem s121_86 : zz_Run zz_prog d 121 (86, [l0, l1, l2, l3, l4, l5, l6], st, k, h) = zz_Run zz_prog d 121 (89, [l0, l1, l2, l3, l4, l5, l6], .int 180 :: st, k, h) := zz_k_num f121_86 (congrArg (fun u => some (89, [l0, l1, l2, l3, l4, l5, l6], Value.int u :: st)) (by decide : (Int16.ofInt 180).toInt32 = 180))
theorem f121_89 : zz_fetch zz_prog 121 89 = some (.iaload, 1, [], []) := zz_fetch_of p121 rfl rfl
theorem s121_89 (ha : zz_isrd a = true) : zz_Run zz_prog d 121 (89, [l0, l1, l2, l3, l4, l5, l6], .int v :: .ref a :: st, k, (zz_hp n I J ex)) = zz_ck (zz_in v (zz_ary n a)) (zz_Run zz_prog d 121 (90, [l0, l1, l2, l3, l4, l5, l6], .int (I a v.toNatClampNeg) :: st, k, (zz_hp n I J ex))) := zz_k_iald f121_89 ha
theorem f121_90 : zz_fetch zz_prog 121 90 = some (.istore 6, 2, [], []) := zz_fetch_of p121 rfl rfl
theorem s121_90 : zz_Run zz_prog d 121 (90, [l0, l1, l2, l3, l4, l5, l6], .int v :: st, k, h) = zz_sl l5 (zz_Run zz_prog d 121 (92, [l0, l1, l2, l3, l4, l5, some (.int v)], st, k, h)) := zz_k_st (j := 6) (u := .int v) f121_90 rfl (fun q hq => by cases hq) rfl (show 6 < 7 by decide) (by cases l5 <;> rfl) rfl
theorem f121_92 : zz_fetch zz_prog 121 92 = some (.iload 6, 2, [], []) := zz_fetch_of p121 rfl rfl
theorem s121_92 : zz_Run zz_prog d 121 (92, [l0, l1, l2, l3, l4, l5, some (.int v)], st, k, h) = zz_Run zz_prog d 121 (94, [l0, l1, l2, l3, l4, l5, some (.int v)], .int v :: st, k, h) := zz_k_num f121_92 rfl
theorem f121_94 : zz_fetch zz_prog 121 94 = some (.bipush 6, 2, [], []) := zz_fetch_of p121 rfl rfl
theorem s121_94 : zz_Run zz_prog d 121 (94, [l0, l1, l2, l3, l4, l5, l6], st, k, h) = zz_Run zz_prog d 121 (96, [l0, l1, l2, l3, l4, l5, l6], .int 6 :: st, k, h) := zz_k_num f121_94 (congrArg (fun u => some (96, [l0, l1, l2, l3, l4, l5, l6], Value.int u :: st)) (by decide : (Int8.ofInt 6).toInt32 = 6))
theorem f121_96 : zz_fetch zz_prog 121 96 = some (.if_icmp .ne 10, 3, [106], []) := zz_fetch_of p121 rfl rfl
theorem s121_96 : zz_Run zz_prog d 121 (96, [l0, l1, l2, l3, l4, l5, l6], .int w :: .int v :: st, k, h) = if ¬ v = w then zz_Run zz_prog d 121 (106, [l0, l1, l2, l3, l4, l5, l6], st, k, h) else zz_Run zz_prog d 121 (99, [l0, l1, l2, l3, l4, l5, l6], st, k, h) := zz_k_br (¬ v = w) rfl (zz_k_num f121_96 rfl)
theorem f121_99 : zz_fetch zz_prog 121 99 = some (.aload_n 0, 1, [], []) := zz_fetch_of p121 rfl rfl
theorem s121_99 : zz_Run zz_prog d 121 (99, [some (.ref a), l1, l2, l3, l4, l5, l6], st, k, h) = zz_Run zz_prog d 121 (100, [some (.ref a), l1, l2, l3, l4, l5, l6], .ref a :: st, k, h) := zz_k_num f121_99 rfl
theorem f121_100 : zz_fetch zz_prog 121 100 = some (.iload 5, 2, [], []) := zz_fetch_of p121 rfl rfl
theorem s121_100 : zz_Run zz_prog d 121 (100, [l0, l1, l2, l3, l4, some (.int v), l6], st, k, h) = zz_Run zz_prog d 121 (102, [l0, l1, l2, l3, l4, some (.int v), l6], .int v :: st, k, h) := zz_k_num f121_100 rfl
theorem f121_102 : zz_fetch zz_prog 121 102 = some (.iload_n 1, 1, [], []) := zz_fetch_of p121 rfl rfl
theorem s121_102 : zz_Run zz_prog d 121 (102, [l0, some (.int v), l2, l3, l4, l5, l6], st, k, h) = zz_Run zz_prog d 121 (103, [l0, some (.int v), l2, l3, l4, l5, l6], .int v :: st, k, h) := zz_k_num f121_102 rfl
theorem f121_103 : zz_fetch zz_prog 121 103 = some (.invokevirtual 161, 3, [0, 110, 3, 2], []) := zz_fetch_of p121 rfl rfl
theorem s121_103 : zz_Run zz_prog d 121 (103, [l0, l1, l2, l3, l4, l5, l6], [b0, b1, .ref 23], k, (zz_hp n I J ex)) = zz_ret (zz_Call zz_prog d 110 [.ref 23, b1, b0] (zz_hp n I J ex)) (fun v k' h' => zz_Run zz_prog d 121 (106, [l0, l1, l2, l3, l4, l5, l6], v.toList ++ [], k && k', h')) (fun a k' h' => zz_th d 121 103 a [l0, l1, l2, l3, l4, l5, l6] (k && k') h') := zz_k_call f121_103 rfl rfl rfl
theorem f121_106 : zz_fetch zz_prog 121 106 = some (.iload_n 1, 1, [], []) := zz_fetch_of p121 rfl rfl
theorem s121_106 : zz_Run zz_prog d 121 (106, [l0, some (.int v), l2, l3, l4, l5, l6], st, k, h) = zz_Run zz_prog d 121 (107, [l0, some (.int v), l2, l3, l4, l5, l6], .int v :: st, k, h) := zz_k_num f121_106 rfl
theorem f121_107 : zz_fetch zz_prog 121 107 = some (.ifCond .ne 18, 3, [125], []) := zz_fetch_of p121 rfl rfl
theorem s121_107 : zz_Run zz_prog d 121 (107, [l0, l1, l2, l3, l4, l5, l6], .int v :: st, k, h) = if ¬ v = 0 then zz_Run zz_prog d 121 (125, [l0, l1, l2, l3, l4, l5, l6], st, k, h) else zz_Run zz_prog d 121 (110, [l0, l1, l2, l3, l4, l5, l6], st, k, h) := zz_k_br (¬ v = 0) rfl (zz_k_num f121_107 rfl)
theorem f121_110 : zz_fetch zz_prog 121 110 = some (.aload_n 0, 1, [], []) := zz_fetch_of p121 rfl rfl
theorem s121_110 : zz_Run zz_prog d 121 (110, [some (.ref a), l1, l2, l3, l4, l5, l6], st, k, h) = zz_Run zz_prog d 121 (111, [some (.ref a), l1, l2, l3, l4, l5, l6], .ref a :: st, k, h) := zz_k_num f121_110 rfl
theorem f121_111 : zz_fetch zz_prog 121 111 = some (.getfield 7, 3, [2, 1, 3], []) := zz_fetch_of p121 rfl rfl
theorem s121_111 : zz_Run zz_prog d 121 (111, [l0, l1, l2, l3, l4, l5, l6], .ref 23 :: st, k, (zz_hp n I J ex)) = zz_Run zz_prog d 121 (114, [l0, l1, l2, l3, l4, l5, l6], .ref 24 :: st, k, (zz_hp n I J ex)) := zz_k_go f121_111 rfl rfl rfl
theorem f121_114 : zz_fetch zz_prog 121 114 = some (.iconst 0, 1, [], []) := zz_fetch_of p121 rfl rfl
theorem s121_114 : zz_Run zz_prog d 121 (114, [l0, l1, l2, l3, l4, l5, l6], st, k, h) = zz_Run zz_prog d 121 (115, [l0, l1, l2, l3, l4, l5, l6], .int 0 :: st, k, h) := zz_k_num f121_114 rfl
theorem f121_115 : zz_fetch zz_prog 121 115 = some (.iload_n 2, 1, [], []) := zz_fetch_of p121 rfl rfl
theorem s121_115 : zz_Run zz_prog d 121 (115, [l0, l1, some (.int v), l3, l4, l5, l6], st, k, h) = zz_Run zz_prog d 121 (116, [l0, l1, some (.int v), l3, l4, l5, l6], .int v :: st, k, h) := zz_k_num f121_115 rfl
theorem f121_116 : zz_fetch zz_prog 121 116 = some (.iadd, 1, [], []) := zz_fetch_of p121 rfl rfl
theorem s121_116 : zz_Run zz_prog d 121 (116, [l0, l1, l2, l3, l4, l5, l6], .int w :: .int v :: st, k, h) = zz_Run zz_prog d 121 (117, [l0, l1, l2, l3, l4, l5, l6], .int (v + w) :: st, k, h) := zz_k_num f121_116 rfl
theorem f121_117 : zz_fetch zz_prog 121 117 = some (.iload 5, 2, [], []) := zz_fetch_of p121 rfl rfl
theorem s121_117 : zz_Run zz_prog d 121 (117, [l0, l1, l2, l3, l4, some (.int v), l6], st, k, h) = zz_Run zz_prog d 121 (119, [l0, l1, l2, l3, l4, some (.int v), l6], .int v :: st, k, h) := zz_k_num f121_117 rfl
theorem f121_119 : zz_fetch zz_prog 121 119 = some (.iconst 1, 1, [], []) := zz_fetch_of p121 rfl rfl
theorem s121_119 : zz_Run zz_prog d 121 (119, [l0, l1, l2, l3, l4, l5, l6], st, k, h) = zz_Run zz_prog d 121 (120, [l0, l1, l2, l3, l4, l5, l6], .int 1 :: st, k, h) := zz_k_num f121_119 rfl
theorem f121_120 : zz_fetch zz_prog 121 120 = some (.iadd, 1, [], []) := zz_fetch_of p121 rfl rfl
theorem s121_120 : zz_Run zz_prog d 121 (120, [l0, l1, l2, l3, l4, l5, l6], .int w :: .int v :: st, k, h) = zz_Run zz_prog d 121 (121, [l0, l1, l2, l3, l4, l5, l6], .int (v + w) :: st, k, h) := zz_k_num f121_120 rfl
theorem f121_121 : zz_fetch zz_prog 121 121 = some (.iastore, 1, [], []) := zz_fetch_of p121 rfl rfl
theorem s121_121 (ha : zz_isar a = true) : zz_Run zz_prog d 121 (121, [l0, l1, l2, l3, l4, l5, l6], .int w :: .int v :: .ref a :: st, k, (zz_hp n I J ex)) = zz_ck (zz_in v (zz_ary n a)) (zz_Run zz_prog d 121 (122, [l0, l1, l2, l3, l4, l5, l6], st, false, (zz_hp n (zz_up I a v.toNatClampNeg w) J ex))) := zz_k_iast f121_121 ha
theorem f121_122 : zz_fetch zz_prog 121 122 = some (.goto 29, 3, [151], []) := zz_fetch_of p121 rfl rfl
theorem s121_122 : zz_Run zz_prog d 121 (122, [l0, l1, l2, l3, l4, l5, l6], st, k, h) = zz_Run zz_prog d 121 (151, [l0, l1, l2, l3, l4, l5, l6], st, k, h) := zz_k_num f121_122 rfl
theorem f121_125 : zz_fetch zz_prog 121 125 = some (.aload_n 0, 1, [], []) := zz_fetch_of p121 rfl rfl
theorem s121_125 : zz_Run zz_prog d 121 (125, [some (.ref a), l1, l2, l3, l4, l5, l6], st, k, h) = zz_Run zz_prog d 121 (126, [some (.ref a), l1, l2, l3, l4, l5, l6], .ref a :: st, k, h) := zz_k_num f121_125 rfl
theorem f121_126 : zz_fetch zz_prog 121 126 = some (.getfield 7, 3, [2, 1, 3], []) := zz_fetch_of p121 rfl rfl
theorem s121_126 : zz_Run zz_prog d 121 (126, [l0, l1, l2, l3, l4, l5, l6], .ref 23 :: st, k, (zz_hp n I J ex)) = zz_Run zz_prog d 121 (129, [l0, l1, l2, l3, l4, l5, l6], .ref 24 :: st, k, (zz_hp n I J ex)) := zz_k_go f121_126 rfl rfl rfl
theorem f121_129 : zz_fetch zz_prog 121 129 = some (.bipush 72, 2, [], []) := zz_fetch_of p121 rfl rfl
theorem s121_129 : zz_Run zz_prog d 121 (129, [l0, l1, l2, l3, l4, l5, l6], st, k, h) = zz_Run zz_prog d 121 (131, [l0, l1, l2, l3, l4, l5, l6], .int 72 :: st, k, h) := zz_k_num f121_129 (congrArg (fun u => some (131, [l0, l1, l2, l3, l4, l5, l6], Value.int u :: st)) (by decide : (Int8.ofInt 72).toInt32 = 72))
theorem f121_131 : zz_fetch zz_prog 121 131 = some (.iload_n 2, 1, [], []) := zz_fetch_of p121 rfl rfl
theorem s121_131 : zz_Run zz_prog d 121 (131, [l0, l1, some (.int v), l3, l4, l5, l6], st, k, h) = zz_Run zz_prog d 121 (132, [l0, l1, some (.int v), l3, l4, l5, l6], .int v :: st, k, h) := zz_k_num f121_131 rfl
theorem f121_132 : zz_fetch zz_prog 121 132 = some (.iadd, 1, [], []) := zz_fetch_of p121 rfl rfl
theorem s121_132 : zz_Run zz_prog d 121 (132, [l0, l1, l2, l3, l4, l5, l6], .int w :: .int v :: st, k, h) = zz_Run zz_prog d 121 (133, [l0, l1, l2, l3, l4, l5, l6], .int (v + w) :: st, k, h) := zz_k_num f121_132 rfl
theorem f121_133 : zz_fetch zz_prog 121 133 = some (.iload_n 1, 1, [], []) := zz_fetch_of p121 rfl rfl
theorem s121_133 : zz_Run zz_prog d 121 (133, [l0, some (.int v), l2, l3, l4, l5, l6], st, k, h) = zz_Run zz_prog d 121 (134, [l0, some (.int v), l2, l3, l4, l5, l6], .int v :: st, k, h) := zz_k_num f121_133 rfl
theorem f121_134 : zz_fetch zz_prog 121 134 = some (.iconst 1, 1, [], []) := zz_fetch_of p121 rfl rfl
theorem s121_134 : zz_Run zz_prog d 121 (134, [l0, l1, l2, l3, l4, l5, l6], st, k, h) = zz_Run zz_prog d 121 (135, [l0, l1, l2, l3, l4, l5, l6], .int 1 :: st, k, h) := zz_k_num f121_134 rfl
theorem f121_135 : zz_fetch zz_prog 121 135 = some (.if_icmp .ne 10, 3, [145], []) := zz_fetch_of p121 rfl rfl
theorem s121_135 : zz_Run zz_prog d 121 (135, [l0, l1, l2, l3, l4, l5, l6], .int w :: .int v :: st, k, h) = if ¬ v = w then zz_Run zz_prog d 121 (145, [l0, l1, l2, l3, l4, l5, l6], st, k, h) else zz_Run zz_prog d 121 (138, [l0, l1, l2, l3, l4, l5, l6], st, k, h) := zz_k_br (¬ v = w) rfl (zz_k_num f121_135 rfl)
theorem f121_138 : zz_fetch zz_prog 121 138 = some (.iload 5, 2, [], []) := zz_fetch_of p121 rfl rfl
theorem s121_138 : zz_Run zz_prog d 121 (138, [l0, l1, l2, l3, l4, some (.int v), l6], st, k, h) = zz_Run zz_prog d 121 (140, [l0, l1, l2, l3, l4, some (.int v), l6], .int v :: st, k, h) := zz_k_num f121_138 rfl
theorem f121_140 : zz_fetch zz_prog 121 140 = some (.iconst 1, 1, [], []) := zz_fetch_of p121 rfl rfl
theorem s121_140 : zz_Run zz_prog d 121 (140, [l0, l1, l2, l3, l4, l5, l6], st, k, h) = zz_Run zz_prog d 121 (141, [l0, l1, l2, l3, l4, l5, l6], .int 1 :: st, k, h) := zz_k_num f121_140 rfl
theorem f121_141 : zz_fetch zz_prog 121 141 = some (.iadd, 1, [], []) := zz_fetch_of p121 rfl rfl
theorem s121_141 : zz_Run zz_prog d 121 (141, [l0, l1, l2, l3, l4, l5, l6], .int w :: .int v :: st, k, h) = zz_Run zz_prog d 121 (142, [l0, l1, l2, l3, l4, l5, l6], .int (v + w) :: st, k, h) := zz_k_num f121_141 rfl
theorem f121_142 : zz_fetch zz_prog 121 142 = some (.goto 8, 3, [150], []) := zz_fetch_of p121 rfl rfl
theorem s121_142 : zz_Run zz_prog d 121 (142, [l0, l1, l2, l3, l4, l5, l6], st, k, h) = zz_Run zz_prog d 121 (150, [l0, l1, l2, l3, l4, l5, l6], st, k, h) := zz_k_num f121_142 rfl
theorem f121_145 : zz_fetch zz_prog 121 145 = some (.iload 5, 2, [], []) := zz_fetch_of p121 rfl rfl
theorem s121_145 : zz_Run zz_prog d 121 (145, [l0, l1, l2, l3, l4, some (.int v), l6], st, k, h) = zz_Run zz_prog d 121 (147, [l0, l1, l2, l3, l4, some (.int v), l6], .int v :: st, k, h) := zz_k_num f121_145 rfl
theorem f121_147 : zz_fetch zz_prog 121 147 = some (.bipush 9, 2, [], []) := zz_fetch_of p121 rfl rfl
theorem s121_147 : zz_Run zz_prog d 121 (147, [l0, l1, l2, l3, l4, l5, l6], st, k, h) = zz_Run zz_prog d 121 (149, [l0, l1, l2, l3, l4, l5, l6], .int 9 :: st, k, h) := zz_k_num f121_147 (congrArg (fun u => some (149, [l0, l1, l2, l3, l4, l5, l6], Value.int u :: st)) (by decide : (Int8.ofInt 9).toInt32 = 9))
theorem f121_149 : zz_fetch zz_prog 121 149 = some (.iadd, 1, [], []) := zz_fetch_of p121 rfl rfl
theorem s121_149 : zz_Run zz_prog d 121 (149, [l0, l1, l2, l3, l4, l5, l6], .int w :: .int v :: st, k, h) = zz_Run zz_prog d 121 (150, [l0, l1, l2, l3, l4, l5, l6], .int (v + w) :: st, k, h) := zz_k_num f121_149 rfl
theorem f121_150 : zz_fetch zz_prog 121 150 = some (.iastore, 1, [], []) := zz_fetch_of p121 rfl rfl
theorem s121_150 (ha : zz_isar a = true) : zz_Run zz_prog d 121 (150, [l0, l1, l2, l3, l4, l5, l6], .int w :: .int v :: .ref a :: st, k, (zz_hp n I J ex)) = zz_ck (zz_in v (zz_ary n a)) (zz_Run zz_prog d 121 (151, [l0, l1, l2, l3, l4, l5, l6], st, false, (zz_hp n (zz_up I a v.toNatClampNeg w) J ex))) := zz_k_iast f121_150 ha
theorem f121_151 : zz_fetch zz_prog 121 151 = some (.iload 6, 2, [], []) := zz_fetch_of p121 rfl rfl
theorem s121_151 : zz_Run zz_prog d 121 (151, [l0, l1, l2, l3, l4, l5, some (.int v)], st, k, h) = zz_Run zz_prog d 121 (153, [l0, l1, l2, l3, l4, l5, some (.int v)], .int v :: st, k, h) := zz_k_num f121_151 rfl
theorem f121_153 : zz_fetch zz_prog 121 153 = some (.iconst 1, 1, [], []) := zz_fetch_of p121 rfl rfl
theorem s121_153 : zz_Run zz_prog d 121 (153, [l0, l1, l2, l3, l4, l5, l6], st, k, h) = zz_Run zz_prog d 121 (154, [l0, l1, l2, l3, l4, l5, l6], .int 1 :: st, k, h) := zz_k_num f121_153 rfl
theorem f121_154 : zz_fetch zz_prog 121 154 = some (.if_icmp .ne 11, 3, [165], []) := zz_fetch_of p121 rfl rfl
theorem s121_154 : zz_Run zz_prog d 121 (154, [l0, l1, l2, l3, l4, l5, l6], .int w :: .int v :: st, k, h) = if ¬ v = w then zz_Run zz_prog d 121 (165, [l0, l1, l2, l3, l4, l5, l6], st, k, h) else zz_Run zz_prog d 121 (157, [l0, l1, l2, l3, l4, l5, l6], st, k, h) := zz_k_br (¬ v = w) rfl (zz_k_num f121_154 rfl)
theorem f121_157 : zz_fetch zz_prog 121 157 = some (.aload_n 0, 1, [], []) := zz_fetch_of p121 rfl rfl
theorem s121_157 : zz_Run zz_prog d 121 (157, [some (.ref a), l1, l2, l3, l4, l5, l6], st, k, h) = zz_Run zz_prog d 121 (158, [some (.ref a), l1, l2, l3, l4, l5, l6], .ref a :: st, k, h) := zz_k_num f121_157 rfl
theorem f121_158 : zz_fetch zz_prog 121 158 = some (.iload_n 2, 1, [], []) := zz_fetch_of p121 rfl rfl
theorem s121_158 : zz_Run zz_prog d 121 (158, [l0, l1, some (.int v), l3, l4, l5, l6], st, k, h) = zz_Run zz_prog d 121 (159, [l0, l1, some (.int v), l3, l4, l5, l6], .int v :: st, k, h) := zz_k_num f121_158 rfl
theorem f121_159 : zz_fetch zz_prog 121 159 = some (.invokevirtual 165, 3, [0, 119, 2, 2], []) := zz_fetch_of p121 rfl rfl
theorem s121_159 : zz_Run zz_prog d 121 (159, [l0, l1, l2, l3, l4, l5, l6], [b0, .ref 23], k, (zz_hp n I J ex)) = zz_ret (zz_Call zz_prog d 119 [.ref 23, b0] (zz_hp n I J ex)) (fun v k' h' => zz_Run zz_prog d 121 (162, [l0, l1, l2, l3, l4, l5, l6], v.toList ++ [], k && k', h')) (fun a k' h' => zz_th d 121 159 a [l0, l1, l2, l3, l4, l5, l6] (k && k') h') := zz_k_call f121_159 rfl rfl rfl
theorem f121_162 : zz_fetch zz_prog 121 162 = some (.goto 39, 3, [201], []) := zz_fetch_of p121 rfl rfl
theorem s121_162 : zz_Run zz_prog d 121 (162, [l0, l1, l2, l3, l4, l5, l6], st, k, h) = zz_Run zz_prog d 121 (201, [l0, l1, l2, l3, l4, l5, l6], st, k, h) := zz_k_num f121_162 rfl
theorem f121_165 : zz_fetch zz_prog 121 165 = some (.iload 6, 2, [], []) := zz_fetch_of p121 rfl rfl
theorem s121_165 : zz_Run zz_prog d 121 (165, [l0, l1, l2, l3, l4, l5, some (.int v)], st, k, h) = zz_Run zz_prog d 121 (167, [l0, l1, l2, l3, l4, l5, some (.int v)], .int v :: st, k, h) := zz_k_num f121_165 rfl
theorem f121_167 : zz_fetch zz_prog 121 167 = some (.iconst 2, 1, [], []) := zz_fetch_of p121 rfl rfl
theorem s121_167 : zz_Run zz_prog d 121 (167, [l0, l1, l2, l3, l4, l5, l6], st, k, h) = zz_Run zz_prog d 121 (168, [l0, l1, l2, l3, l4, l5, l6], .int 2 :: st, k, h) := zz_k_num f121_167 rfl
theorem f121_168 : zz_fetch zz_prog 121 168 = some (.if_icmp .ne 10, 3, [178], []) := zz_fetch_of p121 rfl rfl
theorem s121_168 : zz_Run zz_prog d 121 (168, [l0, l1, l2, l3, l4, l5, l6], .int w :: .int v :: st, k, h) = if ¬ v = w then zz_Run zz_prog d 121 (178, [l0, l1, l2, l3, l4, l5, l6], st, k, h) else zz_Run zz_prog d 121 (171, [l0, l1, l2, l3, l4, l5, l6], st, k, h) := zz_k_br (¬ v = w) rfl (zz_k_num f121_168 rfl)
theorem f121_171 : zz_fetch zz_prog 121 171 = some (.aload_n 0, 1, [], []) := zz_fetch_of p121 rfl rfl
theorem s121_171 : zz_Run zz_prog d 121 (171, [some (.ref a), l1, l2, l3, l4, l5, l6], st, k, h) = zz_Run zz_prog d 121 (172, [some (.ref a), l1, l2, l3, l4, l5, l6], .ref a :: st, k, h) := zz_k_num f121_171 rfl
theorem f121_172 : zz_fetch zz_prog 121 172 = some (.invokevirtual 169, 3, [0, 120, 1, 2], []) := zz_fetch_of p121 rfl rfl
theorem s121_172 : zz_Run zz_prog d 121 (172, [l0, l1, l2, l3, l4, l5, l6], [.ref 23], k, (zz_hp n I J ex)) = zz_ret (zz_Call zz_prog d 120 [.ref 23] (zz_hp n I J ex)) (fun v k' h' => zz_Run zz_prog d 121 (175, [l0, l1, l2, l3, l4, l5, l6], v.toList ++ [], k && k', h')) (fun a k' h' => zz_th d 121 172 a [l0, l1, l2, l3, l4, l5, l6] (k && k') h') := zz_k_call f121_172 rfl rfl rfl
theorem f121_175 : zz_fetch zz_prog 121 175 = some (.goto 26, 3, [201], []) := zz_fetch_of p121 rfl rfl
theorem s121_175 : zz_Run zz_prog d 121 (175, [l0, l1, l2, l3, l4, l5, l6], st, k, h) = zz_Run zz_prog d 121 (201, [l0, l1, l2, l3, l4, l5, l6], st, k, h) := zz_k_num f121_175 rfl
theorem f121_178 : zz_fetch zz_prog 121 178 = some (.iload 6, 2, [], []) := zz_fetch_of p121 rfl rfl
theorem s121_178 : zz_Run zz_prog d 121 (178, [l0, l1, l2, l3, l4, l5, some (.int v)], st, k, h) = zz_Run zz_prog d 121 (180, [l0, l1, l2, l3, l4, l5, some (.int v)], .int v :: st, k, h) := zz_k_num f121_178 rfl
theorem f121_180 : zz_fetch zz_prog 121 180 = some (.bipush 7, 2, [], []) := zz_fetch_of p121 rfl rfl
theorem s121_180 : zz_Run zz_prog d 121 (180, [l0, l1, l2, l3, l4, l5, l6], st, k, h) = zz_Run zz_prog d 121 (182, [l0, l1, l2, l3, l4, l5, l6], .int 7 :: st, k, h) := zz_k_num f121_180 (congrArg (fun u => some (182, [l0, l1, l2, l3, l4, l5, l6], Value.int u :: st)) (by decide : (Int8.ofInt 7).toInt32 = 7))
theorem f121_182 : zz_fetch zz_prog 121 182 = some (.if_icmp .ne 19, 3, [201], []) := zz_fetch_of p121 rfl rfl
theorem s121_182 : zz_Run zz_prog d 121 (182, [l0, l1, l2, l3, l4, l5, l6], .int w :: .int v :: st, k, h) = if ¬ v = w then zz_Run zz_prog d 121 (201, [l0, l1, l2, l3, l4, l5, l6], st, k, h) else zz_Run zz_prog d 121 (185, [l0, l1, l2, l3, l4, l5, l6], st, k, h) := zz_k_br (¬ v = w) rfl (zz_k_num f121_182 rfl)
theorem f121_185 : zz_fetch zz_prog 121 185 = some (.aload_n 0, 1, [], []) := zz_fetch_of p121 rfl rfl
theorem s121_185 : zz_Run zz_prog d 121 (185, [some (.ref a), l1, l2, l3, l4, l5, l6], st, k, h) = zz_Run zz_prog d 121 (186, [some (.ref a), l1, l2, l3, l4, l5, l6], .ref a :: st, k, h) := zz_k_num f121_185 rfl
theorem f121_186 : zz_fetch zz_prog 121 186 = some (.getfield 7, 3, [2, 1, 3], []) := zz_fetch_of p121 rfl rfl
theorem s121_186 : zz_Run zz_prog d 121 (186, [l0, l1, l2, l3, l4, l5, l6], .ref 23 :: st, k, (zz_hp n I J ex)) = zz_Run zz_prog d 121 (189, [l0, l1, l2, l3, l4, l5, l6], .ref 24 :: st, k, (zz_hp n I J ex)) := zz_k_go f121_186 rfl rfl rfl
theorem f121_189 : zz_fetch zz_prog 121 189 = some (.sipush 185, 3, [], []) := zz_fetch_of p121 rfl rfl
theorem s121_189 : zz_Run zz_prog d 121 (189, [l0, l1, l2, l3, l4, l5, l6], st, k, h) = zz_Run zz_prog d 121 (192, [l0, l1, l2, l3, l4, l5, l6], .int 185 :: st, k, h) := zz_k_num f121_189 (congrArg (fun u => some (192, [l0, l1, l2, l3, l4, l5, l6], Value.int u :: st)) (by decide : (Int16.ofInt 185).toInt32 = 185))
theorem f121_192 : zz_fetch zz_prog 121 192 = some (.dup2, 1, [], []) := zz_fetch_of p121 rfl rfl
theorem s121_192 : zz_Run zz_prog d 121 (192, [l0, l1, l2, l3, l4, l5, l6], .int v :: .ref a1 :: st, k, h) = zz_Run zz_prog d 121 (193, [l0, l1, l2, l3, l4, l5, l6], .int v :: .ref a1 :: .int v :: .ref a1 :: st, k, h) := zz_k_num f121_192 rfl
theorem f121_193 : zz_fetch zz_prog 121 193 = some (.iaload, 1, [], []) := zz_fetch_of p121 rfl rfl
theorem s121_193 (ha : zz_isrd a = true) : zz_Run zz_prog d 121 (193, [l0, l1, l2, l3, l4, l5, l6], .int v :: .ref a :: st, k, (zz_hp n I J ex)) = zz_ck (zz_in v (zz_ary n a)) (zz_Run zz_prog d 121 (194, [l0, l1, l2, l3, l4, l5, l6], .int (I a v.toNatClampNeg) :: st, k, (zz_hp n I J ex))) := zz_k_iald f121_193 ha
theorem f121_194 : zz_fetch zz_prog 121 194 = some (.iconst 1, 1, [], []) := zz_fetch_of p121 rfl rfl
theorem s121_194 : zz_Run zz_prog d 121 (194, [l0, l1, l2, l3, l4, l5, l6], st, k, h) = zz_Run zz_prog d 121 (195, [l0, l1, l2, l3, l4, l5, l6], .int 1 :: st, k, h) := zz_k_num f121_194 rfl
theorem f121_195 : zz_fetch zz_prog 121 195 = some (.isub, 1, [], []) := zz_fetch_of p121 rfl rfl
theorem s121_195 : zz_Run zz_prog d 121 (195, [l0, l1, l2, l3, l4, l5, l6], .int w :: .int v :: st, k, h) = zz_Run zz_prog d 121 (196, [l0, l1, l2, l3, l4, l5, l6], .int (v - w) :: st, k, h) := zz_k_num f121_195 rfl
theorem f121_196 : zz_fetch zz_prog 121 196 = some (.iastore, 1, [], []) := zz_fetch_of p121 rfl rfl
theorem s121_196 (ha : zz_isar a = true) : zz_Run zz_prog d 121 (196, [l0, l1, l2, l3, l4, l5, l6], .int w :: .int v :: .ref a :: st, k, (zz_hp n I J ex)) = zz_ck (zz_in v (zz_ary n a)) (zz_Run zz_prog d 121 (197, [l0, l1, l2, l3, l4, l5, l6], st, false, (zz_hp n (zz_up I a v.toNatClampNeg w) J ex))) := zz_k_iast f121_196 ha
theorem f121_197 : zz_fetch zz_prog 121 197 = some (.aload_n 0, 1, [], []) := zz_fetch_of p121 rfl rfl
theorem s121_197 : zz_Run zz_prog d 121 (197, [some (.ref a), l1, l2, l3, l4, l5, l6], st, k, h) = zz_Run zz_prog d 121 (198, [some (.ref a), l1, l2, l3, l4, l5, l6], .ref a :: st, k, h) := zz_k_num f121_197 rfl
theorem f121_198 : zz_fetch zz_prog 121 198 = some (.invokevirtual 172, 3, [0, 118, 1, 2], []) := zz_fetch_of p121 rfl rfl
theorem s121_198 : zz_Run zz_prog d 121 (198, [l0, l1, l2, l3, l4, l5, l6], [.ref 23], k, (zz_hp n I J ex)) = zz_ret (zz_Call zz_prog d 118 [.ref 23] (zz_hp n I J ex)) (fun v k' h' => zz_Run zz_prog d 121 (201, [l0, l1, l2, l3, l4, l5, l6], v.toList ++ [], k && k', h')) (fun a k' h' => zz_th d 121 198 a [l0, l1, l2, l3, l4, l5, l6] (k && k') h') := zz_k_call f121_198 rfl rfl rfl
theorem f121_201 : zz_fetch zz_prog 121 201 = some (.aload_n 0, 1, [], []) := zz_fetch_of p121 rfl rfl
theorem s121_201 : zz_Run zz_prog d 121 (201, [some (.ref a), l1, l2, l3, l4, l5, l6], st, k, h) = zz_Run zz_prog d 121 (202, [some (.ref a), l1, l2, l3, l4, l5, l6], .ref a :: st, k, h) := zz_k_num f121_201 rfl
theorem f121_202 : zz_fetch zz_prog 121 202 = some (.invokevirtual 175, 3, [0, 116, 1, 2], []) := zz_fetch_of p121 rfl rfl
theorem s121_202 : zz_Run zz_prog d 121 (202, [l0, l1, l2, l3, l4, l5, l6], [.ref 23], k, (zz_hp n I J ex)) = zz_ret (zz_Call zz_prog d 116 [.ref 23] (zz_hp n I J ex)) (fun v k' h' => zz_Run zz_prog d 121 (205, [l0, l1, l2, l3, l4, l5, l6], v.toList ++ [], k && k', h')) (fun a k' h' => zz_th d 121 202 a [l0, l1, l2, l3, l4, l5, l6] (k && k') h') := zz_k_call f121_202 rfl rfl rfl
theorem f121_205 : zz_fetch zz_prog 121 205 = some (.aload_n 0, 1, [], []) := zz_fetch_of p121 rfl rfl
theorem s121_205 : zz_Run zz_prog d 121 (205, [some (.ref a), l1, l2, l3, l4, l5, l6], st, k, h) = zz_Run zz_prog d 121 (206, [some (.ref a), l1, l2, l3, l4, l5, l6], .ref a :: st, k, h) := zz_k_num f121_205 rfl
theorem f121_206 : zz_fetch zz_prog 121 206 = some (.iload 5, 2, [], []) := zz_fetch_of p121 rfl rfl
theorem s121_206 : zz_Run zz_prog d 121 (206, [l0, l1, l2, l3, l4, some (.int v), l6], st, k, h) = zz_Run zz_prog d 121 (208, [l0, l1, l2, l3, l4, some (.int v), l6], .int v :: st, k, h) := zz_k_num f121_206 rfl
theorem f121_208 : zz_fetch zz_prog 121 208 = some (.invokevirtual 142, 3, [0, 115, 2, 2], []) := zz_fetch_of p121 rfl rfl
theorem s121_208 : zz_Run zz_prog d 121 (208, [l0, l1, l2, l3, l4, l5, l6], [b0, .ref 23], k, (zz_hp n I J ex)) = zz_ret (zz_Call zz_prog d 115 [.ref 23, b0] (zz_hp n I J ex)) (fun v k' h' => zz_Run zz_prog d 121 (211, [l0, l1, l2, l3, l4, l5, l6], v.toList ++ [], k && k', h')) (fun a k' h' => zz_th d 121 208 a [l0, l1, l2, l3, l4, l5, l6] (k && k') h') := zz_k_call f121_208 rfl rfl rfl
theorem f121_211 : zz_fetch zz_prog 121 211 = some (.ireturn, 1, [0], []) := zz_fetch_of p121 rfl rfl
theorem s121_211 : zz_Run zz_prog d 121 (211, [l0, l1, l2, l3, l4, l5, l6], [.int v], k, h) = some (.inl (some (.int v)), k, h) := zz_k_stop f121_211 rfl rfl rfl
end S121
section S122
variable {d n j : Nat} {l0 l1 l2 l3 l4 l5 : Option Value} {st : List Value} {k : Bool} {h : zz_H} {v w v1 v2 : Int32} {y y1 : Int64} {a a1 a2 : Nat} {b0 b1 b2 b3 b4 b5 b6 b7 b8 : Value} {I : Nat → Nat → Int32} {J : Nat → Nat → Int64} {ex : List (Nat × Nat)}
theorem p122 : zz_prog 122 = some zz_m122 := rfl
theorem e122 (g0 : Nat) (g1 : Int32) (g2 : Int32) : zz_Call zz_prog (d + 1) 122 [.ref g0, .int g1, .int g2] h = zz_Run zz_prog d 122 (0, [some (.ref g0), some (.int g1), some (.int g2), none, none, none], [], true, h) := rfl
theorem t122 (pc : Nat) (L : List (Option Value)) : zz_th d 122 pc a L k h = some (.inr a, k, h) := zz_th_out p122 rfl
theorem f122_0 : zz_fetch zz_prog 122 0 = some (.iconst 0, 1, [], []) := zz_fetch_of p122 rfl rfl
theorem s122_0 : zz_Run zz_prog d 122 (0, [l0, l1, l2, l3, l4, l5], st, k, h) = zz_Run zz_prog d 122 (1, [l0, l1, l2, l3, l4, l5], .int 0 :: st, k, h) := zz_k_num f122_0 rfl
theorem f122_1 : zz_fetch zz_prog 122 1 = some (.istore_n 3, 1, [], []) := zz_fetch_of p122 rfl rfl
theorem s122_1 : zz_Run zz_prog d 122 (1, [l0, l1, l2, l3, l4, l5], .int v :: st, k, h) = zz_sl l2 (zz_Run zz_prog d 122 (2, [l0, l1, l2, some (.int v), l4, l5], st, k, h)) := zz_k_st (j := 3) (u := .int v) f122_1 rfl (fun q hq => by cases hq) rfl (show 3 < 6 by decide) (by cases l2 <;> rfl) rfl
theorem f122_2 : zz_fetch zz_prog 122 2 = some (.iconst 0, 1, [], []) := zz_fetch_of p122 rfl rfl
theorem s122_2 : zz_Run zz_prog d 122 (2, [l0, l1, l2, l3, l4, l5], st, k, h) = zz_Run zz_prog d 122 (3, [l0, l1, l2, l3, l4, l5], .int 0 :: st, k, h) := zz_k_num f122_2 rfl
theorem f122_3 : zz_fetch zz_prog 122 3 = some (.istore 4, 2, [], []) := zz_fetch_of p122 rfl rfl
theorem s122_3 : zz_Run zz_prog d 122 (3, [l0, l1, l2, l3, l4, l5], .int v :: st, k, h) = zz_sl l3 (zz_Run zz_prog d 122 (5, [l0, l1, l2, l3, some (.int v), l5], st, k, h)) := zz_k_st (j := 4) (u := .int v) f122_3 rfl (fun q hq => by cases hq) rfl (show 4 < 6 by decide) (by cases l3 <;> rfl) rfl
theorem f122_5 : zz_fetch zz_prog 122 5 = some (.iload 4, 2, [], []) := zz_fetch_of p122 rfl rfl
theorem s122_5 : zz_Run zz_prog d 122 (5, [l0, l1, l2, l3, some (.int v), l5], st, k, h) = zz_Run zz_prog d 122 (7, [l0, l1, l2, l3, some (.int v), l5], .int v :: st, k, h) := zz_k_num f122_5 rfl
theorem f122_7 : zz_fetch zz_prog 122 7 = some (.bipush 6, 2, [], []) := zz_fetch_of p122 rfl rfl
theorem s122_7 : zz_Run zz_prog d 122 (7, [l0, l1, l2, l3, l4, l5], st, k, h) = zz_Run zz_prog d 122 (9, [l0, l1, l2, l3, l4, l5], .int 6 :: st, k, h) := zz_k_num f122_7 (congrArg (fun u => some (9, [l0, l1, l2, l3, l4, l5], Value.int u :: st)) (by decide : (Int8.ofInt 6).toInt32 = 6))
theorem f122_9 : zz_fetch zz_prog 122 9 = some (.if_icmp .ge 62, 3, [71], []) := zz_fetch_of p122 rfl rfl
theorem s122_9 : zz_Run zz_prog d 122 (9, [l0, l1, l2, l3, l4, l5], .int w :: .int v :: st, k, h) = if w ≤ v then zz_Run zz_prog d 122 (71, [l0, l1, l2, l3, l4, l5], st, k, h) else zz_Run zz_prog d 122 (12, [l0, l1, l2, l3, l4, l5], st, k, h) := zz_k_br (w ≤ v) rfl (zz_k_num f122_9 rfl)
theorem f122_12 : zz_fetch zz_prog 122 12 = some (.aload_n 0, 1, [], []) := zz_fetch_of p122 rfl rfl
theorem s122_12 : zz_Run zz_prog d 122 (12, [some (.ref a), l1, l2, l3, l4, l5], st, k, h) = zz_Run zz_prog d 122 (13, [some (.ref a), l1, l2, l3, l4, l5], .ref a :: st, k, h) := zz_k_num f122_12 rfl
theorem f122_13 : zz_fetch zz_prog 122 13 = some (.getfield 7, 3, [2, 1, 3], []) := zz_fetch_of p122 rfl rfl
theorem s122_13 : zz_Run zz_prog d 122 (13, [l0, l1, l2, l3, l4, l5], .ref 23 :: st, k, (zz_hp n I J ex)) = zz_Run zz_prog d 122 (16, [l0, l1, l2, l3, l4, l5], .ref 24 :: st, k, (zz_hp n I J ex)) := zz_k_go f122_13 rfl rfl rfl
theorem f122_16 : zz_fetch zz_prog 122 16 = some (.bipush 72, 2, [], []) := zz_fetch_of p122 rfl rfl
theorem s122_16 : zz_Run zz_prog d 122 (16, [l0, l1, l2, l3, l4, l5], st, k, h) = zz_Run zz_prog d 122 (18, [l0, l1, l2, l3, l4, l5], .int 72 :: st, k, h) := zz_k_num f122_16 (congrArg (fun u => some (18, [l0, l1, l2, l3, l4, l5], Value.int u :: st)) (by decide : (Int8.ofInt 72).toInt32 = 72))
theorem f122_18 : zz_fetch zz_prog 122 18 = some (.aload_n 0, 1, [], []) := zz_fetch_of p122 rfl rfl
theorem s122_18 : zz_Run zz_prog d 122 (18, [some (.ref a), l1, l2, l3, l4, l5], st, k, h) = zz_Run zz_prog d 122 (19, [some (.ref a), l1, l2, l3, l4, l5], .ref a :: st, k, h) := zz_k_num f122_18 rfl
theorem f122_19 : zz_fetch zz_prog 122 19 = some (.getfield 28, 3, [2, 8, 3], []) := zz_fetch_of p122 rfl rfl
theorem s122_19 : zz_Run zz_prog d 122 (19, [l0, l1, l2, l3, l4, l5], .ref 23 :: st, k, (zz_hp n I J ex)) = zz_Run zz_prog d 122 (22, [l0, l1, l2, l3, l4, l5], .ref 30 :: st, k, (zz_hp n I J ex)) := zz_k_go f122_19 rfl rfl rfl
theorem f122_22 : zz_fetch zz_prog 122 22 = some (.bipush 6, 2, [], []) := zz_fetch_of p122 rfl rfl
theorem s122_22 : zz_Run zz_prog d 122 (22, [l0, l1, l2, l3, l4, l5], st, k, h) = zz_Run zz_prog d 122 (24, [l0, l1, l2, l3, l4, l5], .int 6 :: st, k, h) := zz_k_num f122_22 (congrArg (fun u => some (24, [l0, l1, l2, l3, l4, l5], Value.int u :: st)) (by decide : (Int8.ofInt 6).toInt32 = 6))
theorem f122_24 : zz_fetch zz_prog 122 24 = some (.iload_n 2, 1, [], []) := zz_fetch_of p122 rfl rfl
theorem s122_24 : zz_Run zz_prog d 122 (24, [l0, l1, some (.int v), l3, l4, l5], st, k, h) = zz_Run zz_prog d 122 (25, [l0, l1, some (.int v), l3, l4, l5], .int v :: st, k, h) := zz_k_num f122_24 rfl
theorem f122_25 : zz_fetch zz_prog 122 25 = some (.imul, 1, [], []) := zz_fetch_of p122 rfl rfl
theorem s122_25 : zz_Run zz_prog d 122 (25, [l0, l1, l2, l3, l4, l5], .int w :: .int v :: st, k, h) = zz_Run zz_prog d 122 (26, [l0, l1, l2, l3, l4, l5], .int (v * w) :: st, k, h) := zz_k_num f122_25 rfl
theorem f122_26 : zz_fetch zz_prog 122 26 = some (.iload 4, 2, [], []) := zz_fetch_of p122 rfl rfl
theorem s122_26 : zz_Run zz_prog d 122 (26, [l0, l1, l2, l3, some (.int v), l5], st, k, h) = zz_Run zz_prog d 122 (28, [l0, l1, l2, l3, some (.int v), l5], .int v :: st, k, h) := zz_k_num f122_26 rfl
theorem f122_28 : zz_fetch zz_prog 122 28 = some (.iadd, 1, [], []) := zz_fetch_of p122 rfl rfl
theorem s122_28 : zz_Run zz_prog d 122 (28, [l0, l1, l2, l3, l4, l5], .int w :: .int v :: st, k, h) = zz_Run zz_prog d 122 (29, [l0, l1, l2, l3, l4, l5], .int (v + w) :: st, k, h) := zz_k_num f122_28 rfl
theorem f122_29 : zz_fetch zz_prog 122 29 = some (.iaload, 1, [], []) := zz_fetch_of p122 rfl rfl
theorem s122_29 (ha : zz_isrd a = true) : zz_Run zz_prog d 122 (29, [l0, l1, l2, l3, l4, l5], .int v :: .ref a :: st, k, (zz_hp n I J ex)) = zz_ck (zz_in v (zz_ary n a)) (zz_Run zz_prog d 122 (30, [l0, l1, l2, l3, l4, l5], .int (I a v.toNatClampNeg) :: st, k, (zz_hp n I J ex))) := zz_k_iald f122_29 ha
theorem f122_30 : zz_fetch zz_prog 122 30 = some (.iadd, 1, [], []) := zz_fetch_of p122 rfl rfl
theorem s122_30 : zz_Run zz_prog d 122 (30, [l0, l1, l2, l3, l4, l5], .int w :: .int v :: st, k, h) = zz_Run zz_prog d 122 (31, [l0, l1, l2, l3, l4, l5], .int (v + w) :: st, k, h) := zz_k_num f122_30 rfl
theorem f122_31 : zz_fetch zz_prog 122 31 = some (.iaload, 1, [], []) := zz_fetch_of p122 rfl rfl
theorem s122_31 (ha : zz_isrd a = true) : zz_Run zz_prog d 122 (31, [l0, l1, l2, l3, l4, l5], .int v :: .ref a :: st, k, (zz_hp n I J ex)) = zz_ck (zz_in v (zz_ary n a)) (zz_Run zz_prog d 122 (32, [l0, l1, l2, l3, l4, l5], .int (I a v.toNatClampNeg) :: st, k, (zz_hp n I J ex))) := zz_k_iald f122_31 ha
theorem f122_32 : zz_fetch zz_prog 122 32 = some (.istore 5, 2, [], []) := zz_fetch_of p122 rfl rfl
theorem s122_32 : zz_Run zz_prog d 122 (32, [l0, l1, l2, l3, l4, l5], .int v :: st, k, h) = zz_sl l4 (zz_Run zz_prog d 122 (34, [l0, l1, l2, l3, l4, some (.int v)], st, k, h)) := zz_k_st (j := 5) (u := .int v) f122_32 rfl (fun q hq => by cases hq) rfl (show 5 < 6 by decide) (by cases l4 <;> rfl) rfl
theorem f122_34 : zz_fetch zz_prog 122 34 = some (.iload 5, 2, [], []) := zz_fetch_of p122 rfl rfl
theorem s122_34 : zz_Run zz_prog d 122 (34, [l0, l1, l2, l3, l4, some (.int v)], st, k, h) = zz_Run zz_prog d 122 (36, [l0, l1, l2, l3, l4, some (.int v)], .int v :: st, k, h) := zz_k_num f122_34 rfl
theorem f122_36 : zz_fetch zz_prog 122 36 = some (.iload_n 1, 1, [], []) := zz_fetch_of p122 rfl rfl
theorem s122_36 : zz_Run zz_prog d 122 (36, [l0, some (.int v), l2, l3, l4, l5], st, k, h) = zz_Run zz_prog d 122 (37, [l0, some (.int v), l2, l3, l4, l5], .int v :: st, k, h) := zz_k_num f122_36 rfl
theorem f122_37 : zz_fetch zz_prog 122 37 = some (.iconst 1, 1, [], []) := zz_fetch_of p122 rfl rfl
theorem s122_37 : zz_Run zz_prog d 122 (37, [l0, l1, l2, l3, l4, l5], st, k, h) = zz_Run zz_prog d 122 (38, [l0, l1, l2, l3, l4, l5], .int 1 :: st, k, h) := zz_k_num f122_37 rfl
theorem f122_38 : zz_fetch zz_prog 122 38 = some (.iadd, 1, [], []) := zz_fetch_of p122 rfl rfl
theorem s122_38 : zz_Run zz_prog d 122 (38, [l0, l1, l2, l3, l4, l5], .int w :: .int v :: st, k, h) = zz_Run zz_prog d 122 (39, [l0, l1, l2, l3, l4, l5], .int (v + w) :: st, k, h) := zz_k_num f122_38 rfl
theorem f122_39 : zz_fetch zz_prog 122 39 = some (.if_icmp .ne 9, 3, [48], []) := zz_fetch_of p122 rfl rfl
theorem s122_39 : zz_Run zz_prog d 122 (39, [l0, l1, l2, l3, l4, l5], .int w :: .int v :: st, k, h) = if ¬ v = w then zz_Run zz_prog d 122 (48, [l0, l1, l2, l3, l4, l5], st, k, h) else zz_Run zz_prog d 122 (42, [l0, l1, l2, l3, l4, l5], st, k, h) := zz_k_br (¬ v = w) rfl (zz_k_num f122_39 rfl)
theorem f122_42 : zz_fetch zz_prog 122 42 = some (.iload_n 3, 1, [], []) := zz_fetch_of p122 rfl rfl
theorem s122_42 : zz_Run zz_prog d 122 (42, [l0, l1, l2, some (.int v), l4, l5], st, k, h) = zz_Run zz_prog d 122 (43, [l0, l1, l2, some (.int v), l4, l5], .int v :: st, k, h) := zz_k_num f122_42 rfl
theorem f122_43 : zz_fetch zz_prog 122 43 = some (.iconst 1, 1, [], []) := zz_fetch_of p122 rfl rfl
theorem s122_43 : zz_Run zz_prog d 122 (43, [l0, l1, l2, l3, l4, l5], st, k, h) = zz_Run zz_prog d 122 (44, [l0, l1, l2, l3, l4, l5], .int 1 :: st, k, h) := zz_k_num f122_43 rfl
theorem f122_44 : zz_fetch zz_prog 122 44 = some (.iadd, 1, [], []) := zz_fetch_of p122 rfl rfl
theorem s122_44 : zz_Run zz_prog d 122 (44, [l0, l1, l2, l3, l4, l5], .int w :: .int v :: st, k, h) = zz_Run zz_prog d 122 (45, [l0, l1, l2, l3, l4, l5], .int (v + w) :: st, k, h) := zz_k_num f122_44 rfl
theorem f122_45 : zz_fetch zz_prog 122 45 = some (.goto 19, 3, [64], []) := zz_fetch_of p122 rfl rfl
theorem s122_45 : zz_Run zz_prog d 122 (45, [l0, l1, l2, l3, l4, l5], st, k, h) = zz_Run zz_prog d 122 (64, [l0, l1, l2, l3, l4, l5], st, k, h) := zz_k_num f122_45 rfl
theorem f122_48 : zz_fetch zz_prog 122 48 = some (.iload 5, 2, [], []) := zz_fetch_of p122 rfl rfl
theorem s122_48 : zz_Run zz_prog d 122 (48, [l0, l1, l2, l3, l4, some (.int v)], st, k, h) = zz_Run zz_prog d 122 (50, [l0, l1, l2, l3, l4, some (.int v)], .int v :: st, k, h) := zz_k_num f122_48 rfl
theorem f122_50 : zz_fetch zz_prog 122 50 = some (.iload_n 1, 1, [], []) := zz_fetch_of p122 rfl rfl
theorem s122_50 : zz_Run zz_prog d 122 (50, [l0, some (.int v), l2, l3, l4, l5], st, k, h) = zz_Run zz_prog d 122 (51, [l0, some (.int v), l2, l3, l4, l5], .int v :: st, k, h) := zz_k_num f122_50 rfl
theorem f122_51 : zz_fetch zz_prog 122 51 = some (.bipush 9, 2, [], []) := zz_fetch_of p122 rfl rfl
theorem s122_51 : zz_Run zz_prog d 122 (51, [l0, l1, l2, l3, l4, l5], st, k, h) = zz_Run zz_prog d 122 (53, [l0, l1, l2, l3, l4, l5], .int 9 :: st, k, h) := zz_k_num f122_51 (congrArg (fun u => some (53, [l0, l1, l2, l3, l4, l5], Value.int u :: st)) (by decide : (Int8.ofInt 9).toInt32 = 9))
theorem f122_53 : zz_fetch zz_prog 122 53 = some (.iadd, 1, [], []) := zz_fetch_of p122 rfl rfl
theorem s122_53 : zz_Run zz_prog d 122 (53, [l0, l1, l2, l3, l4, l5], .int w :: .int v :: st, k, h) = zz_Run zz_prog d 122 (54, [l0, l1, l2, l3, l4, l5], .int (v + w) :: st, k, h) := zz_k_num f122_53 rfl
theorem f122_54 : zz_fetch zz_prog 122 54 = some (.if_icmp .ne 9, 3, [63], []) := zz_fetch_of p122 rfl rfl
theorem s122_54 : zz_Run zz_prog d 122 (54, [l0, l1, l2, l3, l4, l5], .int w :: .int v :: st, k, h) = if ¬ v = w then zz_Run zz_prog d 122 (63, [l0, l1, l2, l3, l4, l5], st, k, h) else zz_Run zz_prog d 122 (57, [l0, l1, l2, l3, l4, l5], st, k, h) := zz_k_br (¬ v = w) rfl (zz_k_num f122_54 rfl)
theorem f122_57 : zz_fetch zz_prog 122 57 = some (.iload_n 3, 1, [], []) := zz_fetch_of p122 rfl rfl
theorem s122_57 : zz_Run zz_prog d 122 (57, [l0, l1, l2, some (.int v), l4, l5], st, k, h) = zz_Run zz_prog d 122 (58, [l0, l1, l2, some (.int v), l4, l5], .int v :: st, k, h) := zz_k_num f122_57 rfl
theorem f122_58 : zz_fetch zz_prog 122 58 = some (.iconst 2, 1, [], []) := zz_fetch_of p122 rfl rfl
theorem s122_58 : zz_Run zz_prog d 122 (58, [l0, l1, l2, l3, l4, l5], st, k, h) = zz_Run zz_prog d 122 (59, [l0, l1, l2, l3, l4, l5], .int 2 :: st, k, h) := zz_k_num f122_58 rfl
theorem f122_59 : zz_fetch zz_prog 122 59 = some (.iadd, 1, [], []) := zz_fetch_of p122 rfl rfl
theorem s122_59 : zz_Run zz_prog d 122 (59, [l0, l1, l2, l3, l4, l5], .int w :: .int v :: st, k, h) = zz_Run zz_prog d 122 (60, [l0, l1, l2, l3, l4, l5], .int (v + w) :: st, k, h) := zz_k_num f122_59 rfl
theorem f122_60 : zz_fetch zz_prog 122 60 = some (.goto 4, 3, [64], []) := zz_fetch_of p122 rfl rfl
theorem s122_60 : zz_Run zz_prog d 122 (60, [l0, l1, l2, l3, l4, l5], st, k, h) = zz_Run zz_prog d 122 (64, [l0, l1, l2, l3, l4, l5], st, k, h) := zz_k_num f122_60 rfl
theorem f122_63 : zz_fetch zz_prog 122 63 = some (.iload_n 3, 1, [], []) := zz_fetch_of p122 rfl rfl
theorem s122_63 : zz_Run zz_prog d 122 (63, [l0, l1, l2, some (.int v), l4, l5], st, k, h) = zz_Run zz_prog d 122 (64, [l0, l1, l2, some (.int v), l4, l5], .int v :: st, k, h) := zz_k_num f122_63 rfl
theorem f122_64 : zz_fetch zz_prog 122 64 = some (.istore_n 3, 1, [], []) := zz_fetch_of p122 rfl rfl
theorem s122_64 : zz_Run zz_prog d 122 (64, [l0, l1, l2, l3, l4, l5], .int v :: st, k, h) = zz_sl l2 (zz_Run zz_prog d 122 (65, [l0, l1, l2, some (.int v), l4, l5], st, k, h)) := zz_k_st (j := 3) (u := .int v) f122_64 rfl (fun q hq => by cases hq) rfl (show 3 < 6 by decide) (by cases l2 <;> rfl) rfl
theorem f122_65 : zz_fetch zz_prog 122 65 = some (.iinc 4 1, 3, [], []) := zz_fetch_of p122 rfl rfl
theorem s122_65 : zz_Run zz_prog d 122 (65, [l0, l1, l2, l3, some (.int v), l5], st, k, h) = zz_sl l3 (zz_Run zz_prog d 122 (68, [l0, l1, l2, l3, some (.int (v + 1)), l5], st, k, h)) := zz_k_st (j := 4) (u := .int (v + 1)) f122_65 rfl (fun q hq => by cases hq) rfl (show 4 < 6 by decide) (by cases l3 <;> rfl) rfl
theorem f122_68 : zz_fetch zz_prog 122 68 = some (.goto (-63), 3, [5], []) := zz_fetch_of p122 rfl rfl
theorem s122_68 : zz_Run zz_prog d 122 (68, [l0, l1, l2, l3, l4, l5], st, k, h) = zz_Run zz_prog d 122 (5, [l0, l1, l2, l3, l4, l5], st, k, h) := zz_k_num f122_68 rfl
theorem f122_71 : zz_fetch zz_prog 122 71 = some (.iload_n 3, 1, [], []) := zz_fetch_of p122 rfl rfl
theorem s122_71 : zz_Run zz_prog d 122 (71, [l0, l1, l2, some (.int v), l4, l5], st, k, h) = zz_Run zz_prog d 122 (72, [l0, l1, l2, some (.int v), l4, l5], .int v :: st, k, h) := zz_k_num f122_71 rfl
theorem f122_72 : zz_fetch zz_prog 122 72 = some (.ireturn, 1, [0], []) := zz_fetch_of p122 rfl rfl
theorem s122_72 : zz_Run zz_prog d 122 (72, [l0, l1, l2, l3, l4, l5], [.int v], k, h) = some (.inl (some (.int v)), k, h) := zz_k_stop f122_72 rfl rfl rfl
end S122
section S123
variable {d n j : Nat} {l0 l1 l2 l3 l4 l5 l6 : Option Value} {st : List Value} {k : Bool} {h : zz_H} {v w v1 v2 : Int32} {y y1 : Int64} {a a1 a2 : Nat} {b0 b1 b2 b3 b4 b5 b6 b7 b8 : Value} {I : Nat → Nat → Int32} {J : Nat → Nat → Int64} {ex : List (Nat × Nat)}
theorem p123 : zz_prog 123 = some zz_m123 := rfl
theorem e123 (g0 : Nat) (g1 : Int32) : zz_Call zz_prog (d + 1) 123 [.ref g0, .int g1] h = zz_Run zz_prog d 123 (0, [some (.ref g0), some (.int g1), none, none, none, none, none], [], true, h) := rfl
theorem t123 (pc : Nat) (L : List (Option Value)) : zz_th d 123 pc a L k h = some (.inr a, k, h) := zz_th_out p123 rfl
theorem f123_0 : zz_fetch zz_prog 123 0 = some (.iconst 0, 1, [], []) := zz_fetch_of p123 rfl rfl
theorem s123_0 : zz_Run zz_prog d 123 (0, [l0, l1, l2, l3, l4, l5, l6], st, k, h) = zz_Run zz_prog d 123 (1, [l0, l1, l2, l3, l4, l5, l6], .int 0 :: st, k, h) := zz_k_num f123_0 rfl
theorem f123_1 : zz_fetch zz_prog 123 1 = some (.istore_n 2, 1, [], []) := zz_fetch_of p123 rfl rfl
theorem s123_1 : zz_Run zz_prog d 123 (1, [l0, l1, l2, l3, l4, l5, l6], .int v :: st, k, h) = zz_sl l1 (zz_Run zz_prog d 123 (2, [l0, l1, some (.int v), l3, l4, l5, l6], st, k, h)) := zz_k_st (j := 2) (u := .int v) f123_1 rfl (fun q hq => by cases hq) rfl (show 2 < 7 by decide) (by cases l1 <;> rfl) rfl
theorem f123_2 : zz_fetch zz_prog 123 2 = some (.iconst 0, 1, [], []) := zz_fetch_of p123 rfl rfl
theorem s123_2 : zz_Run zz_prog d 123 (2, [l0, l1, l2, l3, l4, l5, l6], st, k, h) = zz_Run zz_prog d 123 (3, [l0, l1, l2, l3, l4, l5, l6], .int 0 :: st, k, h) := zz_k_num f123_2 rfl
theorem f123_3 : zz_fetch zz_prog 123 3 = some (.istore_n 3, 1, [], []) := zz_fetch_of p123 rfl rfl
theorem s123_3 : zz_Run zz_prog d 123 (3, [l0, l1, l2, l3, l4, l5, l6], .int v :: st, k, h) = zz_sl l2 (zz_Run zz_prog d 123 (4, [l0, l1, l2, some (.int v), l4, l5, l6], st, k, h)) := zz_k_st (j := 3) (u := .int v) f123_3 rfl (fun q hq => by cases hq) rfl (show 3 < 7 by decide) (by cases l2 <;> rfl) rfl
theorem f123_4 : zz_fetch zz_prog 123 4 = some (.iconst 0, 1, [], []) := zz_fetch_of p123 rfl rfl
theorem s123_4 : zz_Run zz_prog d 123 (4, [l0, l1, l2, l3, l4, l5, l6], st, k, h) = zz_Run zz_prog d 123 (5, [l0, l1, l2, l3, l4, l5, l6], .int 0 :: st, k, h) := zz_k_num f123_4 rfl
theorem f123_5 : zz_fetch zz_prog 123 5 = some (.istore 4, 2, [], []) := zz_fetch_of p123 rfl rfl
theorem s123_5 : zz_Run zz_prog d 123 (5, [l0, l1, l2, l3, l4, l5, l6], .int v :: st, k, h) = zz_sl l3 (zz_Run zz_prog d 123 (7, [l0, l1, l2, l3, some (.int v), l5, l6], st, k, h)) := zz_k_st (j := 4) (u := .int v) f123_5 rfl (fun q hq => by cases hq) rfl (show 4 < 7 by decide) (by cases l3 <;> rfl) rfl
theorem f123_7 : zz_fetch zz_prog 123 7 = some (.iload 4, 2, [], []) := zz_fetch_of p123 rfl rfl
theorem s123_7 : zz_Run zz_prog d 123 (7, [l0, l1, l2, l3, some (.int v), l5, l6], st, k, h) = zz_Run zz_prog d 123 (9, [l0, l1, l2, l3, some (.int v), l5, l6], .int v :: st, k, h) := zz_k_num f123_7 rfl
theorem f123_9 : zz_fetch zz_prog 123 9 = some (.aload_n 0, 1, [], []) := zz_fetch_of p123 rfl rfl
theorem s123_9 : zz_Run zz_prog d 123 (9, [some (.ref a), l1, l2, l3, l4, l5, l6], st, k, h) = zz_Run zz_prog d 123 (10, [some (.ref a), l1, l2, l3, l4, l5, l6], .ref a :: st, k, h) := zz_k_num f123_9 rfl
theorem f123_10 : zz_fetch zz_prog 123 10 = some (.getfield 105, 3, [2, 15, 0], []) := zz_fetch_of p123 rfl rfl
theorem s123_10 : zz_Run zz_prog d 123 (10, [l0, l1, l2, l3, l4, l5, l6], .ref 23 :: st, k, (zz_hp n I J ex)) = zz_Run zz_prog d 123 (13, [l0, l1, l2, l3, l4, l5, l6], .int (I 23 15) :: st, k, (zz_hp n I J ex)) := zz_k_go f123_10 rfl rfl rfl
theorem f123_13 : zz_fetch zz_prog 123 13 = some (.if_icmp .ge 45, 3, [58], []) := zz_fetch_of p123 rfl rfl
theorem s123_13 : zz_Run zz_prog d 123 (13, [l0, l1, l2, l3, l4, l5, l6], .int w :: .int v :: st, k, h) = if w ≤ v then zz_Run zz_prog d 123 (58, [l0, l1, l2, l3, l4, l5, l6], st, k, h) else zz_Run zz_prog d 123 (16, [l0, l1, l2, l3, l4, l5, l6], st, k, h) := zz_k_br (w ≤ v) rfl (zz_k_num f123_13 rfl)
theorem f123_16 : zz_fetch zz_prog 123 16 = some (.iload_n 2, 1, [], []) := zz_fetch_of p123 rfl rfl
theorem s123_16 : zz_Run zz_prog d 123 (16, [l0, l1, some (.int v), l3, l4, l5, l6], st, k, h) = zz_Run zz_prog d 123 (17, [l0, l1, some (.int v), l3, l4, l5, l6], .int v :: st, k, h) := zz_k_num f123_16 rfl
theorem f123_17 : zz_fetch zz_prog 123 17 = some (.aload_n 0, 1, [], []) := zz_fetch_of p123 rfl rfl
theorem s123_17 : zz_Run zz_prog d 123 (17, [some (.ref a), l1, l2, l3, l4, l5, l6], st, k, h) = zz_Run zz_prog d 123 (18, [some (.ref a), l1, l2, l3, l4, l5, l6], .ref a :: st, k, h) := zz_k_num f123_17 rfl
theorem f123_18 : zz_fetch zz_prog 123 18 = some (.getfield 67, 3, [2, 24, 3], []) := zz_fetch_of p123 rfl rfl
theorem s123_18 : zz_Run zz_prog d 123 (18, [l0, l1, l2, l3, l4, l5, l6], .ref 23 :: st, k, (zz_hp n I J ex)) = zz_Run zz_prog d 123 (21, [l0, l1, l2, l3, l4, l5, l6], .ref 43 :: st, k, (zz_hp n I J ex)) := zz_k_go f123_18 rfl rfl rfl
theorem f123_21 : zz_fetch zz_prog 123 21 = some (.iconst 5, 1, [], []) := zz_fetch_of p123 rfl rfl
theorem s123_21 : zz_Run zz_prog d 123 (21, [l0, l1, l2, l3, l4, l5, l6], st, k, h) = zz_Run zz_prog d 123 (22, [l0, l1, l2, l3, l4, l5, l6], .int 5 :: st, k, h) := zz_k_num f123_21 rfl
theorem f123_22 : zz_fetch zz_prog 123 22 = some (.iload 4, 2, [], []) := zz_fetch_of p123 rfl rfl
theorem s123_22 : zz_Run zz_prog d 123 (22, [l0, l1, l2, l3, some (.int v), l5, l6], st, k, h) = zz_Run zz_prog d 123 (24, [l0, l1, l2, l3, some (.int v), l5, l6], .int v :: st, k, h) := zz_k_num f123_22 rfl
theorem f123_24 : zz_fetch zz_prog 123 24 = some (.imul, 1, [], []) := zz_fetch_of p123 rfl rfl
theorem s123_24 : zz_Run zz_prog d 123 (24, [l0, l1, l2, l3, l4, l5, l6], .int w :: .int v :: st, k, h) = zz_Run zz_prog d 123 (25, [l0, l1, l2, l3, l4, l5, l6], .int (v * w) :: st, k, h) := zz_k_num f123_24 rfl
theorem f123_25 : zz_fetch zz_prog 123 25 = some (.iload_n 1, 1, [], []) := zz_fetch_of p123 rfl rfl
theorem s123_25 : zz_Run zz_prog d 123 (25, [l0, some (.int v), l2, l3, l4, l5, l6], st, k, h) = zz_Run zz_prog d 123 (26, [l0, some (.int v), l2, l3, l4, l5, l6], .int v :: st, k, h) := zz_k_num f123_25 rfl
theorem f123_26 : zz_fetch zz_prog 123 26 = some (.iadd, 1, [], []) := zz_fetch_of p123 rfl rfl
theorem s123_26 : zz_Run zz_prog d 123 (26, [l0, l1, l2, l3, l4, l5, l6], .int w :: .int v :: st, k, h) = zz_Run zz_prog d 123 (27, [l0, l1, l2, l3, l4, l5, l6], .int (v + w) :: st, k, h) := zz_k_num f123_26 rfl
theorem f123_27 : zz_fetch zz_prog 123 27 = some (.iaload, 1, [], []) := zz_fetch_of p123 rfl rfl
theorem s123_27 (ha : zz_isrd a = true) : zz_Run zz_prog d 123 (27, [l0, l1, l2, l3, l4, l5, l6], .int v :: .ref a :: st, k, (zz_hp n I J ex)) = zz_ck (zz_in v (zz_ary n a)) (zz_Run zz_prog d 123 (28, [l0, l1, l2, l3, l4, l5, l6], .int (I a v.toNatClampNeg) :: st, k, (zz_hp n I J ex))) := zz_k_iald f123_27 ha
theorem f123_28 : zz_fetch zz_prog 123 28 = some (.iadd, 1, [], []) := zz_fetch_of p123 rfl rfl
theorem s123_28 : zz_Run zz_prog d 123 (28, [l0, l1, l2, l3, l4, l5, l6], .int w :: .int v :: st, k, h) = zz_Run zz_prog d 123 (29, [l0, l1, l2, l3, l4, l5, l6], .int (v + w) :: st, k, h) := zz_k_num f123_28 rfl
theorem f123_29 : zz_fetch zz_prog 123 29 = some (.istore_n 2, 1, [], []) := zz_fetch_of p123 rfl rfl
theorem s123_29 : zz_Run zz_prog d 123 (29, [l0, l1, l2, l3, l4, l5, l6], .int v :: st, k, h) = zz_sl l1 (zz_Run zz_prog d 123 (30, [l0, l1, some (.int v), l3, l4, l5, l6], st, k, h)) := zz_k_st (j := 2) (u := .int v) f123_29 rfl (fun q hq => by cases hq) rfl (show 2 < 7 by decide) (by cases l1 <;> rfl) rfl
theorem f123_30 : zz_fetch zz_prog 123 30 = some (.aload_n 0, 1, [], []) := zz_fetch_of p123 rfl rfl
theorem s123_30 : zz_Run zz_prog d 123 (30, [some (.ref a), l1, l2, l3, l4, l5, l6], st, k, h) = zz_Run zz_prog d 123 (31, [some (.ref a), l1, l2, l3, l4, l5, l6], .ref a :: st, k, h) := zz_k_num f123_30 rfl
theorem f123_31 : zz_fetch zz_prog 123 31 = some (.getfield 67, 3, [2, 24, 3], []) := zz_fetch_of p123 rfl rfl
theorem s123_31 : zz_Run zz_prog d 123 (31, [l0, l1, l2, l3, l4, l5, l6], .ref 23 :: st, k, (zz_hp n I J ex)) = zz_Run zz_prog d 123 (34, [l0, l1, l2, l3, l4, l5, l6], .ref 43 :: st, k, (zz_hp n I J ex)) := zz_k_go f123_31 rfl rfl rfl
theorem f123_34 : zz_fetch zz_prog 123 34 = some (.iconst 5, 1, [], []) := zz_fetch_of p123 rfl rfl
theorem s123_34 : zz_Run zz_prog d 123 (34, [l0, l1, l2, l3, l4, l5, l6], st, k, h) = zz_Run zz_prog d 123 (35, [l0, l1, l2, l3, l4, l5, l6], .int 5 :: st, k, h) := zz_k_num f123_34 rfl
theorem f123_35 : zz_fetch zz_prog 123 35 = some (.iload 4, 2, [], []) := zz_fetch_of p123 rfl rfl
theorem s123_35 : zz_Run zz_prog d 123 (35, [l0, l1, l2, l3, some (.int v), l5, l6], st, k, h) = zz_Run zz_prog d 123 (37, [l0, l1, l2, l3, some (.int v), l5, l6], .int v :: st, k, h) := zz_k_num f123_35 rfl
theorem f123_37 : zz_fetch zz_prog 123 37 = some (.imul, 1, [], []) := zz_fetch_of p123 rfl rfl
theorem s123_37 : zz_Run zz_prog d 123 (37, [l0, l1, l2, l3, l4, l5, l6], .int w :: .int v :: st, k, h) = zz_Run zz_prog d 123 (38, [l0, l1, l2, l3, l4, l5, l6], .int (v * w) :: st, k, h) := zz_k_num f123_37 rfl
theorem f123_38 : zz_fetch zz_prog 123 38 = some (.iload_n 1, 1, [], []) := zz_fetch_of p123 rfl rfl
theorem s123_38 : zz_Run zz_prog d 123 (38, [l0, some (.int v), l2, l3, l4, l5, l6], st, k, h) = zz_Run zz_prog d 123 (39, [l0, some (.int v), l2, l3, l4, l5, l6], .int v :: st, k, h) := zz_k_num f123_38 rfl
theorem f123_39 : zz_fetch zz_prog 123 39 = some (.iadd, 1, [], []) := zz_fetch_of p123 rfl rfl
theorem s123_39 : zz_Run zz_prog d 123 (39, [l0, l1, l2, l3, l4, l5, l6], .int w :: .int v :: st, k, h) = zz_Run zz_prog d 123 (40, [l0, l1, l2, l3, l4, l5, l6], .int (v + w) :: st, k, h) := zz_k_num f123_39 rfl
theorem f123_40 : zz_fetch zz_prog 123 40 = some (.iaload, 1, [], []) := zz_fetch_of p123 rfl rfl
theorem s123_40 (ha : zz_isrd a = true) : zz_Run zz_prog d 123 (40, [l0, l1, l2, l3, l4, l5, l6], .int v :: .ref a :: st, k, (zz_hp n I J ex)) = zz_ck (zz_in v (zz_ary n a)) (zz_Run zz_prog d 123 (41, [l0, l1, l2, l3, l4, l5, l6], .int (I a v.toNatClampNeg) :: st, k, (zz_hp n I J ex))) := zz_k_iald f123_40 ha
theorem f123_41 : zz_fetch zz_prog 123 41 = some (.ifCond .le 9, 3, [50], []) := zz_fetch_of p123 rfl rfl
theorem s123_41 : zz_Run zz_prog d 123 (41, [l0, l1, l2, l3, l4, l5, l6], .int v :: st, k, h) = if v ≤ 0 then zz_Run zz_prog d 123 (50, [l0, l1, l2, l3, l4, l5, l6], st, k, h) else zz_Run zz_prog d 123 (44, [l0, l1, l2, l3, l4, l5, l6], st, k, h) := zz_k_br (v ≤ 0) rfl (zz_k_num f123_41 rfl)
theorem f123_44 : zz_fetch zz_prog 123 44 = some (.iload_n 3, 1, [], []) := zz_fetch_of p123 rfl rfl
theorem s123_44 : zz_Run zz_prog d 123 (44, [l0, l1, l2, some (.int v), l4, l5, l6], st, k, h) = zz_Run zz_prog d 123 (45, [l0, l1, l2, some (.int v), l4, l5, l6], .int v :: st, k, h) := zz_k_num f123_44 rfl
theorem f123_45 : zz_fetch zz_prog 123 45 = some (.iconst 1, 1, [], []) := zz_fetch_of p123 rfl rfl
theorem s123_45 : zz_Run zz_prog d 123 (45, [l0, l1, l2, l3, l4, l5, l6], st, k, h) = zz_Run zz_prog d 123 (46, [l0, l1, l2, l3, l4, l5, l6], .int 1 :: st, k, h) := zz_k_num f123_45 rfl
theorem f123_46 : zz_fetch zz_prog 123 46 = some (.iadd, 1, [], []) := zz_fetch_of p123 rfl rfl
theorem s123_46 : zz_Run zz_prog d 123 (46, [l0, l1, l2, l3, l4, l5, l6], .int w :: .int v :: st, k, h) = zz_Run zz_prog d 123 (47, [l0, l1, l2, l3, l4, l5, l6], .int (v + w) :: st, k, h) := zz_k_num f123_46 rfl
theorem f123_47 : zz_fetch zz_prog 123 47 = some (.goto 4, 3, [51], []) := zz_fetch_of p123 rfl rfl
theorem s123_47 : zz_Run zz_prog d 123 (47, [l0, l1, l2, l3, l4, l5, l6], st, k, h) = zz_Run zz_prog d 123 (51, [l0, l1, l2, l3, l4, l5, l6], st, k, h) := zz_k_num f123_47 rfl
theorem f123_50 : zz_fetch zz_prog 123 50 = some (.iload_n 3, 1, [], []) := zz_fetch_of p123 rfl rfl
theorem s123_50 : zz_Run zz_prog d 123 (50, [l0, l1, l2, some (.int v), l4, l5, l6], st, k, h) = zz_Run zz_prog d 123 (51, [l0, l1, l2, some (.int v), l4, l5, l6], .int v :: st, k, h) := zz_k_num f123_50 rfl
theorem f123_51 : zz_fetch zz_prog 123 51 = some (.istore_n 3, 1, [], []) := zz_fetch_of p123 rfl rfl
theorem s123_51 : zz_Run zz_prog d 123 (51, [l0, l1, l2, l3, l4, l5, l6], .int v :: st, k, h) = zz_sl l2 (zz_Run zz_prog d 123 (52, [l0, l1, l2, some (.int v), l4, l5, l6], st, k, h)) := zz_k_st (j := 3) (u := .int v) f123_51 rfl (fun q hq => by cases hq) rfl (show 3 < 7 by decide) (by cases l2 <;> rfl) rfl
theorem f123_52 : zz_fetch zz_prog 123 52 = some (.iinc 4 1, 3, [], []) := zz_fetch_of p123 rfl rfl
theorem s123_52 : zz_Run zz_prog d 123 (52, [l0, l1, l2, l3, some (.int v), l5, l6], st, k, h) = zz_sl l3 (zz_Run zz_prog d 123 (55, [l0, l1, l2, l3, some (.int (v + 1)), l5, l6], st, k, h)) := zz_k_st (j := 4) (u := .int (v + 1)) f123_52 rfl (fun q hq => by cases hq) rfl (show 4 < 7 by decide) (by cases l3 <;> rfl) rfl
theorem f123_55 : zz_fetch zz_prog 123 55 = some (.goto (-48), 3, [7], []) := zz_fetch_of p123 rfl rfl
theorem s123_55 : zz_Run zz_prog d 123 (55, [l0, l1, l2, l3, l4, l5, l6], st, k, h) = zz_Run zz_prog d 123 (7, [l0, l1, l2, l3, l4, l5, l6], st, k, h) := zz_k_num f123_55 rfl
theorem f123_58 : zz_fetch zz_prog 123 58 = some (.aload_n 0, 1, [], []) := zz_fetch_of p123 rfl rfl
theorem s123_58 : zz_Run zz_prog d 123 (58, [some (.ref a), l1, l2, l3, l4, l5, l6], st, k, h) = zz_Run zz_prog d 123 (59, [some (.ref a), l1, l2, l3, l4, l5, l6], .ref a :: st, k, h) := zz_k_num f123_58 rfl
theorem f123_59 : zz_fetch zz_prog 123 59 = some (.getfield 7, 3, [2, 1, 3], []) := zz_fetch_of p123 rfl rfl
theorem s123_59 : zz_Run zz_prog d 123 (59, [l0, l1, l2, l3, l4, l5, l6], .ref 23 :: st, k, (zz_hp n I J ex)) = zz_Run zz_prog d 123 (62, [l0, l1, l2, l3, l4, l5, l6], .ref 24 :: st, k, (zz_hp n I J ex)) := zz_k_go f123_59 rfl rfl rfl
theorem f123_62 : zz_fetch zz_prog 123 62 = some (.sipush 146, 3, [], []) := zz_fetch_of p123 rfl rfl
theorem s123_62 : zz_Run zz_prog d 123 (62, [l0, l1, l2, l3, l4, l5, l6], st, k, h) = zz_Run zz_prog d 123 (65, [l0, l1, l2, l3, l4, l5, l6], .int 146 :: st, k, h) := zz_k_num f123_62 (congrArg (fun u => some (65, [l0, l1, l2, l3, l4, l5, l6], Value.int u :: st)) (by decide : (Int16.ofInt 146).toInt32 = 146))
theorem f123_65 : zz_fetch zz_prog 123 65 = some (.iload_n 1, 1, [], []) := zz_fetch_of p123 rfl rfl
theorem s123_65 : zz_Run zz_prog d 123 (65, [l0, some (.int v), l2, l3, l4, l5, l6], st, k, h) = zz_Run zz_prog d 123 (66, [l0, some (.int v), l2, l3, l4, l5, l6], .int v :: st, k, h) := zz_k_num f123_65 rfl
theorem f123_66 : zz_fetch zz_prog 123 66 = some (.iadd, 1, [], []) := zz_fetch_of p123 rfl rfl
theorem s123_66 : zz_Run zz_prog d 123 (66, [l0, l1, l2, l3, l4, l5, l6], .int w :: .int v :: st, k, h) = zz_Run zz_prog d 123 (67, [l0, l1, l2, l3, l4, l5, l6], .int (v + w) :: st, k, h) := zz_k_num f123_66 rfl
theorem f123_67 : zz_fetch zz_prog 123 67 = some (.iaload, 1, [], []) := zz_fetch_of p123 rfl rfl
theorem s123_67 (ha : zz_isrd a = true) : zz_Run zz_prog d 123 (67, [l0, l1, l2, l3, l4, l5, l6], .int v :: .ref a :: st, k, (zz_hp n I J ex)) = zz_ck (zz_in v (zz_ary n a)) (zz_Run zz_prog d 123 (68, [l0, l1, l2, l3, l4, l5, l6], .int (I a v.toNatClampNeg) :: st, k, (zz_hp n I J ex))) := zz_k_iald f123_67 ha
theorem f123_68 : zz_fetch zz_prog 123 68 = some (.istore 4, 2, [], []) := zz_fetch_of p123 rfl rfl
theorem s123_68 : zz_Run zz_prog d 123 (68, [l0, l1, l2, l3, l4, l5, l6], .int v :: st, k, h) = zz_sl l3 (zz_Run zz_prog d 123 (70, [l0, l1, l2, l3, some (.int v), l5, l6], st, k, h)) := zz_k_st (j := 4) (u := .int v) f123_68 rfl (fun q hq => by cases hq) rfl (show 4 < 7 by decide) (by cases l3 <;> rfl) rfl
theorem f123_70 : zz_fetch zz_prog 123 70 = some (.iload_n 2, 1, [], []) := zz_fetch_of p123 rfl rfl
theorem s123_70 : zz_Run zz_prog d 123 (70, [l0, l1, some (.int v), l3, l4, l5, l6], st, k, h) = zz_Run zz_prog d 123 (71, [l0, l1, some (.int v), l3, l4, l5, l6], .int v :: st, k, h) := zz_k_num f123_70 rfl
theorem f123_71 : zz_fetch zz_prog 123 71 = some (.iload 4, 2, [], []) := zz_fetch_of p123 rfl rfl
theorem s123_71 : zz_Run zz_prog d 123 (71, [l0, l1, l2, l3, some (.int v), l5, l6], st, k, h) = zz_Run zz_prog d 123 (73, [l0, l1, l2, l3, some (.int v), l5, l6], .int v :: st, k, h) := zz_k_num f123_71 rfl
theorem f123_73 : zz_fetch zz_prog 123 73 = some (.if_icmp .le 10, 3, [83], []) := zz_fetch_of p123 rfl rfl
theorem s123_73 : zz_Run zz_prog d 123 (73, [l0, l1, l2, l3, l4, l5, l6], .int w :: .int v :: st, k, h) = if v ≤ w then zz_Run zz_prog d 123 (83, [l0, l1, l2, l3, l4, l5, l6], st, k, h) else zz_Run zz_prog d 123 (76, [l0, l1, l2, l3, l4, l5, l6], st, k, h) := zz_k_br (v ≤ w) rfl (zz_k_num f123_73 rfl)
theorem f123_76 : zz_fetch zz_prog 123 76 = some (.iload_n 3, 1, [], []) := zz_fetch_of p123 rfl rfl
theorem s123_76 : zz_Run zz_prog d 123 (76, [l0, l1, l2, some (.int v), l4, l5, l6], st, k, h) = zz_Run zz_prog d 123 (77, [l0, l1, l2, some (.int v), l4, l5, l6], .int v :: st, k, h) := zz_k_num f123_76 rfl
theorem f123_77 : zz_fetch zz_prog 123 77 = some (.iconst 1, 1, [], []) := zz_fetch_of p123 rfl rfl
theorem s123_77 : zz_Run zz_prog d 123 (77, [l0, l1, l2, l3, l4, l5, l6], st, k, h) = zz_Run zz_prog d 123 (78, [l0, l1, l2, l3, l4, l5, l6], .int 1 :: st, k, h) := zz_k_num f123_77 rfl
theorem f123_78 : zz_fetch zz_prog 123 78 = some (.if_icmp .le 5, 3, [83], []) := zz_fetch_of p123 rfl rfl
theorem s123_78 : zz_Run zz_prog d 123 (78, [l0, l1, l2, l3, l4, l5, l6], .int w :: .int v :: st, k, h) = if v ≤ w then zz_Run zz_prog d 123 (83, [l0, l1, l2, l3, l4, l5, l6], st, k, h) else zz_Run zz_prog d 123 (81, [l0, l1, l2, l3, l4, l5, l6], st, k, h) := zz_k_br (v ≤ w) rfl (zz_k_num f123_78 rfl)
theorem f123_81 : zz_fetch zz_prog 123 81 = some (.iconst 0, 1, [], []) := zz_fetch_of p123 rfl rfl
theorem s123_81 : zz_Run zz_prog d 123 (81, [l0, l1, l2, l3, l4, l5, l6], st, k, h) = zz_Run zz_prog d 123 (82, [l0, l1, l2, l3, l4, l5, l6], .int 0 :: st, k, h) := zz_k_num f123_81 rfl
theorem f123_82 : zz_fetch zz_prog 123 82 = some (.ireturn, 1, [0], []) := zz_fetch_of p123 rfl rfl
theorem s123_82 : zz_Run zz_prog d 123 (82, [l0, l1, l2, l3, l4, l5, l6], [.int v], k, h) = some (.inl (some (.int v)), k, h) := zz_k_stop f123_82 rfl rfl rfl
theorem f123_83 : zz_fetch zz_prog 123 83 = some (.iload_n 2, 1, [], []) := zz_fetch_of p123 rfl rfl
theorem s123_83 : zz_Run zz_prog d 123 (83, [l0, l1, some (.int v), l3, l4, l5, l6], st, k, h) = zz_Run zz_prog d 123 (84, [l0, l1, some (.int v), l3, l4, l5, l6], .int v :: st, k, h) := zz_k_num f123_83 rfl
theorem f123_84 : zz_fetch zz_prog 123 84 = some (.iload 4, 2, [], []) := zz_fetch_of p123 rfl rfl
theorem s123_84 : zz_Run zz_prog d 123 (84, [l0, l1, l2, l3, some (.int v), l5, l6], st, k, h) = zz_Run zz_prog d 123 (86, [l0, l1, l2, l3, some (.int v), l5, l6], .int v :: st, k, h) := zz_k_num f123_84 rfl
theorem f123_86 : zz_fetch zz_prog 123 86 = some (.if_icmp .le 8, 3, [94], []) := zz_fetch_of p123 rfl rfl
theorem s123_86 : zz_Run zz_prog d 123 (86, [l0, l1, l2, l3, l4, l5, l6], .int w :: .int v :: st, k, h) = if v ≤ w then zz_Run zz_prog d 123 (94, [l0, l1, l2, l3, l4, l5, l6], st, k, h) else zz_Run zz_prog d 123 (89, [l0, l1, l2, l3, l4, l5, l6], st, k, h) := zz_k_br (v ≤ w) rfl (zz_k_num f123_86 rfl)
theorem f123_89 : zz_fetch zz_prog 123 89 = some (.iload 4, 2, [], []) := zz_fetch_of p123 rfl rfl
theorem s123_89 : zz_Run zz_prog d 123 (89, [l0, l1, l2, l3, some (.int v), l5, l6], st, k, h) = zz_Run zz_prog d 123 (91, [l0, l1, l2, l3, some (.int v), l5, l6], .int v :: st, k, h) := zz_k_num f123_89 rfl
theorem f123_91 : zz_fetch zz_prog 123 91 = some (.goto 4, 3, [95], []) := zz_fetch_of p123 rfl rfl
theorem s123_91 : zz_Run zz_prog d 123 (91, [l0, l1, l2, l3, l4, l5, l6], st, k, h) = zz_Run zz_prog d 123 (95, [l0, l1, l2, l3, l4, l5, l6], st, k, h) := zz_k_num f123_91 rfl
theorem f123_94 : zz_fetch zz_prog 123 94 = some (.iload_n 2, 1, [], []) := zz_fetch_of p123 rfl rfl
theorem s123_94 : zz_Run zz_prog d 123 (94, [l0, l1, some (.int v), l3, l4, l5, l6], st, k, h) = zz_Run zz_prog d 123 (95, [l0, l1, some (.int v), l3, l4, l5, l6], .int v :: st, k, h) := zz_k_num f123_94 rfl
theorem f123_95 : zz_fetch zz_prog 123 95 = some (.istore 5, 2, [], []) := zz_fetch_of p123 rfl rfl
theorem s123_95 : zz_Run zz_prog d 123 (95, [l0, l1, l2, l3, l4, l5, l6], .int v :: st, k, h) = zz_sl l4 (zz_Run zz_prog d 123 (97, [l0, l1, l2, l3, l4, some (.int v), l6], st, k, h)) := zz_k_st (j := 5) (u := .int v) f123_95 rfl (fun q hq => by cases hq) rfl (show 5 < 7 by decide) (by cases l4 <;> rfl) rfl
theorem f123_97 : zz_fetch zz_prog 123 97 = some (.iconst 0, 1, [], []) := zz_fetch_of p123 rfl rfl
theorem s123_97 : zz_Run zz_prog d 123 (97, [l0, l1, l2, l3, l4, l5, l6], st, k, h) = zz_Run zz_prog d 123 (98, [l0, l1, l2, l3, l4, l5, l6], .int 0 :: st, k, h) := zz_k_num f123_97 rfl
theorem f123_98 : zz_fetch zz_prog 123 98 = some (.istore 6, 2, [], []) := zz_fetch_of p123 rfl rfl
theorem s123_98 : zz_Run zz_prog d 123 (98, [l0, l1, l2, l3, l4, l5, l6], .int v :: st, k, h) = zz_sl l5 (zz_Run zz_prog d 123 (100, [l0, l1, l2, l3, l4, l5, some (.int v)], st, k, h)) := zz_k_st (j := 6) (u := .int v) f123_98 rfl (fun q hq => by cases hq) rfl (show 6 < 7 by decide) (by cases l5 <;> rfl) rfl
theorem f123_100 : zz_fetch zz_prog 123 100 = some (.iload 6, 2, [], []) := zz_fetch_of p123 rfl rfl
theorem s123_100 : zz_Run zz_prog d 123 (100, [l0, l1, l2, l3, l4, l5, some (.int v)], st, k, h) = zz_Run zz_prog d 123 (102, [l0, l1, l2, l3, l4, l5, some (.int v)], .int v :: st, k, h) := zz_k_num f123_100 rfl
theorem f123_102 : zz_fetch zz_prog 123 102 = some (.aload_n 0, 1, [], []) := zz_fetch_of p123 rfl rfl
theorem s123_102 : zz_Run zz_prog d 123 (102, [some (.ref a), l1, l2, l3, l4, l5, l6], st, k, h) = zz_Run zz_prog d 123 (103, [some (.ref a), l1, l2, l3, l4, l5, l6], .ref a :: st, k, h) := zz_k_num f123_102 rfl
theorem f123_103 : zz_fetch zz_prog 123 103 = some (.getfield 105, 3, [2, 15, 0], []) := zz_fetch_of p123 rfl rfl
theorem s123_103 : zz_Run zz_prog d 123 (103, [l0, l1, l2, l3, l4, l5, l6], .ref 23 :: st, k, (zz_hp n I J ex)) = zz_Run zz_prog d 123 (106, [l0, l1, l2, l3, l4, l5, l6], .int (I 23 15) :: st, k, (zz_hp n I J ex)) := zz_k_go f123_103 rfl rfl rfl
theorem f123_106 : zz_fetch zz_prog 123 106 = some (.if_icmp .ge 61, 3, [167], []) := zz_fetch_of p123 rfl rfl
theorem s123_106 : zz_Run zz_prog d 123 (106, [l0, l1, l2, l3, l4, l5, l6], .int w :: .int v :: st, k, h) = if w ≤ v then zz_Run zz_prog d 123 (167, [l0, l1, l2, l3, l4, l5, l6], st, k, h) else zz_Run zz_prog d 123 (109, [l0, l1, l2, l3, l4, l5, l6], st, k, h) := zz_k_br (w ≤ v) rfl (zz_k_num f123_106 rfl)
theorem f123_109 : zz_fetch zz_prog 123 109 = some (.aload_n 0, 1, [], []) := zz_fetch_of p123 rfl rfl
theorem s123_109 : zz_Run zz_prog d 123 (109, [some (.ref a), l1, l2, l3, l4, l5, l6], st, k, h) = zz_Run zz_prog d 123 (110, [some (.ref a), l1, l2, l3, l4, l5, l6], .ref a :: st, k, h) := zz_k_num f123_109 rfl
theorem f123_110 : zz_fetch zz_prog 123 110 = some (.getfield 67, 3, [2, 24, 3], []) := zz_fetch_of p123 rfl rfl
theorem s123_110 : zz_Run zz_prog d 123 (110, [l0, l1, l2, l3, l4, l5, l6], .ref 23 :: st, k, (zz_hp n I J ex)) = zz_Run zz_prog d 123 (113, [l0, l1, l2, l3, l4, l5, l6], .ref 43 :: st, k, (zz_hp n I J ex)) := zz_k_go f123_110 rfl rfl rfl
theorem f123_113 : zz_fetch zz_prog 123 113 = some (.iconst 5, 1, [], []) := zz_fetch_of p123 rfl rfl
theorem s123_113 : zz_Run zz_prog d 123 (113, [l0, l1, l2, l3, l4, l5, l6], st, k, h) = zz_Run zz_prog d 123 (114, [l0, l1, l2, l3, l4, l5, l6], .int 5 :: st, k, h) := zz_k_num f123_113 rfl
theorem f123_114 : zz_fetch zz_prog 123 114 = some (.iload 6, 2, [], []) := zz_fetch_of p123 rfl rfl
theorem s123_114 : zz_Run zz_prog d 123 (114, [l0, l1, l2, l3, l4, l5, some (.int v)], st, k, h) = zz_Run zz_prog d 123 (116, [l0, l1, l2, l3, l4, l5, some (.int v)], .int v :: st, k, h) := zz_k_num f123_114 rfl
theorem f123_116 : zz_fetch zz_prog 123 116 = some (.imul, 1, [], []) := zz_fetch_of p123 rfl rfl
theorem s123_116 : zz_Run zz_prog d 123 (116, [l0, l1, l2, l3, l4, l5, l6], .int w :: .int v :: st, k, h) = zz_Run zz_prog d 123 (117, [l0, l1, l2, l3, l4, l5, l6], .int (v * w) :: st, k, h) := zz_k_num f123_116 rfl
theorem f123_117 : zz_fetch zz_prog 123 117 = some (.iload_n 1, 1, [], []) := zz_fetch_of p123 rfl rfl
theorem s123_117 : zz_Run zz_prog d 123 (117, [l0, some (.int v), l2, l3, l4, l5, l6], st, k, h) = zz_Run zz_prog d 123 (118, [l0, some (.int v), l2, l3, l4, l5, l6], .int v :: st, k, h) := zz_k_num f123_117 rfl
theorem f123_118 : zz_fetch zz_prog 123 118 = some (.iadd, 1, [], []) := zz_fetch_of p123 rfl rfl
theorem s123_118 : zz_Run zz_prog d 123 (118, [l0, l1, l2, l3, l4, l5, l6], .int w :: .int v :: st, k, h) = zz_Run zz_prog d 123 (119, [l0, l1, l2, l3, l4, l5, l6], .int (v + w) :: st, k, h) := zz_k_num f123_118 rfl
theorem f123_119 : zz_fetch zz_prog 123 119 = some (.iaload, 1, [], []) := zz_fetch_of p123 rfl rfl
theorem s123_119 (ha : zz_isrd a = true) : zz_Run zz_prog d 123 (119, [l0, l1, l2, l3, l4, l5, l6], .int v :: .ref a :: st, k, (zz_hp n I J ex)) = zz_ck (zz_in v (zz_ary n a)) (zz_Run zz_prog d 123 (120, [l0, l1, l2, l3, l4, l5, l6], .int (I a v.toNatClampNeg) :: st, k, (zz_hp n I J ex))) := zz_k_iald f123_119 ha
theorem f123_120 : zz_fetch zz_prog 123 120 = some (.ifCond .le 41, 3, [161], []) := zz_fetch_of p123 rfl rfl
theorem s123_120 : zz_Run zz_prog d 123 (120, [l0, l1, l2, l3, l4, l5, l6], .int v :: st, k, h) = if v ≤ 0 then zz_Run zz_prog d 123 (161, [l0, l1, l2, l3, l4, l5, l6], st, k, h) else zz_Run zz_prog d 123 (123, [l0, l1, l2, l3, l4, l5, l6], st, k, h) := zz_k_br (v ≤ 0) rfl (zz_k_num f123_120 rfl)
theorem f123_123 : zz_fetch zz_prog 123 123 = some (.aload_n 0, 1, [], []) := zz_fetch_of p123 rfl rfl
theorem s123_123 : zz_Run zz_prog d 123 (123, [some (.ref a), l1, l2, l3, l4, l5, l6], st, k, h) = zz_Run zz_prog d 123 (124, [some (.ref a), l1, l2, l3, l4, l5, l6], .ref a :: st, k, h) := zz_k_num f123_123 rfl
theorem f123_124 : zz_fetch zz_prog 123 124 = some (.getfield 7, 3, [2, 1, 3], []) := zz_fetch_of p123 rfl rfl
theorem s123_124 : zz_Run zz_prog d 123 (124, [l0, l1, l2, l3, l4, l5, l6], .ref 23 :: st, k, (zz_hp n I J ex)) = zz_Run zz_prog d 123 (127, [l0, l1, l2, l3, l4, l5, l6], .ref 24 :: st, k, (zz_hp n I J ex)) := zz_k_go f123_124 rfl rfl rfl
theorem f123_127 : zz_fetch zz_prog 123 127 = some (.bipush 126, 2, [], []) := zz_fetch_of p123 rfl rfl
theorem s123_127 : zz_Run zz_prog d 123 (127, [l0, l1, l2, l3, l4, l5, l6], st, k, h) = zz_Run zz_prog d 123 (129, [l0, l1, l2, l3, l4, l5, l6], .int 126 :: st, k, h) := zz_k_num f123_127 (congrArg (fun u => some (129, [l0, l1, l2, l3, l4, l5, l6], Value.int u :: st)) (by decide : (Int8.ofInt 126).toInt32 = 126))
theorem f123_129 : zz_fetch zz_prog 123 129 = some (.iconst 5, 1, [], []) := zz_fetch_of p123 rfl rfl
theorem s123_129 : zz_Run zz_prog d 123 (129, [l0, l1, l2, l3, l4, l5, l6], st, k, h) = zz_Run zz_prog d 123 (130, [l0, l1, l2, l3, l4, l5, l6], .int 5 :: st, k, h) := zz_k_num f123_129 rfl
theorem f123_130 : zz_fetch zz_prog 123 130 = some (.iload 6, 2, [], []) := zz_fetch_of p123 rfl rfl
theorem s123_130 : zz_Run zz_prog d 123 (130, [l0, l1, l2, l3, l4, l5, some (.int v)], st, k, h) = zz_Run zz_prog d 123 (132, [l0, l1, l2, l3, l4, l5, some (.int v)], .int v :: st, k, h) := zz_k_num f123_130 rfl
theorem f123_132 : zz_fetch zz_prog 123 132 = some (.imul, 1, [], []) := zz_fetch_of p123 rfl rfl
theorem s123_132 : zz_Run zz_prog d 123 (132, [l0, l1, l2, l3, l4, l5, l6], .int w :: .int v :: st, k, h) = zz_Run zz_prog d 123 (133, [l0, l1, l2, l3, l4, l5, l6], .int (v * w) :: st, k, h) := zz_k_num f123_132 rfl
theorem f123_133 : zz_fetch zz_prog 123 133 = some (.iadd, 1, [], []) := zz_fetch_of p123 rfl rfl
theorem s123_133 : zz_Run zz_prog d 123 (133, [l0, l1, l2, l3, l4, l5, l6], .int w :: .int v :: st, k, h) = zz_Run zz_prog d 123 (134, [l0, l1, l2, l3, l4, l5, l6], .int (v + w) :: st, k, h) := zz_k_num f123_133 rfl
theorem f123_134 : zz_fetch zz_prog 123 134 = some (.iload_n 1, 1, [], []) := zz_fetch_of p123 rfl rfl
theorem s123_134 : zz_Run zz_prog d 123 (134, [l0, some (.int v), l2, l3, l4, l5, l6], st, k, h) = zz_Run zz_prog d 123 (135, [l0, some (.int v), l2, l3, l4, l5, l6], .int v :: st, k, h) := zz_k_num f123_134 rfl
theorem f123_135 : zz_fetch zz_prog 123 135 = some (.iadd, 1, [], []) := zz_fetch_of p123 rfl rfl
theorem s123_135 : zz_Run zz_prog d 123 (135, [l0, l1, l2, l3, l4, l5, l6], .int w :: .int v :: st, k, h) = zz_Run zz_prog d 123 (136, [l0, l1, l2, l3, l4, l5, l6], .int (v + w) :: st, k, h) := zz_k_num f123_135 rfl
theorem f123_136 : zz_fetch zz_prog 123 136 = some (.dup2, 1, [], []) := zz_fetch_of p123 rfl rfl
theorem s123_136 : zz_Run zz_prog d 123 (136, [l0, l1, l2, l3, l4, l5, l6], .int v :: .ref a1 :: st, k, h) = zz_Run zz_prog d 123 (137, [l0, l1, l2, l3, l4, l5, l6], .int v :: .ref a1 :: .int v :: .ref a1 :: st, k, h) := zz_k_num f123_136 rfl
theorem f123_137 : zz_fetch zz_prog 123 137 = some (.iaload, 1, [], []) := zz_fetch_of p123 rfl rfl
theorem s123_137 (ha : zz_isrd a = true) : zz_Run zz_prog d 123 (137, [l0, l1, l2, l3, l4, l5, l6], .int v :: .ref a :: st, k, (zz_hp n I J ex)) = zz_ck (zz_in v (zz_ary n a)) (zz_Run zz_prog d 123 (138, [l0, l1, l2, l3, l4, l5, l6], .int (I a v.toNatClampNeg) :: st, k, (zz_hp n I J ex))) := zz_k_iald f123_137 ha
theorem f123_138 : zz_fetch zz_prog 123 138 = some (.iload_n 3, 1, [], []) := zz_fetch_of p123 rfl rfl
theorem s123_138 : zz_Run zz_prog d 123 (138, [l0, l1, l2, some (.int v), l4, l5, l6], st, k, h) = zz_Run zz_prog d 123 (139, [l0, l1, l2, some (.int v), l4, l5, l6], .int v :: st, k, h) := zz_k_num f123_138 rfl
theorem f123_139 : zz_fetch zz_prog 123 139 = some (.iconst 1, 1, [], []) := zz_fetch_of p123 rfl rfl
theorem s123_139 : zz_Run zz_prog d 123 (139, [l0, l1, l2, l3, l4, l5, l6], st, k, h) = zz_Run zz_prog d 123 (140, [l0, l1, l2, l3, l4, l5, l6], .int 1 :: st, k, h) := zz_k_num f123_139 rfl
theorem f123_140 : zz_fetch zz_prog 123 140 = some (.if_icmp .ne 8, 3, [148], []) := zz_fetch_of p123 rfl rfl
theorem s123_140 : zz_Run zz_prog d 123 (140, [l0, l1, l2, l3, l4, l5, l6], .int w :: .int v :: st, k, h) = if ¬ v = w then zz_Run zz_prog d 123 (148, [l0, l1, l2, l3, l4, l5, l6], st, k, h) else zz_Run zz_prog d 123 (143, [l0, l1, l2, l3, l4, l5, l6], st, k, h) := zz_k_br (¬ v = w) rfl (zz_k_num f123_140 rfl)
theorem f123_143 : zz_fetch zz_prog 123 143 = some (.iload 5, 2, [], []) := zz_fetch_of p123 rfl rfl
theorem s123_143 : zz_Run zz_prog d 123 (143, [l0, l1, l2, l3, l4, some (.int v), l6], st, k, h) = zz_Run zz_prog d 123 (145, [l0, l1, l2, l3, l4, some (.int v), l6], .int v :: st, k, h) := zz_k_num f123_143 rfl
theorem f123_145 : zz_fetch zz_prog 123 145 = some (.goto 14, 3, [159], []) := zz_fetch_of p123 rfl rfl
theorem s123_145 : zz_Run zz_prog d 123 (145, [l0, l1, l2, l3, l4, l5, l6], st, k, h) = zz_Run zz_prog d 123 (159, [l0, l1, l2, l3, l4, l5, l6], st, k, h) := zz_k_num f123_145 rfl
theorem f123_148 : zz_fetch zz_prog 123 148 = some (.aload_n 0, 1, [], []) := zz_fetch_of p123 rfl rfl
theorem s123_148 : zz_Run zz_prog d 123 (148, [some (.ref a), l1, l2, l3, l4, l5, l6], st, k, h) = zz_Run zz_prog d 123 (149, [some (.ref a), l1, l2, l3, l4, l5, l6], .ref a :: st, k, h) := zz_k_num f123_148 rfl
theorem f123_149 : zz_fetch zz_prog 123 149 = some (.getfield 67, 3, [2, 24, 3], []) := zz_fetch_of p123 rfl rfl
theorem s123_149 : zz_Run zz_prog d 123 (149, [l0, l1, l2, l3, l4, l5, l6], .ref 23 :: st, k, (zz_hp n I J ex)) = zz_Run zz_prog d 123 (152, [l0, l1, l2, l3, l4, l5, l6], .ref 43 :: st, k, (zz_hp n I J ex)) := zz_k_go f123_149 rfl rfl rfl
theorem f123_152 : zz_fetch zz_prog 123 152 = some (.iconst 5, 1, [], []) := zz_fetch_of p123 rfl rfl
theorem s123_152 : zz_Run zz_prog d 123 (152, [l0, l1, l2, l3, l4, l5, l6], st, k, h) = zz_Run zz_prog d 123 (153, [l0, l1, l2, l3, l4, l5, l6], .int 5 :: st, k, h) := zz_k_num f123_152 rfl
theorem f123_153 : zz_fetch zz_prog 123 153 = some (.iload 6, 2, [], []) := zz_fetch_of p123 rfl rfl
theorem s123_153 : zz_Run zz_prog d 123 (153, [l0, l1, l2, l3, l4, l5, some (.int v)], st, k, h) = zz_Run zz_prog d 123 (155, [l0, l1, l2, l3, l4, l5, some (.int v)], .int v :: st, k, h) := zz_k_num f123_153 rfl
theorem f123_155 : zz_fetch zz_prog 123 155 = some (.imul, 1, [], []) := zz_fetch_of p123 rfl rfl
theorem s123_155 : zz_Run zz_prog d 123 (155, [l0, l1, l2, l3, l4, l5, l6], .int w :: .int v :: st, k, h) = zz_Run zz_prog d 123 (156, [l0, l1, l2, l3, l4, l5, l6], .int (v * w) :: st, k, h) := zz_k_num f123_155 rfl
theorem f123_156 : zz_fetch zz_prog 123 156 = some (.iload_n 1, 1, [], []) := zz_fetch_of p123 rfl rfl
theorem s123_156 : zz_Run zz_prog d 123 (156, [l0, some (.int v), l2, l3, l4, l5, l6], st, k, h) = zz_Run zz_prog d 123 (157, [l0, some (.int v), l2, l3, l4, l5, l6], .int v :: st, k, h) := zz_k_num f123_156 rfl
theorem f123_157 : zz_fetch zz_prog 123 157 = some (.iadd, 1, [], []) := zz_fetch_of p123 rfl rfl
theorem s123_157 : zz_Run zz_prog d 123 (157, [l0, l1, l2, l3, l4, l5, l6], .int w :: .int v :: st, k, h) = zz_Run zz_prog d 123 (158, [l0, l1, l2, l3, l4, l5, l6], .int (v + w) :: st, k, h) := zz_k_num f123_157 rfl
theorem f123_158 : zz_fetch zz_prog 123 158 = some (.iaload, 1, [], []) := zz_fetch_of p123 rfl rfl
theorem s123_158 (ha : zz_isrd a = true) : zz_Run zz_prog d 123 (158, [l0, l1, l2, l3, l4, l5, l6], .int v :: .ref a :: st, k, (zz_hp n I J ex)) = zz_ck (zz_in v (zz_ary n a)) (zz_Run zz_prog d 123 (159, [l0, l1, l2, l3, l4, l5, l6], .int (I a v.toNatClampNeg) :: st, k, (zz_hp n I J ex))) := zz_k_iald f123_158 ha
theorem f123_159 : zz_fetch zz_prog 123 159 = some (.iadd, 1, [], []) := zz_fetch_of p123 rfl rfl
theorem s123_159 : zz_Run zz_prog d 123 (159, [l0, l1, l2, l3, l4, l5, l6], .int w :: .int v :: st, k, h) = zz_Run zz_prog d 123 (160, [l0, l1, l2, l3, l4, l5, l6], .int (v + w) :: st, k, h) := zz_k_num f123_159 rfl
theorem f123_160 : zz_fetch zz_prog 123 160 = some (.iastore, 1, [], []) := zz_fetch_of p123 rfl rfl
theorem s123_160 (ha : zz_isar a = true) : zz_Run zz_prog d 123 (160, [l0, l1, l2, l3, l4, l5, l6], .int w :: .int v :: .ref a :: st, k, (zz_hp n I J ex)) = zz_ck (zz_in v (zz_ary n a)) (zz_Run zz_prog d 123 (161, [l0, l1, l2, l3, l4, l5, l6], st, false, (zz_hp n (zz_up I a v.toNatClampNeg w) J ex))) := zz_k_iast f123_160 ha
theorem f123_161 : zz_fetch zz_prog 123 161 = some (.iinc 6 1, 3, [], []) := zz_fetch_of p123 rfl rfl
theorem s123_161 : zz_Run zz_prog d 123 (161, [l0, l1, l2, l3, l4, l5, some (.int v)], st, k, h) = zz_sl l5 (zz_Run zz_prog d 123 (164, [l0, l1, l2, l3, l4, l5, some (.int (v + 1))], st, k, h)) := zz_k_st (j := 6) (u := .int (v + 1)) f123_161 rfl (fun q hq => by cases hq) rfl (show 6 < 7 by decide) (by cases l5 <;> rfl) rfl
theorem f123_164 : zz_fetch zz_prog 123 164 = some (.goto (-64), 3, [100], []) := zz_fetch_of p123 rfl rfl
theorem s123_164 : zz_Run zz_prog d 123 (164, [l0, l1, l2, l3, l4, l5, l6], st, k, h) = zz_Run zz_prog d 123 (100, [l0, l1, l2, l3, l4, l5, l6], st, k, h) := zz_k_num f123_164 rfl
theorem f123_167 : zz_fetch zz_prog 123 167 = some (.aload_n 0, 1, [], []) := zz_fetch_of p123 rfl rfl
theorem s123_167 : zz_Run zz_prog d 123 (167, [some (.ref a), l1, l2, l3, l4, l5, l6], st, k, h) = zz_Run zz_prog d 123 (168, [some (.ref a), l1, l2, l3, l4, l5, l6], .ref a :: st, k, h) := zz_k_num f123_167 rfl
theorem f123_168 : zz_fetch zz_prog 123 168 = some (.getfield 7, 3, [2, 1, 3], []) := zz_fetch_of p123 rfl rfl
theorem s123_168 : zz_Run zz_prog d 123 (168, [l0, l1, l2, l3, l4, l5, l6], .ref 23 :: st, k, (zz_hp n I J ex)) = zz_Run zz_prog d 123 (171, [l0, l1, l2, l3, l4, l5, l6], .ref 24 :: st, k, (zz_hp n I J ex)) := zz_k_go f123_168 rfl rfl rfl
theorem f123_171 : zz_fetch zz_prog 123 171 = some (.sipush 146, 3, [], []) := zz_fetch_of p123 rfl rfl
theorem s123_171 : zz_Run zz_prog d 123 (171, [l0, l1, l2, l3, l4, l5, l6], st, k, h) = zz_Run zz_prog d 123 (174, [l0, l1, l2, l3, l4, l5, l6], .int 146 :: st, k, h) := zz_k_num f123_171 (congrArg (fun u => some (174, [l0, l1, l2, l3, l4, l5, l6], Value.int u :: st)) (by decide : (Int16.ofInt 146).toInt32 = 146))
theorem f123_174 : zz_fetch zz_prog 123 174 = some (.iload_n 1, 1, [], []) := zz_fetch_of p123 rfl rfl
theorem s123_174 : zz_Run zz_prog d 123 (174, [l0, some (.int v), l2, l3, l4, l5, l6], st, k, h) = zz_Run zz_prog d 123 (175, [l0, some (.int v), l2, l3, l4, l5, l6], .int v :: st, k, h) := zz_k_num f123_174 rfl
theorem f123_175 : zz_fetch zz_prog 123 175 = some (.iadd, 1, [], []) := zz_fetch_of p123 rfl rfl
theorem s123_175 : zz_Run zz_prog d 123 (175, [l0, l1, l2, l3, l4, l5, l6], .int w :: .int v :: st, k, h) = zz_Run zz_prog d 123 (176, [l0, l1, l2, l3, l4, l5, l6], .int (v + w) :: st, k, h) := zz_k_num f123_175 rfl
theorem f123_176 : zz_fetch zz_prog 123 176 = some (.dup2, 1, [], []) := zz_fetch_of p123 rfl rfl
theorem s123_176 : zz_Run zz_prog d 123 (176, [l0, l1, l2, l3, l4, l5, l6], .int v :: .ref a1 :: st, k, h) = zz_Run zz_prog d 123 (177, [l0, l1, l2, l3, l4, l5, l6], .int v :: .ref a1 :: .int v :: .ref a1 :: st, k, h) := zz_k_num f123_176 rfl
theorem f123_177 : zz_fetch zz_prog 123 177 = some (.iaload, 1, [], []) := zz_fetch_of p123 rfl rfl
theorem s123_177 (ha : zz_isrd a = true) : zz_Run zz_prog d 123 (177, [l0, l1, l2, l3, l4, l5, l6], .int v :: .ref a :: st, k, (zz_hp n I J ex)) = zz_ck (zz_in v (zz_ary n a)) (zz_Run zz_prog d 123 (178, [l0, l1, l2, l3, l4, l5, l6], .int (I a v.toNatClampNeg) :: st, k, (zz_hp n I J ex))) := zz_k_iald f123_177 ha
theorem f123_178 : zz_fetch zz_prog 123 178 = some (.iload 5, 2, [], []) := zz_fetch_of p123 rfl rfl
theorem s123_178 : zz_Run zz_prog d 123 (178, [l0, l1, l2, l3, l4, some (.int v), l6], st, k, h) = zz_Run zz_prog d 123 (180, [l0, l1, l2, l3, l4, some (.int v), l6], .int v :: st, k, h) := zz_k_num f123_178 rfl
theorem f123_180 : zz_fetch zz_prog 123 180 = some (.isub, 1, [], []) := zz_fetch_of p123 rfl rfl
theorem s123_180 : zz_Run zz_prog d 123 (180, [l0, l1, l2, l3, l4, l5, l6], .int w :: .int v :: st, k, h) = zz_Run zz_prog d 123 (181, [l0, l1, l2, l3, l4, l5, l6], .int (v - w) :: st, k, h) := zz_k_num f123_180 rfl
theorem f123_181 : zz_fetch zz_prog 123 181 = some (.iastore, 1, [], []) := zz_fetch_of p123 rfl rfl
theorem s123_181 (ha : zz_isar a = true) : zz_Run zz_prog d 123 (181, [l0, l1, l2, l3, l4, l5, l6], .int w :: .int v :: .ref a :: st, k, (zz_hp n I J ex)) = zz_ck (zz_in v (zz_ary n a)) (zz_Run zz_prog d 123 (182, [l0, l1, l2, l3, l4, l5, l6], st, false, (zz_hp n (zz_up I a v.toNatClampNeg w) J ex))) := zz_k_iast f123_181 ha
theorem f123_182 : zz_fetch zz_prog 123 182 = some (.iload 5, 2, [], []) := zz_fetch_of p123 rfl rfl
theorem s123_182 : zz_Run zz_prog d 123 (182, [l0, l1, l2, l3, l4, some (.int v), l6], st, k, h) = zz_Run zz_prog d 123 (184, [l0, l1, l2, l3, l4, some (.int v), l6], .int v :: st, k, h) := zz_k_num f123_182 rfl
theorem f123_184 : zz_fetch zz_prog 123 184 = some (.ireturn, 1, [0], []) := zz_fetch_of p123 rfl rfl
theorem s123_184 : zz_Run zz_prog d 123 (184, [l0, l1, l2, l3, l4, l5, l6], [.int v], k, h) = some (.inl (some (.int v)), k, h) := zz_k_stop f123_184 rfl rfl rfl
end S123
section S124
variable {d n j : Nat} {l0 l1 l2 l3 : Option Value} {st : List Value} {k : Bool} {h : zz_H} {v w v1 v2 : Int32} {y y1 : Int64} {a a1 a2 : Nat} {b0 b1 b2 b3 b4 b5 b6 b7 b8 : Value} {I : Nat → Nat → Int32} {J : Nat → Nat → Int64} {ex : List (Nat × Nat)}
theorem p124 : zz_prog 124 = some zz_m124 := rfl
theorem e124 (g0 : Nat) (g1 : Int32) : zz_Call zz_prog (d + 1) 124 [.ref g0, .int g1] h = zz_Run zz_prog d 124 (0, [some (.ref g0), some (.int g1), none, none], [], true, h) := rfl
theorem t124 (pc : Nat) (L : List (Option Value)) : zz_th d 124 pc a L k h = some (.inr a, k, h) := zz_th_out p124 rfl
theorem f124_0 : zz_fetch zz_prog 124 0 = some (.iconst 0, 1, [], []) := zz_fetch_of p124 rfl rfl
theorem s124_0 : zz_Run zz_prog d 124 (0, [l0, l1, l2, l3], st, k, h) = zz_Run zz_prog d 124 (1, [l0, l1, l2, l3], .int 0 :: st, k, h) := zz_k_num f124_0 rfl
theorem f124_1 : zz_fetch zz_prog 124 1 = some (.istore_n 2, 1, [], []) := zz_fetch_of p124 rfl rfl
theorem s124_1 : zz_Run zz_prog d 124 (1, [l0, l1, l2, l3], .int v :: st, k, h) = zz_sl l1 (zz_Run zz_prog d 124 (2, [l0, l1, some (.int v), l3], st, k, h)) := zz_k_st (j := 2) (u := .int v) f124_1 rfl (fun q hq => by cases hq) rfl (show 2 < 4 by decide) (by cases l1 <;> rfl) rfl
theorem f124_2 : zz_fetch zz_prog 124 2 = some (.iconst 0, 1, [], []) := zz_fetch_of p124 rfl rfl
theorem s124_2 : zz_Run zz_prog d 124 (2, [l0, l1, l2, l3], st, k, h) = zz_Run zz_prog d 124 (3, [l0, l1, l2, l3], .int 0 :: st, k, h) := zz_k_num f124_2 rfl
theorem f124_3 : zz_fetch zz_prog 124 3 = some (.istore_n 3, 1, [], []) := zz_fetch_of p124 rfl rfl
theorem s124_3 : zz_Run zz_prog d 124 (3, [l0, l1, l2, l3], .int v :: st, k, h) = zz_sl l2 (zz_Run zz_prog d 124 (4, [l0, l1, l2, some (.int v)], st, k, h)) := zz_k_st (j := 3) (u := .int v) f124_3 rfl (fun q hq => by cases hq) rfl (show 3 < 4 by decide) (by cases l2 <;> rfl) rfl
theorem f124_4 : zz_fetch zz_prog 124 4 = some (.iload_n 3, 1, [], []) := zz_fetch_of p124 rfl rfl
theorem s124_4 : zz_Run zz_prog d 124 (4, [l0, l1, l2, some (.int v)], st, k, h) = zz_Run zz_prog d 124 (5, [l0, l1, l2, some (.int v)], .int v :: st, k, h) := zz_k_num f124_4 rfl
theorem f124_5 : zz_fetch zz_prog 124 5 = some (.iconst 5, 1, [], []) := zz_fetch_of p124 rfl rfl
theorem s124_5 : zz_Run zz_prog d 124 (5, [l0, l1, l2, l3], st, k, h) = zz_Run zz_prog d 124 (6, [l0, l1, l2, l3], .int 5 :: st, k, h) := zz_k_num f124_5 rfl
theorem f124_6 : zz_fetch zz_prog 124 6 = some (.if_icmp .ge 25, 3, [31], []) := zz_fetch_of p124 rfl rfl
theorem s124_6 : zz_Run zz_prog d 124 (6, [l0, l1, l2, l3], .int w :: .int v :: st, k, h) = if w ≤ v then zz_Run zz_prog d 124 (31, [l0, l1, l2, l3], st, k, h) else zz_Run zz_prog d 124 (9, [l0, l1, l2, l3], st, k, h) := zz_k_br (w ≤ v) rfl (zz_k_num f124_6 rfl)
theorem f124_9 : zz_fetch zz_prog 124 9 = some (.iload_n 2, 1, [], []) := zz_fetch_of p124 rfl rfl
theorem s124_9 : zz_Run zz_prog d 124 (9, [l0, l1, some (.int v), l3], st, k, h) = zz_Run zz_prog d 124 (10, [l0, l1, some (.int v), l3], .int v :: st, k, h) := zz_k_num f124_9 rfl
theorem f124_10 : zz_fetch zz_prog 124 10 = some (.aload_n 0, 1, [], []) := zz_fetch_of p124 rfl rfl
theorem s124_10 : zz_Run zz_prog d 124 (10, [some (.ref a), l1, l2, l3], st, k, h) = zz_Run zz_prog d 124 (11, [some (.ref a), l1, l2, l3], .ref a :: st, k, h) := zz_k_num f124_10 rfl
theorem f124_11 : zz_fetch zz_prog 124 11 = some (.getfield 7, 3, [2, 1, 3], []) := zz_fetch_of p124 rfl rfl
theorem s124_11 : zz_Run zz_prog d 124 (11, [l0, l1, l2, l3], .ref 23 :: st, k, (zz_hp n I J ex)) = zz_Run zz_prog d 124 (14, [l0, l1, l2, l3], .ref 24 :: st, k, (zz_hp n I J ex)) := zz_k_go f124_11 rfl rfl rfl
theorem f124_14 : zz_fetch zz_prog 124 14 = some (.bipush 126, 2, [], []) := zz_fetch_of p124 rfl rfl
theorem s124_14 : zz_Run zz_prog d 124 (14, [l0, l1, l2, l3], st, k, h) = zz_Run zz_prog d 124 (16, [l0, l1, l2, l3], .int 126 :: st, k, h) := zz_k_num f124_14 (congrArg (fun u => some (16, [l0, l1, l2, l3], Value.int u :: st)) (by decide : (Int8.ofInt 126).toInt32 = 126))
theorem f124_16 : zz_fetch zz_prog 124 16 = some (.iconst 5, 1, [], []) := zz_fetch_of p124 rfl rfl
theorem s124_16 : zz_Run zz_prog d 124 (16, [l0, l1, l2, l3], st, k, h) = zz_Run zz_prog d 124 (17, [l0, l1, l2, l3], .int 5 :: st, k, h) := zz_k_num f124_16 rfl
theorem f124_17 : zz_fetch zz_prog 124 17 = some (.iload_n 1, 1, [], []) := zz_fetch_of p124 rfl rfl
theorem s124_17 : zz_Run zz_prog d 124 (17, [l0, some (.int v), l2, l3], st, k, h) = zz_Run zz_prog d 124 (18, [l0, some (.int v), l2, l3], .int v :: st, k, h) := zz_k_num f124_17 rfl
theorem f124_18 : zz_fetch zz_prog 124 18 = some (.imul, 1, [], []) := zz_fetch_of p124 rfl rfl
theorem s124_18 : zz_Run zz_prog d 124 (18, [l0, l1, l2, l3], .int w :: .int v :: st, k, h) = zz_Run zz_prog d 124 (19, [l0, l1, l2, l3], .int (v * w) :: st, k, h) := zz_k_num f124_18 rfl
theorem f124_19 : zz_fetch zz_prog 124 19 = some (.iadd, 1, [], []) := zz_fetch_of p124 rfl rfl
theorem s124_19 : zz_Run zz_prog d 124 (19, [l0, l1, l2, l3], .int w :: .int v :: st, k, h) = zz_Run zz_prog d 124 (20, [l0, l1, l2, l3], .int (v + w) :: st, k, h) := zz_k_num f124_19 rfl
theorem f124_20 : zz_fetch zz_prog 124 20 = some (.iload_n 3, 1, [], []) := zz_fetch_of p124 rfl rfl
theorem s124_20 : zz_Run zz_prog d 124 (20, [l0, l1, l2, some (.int v)], st, k, h) = zz_Run zz_prog d 124 (21, [l0, l1, l2, some (.int v)], .int v :: st, k, h) := zz_k_num f124_20 rfl
theorem f124_21 : zz_fetch zz_prog 124 21 = some (.iadd, 1, [], []) := zz_fetch_of p124 rfl rfl
theorem s124_21 : zz_Run zz_prog d 124 (21, [l0, l1, l2, l3], .int w :: .int v :: st, k, h) = zz_Run zz_prog d 124 (22, [l0, l1, l2, l3], .int (v + w) :: st, k, h) := zz_k_num f124_21 rfl
theorem f124_22 : zz_fetch zz_prog 124 22 = some (.iaload, 1, [], []) := zz_fetch_of p124 rfl rfl
theorem s124_22 (ha : zz_isrd a = true) : zz_Run zz_prog d 124 (22, [l0, l1, l2, l3], .int v :: .ref a :: st, k, (zz_hp n I J ex)) = zz_ck (zz_in v (zz_ary n a)) (zz_Run zz_prog d 124 (23, [l0, l1, l2, l3], .int (I a v.toNatClampNeg) :: st, k, (zz_hp n I J ex))) := zz_k_iald f124_22 ha
theorem f124_23 : zz_fetch zz_prog 124 23 = some (.iadd, 1, [], []) := zz_fetch_of p124 rfl rfl
theorem s124_23 : zz_Run zz_prog d 124 (23, [l0, l1, l2, l3], .int w :: .int v :: st, k, h) = zz_Run zz_prog d 124 (24, [l0, l1, l2, l3], .int (v + w) :: st, k, h) := zz_k_num f124_23 rfl
theorem f124_24 : zz_fetch zz_prog 124 24 = some (.istore_n 2, 1, [], []) := zz_fetch_of p124 rfl rfl
theorem s124_24 : zz_Run zz_prog d 124 (24, [l0, l1, l2, l3], .int v :: st, k, h) = zz_sl l1 (zz_Run zz_prog d 124 (25, [l0, l1, some (.int v), l3], st, k, h)) := zz_k_st (j := 2) (u := .int v) f124_24 rfl (fun q hq => by cases hq) rfl (show 2 < 4 by decide) (by cases l1 <;> rfl) rfl
theorem f124_25 : zz_fetch zz_prog 124 25 = some (.iinc 3 1, 3, [], []) := zz_fetch_of p124 rfl rfl
theorem s124_25 : zz_Run zz_prog d 124 (25, [l0, l1, l2, some (.int v)], st, k, h) = zz_sl l2 (zz_Run zz_prog d 124 (28, [l0, l1, l2, some (.int (v + 1))], st, k, h)) := zz_k_st (j := 3) (u := .int (v + 1)) f124_25 rfl (fun q hq => by cases hq) rfl (show 3 < 4 by decide) (by cases l2 <;> rfl) rfl
theorem f124_28 : zz_fetch zz_prog 124 28 = some (.goto (-24), 3, [4], []) := zz_fetch_of p124 rfl rfl
theorem s124_28 : zz_Run zz_prog d 124 (28, [l0, l1, l2, l3], st, k, h) = zz_Run zz_prog d 124 (4, [l0, l1, l2, l3], st, k, h) := zz_k_num f124_28 rfl
theorem f124_31 : zz_fetch zz_prog 124 31 = some (.iload_n 2, 1, [], []) := zz_fetch_of p124 rfl rfl
theorem s124_31 : zz_Run zz_prog d 124 (31, [l0, l1, some (.int v), l3], st, k, h) = zz_Run zz_prog d 124 (32, [l0, l1, some (.int v), l3], .int v :: st, k, h) := zz_k_num f124_31 rfl
theorem f124_32 : zz_fetch zz_prog 124 32 = some (.ireturn, 1, [0], []) := zz_fetch_of p124 rfl rfl
theorem s124_32 : zz_Run zz_prog d 124 (32, [l0, l1, l2, l3], [.int v], k, h) = some (.inl (some (.int v)), k, h) := zz_k_stop f124_32 rfl rfl rfl
end S124
section S125
variable {d n j : Nat} {l0 l1 l2 : Option Value} {st : List Value} {k : Bool} {h : zz_H} {v w v1 v2 : Int32} {y y1 : Int64} {a a1 a2 : Nat} {b0 b1 b2 b3 b4 b5 b6 b7 b8 : Value} {I : Nat → Nat → Int32} {J : Nat → Nat → Int64} {ex : List (Nat × Nat)}
theorem p125 : zz_prog 125 = some zz_m125 := rfl
theorem e125 (g0 : Nat) : zz_Call zz_prog (d + 1) 125 [.ref g0] h = zz_Run zz_prog d 125 (0, [some (.ref g0), none, none], [], true, h) := rfl
theorem t125 (pc : Nat) (L : List (Option Value)) : zz_th d 125 pc a L k h = some (.inr a, k, h) := zz_th_out p125 rfl
theorem f125_0 : zz_fetch zz_prog 125 0 = some (.iconst 0, 1, [], []) := zz_fetch_of p125 rfl rfl
theorem s125_0 : zz_Run zz_prog d 125 (0, [l0, l1, l2], st, k, h) = zz_Run zz_prog d 125 (1, [l0, l1, l2], .int 0 :: st, k, h) := zz_k_num f125_0 rfl
theorem f125_1 : zz_fetch zz_prog 125 1 = some (.istore_n 1, 1, [], []) := zz_fetch_of p125 rfl rfl
theorem s125_1 : zz_Run zz_prog d 125 (1, [l0, l1, l2], .int v :: st, k, h) = zz_sl l0 (zz_Run zz_prog d 125 (2, [l0, some (.int v), l2], st, k, h)) := zz_k_st (j := 1) (u := .int v) f125_1 rfl (fun q hq => by cases hq) rfl (show 1 < 3 by decide) (by cases l0 <;> rfl) rfl
theorem f125_2 : zz_fetch zz_prog 125 2 = some (.iconst 0, 1, [], []) := zz_fetch_of p125 rfl rfl
theorem s125_2 : zz_Run zz_prog d 125 (2, [l0, l1, l2], st, k, h) = zz_Run zz_prog d 125 (3, [l0, l1, l2], .int 0 :: st, k, h) := zz_k_num f125_2 rfl
theorem f125_3 : zz_fetch zz_prog 125 3 = some (.istore_n 2, 1, [], []) := zz_fetch_of p125 rfl rfl
theorem s125_3 : zz_Run zz_prog d 125 (3, [l0, l1, l2], .int v :: st, k, h) = zz_sl l1 (zz_Run zz_prog d 125 (4, [l0, l1, some (.int v)], st, k, h)) := zz_k_st (j := 2) (u := .int v) f125_3 rfl (fun q hq => by cases hq) rfl (show 2 < 3 by decide) (by cases l1 <;> rfl) rfl
theorem f125_4 : zz_fetch zz_prog 125 4 = some (.iload_n 2, 1, [], []) := zz_fetch_of p125 rfl rfl
theorem s125_4 : zz_Run zz_prog d 125 (4, [l0, l1, some (.int v)], st, k, h) = zz_Run zz_prog d 125 (5, [l0, l1, some (.int v)], .int v :: st, k, h) := zz_k_num f125_4 rfl
theorem f125_5 : zz_fetch zz_prog 125 5 = some (.aload_n 0, 1, [], []) := zz_fetch_of p125 rfl rfl
theorem s125_5 : zz_Run zz_prog d 125 (5, [some (.ref a), l1, l2], st, k, h) = zz_Run zz_prog d 125 (6, [some (.ref a), l1, l2], .ref a :: st, k, h) := zz_k_num f125_5 rfl
theorem f125_6 : zz_fetch zz_prog 125 6 = some (.getfield 105, 3, [2, 15, 0], []) := zz_fetch_of p125 rfl rfl
theorem s125_6 : zz_Run zz_prog d 125 (6, [l0, l1, l2], .ref 23 :: st, k, (zz_hp n I J ex)) = zz_Run zz_prog d 125 (9, [l0, l1, l2], .int (I 23 15) :: st, k, (zz_hp n I J ex)) := zz_k_go f125_6 rfl rfl rfl
theorem f125_9 : zz_fetch zz_prog 125 9 = some (.if_icmp .ge 32, 3, [41], []) := zz_fetch_of p125 rfl rfl
theorem s125_9 : zz_Run zz_prog d 125 (9, [l0, l1, l2], .int w :: .int v :: st, k, h) = if w ≤ v then zz_Run zz_prog d 125 (41, [l0, l1, l2], st, k, h) else zz_Run zz_prog d 125 (12, [l0, l1, l2], st, k, h) := zz_k_br (w ≤ v) rfl (zz_k_num f125_9 rfl)
theorem f125_12 : zz_fetch zz_prog 125 12 = some (.iload_n 1, 1, [], []) := zz_fetch_of p125 rfl rfl
theorem s125_12 : zz_Run zz_prog d 125 (12, [l0, some (.int v), l2], st, k, h) = zz_Run zz_prog d 125 (13, [l0, some (.int v), l2], .int v :: st, k, h) := zz_k_num f125_12 rfl
theorem f125_13 : zz_fetch zz_prog 125 13 = some (.ifCond .ne 16, 3, [29], []) := zz_fetch_of p125 rfl rfl
theorem s125_13 : zz_Run zz_prog d 125 (13, [l0, l1, l2], .int v :: st, k, h) = if ¬ v = 0 then zz_Run zz_prog d 125 (29, [l0, l1, l2], st, k, h) else zz_Run zz_prog d 125 (16, [l0, l1, l2], st, k, h) := zz_k_br (¬ v = 0) rfl (zz_k_num f125_13 rfl)
theorem f125_16 : zz_fetch zz_prog 125 16 = some (.aload_n 0, 1, [], []) := zz_fetch_of p125 rfl rfl
theorem s125_16 : zz_Run zz_prog d 125 (16, [some (.ref a), l1, l2], st, k, h) = zz_Run zz_prog d 125 (17, [some (.ref a), l1, l2], .ref a :: st, k, h) := zz_k_num f125_16 rfl
theorem f125_17 : zz_fetch zz_prog 125 17 = some (.getfield 7, 3, [2, 1, 3], []) := zz_fetch_of p125 rfl rfl
theorem s125_17 : zz_Run zz_prog d 125 (17, [l0, l1, l2], .ref 23 :: st, k, (zz_hp n I J ex)) = zz_Run zz_prog d 125 (20, [l0, l1, l2], .ref 24 :: st, k, (zz_hp n I J ex)) := zz_k_go f125_17 rfl rfl rfl
theorem f125_20 : zz_fetch zz_prog 125 20 = some (.sipush 176, 3, [], []) := zz_fetch_of p125 rfl rfl
theorem s125_20 : zz_Run zz_prog d 125 (20, [l0, l1, l2], st, k, h) = zz_Run zz_prog d 125 (23, [l0, l1, l2], .int 176 :: st, k, h) := zz_k_num f125_20 (congrArg (fun u => some (23, [l0, l1, l2], Value.int u :: st)) (by decide : (Int16.ofInt 176).toInt32 = 176))
theorem f125_23 : zz_fetch zz_prog 125 23 = some (.iload_n 2, 1, [], []) := zz_fetch_of p125 rfl rfl
theorem s125_23 : zz_Run zz_prog d 125 (23, [l0, l1, some (.int v)], st, k, h) = zz_Run zz_prog d 125 (24, [l0, l1, some (.int v)], .int v :: st, k, h) := zz_k_num f125_23 rfl
theorem f125_24 : zz_fetch zz_prog 125 24 = some (.iadd, 1, [], []) := zz_fetch_of p125 rfl rfl
theorem s125_24 : zz_Run zz_prog d 125 (24, [l0, l1, l2], .int w :: .int v :: st, k, h) = zz_Run zz_prog d 125 (25, [l0, l1, l2], .int (v + w) :: st, k, h) := zz_k_num f125_24 rfl
theorem f125_25 : zz_fetch zz_prog 125 25 = some (.iaload, 1, [], []) := zz_fetch_of p125 rfl rfl
theorem s125_25 (ha : zz_isrd a = true) : zz_Run zz_prog d 125 (25, [l0, l1, l2], .int v :: .ref a :: st, k, (zz_hp n I J ex)) = zz_ck (zz_in v (zz_ary n a)) (zz_Run zz_prog d 125 (26, [l0, l1, l2], .int (I a v.toNatClampNeg) :: st, k, (zz_hp n I J ex))) := zz_k_iald f125_25 ha
theorem f125_26 : zz_fetch zz_prog 125 26 = some (.ifCond .le 7, 3, [33], []) := zz_fetch_of p125 rfl rfl
theorem s125_26 : zz_Run zz_prog d 125 (26, [l0, l1, l2], .int v :: st, k, h) = if v ≤ 0 then zz_Run zz_prog d 125 (33, [l0, l1, l2], st, k, h) else zz_Run zz_prog d 125 (29, [l0, l1, l2], st, k, h) := zz_k_br (v ≤ 0) rfl (zz_k_num f125_26 rfl)
theorem f125_29 : zz_fetch zz_prog 125 29 = some (.iconst 1, 1, [], []) := zz_fetch_of p125 rfl rfl
theorem s125_29 : zz_Run zz_prog d 125 (29, [l0, l1, l2], st, k, h) = zz_Run zz_prog d 125 (30, [l0, l1, l2], .int 1 :: st, k, h) := zz_k_num f125_29 rfl
theorem f125_30 : zz_fetch zz_prog 125 30 = some (.goto 4, 3, [34], []) := zz_fetch_of p125 rfl rfl
theorem s125_30 : zz_Run zz_prog d 125 (30, [l0, l1, l2], st, k, h) = zz_Run zz_prog d 125 (34, [l0, l1, l2], st, k, h) := zz_k_num f125_30 rfl
theorem f125_33 : zz_fetch zz_prog 125 33 = some (.iconst 0, 1, [], []) := zz_fetch_of p125 rfl rfl
theorem s125_33 : zz_Run zz_prog d 125 (33, [l0, l1, l2], st, k, h) = zz_Run zz_prog d 125 (34, [l0, l1, l2], .int 0 :: st, k, h) := zz_k_num f125_33 rfl
theorem f125_34 : zz_fetch zz_prog 125 34 = some (.istore_n 1, 1, [], []) := zz_fetch_of p125 rfl rfl
theorem s125_34 : zz_Run zz_prog d 125 (34, [l0, l1, l2], .int v :: st, k, h) = zz_sl l0 (zz_Run zz_prog d 125 (35, [l0, some (.int v), l2], st, k, h)) := zz_k_st (j := 1) (u := .int v) f125_34 rfl (fun q hq => by cases hq) rfl (show 1 < 3 by decide) (by cases l0 <;> rfl) rfl
theorem f125_35 : zz_fetch zz_prog 125 35 = some (.iinc 2 1, 3, [], []) := zz_fetch_of p125 rfl rfl
theorem s125_35 : zz_Run zz_prog d 125 (35, [l0, l1, some (.int v)], st, k, h) = zz_sl l1 (zz_Run zz_prog d 125 (38, [l0, l1, some (.int (v + 1))], st, k, h)) := zz_k_st (j := 2) (u := .int (v + 1)) f125_35 rfl (fun q hq => by cases hq) rfl (show 2 < 3 by decide) (by cases l1 <;> rfl) rfl
theorem f125_38 : zz_fetch zz_prog 125 38 = some (.goto (-34), 3, [4], []) := zz_fetch_of p125 rfl rfl
theorem s125_38 : zz_Run zz_prog d 125 (38, [l0, l1, l2], st, k, h) = zz_Run zz_prog d 125 (4, [l0, l1, l2], st, k, h) := zz_k_num f125_38 rfl
theorem f125_41 : zz_fetch zz_prog 125 41 = some (.iload_n 1, 1, [], []) := zz_fetch_of p125 rfl rfl
theorem s125_41 : zz_Run zz_prog d 125 (41, [l0, some (.int v), l2], st, k, h) = zz_Run zz_prog d 125 (42, [l0, some (.int v), l2], .int v :: st, k, h) := zz_k_num f125_41 rfl
theorem f125_42 : zz_fetch zz_prog 125 42 = some (.ireturn, 1, [1], []) := zz_fetch_of p125 rfl rfl
theorem s125_42 : zz_Run zz_prog d 125 (42, [l0, l1, l2], [.int v], k, h) = zz_ck (decide (v = 0 ∨ v = 1)) (some (.inl (some (.int v)), k, h)) := zz_k_retz f125_42
end S125
section S126
variable {d n j : Nat} {l0 l1 l2 l3 l4 : Option Value} {st : List Value} {k : Bool} {h : zz_H} {v w v1 v2 : Int32} {y y1 : Int64} {a a1 a2 : Nat} {b0 b1 b2 b3 b4 b5 b6 b7 b8 : Value} {I : Nat → Nat → Int32} {J : Nat → Nat → Int64} {ex : List (Nat × Nat)}
theorem p126 : zz_prog 126 = some zz_m126 := rfl
theorem e126 (g0 : Nat) (g1 : Int32) : zz_Call zz_prog (d + 1) 126 [.ref g0, .int g1] h = zz_Run zz_prog d 126 (0, [some (.ref g0), some (.int g1), none, none, none], [], true, h) := rfl
theorem t126 (pc : Nat) (L : List (Option Value)) : zz_th d 126 pc a L k h = some (.inr a, k, h) := zz_th_out p126 rfl
theorem f126_0 : zz_fetch zz_prog 126 0 = some (.aload_n 0, 1, [], []) := zz_fetch_of p126 rfl rfl
theorem s126_0 : zz_Run zz_prog d 126 (0, [some (.ref a), l1, l2, l3, l4], st, k, h) = zz_Run zz_prog d 126 (1, [some (.ref a), l1, l2, l3, l4], .ref a :: st, k, h) := zz_k_num f126_0 rfl
theorem f126_1 : zz_fetch zz_prog 126 1 = some (.aload_n 0, 1, [], []) := zz_fetch_of p126 rfl rfl
theorem s126_1 : zz_Run zz_prog d 126 (1, [some (.ref a), l1, l2, l3, l4], st, k, h) = zz_Run zz_prog d 126 (2, [some (.ref a), l1, l2, l3, l4], .ref a :: st, k, h) := zz_k_num f126_1 rfl
theorem f126_2 : zz_fetch zz_prog 126 2 = some (.getfield 7, 3, [2, 1, 3], []) := zz_fetch_of p126 rfl rfl
theorem s126_2 : zz_Run zz_prog d 126 (2, [l0, l1, l2, l3, l4], .ref 23 :: st, k, (zz_hp n I J ex)) = zz_Run zz_prog d 126 (5, [l0, l1, l2, l3, l4], .ref 24 :: st, k, (zz_hp n I J ex)) := zz_k_go f126_2 rfl rfl rfl
theorem f126_5 : zz_fetch zz_prog 126 5 = some (.sipush 180, 3, [], []) := zz_fetch_of p126 rfl rfl
theorem s126_5 : zz_Run zz_prog d 126 (5, [l0, l1, l2, l3, l4], st, k, h) = zz_Run zz_prog d 126 (8, [l0, l1, l2, l3, l4], .int 180 :: st, k, h) := zz_k_num f126_5 (congrArg (fun u => some (8, [l0, l1, l2, l3, l4], Value.int u :: st)) (by decide : (Int16.ofInt 180).toInt32 = 180))
theorem f126_8 : zz_fetch zz_prog 126 8 = some (.iaload, 1, [], []) := zz_fetch_of p126 rfl rfl
theorem s126_8 (ha : zz_isrd a = true) : zz_Run zz_prog d 126 (8, [l0, l1, l2, l3, l4], .int v :: .ref a :: st, k, (zz_hp n I J ex)) = zz_ck (zz_in v (zz_ary n a)) (zz_Run zz_prog d 126 (9, [l0, l1, l2, l3, l4], .int (I a v.toNatClampNeg) :: st, k, (zz_hp n I J ex))) := zz_k_iald f126_8 ha
theorem f126_9 : zz_fetch zz_prog 126 9 = some (.iconst 3, 1, [], []) := zz_fetch_of p126 rfl rfl
theorem s126_9 : zz_Run zz_prog d 126 (9, [l0, l1, l2, l3, l4], st, k, h) = zz_Run zz_prog d 126 (10, [l0, l1, l2, l3, l4], .int 3 :: st, k, h) := zz_k_num f126_9 rfl
theorem f126_10 : zz_fetch zz_prog 126 10 = some (.if_icmp .eq 7, 3, [17], []) := zz_fetch_of p126 rfl rfl
theorem s126_10 : zz_Run zz_prog d 126 (10, [l0, l1, l2, l3, l4], .int w :: .int v :: st, k, h) = if v = w then zz_Run zz_prog d 126 (17, [l0, l1, l2, l3, l4], st, k, h) else zz_Run zz_prog d 126 (13, [l0, l1, l2, l3, l4], st, k, h) := zz_k_br (v = w) rfl (zz_k_num f126_10 rfl)
theorem f126_13 : zz_fetch zz_prog 126 13 = some (.iconst 1, 1, [], []) := zz_fetch_of p126 rfl rfl
theorem s126_13 : zz_Run zz_prog d 126 (13, [l0, l1, l2, l3, l4], st, k, h) = zz_Run zz_prog d 126 (14, [l0, l1, l2, l3, l4], .int 1 :: st, k, h) := zz_k_num f126_13 rfl
theorem f126_14 : zz_fetch zz_prog 126 14 = some (.goto 4, 3, [18], []) := zz_fetch_of p126 rfl rfl
theorem s126_14 : zz_Run zz_prog d 126 (14, [l0, l1, l2, l3, l4], st, k, h) = zz_Run zz_prog d 126 (18, [l0, l1, l2, l3, l4], st, k, h) := zz_k_num f126_14 rfl
theorem f126_17 : zz_fetch zz_prog 126 17 = some (.iconst 0, 1, [], []) := zz_fetch_of p126 rfl rfl
theorem s126_17 : zz_Run zz_prog d 126 (17, [l0, l1, l2, l3, l4], st, k, h) = zz_Run zz_prog d 126 (18, [l0, l1, l2, l3, l4], .int 0 :: st, k, h) := zz_k_num f126_17 rfl
theorem f126_18 : zz_fetch zz_prog 126 18 = some (.iload_n 1, 1, [], []) := zz_fetch_of p126 rfl rfl
theorem s126_18 : zz_Run zz_prog d 126 (18, [l0, some (.int v), l2, l3, l4], st, k, h) = zz_Run zz_prog d 126 (19, [l0, some (.int v), l2, l3, l4], .int v :: st, k, h) := zz_k_num f126_18 rfl
theorem f126_19 : zz_fetch zz_prog 126 19 = some (.iconst 2, 1, [], []) := zz_fetch_of p126 rfl rfl
theorem s126_19 : zz_Run zz_prog d 126 (19, [l0, l1, l2, l3, l4], st, k, h) = zz_Run zz_prog d 126 (20, [l0, l1, l2, l3, l4], .int 2 :: st, k, h) := zz_k_num f126_19 rfl
theorem f126_20 : zz_fetch zz_prog 126 20 = some (.if_icmp .lt 9, 3, [29], []) := zz_fetch_of p126 rfl rfl
theorem s126_20 : zz_Run zz_prog d 126 (20, [l0, l1, l2, l3, l4], .int w :: .int v :: st, k, h) = if v < w then zz_Run zz_prog d 126 (29, [l0, l1, l2, l3, l4], st, k, h) else zz_Run zz_prog d 126 (23, [l0, l1, l2, l3, l4], st, k, h) := zz_k_br (v < w) rfl (zz_k_num f126_20 rfl)
theorem f126_23 : zz_fetch zz_prog 126 23 = some (.iload_n 1, 1, [], []) := zz_fetch_of p126 rfl rfl
theorem s126_23 : zz_Run zz_prog d 126 (23, [l0, some (.int v), l2, l3, l4], st, k, h) = zz_Run zz_prog d 126 (24, [l0, some (.int v), l2, l3, l4], .int v :: st, k, h) := zz_k_num f126_23 rfl
theorem f126_24 : zz_fetch zz_prog 126 24 = some (.bipush 12, 2, [], []) := zz_fetch_of p126 rfl rfl
theorem s126_24 : zz_Run zz_prog d 126 (24, [l0, l1, l2, l3, l4], st, k, h) = zz_Run zz_prog d 126 (26, [l0, l1, l2, l3, l4], .int 12 :: st, k, h) := zz_k_num f126_24 (congrArg (fun u => some (26, [l0, l1, l2, l3, l4], Value.int u :: st)) (by decide : (Int8.ofInt 12).toInt32 = 12))
theorem f126_26 : zz_fetch zz_prog 126 26 = some (.if_icmp .le 7, 3, [33], []) := zz_fetch_of p126 rfl rfl
theorem s126_26 : zz_Run zz_prog d 126 (26, [l0, l1, l2, l3, l4], .int w :: .int v :: st, k, h) = if v ≤ w then zz_Run zz_prog d 126 (33, [l0, l1, l2, l3, l4], st, k, h) else zz_Run zz_prog d 126 (29, [l0, l1, l2, l3, l4], st, k, h) := zz_k_br (v ≤ w) rfl (zz_k_num f126_26 rfl)
theorem f126_29 : zz_fetch zz_prog 126 29 = some (.iconst 1, 1, [], []) := zz_fetch_of p126 rfl rfl
theorem s126_29 : zz_Run zz_prog d 126 (29, [l0, l1, l2, l3, l4], st, k, h) = zz_Run zz_prog d 126 (30, [l0, l1, l2, l3, l4], .int 1 :: st, k, h) := zz_k_num f126_29 rfl
theorem f126_30 : zz_fetch zz_prog 126 30 = some (.goto 4, 3, [34], []) := zz_fetch_of p126 rfl rfl
theorem s126_30 : zz_Run zz_prog d 126 (30, [l0, l1, l2, l3, l4], st, k, h) = zz_Run zz_prog d 126 (34, [l0, l1, l2, l3, l4], st, k, h) := zz_k_num f126_30 rfl
theorem f126_33 : zz_fetch zz_prog 126 33 = some (.iconst 0, 1, [], []) := zz_fetch_of p126 rfl rfl
theorem s126_33 : zz_Run zz_prog d 126 (33, [l0, l1, l2, l3, l4], st, k, h) = zz_Run zz_prog d 126 (34, [l0, l1, l2, l3, l4], .int 0 :: st, k, h) := zz_k_num f126_33 rfl
theorem f126_34 : zz_fetch zz_prog 126 34 = some (.iconst 0, 1, [], []) := zz_fetch_of p126 rfl rfl
theorem s126_34 : zz_Run zz_prog d 126 (34, [l0, l1, l2, l3, l4], st, k, h) = zz_Run zz_prog d 126 (35, [l0, l1, l2, l3, l4], .int 0 :: st, k, h) := zz_k_num f126_34 rfl
theorem f126_35 : zz_fetch zz_prog 126 35 = some (.invokevirtual 89, 3, [0, 95, 4, 2], []) := zz_fetch_of p126 rfl rfl
theorem s126_35 : zz_Run zz_prog d 126 (35, [l0, l1, l2, l3, l4], [b0, b1, b2, .ref 23], k, (zz_hp n I J ex)) = zz_ret (zz_Call zz_prog d 95 [.ref 23, b2, b1, b0] (zz_hp n I J ex)) (fun v k' h' => zz_Run zz_prog d 126 (38, [l0, l1, l2, l3, l4], v.toList ++ [], k && k', h')) (fun a k' h' => zz_th d 126 35 a [l0, l1, l2, l3, l4] (k && k') h') := zz_k_call f126_35 rfl rfl rfl
theorem f126_38 : zz_fetch zz_prog 126 38 = some (.ifCond .eq 5, 3, [43], []) := zz_fetch_of p126 rfl rfl
theorem s126_38 : zz_Run zz_prog d 126 (38, [l0, l1, l2, l3, l4], .int v :: st, k, h) = if v = 0 then zz_Run zz_prog d 126 (43, [l0, l1, l2, l3, l4], st, k, h) else zz_Run zz_prog d 126 (41, [l0, l1, l2, l3, l4], st, k, h) := zz_k_br (v = 0) rfl (zz_k_num f126_38 rfl)
theorem f126_41 : zz_fetch zz_prog 126 41 = some (.iconst 0, 1, [], []) := zz_fetch_of p126 rfl rfl
theorem s126_41 : zz_Run zz_prog d 126 (41, [l0, l1, l2, l3, l4], st, k, h) = zz_Run zz_prog d 126 (42, [l0, l1, l2, l3, l4], .int 0 :: st, k, h) := zz_k_num f126_41 rfl
theorem f126_42 : zz_fetch zz_prog 126 42 = some (.ireturn, 1, [0], []) := zz_fetch_of p126 rfl rfl
theorem s126_42 : zz_Run zz_prog d 126 (42, [l0, l1, l2, l3, l4], [.int v], k, h) = some (.inl (some (.int v)), k, h) := zz_k_stop f126_42 rfl rfl rfl
theorem f126_43 : zz_fetch zz_prog 126 43 = some (.aload_n 0, 1, [], []) := zz_fetch_of p126 rfl rfl
theorem s126_43 : zz_Run zz_prog d 126 (43, [some (.ref a), l1, l2, l3, l4], st, k, h) = zz_Run zz_prog d 126 (44, [some (.ref a), l1, l2, l3, l4], .ref a :: st, k, h) := zz_k_num f126_43 rfl
theorem f126_44 : zz_fetch zz_prog 126 44 = some (.invokevirtual 158, 3, [0, 117, 1, 2], []) := zz_fetch_of p126 rfl rfl
theorem s126_44 : zz_Run zz_prog d 126 (44, [l0, l1, l2, l3, l4], [.ref 23], k, (zz_hp n I J ex)) = zz_ret (zz_Call zz_prog d 117 [.ref 23] (zz_hp n I J ex)) (fun v k' h' => zz_Run zz_prog d 126 (47, [l0, l1, l2, l3, l4], v.toList ++ [], k && k', h')) (fun a k' h' => zz_th d 126 44 a [l0, l1, l2, l3, l4] (k && k') h') := zz_k_call f126_44 rfl rfl rfl
theorem f126_47 : zz_fetch zz_prog 126 47 = some (.iconst 0, 1, [], []) := zz_fetch_of p126 rfl rfl
theorem s126_47 : zz_Run zz_prog d 126 (47, [l0, l1, l2, l3, l4], st, k, h) = zz_Run zz_prog d 126 (48, [l0, l1, l2, l3, l4], .int 0 :: st, k, h) := zz_k_num f126_47 rfl
theorem f126_48 : zz_fetch zz_prog 126 48 = some (.istore_n 2, 1, [], []) := zz_fetch_of p126 rfl rfl
theorem s126_48 : zz_Run zz_prog d 126 (48, [l0, l1, l2, l3, l4], .int v :: st, k, h) = zz_sl l1 (zz_Run zz_prog d 126 (49, [l0, l1, some (.int v), l3, l4], st, k, h)) := zz_k_st (j := 2) (u := .int v) f126_48 rfl (fun q hq => by cases hq) rfl (show 2 < 5 by decide) (by cases l1 <;> rfl) rfl
theorem f126_49 : zz_fetch zz_prog 126 49 = some (.iload_n 1, 1, [], []) := zz_fetch_of p126 rfl rfl
theorem s126_49 : zz_Run zz_prog d 126 (49, [l0, some (.int v), l2, l3, l4], st, k, h) = zz_Run zz_prog d 126 (50, [l0, some (.int v), l2, l3, l4], .int v :: st, k, h) := zz_k_num f126_49 rfl
theorem f126_50 : zz_fetch zz_prog 126 50 = some (.bipush 7, 2, [], []) := zz_fetch_of p126 rfl rfl
theorem s126_50 : zz_Run zz_prog d 126 (50, [l0, l1, l2, l3, l4], st, k, h) = zz_Run zz_prog d 126 (52, [l0, l1, l2, l3, l4], .int 7 :: st, k, h) := zz_k_num f126_50 (congrArg (fun u => some (52, [l0, l1, l2, l3, l4], Value.int u :: st)) (by decide : (Int8.ofInt 7).toInt32 = 7))
theorem f126_52 : zz_fetch zz_prog 126 52 = some (.if_icmp .ne 73, 3, [125], []) := zz_fetch_of p126 rfl rfl
theorem s126_52 : zz_Run zz_prog d 126 (52, [l0, l1, l2, l3, l4], .int w :: .int v :: st, k, h) = if ¬ v = w then zz_Run zz_prog d 126 (125, [l0, l1, l2, l3, l4], st, k, h) else zz_Run zz_prog d 126 (55, [l0, l1, l2, l3, l4], st, k, h) := zz_k_br (¬ v = w) rfl (zz_k_num f126_52 rfl)
theorem f126_55 : zz_fetch zz_prog 126 55 = some (.iconst 0, 1, [], []) := zz_fetch_of p126 rfl rfl
theorem s126_55 : zz_Run zz_prog d 126 (55, [l0, l1, l2, l3, l4], st, k, h) = zz_Run zz_prog d 126 (56, [l0, l1, l2, l3, l4], .int 0 :: st, k, h) := zz_k_num f126_55 rfl
theorem f126_56 : zz_fetch zz_prog 126 56 = some (.istore_n 3, 1, [], []) := zz_fetch_of p126 rfl rfl
theorem s126_56 : zz_Run zz_prog d 126 (56, [l0, l1, l2, l3, l4], .int v :: st, k, h) = zz_sl l2 (zz_Run zz_prog d 126 (57, [l0, l1, l2, some (.int v), l4], st, k, h)) := zz_k_st (j := 3) (u := .int v) f126_56 rfl (fun q hq => by cases hq) rfl (show 3 < 5 by decide) (by cases l2 <;> rfl) rfl
theorem f126_57 : zz_fetch zz_prog 126 57 = some (.iload_n 3, 1, [], []) := zz_fetch_of p126 rfl rfl
theorem s126_57 : zz_Run zz_prog d 126 (57, [l0, l1, l2, some (.int v), l4], st, k, h) = zz_Run zz_prog d 126 (58, [l0, l1, l2, some (.int v), l4], .int v :: st, k, h) := zz_k_num f126_57 rfl
theorem f126_58 : zz_fetch zz_prog 126 58 = some (.aload_n 0, 1, [], []) := zz_fetch_of p126 rfl rfl
theorem s126_58 : zz_Run zz_prog d 126 (58, [some (.ref a), l1, l2, l3, l4], st, k, h) = zz_Run zz_prog d 126 (59, [some (.ref a), l1, l2, l3, l4], .ref a :: st, k, h) := zz_k_num f126_58 rfl
theorem f126_59 : zz_fetch zz_prog 126 59 = some (.getfield 105, 3, [2, 15, 0], []) := zz_fetch_of p126 rfl rfl
theorem s126_59 : zz_Run zz_prog d 126 (59, [l0, l1, l2, l3, l4], .ref 23 :: st, k, (zz_hp n I J ex)) = zz_Run zz_prog d 126 (62, [l0, l1, l2, l3, l4], .int (I 23 15) :: st, k, (zz_hp n I J ex)) := zz_k_go f126_59 rfl rfl rfl
theorem f126_62 : zz_fetch zz_prog 126 62 = some (.if_icmp .ge 40, 3, [102], []) := zz_fetch_of p126 rfl rfl
theorem s126_62 : zz_Run zz_prog d 126 (62, [l0, l1, l2, l3, l4], .int w :: .int v :: st, k, h) = if w ≤ v then zz_Run zz_prog d 126 (102, [l0, l1, l2, l3, l4], st, k, h) else zz_Run zz_prog d 126 (65, [l0, l1, l2, l3, l4], st, k, h) := zz_k_br (w ≤ v) rfl (zz_k_num f126_62 rfl)
theorem f126_65 : zz_fetch zz_prog 126 65 = some (.aload_n 0, 1, [], []) := zz_fetch_of p126 rfl rfl
theorem s126_65 : zz_Run zz_prog d 126 (65, [some (.ref a), l1, l2, l3, l4], st, k, h) = zz_Run zz_prog d 126 (66, [some (.ref a), l1, l2, l3, l4], .ref a :: st, k, h) := zz_k_num f126_65 rfl
theorem f126_66 : zz_fetch zz_prog 126 66 = some (.getfield 7, 3, [2, 1, 3], []) := zz_fetch_of p126 rfl rfl
theorem s126_66 : zz_Run zz_prog d 126 (66, [l0, l1, l2, l3, l4], .ref 23 :: st, k, (zz_hp n I J ex)) = zz_Run zz_prog d 126 (69, [l0, l1, l2, l3, l4], .ref 24 :: st, k, (zz_hp n I J ex)) := zz_k_go f126_66 rfl rfl rfl
theorem f126_69 : zz_fetch zz_prog 126 69 = some (.sipush 176, 3, [], []) := zz_fetch_of p126 rfl rfl
theorem s126_69 : zz_Run zz_prog d 126 (69, [l0, l1, l2, l3, l4], st, k, h) = zz_Run zz_prog d 126 (72, [l0, l1, l2, l3, l4], .int 176 :: st, k, h) := zz_k_num f126_69 (congrArg (fun u => some (72, [l0, l1, l2, l3, l4], Value.int u :: st)) (by decide : (Int16.ofInt 176).toInt32 = 176))
theorem f126_72 : zz_fetch zz_prog 126 72 = some (.iload_n 3, 1, [], []) := zz_fetch_of p126 rfl rfl
theorem s126_72 : zz_Run zz_prog d 126 (72, [l0, l1, l2, some (.int v), l4], st, k, h) = zz_Run zz_prog d 126 (73, [l0, l1, l2, some (.int v), l4], .int v :: st, k, h) := zz_k_num f126_72 rfl
theorem f126_73 : zz_fetch zz_prog 126 73 = some (.iadd, 1, [], []) := zz_fetch_of p126 rfl rfl
theorem s126_73 : zz_Run zz_prog d 126 (73, [l0, l1, l2, l3, l4], .int w :: .int v :: st, k, h) = zz_Run zz_prog d 126 (74, [l0, l1, l2, l3, l4], .int (v + w) :: st, k, h) := zz_k_num f126_73 rfl
theorem f126_74 : zz_fetch zz_prog 126 74 = some (.aload_n 0, 1, [], []) := zz_fetch_of p126 rfl rfl
theorem s126_74 : zz_Run zz_prog d 126 (74, [some (.ref a), l1, l2, l3, l4], st, k, h) = zz_Run zz_prog d 126 (75, [some (.ref a), l1, l2, l3, l4], .ref a :: st, k, h) := zz_k_num f126_74 rfl
theorem f126_75 : zz_fetch zz_prog 126 75 = some (.iload_n 3, 1, [], []) := zz_fetch_of p126 rfl rfl
theorem s126_75 : zz_Run zz_prog d 126 (75, [l0, l1, l2, some (.int v), l4], st, k, h) = zz_Run zz_prog d 126 (76, [l0, l1, l2, some (.int v), l4], .int v :: st, k, h) := zz_k_num f126_75 rfl
theorem f126_76 : zz_fetch zz_prog 126 76 = some (.invokevirtual 178, 3, [0, 124, 2, 2], []) := zz_fetch_of p126 rfl rfl
theorem s126_76 : zz_Run zz_prog d 126 (76, [l0, l1, l2, l3, l4], [b0, .ref 23, b2, b3], k, (zz_hp n I J ex)) = zz_ret (zz_Call zz_prog d 124 [.ref 23, b0] (zz_hp n I J ex)) (fun v k' h' => zz_Run zz_prog d 126 (79, [l0, l1, l2, l3, l4], v.toList ++ [b2, b3], k && k', h')) (fun a k' h' => zz_th d 126 76 a [l0, l1, l2, l3, l4] (k && k') h') := zz_k_call f126_76 rfl rfl rfl
theorem f126_79 : zz_fetch zz_prog 126 79 = some (.bipush 7, 2, [], []) := zz_fetch_of p126 rfl rfl
theorem s126_79 : zz_Run zz_prog d 126 (79, [l0, l1, l2, l3, l4], st, k, h) = zz_Run zz_prog d 126 (81, [l0, l1, l2, l3, l4], .int 7 :: st, k, h) := zz_k_num f126_79 (congrArg (fun u => some (81, [l0, l1, l2, l3, l4], Value.int u :: st)) (by decide : (Int8.ofInt 7).toInt32 = 7))
theorem f126_81 : zz_fetch zz_prog 126 81 = some (.if_icmp .le 13, 3, [94], []) := zz_fetch_of p126 rfl rfl
theorem s126_81 : zz_Run zz_prog d 126 (81, [l0, l1, l2, l3, l4], .int w :: .int v :: st, k, h) = if v ≤ w then zz_Run zz_prog d 126 (94, [l0, l1, l2, l3, l4], st, k, h) else zz_Run zz_prog d 126 (84, [l0, l1, l2, l3, l4], st, k, h) := zz_k_br (v ≤ w) rfl (zz_k_num f126_81 rfl)
theorem f126_84 : zz_fetch zz_prog 126 84 = some (.aload_n 0, 1, [], []) := zz_fetch_of p126 rfl rfl
theorem s126_84 : zz_Run zz_prog d 126 (84, [some (.ref a), l1, l2, l3, l4], st, k, h) = zz_Run zz_prog d 126 (85, [some (.ref a), l1, l2, l3, l4], .ref a :: st, k, h) := zz_k_num f126_84 rfl
theorem f126_85 : zz_fetch zz_prog 126 85 = some (.iload_n 3, 1, [], []) := zz_fetch_of p126 rfl rfl
theorem s126_85 : zz_Run zz_prog d 126 (85, [l0, l1, l2, some (.int v), l4], st, k, h) = zz_Run zz_prog d 126 (86, [l0, l1, l2, some (.int v), l4], .int v :: st, k, h) := zz_k_num f126_85 rfl
theorem f126_86 : zz_fetch zz_prog 126 86 = some (.invokevirtual 178, 3, [0, 124, 2, 2], []) := zz_fetch_of p126 rfl rfl
theorem s126_86 : zz_Run zz_prog d 126 (86, [l0, l1, l2, l3, l4], [b0, .ref 23, b2, b3], k, (zz_hp n I J ex)) = zz_ret (zz_Call zz_prog d 124 [.ref 23, b0] (zz_hp n I J ex)) (fun v k' h' => zz_Run zz_prog d 126 (89, [l0, l1, l2, l3, l4], v.toList ++ [b2, b3], k && k', h')) (fun a k' h' => zz_th d 126 86 a [l0, l1, l2, l3, l4] (k && k') h') := zz_k_call f126_86 rfl rfl rfl
theorem f126_89 : zz_fetch zz_prog 126 89 = some (.iconst 2, 1, [], []) := zz_fetch_of p126 rfl rfl
theorem s126_89 : zz_Run zz_prog d 126 (89, [l0, l1, l2, l3, l4], st, k, h) = zz_Run zz_prog d 126 (90, [l0, l1, l2, l3, l4], .int 2 :: st, k, h) := zz_k_num f126_89 rfl
theorem f126_90 : zz_fetch zz_prog 126 90 = some (.idiv, 1, [], []) := zz_fetch_of p126 rfl rfl
theorem s126_90 (hw : ¬ w = 0) : zz_Run zz_prog d 126 (90, [l0, l1, l2, l3, l4], .int w :: .int v :: st, k, h) = zz_Run zz_prog d 126 (91, [l0, l1, l2, l3, l4], .int (v / w) :: st, k, h) := zz_k_idiv f126_90 hw
theorem f126_91 : zz_fetch zz_prog 126 91 = some (.goto 4, 3, [95], []) := zz_fetch_of p126 rfl rfl
theorem s126_91 : zz_Run zz_prog d 126 (91, [l0, l1, l2, l3, l4], st, k, h) = zz_Run zz_prog d 126 (95, [l0, l1, l2, l3, l4], st, k, h) := zz_k_num f126_91 rfl
theorem f126_94 : zz_fetch zz_prog 126 94 = some (.iconst 0, 1, [], []) := zz_fetch_of p126 rfl rfl
theorem s126_94 : zz_Run zz_prog d 126 (94, [l0, l1, l2, l3, l4], st, k, h) = zz_Run zz_prog d 126 (95, [l0, l1, l2, l3, l4], .int 0 :: st, k, h) := zz_k_num f126_94 rfl
theorem f126_95 : zz_fetch zz_prog 126 95 = some (.iastore, 1, [], []) := zz_fetch_of p126 rfl rfl
theorem s126_95 (ha : zz_isar a = true) : zz_Run zz_prog d 126 (95, [l0, l1, l2, l3, l4], .int w :: .int v :: .ref a :: st, k, (zz_hp n I J ex)) = zz_ck (zz_in v (zz_ary n a)) (zz_Run zz_prog d 126 (96, [l0, l1, l2, l3, l4], st, false, (zz_hp n (zz_up I a v.toNatClampNeg w) J ex))) := zz_k_iast f126_95 ha
theorem f126_96 : zz_fetch zz_prog 126 96 = some (.iinc 3 1, 3, [], []) := zz_fetch_of p126 rfl rfl
theorem s126_96 : zz_Run zz_prog d 126 (96, [l0, l1, l2, some (.int v), l4], st, k, h) = zz_sl l2 (zz_Run zz_prog d 126 (99, [l0, l1, l2, some (.int (v + 1)), l4], st, k, h)) := zz_k_st (j := 3) (u := .int (v + 1)) f126_96 rfl (fun q hq => by cases hq) rfl (show 3 < 5 by decide) (by cases l2 <;> rfl) rfl
theorem f126_99 : zz_fetch zz_prog 126 99 = some (.goto (-42), 3, [57], []) := zz_fetch_of p126 rfl rfl
theorem s126_99 : zz_Run zz_prog d 126 (99, [l0, l1, l2, l3, l4], st, k, h) = zz_Run zz_prog d 126 (57, [l0, l1, l2, l3, l4], st, k, h) := zz_k_num f126_99 rfl
theorem f126_102 : zz_fetch zz_prog 126 102 = some (.aload_n 0, 1, [], []) := zz_fetch_of p126 rfl rfl
theorem s126_102 : zz_Run zz_prog d 126 (102, [some (.ref a), l1, l2, l3, l4], st, k, h) = zz_Run zz_prog d 126 (103, [some (.ref a), l1, l2, l3, l4], .ref a :: st, k, h) := zz_k_num f126_102 rfl
theorem f126_103 : zz_fetch zz_prog 126 103 = some (.getfield 7, 3, [2, 1, 3], []) := zz_fetch_of p126 rfl rfl
theorem s126_103 : zz_Run zz_prog d 126 (103, [l0, l1, l2, l3, l4], .ref 23 :: st, k, (zz_hp n I J ex)) = zz_Run zz_prog d 126 (106, [l0, l1, l2, l3, l4], .ref 24 :: st, k, (zz_hp n I J ex)) := zz_k_go f126_103 rfl rfl rfl
theorem f126_106 : zz_fetch zz_prog 126 106 = some (.sipush 180, 3, [], []) := zz_fetch_of p126 rfl rfl
theorem s126_106 : zz_Run zz_prog d 126 (106, [l0, l1, l2, l3, l4], st, k, h) = zz_Run zz_prog d 126 (109, [l0, l1, l2, l3, l4], .int 180 :: st, k, h) := zz_k_num f126_106 (congrArg (fun u => some (109, [l0, l1, l2, l3, l4], Value.int u :: st)) (by decide : (Int16.ofInt 180).toInt32 = 180))
theorem f126_109 : zz_fetch zz_prog 126 109 = some (.aload_n 0, 1, [], []) := zz_fetch_of p126 rfl rfl
theorem s126_109 : zz_Run zz_prog d 126 (109, [some (.ref a), l1, l2, l3, l4], st, k, h) = zz_Run zz_prog d 126 (110, [some (.ref a), l1, l2, l3, l4], .ref a :: st, k, h) := zz_k_num f126_109 rfl
theorem f126_110 : zz_fetch zz_prog 126 110 = some (.invokevirtual 181, 3, [0, 125, 1, 2], []) := zz_fetch_of p126 rfl rfl
theorem s126_110 : zz_Run zz_prog d 126 (110, [l0, l1, l2, l3, l4], [.ref 23, b1, b2], k, (zz_hp n I J ex)) = zz_ret (zz_Call zz_prog d 125 [.ref 23] (zz_hp n I J ex)) (fun v k' h' => zz_Run zz_prog d 126 (113, [l0, l1, l2, l3, l4], v.toList ++ [b1, b2], k && k', h')) (fun a k' h' => zz_th d 126 110 a [l0, l1, l2, l3, l4] (k && k') h') := zz_k_call f126_110 rfl rfl rfl
theorem f126_113 : zz_fetch zz_prog 126 113 = some (.ifCond .eq 7, 3, [120], []) := zz_fetch_of p126 rfl rfl
theorem s126_113 : zz_Run zz_prog d 126 (113, [l0, l1, l2, l3, l4], .int v :: st, k, h) = if v = 0 then zz_Run zz_prog d 126 (120, [l0, l1, l2, l3, l4], st, k, h) else zz_Run zz_prog d 126 (116, [l0, l1, l2, l3, l4], st, k, h) := zz_k_br (v = 0) rfl (zz_k_num f126_113 rfl)
theorem f126_116 : zz_fetch zz_prog 126 116 = some (.iconst 4, 1, [], []) := zz_fetch_of p126 rfl rfl
theorem s126_116 : zz_Run zz_prog d 126 (116, [l0, l1, l2, l3, l4], st, k, h) = zz_Run zz_prog d 126 (117, [l0, l1, l2, l3, l4], .int 4 :: st, k, h) := zz_k_num f126_116 rfl
theorem f126_117 : zz_fetch zz_prog 126 117 = some (.goto 4, 3, [121], []) := zz_fetch_of p126 rfl rfl
theorem s126_117 : zz_Run zz_prog d 126 (117, [l0, l1, l2, l3, l4], st, k, h) = zz_Run zz_prog d 126 (121, [l0, l1, l2, l3, l4], st, k, h) := zz_k_num f126_117 rfl
theorem f126_120 : zz_fetch zz_prog 126 120 = some (.iconst 5, 1, [], []) := zz_fetch_of p126 rfl rfl
theorem s126_120 : zz_Run zz_prog d 126 (120, [l0, l1, l2, l3, l4], st, k, h) = zz_Run zz_prog d 126 (121, [l0, l1, l2, l3, l4], .int 5 :: st, k, h) := zz_k_num f126_120 rfl
theorem f126_121 : zz_fetch zz_prog 126 121 = some (.iastore, 1, [], []) := zz_fetch_of p126 rfl rfl
theorem s126_121 (ha : zz_isar a = true) : zz_Run zz_prog d 126 (121, [l0, l1, l2, l3, l4], .int w :: .int v :: .ref a :: st, k, (zz_hp n I J ex)) = zz_ck (zz_in v (zz_ary n a)) (zz_Run zz_prog d 126 (122, [l0, l1, l2, l3, l4], st, false, (zz_hp n (zz_up I a v.toNatClampNeg w) J ex))) := zz_k_iast f126_121 ha
theorem f126_122 : zz_fetch zz_prog 126 122 = some (.goto 135, 3, [257], []) := zz_fetch_of p126 rfl rfl
theorem s126_122 : zz_Run zz_prog d 126 (122, [l0, l1, l2, l3, l4], st, k, h) = zz_Run zz_prog d 126 (257, [l0, l1, l2, l3, l4], st, k, h) := zz_k_num f126_122 rfl
theorem f126_125 : zz_fetch zz_prog 126 125 = some (.iconst 0, 1, [], []) := zz_fetch_of p126 rfl rfl
theorem s126_125 : zz_Run zz_prog d 126 (125, [l0, l1, l2, l3, l4], st, k, h) = zz_Run zz_prog d 126 (126, [l0, l1, l2, l3, l4], .int 0 :: st, k, h) := zz_k_num f126_125 rfl
theorem f126_126 : zz_fetch zz_prog 126 126 = some (.istore_n 3, 1, [], []) := zz_fetch_of p126 rfl rfl
theorem s126_126 : zz_Run zz_prog d 126 (126, [l0, l1, l2, l3, l4], .int v :: st, k, h) = zz_sl l2 (zz_Run zz_prog d 126 (127, [l0, l1, l2, some (.int v), l4], st, k, h)) := zz_k_st (j := 3) (u := .int v) f126_126 rfl (fun q hq => by cases hq) rfl (show 3 < 5 by decide) (by cases l2 <;> rfl) rfl
theorem f126_127 : zz_fetch zz_prog 126 127 = some (.iload_n 3, 1, [], []) := zz_fetch_of p126 rfl rfl
theorem s126_127 : zz_Run zz_prog d 126 (127, [l0, l1, l2, some (.int v), l4], st, k, h) = zz_Run zz_prog d 126 (128, [l0, l1, l2, some (.int v), l4], .int v :: st, k, h) := zz_k_num f126_127 rfl
theorem f126_128 : zz_fetch zz_prog 126 128 = some (.bipush 20, 2, [], []) := zz_fetch_of p126 rfl rfl
theorem s126_128 : zz_Run zz_prog d 126 (128, [l0, l1, l2, l3, l4], st, k, h) = zz_Run zz_prog d 126 (130, [l0, l1, l2, l3, l4], .int 20 :: st, k, h) := zz_k_num f126_128 (congrArg (fun u => some (130, [l0, l1, l2, l3, l4], Value.int u :: st)) (by decide : (Int8.ofInt 20).toInt32 = 20))
theorem f126_130 : zz_fetch zz_prog 126 130 = some (.if_icmp .ge 16, 3, [146], []) := zz_fetch_of p126 rfl rfl
theorem s126_130 : zz_Run zz_prog d 126 (130, [l0, l1, l2, l3, l4], .int w :: .int v :: st, k, h) = if w ≤ v then zz_Run zz_prog d 126 (146, [l0, l1, l2, l3, l4], st, k, h) else zz_Run zz_prog d 126 (133, [l0, l1, l2, l3, l4], st, k, h) := zz_k_br (w ≤ v) rfl (zz_k_num f126_130 rfl)
theorem f126_133 : zz_fetch zz_prog 126 133 = some (.aload_n 0, 1, [], []) := zz_fetch_of p126 rfl rfl
theorem s126_133 : zz_Run zz_prog d 126 (133, [some (.ref a), l1, l2, l3, l4], st, k, h) = zz_Run zz_prog d 126 (134, [some (.ref a), l1, l2, l3, l4], .ref a :: st, k, h) := zz_k_num f126_133 rfl
theorem f126_134 : zz_fetch zz_prog 126 134 = some (.getfield 67, 3, [2, 24, 3], []) := zz_fetch_of p126 rfl rfl
theorem s126_134 : zz_Run zz_prog d 126 (134, [l0, l1, l2, l3, l4], .ref 23 :: st, k, (zz_hp n I J ex)) = zz_Run zz_prog d 126 (137, [l0, l1, l2, l3, l4], .ref 43 :: st, k, (zz_hp n I J ex)) := zz_k_go f126_134 rfl rfl rfl
theorem f126_137 : zz_fetch zz_prog 126 137 = some (.iload_n 3, 1, [], []) := zz_fetch_of p126 rfl rfl
theorem s126_137 : zz_Run zz_prog d 126 (137, [l0, l1, l2, some (.int v), l4], st, k, h) = zz_Run zz_prog d 126 (138, [l0, l1, l2, some (.int v), l4], .int v :: st, k, h) := zz_k_num f126_137 rfl
theorem f126_138 : zz_fetch zz_prog 126 138 = some (.iconst 0, 1, [], []) := zz_fetch_of p126 rfl rfl
theorem s126_138 : zz_Run zz_prog d 126 (138, [l0, l1, l2, l3, l4], st, k, h) = zz_Run zz_prog d 126 (139, [l0, l1, l2, l3, l4], .int 0 :: st, k, h) := zz_k_num f126_138 rfl
theorem f126_139 : zz_fetch zz_prog 126 139 = some (.iastore, 1, [], []) := zz_fetch_of p126 rfl rfl
theorem s126_139 (ha : zz_isar a = true) : zz_Run zz_prog d 126 (139, [l0, l1, l2, l3, l4], .int w :: .int v :: .ref a :: st, k, (zz_hp n I J ex)) = zz_ck (zz_in v (zz_ary n a)) (zz_Run zz_prog d 126 (140, [l0, l1, l2, l3, l4], st, false, (zz_hp n (zz_up I a v.toNatClampNeg w) J ex))) := zz_k_iast f126_139 ha
theorem f126_140 : zz_fetch zz_prog 126 140 = some (.iinc 3 1, 3, [], []) := zz_fetch_of p126 rfl rfl
theorem s126_140 : zz_Run zz_prog d 126 (140, [l0, l1, l2, some (.int v), l4], st, k, h) = zz_sl l2 (zz_Run zz_prog d 126 (143, [l0, l1, l2, some (.int (v + 1)), l4], st, k, h)) := zz_k_st (j := 3) (u := .int (v + 1)) f126_140 rfl (fun q hq => by cases hq) rfl (show 3 < 5 by decide) (by cases l2 <;> rfl) rfl
theorem f126_143 : zz_fetch zz_prog 126 143 = some (.goto (-16), 3, [127], []) := zz_fetch_of p126 rfl rfl
theorem s126_143 : zz_Run zz_prog d 126 (143, [l0, l1, l2, l3, l4], st, k, h) = zz_Run zz_prog d 126 (127, [l0, l1, l2, l3, l4], st, k, h) := zz_k_num f126_143 rfl
theorem f126_146 : zz_fetch zz_prog 126 146 = some (.iconst 0, 1, [], []) := zz_fetch_of p126 rfl rfl
theorem s126_146 : zz_Run zz_prog d 126 (146, [l0, l1, l2, l3, l4], st, k, h) = zz_Run zz_prog d 126 (147, [l0, l1, l2, l3, l4], .int 0 :: st, k, h) := zz_k_num f126_146 rfl
theorem f126_147 : zz_fetch zz_prog 126 147 = some (.istore_n 3, 1, [], []) := zz_fetch_of p126 rfl rfl
theorem s126_147 : zz_Run zz_prog d 126 (147, [l0, l1, l2, l3, l4], .int v :: st, k, h) = zz_sl l2 (zz_Run zz_prog d 126 (148, [l0, l1, l2, some (.int v), l4], st, k, h)) := zz_k_st (j := 3) (u := .int v) f126_147 rfl (fun q hq => by cases hq) rfl (show 3 < 5 by decide) (by cases l2 <;> rfl) rfl
theorem f126_148 : zz_fetch zz_prog 126 148 = some (.iload_n 3, 1, [], []) := zz_fetch_of p126 rfl rfl
theorem s126_148 : zz_Run zz_prog d 126 (148, [l0, l1, l2, some (.int v), l4], st, k, h) = zz_Run zz_prog d 126 (149, [l0, l1, l2, some (.int v), l4], .int v :: st, k, h) := zz_k_num f126_148 rfl
theorem f126_149 : zz_fetch zz_prog 126 149 = some (.bipush 19, 2, [], []) := zz_fetch_of p126 rfl rfl
theorem s126_149 : zz_Run zz_prog d 126 (149, [l0, l1, l2, l3, l4], st, k, h) = zz_Run zz_prog d 126 (151, [l0, l1, l2, l3, l4], .int 19 :: st, k, h) := zz_k_num f126_149 (congrArg (fun u => some (151, [l0, l1, l2, l3, l4], Value.int u :: st)) (by decide : (Int8.ofInt 19).toInt32 = 19))
theorem f126_151 : zz_fetch zz_prog 126 151 = some (.if_icmp .ge 75, 3, [226], []) := zz_fetch_of p126 rfl rfl
theorem s126_151 : zz_Run zz_prog d 126 (151, [l0, l1, l2, l3, l4], .int w :: .int v :: st, k, h) = if w ≤ v then zz_Run zz_prog d 126 (226, [l0, l1, l2, l3, l4], st, k, h) else zz_Run zz_prog d 126 (154, [l0, l1, l2, l3, l4], st, k, h) := zz_k_br (w ≤ v) rfl (zz_k_num f126_151 rfl)
theorem f126_154 : zz_fetch zz_prog 126 154 = some (.iconst 0, 1, [], []) := zz_fetch_of p126 rfl rfl
theorem s126_154 : zz_Run zz_prog d 126 (154, [l0, l1, l2, l3, l4], st, k, h) = zz_Run zz_prog d 126 (155, [l0, l1, l2, l3, l4], .int 0 :: st, k, h) := zz_k_num f126_154 rfl
theorem f126_155 : zz_fetch zz_prog 126 155 = some (.istore 4, 2, [], []) := zz_fetch_of p126 rfl rfl
theorem s126_155 : zz_Run zz_prog d 126 (155, [l0, l1, l2, l3, l4], .int v :: st, k, h) = zz_sl l3 (zz_Run zz_prog d 126 (157, [l0, l1, l2, l3, some (.int v)], st, k, h)) := zz_k_st (j := 4) (u := .int v) f126_155 rfl (fun q hq => by cases hq) rfl (show 4 < 5 by decide) (by cases l3 <;> rfl) rfl
theorem f126_157 : zz_fetch zz_prog 126 157 = some (.iload 4, 2, [], []) := zz_fetch_of p126 rfl rfl
theorem s126_157 : zz_Run zz_prog d 126 (157, [l0, l1, l2, l3, some (.int v)], st, k, h) = zz_Run zz_prog d 126 (159, [l0, l1, l2, l3, some (.int v)], .int v :: st, k, h) := zz_k_num f126_157 rfl
theorem f126_159 : zz_fetch zz_prog 126 159 = some (.aload_n 0, 1, [], []) := zz_fetch_of p126 rfl rfl
theorem s126_159 : zz_Run zz_prog d 126 (159, [some (.ref a), l1, l2, l3, l4], st, k, h) = zz_Run zz_prog d 126 (160, [some (.ref a), l1, l2, l3, l4], .ref a :: st, k, h) := zz_k_num f126_159 rfl
theorem f126_160 : zz_fetch zz_prog 126 160 = some (.getfield 105, 3, [2, 15, 0], []) := zz_fetch_of p126 rfl rfl
theorem s126_160 : zz_Run zz_prog d 126 (160, [l0, l1, l2, l3, l4], .ref 23 :: st, k, (zz_hp n I J ex)) = zz_Run zz_prog d 126 (163, [l0, l1, l2, l3, l4], .int (I 23 15) :: st, k, (zz_hp n I J ex)) := zz_k_go f126_160 rfl rfl rfl
theorem f126_163 : zz_fetch zz_prog 126 163 = some (.if_icmp .ge 57, 3, [220], []) := zz_fetch_of p126 rfl rfl
theorem s126_163 : zz_Run zz_prog d 126 (163, [l0, l1, l2, l3, l4], .int w :: .int v :: st, k, h) = if w ≤ v then zz_Run zz_prog d 126 (220, [l0, l1, l2, l3, l4], st, k, h) else zz_Run zz_prog d 126 (166, [l0, l1, l2, l3, l4], st, k, h) := zz_k_br (w ≤ v) rfl (zz_k_num f126_163 rfl)
theorem f126_166 : zz_fetch zz_prog 126 166 = some (.aload_n 0, 1, [], []) := zz_fetch_of p126 rfl rfl
theorem s126_166 : zz_Run zz_prog d 126 (166, [some (.ref a), l1, l2, l3, l4], st, k, h) = zz_Run zz_prog d 126 (167, [some (.ref a), l1, l2, l3, l4], .ref a :: st, k, h) := zz_k_num f126_166 rfl
theorem f126_167 : zz_fetch zz_prog 126 167 = some (.getfield 34, 3, [2, 10, 3], []) := zz_fetch_of p126 rfl rfl
theorem s126_167 : zz_Run zz_prog d 126 (167, [l0, l1, l2, l3, l4], .ref 23 :: st, k, (zz_hp n I J ex)) = zz_Run zz_prog d 126 (170, [l0, l1, l2, l3, l4], .ref 32 :: st, k, (zz_hp n I J ex)) := zz_k_go f126_167 rfl rfl rfl
theorem f126_170 : zz_fetch zz_prog 126 170 = some (.iload_n 3, 1, [], []) := zz_fetch_of p126 rfl rfl
theorem s126_170 : zz_Run zz_prog d 126 (170, [l0, l1, l2, some (.int v), l4], st, k, h) = zz_Run zz_prog d 126 (171, [l0, l1, l2, some (.int v), l4], .int v :: st, k, h) := zz_k_num f126_170 rfl
theorem f126_171 : zz_fetch zz_prog 126 171 = some (.iaload, 1, [], []) := zz_fetch_of p126 rfl rfl
theorem s126_171 (ha : zz_isrd a = true) : zz_Run zz_prog d 126 (171, [l0, l1, l2, l3, l4], .int v :: .ref a :: st, k, (zz_hp n I J ex)) = zz_ck (zz_in v (zz_ary n a)) (zz_Run zz_prog d 126 (172, [l0, l1, l2, l3, l4], .int (I a v.toNatClampNeg) :: st, k, (zz_hp n I J ex))) := zz_k_iald f126_171 ha
theorem f126_172 : zz_fetch zz_prog 126 172 = some (.iload_n 1, 1, [], []) := zz_fetch_of p126 rfl rfl
theorem s126_172 : zz_Run zz_prog d 126 (172, [l0, some (.int v), l2, l3, l4], st, k, h) = zz_Run zz_prog d 126 (173, [l0, some (.int v), l2, l3, l4], .int v :: st, k, h) := zz_k_num f126_172 rfl
theorem f126_173 : zz_fetch zz_prog 126 173 = some (.if_icmp .ne 47, 3, [220], []) := zz_fetch_of p126 rfl rfl
theorem s126_173 : zz_Run zz_prog d 126 (173, [l0, l1, l2, l3, l4], .int w :: .int v :: st, k, h) = if ¬ v = w then zz_Run zz_prog d 126 (220, [l0, l1, l2, l3, l4], st, k, h) else zz_Run zz_prog d 126 (176, [l0, l1, l2, l3, l4], st, k, h) := zz_k_br (¬ v = w) rfl (zz_k_num f126_173 rfl)
theorem f126_176 : zz_fetch zz_prog 126 176 = some (.iload_n 3, 1, [], []) := zz_fetch_of p126 rfl rfl
theorem s126_176 : zz_Run zz_prog d 126 (176, [l0, l1, l2, some (.int v), l4], st, k, h) = zz_Run zz_prog d 126 (177, [l0, l1, l2, some (.int v), l4], .int v :: st, k, h) := zz_k_num f126_176 rfl
theorem f126_177 : zz_fetch zz_prog 126 177 = some (.aload_n 0, 1, [], []) := zz_fetch_of p126 rfl rfl
theorem s126_177 : zz_Run zz_prog d 126 (177, [some (.ref a), l1, l2, l3, l4], st, k, h) = zz_Run zz_prog d 126 (178, [some (.ref a), l1, l2, l3, l4], .ref a :: st, k, h) := zz_k_num f126_177 rfl
theorem f126_178 : zz_fetch zz_prog 126 178 = some (.getfield 7, 3, [2, 1, 3], []) := zz_fetch_of p126 rfl rfl
theorem s126_178 : zz_Run zz_prog d 126 (178, [l0, l1, l2, l3, l4], .ref 23 :: st, k, (zz_hp n I J ex)) = zz_Run zz_prog d 126 (181, [l0, l1, l2, l3, l4], .ref 24 :: st, k, (zz_hp n I J ex)) := zz_k_go f126_178 rfl rfl rfl
theorem f126_181 : zz_fetch zz_prog 126 181 = some (.sipush 182, 3, [], []) := zz_fetch_of p126 rfl rfl
theorem s126_181 : zz_Run zz_prog d 126 (181, [l0, l1, l2, l3, l4], st, k, h) = zz_Run zz_prog d 126 (184, [l0, l1, l2, l3, l4], .int 182 :: st, k, h) := zz_k_num f126_181 (congrArg (fun u => some (184, [l0, l1, l2, l3, l4], Value.int u :: st)) (by decide : (Int16.ofInt 182).toInt32 = 182))
theorem f126_184 : zz_fetch zz_prog 126 184 = some (.iaload, 1, [], []) := zz_fetch_of p126 rfl rfl
theorem s126_184 (ha : zz_isrd a = true) : zz_Run zz_prog d 126 (184, [l0, l1, l2, l3, l4], .int v :: .ref a :: st, k, (zz_hp n I J ex)) = zz_ck (zz_in v (zz_ary n a)) (zz_Run zz_prog d 126 (185, [l0, l1, l2, l3, l4], .int (I a v.toNatClampNeg) :: st, k, (zz_hp n I J ex))) := zz_k_iald f126_184 ha
theorem f126_185 : zz_fetch zz_prog 126 185 = some (.if_icmp .eq 35, 3, [220], []) := zz_fetch_of p126 rfl rfl
theorem s126_185 : zz_Run zz_prog d 126 (185, [l0, l1, l2, l3, l4], .int w :: .int v :: st, k, h) = if v = w then zz_Run zz_prog d 126 (220, [l0, l1, l2, l3, l4], st, k, h) else zz_Run zz_prog d 126 (188, [l0, l1, l2, l3, l4], st, k, h) := zz_k_br (v = w) rfl (zz_k_num f126_185 rfl)
theorem f126_188 : zz_fetch zz_prog 126 188 = some (.aload_n 0, 1, [], []) := zz_fetch_of p126 rfl rfl
theorem s126_188 : zz_Run zz_prog d 126 (188, [some (.ref a), l1, l2, l3, l4], st, k, h) = zz_Run zz_prog d 126 (189, [some (.ref a), l1, l2, l3, l4], .ref a :: st, k, h) := zz_k_num f126_188 rfl
theorem f126_189 : zz_fetch zz_prog 126 189 = some (.getfield 67, 3, [2, 24, 3], []) := zz_fetch_of p126 rfl rfl
theorem s126_189 : zz_Run zz_prog d 126 (189, [l0, l1, l2, l3, l4], .ref 23 :: st, k, (zz_hp n I J ex)) = zz_Run zz_prog d 126 (192, [l0, l1, l2, l3, l4], .ref 43 :: st, k, (zz_hp n I J ex)) := zz_k_go f126_189 rfl rfl rfl
theorem f126_192 : zz_fetch zz_prog 126 192 = some (.iconst 5, 1, [], []) := zz_fetch_of p126 rfl rfl
theorem s126_192 : zz_Run zz_prog d 126 (192, [l0, l1, l2, l3, l4], st, k, h) = zz_Run zz_prog d 126 (193, [l0, l1, l2, l3, l4], .int 5 :: st, k, h) := zz_k_num f126_192 rfl
theorem f126_193 : zz_fetch zz_prog 126 193 = some (.iload 4, 2, [], []) := zz_fetch_of p126 rfl rfl
theorem s126_193 : zz_Run zz_prog d 126 (193, [l0, l1, l2, l3, some (.int v)], st, k, h) = zz_Run zz_prog d 126 (195, [l0, l1, l2, l3, some (.int v)], .int v :: st, k, h) := zz_k_num f126_193 rfl
theorem f126_195 : zz_fetch zz_prog 126 195 = some (.imul, 1, [], []) := zz_fetch_of p126 rfl rfl
theorem s126_195 : zz_Run zz_prog d 126 (195, [l0, l1, l2, l3, l4], .int w :: .int v :: st, k, h) = zz_Run zz_prog d 126 (196, [l0, l1, l2, l3, l4], .int (v * w) :: st, k, h) := zz_k_num f126_195 rfl
theorem f126_196 : zz_fetch zz_prog 126 196 = some (.aload_n 0, 1, [], []) := zz_fetch_of p126 rfl rfl
theorem s126_196 : zz_Run zz_prog d 126 (196, [some (.ref a), l1, l2, l3, l4], st, k, h) = zz_Run zz_prog d 126 (197, [some (.ref a), l1, l2, l3, l4], .ref a :: st, k, h) := zz_k_num f126_196 rfl
theorem f126_197 : zz_fetch zz_prog 126 197 = some (.getfield 31, 3, [2, 9, 3], []) := zz_fetch_of p126 rfl rfl
theorem s126_197 : zz_Run zz_prog d 126 (197, [l0, l1, l2, l3, l4], .ref 23 :: st, k, (zz_hp n I J ex)) = zz_Run zz_prog d 126 (200, [l0, l1, l2, l3, l4], .ref 31 :: st, k, (zz_hp n I J ex)) := zz_k_go f126_197 rfl rfl rfl
theorem f126_200 : zz_fetch zz_prog 126 200 = some (.iload_n 3, 1, [], []) := zz_fetch_of p126 rfl rfl
theorem s126_200 : zz_Run zz_prog d 126 (200, [l0, l1, l2, some (.int v), l4], st, k, h) = zz_Run zz_prog d 126 (201, [l0, l1, l2, some (.int v), l4], .int v :: st, k, h) := zz_k_num f126_200 rfl
theorem f126_201 : zz_fetch zz_prog 126 201 = some (.iaload, 1, [], []) := zz_fetch_of p126 rfl rfl
theorem s126_201 (ha : zz_isrd a = true) : zz_Run zz_prog d 126 (201, [l0, l1, l2, l3, l4], .int v :: .ref a :: st, k, (zz_hp n I J ex)) = zz_ck (zz_in v (zz_ary n a)) (zz_Run zz_prog d 126 (202, [l0, l1, l2, l3, l4], .int (I a v.toNatClampNeg) :: st, k, (zz_hp n I J ex))) := zz_k_iald f126_201 ha
theorem f126_202 : zz_fetch zz_prog 126 202 = some (.iadd, 1, [], []) := zz_fetch_of p126 rfl rfl
theorem s126_202 : zz_Run zz_prog d 126 (202, [l0, l1, l2, l3, l4], .int w :: .int v :: st, k, h) = zz_Run zz_prog d 126 (203, [l0, l1, l2, l3, l4], .int (v + w) :: st, k, h) := zz_k_num f126_202 rfl
theorem f126_203 : zz_fetch zz_prog 126 203 = some (.dup2, 1, [], []) := zz_fetch_of p126 rfl rfl
theorem s126_203 : zz_Run zz_prog d 126 (203, [l0, l1, l2, l3, l4], .int v :: .ref a1 :: st, k, h) = zz_Run zz_prog d 126 (204, [l0, l1, l2, l3, l4], .int v :: .ref a1 :: .int v :: .ref a1 :: st, k, h) := zz_k_num f126_203 rfl
theorem f126_204 : zz_fetch zz_prog 126 204 = some (.iaload, 1, [], []) := zz_fetch_of p126 rfl rfl
theorem s126_204 (ha : zz_isrd a = true) : zz_Run zz_prog d 126 (204, [l0, l1, l2, l3, l4], .int v :: .ref a :: st, k, (zz_hp n I J ex)) = zz_ck (zz_in v (zz_ary n a)) (zz_Run zz_prog d 126 (205, [l0, l1, l2, l3, l4], .int (I a v.toNatClampNeg) :: st, k, (zz_hp n I J ex))) := zz_k_iald f126_204 ha
theorem f126_205 : zz_fetch zz_prog 126 205 = some (.aload_n 0, 1, [], []) := zz_fetch_of p126 rfl rfl
theorem s126_205 : zz_Run zz_prog d 126 (205, [some (.ref a), l1, l2, l3, l4], st, k, h) = zz_Run zz_prog d 126 (206, [some (.ref a), l1, l2, l3, l4], .ref a :: st, k, h) := zz_k_num f126_205 rfl
theorem f126_206 : zz_fetch zz_prog 126 206 = some (.iload 4, 2, [], []) := zz_fetch_of p126 rfl rfl
theorem s126_206 : zz_Run zz_prog d 126 (206, [l0, l1, l2, l3, some (.int v)], st, k, h) = zz_Run zz_prog d 126 (208, [l0, l1, l2, l3, some (.int v)], .int v :: st, k, h) := zz_k_num f126_206 rfl
theorem f126_208 : zz_fetch zz_prog 126 208 = some (.iload_n 3, 1, [], []) := zz_fetch_of p126 rfl rfl
theorem s126_208 : zz_Run zz_prog d 126 (208, [l0, l1, l2, some (.int v), l4], st, k, h) = zz_Run zz_prog d 126 (209, [l0, l1, l2, some (.int v), l4], .int v :: st, k, h) := zz_k_num f126_208 rfl
theorem f126_209 : zz_fetch zz_prog 126 209 = some (.invokevirtual 185, 3, [0, 122, 3, 2], []) := zz_fetch_of p126 rfl rfl
theorem s126_209 : zz_Run zz_prog d 126 (209, [l0, l1, l2, l3, l4], [b0, b1, .ref 23, b3, b4, b5], k, (zz_hp n I J ex)) = zz_ret (zz_Call zz_prog d 122 [.ref 23, b1, b0] (zz_hp n I J ex)) (fun v k' h' => zz_Run zz_prog d 126 (212, [l0, l1, l2, l3, l4], v.toList ++ [b3, b4, b5], k && k', h')) (fun a k' h' => zz_th d 126 209 a [l0, l1, l2, l3, l4] (k && k') h') := zz_k_call f126_209 rfl rfl rfl
theorem f126_212 : zz_fetch zz_prog 126 212 = some (.iadd, 1, [], []) := zz_fetch_of p126 rfl rfl
theorem s126_212 : zz_Run zz_prog d 126 (212, [l0, l1, l2, l3, l4], .int w :: .int v :: st, k, h) = zz_Run zz_prog d 126 (213, [l0, l1, l2, l3, l4], .int (v + w) :: st, k, h) := zz_k_num f126_212 rfl
theorem f126_213 : zz_fetch zz_prog 126 213 = some (.iastore, 1, [], []) := zz_fetch_of p126 rfl rfl
theorem s126_213 (ha : zz_isar a = true) : zz_Run zz_prog d 126 (213, [l0, l1, l2, l3, l4], .int w :: .int v :: .ref a :: st, k, (zz_hp n I J ex)) = zz_ck (zz_in v (zz_ary n a)) (zz_Run zz_prog d 126 (214, [l0, l1, l2, l3, l4], st, false, (zz_hp n (zz_up I a v.toNatClampNeg w) J ex))) := zz_k_iast f126_213 ha
theorem f126_214 : zz_fetch zz_prog 126 214 = some (.iinc 4 1, 3, [], []) := zz_fetch_of p126 rfl rfl
theorem s126_214 : zz_Run zz_prog d 126 (214, [l0, l1, l2, l3, some (.int v)], st, k, h) = zz_sl l3 (zz_Run zz_prog d 126 (217, [l0, l1, l2, l3, some (.int (v + 1))], st, k, h)) := zz_k_st (j := 4) (u := .int (v + 1)) f126_214 rfl (fun q hq => by cases hq) rfl (show 4 < 5 by decide) (by cases l3 <;> rfl) rfl
theorem f126_217 : zz_fetch zz_prog 126 217 = some (.goto (-60), 3, [157], []) := zz_fetch_of p126 rfl rfl
theorem s126_217 : zz_Run zz_prog d 126 (217, [l0, l1, l2, l3, l4], st, k, h) = zz_Run zz_prog d 126 (157, [l0, l1, l2, l3, l4], st, k, h) := zz_k_num f126_217 rfl
theorem f126_220 : zz_fetch zz_prog 126 220 = some (.iinc 3 1, 3, [], []) := zz_fetch_of p126 rfl rfl
theorem s126_220 : zz_Run zz_prog d 126 (220, [l0, l1, l2, some (.int v), l4], st, k, h) = zz_sl l2 (zz_Run zz_prog d 126 (223, [l0, l1, l2, some (.int (v + 1)), l4], st, k, h)) := zz_k_st (j := 3) (u := .int (v + 1)) f126_220 rfl (fun q hq => by cases hq) rfl (show 3 < 5 by decide) (by cases l2 <;> rfl) rfl
theorem f126_223 : zz_fetch zz_prog 126 223 = some (.goto (-75), 3, [148], []) := zz_fetch_of p126 rfl rfl
theorem s126_223 : zz_Run zz_prog d 126 (223, [l0, l1, l2, l3, l4], st, k, h) = zz_Run zz_prog d 126 (148, [l0, l1, l2, l3, l4], st, k, h) := zz_k_num f126_223 rfl
theorem f126_226 : zz_fetch zz_prog 126 226 = some (.iconst 0, 1, [], []) := zz_fetch_of p126 rfl rfl
theorem s126_226 : zz_Run zz_prog d 126 (226, [l0, l1, l2, l3, l4], st, k, h) = zz_Run zz_prog d 126 (227, [l0, l1, l2, l3, l4], .int 0 :: st, k, h) := zz_k_num f126_226 rfl
theorem f126_227 : zz_fetch zz_prog 126 227 = some (.istore_n 3, 1, [], []) := zz_fetch_of p126 rfl rfl
theorem s126_227 : zz_Run zz_prog d 126 (227, [l0, l1, l2, l3, l4], .int v :: st, k, h) = zz_sl l2 (zz_Run zz_prog d 126 (228, [l0, l1, l2, some (.int v), l4], st, k, h)) := zz_k_st (j := 3) (u := .int v) f126_227 rfl (fun q hq => by cases hq) rfl (show 3 < 5 by decide) (by cases l2 <;> rfl) rfl
theorem f126_228 : zz_fetch zz_prog 126 228 = some (.iload_n 3, 1, [], []) := zz_fetch_of p126 rfl rfl
theorem s126_228 : zz_Run zz_prog d 126 (228, [l0, l1, l2, some (.int v), l4], st, k, h) = zz_Run zz_prog d 126 (229, [l0, l1, l2, some (.int v), l4], .int v :: st, k, h) := zz_k_num f126_228 rfl
theorem f126_229 : zz_fetch zz_prog 126 229 = some (.iconst 5, 1, [], []) := zz_fetch_of p126 rfl rfl
theorem s126_229 : zz_Run zz_prog d 126 (229, [l0, l1, l2, l3, l4], st, k, h) = zz_Run zz_prog d 126 (230, [l0, l1, l2, l3, l4], .int 5 :: st, k, h) := zz_k_num f126_229 rfl
theorem f126_230 : zz_fetch zz_prog 126 230 = some (.if_icmp .ge 17, 3, [247], []) := zz_fetch_of p126 rfl rfl
theorem s126_230 : zz_Run zz_prog d 126 (230, [l0, l1, l2, l3, l4], .int w :: .int v :: st, k, h) = if w ≤ v then zz_Run zz_prog d 126 (247, [l0, l1, l2, l3, l4], st, k, h) else zz_Run zz_prog d 126 (233, [l0, l1, l2, l3, l4], st, k, h) := zz_k_br (w ≤ v) rfl (zz_k_num f126_230 rfl)
theorem f126_233 : zz_fetch zz_prog 126 233 = some (.iload_n 2, 1, [], []) := zz_fetch_of p126 rfl rfl
theorem s126_233 : zz_Run zz_prog d 126 (233, [l0, l1, some (.int v), l3, l4], st, k, h) = zz_Run zz_prog d 126 (234, [l0, l1, some (.int v), l3, l4], .int v :: st, k, h) := zz_k_num f126_233 rfl
theorem f126_234 : zz_fetch zz_prog 126 234 = some (.aload_n 0, 1, [], []) := zz_fetch_of p126 rfl rfl
theorem s126_234 : zz_Run zz_prog d 126 (234, [some (.ref a), l1, l2, l3, l4], st, k, h) = zz_Run zz_prog d 126 (235, [some (.ref a), l1, l2, l3, l4], .ref a :: st, k, h) := zz_k_num f126_234 rfl
theorem f126_235 : zz_fetch zz_prog 126 235 = some (.iload_n 3, 1, [], []) := zz_fetch_of p126 rfl rfl
theorem s126_235 : zz_Run zz_prog d 126 (235, [l0, l1, l2, some (.int v), l4], st, k, h) = zz_Run zz_prog d 126 (236, [l0, l1, l2, some (.int v), l4], .int v :: st, k, h) := zz_k_num f126_235 rfl
theorem f126_236 : zz_fetch zz_prog 126 236 = some (.invokevirtual 188, 3, [0, 123, 2, 2], []) := zz_fetch_of p126 rfl rfl
theorem s126_236 : zz_Run zz_prog d 126 (236, [l0, l1, l2, l3, l4], [b0, .ref 23, b2], k, (zz_hp n I J ex)) = zz_ret (zz_Call zz_prog d 123 [.ref 23, b0] (zz_hp n I J ex)) (fun v k' h' => zz_Run zz_prog d 126 (239, [l0, l1, l2, l3, l4], v.toList ++ [b2], k && k', h')) (fun a k' h' => zz_th d 126 236 a [l0, l1, l2, l3, l4] (k && k') h') := zz_k_call f126_236 rfl rfl rfl
theorem f126_239 : zz_fetch zz_prog 126 239 = some (.iadd, 1, [], []) := zz_fetch_of p126 rfl rfl
theorem s126_239 : zz_Run zz_prog d 126 (239, [l0, l1, l2, l3, l4], .int w :: .int v :: st, k, h) = zz_Run zz_prog d 126 (240, [l0, l1, l2, l3, l4], .int (v + w) :: st, k, h) := zz_k_num f126_239 rfl
theorem f126_240 : zz_fetch zz_prog 126 240 = some (.istore_n 2, 1, [], []) := zz_fetch_of p126 rfl rfl
theorem s126_240 : zz_Run zz_prog d 126 (240, [l0, l1, l2, l3, l4], .int v :: st, k, h) = zz_sl l1 (zz_Run zz_prog d 126 (241, [l0, l1, some (.int v), l3, l4], st, k, h)) := zz_k_st (j := 2) (u := .int v) f126_240 rfl (fun q hq => by cases hq) rfl (show 2 < 5 by decide) (by cases l1 <;> rfl) rfl
theorem f126_241 : zz_fetch zz_prog 126 241 = some (.iinc 3 1, 3, [], []) := zz_fetch_of p126 rfl rfl
theorem s126_241 : zz_Run zz_prog d 126 (241, [l0, l1, l2, some (.int v), l4], st, k, h) = zz_sl l2 (zz_Run zz_prog d 126 (244, [l0, l1, l2, some (.int (v + 1)), l4], st, k, h)) := zz_k_st (j := 3) (u := .int (v + 1)) f126_241 rfl (fun q hq => by cases hq) rfl (show 3 < 5 by decide) (by cases l2 <;> rfl) rfl
theorem f126_244 : zz_fetch zz_prog 126 244 = some (.goto (-16), 3, [228], []) := zz_fetch_of p126 rfl rfl
theorem s126_244 : zz_Run zz_prog d 126 (244, [l0, l1, l2, l3, l4], st, k, h) = zz_Run zz_prog d 126 (228, [l0, l1, l2, l3, l4], st, k, h) := zz_k_num f126_244 rfl
theorem f126_247 : zz_fetch zz_prog 126 247 = some (.aload_n 0, 1, [], []) := zz_fetch_of p126 rfl rfl
theorem s126_247 : zz_Run zz_prog d 126 (247, [some (.ref a), l1, l2, l3, l4], st, k, h) = zz_Run zz_prog d 126 (248, [some (.ref a), l1, l2, l3, l4], .ref a :: st, k, h) := zz_k_num f126_247 rfl
theorem f126_248 : zz_fetch zz_prog 126 248 = some (.getfield 7, 3, [2, 1, 3], []) := zz_fetch_of p126 rfl rfl
theorem s126_248 : zz_Run zz_prog d 126 (248, [l0, l1, l2, l3, l4], .ref 23 :: st, k, (zz_hp n I J ex)) = zz_Run zz_prog d 126 (251, [l0, l1, l2, l3, l4], .ref 24 :: st, k, (zz_hp n I J ex)) := zz_k_go f126_248 rfl rfl rfl
theorem f126_251 : zz_fetch zz_prog 126 251 = some (.sipush 180, 3, [], []) := zz_fetch_of p126 rfl rfl
theorem s126_251 : zz_Run zz_prog d 126 (251, [l0, l1, l2, l3, l4], st, k, h) = zz_Run zz_prog d 126 (254, [l0, l1, l2, l3, l4], .int 180 :: st, k, h) := zz_k_num f126_251 (congrArg (fun u => some (254, [l0, l1, l2, l3, l4], Value.int u :: st)) (by decide : (Int16.ofInt 180).toInt32 = 180))
theorem f126_254 : zz_fetch zz_prog 126 254 = some (.bipush 6, 2, [], []) := zz_fetch_of p126 rfl rfl
theorem s126_254 : zz_Run zz_prog d 126 (254, [l0, l1, l2, l3, l4], st, k, h) = zz_Run zz_prog d 126 (256, [l0, l1, l2, l3, l4], .int 6 :: st, k, h) := zz_k_num f126_254 (congrArg (fun u => some (256, [l0, l1, l2, l3, l4], Value.int u :: st)) (by decide : (Int8.ofInt 6).toInt32 = 6))
theorem f126_256 : zz_fetch zz_prog 126 256 = some (.iastore, 1, [], []) := zz_fetch_of p126 rfl rfl
theorem s126_256 (ha : zz_isar a = true) : zz_Run zz_prog d 126 (256, [l0, l1, l2, l3, l4], .int w :: .int v :: .ref a :: st, k, (zz_hp n I J ex)) = zz_ck (zz_in v (zz_ary n a)) (zz_Run zz_prog d 126 (257, [l0, l1, l2, l3, l4], st, false, (zz_hp n (zz_up I a v.toNatClampNeg w) J ex))) := zz_k_iast f126_256 ha
theorem f126_257 : zz_fetch zz_prog 126 257 = some (.aload_n 0, 1, [], []) := zz_fetch_of p126 rfl rfl
theorem s126_257 : zz_Run zz_prog d 126 (257, [some (.ref a), l1, l2, l3, l4], st, k, h) = zz_Run zz_prog d 126 (258, [some (.ref a), l1, l2, l3, l4], .ref a :: st, k, h) := zz_k_num f126_257 rfl
theorem f126_258 : zz_fetch zz_prog 126 258 = some (.invokevirtual 175, 3, [0, 116, 1, 2], []) := zz_fetch_of p126 rfl rfl
theorem s126_258 : zz_Run zz_prog d 126 (258, [l0, l1, l2, l3, l4], [.ref 23], k, (zz_hp n I J ex)) = zz_ret (zz_Call zz_prog d 116 [.ref 23] (zz_hp n I J ex)) (fun v k' h' => zz_Run zz_prog d 126 (261, [l0, l1, l2, l3, l4], v.toList ++ [], k && k', h')) (fun a k' h' => zz_th d 126 258 a [l0, l1, l2, l3, l4] (k && k') h') := zz_k_call f126_258 rfl rfl rfl
theorem f126_261 : zz_fetch zz_prog 126 261 = some (.iload_n 2, 1, [], []) := zz_fetch_of p126 rfl rfl
theorem s126_261 : zz_Run zz_prog d 126 (261, [l0, l1, some (.int v), l3, l4], st, k, h) = zz_Run zz_prog d 126 (262, [l0, l1, some (.int v), l3, l4], .int v :: st, k, h) := zz_k_num f126_261 rfl
theorem f126_262 : zz_fetch zz_prog 126 262 = some (.ireturn, 1, [0], []) := zz_fetch_of p126 rfl rfl
theorem s126_262 : zz_Run zz_prog d 126 (262, [l0, l1, l2, l3, l4], [.int v], k, h) = some (.inl (some (.int v)), k, h) := zz_k_stop f126_262 rfl rfl rfl
end S126
section S127
variable {d n j : Nat} {l0 l1 : Option Value} {st : List Value} {k : Bool} {h : zz_H} {v w v1 v2 : Int32} {y y1 : Int64} {a a1 a2 : Nat} {b0 b1 b2 b3 b4 b5 b6 b7 b8 : Value} {I : Nat → Nat → Int32} {J : Nat → Nat → Int64} {ex : List (Nat × Nat)}
theorem p127 : zz_prog 127 = some zz_m127 := rfl
theorem e127 (g0 : Nat) (g1 : Int32) : zz_Call zz_prog (d + 1) 127 [.ref g0, .int g1] h = zz_Run zz_prog d 127 (0, [some (.ref g0), some (.int g1)], [], true, h) := rfl
theorem t127 (pc : Nat) (L : List (Option Value)) : zz_th d 127 pc a L k h = some (.inr a, k, h) := zz_th_out p127 rfl
theorem f127_0 : zz_fetch zz_prog 127 0 = some (.iload_n 1, 1, [], []) := zz_fetch_of p127 rfl rfl
theorem s127_0 : zz_Run zz_prog d 127 (0, [l0, some (.int v)], st, k, h) = zz_Run zz_prog d 127 (1, [l0, some (.int v)], .int v :: st, k, h) := zz_k_num f127_0 rfl
theorem f127_1 : zz_fetch zz_prog 127 1 = some (.ifCond .lt 15, 3, [16], []) := zz_fetch_of p127 rfl rfl
theorem s127_1 : zz_Run zz_prog d 127 (1, [l0, l1], .int v :: st, k, h) = if v < 0 then zz_Run zz_prog d 127 (16, [l0, l1], st, k, h) else zz_Run zz_prog d 127 (4, [l0, l1], st, k, h) := zz_k_br (v < 0) rfl (zz_k_num f127_1 rfl)
theorem f127_4 : zz_fetch zz_prog 127 4 = some (.iload_n 1, 1, [], []) := zz_fetch_of p127 rfl rfl
theorem s127_4 : zz_Run zz_prog d 127 (4, [l0, some (.int v)], st, k, h) = zz_Run zz_prog d 127 (5, [l0, some (.int v)], .int v :: st, k, h) := zz_k_num f127_4 rfl
theorem f127_5 : zz_fetch zz_prog 127 5 = some (.aload_n 0, 1, [], []) := zz_fetch_of p127 rfl rfl
theorem s127_5 : zz_Run zz_prog d 127 (5, [some (.ref a), l1], st, k, h) = zz_Run zz_prog d 127 (6, [some (.ref a), l1], .ref a :: st, k, h) := zz_k_num f127_5 rfl
theorem f127_6 : zz_fetch zz_prog 127 6 = some (.getfield 105, 3, [2, 15, 0], []) := zz_fetch_of p127 rfl rfl
theorem s127_6 : zz_Run zz_prog d 127 (6, [l0, l1], .ref 23 :: st, k, (zz_hp n I J ex)) = zz_Run zz_prog d 127 (9, [l0, l1], .int (I 23 15) :: st, k, (zz_hp n I J ex)) := zz_k_go f127_6 rfl rfl rfl
theorem f127_9 : zz_fetch zz_prog 127 9 = some (.if_icmp .ge 7, 3, [16], []) := zz_fetch_of p127 rfl rfl
theorem s127_9 : zz_Run zz_prog d 127 (9, [l0, l1], .int w :: .int v :: st, k, h) = if w ≤ v then zz_Run zz_prog d 127 (16, [l0, l1], st, k, h) else zz_Run zz_prog d 127 (12, [l0, l1], st, k, h) := zz_k_br (w ≤ v) rfl (zz_k_num f127_9 rfl)
theorem f127_12 : zz_fetch zz_prog 127 12 = some (.iconst 1, 1, [], []) := zz_fetch_of p127 rfl rfl
theorem s127_12 : zz_Run zz_prog d 127 (12, [l0, l1], st, k, h) = zz_Run zz_prog d 127 (13, [l0, l1], .int 1 :: st, k, h) := zz_k_num f127_12 rfl
theorem f127_13 : zz_fetch zz_prog 127 13 = some (.goto 4, 3, [17], []) := zz_fetch_of p127 rfl rfl
theorem s127_13 : zz_Run zz_prog d 127 (13, [l0, l1], st, k, h) = zz_Run zz_prog d 127 (17, [l0, l1], st, k, h) := zz_k_num f127_13 rfl
theorem f127_16 : zz_fetch zz_prog 127 16 = some (.iconst 0, 1, [], []) := zz_fetch_of p127 rfl rfl
theorem s127_16 : zz_Run zz_prog d 127 (16, [l0, l1], st, k, h) = zz_Run zz_prog d 127 (17, [l0, l1], .int 0 :: st, k, h) := zz_k_num f127_16 rfl
theorem f127_17 : zz_fetch zz_prog 127 17 = some (.ireturn, 1, [1], []) := zz_fetch_of p127 rfl rfl
theorem s127_17 : zz_Run zz_prog d 127 (17, [l0, l1], [.int v], k, h) = zz_ck (decide (v = 0 ∨ v = 1)) (some (.inl (some (.int v)), k, h)) := zz_k_retz f127_17
end S127
section S128
variable {d n j : Nat} {l0 : Option Value} {st : List Value} {k : Bool} {h : zz_H} {v w v1 v2 : Int32} {y y1 : Int64} {a a1 a2 : Nat} {b0 b1 b2 b3 b4 b5 b6 b7 b8 : Value} {I : Nat → Nat → Int32} {J : Nat → Nat → Int64} {ex : List (Nat × Nat)}
theorem p128 : zz_prog 128 = some zz_m128 := rfl
theorem e128 (g0 : Int32) : zz_Call zz_prog (d + 1) 128 [.int g0] h = zz_Run zz_prog d 128 (0, [some (.int g0)], [], true, h) := rfl
theorem t128 (pc : Nat) (L : List (Option Value)) : zz_th d 128 pc a L k h = some (.inr a, k, h) := zz_th_out p128 rfl
theorem f128_0 : zz_fetch zz_prog 128 0 = some (.iload_n 0, 1, [], []) := zz_fetch_of p128 rfl rfl
theorem s128_0 : zz_Run zz_prog d 128 (0, [some (.int v)], st, k, h) = zz_Run zz_prog d 128 (1, [some (.int v)], .int v :: st, k, h) := zz_k_num f128_0 rfl
theorem f128_1 : zz_fetch zz_prog 128 1 = some (.ifCond .lt 12, 3, [13], []) := zz_fetch_of p128 rfl rfl
theorem s128_1 : zz_Run zz_prog d 128 (1, [l0], .int v :: st, k, h) = if v < 0 then zz_Run zz_prog d 128 (13, [l0], st, k, h) else zz_Run zz_prog d 128 (4, [l0], st, k, h) := zz_k_br (v < 0) rfl (zz_k_num f128_1 rfl)
theorem f128_4 : zz_fetch zz_prog 128 4 = some (.iload_n 0, 1, [], []) := zz_fetch_of p128 rfl rfl
theorem s128_4 : zz_Run zz_prog d 128 (4, [some (.int v)], st, k, h) = zz_Run zz_prog d 128 (5, [some (.int v)], .int v :: st, k, h) := zz_k_num f128_4 rfl
theorem f128_5 : zz_fetch zz_prog 128 5 = some (.iconst 5, 1, [], []) := zz_fetch_of p128 rfl rfl
theorem s128_5 : zz_Run zz_prog d 128 (5, [l0], st, k, h) = zz_Run zz_prog d 128 (6, [l0], .int 5 :: st, k, h) := zz_k_num f128_5 rfl
theorem f128_6 : zz_fetch zz_prog 128 6 = some (.if_icmp .ge 7, 3, [13], []) := zz_fetch_of p128 rfl rfl
theorem s128_6 : zz_Run zz_prog d 128 (6, [l0], .int w :: .int v :: st, k, h) = if w ≤ v then zz_Run zz_prog d 128 (13, [l0], st, k, h) else zz_Run zz_prog d 128 (9, [l0], st, k, h) := zz_k_br (w ≤ v) rfl (zz_k_num f128_6 rfl)
theorem f128_9 : zz_fetch zz_prog 128 9 = some (.iconst 1, 1, [], []) := zz_fetch_of p128 rfl rfl
theorem s128_9 : zz_Run zz_prog d 128 (9, [l0], st, k, h) = zz_Run zz_prog d 128 (10, [l0], .int 1 :: st, k, h) := zz_k_num f128_9 rfl
theorem f128_10 : zz_fetch zz_prog 128 10 = some (.goto 4, 3, [14], []) := zz_fetch_of p128 rfl rfl
theorem s128_10 : zz_Run zz_prog d 128 (10, [l0], st, k, h) = zz_Run zz_prog d 128 (14, [l0], st, k, h) := zz_k_num f128_10 rfl
theorem f128_13 : zz_fetch zz_prog 128 13 = some (.iconst 0, 1, [], []) := zz_fetch_of p128 rfl rfl
theorem s128_13 : zz_Run zz_prog d 128 (13, [l0], st, k, h) = zz_Run zz_prog d 128 (14, [l0], .int 0 :: st, k, h) := zz_k_num f128_13 rfl
theorem f128_14 : zz_fetch zz_prog 128 14 = some (.ireturn, 1, [1], []) := zz_fetch_of p128 rfl rfl
theorem s128_14 : zz_Run zz_prog d 128 (14, [l0], [.int v], k, h) = zz_ck (decide (v = 0 ∨ v = 1)) (some (.inl (some (.int v)), k, h)) := zz_k_retz f128_14
end S128
section S129
variable {d n j : Nat} {l0 l1 l2 l3 l4 l5 : Option Value} {st : List Value} {k : Bool} {h : zz_H} {v w v1 v2 : Int32} {y y1 : Int64} {a a1 a2 : Nat} {b0 b1 b2 b3 b4 b5 b6 b7 b8 : Value} {I : Nat → Nat → Int32} {J : Nat → Nat → Int64} {ex : List (Nat × Nat)}
theorem p129 : zz_prog 129 = some zz_m129 := rfl
theorem e129 (g0 : Nat) (g1 : Int32) (g2 : Int32) : zz_Call zz_prog (d + 1) 129 [.ref g0, .int g1, .int g2] h = zz_Run zz_prog d 129 (0, [some (.ref g0), some (.int g1), some (.int g2), none, none, none], [], true, h) := rfl
theorem t129 (pc : Nat) (L : List (Option Value)) : zz_th d 129 pc a L k h = some (.inr a, k, h) := zz_th_out p129 rfl
theorem f129_0 : zz_fetch zz_prog 129 0 = some (.aload_n 0, 1, [], []) := zz_fetch_of p129 rfl rfl
theorem s129_0 : zz_Run zz_prog d 129 (0, [some (.ref a), l1, l2, l3, l4, l5], st, k, h) = zz_Run zz_prog d 129 (1, [some (.ref a), l1, l2, l3, l4, l5], .ref a :: st, k, h) := zz_k_num f129_0 rfl
theorem f129_1 : zz_fetch zz_prog 129 1 = some (.getfield 7, 3, [2, 1, 3], []) := zz_fetch_of p129 rfl rfl
theorem s129_1 : zz_Run zz_prog d 129 (1, [l0, l1, l2, l3, l4, l5], .ref 23 :: st, k, (zz_hp n I J ex)) = zz_Run zz_prog d 129 (4, [l0, l1, l2, l3, l4, l5], .ref 24 :: st, k, (zz_hp n I J ex)) := zz_k_go f129_1 rfl rfl rfl
theorem f129_4 : zz_fetch zz_prog 129 4 = some (.sipush 180, 3, [], []) := zz_fetch_of p129 rfl rfl
theorem s129_4 : zz_Run zz_prog d 129 (4, [l0, l1, l2, l3, l4, l5], st, k, h) = zz_Run zz_prog d 129 (7, [l0, l1, l2, l3, l4, l5], .int 180 :: st, k, h) := zz_k_num f129_4 (congrArg (fun u => some (7, [l0, l1, l2, l3, l4, l5], Value.int u :: st)) (by decide : (Int16.ofInt 180).toInt32 = 180))
theorem f129_7 : zz_fetch zz_prog 129 7 = some (.iaload, 1, [], []) := zz_fetch_of p129 rfl rfl
theorem s129_7 (ha : zz_isrd a = true) : zz_Run zz_prog d 129 (7, [l0, l1, l2, l3, l4, l5], .int v :: .ref a :: st, k, (zz_hp n I J ex)) = zz_ck (zz_in v (zz_ary n a)) (zz_Run zz_prog d 129 (8, [l0, l1, l2, l3, l4, l5], .int (I a v.toNatClampNeg) :: st, k, (zz_hp n I J ex))) := zz_k_iald f129_7 ha
theorem f129_8 : zz_fetch zz_prog 129 8 = some (.iconst 4, 1, [], []) := zz_fetch_of p129 rfl rfl
theorem s129_8 : zz_Run zz_prog d 129 (8, [l0, l1, l2, l3, l4, l5], st, k, h) = zz_Run zz_prog d 129 (9, [l0, l1, l2, l3, l4, l5], .int 4 :: st, k, h) := zz_k_num f129_8 rfl
theorem f129_9 : zz_fetch zz_prog 129 9 = some (.if_icmp .eq 7, 3, [16], []) := zz_fetch_of p129 rfl rfl
theorem s129_9 : zz_Run zz_prog d 129 (9, [l0, l1, l2, l3, l4, l5], .int w :: .int v :: st, k, h) = if v = w then zz_Run zz_prog d 129 (16, [l0, l1, l2, l3, l4, l5], st, k, h) else zz_Run zz_prog d 129 (12, [l0, l1, l2, l3, l4, l5], st, k, h) := zz_k_br (v = w) rfl (zz_k_num f129_9 rfl)
theorem f129_12 : zz_fetch zz_prog 129 12 = some (.iconst 1, 1, [], []) := zz_fetch_of p129 rfl rfl
theorem s129_12 : zz_Run zz_prog d 129 (12, [l0, l1, l2, l3, l4, l5], st, k, h) = zz_Run zz_prog d 129 (13, [l0, l1, l2, l3, l4, l5], .int 1 :: st, k, h) := zz_k_num f129_12 rfl
theorem f129_13 : zz_fetch zz_prog 129 13 = some (.goto 4, 3, [17], []) := zz_fetch_of p129 rfl rfl
theorem s129_13 : zz_Run zz_prog d 129 (13, [l0, l1, l2, l3, l4, l5], st, k, h) = zz_Run zz_prog d 129 (17, [l0, l1, l2, l3, l4, l5], st, k, h) := zz_k_num f129_13 rfl
theorem f129_16 : zz_fetch zz_prog 129 16 = some (.iconst 0, 1, [], []) := zz_fetch_of p129 rfl rfl
theorem s129_16 : zz_Run zz_prog d 129 (16, [l0, l1, l2, l3, l4, l5], st, k, h) = zz_Run zz_prog d 129 (17, [l0, l1, l2, l3, l4, l5], .int 0 :: st, k, h) := zz_k_num f129_16 rfl
theorem f129_17 : zz_fetch zz_prog 129 17 = some (.istore_n 3, 1, [], []) := zz_fetch_of p129 rfl rfl
theorem s129_17 : zz_Run zz_prog d 129 (17, [l0, l1, l2, l3, l4, l5], .int v :: st, k, h) = zz_sl l2 (zz_Run zz_prog d 129 (18, [l0, l1, l2, some (.int v), l4, l5], st, k, h)) := zz_k_st (j := 3) (u := .int v) f129_17 rfl (fun q hq => by cases hq) rfl (show 3 < 6 by decide) (by cases l2 <;> rfl) rfl
theorem f129_18 : zz_fetch zz_prog 129 18 = some (.iload_n 3, 1, [], []) := zz_fetch_of p129 rfl rfl
theorem s129_18 : zz_Run zz_prog d 129 (18, [l0, l1, l2, some (.int v), l4, l5], st, k, h) = zz_Run zz_prog d 129 (19, [l0, l1, l2, some (.int v), l4, l5], .int v :: st, k, h) := zz_k_num f129_18 rfl
theorem f129_19 : zz_fetch zz_prog 129 19 = some (.ifCond .ne 22, 3, [41], []) := zz_fetch_of p129 rfl rfl
theorem s129_19 : zz_Run zz_prog d 129 (19, [l0, l1, l2, l3, l4, l5], .int v :: st, k, h) = if ¬ v = 0 then zz_Run zz_prog d 129 (41, [l0, l1, l2, l3, l4, l5], st, k, h) else zz_Run zz_prog d 129 (22, [l0, l1, l2, l3, l4, l5], st, k, h) := zz_k_br (¬ v = 0) rfl (zz_k_num f129_19 rfl)
theorem f129_22 : zz_fetch zz_prog 129 22 = some (.aload_n 0, 1, [], []) := zz_fetch_of p129 rfl rfl
theorem s129_22 : zz_Run zz_prog d 129 (22, [some (.ref a), l1, l2, l3, l4, l5], st, k, h) = zz_Run zz_prog d 129 (23, [some (.ref a), l1, l2, l3, l4, l5], .ref a :: st, k, h) := zz_k_num f129_22 rfl
theorem f129_23 : zz_fetch zz_prog 129 23 = some (.iload_n 1, 1, [], []) := zz_fetch_of p129 rfl rfl
theorem s129_23 : zz_Run zz_prog d 129 (23, [l0, some (.int v), l2, l3, l4, l5], st, k, h) = zz_Run zz_prog d 129 (24, [l0, some (.int v), l2, l3, l4, l5], .int v :: st, k, h) := zz_k_num f129_23 rfl
theorem f129_24 : zz_fetch zz_prog 129 24 = some (.invokevirtual 191, 3, [0, 127, 2, 2], []) := zz_fetch_of p129 rfl rfl
theorem s129_24 : zz_Run zz_prog d 129 (24, [l0, l1, l2, l3, l4, l5], [b0, .ref 23], k, (zz_hp n I J ex)) = zz_ret (zz_Call zz_prog d 127 [.ref 23, b0] (zz_hp n I J ex)) (fun v k' h' => zz_Run zz_prog d 129 (27, [l0, l1, l2, l3, l4, l5], v.toList ++ [], k && k', h')) (fun a k' h' => zz_th d 129 24 a [l0, l1, l2, l3, l4, l5] (k && k') h') := zz_k_call f129_24 rfl rfl rfl
theorem f129_27 : zz_fetch zz_prog 129 27 = some (.ifCond .eq 14, 3, [41], []) := zz_fetch_of p129 rfl rfl
theorem s129_27 : zz_Run zz_prog d 129 (27, [l0, l1, l2, l3, l4, l5], .int v :: st, k, h) = if v = 0 then zz_Run zz_prog d 129 (41, [l0, l1, l2, l3, l4, l5], st, k, h) else zz_Run zz_prog d 129 (30, [l0, l1, l2, l3, l4, l5], st, k, h) := zz_k_br (v = 0) rfl (zz_k_num f129_27 rfl)
theorem f129_30 : zz_fetch zz_prog 129 30 = some (.iload_n 2, 1, [], []) := zz_fetch_of p129 rfl rfl
theorem s129_30 : zz_Run zz_prog d 129 (30, [l0, l1, some (.int v), l3, l4, l5], st, k, h) = zz_Run zz_prog d 129 (31, [l0, l1, some (.int v), l3, l4, l5], .int v :: st, k, h) := zz_k_num f129_30 rfl
theorem f129_31 : zz_fetch zz_prog 129 31 = some (.invokestatic 194, 3, [0, 128, 1], []) := zz_fetch_of p129 rfl rfl
theorem s129_31 : zz_Run zz_prog d 129 (31, [l0, l1, l2, l3, l4, l5], [b0], k, h) = zz_ret (zz_Call zz_prog d 128 [b0] h) (fun v k' h' => zz_Run zz_prog d 129 (34, [l0, l1, l2, l3, l4, l5], v.toList ++ [], k && k', h')) (fun a k' h' => zz_th d 129 31 a [l0, l1, l2, l3, l4, l5] (k && k') h') := zz_k_call f129_31 rfl rfl rfl
theorem f129_34 : zz_fetch zz_prog 129 34 = some (.ifCond .eq 7, 3, [41], []) := zz_fetch_of p129 rfl rfl
theorem s129_34 : zz_Run zz_prog d 129 (34, [l0, l1, l2, l3, l4, l5], .int v :: st, k, h) = if v = 0 then zz_Run zz_prog d 129 (41, [l0, l1, l2, l3, l4, l5], st, k, h) else zz_Run zz_prog d 129 (37, [l0, l1, l2, l3, l4, l5], st, k, h) := zz_k_br (v = 0) rfl (zz_k_num f129_34 rfl)
theorem f129_37 : zz_fetch zz_prog 129 37 = some (.iconst 1, 1, [], []) := zz_fetch_of p129 rfl rfl
theorem s129_37 : zz_Run zz_prog d 129 (37, [l0, l1, l2, l3, l4, l5], st, k, h) = zz_Run zz_prog d 129 (38, [l0, l1, l2, l3, l4, l5], .int 1 :: st, k, h) := zz_k_num f129_37 rfl
theorem f129_38 : zz_fetch zz_prog 129 38 = some (.goto 4, 3, [42], []) := zz_fetch_of p129 rfl rfl
theorem s129_38 : zz_Run zz_prog d 129 (38, [l0, l1, l2, l3, l4, l5], st, k, h) = zz_Run zz_prog d 129 (42, [l0, l1, l2, l3, l4, l5], st, k, h) := zz_k_num f129_38 rfl
theorem f129_41 : zz_fetch zz_prog 129 41 = some (.iconst 0, 1, [], []) := zz_fetch_of p129 rfl rfl
theorem s129_41 : zz_Run zz_prog d 129 (41, [l0, l1, l2, l3, l4, l5], st, k, h) = zz_Run zz_prog d 129 (42, [l0, l1, l2, l3, l4, l5], .int 0 :: st, k, h) := zz_k_num f129_41 rfl
theorem f129_42 : zz_fetch zz_prog 129 42 = some (.istore 4, 2, [], []) := zz_fetch_of p129 rfl rfl
theorem s129_42 : zz_Run zz_prog d 129 (42, [l0, l1, l2, l3, l4, l5], .int v :: st, k, h) = zz_sl l3 (zz_Run zz_prog d 129 (44, [l0, l1, l2, l3, some (.int v), l5], st, k, h)) := zz_k_st (j := 4) (u := .int v) f129_42 rfl (fun q hq => by cases hq) rfl (show 4 < 6 by decide) (by cases l3 <;> rfl) rfl
theorem f129_44 : zz_fetch zz_prog 129 44 = some (.aload_n 0, 1, [], []) := zz_fetch_of p129 rfl rfl
theorem s129_44 : zz_Run zz_prog d 129 (44, [some (.ref a), l1, l2, l3, l4, l5], st, k, h) = zz_Run zz_prog d 129 (45, [some (.ref a), l1, l2, l3, l4, l5], .ref a :: st, k, h) := zz_k_num f129_44 rfl
theorem f129_45 : zz_fetch zz_prog 129 45 = some (.iload_n 3, 1, [], []) := zz_fetch_of p129 rfl rfl
theorem s129_45 : zz_Run zz_prog d 129 (45, [l0, l1, l2, some (.int v), l4, l5], st, k, h) = zz_Run zz_prog d 129 (46, [l0, l1, l2, some (.int v), l4, l5], .int v :: st, k, h) := zz_k_num f129_45 rfl
theorem f129_46 : zz_fetch zz_prog 129 46 = some (.iload 4, 2, [], []) := zz_fetch_of p129 rfl rfl
theorem s129_46 : zz_Run zz_prog d 129 (46, [l0, l1, l2, l3, some (.int v), l5], st, k, h) = zz_Run zz_prog d 129 (48, [l0, l1, l2, l3, some (.int v), l5], .int v :: st, k, h) := zz_k_num f129_46 rfl
theorem f129_48 : zz_fetch zz_prog 129 48 = some (.ifCond .eq 32, 3, [80], []) := zz_fetch_of p129 rfl rfl
theorem s129_48 : zz_Run zz_prog d 129 (48, [l0, l1, l2, l3, l4, l5], .int v :: st, k, h) = if v = 0 then zz_Run zz_prog d 129 (80, [l0, l1, l2, l3, l4, l5], st, k, h) else zz_Run zz_prog d 129 (51, [l0, l1, l2, l3, l4, l5], st, k, h) := zz_k_br (v = 0) rfl (zz_k_num f129_48 rfl)
theorem f129_51 : zz_fetch zz_prog 129 51 = some (.aload_n 0, 1, [], []) := zz_fetch_of p129 rfl rfl
theorem s129_51 : zz_Run zz_prog d 129 (51, [some (.ref a), l1, l2, l3, l4, l5], st, k, h) = zz_Run zz_prog d 129 (52, [some (.ref a), l1, l2, l3, l4, l5], .ref a :: st, k, h) := zz_k_num f129_51 rfl
theorem f129_52 : zz_fetch zz_prog 129 52 = some (.getfield 7, 3, [2, 1, 3], []) := zz_fetch_of p129 rfl rfl
theorem s129_52 : zz_Run zz_prog d 129 (52, [l0, l1, l2, l3, l4, l5], .ref 23 :: st, k, (zz_hp n I J ex)) = zz_Run zz_prog d 129 (55, [l0, l1, l2, l3, l4, l5], .ref 24 :: st, k, (zz_hp n I J ex)) := zz_k_go f129_52 rfl rfl rfl
theorem f129_55 : zz_fetch zz_prog 129 55 = some (.sipush 176, 3, [], []) := zz_fetch_of p129 rfl rfl
theorem s129_55 : zz_Run zz_prog d 129 (55, [l0, l1, l2, l3, l4, l5], st, k, h) = zz_Run zz_prog d 129 (58, [l0, l1, l2, l3, l4, l5], .int 176 :: st, k, h) := zz_k_num f129_55 (congrArg (fun u => some (58, [l0, l1, l2, l3, l4, l5], Value.int u :: st)) (by decide : (Int16.ofInt 176).toInt32 = 176))
theorem f129_58 : zz_fetch zz_prog 129 58 = some (.iload_n 1, 1, [], []) := zz_fetch_of p129 rfl rfl
theorem s129_58 : zz_Run zz_prog d 129 (58, [l0, some (.int v), l2, l3, l4, l5], st, k, h) = zz_Run zz_prog d 129 (59, [l0, some (.int v), l2, l3, l4, l5], .int v :: st, k, h) := zz_k_num f129_58 rfl
theorem f129_59 : zz_fetch zz_prog 129 59 = some (.iadd, 1, [], []) := zz_fetch_of p129 rfl rfl
theorem s129_59 : zz_Run zz_prog d 129 (59, [l0, l1, l2, l3, l4, l5], .int w :: .int v :: st, k, h) = zz_Run zz_prog d 129 (60, [l0, l1, l2, l3, l4, l5], .int (v + w) :: st, k, h) := zz_k_num f129_59 rfl
theorem f129_60 : zz_fetch zz_prog 129 60 = some (.iaload, 1, [], []) := zz_fetch_of p129 rfl rfl
theorem s129_60 (ha : zz_isrd a = true) : zz_Run zz_prog d 129 (60, [l0, l1, l2, l3, l4, l5], .int v :: .ref a :: st, k, (zz_hp n I J ex)) = zz_ck (zz_in v (zz_ary n a)) (zz_Run zz_prog d 129 (61, [l0, l1, l2, l3, l4, l5], .int (I a v.toNatClampNeg) :: st, k, (zz_hp n I J ex))) := zz_k_iald f129_60 ha
theorem f129_61 : zz_fetch zz_prog 129 61 = some (.ifCond .eq 19, 3, [80], []) := zz_fetch_of p129 rfl rfl
theorem s129_61 : zz_Run zz_prog d 129 (61, [l0, l1, l2, l3, l4, l5], .int v :: st, k, h) = if v = 0 then zz_Run zz_prog d 129 (80, [l0, l1, l2, l3, l4, l5], st, k, h) else zz_Run zz_prog d 129 (64, [l0, l1, l2, l3, l4, l5], st, k, h) := zz_k_br (v = 0) rfl (zz_k_num f129_61 rfl)
theorem f129_64 : zz_fetch zz_prog 129 64 = some (.aload_n 0, 1, [], []) := zz_fetch_of p129 rfl rfl
theorem s129_64 : zz_Run zz_prog d 129 (64, [some (.ref a), l1, l2, l3, l4, l5], st, k, h) = zz_Run zz_prog d 129 (65, [some (.ref a), l1, l2, l3, l4, l5], .ref a :: st, k, h) := zz_k_num f129_64 rfl
theorem f129_65 : zz_fetch zz_prog 129 65 = some (.getfield 7, 3, [2, 1, 3], []) := zz_fetch_of p129 rfl rfl
theorem s129_65 : zz_Run zz_prog d 129 (65, [l0, l1, l2, l3, l4, l5], .ref 23 :: st, k, (zz_hp n I J ex)) = zz_Run zz_prog d 129 (68, [l0, l1, l2, l3, l4, l5], .ref 24 :: st, k, (zz_hp n I J ex)) := zz_k_go f129_65 rfl rfl rfl
theorem f129_68 : zz_fetch zz_prog 129 68 = some (.bipush 126, 2, [], []) := zz_fetch_of p129 rfl rfl
theorem s129_68 : zz_Run zz_prog d 129 (68, [l0, l1, l2, l3, l4, l5], st, k, h) = zz_Run zz_prog d 129 (70, [l0, l1, l2, l3, l4, l5], .int 126 :: st, k, h) := zz_k_num f129_68 (congrArg (fun u => some (70, [l0, l1, l2, l3, l4, l5], Value.int u :: st)) (by decide : (Int8.ofInt 126).toInt32 = 126))
theorem f129_70 : zz_fetch zz_prog 129 70 = some (.iconst 5, 1, [], []) := zz_fetch_of p129 rfl rfl
theorem s129_70 : zz_Run zz_prog d 129 (70, [l0, l1, l2, l3, l4, l5], st, k, h) = zz_Run zz_prog d 129 (71, [l0, l1, l2, l3, l4, l5], .int 5 :: st, k, h) := zz_k_num f129_70 rfl
theorem f129_71 : zz_fetch zz_prog 129 71 = some (.iload_n 1, 1, [], []) := zz_fetch_of p129 rfl rfl
theorem s129_71 : zz_Run zz_prog d 129 (71, [l0, some (.int v), l2, l3, l4, l5], st, k, h) = zz_Run zz_prog d 129 (72, [l0, some (.int v), l2, l3, l4, l5], .int v :: st, k, h) := zz_k_num f129_71 rfl
theorem f129_72 : zz_fetch zz_prog 129 72 = some (.imul, 1, [], []) := zz_fetch_of p129 rfl rfl
theorem s129_72 : zz_Run zz_prog d 129 (72, [l0, l1, l2, l3, l4, l5], .int w :: .int v :: st, k, h) = zz_Run zz_prog d 129 (73, [l0, l1, l2, l3, l4, l5], .int (v * w) :: st, k, h) := zz_k_num f129_72 rfl
theorem f129_73 : zz_fetch zz_prog 129 73 = some (.iadd, 1, [], []) := zz_fetch_of p129 rfl rfl
theorem s129_73 : zz_Run zz_prog d 129 (73, [l0, l1, l2, l3, l4, l5], .int w :: .int v :: st, k, h) = zz_Run zz_prog d 129 (74, [l0, l1, l2, l3, l4, l5], .int (v + w) :: st, k, h) := zz_k_num f129_73 rfl
theorem f129_74 : zz_fetch zz_prog 129 74 = some (.iload_n 2, 1, [], []) := zz_fetch_of p129 rfl rfl
theorem s129_74 : zz_Run zz_prog d 129 (74, [l0, l1, some (.int v), l3, l4, l5], st, k, h) = zz_Run zz_prog d 129 (75, [l0, l1, some (.int v), l3, l4, l5], .int v :: st, k, h) := zz_k_num f129_74 rfl
theorem f129_75 : zz_fetch zz_prog 129 75 = some (.iadd, 1, [], []) := zz_fetch_of p129 rfl rfl
theorem s129_75 : zz_Run zz_prog d 129 (75, [l0, l1, l2, l3, l4, l5], .int w :: .int v :: st, k, h) = zz_Run zz_prog d 129 (76, [l0, l1, l2, l3, l4, l5], .int (v + w) :: st, k, h) := zz_k_num f129_75 rfl
theorem f129_76 : zz_fetch zz_prog 129 76 = some (.iaload, 1, [], []) := zz_fetch_of p129 rfl rfl
theorem s129_76 (ha : zz_isrd a = true) : zz_Run zz_prog d 129 (76, [l0, l1, l2, l3, l4, l5], .int v :: .ref a :: st, k, (zz_hp n I J ex)) = zz_ck (zz_in v (zz_ary n a)) (zz_Run zz_prog d 129 (77, [l0, l1, l2, l3, l4, l5], .int (I a v.toNatClampNeg) :: st, k, (zz_hp n I J ex))) := zz_k_iald f129_76 ha
theorem f129_77 : zz_fetch zz_prog 129 77 = some (.ifCond .ne 7, 3, [84], []) := zz_fetch_of p129 rfl rfl
theorem s129_77 : zz_Run zz_prog d 129 (77, [l0, l1, l2, l3, l4, l5], .int v :: st, k, h) = if ¬ v = 0 then zz_Run zz_prog d 129 (84, [l0, l1, l2, l3, l4, l5], st, k, h) else zz_Run zz_prog d 129 (80, [l0, l1, l2, l3, l4, l5], st, k, h) := zz_k_br (¬ v = 0) rfl (zz_k_num f129_77 rfl)
theorem f129_80 : zz_fetch zz_prog 129 80 = some (.iconst 1, 1, [], []) := zz_fetch_of p129 rfl rfl
theorem s129_80 : zz_Run zz_prog d 129 (80, [l0, l1, l2, l3, l4, l5], st, k, h) = zz_Run zz_prog d 129 (81, [l0, l1, l2, l3, l4, l5], .int 1 :: st, k, h) := zz_k_num f129_80 rfl
theorem f129_81 : zz_fetch zz_prog 129 81 = some (.goto 4, 3, [85], []) := zz_fetch_of p129 rfl rfl
theorem s129_81 : zz_Run zz_prog d 129 (81, [l0, l1, l2, l3, l4, l5], st, k, h) = zz_Run zz_prog d 129 (85, [l0, l1, l2, l3, l4, l5], st, k, h) := zz_k_num f129_81 rfl
theorem f129_84 : zz_fetch zz_prog 129 84 = some (.iconst 0, 1, [], []) := zz_fetch_of p129 rfl rfl
theorem s129_84 : zz_Run zz_prog d 129 (84, [l0, l1, l2, l3, l4, l5], st, k, h) = zz_Run zz_prog d 129 (85, [l0, l1, l2, l3, l4, l5], .int 0 :: st, k, h) := zz_k_num f129_84 rfl
theorem f129_85 : zz_fetch zz_prog 129 85 = some (.iconst 0, 1, [], []) := zz_fetch_of p129 rfl rfl
theorem s129_85 : zz_Run zz_prog d 129 (85, [l0, l1, l2, l3, l4, l5], st, k, h) = zz_Run zz_prog d 129 (86, [l0, l1, l2, l3, l4, l5], .int 0 :: st, k, h) := zz_k_num f129_85 rfl
theorem f129_86 : zz_fetch zz_prog 129 86 = some (.invokevirtual 89, 3, [0, 95, 4, 2], []) := zz_fetch_of p129 rfl rfl
theorem s129_86 : zz_Run zz_prog d 129 (86, [l0, l1, l2, l3, l4, l5], [b0, b1, b2, .ref 23], k, (zz_hp n I J ex)) = zz_ret (zz_Call zz_prog d 95 [.ref 23, b2, b1, b0] (zz_hp n I J ex)) (fun v k' h' => zz_Run zz_prog d 129 (89, [l0, l1, l2, l3, l4, l5], v.toList ++ [], k && k', h')) (fun a k' h' => zz_th d 129 86 a [l0, l1, l2, l3, l4, l5] (k && k') h') := zz_k_call f129_86 rfl rfl rfl
theorem f129_89 : zz_fetch zz_prog 129 89 = some (.ifCond .eq 5, 3, [94], []) := zz_fetch_of p129 rfl rfl
theorem s129_89 : zz_Run zz_prog d 129 (89, [l0, l1, l2, l3, l4, l5], .int v :: st, k, h) = if v = 0 then zz_Run zz_prog d 129 (94, [l0, l1, l2, l3, l4, l5], st, k, h) else zz_Run zz_prog d 129 (92, [l0, l1, l2, l3, l4, l5], st, k, h) := zz_k_br (v = 0) rfl (zz_k_num f129_89 rfl)
theorem f129_92 : zz_fetch zz_prog 129 92 = some (.iconst 0, 1, [], []) := zz_fetch_of p129 rfl rfl
theorem s129_92 : zz_Run zz_prog d 129 (92, [l0, l1, l2, l3, l4, l5], st, k, h) = zz_Run zz_prog d 129 (93, [l0, l1, l2, l3, l4, l5], .int 0 :: st, k, h) := zz_k_num f129_92 rfl
theorem f129_93 : zz_fetch zz_prog 129 93 = some (.ireturn, 1, [0], []) := zz_fetch_of p129 rfl rfl
theorem s129_93 : zz_Run zz_prog d 129 (93, [l0, l1, l2, l3, l4, l5], [.int v], k, h) = some (.inl (some (.int v)), k, h) := zz_k_stop f129_93 rfl rfl rfl
theorem f129_94 : zz_fetch zz_prog 129 94 = some (.aload_n 0, 1, [], []) := zz_fetch_of p129 rfl rfl
theorem s129_94 : zz_Run zz_prog d 129 (94, [some (.ref a), l1, l2, l3, l4, l5], st, k, h) = zz_Run zz_prog d 129 (95, [some (.ref a), l1, l2, l3, l4, l5], .ref a :: st, k, h) := zz_k_num f129_94 rfl
theorem f129_95 : zz_fetch zz_prog 129 95 = some (.invokevirtual 158, 3, [0, 117, 1, 2], []) := zz_fetch_of p129 rfl rfl
theorem s129_95 : zz_Run zz_prog d 129 (95, [l0, l1, l2, l3, l4, l5], [.ref 23], k, (zz_hp n I J ex)) = zz_ret (zz_Call zz_prog d 117 [.ref 23] (zz_hp n I J ex)) (fun v k' h' => zz_Run zz_prog d 129 (98, [l0, l1, l2, l3, l4, l5], v.toList ++ [], k && k', h')) (fun a k' h' => zz_th d 129 95 a [l0, l1, l2, l3, l4, l5] (k && k') h') := zz_k_call f129_95 rfl rfl rfl
theorem f129_98 : zz_fetch zz_prog 129 98 = some (.aload_n 0, 1, [], []) := zz_fetch_of p129 rfl rfl
theorem s129_98 : zz_Run zz_prog d 129 (98, [some (.ref a), l1, l2, l3, l4, l5], st, k, h) = zz_Run zz_prog d 129 (99, [some (.ref a), l1, l2, l3, l4, l5], .ref a :: st, k, h) := zz_k_num f129_98 rfl
theorem f129_99 : zz_fetch zz_prog 129 99 = some (.getfield 7, 3, [2, 1, 3], []) := zz_fetch_of p129 rfl rfl
theorem s129_99 : zz_Run zz_prog d 129 (99, [l0, l1, l2, l3, l4, l5], .ref 23 :: st, k, (zz_hp n I J ex)) = zz_Run zz_prog d 129 (102, [l0, l1, l2, l3, l4, l5], .ref 24 :: st, k, (zz_hp n I J ex)) := zz_k_go f129_99 rfl rfl rfl
theorem f129_102 : zz_fetch zz_prog 129 102 = some (.bipush 126, 2, [], []) := zz_fetch_of p129 rfl rfl
theorem s129_102 : zz_Run zz_prog d 129 (102, [l0, l1, l2, l3, l4, l5], st, k, h) = zz_Run zz_prog d 129 (104, [l0, l1, l2, l3, l4, l5], .int 126 :: st, k, h) := zz_k_num f129_102 (congrArg (fun u => some (104, [l0, l1, l2, l3, l4, l5], Value.int u :: st)) (by decide : (Int8.ofInt 126).toInt32 = 126))
theorem f129_104 : zz_fetch zz_prog 129 104 = some (.iconst 5, 1, [], []) := zz_fetch_of p129 rfl rfl
theorem s129_104 : zz_Run zz_prog d 129 (104, [l0, l1, l2, l3, l4, l5], st, k, h) = zz_Run zz_prog d 129 (105, [l0, l1, l2, l3, l4, l5], .int 5 :: st, k, h) := zz_k_num f129_104 rfl
theorem f129_105 : zz_fetch zz_prog 129 105 = some (.iload_n 1, 1, [], []) := zz_fetch_of p129 rfl rfl
theorem s129_105 : zz_Run zz_prog d 129 (105, [l0, some (.int v), l2, l3, l4, l5], st, k, h) = zz_Run zz_prog d 129 (106, [l0, some (.int v), l2, l3, l4, l5], .int v :: st, k, h) := zz_k_num f129_105 rfl
theorem f129_106 : zz_fetch zz_prog 129 106 = some (.imul, 1, [], []) := zz_fetch_of p129 rfl rfl
theorem s129_106 : zz_Run zz_prog d 129 (106, [l0, l1, l2, l3, l4, l5], .int w :: .int v :: st, k, h) = zz_Run zz_prog d 129 (107, [l0, l1, l2, l3, l4, l5], .int (v * w) :: st, k, h) := zz_k_num f129_106 rfl
theorem f129_107 : zz_fetch zz_prog 129 107 = some (.iadd, 1, [], []) := zz_fetch_of p129 rfl rfl
theorem s129_107 : zz_Run zz_prog d 129 (107, [l0, l1, l2, l3, l4, l5], .int w :: .int v :: st, k, h) = zz_Run zz_prog d 129 (108, [l0, l1, l2, l3, l4, l5], .int (v + w) :: st, k, h) := zz_k_num f129_107 rfl
theorem f129_108 : zz_fetch zz_prog 129 108 = some (.iload_n 2, 1, [], []) := zz_fetch_of p129 rfl rfl
theorem s129_108 : zz_Run zz_prog d 129 (108, [l0, l1, some (.int v), l3, l4, l5], st, k, h) = zz_Run zz_prog d 129 (109, [l0, l1, some (.int v), l3, l4, l5], .int v :: st, k, h) := zz_k_num f129_108 rfl
theorem f129_109 : zz_fetch zz_prog 129 109 = some (.iadd, 1, [], []) := zz_fetch_of p129 rfl rfl
theorem s129_109 : zz_Run zz_prog d 129 (109, [l0, l1, l2, l3, l4, l5], .int w :: .int v :: st, k, h) = zz_Run zz_prog d 129 (110, [l0, l1, l2, l3, l4, l5], .int (v + w) :: st, k, h) := zz_k_num f129_109 rfl
theorem f129_110 : zz_fetch zz_prog 129 110 = some (.dup2, 1, [], []) := zz_fetch_of p129 rfl rfl
theorem s129_110 : zz_Run zz_prog d 129 (110, [l0, l1, l2, l3, l4, l5], .int v :: .ref a1 :: st, k, h) = zz_Run zz_prog d 129 (111, [l0, l1, l2, l3, l4, l5], .int v :: .ref a1 :: .int v :: .ref a1 :: st, k, h) := zz_k_num f129_110 rfl
theorem f129_111 : zz_fetch zz_prog 129 111 = some (.iaload, 1, [], []) := zz_fetch_of p129 rfl rfl
theorem s129_111 (ha : zz_isrd a = true) : zz_Run zz_prog d 129 (111, [l0, l1, l2, l3, l4, l5], .int v :: .ref a :: st, k, (zz_hp n I J ex)) = zz_ck (zz_in v (zz_ary n a)) (zz_Run zz_prog d 129 (112, [l0, l1, l2, l3, l4, l5], .int (I a v.toNatClampNeg) :: st, k, (zz_hp n I J ex))) := zz_k_iald f129_111 ha
theorem f129_112 : zz_fetch zz_prog 129 112 = some (.iconst 1, 1, [], []) := zz_fetch_of p129 rfl rfl
theorem s129_112 : zz_Run zz_prog d 129 (112, [l0, l1, l2, l3, l4, l5], st, k, h) = zz_Run zz_prog d 129 (113, [l0, l1, l2, l3, l4, l5], .int 1 :: st, k, h) := zz_k_num f129_112 rfl
theorem f129_113 : zz_fetch zz_prog 129 113 = some (.isub, 1, [], []) := zz_fetch_of p129 rfl rfl
theorem s129_113 : zz_Run zz_prog d 129 (113, [l0, l1, l2, l3, l4, l5], .int w :: .int v :: st, k, h) = zz_Run zz_prog d 129 (114, [l0, l1, l2, l3, l4, l5], .int (v - w) :: st, k, h) := zz_k_num f129_113 rfl
theorem f129_114 : zz_fetch zz_prog 129 114 = some (.iastore, 1, [], []) := zz_fetch_of p129 rfl rfl
theorem s129_114 (ha : zz_isar a = true) : zz_Run zz_prog d 129 (114, [l0, l1, l2, l3, l4, l5], .int w :: .int v :: .ref a :: st, k, (zz_hp n I J ex)) = zz_ck (zz_in v (zz_ary n a)) (zz_Run zz_prog d 129 (115, [l0, l1, l2, l3, l4, l5], st, false, (zz_hp n (zz_up I a v.toNatClampNeg w) J ex))) := zz_k_iast f129_114 ha
theorem f129_115 : zz_fetch zz_prog 129 115 = some (.aload_n 0, 1, [], []) := zz_fetch_of p129 rfl rfl
theorem s129_115 : zz_Run zz_prog d 129 (115, [some (.ref a), l1, l2, l3, l4, l5], st, k, h) = zz_Run zz_prog d 129 (116, [some (.ref a), l1, l2, l3, l4, l5], .ref a :: st, k, h) := zz_k_num f129_115 rfl
theorem f129_116 : zz_fetch zz_prog 129 116 = some (.getfield 7, 3, [2, 1, 3], []) := zz_fetch_of p129 rfl rfl
theorem s129_116 : zz_Run zz_prog d 129 (116, [l0, l1, l2, l3, l4, l5], .ref 23 :: st, k, (zz_hp n I J ex)) = zz_Run zz_prog d 129 (119, [l0, l1, l2, l3, l4, l5], .ref 24 :: st, k, (zz_hp n I J ex)) := zz_k_go f129_116 rfl rfl rfl
theorem f129_119 : zz_fetch zz_prog 129 119 = some (.sipush 146, 3, [], []) := zz_fetch_of p129 rfl rfl
theorem s129_119 : zz_Run zz_prog d 129 (119, [l0, l1, l2, l3, l4, l5], st, k, h) = zz_Run zz_prog d 129 (122, [l0, l1, l2, l3, l4, l5], .int 146 :: st, k, h) := zz_k_num f129_119 (congrArg (fun u => some (122, [l0, l1, l2, l3, l4, l5], Value.int u :: st)) (by decide : (Int16.ofInt 146).toInt32 = 146))
theorem f129_122 : zz_fetch zz_prog 129 122 = some (.iload_n 2, 1, [], []) := zz_fetch_of p129 rfl rfl
theorem s129_122 : zz_Run zz_prog d 129 (122, [l0, l1, some (.int v), l3, l4, l5], st, k, h) = zz_Run zz_prog d 129 (123, [l0, l1, some (.int v), l3, l4, l5], .int v :: st, k, h) := zz_k_num f129_122 rfl
theorem f129_123 : zz_fetch zz_prog 129 123 = some (.iadd, 1, [], []) := zz_fetch_of p129 rfl rfl
theorem s129_123 : zz_Run zz_prog d 129 (123, [l0, l1, l2, l3, l4, l5], .int w :: .int v :: st, k, h) = zz_Run zz_prog d 129 (124, [l0, l1, l2, l3, l4, l5], .int (v + w) :: st, k, h) := zz_k_num f129_123 rfl
theorem f129_124 : zz_fetch zz_prog 129 124 = some (.dup2, 1, [], []) := zz_fetch_of p129 rfl rfl
theorem s129_124 : zz_Run zz_prog d 129 (124, [l0, l1, l2, l3, l4, l5], .int v :: .ref a1 :: st, k, h) = zz_Run zz_prog d 129 (125, [l0, l1, l2, l3, l4, l5], .int v :: .ref a1 :: .int v :: .ref a1 :: st, k, h) := zz_k_num f129_124 rfl
theorem f129_125 : zz_fetch zz_prog 129 125 = some (.iaload, 1, [], []) := zz_fetch_of p129 rfl rfl
theorem s129_125 (ha : zz_isrd a = true) : zz_Run zz_prog d 129 (125, [l0, l1, l2, l3, l4, l5], .int v :: .ref a :: st, k, (zz_hp n I J ex)) = zz_ck (zz_in v (zz_ary n a)) (zz_Run zz_prog d 129 (126, [l0, l1, l2, l3, l4, l5], .int (I a v.toNatClampNeg) :: st, k, (zz_hp n I J ex))) := zz_k_iald f129_125 ha
theorem f129_126 : zz_fetch zz_prog 129 126 = some (.iconst 1, 1, [], []) := zz_fetch_of p129 rfl rfl
theorem s129_126 : zz_Run zz_prog d 129 (126, [l0, l1, l2, l3, l4, l5], st, k, h) = zz_Run zz_prog d 129 (127, [l0, l1, l2, l3, l4, l5], .int 1 :: st, k, h) := zz_k_num f129_126 rfl
theorem f129_127 : zz_fetch zz_prog 129 127 = some (.iadd, 1, [], []) := zz_fetch_of p129 rfl rfl
theorem s129_127 : zz_Run zz_prog d 129 (127, [l0, l1, l2, l3, l4, l5], .int w :: .int v :: st, k, h) = zz_Run zz_prog d 129 (128, [l0, l1, l2, l3, l4, l5], .int (v + w) :: st, k, h) := zz_k_num f129_127 rfl
theorem f129_128 : zz_fetch zz_prog 129 128 = some (.iastore, 1, [], []) := zz_fetch_of p129 rfl rfl
theorem s129_128 (ha : zz_isar a = true) : zz_Run zz_prog d 129 (128, [l0, l1, l2, l3, l4, l5], .int w :: .int v :: .ref a :: st, k, (zz_hp n I J ex)) = zz_ck (zz_in v (zz_ary n a)) (zz_Run zz_prog d 129 (129, [l0, l1, l2, l3, l4, l5], st, false, (zz_hp n (zz_up I a v.toNatClampNeg w) J ex))) := zz_k_iast f129_128 ha
theorem f129_129 : zz_fetch zz_prog 129 129 = some (.aload_n 0, 1, [], []) := zz_fetch_of p129 rfl rfl
theorem s129_129 : zz_Run zz_prog d 129 (129, [some (.ref a), l1, l2, l3, l4, l5], st, k, h) = zz_Run zz_prog d 129 (130, [some (.ref a), l1, l2, l3, l4, l5], .ref a :: st, k, h) := zz_k_num f129_129 rfl
theorem f129_130 : zz_fetch zz_prog 129 130 = some (.getfield 7, 3, [2, 1, 3], []) := zz_fetch_of p129 rfl rfl
theorem s129_130 : zz_Run zz_prog d 129 (130, [l0, l1, l2, l3, l4, l5], .ref 23 :: st, k, (zz_hp n I J ex)) = zz_Run zz_prog d 129 (133, [l0, l1, l2, l3, l4, l5], .ref 24 :: st, k, (zz_hp n I J ex)) := zz_k_go f129_130 rfl rfl rfl
theorem f129_133 : zz_fetch zz_prog 129 133 = some (.sipush 176, 3, [], []) := zz_fetch_of p129 rfl rfl
theorem s129_133 : zz_Run zz_prog d 129 (133, [l0, l1, l2, l3, l4, l5], st, k, h) = zz_Run zz_prog d 129 (136, [l0, l1, l2, l3, l4, l5], .int 176 :: st, k, h) := zz_k_num f129_133 (congrArg (fun u => some (136, [l0, l1, l2, l3, l4, l5], Value.int u :: st)) (by decide : (Int16.ofInt 176).toInt32 = 176))
theorem f129_136 : zz_fetch zz_prog 129 136 = some (.iload_n 1, 1, [], []) := zz_fetch_of p129 rfl rfl
theorem s129_136 : zz_Run zz_prog d 129 (136, [l0, some (.int v), l2, l3, l4, l5], st, k, h) = zz_Run zz_prog d 129 (137, [l0, some (.int v), l2, l3, l4, l5], .int v :: st, k, h) := zz_k_num f129_136 rfl
theorem f129_137 : zz_fetch zz_prog 129 137 = some (.iadd, 1, [], []) := zz_fetch_of p129 rfl rfl
theorem s129_137 : zz_Run zz_prog d 129 (137, [l0, l1, l2, l3, l4, l5], .int w :: .int v :: st, k, h) = zz_Run zz_prog d 129 (138, [l0, l1, l2, l3, l4, l5], .int (v + w) :: st, k, h) := zz_k_num f129_137 rfl
theorem f129_138 : zz_fetch zz_prog 129 138 = some (.dup2, 1, [], []) := zz_fetch_of p129 rfl rfl
theorem s129_138 : zz_Run zz_prog d 129 (138, [l0, l1, l2, l3, l4, l5], .int v :: .ref a1 :: st, k, h) = zz_Run zz_prog d 129 (139, [l0, l1, l2, l3, l4, l5], .int v :: .ref a1 :: .int v :: .ref a1 :: st, k, h) := zz_k_num f129_138 rfl
theorem f129_139 : zz_fetch zz_prog 129 139 = some (.iaload, 1, [], []) := zz_fetch_of p129 rfl rfl
theorem s129_139 (ha : zz_isrd a = true) : zz_Run zz_prog d 129 (139, [l0, l1, l2, l3, l4, l5], .int v :: .ref a :: st, k, (zz_hp n I J ex)) = zz_ck (zz_in v (zz_ary n a)) (zz_Run zz_prog d 129 (140, [l0, l1, l2, l3, l4, l5], .int (I a v.toNatClampNeg) :: st, k, (zz_hp n I J ex))) := zz_k_iald f129_139 ha
theorem f129_140 : zz_fetch zz_prog 129 140 = some (.iconst 1, 1, [], []) := zz_fetch_of p129 rfl rfl
theorem s129_140 : zz_Run zz_prog d 129 (140, [l0, l1, l2, l3, l4, l5], st, k, h) = zz_Run zz_prog d 129 (141, [l0, l1, l2, l3, l4, l5], .int 1 :: st, k, h) := zz_k_num f129_140 rfl
theorem f129_141 : zz_fetch zz_prog 129 141 = some (.isub, 1, [], []) := zz_fetch_of p129 rfl rfl
theorem s129_141 : zz_Run zz_prog d 129 (141, [l0, l1, l2, l3, l4, l5], .int w :: .int v :: st, k, h) = zz_Run zz_prog d 129 (142, [l0, l1, l2, l3, l4, l5], .int (v - w) :: st, k, h) := zz_k_num f129_141 rfl
theorem f129_142 : zz_fetch zz_prog 129 142 = some (.iastore, 1, [], []) := zz_fetch_of p129 rfl rfl
theorem s129_142 (ha : zz_isar a = true) : zz_Run zz_prog d 129 (142, [l0, l1, l2, l3, l4, l5], .int w :: .int v :: .ref a :: st, k, (zz_hp n I J ex)) = zz_ck (zz_in v (zz_ary n a)) (zz_Run zz_prog d 129 (143, [l0, l1, l2, l3, l4, l5], st, false, (zz_hp n (zz_up I a v.toNatClampNeg w) J ex))) := zz_k_iast f129_142 ha
theorem f129_143 : zz_fetch zz_prog 129 143 = some (.aload_n 0, 1, [], []) := zz_fetch_of p129 rfl rfl
theorem s129_143 : zz_Run zz_prog d 129 (143, [some (.ref a), l1, l2, l3, l4, l5], st, k, h) = zz_Run zz_prog d 129 (144, [some (.ref a), l1, l2, l3, l4, l5], .ref a :: st, k, h) := zz_k_num f129_143 rfl
theorem f129_144 : zz_fetch zz_prog 129 144 = some (.getfield 7, 3, [2, 1, 3], []) := zz_fetch_of p129 rfl rfl
theorem s129_144 : zz_Run zz_prog d 129 (144, [l0, l1, l2, l3, l4, l5], .ref 23 :: st, k, (zz_hp n I J ex)) = zz_Run zz_prog d 129 (147, [l0, l1, l2, l3, l4, l5], .ref 24 :: st, k, (zz_hp n I J ex)) := zz_k_go f129_144 rfl rfl rfl
theorem f129_147 : zz_fetch zz_prog 129 147 = some (.sipush 176, 3, [], []) := zz_fetch_of p129 rfl rfl
theorem s129_147 : zz_Run zz_prog d 129 (147, [l0, l1, l2, l3, l4, l5], st, k, h) = zz_Run zz_prog d 129 (150, [l0, l1, l2, l3, l4, l5], .int 176 :: st, k, h) := zz_k_num f129_147 (congrArg (fun u => some (150, [l0, l1, l2, l3, l4, l5], Value.int u :: st)) (by decide : (Int16.ofInt 176).toInt32 = 176))
theorem f129_150 : zz_fetch zz_prog 129 150 = some (.iload_n 1, 1, [], []) := zz_fetch_of p129 rfl rfl
theorem s129_150 : zz_Run zz_prog d 129 (150, [l0, some (.int v), l2, l3, l4, l5], st, k, h) = zz_Run zz_prog d 129 (151, [l0, some (.int v), l2, l3, l4, l5], .int v :: st, k, h) := zz_k_num f129_150 rfl
theorem f129_151 : zz_fetch zz_prog 129 151 = some (.iadd, 1, [], []) := zz_fetch_of p129 rfl rfl
theorem s129_151 : zz_Run zz_prog d 129 (151, [l0, l1, l2, l3, l4, l5], .int w :: .int v :: st, k, h) = zz_Run zz_prog d 129 (152, [l0, l1, l2, l3, l4, l5], .int (v + w) :: st, k, h) := zz_k_num f129_151 rfl
theorem f129_152 : zz_fetch zz_prog 129 152 = some (.iaload, 1, [], []) := zz_fetch_of p129 rfl rfl
theorem s129_152 (ha : zz_isrd a = true) : zz_Run zz_prog d 129 (152, [l0, l1, l2, l3, l4, l5], .int v :: .ref a :: st, k, (zz_hp n I J ex)) = zz_ck (zz_in v (zz_ary n a)) (zz_Run zz_prog d 129 (153, [l0, l1, l2, l3, l4, l5], .int (I a v.toNatClampNeg) :: st, k, (zz_hp n I J ex))) := zz_k_iald f129_152 ha
theorem f129_153 : zz_fetch zz_prog 129 153 = some (.istore 5, 2, [], []) := zz_fetch_of p129 rfl rfl
theorem s129_153 : zz_Run zz_prog d 129 (153, [l0, l1, l2, l3, l4, l5], .int v :: st, k, h) = zz_sl l4 (zz_Run zz_prog d 129 (155, [l0, l1, l2, l3, l4, some (.int v)], st, k, h)) := zz_k_st (j := 5) (u := .int v) f129_153 rfl (fun q hq => by cases hq) rfl (show 5 < 6 by decide) (by cases l4 <;> rfl) rfl
theorem f129_155 : zz_fetch zz_prog 129 155 = some (.aload_n 0, 1, [], []) := zz_fetch_of p129 rfl rfl
theorem s129_155 : zz_Run zz_prog d 129 (155, [some (.ref a), l1, l2, l3, l4, l5], st, k, h) = zz_Run zz_prog d 129 (156, [some (.ref a), l1, l2, l3, l4, l5], .ref a :: st, k, h) := zz_k_num f129_155 rfl
theorem f129_156 : zz_fetch zz_prog 129 156 = some (.getfield 7, 3, [2, 1, 3], []) := zz_fetch_of p129 rfl rfl
theorem s129_156 : zz_Run zz_prog d 129 (156, [l0, l1, l2, l3, l4, l5], .ref 23 :: st, k, (zz_hp n I J ex)) = zz_Run zz_prog d 129 (159, [l0, l1, l2, l3, l4, l5], .ref 24 :: st, k, (zz_hp n I J ex)) := zz_k_go f129_156 rfl rfl rfl
theorem f129_159 : zz_fetch zz_prog 129 159 = some (.sipush 180, 3, [], []) := zz_fetch_of p129 rfl rfl
theorem s129_159 : zz_Run zz_prog d 129 (159, [l0, l1, l2, l3, l4, l5], st, k, h) = zz_Run zz_prog d 129 (162, [l0, l1, l2, l3, l4, l5], .int 180 :: st, k, h) := zz_k_num f129_159 (congrArg (fun u => some (162, [l0, l1, l2, l3, l4, l5], Value.int u :: st)) (by decide : (Int16.ofInt 180).toInt32 = 180))
theorem f129_162 : zz_fetch zz_prog 129 162 = some (.aload_n 0, 1, [], []) := zz_fetch_of p129 rfl rfl
theorem s129_162 : zz_Run zz_prog d 129 (162, [some (.ref a), l1, l2, l3, l4, l5], st, k, h) = zz_Run zz_prog d 129 (163, [some (.ref a), l1, l2, l3, l4, l5], .ref a :: st, k, h) := zz_k_num f129_162 rfl
theorem f129_163 : zz_fetch zz_prog 129 163 = some (.invokevirtual 181, 3, [0, 125, 1, 2], []) := zz_fetch_of p129 rfl rfl
theorem s129_163 : zz_Run zz_prog d 129 (163, [l0, l1, l2, l3, l4, l5], [.ref 23, b1, b2], k, (zz_hp n I J ex)) = zz_ret (zz_Call zz_prog d 125 [.ref 23] (zz_hp n I J ex)) (fun v k' h' => zz_Run zz_prog d 129 (166, [l0, l1, l2, l3, l4, l5], v.toList ++ [b1, b2], k && k', h')) (fun a k' h' => zz_th d 129 163 a [l0, l1, l2, l3, l4, l5] (k && k') h') := zz_k_call f129_163 rfl rfl rfl
theorem f129_166 : zz_fetch zz_prog 129 166 = some (.ifCond .eq 7, 3, [173], []) := zz_fetch_of p129 rfl rfl
theorem s129_166 : zz_Run zz_prog d 129 (166, [l0, l1, l2, l3, l4, l5], .int v :: st, k, h) = if v = 0 then zz_Run zz_prog d 129 (173, [l0, l1, l2, l3, l4, l5], st, k, h) else zz_Run zz_prog d 129 (169, [l0, l1, l2, l3, l4, l5], st, k, h) := zz_k_br (v = 0) rfl (zz_k_num f129_166 rfl)
theorem f129_169 : zz_fetch zz_prog 129 169 = some (.iconst 4, 1, [], []) := zz_fetch_of p129 rfl rfl
theorem s129_169 : zz_Run zz_prog d 129 (169, [l0, l1, l2, l3, l4, l5], st, k, h) = zz_Run zz_prog d 129 (170, [l0, l1, l2, l3, l4, l5], .int 4 :: st, k, h) := zz_k_num f129_169 rfl
theorem f129_170 : zz_fetch zz_prog 129 170 = some (.goto 4, 3, [174], []) := zz_fetch_of p129 rfl rfl
theorem s129_170 : zz_Run zz_prog d 129 (170, [l0, l1, l2, l3, l4, l5], st, k, h) = zz_Run zz_prog d 129 (174, [l0, l1, l2, l3, l4, l5], st, k, h) := zz_k_num f129_170 rfl
theorem f129_173 : zz_fetch zz_prog 129 173 = some (.iconst 5, 1, [], []) := zz_fetch_of p129 rfl rfl
theorem s129_173 : zz_Run zz_prog d 129 (173, [l0, l1, l2, l3, l4, l5], st, k, h) = zz_Run zz_prog d 129 (174, [l0, l1, l2, l3, l4, l5], .int 5 :: st, k, h) := zz_k_num f129_173 rfl
theorem f129_174 : zz_fetch zz_prog 129 174 = some (.iastore, 1, [], []) := zz_fetch_of p129 rfl rfl
theorem s129_174 (ha : zz_isar a = true) : zz_Run zz_prog d 129 (174, [l0, l1, l2, l3, l4, l5], .int w :: .int v :: .ref a :: st, k, (zz_hp n I J ex)) = zz_ck (zz_in v (zz_ary n a)) (zz_Run zz_prog d 129 (175, [l0, l1, l2, l3, l4, l5], st, false, (zz_hp n (zz_up I a v.toNatClampNeg w) J ex))) := zz_k_iast f129_174 ha
theorem f129_175 : zz_fetch zz_prog 129 175 = some (.aload_n 0, 1, [], []) := zz_fetch_of p129 rfl rfl
theorem s129_175 : zz_Run zz_prog d 129 (175, [some (.ref a), l1, l2, l3, l4, l5], st, k, h) = zz_Run zz_prog d 129 (176, [some (.ref a), l1, l2, l3, l4, l5], .ref a :: st, k, h) := zz_k_num f129_175 rfl
theorem f129_176 : zz_fetch zz_prog 129 176 = some (.invokevirtual 175, 3, [0, 116, 1, 2], []) := zz_fetch_of p129 rfl rfl
theorem s129_176 : zz_Run zz_prog d 129 (176, [l0, l1, l2, l3, l4, l5], [.ref 23], k, (zz_hp n I J ex)) = zz_ret (zz_Call zz_prog d 116 [.ref 23] (zz_hp n I J ex)) (fun v k' h' => zz_Run zz_prog d 129 (179, [l0, l1, l2, l3, l4, l5], v.toList ++ [], k && k', h')) (fun a k' h' => zz_th d 129 176 a [l0, l1, l2, l3, l4, l5] (k && k') h') := zz_k_call f129_176 rfl rfl rfl
theorem f129_179 : zz_fetch zz_prog 129 179 = some (.iload 5, 2, [], []) := zz_fetch_of p129 rfl rfl
theorem s129_179 : zz_Run zz_prog d 129 (179, [l0, l1, l2, l3, l4, some (.int v)], st, k, h) = zz_Run zz_prog d 129 (181, [l0, l1, l2, l3, l4, some (.int v)], .int v :: st, k, h) := zz_k_num f129_179 rfl
theorem f129_181 : zz_fetch zz_prog 129 181 = some (.ireturn, 1, [0], []) := zz_fetch_of p129 rfl rfl
theorem s129_181 : zz_Run zz_prog d 129 (181, [l0, l1, l2, l3, l4, l5], [.int v], k, h) = some (.inl (some (.int v)), k, h) := zz_k_stop f129_181 rfl rfl rfl
end S129
section S130
variable {d n j : Nat} {l0 l1 l2 : Option Value} {st : List Value} {k : Bool} {h : zz_H} {v w v1 v2 : Int32} {y y1 : Int64} {a a1 a2 : Nat} {b0 b1 b2 b3 b4 b5 b6 b7 b8 : Value} {I : Nat → Nat → Int32} {J : Nat → Nat → Int64} {ex : List (Nat × Nat)}
theorem p130 : zz_prog 130 = some zz_m130 := rfl
theorem e130 (g0 : Nat) (g1 : Int32) (g2 : Int32) : zz_Call zz_prog (d + 1) 130 [.ref g0, .int g1, .int g2] h = zz_Run zz_prog d 130 (0, [some (.ref g0), some (.int g1), some (.int g2)], [], true, h) := rfl
theorem t130 (pc : Nat) (L : List (Option Value)) : zz_th d 130 pc a L k h = some (.inr a, k, h) := zz_th_out p130 rfl
theorem f130_0 : zz_fetch zz_prog 130 0 = some (.aload_n 0, 1, [], []) := zz_fetch_of p130 rfl rfl
theorem s130_0 : zz_Run zz_prog d 130 (0, [some (.ref a), l1, l2], st, k, h) = zz_Run zz_prog d 130 (1, [some (.ref a), l1, l2], .ref a :: st, k, h) := zz_k_num f130_0 rfl
theorem f130_1 : zz_fetch zz_prog 130 1 = some (.iload_n 1, 1, [], []) := zz_fetch_of p130 rfl rfl
theorem s130_1 : zz_Run zz_prog d 130 (1, [l0, some (.int v), l2], st, k, h) = zz_Run zz_prog d 130 (2, [l0, some (.int v), l2], .int v :: st, k, h) := zz_k_num f130_1 rfl
theorem f130_2 : zz_fetch zz_prog 130 2 = some (.invokevirtual 191, 3, [0, 127, 2, 2], []) := zz_fetch_of p130 rfl rfl
theorem s130_2 : zz_Run zz_prog d 130 (2, [l0, l1, l2], [b0, .ref 23], k, (zz_hp n I J ex)) = zz_ret (zz_Call zz_prog d 127 [.ref 23, b0] (zz_hp n I J ex)) (fun v k' h' => zz_Run zz_prog d 130 (5, [l0, l1, l2], v.toList ++ [], k && k', h')) (fun a k' h' => zz_th d 130 2 a [l0, l1, l2] (k && k') h') := zz_k_call f130_2 rfl rfl rfl
theorem f130_5 : zz_fetch zz_prog 130 5 = some (.ifCond .eq 36, 3, [41], []) := zz_fetch_of p130 rfl rfl
theorem s130_5 : zz_Run zz_prog d 130 (5, [l0, l1, l2], .int v :: st, k, h) = if v = 0 then zz_Run zz_prog d 130 (41, [l0, l1, l2], st, k, h) else zz_Run zz_prog d 130 (8, [l0, l1, l2], st, k, h) := zz_k_br (v = 0) rfl (zz_k_num f130_5 rfl)
theorem f130_8 : zz_fetch zz_prog 130 8 = some (.iload_n 1, 1, [], []) := zz_fetch_of p130 rfl rfl
theorem s130_8 : zz_Run zz_prog d 130 (8, [l0, some (.int v), l2], st, k, h) = zz_Run zz_prog d 130 (9, [l0, some (.int v), l2], .int v :: st, k, h) := zz_k_num f130_8 rfl
theorem f130_9 : zz_fetch zz_prog 130 9 = some (.aload_n 0, 1, [], []) := zz_fetch_of p130 rfl rfl
theorem s130_9 : zz_Run zz_prog d 130 (9, [some (.ref a), l1, l2], st, k, h) = zz_Run zz_prog d 130 (10, [some (.ref a), l1, l2], .ref a :: st, k, h) := zz_k_num f130_9 rfl
theorem f130_10 : zz_fetch zz_prog 130 10 = some (.getfield 7, 3, [2, 1, 3], []) := zz_fetch_of p130 rfl rfl
theorem s130_10 : zz_Run zz_prog d 130 (10, [l0, l1, l2], .ref 23 :: st, k, (zz_hp n I J ex)) = zz_Run zz_prog d 130 (13, [l0, l1, l2], .ref 24 :: st, k, (zz_hp n I J ex)) := zz_k_go f130_10 rfl rfl rfl
theorem f130_13 : zz_fetch zz_prog 130 13 = some (.sipush 181, 3, [], []) := zz_fetch_of p130 rfl rfl
theorem s130_13 : zz_Run zz_prog d 130 (13, [l0, l1, l2], st, k, h) = zz_Run zz_prog d 130 (16, [l0, l1, l2], .int 181 :: st, k, h) := zz_k_num f130_13 (congrArg (fun u => some (16, [l0, l1, l2], Value.int u :: st)) (by decide : (Int16.ofInt 181).toInt32 = 181))
theorem f130_16 : zz_fetch zz_prog 130 16 = some (.iaload, 1, [], []) := zz_fetch_of p130 rfl rfl
theorem s130_16 (ha : zz_isrd a = true) : zz_Run zz_prog d 130 (16, [l0, l1, l2], .int v :: .ref a :: st, k, (zz_hp n I J ex)) = zz_ck (zz_in v (zz_ary n a)) (zz_Run zz_prog d 130 (17, [l0, l1, l2], .int (I a v.toNatClampNeg) :: st, k, (zz_hp n I J ex))) := zz_k_iald f130_16 ha
theorem f130_17 : zz_fetch zz_prog 130 17 = some (.if_icmp .eq 24, 3, [41], []) := zz_fetch_of p130 rfl rfl
theorem s130_17 : zz_Run zz_prog d 130 (17, [l0, l1, l2], .int w :: .int v :: st, k, h) = if v = w then zz_Run zz_prog d 130 (41, [l0, l1, l2], st, k, h) else zz_Run zz_prog d 130 (20, [l0, l1, l2], st, k, h) := zz_k_br (v = w) rfl (zz_k_num f130_17 rfl)
theorem f130_20 : zz_fetch zz_prog 130 20 = some (.aload_n 0, 1, [], []) := zz_fetch_of p130 rfl rfl
theorem s130_20 : zz_Run zz_prog d 130 (20, [some (.ref a), l1, l2], st, k, h) = zz_Run zz_prog d 130 (21, [some (.ref a), l1, l2], .ref a :: st, k, h) := zz_k_num f130_20 rfl
theorem f130_21 : zz_fetch zz_prog 130 21 = some (.iload_n 1, 1, [], []) := zz_fetch_of p130 rfl rfl
theorem s130_21 : zz_Run zz_prog d 130 (21, [l0, some (.int v), l2], st, k, h) = zz_Run zz_prog d 130 (22, [l0, some (.int v), l2], .int v :: st, k, h) := zz_k_num f130_21 rfl
theorem f130_22 : zz_fetch zz_prog 130 22 = some (.iload_n 2, 1, [], []) := zz_fetch_of p130 rfl rfl
theorem s130_22 : zz_Run zz_prog d 130 (22, [l0, l1, some (.int v)], st, k, h) = zz_Run zz_prog d 130 (23, [l0, l1, some (.int v)], .int v :: st, k, h) := zz_k_num f130_22 rfl
theorem f130_23 : zz_fetch zz_prog 130 23 = some (.invokevirtual 185, 3, [0, 122, 3, 2], []) := zz_fetch_of p130 rfl rfl
theorem s130_23 : zz_Run zz_prog d 130 (23, [l0, l1, l2], [b0, b1, .ref 23], k, (zz_hp n I J ex)) = zz_ret (zz_Call zz_prog d 122 [.ref 23, b1, b0] (zz_hp n I J ex)) (fun v k' h' => zz_Run zz_prog d 130 (26, [l0, l1, l2], v.toList ++ [], k && k', h')) (fun a k' h' => zz_th d 130 23 a [l0, l1, l2] (k && k') h') := zz_k_call f130_23 rfl rfl rfl
theorem f130_26 : zz_fetch zz_prog 130 26 = some (.ifCond .le 15, 3, [41], []) := zz_fetch_of p130 rfl rfl
theorem s130_26 : zz_Run zz_prog d 130 (26, [l0, l1, l2], .int v :: st, k, h) = if v ≤ 0 then zz_Run zz_prog d 130 (41, [l0, l1, l2], st, k, h) else zz_Run zz_prog d 130 (29, [l0, l1, l2], st, k, h) := zz_k_br (v ≤ 0) rfl (zz_k_num f130_26 rfl)
theorem f130_29 : zz_fetch zz_prog 130 29 = some (.aload_n 0, 1, [], []) := zz_fetch_of p130 rfl rfl
theorem s130_29 : zz_Run zz_prog d 130 (29, [some (.ref a), l1, l2], st, k, h) = zz_Run zz_prog d 130 (30, [some (.ref a), l1, l2], .ref a :: st, k, h) := zz_k_num f130_29 rfl
theorem f130_30 : zz_fetch zz_prog 130 30 = some (.iload_n 1, 1, [], []) := zz_fetch_of p130 rfl rfl
theorem s130_30 : zz_Run zz_prog d 130 (30, [l0, some (.int v), l2], st, k, h) = zz_Run zz_prog d 130 (31, [l0, some (.int v), l2], .int v :: st, k, h) := zz_k_num f130_30 rfl
theorem f130_31 : zz_fetch zz_prog 130 31 = some (.invokevirtual 178, 3, [0, 124, 2, 2], []) := zz_fetch_of p130 rfl rfl
theorem s130_31 : zz_Run zz_prog d 130 (31, [l0, l1, l2], [b0, .ref 23], k, (zz_hp n I J ex)) = zz_ret (zz_Call zz_prog d 124 [.ref 23, b0] (zz_hp n I J ex)) (fun v k' h' => zz_Run zz_prog d 130 (34, [l0, l1, l2], v.toList ++ [], k && k', h')) (fun a k' h' => zz_th d 130 31 a [l0, l1, l2] (k && k') h') := zz_k_call f130_31 rfl rfl rfl
theorem f130_34 : zz_fetch zz_prog 130 34 = some (.ifCond .le 7, 3, [41], []) := zz_fetch_of p130 rfl rfl
theorem s130_34 : zz_Run zz_prog d 130 (34, [l0, l1, l2], .int v :: st, k, h) = if v ≤ 0 then zz_Run zz_prog d 130 (41, [l0, l1, l2], st, k, h) else zz_Run zz_prog d 130 (37, [l0, l1, l2], st, k, h) := zz_k_br (v ≤ 0) rfl (zz_k_num f130_34 rfl)
theorem f130_37 : zz_fetch zz_prog 130 37 = some (.iconst 1, 1, [], []) := zz_fetch_of p130 rfl rfl
theorem s130_37 : zz_Run zz_prog d 130 (37, [l0, l1, l2], st, k, h) = zz_Run zz_prog d 130 (38, [l0, l1, l2], .int 1 :: st, k, h) := zz_k_num f130_37 rfl
theorem f130_38 : zz_fetch zz_prog 130 38 = some (.goto 4, 3, [42], []) := zz_fetch_of p130 rfl rfl
theorem s130_38 : zz_Run zz_prog d 130 (38, [l0, l1, l2], st, k, h) = zz_Run zz_prog d 130 (42, [l0, l1, l2], st, k, h) := zz_k_num f130_38 rfl
theorem f130_41 : zz_fetch zz_prog 130 41 = some (.iconst 0, 1, [], []) := zz_fetch_of p130 rfl rfl
theorem s130_41 : zz_Run zz_prog d 130 (41, [l0, l1, l2], st, k, h) = zz_Run zz_prog d 130 (42, [l0, l1, l2], .int 0 :: st, k, h) := zz_k_num f130_41 rfl
theorem f130_42 : zz_fetch zz_prog 130 42 = some (.ireturn, 1, [1], []) := zz_fetch_of p130 rfl rfl
theorem s130_42 : zz_Run zz_prog d 130 (42, [l0, l1, l2], [.int v], k, h) = zz_ck (decide (v = 0 ∨ v = 1)) (some (.inl (some (.int v)), k, h)) := zz_k_retz f130_42
end S130
section S131
variable {d n j : Nat} {l0 l1 l2 l3 : Option Value} {st : List Value} {k : Bool} {h : zz_H} {v w v1 v2 : Int32} {y y1 : Int64} {a a1 a2 : Nat} {b0 b1 b2 b3 b4 b5 b6 b7 b8 : Value} {I : Nat → Nat → Int32} {J : Nat → Nat → Int64} {ex : List (Nat × Nat)}
theorem p131 : zz_prog 131 = some zz_m131 := rfl
theorem e131 (g0 : Nat) (g1 : Int32) : zz_Call zz_prog (d + 1) 131 [.ref g0, .int g1] h = zz_Run zz_prog d 131 (0, [some (.ref g0), some (.int g1), none, none], [], true, h) := rfl
theorem t131 (pc : Nat) (L : List (Option Value)) : zz_th d 131 pc a L k h = some (.inr a, k, h) := zz_th_out p131 rfl
theorem f131_0 : zz_fetch zz_prog 131 0 = some (.iconst 0, 1, [], []) := zz_fetch_of p131 rfl rfl
theorem s131_0 : zz_Run zz_prog d 131 (0, [l0, l1, l2, l3], st, k, h) = zz_Run zz_prog d 131 (1, [l0, l1, l2, l3], .int 0 :: st, k, h) := zz_k_num f131_0 rfl
theorem f131_1 : zz_fetch zz_prog 131 1 = some (.istore_n 2, 1, [], []) := zz_fetch_of p131 rfl rfl
theorem s131_1 : zz_Run zz_prog d 131 (1, [l0, l1, l2, l3], .int v :: st, k, h) = zz_sl l1 (zz_Run zz_prog d 131 (2, [l0, l1, some (.int v), l3], st, k, h)) := zz_k_st (j := 2) (u := .int v) f131_1 rfl (fun q hq => by cases hq) rfl (show 2 < 4 by decide) (by cases l1 <;> rfl) rfl
theorem f131_2 : zz_fetch zz_prog 131 2 = some (.iconst 0, 1, [], []) := zz_fetch_of p131 rfl rfl
theorem s131_2 : zz_Run zz_prog d 131 (2, [l0, l1, l2, l3], st, k, h) = zz_Run zz_prog d 131 (3, [l0, l1, l2, l3], .int 0 :: st, k, h) := zz_k_num f131_2 rfl
theorem f131_3 : zz_fetch zz_prog 131 3 = some (.istore_n 3, 1, [], []) := zz_fetch_of p131 rfl rfl
theorem s131_3 : zz_Run zz_prog d 131 (3, [l0, l1, l2, l3], .int v :: st, k, h) = zz_sl l2 (zz_Run zz_prog d 131 (4, [l0, l1, l2, some (.int v)], st, k, h)) := zz_k_st (j := 3) (u := .int v) f131_3 rfl (fun q hq => by cases hq) rfl (show 3 < 4 by decide) (by cases l2 <;> rfl) rfl
theorem f131_4 : zz_fetch zz_prog 131 4 = some (.iload_n 3, 1, [], []) := zz_fetch_of p131 rfl rfl
theorem s131_4 : zz_Run zz_prog d 131 (4, [l0, l1, l2, some (.int v)], st, k, h) = zz_Run zz_prog d 131 (5, [l0, l1, l2, some (.int v)], .int v :: st, k, h) := zz_k_num f131_4 rfl
theorem f131_5 : zz_fetch zz_prog 131 5 = some (.aload_n 0, 1, [], []) := zz_fetch_of p131 rfl rfl
theorem s131_5 : zz_Run zz_prog d 131 (5, [some (.ref a), l1, l2, l3], st, k, h) = zz_Run zz_prog d 131 (6, [some (.ref a), l1, l2, l3], .ref a :: st, k, h) := zz_k_num f131_5 rfl
theorem f131_6 : zz_fetch zz_prog 131 6 = some (.getfield 105, 3, [2, 15, 0], []) := zz_fetch_of p131 rfl rfl
theorem s131_6 : zz_Run zz_prog d 131 (6, [l0, l1, l2, l3], .ref 23 :: st, k, (zz_hp n I J ex)) = zz_Run zz_prog d 131 (9, [l0, l1, l2, l3], .int (I 23 15) :: st, k, (zz_hp n I J ex)) := zz_k_go f131_6 rfl rfl rfl
theorem f131_9 : zz_fetch zz_prog 131 9 = some (.if_icmp .ge 28, 3, [37], []) := zz_fetch_of p131 rfl rfl
theorem s131_9 : zz_Run zz_prog d 131 (9, [l0, l1, l2, l3], .int w :: .int v :: st, k, h) = if w ≤ v then zz_Run zz_prog d 131 (37, [l0, l1, l2, l3], st, k, h) else zz_Run zz_prog d 131 (12, [l0, l1, l2, l3], st, k, h) := zz_k_br (w ≤ v) rfl (zz_k_num f131_9 rfl)
theorem f131_12 : zz_fetch zz_prog 131 12 = some (.iload_n 2, 1, [], []) := zz_fetch_of p131 rfl rfl
theorem s131_12 : zz_Run zz_prog d 131 (12, [l0, l1, some (.int v), l3], st, k, h) = zz_Run zz_prog d 131 (13, [l0, l1, some (.int v), l3], .int v :: st, k, h) := zz_k_num f131_12 rfl
theorem f131_13 : zz_fetch zz_prog 131 13 = some (.ifCond .ne 12, 3, [25], []) := zz_fetch_of p131 rfl rfl
theorem s131_13 : zz_Run zz_prog d 131 (13, [l0, l1, l2, l3], .int v :: st, k, h) = if ¬ v = 0 then zz_Run zz_prog d 131 (25, [l0, l1, l2, l3], st, k, h) else zz_Run zz_prog d 131 (16, [l0, l1, l2, l3], st, k, h) := zz_k_br (¬ v = 0) rfl (zz_k_num f131_13 rfl)
theorem f131_16 : zz_fetch zz_prog 131 16 = some (.aload_n 0, 1, [], []) := zz_fetch_of p131 rfl rfl
theorem s131_16 : zz_Run zz_prog d 131 (16, [some (.ref a), l1, l2, l3], st, k, h) = zz_Run zz_prog d 131 (17, [some (.ref a), l1, l2, l3], .ref a :: st, k, h) := zz_k_num f131_16 rfl
theorem f131_17 : zz_fetch zz_prog 131 17 = some (.iload_n 3, 1, [], []) := zz_fetch_of p131 rfl rfl
theorem s131_17 : zz_Run zz_prog d 131 (17, [l0, l1, l2, some (.int v)], st, k, h) = zz_Run zz_prog d 131 (18, [l0, l1, l2, some (.int v)], .int v :: st, k, h) := zz_k_num f131_17 rfl
theorem f131_18 : zz_fetch zz_prog 131 18 = some (.iload_n 1, 1, [], []) := zz_fetch_of p131 rfl rfl
theorem s131_18 : zz_Run zz_prog d 131 (18, [l0, some (.int v), l2, l3], st, k, h) = zz_Run zz_prog d 131 (19, [l0, some (.int v), l2, l3], .int v :: st, k, h) := zz_k_num f131_18 rfl
theorem f131_19 : zz_fetch zz_prog 131 19 = some (.invokevirtual 197, 3, [0, 130, 3, 2], []) := zz_fetch_of p131 rfl rfl
theorem s131_19 : zz_Run zz_prog d 131 (19, [l0, l1, l2, l3], [b0, b1, .ref 23], k, (zz_hp n I J ex)) = zz_ret (zz_Call zz_prog d 130 [.ref 23, b1, b0] (zz_hp n I J ex)) (fun v k' h' => zz_Run zz_prog d 131 (22, [l0, l1, l2, l3], v.toList ++ [], k && k', h')) (fun a k' h' => zz_th d 131 19 a [l0, l1, l2, l3] (k && k') h') := zz_k_call f131_19 rfl rfl rfl
theorem f131_22 : zz_fetch zz_prog 131 22 = some (.ifCond .eq 7, 3, [29], []) := zz_fetch_of p131 rfl rfl
theorem s131_22 : zz_Run zz_prog d 131 (22, [l0, l1, l2, l3], .int v :: st, k, h) = if v = 0 then zz_Run zz_prog d 131 (29, [l0, l1, l2, l3], st, k, h) else zz_Run zz_prog d 131 (25, [l0, l1, l2, l3], st, k, h) := zz_k_br (v = 0) rfl (zz_k_num f131_22 rfl)
theorem f131_25 : zz_fetch zz_prog 131 25 = some (.iconst 1, 1, [], []) := zz_fetch_of p131 rfl rfl
theorem s131_25 : zz_Run zz_prog d 131 (25, [l0, l1, l2, l3], st, k, h) = zz_Run zz_prog d 131 (26, [l0, l1, l2, l3], .int 1 :: st, k, h) := zz_k_num f131_25 rfl
theorem f131_26 : zz_fetch zz_prog 131 26 = some (.goto 4, 3, [30], []) := zz_fetch_of p131 rfl rfl
theorem s131_26 : zz_Run zz_prog d 131 (26, [l0, l1, l2, l3], st, k, h) = zz_Run zz_prog d 131 (30, [l0, l1, l2, l3], st, k, h) := zz_k_num f131_26 rfl
theorem f131_29 : zz_fetch zz_prog 131 29 = some (.iconst 0, 1, [], []) := zz_fetch_of p131 rfl rfl
theorem s131_29 : zz_Run zz_prog d 131 (29, [l0, l1, l2, l3], st, k, h) = zz_Run zz_prog d 131 (30, [l0, l1, l2, l3], .int 0 :: st, k, h) := zz_k_num f131_29 rfl
theorem f131_30 : zz_fetch zz_prog 131 30 = some (.istore_n 2, 1, [], []) := zz_fetch_of p131 rfl rfl
theorem s131_30 : zz_Run zz_prog d 131 (30, [l0, l1, l2, l3], .int v :: st, k, h) = zz_sl l1 (zz_Run zz_prog d 131 (31, [l0, l1, some (.int v), l3], st, k, h)) := zz_k_st (j := 2) (u := .int v) f131_30 rfl (fun q hq => by cases hq) rfl (show 2 < 4 by decide) (by cases l1 <;> rfl) rfl
theorem f131_31 : zz_fetch zz_prog 131 31 = some (.iinc 3 1, 3, [], []) := zz_fetch_of p131 rfl rfl
theorem s131_31 : zz_Run zz_prog d 131 (31, [l0, l1, l2, some (.int v)], st, k, h) = zz_sl l2 (zz_Run zz_prog d 131 (34, [l0, l1, l2, some (.int (v + 1))], st, k, h)) := zz_k_st (j := 3) (u := .int (v + 1)) f131_31 rfl (fun q hq => by cases hq) rfl (show 3 < 4 by decide) (by cases l2 <;> rfl) rfl
theorem f131_34 : zz_fetch zz_prog 131 34 = some (.goto (-30), 3, [4], []) := zz_fetch_of p131 rfl rfl
theorem s131_34 : zz_Run zz_prog d 131 (34, [l0, l1, l2, l3], st, k, h) = zz_Run zz_prog d 131 (4, [l0, l1, l2, l3], st, k, h) := zz_k_num f131_34 rfl
theorem f131_37 : zz_fetch zz_prog 131 37 = some (.iload_n 2, 1, [], []) := zz_fetch_of p131 rfl rfl
theorem s131_37 : zz_Run zz_prog d 131 (37, [l0, l1, some (.int v), l3], st, k, h) = zz_Run zz_prog d 131 (38, [l0, l1, some (.int v), l3], .int v :: st, k, h) := zz_k_num f131_37 rfl
theorem f131_38 : zz_fetch zz_prog 131 38 = some (.ireturn, 1, [1], []) := zz_fetch_of p131 rfl rfl
theorem s131_38 : zz_Run zz_prog d 131 (38, [l0, l1, l2, l3], [.int v], k, h) = zz_ck (decide (v = 0 ∨ v = 1)) (some (.inl (some (.int v)), k, h)) := zz_k_retz f131_38
end S131
section S132
variable {d n j : Nat} {l0 l1 l2 l3 l4 l5 l6 l7 l8 l9 : Option Value} {st : List Value} {k : Bool} {h : zz_H} {v w v1 v2 : Int32} {y y1 : Int64} {a a1 a2 : Nat} {b0 b1 b2 b3 b4 b5 b6 b7 b8 : Value} {I : Nat → Nat → Int32} {J : Nat → Nat → Int64} {ex : List (Nat × Nat)}
theorem p132 : zz_prog 132 = some zz_m132 := rfl
theorem e132 (g0 : Nat) (g1 : Int32) (g2 : Int32) (g3 : Int32) : zz_Call zz_prog (d + 1) 132 [.ref g0, .int g1, .int g2, .int g3] h = zz_Run zz_prog d 132 (0, [some (.ref g0), some (.int g1), some (.int g2), some (.int g3), none, none, none, none, none, none], [], true, h) := rfl
theorem t132 (pc : Nat) (L : List (Option Value)) : zz_th d 132 pc a L k h = some (.inr a, k, h) := zz_th_out p132 rfl
theorem f132_0 : zz_fetch zz_prog 132 0 = some (.aload_n 0, 1, [], []) := zz_fetch_of p132 rfl rfl
theorem s132_0 : zz_Run zz_prog d 132 (0, [some (.ref a), l1, l2, l3, l4, l5, l6, l7, l8, l9], st, k, h) = zz_Run zz_prog d 132 (1, [some (.ref a), l1, l2, l3, l4, l5, l6, l7, l8, l9], .ref a :: st, k, h) := zz_k_num f132_0 rfl
theorem f132_1 : zz_fetch zz_prog 132 1 = some (.getfield 7, 3, [2, 1, 3], []) := zz_fetch_of p132 rfl rfl
theorem s132_1 : zz_Run zz_prog d 132 (1, [l0, l1, l2, l3, l4, l5, l6, l7, l8, l9], .ref 23 :: st, k, (zz_hp n I J ex)) = zz_Run zz_prog d 132 (4, [l0, l1, l2, l3, l4, l5, l6, l7, l8, l9], .ref 24 :: st, k, (zz_hp n I J ex)) := zz_k_go f132_1 rfl rfl rfl
theorem f132_4 : zz_fetch zz_prog 132 4 = some (.sipush 180, 3, [], []) := zz_fetch_of p132 rfl rfl
theorem s132_4 : zz_Run zz_prog d 132 (4, [l0, l1, l2, l3, l4, l5, l6, l7, l8, l9], st, k, h) = zz_Run zz_prog d 132 (7, [l0, l1, l2, l3, l4, l5, l6, l7, l8, l9], .int 180 :: st, k, h) := zz_k_num f132_4 (congrArg (fun u => some (7, [l0, l1, l2, l3, l4, l5, l6, l7, l8, l9], Value.int u :: st)) (by decide : (Int16.ofInt 180).toInt32 = 180))
theorem f132_7 : zz_fetch zz_prog 132 7 = some (.iaload, 1, [], []) := zz_fetch_of p132 rfl rfl
theorem s132_7 (ha : zz_isrd a = true) : zz_Run zz_prog d 132 (7, [l0, l1, l2, l3, l4, l5, l6, l7, l8, l9], .int v :: .ref a :: st, k, (zz_hp n I J ex)) = zz_ck (zz_in v (zz_ary n a)) (zz_Run zz_prog d 132 (8, [l0, l1, l2, l3, l4, l5, l6, l7, l8, l9], .int (I a v.toNatClampNeg) :: st, k, (zz_hp n I J ex))) := zz_k_iald f132_7 ha
theorem f132_8 : zz_fetch zz_prog 132 8 = some (.iconst 5, 1, [], []) := zz_fetch_of p132 rfl rfl
theorem s132_8 : zz_Run zz_prog d 132 (8, [l0, l1, l2, l3, l4, l5, l6, l7, l8, l9], st, k, h) = zz_Run zz_prog d 132 (9, [l0, l1, l2, l3, l4, l5, l6, l7, l8, l9], .int 5 :: st, k, h) := zz_k_num f132_8 rfl
theorem f132_9 : zz_fetch zz_prog 132 9 = some (.if_icmp .eq 7, 3, [16], []) := zz_fetch_of p132 rfl rfl
theorem s132_9 : zz_Run zz_prog d 132 (9, [l0, l1, l2, l3, l4, l5, l6, l7, l8, l9], .int w :: .int v :: st, k, h) = if v = w then zz_Run zz_prog d 132 (16, [l0, l1, l2, l3, l4, l5, l6, l7, l8, l9], st, k, h) else zz_Run zz_prog d 132 (12, [l0, l1, l2, l3, l4, l5, l6, l7, l8, l9], st, k, h) := zz_k_br (v = w) rfl (zz_k_num f132_9 rfl)
theorem f132_12 : zz_fetch zz_prog 132 12 = some (.iconst 1, 1, [], []) := zz_fetch_of p132 rfl rfl
theorem s132_12 : zz_Run zz_prog d 132 (12, [l0, l1, l2, l3, l4, l5, l6, l7, l8, l9], st, k, h) = zz_Run zz_prog d 132 (13, [l0, l1, l2, l3, l4, l5, l6, l7, l8, l9], .int 1 :: st, k, h) := zz_k_num f132_12 rfl
theorem f132_13 : zz_fetch zz_prog 132 13 = some (.goto 4, 3, [17], []) := zz_fetch_of p132 rfl rfl
theorem s132_13 : zz_Run zz_prog d 132 (13, [l0, l1, l2, l3, l4, l5, l6, l7, l8, l9], st, k, h) = zz_Run zz_prog d 132 (17, [l0, l1, l2, l3, l4, l5, l6, l7, l8, l9], st, k, h) := zz_k_num f132_13 rfl
theorem f132_16 : zz_fetch zz_prog 132 16 = some (.iconst 0, 1, [], []) := zz_fetch_of p132 rfl rfl
theorem s132_16 : zz_Run zz_prog d 132 (16, [l0, l1, l2, l3, l4, l5, l6, l7, l8, l9], st, k, h) = zz_Run zz_prog d 132 (17, [l0, l1, l2, l3, l4, l5, l6, l7, l8, l9], .int 0 :: st, k, h) := zz_k_num f132_16 rfl
theorem f132_17 : zz_fetch zz_prog 132 17 = some (.istore 4, 2, [], []) := zz_fetch_of p132 rfl rfl
theorem s132_17 : zz_Run zz_prog d 132 (17, [l0, l1, l2, l3, l4, l5, l6, l7, l8, l9], .int v :: st, k, h) = zz_sl l3 (zz_Run zz_prog d 132 (19, [l0, l1, l2, l3, some (.int v), l5, l6, l7, l8, l9], st, k, h)) := zz_k_st (j := 4) (u := .int v) f132_17 rfl (fun q hq => by cases hq) rfl (show 4 < 10 by decide) (by cases l3 <;> rfl) rfl
theorem f132_19 : zz_fetch zz_prog 132 19 = some (.iload_n 1, 1, [], []) := zz_fetch_of p132 rfl rfl
theorem s132_19 : zz_Run zz_prog d 132 (19, [l0, some (.int v), l2, l3, l4, l5, l6, l7, l8, l9], st, k, h) = zz_Run zz_prog d 132 (20, [l0, some (.int v), l2, l3, l4, l5, l6, l7, l8, l9], .int v :: st, k, h) := zz_k_num f132_19 rfl
theorem f132_20 : zz_fetch zz_prog 132 20 = some (.ifCond .lt 25, 3, [45], []) := zz_fetch_of p132 rfl rfl
theorem s132_20 : zz_Run zz_prog d 132 (20, [l0, l1, l2, l3, l4, l5, l6, l7, l8, l9], .int v :: st, k, h) = if v < 0 then zz_Run zz_prog d 132 (45, [l0, l1, l2, l3, l4, l5, l6, l7, l8, l9], st, k, h) else zz_Run zz_prog d 132 (23, [l0, l1, l2, l3, l4, l5, l6, l7, l8, l9], st, k, h) := zz_k_br (v < 0) rfl (zz_k_num f132_20 rfl)
theorem f132_23 : zz_fetch zz_prog 132 23 = some (.iload_n 1, 1, [], []) := zz_fetch_of p132 rfl rfl
theorem s132_23 : zz_Run zz_prog d 132 (23, [l0, some (.int v), l2, l3, l4, l5, l6, l7, l8, l9], st, k, h) = zz_Run zz_prog d 132 (24, [l0, some (.int v), l2, l3, l4, l5, l6, l7, l8, l9], .int v :: st, k, h) := zz_k_num f132_23 rfl
theorem f132_24 : zz_fetch zz_prog 132 24 = some (.bipush 18, 2, [], []) := zz_fetch_of p132 rfl rfl
theorem s132_24 : zz_Run zz_prog d 132 (24, [l0, l1, l2, l3, l4, l5, l6, l7, l8, l9], st, k, h) = zz_Run zz_prog d 132 (26, [l0, l1, l2, l3, l4, l5, l6, l7, l8, l9], .int 18 :: st, k, h) := zz_k_num f132_24 (congrArg (fun u => some (26, [l0, l1, l2, l3, l4, l5, l6, l7, l8, l9], Value.int u :: st)) (by decide : (Int8.ofInt 18).toInt32 = 18))
theorem f132_26 : zz_fetch zz_prog 132 26 = some (.if_icmp .gt 19, 3, [45], []) := zz_fetch_of p132 rfl rfl
theorem s132_26 : zz_Run zz_prog d 132 (26, [l0, l1, l2, l3, l4, l5, l6, l7, l8, l9], .int w :: .int v :: st, k, h) = if w < v then zz_Run zz_prog d 132 (45, [l0, l1, l2, l3, l4, l5, l6, l7, l8, l9], st, k, h) else zz_Run zz_prog d 132 (29, [l0, l1, l2, l3, l4, l5, l6, l7, l8, l9], st, k, h) := zz_k_br (w < v) rfl (zz_k_num f132_26 rfl)
theorem f132_29 : zz_fetch zz_prog 132 29 = some (.iload_n 1, 1, [], []) := zz_fetch_of p132 rfl rfl
theorem s132_29 : zz_Run zz_prog d 132 (29, [l0, some (.int v), l2, l3, l4, l5, l6, l7, l8, l9], st, k, h) = zz_Run zz_prog d 132 (30, [l0, some (.int v), l2, l3, l4, l5, l6, l7, l8, l9], .int v :: st, k, h) := zz_k_num f132_29 rfl
theorem f132_30 : zz_fetch zz_prog 132 30 = some (.aload_n 0, 1, [], []) := zz_fetch_of p132 rfl rfl
theorem s132_30 : zz_Run zz_prog d 132 (30, [some (.ref a), l1, l2, l3, l4, l5, l6, l7, l8, l9], st, k, h) = zz_Run zz_prog d 132 (31, [some (.ref a), l1, l2, l3, l4, l5, l6, l7, l8, l9], .ref a :: st, k, h) := zz_k_num f132_30 rfl
theorem f132_31 : zz_fetch zz_prog 132 31 = some (.getfield 7, 3, [2, 1, 3], []) := zz_fetch_of p132 rfl rfl
theorem s132_31 : zz_Run zz_prog d 132 (31, [l0, l1, l2, l3, l4, l5, l6, l7, l8, l9], .ref 23 :: st, k, (zz_hp n I J ex)) = zz_Run zz_prog d 132 (34, [l0, l1, l2, l3, l4, l5, l6, l7, l8, l9], .ref 24 :: st, k, (zz_hp n I J ex)) := zz_k_go f132_31 rfl rfl rfl
theorem f132_34 : zz_fetch zz_prog 132 34 = some (.sipush 182, 3, [], []) := zz_fetch_of p132 rfl rfl
theorem s132_34 : zz_Run zz_prog d 132 (34, [l0, l1, l2, l3, l4, l5, l6, l7, l8, l9], st, k, h) = zz_Run zz_prog d 132 (37, [l0, l1, l2, l3, l4, l5, l6, l7, l8, l9], .int 182 :: st, k, h) := zz_k_num f132_34 (congrArg (fun u => some (37, [l0, l1, l2, l3, l4, l5, l6, l7, l8, l9], Value.int u :: st)) (by decide : (Int16.ofInt 182).toInt32 = 182))
theorem f132_37 : zz_fetch zz_prog 132 37 = some (.iaload, 1, [], []) := zz_fetch_of p132 rfl rfl
theorem s132_37 (ha : zz_isrd a = true) : zz_Run zz_prog d 132 (37, [l0, l1, l2, l3, l4, l5, l6, l7, l8, l9], .int v :: .ref a :: st, k, (zz_hp n I J ex)) = zz_ck (zz_in v (zz_ary n a)) (zz_Run zz_prog d 132 (38, [l0, l1, l2, l3, l4, l5, l6, l7, l8, l9], .int (I a v.toNatClampNeg) :: st, k, (zz_hp n I J ex))) := zz_k_iald f132_37 ha
theorem f132_38 : zz_fetch zz_prog 132 38 = some (.if_icmp .eq 7, 3, [45], []) := zz_fetch_of p132 rfl rfl
theorem s132_38 : zz_Run zz_prog d 132 (38, [l0, l1, l2, l3, l4, l5, l6, l7, l8, l9], .int w :: .int v :: st, k, h) = if v = w then zz_Run zz_prog d 132 (45, [l0, l1, l2, l3, l4, l5, l6, l7, l8, l9], st, k, h) else zz_Run zz_prog d 132 (41, [l0, l1, l2, l3, l4, l5, l6, l7, l8, l9], st, k, h) := zz_k_br (v = w) rfl (zz_k_num f132_38 rfl)
theorem f132_41 : zz_fetch zz_prog 132 41 = some (.iload_n 3, 1, [], []) := zz_fetch_of p132 rfl rfl
theorem s132_41 : zz_Run zz_prog d 132 (41, [l0, l1, l2, some (.int v), l4, l5, l6, l7, l8, l9], st, k, h) = zz_Run zz_prog d 132 (42, [l0, l1, l2, some (.int v), l4, l5, l6, l7, l8, l9], .int v :: st, k, h) := zz_k_num f132_41 rfl
theorem f132_42 : zz_fetch zz_prog 132 42 = some (.ifCond .ge 7, 3, [49], []) := zz_fetch_of p132 rfl rfl
theorem s132_42 : zz_Run zz_prog d 132 (42, [l0, l1, l2, l3, l4, l5, l6, l7, l8, l9], .int v :: st, k, h) = if 0 ≤ v then zz_Run zz_prog d 132 (49, [l0, l1, l2, l3, l4, l5, l6, l7, l8, l9], st, k, h) else zz_Run zz_prog d 132 (45, [l0, l1, l2, l3, l4, l5, l6, l7, l8, l9], st, k, h) := zz_k_br (0 ≤ v) rfl (zz_k_num f132_42 rfl)
theorem f132_45 : zz_fetch zz_prog 132 45 = some (.iconst 1, 1, [], []) := zz_fetch_of p132 rfl rfl
theorem s132_45 : zz_Run zz_prog d 132 (45, [l0, l1, l2, l3, l4, l5, l6, l7, l8, l9], st, k, h) = zz_Run zz_prog d 132 (46, [l0, l1, l2, l3, l4, l5, l6, l7, l8, l9], .int 1 :: st, k, h) := zz_k_num f132_45 rfl
theorem f132_46 : zz_fetch zz_prog 132 46 = some (.goto 4, 3, [50], []) := zz_fetch_of p132 rfl rfl
theorem s132_46 : zz_Run zz_prog d 132 (46, [l0, l1, l2, l3, l4, l5, l6, l7, l8, l9], st, k, h) = zz_Run zz_prog d 132 (50, [l0, l1, l2, l3, l4, l5, l6, l7, l8, l9], st, k, h) := zz_k_num f132_46 rfl
theorem f132_49 : zz_fetch zz_prog 132 49 = some (.iconst 0, 1, [], []) := zz_fetch_of p132 rfl rfl
theorem s132_49 : zz_Run zz_prog d 132 (49, [l0, l1, l2, l3, l4, l5, l6, l7, l8, l9], st, k, h) = zz_Run zz_prog d 132 (50, [l0, l1, l2, l3, l4, l5, l6, l7, l8, l9], .int 0 :: st, k, h) := zz_k_num f132_49 rfl
theorem f132_50 : zz_fetch zz_prog 132 50 = some (.istore 5, 2, [], []) := zz_fetch_of p132 rfl rfl
theorem s132_50 : zz_Run zz_prog d 132 (50, [l0, l1, l2, l3, l4, l5, l6, l7, l8, l9], .int v :: st, k, h) = zz_sl l4 (zz_Run zz_prog d 132 (52, [l0, l1, l2, l3, l4, some (.int v), l6, l7, l8, l9], st, k, h)) := zz_k_st (j := 5) (u := .int v) f132_50 rfl (fun q hq => by cases hq) rfl (show 5 < 10 by decide) (by cases l4 <;> rfl) rfl
theorem f132_52 : zz_fetch zz_prog 132 52 = some (.aload_n 0, 1, [], []) := zz_fetch_of p132 rfl rfl
theorem s132_52 : zz_Run zz_prog d 132 (52, [some (.ref a), l1, l2, l3, l4, l5, l6, l7, l8, l9], st, k, h) = zz_Run zz_prog d 132 (53, [some (.ref a), l1, l2, l3, l4, l5, l6, l7, l8, l9], .ref a :: st, k, h) := zz_k_num f132_52 rfl
theorem f132_53 : zz_fetch zz_prog 132 53 = some (.iload 4, 2, [], []) := zz_fetch_of p132 rfl rfl
theorem s132_53 : zz_Run zz_prog d 132 (53, [l0, l1, l2, l3, some (.int v), l5, l6, l7, l8, l9], st, k, h) = zz_Run zz_prog d 132 (55, [l0, l1, l2, l3, some (.int v), l5, l6, l7, l8, l9], .int v :: st, k, h) := zz_k_num f132_53 rfl
theorem f132_55 : zz_fetch zz_prog 132 55 = some (.iload 5, 2, [], []) := zz_fetch_of p132 rfl rfl
theorem s132_55 : zz_Run zz_prog d 132 (55, [l0, l1, l2, l3, l4, some (.int v), l6, l7, l8, l9], st, k, h) = zz_Run zz_prog d 132 (57, [l0, l1, l2, l3, l4, some (.int v), l6, l7, l8, l9], .int v :: st, k, h) := zz_k_num f132_55 rfl
theorem f132_57 : zz_fetch zz_prog 132 57 = some (.ifCond .ne 33, 3, [90], []) := zz_fetch_of p132 rfl rfl
theorem s132_57 : zz_Run zz_prog d 132 (57, [l0, l1, l2, l3, l4, l5, l6, l7, l8, l9], .int v :: st, k, h) = if ¬ v = 0 then zz_Run zz_prog d 132 (90, [l0, l1, l2, l3, l4, l5, l6, l7, l8, l9], st, k, h) else zz_Run zz_prog d 132 (60, [l0, l1, l2, l3, l4, l5, l6, l7, l8, l9], st, k, h) := zz_k_br (¬ v = 0) rfl (zz_k_num f132_57 rfl)
theorem f132_60 : zz_fetch zz_prog 132 60 = some (.iload 4, 2, [], []) := zz_fetch_of p132 rfl rfl
theorem s132_60 : zz_Run zz_prog d 132 (60, [l0, l1, l2, l3, some (.int v), l5, l6, l7, l8, l9], st, k, h) = zz_Run zz_prog d 132 (62, [l0, l1, l2, l3, some (.int v), l5, l6, l7, l8, l9], .int v :: st, k, h) := zz_k_num f132_60 rfl
theorem f132_62 : zz_fetch zz_prog 132 62 = some (.ifCond .ne 32, 3, [94], []) := zz_fetch_of p132 rfl rfl
theorem s132_62 : zz_Run zz_prog d 132 (62, [l0, l1, l2, l3, l4, l5, l6, l7, l8, l9], .int v :: st, k, h) = if ¬ v = 0 then zz_Run zz_prog d 132 (94, [l0, l1, l2, l3, l4, l5, l6, l7, l8, l9], st, k, h) else zz_Run zz_prog d 132 (65, [l0, l1, l2, l3, l4, l5, l6, l7, l8, l9], st, k, h) := zz_k_br (¬ v = 0) rfl (zz_k_num f132_62 rfl)
theorem f132_65 : zz_fetch zz_prog 132 65 = some (.iload_n 2, 1, [], []) := zz_fetch_of p132 rfl rfl
theorem s132_65 : zz_Run zz_prog d 132 (65, [l0, l1, some (.int v), l3, l4, l5, l6, l7, l8, l9], st, k, h) = zz_Run zz_prog d 132 (66, [l0, l1, some (.int v), l3, l4, l5, l6, l7, l8, l9], .int v :: st, k, h) := zz_k_num f132_65 rfl
theorem f132_66 : zz_fetch zz_prog 132 66 = some (.iconst (-1), 1, [], []) := zz_fetch_of p132 rfl rfl
theorem s132_66 : zz_Run zz_prog d 132 (66, [l0, l1, l2, l3, l4, l5, l6, l7, l8, l9], st, k, h) = zz_Run zz_prog d 132 (67, [l0, l1, l2, l3, l4, l5, l6, l7, l8, l9], .int (-1) :: st, k, h) := zz_k_num f132_66 rfl
theorem f132_67 : zz_fetch zz_prog 132 67 = some (.if_icmp .ne 14, 3, [81], []) := zz_fetch_of p132 rfl rfl
theorem s132_67 : zz_Run zz_prog d 132 (67, [l0, l1, l2, l3, l4, l5, l6, l7, l8, l9], .int w :: .int v :: st, k, h) = if ¬ v = w then zz_Run zz_prog d 132 (81, [l0, l1, l2, l3, l4, l5, l6, l7, l8, l9], st, k, h) else zz_Run zz_prog d 132 (70, [l0, l1, l2, l3, l4, l5, l6, l7, l8, l9], st, k, h) := zz_k_br (¬ v = w) rfl (zz_k_num f132_67 rfl)
theorem f132_70 : zz_fetch zz_prog 132 70 = some (.aload_n 0, 1, [], []) := zz_fetch_of p132 rfl rfl
theorem s132_70 : zz_Run zz_prog d 132 (70, [some (.ref a), l1, l2, l3, l4, l5, l6, l7, l8, l9], st, k, h) = zz_Run zz_prog d 132 (71, [some (.ref a), l1, l2, l3, l4, l5, l6, l7, l8, l9], .ref a :: st, k, h) := zz_k_num f132_70 rfl
theorem f132_71 : zz_fetch zz_prog 132 71 = some (.iload_n 1, 1, [], []) := zz_fetch_of p132 rfl rfl
theorem s132_71 : zz_Run zz_prog d 132 (71, [l0, some (.int v), l2, l3, l4, l5, l6, l7, l8, l9], st, k, h) = zz_Run zz_prog d 132 (72, [l0, some (.int v), l2, l3, l4, l5, l6, l7, l8, l9], .int v :: st, k, h) := zz_k_num f132_71 rfl
theorem f132_72 : zz_fetch zz_prog 132 72 = some (.invokevirtual 200, 3, [0, 131, 2, 2], []) := zz_fetch_of p132 rfl rfl
theorem s132_72 : zz_Run zz_prog d 132 (72, [l0, l1, l2, l3, l4, l5, l6, l7, l8, l9], [b0, .ref 23, b2, b3], k, (zz_hp n I J ex)) = zz_ret (zz_Call zz_prog d 131 [.ref 23, b0] (zz_hp n I J ex)) (fun v k' h' => zz_Run zz_prog d 132 (75, [l0, l1, l2, l3, l4, l5, l6, l7, l8, l9], v.toList ++ [b2, b3], k && k', h')) (fun a k' h' => zz_th d 132 72 a [l0, l1, l2, l3, l4, l5, l6, l7, l8, l9] (k && k') h') := zz_k_call f132_72 rfl rfl rfl
theorem f132_75 : zz_fetch zz_prog 132 75 = some (.ifCond .eq 19, 3, [94], []) := zz_fetch_of p132 rfl rfl
theorem s132_75 : zz_Run zz_prog d 132 (75, [l0, l1, l2, l3, l4, l5, l6, l7, l8, l9], .int v :: st, k, h) = if v = 0 then zz_Run zz_prog d 132 (94, [l0, l1, l2, l3, l4, l5, l6, l7, l8, l9], st, k, h) else zz_Run zz_prog d 132 (78, [l0, l1, l2, l3, l4, l5, l6, l7, l8, l9], st, k, h) := zz_k_br (v = 0) rfl (zz_k_num f132_75 rfl)
theorem f132_78 : zz_fetch zz_prog 132 78 = some (.goto 12, 3, [90], []) := zz_fetch_of p132 rfl rfl
theorem s132_78 : zz_Run zz_prog d 132 (78, [l0, l1, l2, l3, l4, l5, l6, l7, l8, l9], st, k, h) = zz_Run zz_prog d 132 (90, [l0, l1, l2, l3, l4, l5, l6, l7, l8, l9], st, k, h) := zz_k_num f132_78 rfl
theorem f132_81 : zz_fetch zz_prog 132 81 = some (.aload_n 0, 1, [], []) := zz_fetch_of p132 rfl rfl
theorem s132_81 : zz_Run zz_prog d 132 (81, [some (.ref a), l1, l2, l3, l4, l5, l6, l7, l8, l9], st, k, h) = zz_Run zz_prog d 132 (82, [some (.ref a), l1, l2, l3, l4, l5, l6, l7, l8, l9], .ref a :: st, k, h) := zz_k_num f132_81 rfl
theorem f132_82 : zz_fetch zz_prog 132 82 = some (.iload_n 2, 1, [], []) := zz_fetch_of p132 rfl rfl
theorem s132_82 : zz_Run zz_prog d 132 (82, [l0, l1, some (.int v), l3, l4, l5, l6, l7, l8, l9], st, k, h) = zz_Run zz_prog d 132 (83, [l0, l1, some (.int v), l3, l4, l5, l6, l7, l8, l9], .int v :: st, k, h) := zz_k_num f132_82 rfl
theorem f132_83 : zz_fetch zz_prog 132 83 = some (.iload_n 1, 1, [], []) := zz_fetch_of p132 rfl rfl
theorem s132_83 : zz_Run zz_prog d 132 (83, [l0, some (.int v), l2, l3, l4, l5, l6, l7, l8, l9], st, k, h) = zz_Run zz_prog d 132 (84, [l0, some (.int v), l2, l3, l4, l5, l6, l7, l8, l9], .int v :: st, k, h) := zz_k_num f132_83 rfl
theorem f132_84 : zz_fetch zz_prog 132 84 = some (.invokevirtual 197, 3, [0, 130, 3, 2], []) := zz_fetch_of p132 rfl rfl
theorem s132_84 : zz_Run zz_prog d 132 (84, [l0, l1, l2, l3, l4, l5, l6, l7, l8, l9], [b0, b1, .ref 23, b3, b4], k, (zz_hp n I J ex)) = zz_ret (zz_Call zz_prog d 130 [.ref 23, b1, b0] (zz_hp n I J ex)) (fun v k' h' => zz_Run zz_prog d 132 (87, [l0, l1, l2, l3, l4, l5, l6, l7, l8, l9], v.toList ++ [b3, b4], k && k', h')) (fun a k' h' => zz_th d 132 84 a [l0, l1, l2, l3, l4, l5, l6, l7, l8, l9] (k && k') h') := zz_k_call f132_84 rfl rfl rfl
theorem f132_87 : zz_fetch zz_prog 132 87 = some (.ifCond .ne 7, 3, [94], []) := zz_fetch_of p132 rfl rfl
theorem s132_87 : zz_Run zz_prog d 132 (87, [l0, l1, l2, l3, l4, l5, l6, l7, l8, l9], .int v :: st, k, h) = if ¬ v = 0 then zz_Run zz_prog d 132 (94, [l0, l1, l2, l3, l4, l5, l6, l7, l8, l9], st, k, h) else zz_Run zz_prog d 132 (90, [l0, l1, l2, l3, l4, l5, l6, l7, l8, l9], st, k, h) := zz_k_br (¬ v = 0) rfl (zz_k_num f132_87 rfl)
theorem f132_90 : zz_fetch zz_prog 132 90 = some (.iconst 1, 1, [], []) := zz_fetch_of p132 rfl rfl
theorem s132_90 : zz_Run zz_prog d 132 (90, [l0, l1, l2, l3, l4, l5, l6, l7, l8, l9], st, k, h) = zz_Run zz_prog d 132 (91, [l0, l1, l2, l3, l4, l5, l6, l7, l8, l9], .int 1 :: st, k, h) := zz_k_num f132_90 rfl
theorem f132_91 : zz_fetch zz_prog 132 91 = some (.goto 4, 3, [95], []) := zz_fetch_of p132 rfl rfl
theorem s132_91 : zz_Run zz_prog d 132 (91, [l0, l1, l2, l3, l4, l5, l6, l7, l8, l9], st, k, h) = zz_Run zz_prog d 132 (95, [l0, l1, l2, l3, l4, l5, l6, l7, l8, l9], st, k, h) := zz_k_num f132_91 rfl
theorem f132_94 : zz_fetch zz_prog 132 94 = some (.iconst 0, 1, [], []) := zz_fetch_of p132 rfl rfl
theorem s132_94 : zz_Run zz_prog d 132 (94, [l0, l1, l2, l3, l4, l5, l6, l7, l8, l9], st, k, h) = zz_Run zz_prog d 132 (95, [l0, l1, l2, l3, l4, l5, l6, l7, l8, l9], .int 0 :: st, k, h) := zz_k_num f132_94 rfl
theorem f132_95 : zz_fetch zz_prog 132 95 = some (.iconst 0, 1, [], []) := zz_fetch_of p132 rfl rfl
theorem s132_95 : zz_Run zz_prog d 132 (95, [l0, l1, l2, l3, l4, l5, l6, l7, l8, l9], st, k, h) = zz_Run zz_prog d 132 (96, [l0, l1, l2, l3, l4, l5, l6, l7, l8, l9], .int 0 :: st, k, h) := zz_k_num f132_95 rfl
theorem f132_96 : zz_fetch zz_prog 132 96 = some (.invokevirtual 89, 3, [0, 95, 4, 2], []) := zz_fetch_of p132 rfl rfl
theorem s132_96 : zz_Run zz_prog d 132 (96, [l0, l1, l2, l3, l4, l5, l6, l7, l8, l9], [b0, b1, b2, .ref 23], k, (zz_hp n I J ex)) = zz_ret (zz_Call zz_prog d 95 [.ref 23, b2, b1, b0] (zz_hp n I J ex)) (fun v k' h' => zz_Run zz_prog d 132 (99, [l0, l1, l2, l3, l4, l5, l6, l7, l8, l9], v.toList ++ [], k && k', h')) (fun a k' h' => zz_th d 132 96 a [l0, l1, l2, l3, l4, l5, l6, l7, l8, l9] (k && k') h') := zz_k_call f132_96 rfl rfl rfl
theorem f132_99 : zz_fetch zz_prog 132 99 = some (.ifCond .eq 5, 3, [104], []) := zz_fetch_of p132 rfl rfl
theorem s132_99 : zz_Run zz_prog d 132 (99, [l0, l1, l2, l3, l4, l5, l6, l7, l8, l9], .int v :: st, k, h) = if v = 0 then zz_Run zz_prog d 132 (104, [l0, l1, l2, l3, l4, l5, l6, l7, l8, l9], st, k, h) else zz_Run zz_prog d 132 (102, [l0, l1, l2, l3, l4, l5, l6, l7, l8, l9], st, k, h) := zz_k_br (v = 0) rfl (zz_k_num f132_99 rfl)
theorem f132_102 : zz_fetch zz_prog 132 102 = some (.iconst 0, 1, [], []) := zz_fetch_of p132 rfl rfl
theorem s132_102 : zz_Run zz_prog d 132 (102, [l0, l1, l2, l3, l4, l5, l6, l7, l8, l9], st, k, h) = zz_Run zz_prog d 132 (103, [l0, l1, l2, l3, l4, l5, l6, l7, l8, l9], .int 0 :: st, k, h) := zz_k_num f132_102 rfl
theorem f132_103 : zz_fetch zz_prog 132 103 = some (.ireturn, 1, [0], []) := zz_fetch_of p132 rfl rfl
theorem s132_103 : zz_Run zz_prog d 132 (103, [l0, l1, l2, l3, l4, l5, l6, l7, l8, l9], [.int v], k, h) = some (.inl (some (.int v)), k, h) := zz_k_stop f132_103 rfl rfl rfl
theorem f132_104 : zz_fetch zz_prog 132 104 = some (.aload_n 0, 1, [], []) := zz_fetch_of p132 rfl rfl
theorem s132_104 : zz_Run zz_prog d 132 (104, [some (.ref a), l1, l2, l3, l4, l5, l6, l7, l8, l9], st, k, h) = zz_Run zz_prog d 132 (105, [some (.ref a), l1, l2, l3, l4, l5, l6, l7, l8, l9], .ref a :: st, k, h) := zz_k_num f132_104 rfl
theorem f132_105 : zz_fetch zz_prog 132 105 = some (.invokevirtual 158, 3, [0, 117, 1, 2], []) := zz_fetch_of p132 rfl rfl
theorem s132_105 : zz_Run zz_prog d 132 (105, [l0, l1, l2, l3, l4, l5, l6, l7, l8, l9], [.ref 23], k, (zz_hp n I J ex)) = zz_ret (zz_Call zz_prog d 117 [.ref 23] (zz_hp n I J ex)) (fun v k' h' => zz_Run zz_prog d 132 (108, [l0, l1, l2, l3, l4, l5, l6, l7, l8, l9], v.toList ++ [], k && k', h')) (fun a k' h' => zz_th d 132 105 a [l0, l1, l2, l3, l4, l5, l6, l7, l8, l9] (k && k') h') := zz_k_call f132_105 rfl rfl rfl
theorem f132_108 : zz_fetch zz_prog 132 108 = some (.aload_n 0, 1, [], []) := zz_fetch_of p132 rfl rfl
theorem s132_108 : zz_Run zz_prog d 132 (108, [some (.ref a), l1, l2, l3, l4, l5, l6, l7, l8, l9], st, k, h) = zz_Run zz_prog d 132 (109, [some (.ref a), l1, l2, l3, l4, l5, l6, l7, l8, l9], .ref a :: st, k, h) := zz_k_num f132_108 rfl
theorem f132_109 : zz_fetch zz_prog 132 109 = some (.getfield 7, 3, [2, 1, 3], []) := zz_fetch_of p132 rfl rfl
theorem s132_109 : zz_Run zz_prog d 132 (109, [l0, l1, l2, l3, l4, l5, l6, l7, l8, l9], .ref 23 :: st, k, (zz_hp n I J ex)) = zz_Run zz_prog d 132 (112, [l0, l1, l2, l3, l4, l5, l6, l7, l8, l9], .ref 24 :: st, k, (zz_hp n I J ex)) := zz_k_go f132_109 rfl rfl rfl
theorem f132_112 : zz_fetch zz_prog 132 112 = some (.sipush 182, 3, [], []) := zz_fetch_of p132 rfl rfl
theorem s132_112 : zz_Run zz_prog d 132 (112, [l0, l1, l2, l3, l4, l5, l6, l7, l8, l9], st, k, h) = zz_Run zz_prog d 132 (115, [l0, l1, l2, l3, l4, l5, l6, l7, l8, l9], .int 182 :: st, k, h) := zz_k_num f132_112 (congrArg (fun u => some (115, [l0, l1, l2, l3, l4, l5, l6, l7, l8, l9], Value.int u :: st)) (by decide : (Int16.ofInt 182).toInt32 = 182))
theorem f132_115 : zz_fetch zz_prog 132 115 = some (.iload_n 1, 1, [], []) := zz_fetch_of p132 rfl rfl
theorem s132_115 : zz_Run zz_prog d 132 (115, [l0, some (.int v), l2, l3, l4, l5, l6, l7, l8, l9], st, k, h) = zz_Run zz_prog d 132 (116, [l0, some (.int v), l2, l3, l4, l5, l6, l7, l8, l9], .int v :: st, k, h) := zz_k_num f132_115 rfl
theorem f132_116 : zz_fetch zz_prog 132 116 = some (.iastore, 1, [], []) := zz_fetch_of p132 rfl rfl
theorem s132_116 (ha : zz_isar a = true) : zz_Run zz_prog d 132 (116, [l0, l1, l2, l3, l4, l5, l6, l7, l8, l9], .int w :: .int v :: .ref a :: st, k, (zz_hp n I J ex)) = zz_ck (zz_in v (zz_ary n a)) (zz_Run zz_prog d 132 (117, [l0, l1, l2, l3, l4, l5, l6, l7, l8, l9], st, false, (zz_hp n (zz_up I a v.toNatClampNeg w) J ex))) := zz_k_iast f132_116 ha
theorem f132_117 : zz_fetch zz_prog 132 117 = some (.iconst (-1), 1, [], []) := zz_fetch_of p132 rfl rfl
theorem s132_117 : zz_Run zz_prog d 132 (117, [l0, l1, l2, l3, l4, l5, l6, l7, l8, l9], st, k, h) = zz_Run zz_prog d 132 (118, [l0, l1, l2, l3, l4, l5, l6, l7, l8, l9], .int (-1) :: st, k, h) := zz_k_num f132_117 rfl
theorem f132_118 : zz_fetch zz_prog 132 118 = some (.istore 6, 2, [], []) := zz_fetch_of p132 rfl rfl
theorem s132_118 : zz_Run zz_prog d 132 (118, [l0, l1, l2, l3, l4, l5, l6, l7, l8, l9], .int v :: st, k, h) = zz_sl l5 (zz_Run zz_prog d 132 (120, [l0, l1, l2, l3, l4, l5, some (.int v), l7, l8, l9], st, k, h)) := zz_k_st (j := 6) (u := .int v) f132_118 rfl (fun q hq => by cases hq) rfl (show 6 < 10 by decide) (by cases l5 <;> rfl) rfl
theorem f132_120 : zz_fetch zz_prog 132 120 = some (.iload_n 2, 1, [], []) := zz_fetch_of p132 rfl rfl
theorem s132_120 : zz_Run zz_prog d 132 (120, [l0, l1, some (.int v), l3, l4, l5, l6, l7, l8, l9], st, k, h) = zz_Run zz_prog d 132 (121, [l0, l1, some (.int v), l3, l4, l5, l6, l7, l8, l9], .int v :: st, k, h) := zz_k_num f132_120 rfl
theorem f132_121 : zz_fetch zz_prog 132 121 = some (.iconst (-1), 1, [], []) := zz_fetch_of p132 rfl rfl
theorem s132_121 : zz_Run zz_prog d 132 (121, [l0, l1, l2, l3, l4, l5, l6, l7, l8, l9], st, k, h) = zz_Run zz_prog d 132 (122, [l0, l1, l2, l3, l4, l5, l6, l7, l8, l9], .int (-1) :: st, k, h) := zz_k_num f132_121 rfl
theorem f132_122 : zz_fetch zz_prog 132 122 = some (.if_icmp .eq 114, 3, [236], []) := zz_fetch_of p132 rfl rfl
theorem s132_122 : zz_Run zz_prog d 132 (122, [l0, l1, l2, l3, l4, l5, l6, l7, l8, l9], .int w :: .int v :: st, k, h) = if v = w then zz_Run zz_prog d 132 (236, [l0, l1, l2, l3, l4, l5, l6, l7, l8, l9], st, k, h) else zz_Run zz_prog d 132 (125, [l0, l1, l2, l3, l4, l5, l6, l7, l8, l9], st, k, h) := zz_k_br (v = w) rfl (zz_k_num f132_122 rfl)
theorem f132_125 : zz_fetch zz_prog 132 125 = some (.iload_n 3, 1, [], []) := zz_fetch_of p132 rfl rfl
theorem s132_125 : zz_Run zz_prog d 132 (125, [l0, l1, l2, some (.int v), l4, l5, l6, l7, l8, l9], st, k, h) = zz_Run zz_prog d 132 (126, [l0, l1, l2, some (.int v), l4, l5, l6, l7, l8, l9], .int v :: st, k, h) := zz_k_num f132_125 rfl
theorem f132_126 : zz_fetch zz_prog 132 126 = some (.aload_n 0, 1, [], []) := zz_fetch_of p132 rfl rfl
theorem s132_126 : zz_Run zz_prog d 132 (126, [some (.ref a), l1, l2, l3, l4, l5, l6, l7, l8, l9], st, k, h) = zz_Run zz_prog d 132 (127, [some (.ref a), l1, l2, l3, l4, l5, l6, l7, l8, l9], .ref a :: st, k, h) := zz_k_num f132_126 rfl
theorem f132_127 : zz_fetch zz_prog 132 127 = some (.iload_n 2, 1, [], []) := zz_fetch_of p132 rfl rfl
theorem s132_127 : zz_Run zz_prog d 132 (127, [l0, l1, some (.int v), l3, l4, l5, l6, l7, l8, l9], st, k, h) = zz_Run zz_prog d 132 (128, [l0, l1, some (.int v), l3, l4, l5, l6, l7, l8, l9], .int v :: st, k, h) := zz_k_num f132_127 rfl
theorem f132_128 : zz_fetch zz_prog 132 128 = some (.invokevirtual 178, 3, [0, 124, 2, 2], []) := zz_fetch_of p132 rfl rfl
theorem s132_128 : zz_Run zz_prog d 132 (128, [l0, l1, l2, l3, l4, l5, l6, l7, l8, l9], [b0, .ref 23, b2], k, (zz_hp n I J ex)) = zz_ret (zz_Call zz_prog d 124 [.ref 23, b0] (zz_hp n I J ex)) (fun v k' h' => zz_Run zz_prog d 132 (131, [l0, l1, l2, l3, l4, l5, l6, l7, l8, l9], v.toList ++ [b2], k && k', h')) (fun a k' h' => zz_th d 132 128 a [l0, l1, l2, l3, l4, l5, l6, l7, l8, l9] (k && k') h') := zz_k_call f132_128 rfl rfl rfl
theorem f132_131 : zz_fetch zz_prog 132 131 = some (.irem, 1, [], []) := zz_fetch_of p132 rfl rfl
theorem s132_131 (hw : ¬ w = 0) : zz_Run zz_prog d 132 (131, [l0, l1, l2, l3, l4, l5, l6, l7, l8, l9], .int w :: .int v :: st, k, h) = zz_Run zz_prog d 132 (132, [l0, l1, l2, l3, l4, l5, l6, l7, l8, l9], .int (v - v / w * w) :: st, k, h) := zz_k_irem f132_131 hw
theorem f132_132 : zz_fetch zz_prog 132 132 = some (.istore 7, 2, [], []) := zz_fetch_of p132 rfl rfl
theorem s132_132 : zz_Run zz_prog d 132 (132, [l0, l1, l2, l3, l4, l5, l6, l7, l8, l9], .int v :: st, k, h) = zz_sl l6 (zz_Run zz_prog d 132 (134, [l0, l1, l2, l3, l4, l5, l6, some (.int v), l8, l9], st, k, h)) := zz_k_st (j := 7) (u := .int v) f132_132 rfl (fun q hq => by cases hq) rfl (show 7 < 10 by decide) (by cases l6 <;> rfl) rfl
theorem f132_134 : zz_fetch zz_prog 132 134 = some (.iconst 0, 1, [], []) := zz_fetch_of p132 rfl rfl
theorem s132_134 : zz_Run zz_prog d 132 (134, [l0, l1, l2, l3, l4, l5, l6, l7, l8, l9], st, k, h) = zz_Run zz_prog d 132 (135, [l0, l1, l2, l3, l4, l5, l6, l7, l8, l9], .int 0 :: st, k, h) := zz_k_num f132_134 rfl
theorem f132_135 : zz_fetch zz_prog 132 135 = some (.istore 8, 2, [], []) := zz_fetch_of p132 rfl rfl
theorem s132_135 : zz_Run zz_prog d 132 (135, [l0, l1, l2, l3, l4, l5, l6, l7, l8, l9], .int v :: st, k, h) = zz_sl l7 (zz_Run zz_prog d 132 (137, [l0, l1, l2, l3, l4, l5, l6, l7, some (.int v), l9], st, k, h)) := zz_k_st (j := 8) (u := .int v) f132_135 rfl (fun q hq => by cases hq) rfl (show 8 < 10 by decide) (by cases l7 <;> rfl) rfl
theorem f132_137 : zz_fetch zz_prog 132 137 = some (.iload 8, 2, [], []) := zz_fetch_of p132 rfl rfl
theorem s132_137 : zz_Run zz_prog d 132 (137, [l0, l1, l2, l3, l4, l5, l6, l7, some (.int v), l9], st, k, h) = zz_Run zz_prog d 132 (139, [l0, l1, l2, l3, l4, l5, l6, l7, some (.int v), l9], .int v :: st, k, h) := zz_k_num f132_137 rfl
theorem f132_139 : zz_fetch zz_prog 132 139 = some (.iconst 5, 1, [], []) := zz_fetch_of p132 rfl rfl
theorem s132_139 : zz_Run zz_prog d 132 (139, [l0, l1, l2, l3, l4, l5, l6, l7, l8, l9], st, k, h) = zz_Run zz_prog d 132 (140, [l0, l1, l2, l3, l4, l5, l6, l7, l8, l9], .int 5 :: st, k, h) := zz_k_num f132_139 rfl
theorem f132_140 : zz_fetch zz_prog 132 140 = some (.if_icmp .ge 53, 3, [193], []) := zz_fetch_of p132 rfl rfl
theorem s132_140 : zz_Run zz_prog d 132 (140, [l0, l1, l2, l3, l4, l5, l6, l7, l8, l9], .int w :: .int v :: st, k, h) = if w ≤ v then zz_Run zz_prog d 132 (193, [l0, l1, l2, l3, l4, l5, l6, l7, l8, l9], st, k, h) else zz_Run zz_prog d 132 (143, [l0, l1, l2, l3, l4, l5, l6, l7, l8, l9], st, k, h) := zz_k_br (w ≤ v) rfl (zz_k_num f132_140 rfl)
theorem f132_143 : zz_fetch zz_prog 132 143 = some (.aload_n 0, 1, [], []) := zz_fetch_of p132 rfl rfl
theorem s132_143 : zz_Run zz_prog d 132 (143, [some (.ref a), l1, l2, l3, l4, l5, l6, l7, l8, l9], st, k, h) = zz_Run zz_prog d 132 (144, [some (.ref a), l1, l2, l3, l4, l5, l6, l7, l8, l9], .ref a :: st, k, h) := zz_k_num f132_143 rfl
theorem f132_144 : zz_fetch zz_prog 132 144 = some (.getfield 7, 3, [2, 1, 3], []) := zz_fetch_of p132 rfl rfl
theorem s132_144 : zz_Run zz_prog d 132 (144, [l0, l1, l2, l3, l4, l5, l6, l7, l8, l9], .ref 23 :: st, k, (zz_hp n I J ex)) = zz_Run zz_prog d 132 (147, [l0, l1, l2, l3, l4, l5, l6, l7, l8, l9], .ref 24 :: st, k, (zz_hp n I J ex)) := zz_k_go f132_144 rfl rfl rfl
theorem f132_147 : zz_fetch zz_prog 132 147 = some (.bipush 126, 2, [], []) := zz_fetch_of p132 rfl rfl
theorem s132_147 : zz_Run zz_prog d 132 (147, [l0, l1, l2, l3, l4, l5, l6, l7, l8, l9], st, k, h) = zz_Run zz_prog d 132 (149, [l0, l1, l2, l3, l4, l5, l6, l7, l8, l9], .int 126 :: st, k, h) := zz_k_num f132_147 (congrArg (fun u => some (149, [l0, l1, l2, l3, l4, l5, l6, l7, l8, l9], Value.int u :: st)) (by decide : (Int8.ofInt 126).toInt32 = 126))
theorem f132_149 : zz_fetch zz_prog 132 149 = some (.iconst 5, 1, [], []) := zz_fetch_of p132 rfl rfl
theorem s132_149 : zz_Run zz_prog d 132 (149, [l0, l1, l2, l3, l4, l5, l6, l7, l8, l9], st, k, h) = zz_Run zz_prog d 132 (150, [l0, l1, l2, l3, l4, l5, l6, l7, l8, l9], .int 5 :: st, k, h) := zz_k_num f132_149 rfl
theorem f132_150 : zz_fetch zz_prog 132 150 = some (.iload_n 2, 1, [], []) := zz_fetch_of p132 rfl rfl
theorem s132_150 : zz_Run zz_prog d 132 (150, [l0, l1, some (.int v), l3, l4, l5, l6, l7, l8, l9], st, k, h) = zz_Run zz_prog d 132 (151, [l0, l1, some (.int v), l3, l4, l5, l6, l7, l8, l9], .int v :: st, k, h) := zz_k_num f132_150 rfl
theorem f132_151 : zz_fetch zz_prog 132 151 = some (.imul, 1, [], []) := zz_fetch_of p132 rfl rfl
theorem s132_151 : zz_Run zz_prog d 132 (151, [l0, l1, l2, l3, l4, l5, l6, l7, l8, l9], .int w :: .int v :: st, k, h) = zz_Run zz_prog d 132 (152, [l0, l1, l2, l3, l4, l5, l6, l7, l8, l9], .int (v * w) :: st, k, h) := zz_k_num f132_151 rfl
theorem f132_152 : zz_fetch zz_prog 132 152 = some (.iadd, 1, [], []) := zz_fetch_of p132 rfl rfl
theorem s132_152 : zz_Run zz_prog d 132 (152, [l0, l1, l2, l3, l4, l5, l6, l7, l8, l9], .int w :: .int v :: st, k, h) = zz_Run zz_prog d 132 (153, [l0, l1, l2, l3, l4, l5, l6, l7, l8, l9], .int (v + w) :: st, k, h) := zz_k_num f132_152 rfl
theorem f132_153 : zz_fetch zz_prog 132 153 = some (.iload 8, 2, [], []) := zz_fetch_of p132 rfl rfl
theorem s132_153 : zz_Run zz_prog d 132 (153, [l0, l1, l2, l3, l4, l5, l6, l7, some (.int v), l9], st, k, h) = zz_Run zz_prog d 132 (155, [l0, l1, l2, l3, l4, l5, l6, l7, some (.int v), l9], .int v :: st, k, h) := zz_k_num f132_153 rfl
theorem f132_155 : zz_fetch zz_prog 132 155 = some (.iadd, 1, [], []) := zz_fetch_of p132 rfl rfl
theorem s132_155 : zz_Run zz_prog d 132 (155, [l0, l1, l2, l3, l4, l5, l6, l7, l8, l9], .int w :: .int v :: st, k, h) = zz_Run zz_prog d 132 (156, [l0, l1, l2, l3, l4, l5, l6, l7, l8, l9], .int (v + w) :: st, k, h) := zz_k_num f132_155 rfl
theorem f132_156 : zz_fetch zz_prog 132 156 = some (.iaload, 1, [], []) := zz_fetch_of p132 rfl rfl
theorem s132_156 (ha : zz_isrd a = true) : zz_Run zz_prog d 132 (156, [l0, l1, l2, l3, l4, l5, l6, l7, l8, l9], .int v :: .ref a :: st, k, (zz_hp n I J ex)) = zz_ck (zz_in v (zz_ary n a)) (zz_Run zz_prog d 132 (157, [l0, l1, l2, l3, l4, l5, l6, l7, l8, l9], .int (I a v.toNatClampNeg) :: st, k, (zz_hp n I J ex))) := zz_k_iald f132_156 ha
theorem f132_157 : zz_fetch zz_prog 132 157 = some (.istore 9, 2, [], []) := zz_fetch_of p132 rfl rfl
theorem s132_157 : zz_Run zz_prog d 132 (157, [l0, l1, l2, l3, l4, l5, l6, l7, l8, l9], .int v :: st, k, h) = zz_sl l8 (zz_Run zz_prog d 132 (159, [l0, l1, l2, l3, l4, l5, l6, l7, l8, some (.int v)], st, k, h)) := zz_k_st (j := 9) (u := .int v) f132_157 rfl (fun q hq => by cases hq) rfl (show 9 < 10 by decide) (by cases l8 <;> rfl) rfl
theorem f132_159 : zz_fetch zz_prog 132 159 = some (.iload 7, 2, [], []) := zz_fetch_of p132 rfl rfl
theorem s132_159 : zz_Run zz_prog d 132 (159, [l0, l1, l2, l3, l4, l5, l6, some (.int v), l8, l9], st, k, h) = zz_Run zz_prog d 132 (161, [l0, l1, l2, l3, l4, l5, l6, some (.int v), l8, l9], .int v :: st, k, h) := zz_k_num f132_159 rfl
theorem f132_161 : zz_fetch zz_prog 132 161 = some (.ifCond .lt 15, 3, [176], []) := zz_fetch_of p132 rfl rfl
theorem s132_161 : zz_Run zz_prog d 132 (161, [l0, l1, l2, l3, l4, l5, l6, l7, l8, l9], .int v :: st, k, h) = if v < 0 then zz_Run zz_prog d 132 (176, [l0, l1, l2, l3, l4, l5, l6, l7, l8, l9], st, k, h) else zz_Run zz_prog d 132 (164, [l0, l1, l2, l3, l4, l5, l6, l7, l8, l9], st, k, h) := zz_k_br (v < 0) rfl (zz_k_num f132_161 rfl)
theorem f132_164 : zz_fetch zz_prog 132 164 = some (.iload 7, 2, [], []) := zz_fetch_of p132 rfl rfl
theorem s132_164 : zz_Run zz_prog d 132 (164, [l0, l1, l2, l3, l4, l5, l6, some (.int v), l8, l9], st, k, h) = zz_Run zz_prog d 132 (166, [l0, l1, l2, l3, l4, l5, l6, some (.int v), l8, l9], .int v :: st, k, h) := zz_k_num f132_164 rfl
theorem f132_166 : zz_fetch zz_prog 132 166 = some (.iload 9, 2, [], []) := zz_fetch_of p132 rfl rfl
theorem s132_166 : zz_Run zz_prog d 132 (166, [l0, l1, l2, l3, l4, l5, l6, l7, l8, some (.int v)], st, k, h) = zz_Run zz_prog d 132 (168, [l0, l1, l2, l3, l4, l5, l6, l7, l8, some (.int v)], .int v :: st, k, h) := zz_k_num f132_166 rfl
theorem f132_168 : zz_fetch zz_prog 132 168 = some (.if_icmp .ge 8, 3, [176], []) := zz_fetch_of p132 rfl rfl
theorem s132_168 : zz_Run zz_prog d 132 (168, [l0, l1, l2, l3, l4, l5, l6, l7, l8, l9], .int w :: .int v :: st, k, h) = if w ≤ v then zz_Run zz_prog d 132 (176, [l0, l1, l2, l3, l4, l5, l6, l7, l8, l9], st, k, h) else zz_Run zz_prog d 132 (171, [l0, l1, l2, l3, l4, l5, l6, l7, l8, l9], st, k, h) := zz_k_br (w ≤ v) rfl (zz_k_num f132_168 rfl)
theorem f132_171 : zz_fetch zz_prog 132 171 = some (.iload 8, 2, [], []) := zz_fetch_of p132 rfl rfl
theorem s132_171 : zz_Run zz_prog d 132 (171, [l0, l1, l2, l3, l4, l5, l6, l7, some (.int v), l9], st, k, h) = zz_Run zz_prog d 132 (173, [l0, l1, l2, l3, l4, l5, l6, l7, some (.int v), l9], .int v :: st, k, h) := zz_k_num f132_171 rfl
theorem f132_173 : zz_fetch zz_prog 132 173 = some (.goto 5, 3, [178], []) := zz_fetch_of p132 rfl rfl
theorem s132_173 : zz_Run zz_prog d 132 (173, [l0, l1, l2, l3, l4, l5, l6, l7, l8, l9], st, k, h) = zz_Run zz_prog d 132 (178, [l0, l1, l2, l3, l4, l5, l6, l7, l8, l9], st, k, h) := zz_k_num f132_173 rfl
theorem f132_176 : zz_fetch zz_prog 132 176 = some (.iload 6, 2, [], []) := zz_fetch_of p132 rfl rfl
theorem s132_176 : zz_Run zz_prog d 132 (176, [l0, l1, l2, l3, l4, l5, some (.int v), l7, l8, l9], st, k, h) = zz_Run zz_prog d 132 (178, [l0, l1, l2, l3, l4, l5, some (.int v), l7, l8, l9], .int v :: st, k, h) := zz_k_num f132_176 rfl
theorem f132_178 : zz_fetch zz_prog 132 178 = some (.istore 6, 2, [], []) := zz_fetch_of p132 rfl rfl
theorem s132_178 : zz_Run zz_prog d 132 (178, [l0, l1, l2, l3, l4, l5, l6, l7, l8, l9], .int v :: st, k, h) = zz_sl l5 (zz_Run zz_prog d 132 (180, [l0, l1, l2, l3, l4, l5, some (.int v), l7, l8, l9], st, k, h)) := zz_k_st (j := 6) (u := .int v) f132_178 rfl (fun q hq => by cases hq) rfl (show 6 < 10 by decide) (by cases l5 <;> rfl) rfl
theorem f132_180 : zz_fetch zz_prog 132 180 = some (.iload 7, 2, [], []) := zz_fetch_of p132 rfl rfl
theorem s132_180 : zz_Run zz_prog d 132 (180, [l0, l1, l2, l3, l4, l5, l6, some (.int v), l8, l9], st, k, h) = zz_Run zz_prog d 132 (182, [l0, l1, l2, l3, l4, l5, l6, some (.int v), l8, l9], .int v :: st, k, h) := zz_k_num f132_180 rfl
theorem f132_182 : zz_fetch zz_prog 132 182 = some (.iload 9, 2, [], []) := zz_fetch_of p132 rfl rfl
theorem s132_182 : zz_Run zz_prog d 132 (182, [l0, l1, l2, l3, l4, l5, l6, l7, l8, some (.int v)], st, k, h) = zz_Run zz_prog d 132 (184, [l0, l1, l2, l3, l4, l5, l6, l7, l8, some (.int v)], .int v :: st, k, h) := zz_k_num f132_182 rfl
theorem f132_184 : zz_fetch zz_prog 132 184 = some (.isub, 1, [], []) := zz_fetch_of p132 rfl rfl
theorem s132_184 : zz_Run zz_prog d 132 (184, [l0, l1, l2, l3, l4, l5, l6, l7, l8, l9], .int w :: .int v :: st, k, h) = zz_Run zz_prog d 132 (185, [l0, l1, l2, l3, l4, l5, l6, l7, l8, l9], .int (v - w) :: st, k, h) := zz_k_num f132_184 rfl
theorem f132_185 : zz_fetch zz_prog 132 185 = some (.istore 7, 2, [], []) := zz_fetch_of p132 rfl rfl
theorem s132_185 : zz_Run zz_prog d 132 (185, [l0, l1, l2, l3, l4, l5, l6, l7, l8, l9], .int v :: st, k, h) = zz_sl l6 (zz_Run zz_prog d 132 (187, [l0, l1, l2, l3, l4, l5, l6, some (.int v), l8, l9], st, k, h)) := zz_k_st (j := 7) (u := .int v) f132_185 rfl (fun q hq => by cases hq) rfl (show 7 < 10 by decide) (by cases l6 <;> rfl) rfl
theorem f132_187 : zz_fetch zz_prog 132 187 = some (.iinc 8 1, 3, [], []) := zz_fetch_of p132 rfl rfl
theorem s132_187 : zz_Run zz_prog d 132 (187, [l0, l1, l2, l3, l4, l5, l6, l7, some (.int v), l9], st, k, h) = zz_sl l7 (zz_Run zz_prog d 132 (190, [l0, l1, l2, l3, l4, l5, l6, l7, some (.int (v + 1)), l9], st, k, h)) := zz_k_st (j := 8) (u := .int (v + 1)) f132_187 rfl (fun q hq => by cases hq) rfl (show 8 < 10 by decide) (by cases l7 <;> rfl) rfl
theorem f132_190 : zz_fetch zz_prog 132 190 = some (.goto (-53), 3, [137], []) := zz_fetch_of p132 rfl rfl
theorem s132_190 : zz_Run zz_prog d 132 (190, [l0, l1, l2, l3, l4, l5, l6, l7, l8, l9], st, k, h) = zz_Run zz_prog d 132 (137, [l0, l1, l2, l3, l4, l5, l6, l7, l8, l9], st, k, h) := zz_k_num f132_190 rfl
theorem f132_193 : zz_fetch zz_prog 132 193 = some (.aload_n 0, 1, [], []) := zz_fetch_of p132 rfl rfl
theorem s132_193 : zz_Run zz_prog d 132 (193, [some (.ref a), l1, l2, l3, l4, l5, l6, l7, l8, l9], st, k, h) = zz_Run zz_prog d 132 (194, [some (.ref a), l1, l2, l3, l4, l5, l6, l7, l8, l9], .ref a :: st, k, h) := zz_k_num f132_193 rfl
theorem f132_194 : zz_fetch zz_prog 132 194 = some (.getfield 7, 3, [2, 1, 3], []) := zz_fetch_of p132 rfl rfl
theorem s132_194 : zz_Run zz_prog d 132 (194, [l0, l1, l2, l3, l4, l5, l6, l7, l8, l9], .ref 23 :: st, k, (zz_hp n I J ex)) = zz_Run zz_prog d 132 (197, [l0, l1, l2, l3, l4, l5, l6, l7, l8, l9], .ref 24 :: st, k, (zz_hp n I J ex)) := zz_k_go f132_194 rfl rfl rfl
theorem f132_197 : zz_fetch zz_prog 132 197 = some (.bipush 126, 2, [], []) := zz_fetch_of p132 rfl rfl
theorem s132_197 : zz_Run zz_prog d 132 (197, [l0, l1, l2, l3, l4, l5, l6, l7, l8, l9], st, k, h) = zz_Run zz_prog d 132 (199, [l0, l1, l2, l3, l4, l5, l6, l7, l8, l9], .int 126 :: st, k, h) := zz_k_num f132_197 (congrArg (fun u => some (199, [l0, l1, l2, l3, l4, l5, l6, l7, l8, l9], Value.int u :: st)) (by decide : (Int8.ofInt 126).toInt32 = 126))
theorem f132_199 : zz_fetch zz_prog 132 199 = some (.iconst 5, 1, [], []) := zz_fetch_of p132 rfl rfl
theorem s132_199 : zz_Run zz_prog d 132 (199, [l0, l1, l2, l3, l4, l5, l6, l7, l8, l9], st, k, h) = zz_Run zz_prog d 132 (200, [l0, l1, l2, l3, l4, l5, l6, l7, l8, l9], .int 5 :: st, k, h) := zz_k_num f132_199 rfl
theorem f132_200 : zz_fetch zz_prog 132 200 = some (.iload_n 2, 1, [], []) := zz_fetch_of p132 rfl rfl
theorem s132_200 : zz_Run zz_prog d 132 (200, [l0, l1, some (.int v), l3, l4, l5, l6, l7, l8, l9], st, k, h) = zz_Run zz_prog d 132 (201, [l0, l1, some (.int v), l3, l4, l5, l6, l7, l8, l9], .int v :: st, k, h) := zz_k_num f132_200 rfl
theorem f132_201 : zz_fetch zz_prog 132 201 = some (.imul, 1, [], []) := zz_fetch_of p132 rfl rfl
theorem s132_201 : zz_Run zz_prog d 132 (201, [l0, l1, l2, l3, l4, l5, l6, l7, l8, l9], .int w :: .int v :: st, k, h) = zz_Run zz_prog d 132 (202, [l0, l1, l2, l3, l4, l5, l6, l7, l8, l9], .int (v * w) :: st, k, h) := zz_k_num f132_201 rfl
theorem f132_202 : zz_fetch zz_prog 132 202 = some (.iadd, 1, [], []) := zz_fetch_of p132 rfl rfl
theorem s132_202 : zz_Run zz_prog d 132 (202, [l0, l1, l2, l3, l4, l5, l6, l7, l8, l9], .int w :: .int v :: st, k, h) = zz_Run zz_prog d 132 (203, [l0, l1, l2, l3, l4, l5, l6, l7, l8, l9], .int (v + w) :: st, k, h) := zz_k_num f132_202 rfl
theorem f132_203 : zz_fetch zz_prog 132 203 = some (.iload 6, 2, [], []) := zz_fetch_of p132 rfl rfl
theorem s132_203 : zz_Run zz_prog d 132 (203, [l0, l1, l2, l3, l4, l5, some (.int v), l7, l8, l9], st, k, h) = zz_Run zz_prog d 132 (205, [l0, l1, l2, l3, l4, l5, some (.int v), l7, l8, l9], .int v :: st, k, h) := zz_k_num f132_203 rfl
theorem f132_205 : zz_fetch zz_prog 132 205 = some (.iadd, 1, [], []) := zz_fetch_of p132 rfl rfl
theorem s132_205 : zz_Run zz_prog d 132 (205, [l0, l1, l2, l3, l4, l5, l6, l7, l8, l9], .int w :: .int v :: st, k, h) = zz_Run zz_prog d 132 (206, [l0, l1, l2, l3, l4, l5, l6, l7, l8, l9], .int (v + w) :: st, k, h) := zz_k_num f132_205 rfl
theorem f132_206 : zz_fetch zz_prog 132 206 = some (.dup2, 1, [], []) := zz_fetch_of p132 rfl rfl
theorem s132_206 : zz_Run zz_prog d 132 (206, [l0, l1, l2, l3, l4, l5, l6, l7, l8, l9], .int v :: .ref a1 :: st, k, h) = zz_Run zz_prog d 132 (207, [l0, l1, l2, l3, l4, l5, l6, l7, l8, l9], .int v :: .ref a1 :: .int v :: .ref a1 :: st, k, h) := zz_k_num f132_206 rfl
theorem f132_207 : zz_fetch zz_prog 132 207 = some (.iaload, 1, [], []) := zz_fetch_of p132 rfl rfl
theorem s132_207 (ha : zz_isrd a = true) : zz_Run zz_prog d 132 (207, [l0, l1, l2, l3, l4, l5, l6, l7, l8, l9], .int v :: .ref a :: st, k, (zz_hp n I J ex)) = zz_ck (zz_in v (zz_ary n a)) (zz_Run zz_prog d 132 (208, [l0, l1, l2, l3, l4, l5, l6, l7, l8, l9], .int (I a v.toNatClampNeg) :: st, k, (zz_hp n I J ex))) := zz_k_iald f132_207 ha
theorem f132_208 : zz_fetch zz_prog 132 208 = some (.iconst 1, 1, [], []) := zz_fetch_of p132 rfl rfl
theorem s132_208 : zz_Run zz_prog d 132 (208, [l0, l1, l2, l3, l4, l5, l6, l7, l8, l9], st, k, h) = zz_Run zz_prog d 132 (209, [l0, l1, l2, l3, l4, l5, l6, l7, l8, l9], .int 1 :: st, k, h) := zz_k_num f132_208 rfl
theorem f132_209 : zz_fetch zz_prog 132 209 = some (.isub, 1, [], []) := zz_fetch_of p132 rfl rfl
theorem s132_209 : zz_Run zz_prog d 132 (209, [l0, l1, l2, l3, l4, l5, l6, l7, l8, l9], .int w :: .int v :: st, k, h) = zz_Run zz_prog d 132 (210, [l0, l1, l2, l3, l4, l5, l6, l7, l8, l9], .int (v - w) :: st, k, h) := zz_k_num f132_209 rfl
theorem f132_210 : zz_fetch zz_prog 132 210 = some (.iastore, 1, [], []) := zz_fetch_of p132 rfl rfl
theorem s132_210 (ha : zz_isar a = true) : zz_Run zz_prog d 132 (210, [l0, l1, l2, l3, l4, l5, l6, l7, l8, l9], .int w :: .int v :: .ref a :: st, k, (zz_hp n I J ex)) = zz_ck (zz_in v (zz_ary n a)) (zz_Run zz_prog d 132 (211, [l0, l1, l2, l3, l4, l5, l6, l7, l8, l9], st, false, (zz_hp n (zz_up I a v.toNatClampNeg w) J ex))) := zz_k_iast f132_210 ha
theorem f132_211 : zz_fetch zz_prog 132 211 = some (.aload_n 0, 1, [], []) := zz_fetch_of p132 rfl rfl
theorem s132_211 : zz_Run zz_prog d 132 (211, [some (.ref a), l1, l2, l3, l4, l5, l6, l7, l8, l9], st, k, h) = zz_Run zz_prog d 132 (212, [some (.ref a), l1, l2, l3, l4, l5, l6, l7, l8, l9], .ref a :: st, k, h) := zz_k_num f132_211 rfl
theorem f132_212 : zz_fetch zz_prog 132 212 = some (.getfield 7, 3, [2, 1, 3], []) := zz_fetch_of p132 rfl rfl
theorem s132_212 : zz_Run zz_prog d 132 (212, [l0, l1, l2, l3, l4, l5, l6, l7, l8, l9], .ref 23 :: st, k, (zz_hp n I J ex)) = zz_Run zz_prog d 132 (215, [l0, l1, l2, l3, l4, l5, l6, l7, l8, l9], .ref 24 :: st, k, (zz_hp n I J ex)) := zz_k_go f132_212 rfl rfl rfl
theorem f132_215 : zz_fetch zz_prog 132 215 = some (.bipush 126, 2, [], []) := zz_fetch_of p132 rfl rfl
theorem s132_215 : zz_Run zz_prog d 132 (215, [l0, l1, l2, l3, l4, l5, l6, l7, l8, l9], st, k, h) = zz_Run zz_prog d 132 (217, [l0, l1, l2, l3, l4, l5, l6, l7, l8, l9], .int 126 :: st, k, h) := zz_k_num f132_215 (congrArg (fun u => some (217, [l0, l1, l2, l3, l4, l5, l6, l7, l8, l9], Value.int u :: st)) (by decide : (Int8.ofInt 126).toInt32 = 126))
theorem f132_217 : zz_fetch zz_prog 132 217 = some (.iconst 5, 1, [], []) := zz_fetch_of p132 rfl rfl
theorem s132_217 : zz_Run zz_prog d 132 (217, [l0, l1, l2, l3, l4, l5, l6, l7, l8, l9], st, k, h) = zz_Run zz_prog d 132 (218, [l0, l1, l2, l3, l4, l5, l6, l7, l8, l9], .int 5 :: st, k, h) := zz_k_num f132_217 rfl
theorem f132_218 : zz_fetch zz_prog 132 218 = some (.aload_n 0, 1, [], []) := zz_fetch_of p132 rfl rfl
theorem s132_218 : zz_Run zz_prog d 132 (218, [some (.ref a), l1, l2, l3, l4, l5, l6, l7, l8, l9], st, k, h) = zz_Run zz_prog d 132 (219, [some (.ref a), l1, l2, l3, l4, l5, l6, l7, l8, l9], .ref a :: st, k, h) := zz_k_num f132_218 rfl
theorem f132_219 : zz_fetch zz_prog 132 219 = some (.getfield 7, 3, [2, 1, 3], []) := zz_fetch_of p132 rfl rfl
theorem s132_219 : zz_Run zz_prog d 132 (219, [l0, l1, l2, l3, l4, l5, l6, l7, l8, l9], .ref 23 :: st, k, (zz_hp n I J ex)) = zz_Run zz_prog d 132 (222, [l0, l1, l2, l3, l4, l5, l6, l7, l8, l9], .ref 24 :: st, k, (zz_hp n I J ex)) := zz_k_go f132_219 rfl rfl rfl
theorem f132_222 : zz_fetch zz_prog 132 222 = some (.sipush 181, 3, [], []) := zz_fetch_of p132 rfl rfl
theorem s132_222 : zz_Run zz_prog d 132 (222, [l0, l1, l2, l3, l4, l5, l6, l7, l8, l9], st, k, h) = zz_Run zz_prog d 132 (225, [l0, l1, l2, l3, l4, l5, l6, l7, l8, l9], .int 181 :: st, k, h) := zz_k_num f132_222 (congrArg (fun u => some (225, [l0, l1, l2, l3, l4, l5, l6, l7, l8, l9], Value.int u :: st)) (by decide : (Int16.ofInt 181).toInt32 = 181))
theorem f132_225 : zz_fetch zz_prog 132 225 = some (.iaload, 1, [], []) := zz_fetch_of p132 rfl rfl
theorem s132_225 (ha : zz_isrd a = true) : zz_Run zz_prog d 132 (225, [l0, l1, l2, l3, l4, l5, l6, l7, l8, l9], .int v :: .ref a :: st, k, (zz_hp n I J ex)) = zz_ck (zz_in v (zz_ary n a)) (zz_Run zz_prog d 132 (226, [l0, l1, l2, l3, l4, l5, l6, l7, l8, l9], .int (I a v.toNatClampNeg) :: st, k, (zz_hp n I J ex))) := zz_k_iald f132_225 ha
theorem f132_226 : zz_fetch zz_prog 132 226 = some (.imul, 1, [], []) := zz_fetch_of p132 rfl rfl
theorem s132_226 : zz_Run zz_prog d 132 (226, [l0, l1, l2, l3, l4, l5, l6, l7, l8, l9], .int w :: .int v :: st, k, h) = zz_Run zz_prog d 132 (227, [l0, l1, l2, l3, l4, l5, l6, l7, l8, l9], .int (v * w) :: st, k, h) := zz_k_num f132_226 rfl
theorem f132_227 : zz_fetch zz_prog 132 227 = some (.iadd, 1, [], []) := zz_fetch_of p132 rfl rfl
theorem s132_227 : zz_Run zz_prog d 132 (227, [l0, l1, l2, l3, l4, l5, l6, l7, l8, l9], .int w :: .int v :: st, k, h) = zz_Run zz_prog d 132 (228, [l0, l1, l2, l3, l4, l5, l6, l7, l8, l9], .int (v + w) :: st, k, h) := zz_k_num f132_227 rfl
theorem f132_228 : zz_fetch zz_prog 132 228 = some (.iload 6, 2, [], []) := zz_fetch_of p132 rfl rfl
theorem s132_228 : zz_Run zz_prog d 132 (228, [l0, l1, l2, l3, l4, l5, some (.int v), l7, l8, l9], st, k, h) = zz_Run zz_prog d 132 (230, [l0, l1, l2, l3, l4, l5, some (.int v), l7, l8, l9], .int v :: st, k, h) := zz_k_num f132_228 rfl
theorem f132_230 : zz_fetch zz_prog 132 230 = some (.iadd, 1, [], []) := zz_fetch_of p132 rfl rfl
theorem s132_230 : zz_Run zz_prog d 132 (230, [l0, l1, l2, l3, l4, l5, l6, l7, l8, l9], .int w :: .int v :: st, k, h) = zz_Run zz_prog d 132 (231, [l0, l1, l2, l3, l4, l5, l6, l7, l8, l9], .int (v + w) :: st, k, h) := zz_k_num f132_230 rfl
theorem f132_231 : zz_fetch zz_prog 132 231 = some (.dup2, 1, [], []) := zz_fetch_of p132 rfl rfl
theorem s132_231 : zz_Run zz_prog d 132 (231, [l0, l1, l2, l3, l4, l5, l6, l7, l8, l9], .int v :: .ref a1 :: st, k, h) = zz_Run zz_prog d 132 (232, [l0, l1, l2, l3, l4, l5, l6, l7, l8, l9], .int v :: .ref a1 :: .int v :: .ref a1 :: st, k, h) := zz_k_num f132_231 rfl
theorem f132_232 : zz_fetch zz_prog 132 232 = some (.iaload, 1, [], []) := zz_fetch_of p132 rfl rfl
theorem s132_232 (ha : zz_isrd a = true) : zz_Run zz_prog d 132 (232, [l0, l1, l2, l3, l4, l5, l6, l7, l8, l9], .int v :: .ref a :: st, k, (zz_hp n I J ex)) = zz_ck (zz_in v (zz_ary n a)) (zz_Run zz_prog d 132 (233, [l0, l1, l2, l3, l4, l5, l6, l7, l8, l9], .int (I a v.toNatClampNeg) :: st, k, (zz_hp n I J ex))) := zz_k_iald f132_232 ha
theorem f132_233 : zz_fetch zz_prog 132 233 = some (.iconst 1, 1, [], []) := zz_fetch_of p132 rfl rfl
theorem s132_233 : zz_Run zz_prog d 132 (233, [l0, l1, l2, l3, l4, l5, l6, l7, l8, l9], st, k, h) = zz_Run zz_prog d 132 (234, [l0, l1, l2, l3, l4, l5, l6, l7, l8, l9], .int 1 :: st, k, h) := zz_k_num f132_233 rfl
theorem f132_234 : zz_fetch zz_prog 132 234 = some (.iadd, 1, [], []) := zz_fetch_of p132 rfl rfl
theorem s132_234 : zz_Run zz_prog d 132 (234, [l0, l1, l2, l3, l4, l5, l6, l7, l8, l9], .int w :: .int v :: st, k, h) = zz_Run zz_prog d 132 (235, [l0, l1, l2, l3, l4, l5, l6, l7, l8, l9], .int (v + w) :: st, k, h) := zz_k_num f132_234 rfl
theorem f132_235 : zz_fetch zz_prog 132 235 = some (.iastore, 1, [], []) := zz_fetch_of p132 rfl rfl
theorem s132_235 (ha : zz_isar a = true) : zz_Run zz_prog d 132 (235, [l0, l1, l2, l3, l4, l5, l6, l7, l8, l9], .int w :: .int v :: .ref a :: st, k, (zz_hp n I J ex)) = zz_ck (zz_in v (zz_ary n a)) (zz_Run zz_prog d 132 (236, [l0, l1, l2, l3, l4, l5, l6, l7, l8, l9], st, false, (zz_hp n (zz_up I a v.toNatClampNeg w) J ex))) := zz_k_iast f132_235 ha
theorem f132_236 : zz_fetch zz_prog 132 236 = some (.aload_n 0, 1, [], []) := zz_fetch_of p132 rfl rfl
theorem s132_236 : zz_Run zz_prog d 132 (236, [some (.ref a), l1, l2, l3, l4, l5, l6, l7, l8, l9], st, k, h) = zz_Run zz_prog d 132 (237, [some (.ref a), l1, l2, l3, l4, l5, l6, l7, l8, l9], .ref a :: st, k, h) := zz_k_num f132_236 rfl
theorem f132_237 : zz_fetch zz_prog 132 237 = some (.getfield 7, 3, [2, 1, 3], []) := zz_fetch_of p132 rfl rfl
theorem s132_237 : zz_Run zz_prog d 132 (237, [l0, l1, l2, l3, l4, l5, l6, l7, l8, l9], .ref 23 :: st, k, (zz_hp n I J ex)) = zz_Run zz_prog d 132 (240, [l0, l1, l2, l3, l4, l5, l6, l7, l8, l9], .ref 24 :: st, k, (zz_hp n I J ex)) := zz_k_go f132_237 rfl rfl rfl
theorem f132_240 : zz_fetch zz_prog 132 240 = some (.sipush 180, 3, [], []) := zz_fetch_of p132 rfl rfl
theorem s132_240 : zz_Run zz_prog d 132 (240, [l0, l1, l2, l3, l4, l5, l6, l7, l8, l9], st, k, h) = zz_Run zz_prog d 132 (243, [l0, l1, l2, l3, l4, l5, l6, l7, l8, l9], .int 180 :: st, k, h) := zz_k_num f132_240 (congrArg (fun u => some (243, [l0, l1, l2, l3, l4, l5, l6, l7, l8, l9], Value.int u :: st)) (by decide : (Int16.ofInt 180).toInt32 = 180))
theorem f132_243 : zz_fetch zz_prog 132 243 = some (.bipush 6, 2, [], []) := zz_fetch_of p132 rfl rfl
theorem s132_243 : zz_Run zz_prog d 132 (243, [l0, l1, l2, l3, l4, l5, l6, l7, l8, l9], st, k, h) = zz_Run zz_prog d 132 (245, [l0, l1, l2, l3, l4, l5, l6, l7, l8, l9], .int 6 :: st, k, h) := zz_k_num f132_243 (congrArg (fun u => some (245, [l0, l1, l2, l3, l4, l5, l6, l7, l8, l9], Value.int u :: st)) (by decide : (Int8.ofInt 6).toInt32 = 6))
theorem f132_245 : zz_fetch zz_prog 132 245 = some (.iastore, 1, [], []) := zz_fetch_of p132 rfl rfl
theorem s132_245 (ha : zz_isar a = true) : zz_Run zz_prog d 132 (245, [l0, l1, l2, l3, l4, l5, l6, l7, l8, l9], .int w :: .int v :: .ref a :: st, k, (zz_hp n I J ex)) = zz_ck (zz_in v (zz_ary n a)) (zz_Run zz_prog d 132 (246, [l0, l1, l2, l3, l4, l5, l6, l7, l8, l9], st, false, (zz_hp n (zz_up I a v.toNatClampNeg w) J ex))) := zz_k_iast f132_245 ha
theorem f132_246 : zz_fetch zz_prog 132 246 = some (.aload_n 0, 1, [], []) := zz_fetch_of p132 rfl rfl
theorem s132_246 : zz_Run zz_prog d 132 (246, [some (.ref a), l1, l2, l3, l4, l5, l6, l7, l8, l9], st, k, h) = zz_Run zz_prog d 132 (247, [some (.ref a), l1, l2, l3, l4, l5, l6, l7, l8, l9], .ref a :: st, k, h) := zz_k_num f132_246 rfl
theorem f132_247 : zz_fetch zz_prog 132 247 = some (.invokevirtual 175, 3, [0, 116, 1, 2], []) := zz_fetch_of p132 rfl rfl
theorem s132_247 : zz_Run zz_prog d 132 (247, [l0, l1, l2, l3, l4, l5, l6, l7, l8, l9], [.ref 23], k, (zz_hp n I J ex)) = zz_ret (zz_Call zz_prog d 116 [.ref 23] (zz_hp n I J ex)) (fun v k' h' => zz_Run zz_prog d 132 (250, [l0, l1, l2, l3, l4, l5, l6, l7, l8, l9], v.toList ++ [], k && k', h')) (fun a k' h' => zz_th d 132 247 a [l0, l1, l2, l3, l4, l5, l6, l7, l8, l9] (k && k') h') := zz_k_call f132_247 rfl rfl rfl
theorem f132_250 : zz_fetch zz_prog 132 250 = some (.iload 6, 2, [], []) := zz_fetch_of p132 rfl rfl
theorem s132_250 : zz_Run zz_prog d 132 (250, [l0, l1, l2, l3, l4, l5, some (.int v), l7, l8, l9], st, k, h) = zz_Run zz_prog d 132 (252, [l0, l1, l2, l3, l4, l5, some (.int v), l7, l8, l9], .int v :: st, k, h) := zz_k_num f132_250 rfl
theorem f132_252 : zz_fetch zz_prog 132 252 = some (.ireturn, 1, [0], []) := zz_fetch_of p132 rfl rfl
theorem s132_252 : zz_Run zz_prog d 132 (252, [l0, l1, l2, l3, l4, l5, l6, l7, l8, l9], [.int v], k, h) = some (.inl (some (.int v)), k, h) := zz_k_stop f132_252 rfl rfl rfl
end S132
