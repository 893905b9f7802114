section S0
variable {d n j : Nat} {l0 : Option Value} {st : List Value} {k : Bool} {h : zz_H} {v w v1 v2 : Int32} {y y1 : Int64} {a a1 a2 : Nat} {b0 b1 b2 b3 b4 b5 b6 b7 b8 : Value} {I : Nat → Nat → Int32} {J : Nat → Nat → Int64} {ex : List (Nat × Nat)}
theorem p0 : zz_prog 0 = some zz_m0 := rfl
theorem e0 (g0 : Nat) : zz_Call zz_prog (d + 1) 0 [.ref g0] h = zz_Run zz_prog d 0 (0, [some (.ref g0)], [], true, h) := rfl
theorem t0 (pc : Nat) (L : List (Option Value)) : zz_th d 0 pc a L k h = some (.inr a, k, h) := zz_th_out p0 rfl
theorem f0_0 : zz_fetch zz_prog 0 0 = some (.aload_n 0, 1, [], []) := zz_fetch_of p0 rfl rfl
theorem s0_0 : zz_Run zz_prog d 0 (0, [some (.ref a)], st, k, h) = zz_Run zz_prog d 0 (1, [some (.ref a)], .ref a :: st, k, h) := zz_k_num f0_0 rfl
theorem f0_1 : zz_fetch zz_prog 0 1 = some (.invokespecial 3, 3, [1], []) := zz_fetch_of p0 rfl rfl
theorem s0_1 : zz_Run zz_prog d 0 (1, [l0], [.ref a], k, h) = zz_Run zz_prog d 0 (4, [l0], [], k, h) := zz_k_bi f0_1 rfl rfl rfl
theorem f0_4 : zz_fetch zz_prog 0 4 = some (.aload_n 0, 1, [], []) := zz_fetch_of p0 rfl rfl
theorem s0_4 : zz_Run zz_prog d 0 (4, [some (.ref a)], st, k, h) = zz_Run zz_prog d 0 (5, [some (.ref a)], .ref a :: st, k, h) := zz_k_num f0_4 rfl
theorem f0_5 : zz_fetch zz_prog 0 5 = some (.bipush 19, 2, [], []) := zz_fetch_of p0 rfl rfl
theorem s0_5 : zz_Run zz_prog d 0 (5, [l0], st, k, h) = zz_Run zz_prog d 0 (7, [l0], .int 19 :: st, k, h) := zz_k_num f0_5 (congrArg (fun u => some (7, [l0], Value.int u :: st)) (by decide : (Int8.ofInt 19).toInt32 = 19))
theorem f0_7 : zz_fetch zz_prog 0 7 = some (.newarray .int, 2, [1], []) := zz_fetch_of p0 rfl rfl
theorem f0_9 : zz_fetch zz_prog 0 9 = some (.putfield 9, 3, [1, 0, 3], []) := zz_fetch_of p0 rfl rfl
theorem f0_12 : zz_fetch zz_prog 0 12 = some (.aload_n 0, 1, [], []) := zz_fetch_of p0 rfl rfl
theorem s0_12 : zz_Run zz_prog d 0 (12, [some (.ref a)], st, k, h) = zz_Run zz_prog d 0 (13, [some (.ref a)], .ref a :: st, k, h) := zz_k_num f0_12 rfl
theorem f0_13 : zz_fetch zz_prog 0 13 = some (.bipush 19, 2, [], []) := zz_fetch_of p0 rfl rfl
theorem s0_13 : zz_Run zz_prog d 0 (13, [l0], st, k, h) = zz_Run zz_prog d 0 (15, [l0], .int 19 :: st, k, h) := zz_k_num f0_13 (congrArg (fun u => some (15, [l0], Value.int u :: st)) (by decide : (Int8.ofInt 19).toInt32 = 19))
theorem f0_15 : zz_fetch zz_prog 0 15 = some (.newarray .int, 2, [1], []) := zz_fetch_of p0 rfl rfl
theorem f0_17 : zz_fetch zz_prog 0 17 = some (.putfield 13, 3, [1, 1, 3], []) := zz_fetch_of p0 rfl rfl
theorem f0_20 : zz_fetch zz_prog 0 20 = some (.aload_n 0, 1, [], []) := zz_fetch_of p0 rfl rfl
theorem s0_20 : zz_Run zz_prog d 0 (20, [some (.ref a)], st, k, h) = zz_Run zz_prog d 0 (21, [some (.ref a)], .ref a :: st, k, h) := zz_k_num f0_20 rfl
theorem f0_21 : zz_fetch zz_prog 0 21 = some (.bipush 54, 2, [], []) := zz_fetch_of p0 rfl rfl
theorem s0_21 : zz_Run zz_prog d 0 (21, [l0], st, k, h) = zz_Run zz_prog d 0 (23, [l0], .int 54 :: st, k, h) := zz_k_num f0_21 (congrArg (fun u => some (23, [l0], Value.int u :: st)) (by decide : (Int8.ofInt 54).toInt32 = 54))
theorem f0_23 : zz_fetch zz_prog 0 23 = some (.newarray .int, 2, [1], []) := zz_fetch_of p0 rfl rfl
theorem f0_25 : zz_fetch zz_prog 0 25 = some (.putfield 16, 3, [1, 2, 3], []) := zz_fetch_of p0 rfl rfl
theorem f0_28 : zz_fetch zz_prog 0 28 = some (.aload_n 0, 1, [], []) := zz_fetch_of p0 rfl rfl
theorem s0_28 : zz_Run zz_prog d 0 (28, [some (.ref a)], st, k, h) = zz_Run zz_prog d 0 (29, [some (.ref a)], .ref a :: st, k, h) := zz_k_num f0_28 rfl
theorem f0_29 : zz_fetch zz_prog 0 29 = some (.getfield 9, 3, [1, 0, 3], []) := zz_fetch_of p0 rfl rfl
theorem f0_32 : zz_fetch zz_prog 0 32 = some (.iconst 5, 1, [], []) := zz_fetch_of p0 rfl rfl
theorem s0_32 : zz_Run zz_prog d 0 (32, [l0], st, k, h) = zz_Run zz_prog d 0 (33, [l0], .int 5 :: st, k, h) := zz_k_num f0_32 rfl
theorem f0_33 : zz_fetch zz_prog 0 33 = some (.invokestatic 19, 3, [0, 178, 2], []) := zz_fetch_of p0 rfl rfl
theorem s0_33 : zz_Run zz_prog d 0 (33, [l0], [b0, b1], k, h) = zz_ret (zz_Call zz_prog d 178 [b1, b0] h) (fun v k' h' => zz_Run zz_prog d 0 (36, [l0], v.toList ++ [], k && k', h')) (fun a k' h' => zz_th d 0 33 a [l0] (k && k') h') := zz_k_call f0_33 rfl rfl rfl
theorem f0_36 : zz_fetch zz_prog 0 36 = some (.aload_n 0, 1, [], []) := zz_fetch_of p0 rfl rfl
theorem s0_36 : zz_Run zz_prog d 0 (36, [some (.ref a)], st, k, h) = zz_Run zz_prog d 0 (37, [some (.ref a)], .ref a :: st, k, h) := zz_k_num f0_36 rfl
theorem f0_37 : zz_fetch zz_prog 0 37 = some (.getfield 16, 3, [1, 2, 3], []) := zz_fetch_of p0 rfl rfl
theorem f0_40 : zz_fetch zz_prog 0 40 = some (.iconst (-1), 1, [], []) := zz_fetch_of p0 rfl rfl
theorem s0_40 : zz_Run zz_prog d 0 (40, [l0], st, k, h) = zz_Run zz_prog d 0 (41, [l0], .int (-1) :: st, k, h) := zz_k_num f0_40 rfl
theorem f0_41 : zz_fetch zz_prog 0 41 = some (.invokestatic 19, 3, [0, 178, 2], []) := zz_fetch_of p0 rfl rfl
theorem s0_41 : zz_Run zz_prog d 0 (41, [l0], [b0, b1], k, h) = zz_ret (zz_Call zz_prog d 178 [b1, b0] h) (fun v k' h' => zz_Run zz_prog d 0 (44, [l0], v.toList ++ [], k && k', h')) (fun a k' h' => zz_th d 0 41 a [l0] (k && k') h') := zz_k_call f0_41 rfl rfl rfl
theorem f0_44 : zz_fetch zz_prog 0 44 = some (.aload_n 0, 1, [], []) := zz_fetch_of p0 rfl rfl
theorem s0_44 : zz_Run zz_prog d 0 (44, [some (.ref a)], st, k, h) = zz_Run zz_prog d 0 (45, [some (.ref a)], .ref a :: st, k, h) := zz_k_num f0_44 rfl
theorem f0_45 : zz_fetch zz_prog 0 45 = some (.new 25, 3, [0, 0], []) := zz_fetch_of p0 rfl rfl
theorem f0_48 : zz_fetch zz_prog 0 48 = some (.dup, 1, [], []) := zz_fetch_of p0 rfl rfl
theorem s0_48 : zz_Run zz_prog d 0 (48, [l0], .ref a :: st, k, h) = zz_Run zz_prog d 0 (49, [l0], .ref a :: .ref a :: st, k, h) := zz_k_num f0_48 rfl
theorem f0_49 : zz_fetch zz_prog 0 49 = some (.invokespecial 27, 3, [0, 155, 1, 0], []) := zz_fetch_of p0 rfl rfl
theorem f0_52 : zz_fetch zz_prog 0 52 = some (.putfield 28, 3, [1, 7, 3], []) := zz_fetch_of p0 rfl rfl
theorem f0_55 : zz_fetch zz_prog 0 55 = some (.aload_n 0, 1, [], []) := zz_fetch_of p0 rfl rfl
theorem s0_55 : zz_Run zz_prog d 0 (55, [some (.ref a)], st, k, h) = zz_Run zz_prog d 0 (56, [some (.ref a)], .ref a :: st, k, h) := zz_k_num f0_55 rfl
theorem f0_56 : zz_fetch zz_prog 0 56 = some (.new 25, 3, [0, 0], []) := zz_fetch_of p0 rfl rfl
theorem f0_59 : zz_fetch zz_prog 0 59 = some (.dup, 1, [], []) := zz_fetch_of p0 rfl rfl
theorem s0_59 : zz_Run zz_prog d 0 (59, [l0], .ref a :: st, k, h) = zz_Run zz_prog d 0 (60, [l0], .ref a :: .ref a :: st, k, h) := zz_k_num f0_59 rfl
theorem f0_60 : zz_fetch zz_prog 0 60 = some (.invokespecial 27, 3, [0, 155, 1, 0], []) := zz_fetch_of p0 rfl rfl
theorem f0_63 : zz_fetch zz_prog 0 63 = some (.putfield 32, 3, [1, 8, 3], []) := zz_fetch_of p0 rfl rfl
theorem f0_66 : zz_fetch zz_prog 0 66 = some (.return_, 1, [], []) := zz_fetch_of p0 rfl rfl
theorem s0_66 : zz_Run zz_prog d 0 (66, [l0], [], k, h) = some (.inl none, k, h) := zz_k_stop f0_66 rfl rfl rfl
end S0
section S155
variable {d n j : Nat} {l0 l1 : Option Value} {st : List Value} {k : Bool} {h : zz_H} {v w v1 v2 : Int32} {y y1 : Int64} {a a1 a2 : Nat} {b0 b1 b2 b3 b4 b5 b6 b7 b8 : Value} {I : Nat → Nat → Int32} {J : Nat → Nat → Int64} {ex : List (Nat × Nat)}
theorem p155 : zz_prog 155 = some zz_m155 := rfl
theorem e155 (g0 : Nat) : zz_Call zz_prog (d + 1) 155 [.ref g0] h = zz_Run zz_prog d 155 (0, [some (.ref g0), none], [], true, h) := rfl
theorem t155 (pc : Nat) (L : List (Option Value)) : zz_th d 155 pc a L k h = some (.inr a, k, h) := zz_th_out p155 rfl
theorem f155_0 : zz_fetch zz_prog 155 0 = some (.aload_n 0, 1, [], []) := zz_fetch_of p155 rfl rfl
theorem s155_0 : zz_Run zz_prog d 155 (0, [some (.ref a), l1], st, k, h) = zz_Run zz_prog d 155 (1, [some (.ref a), l1], .ref a :: st, k, h) := zz_k_num f155_0 rfl
theorem f155_1 : zz_fetch zz_prog 155 1 = some (.invokespecial 3, 3, [1], []) := zz_fetch_of p155 rfl rfl
theorem s155_1 : zz_Run zz_prog d 155 (1, [l0, l1], [.ref a], k, h) = zz_Run zz_prog d 155 (4, [l0, l1], [], k, h) := zz_k_bi f155_1 rfl rfl rfl
theorem f155_4 : zz_fetch zz_prog 155 4 = some (.aload_n 0, 1, [], []) := zz_fetch_of p155 rfl rfl
theorem s155_4 : zz_Run zz_prog d 155 (4, [some (.ref a), l1], st, k, h) = zz_Run zz_prog d 155 (5, [some (.ref a), l1], .ref a :: st, k, h) := zz_k_num f155_4 rfl
theorem f155_5 : zz_fetch zz_prog 155 5 = some (.iconst 0, 1, [], []) := zz_fetch_of p155 rfl rfl
theorem s155_5 : zz_Run zz_prog d 155 (5, [l0, l1], st, k, h) = zz_Run zz_prog d 155 (6, [l0, l1], .int 0 :: st, k, h) := zz_k_num f155_5 rfl
theorem f155_6 : zz_fetch zz_prog 155 6 = some (.putfield 9, 3, [0, 0, 0], []) := zz_fetch_of p155 rfl rfl
theorem f155_9 : zz_fetch zz_prog 155 9 = some (.aload_n 0, 1, [], []) := zz_fetch_of p155 rfl rfl
theorem s155_9 : zz_Run zz_prog d 155 (9, [some (.ref a), l1], st, k, h) = zz_Run zz_prog d 155 (10, [some (.ref a), l1], .ref a :: st, k, h) := zz_k_num f155_9 rfl
theorem f155_10 : zz_fetch zz_prog 155 10 = some (.iconst (-1), 1, [], []) := zz_fetch_of p155 rfl rfl
theorem s155_10 : zz_Run zz_prog d 155 (10, [l0, l1], st, k, h) = zz_Run zz_prog d 155 (11, [l0, l1], .int (-1) :: st, k, h) := zz_k_num f155_10 rfl
theorem f155_11 : zz_fetch zz_prog 155 11 = some (.putfield 15, 3, [0, 1, 0], []) := zz_fetch_of p155 rfl rfl
theorem f155_14 : zz_fetch zz_prog 155 14 = some (.aload_n 0, 1, [], []) := zz_fetch_of p155 rfl rfl
theorem s155_14 : zz_Run zz_prog d 155 (14, [some (.ref a), l1], st, k, h) = zz_Run zz_prog d 155 (15, [some (.ref a), l1], .ref a :: st, k, h) := zz_k_num f155_14 rfl
theorem f155_15 : zz_fetch zz_prog 155 15 = some (.iconst (-1), 1, [], []) := zz_fetch_of p155 rfl rfl
theorem s155_15 : zz_Run zz_prog d 155 (15, [l0, l1], st, k, h) = zz_Run zz_prog d 155 (16, [l0, l1], .int (-1) :: st, k, h) := zz_k_num f155_15 rfl
theorem f155_16 : zz_fetch zz_prog 155 16 = some (.putfield 18, 3, [0, 3, 0], []) := zz_fetch_of p155 rfl rfl
theorem f155_19 : zz_fetch zz_prog 155 19 = some (.aload_n 0, 1, [], []) := zz_fetch_of p155 rfl rfl
theorem s155_19 : zz_Run zz_prog d 155 (19, [some (.ref a), l1], st, k, h) = zz_Run zz_prog d 155 (20, [some (.ref a), l1], .ref a :: st, k, h) := zz_k_num f155_19 rfl
theorem f155_20 : zz_fetch zz_prog 155 20 = some (.iconst (-1), 1, [], []) := zz_fetch_of p155 rfl rfl
theorem s155_20 : zz_Run zz_prog d 155 (20, [l0, l1], st, k, h) = zz_Run zz_prog d 155 (21, [l0, l1], .int (-1) :: st, k, h) := zz_k_num f155_20 rfl
theorem f155_21 : zz_fetch zz_prog 155 21 = some (.putfield 21, 3, [0, 4, 0], []) := zz_fetch_of p155 rfl rfl
theorem f155_24 : zz_fetch zz_prog 155 24 = some (.aload_n 0, 1, [], []) := zz_fetch_of p155 rfl rfl
theorem s155_24 : zz_Run zz_prog d 155 (24, [some (.ref a), l1], st, k, h) = zz_Run zz_prog d 155 (25, [some (.ref a), l1], .ref a :: st, k, h) := zz_k_num f155_24 rfl
theorem f155_25 : zz_fetch zz_prog 155 25 = some (.iconst (-1), 1, [], []) := zz_fetch_of p155 rfl rfl
theorem s155_25 : zz_Run zz_prog d 155 (25, [l0, l1], st, k, h) = zz_Run zz_prog d 155 (26, [l0, l1], .int (-1) :: st, k, h) := zz_k_num f155_25 rfl
theorem f155_26 : zz_fetch zz_prog 155 26 = some (.putfield 24, 3, [0, 7, 0], []) := zz_fetch_of p155 rfl rfl
theorem f155_29 : zz_fetch zz_prog 155 29 = some (.aload_n 0, 1, [], []) := zz_fetch_of p155 rfl rfl
theorem s155_29 : zz_Run zz_prog d 155 (29, [some (.ref a), l1], st, k, h) = zz_Run zz_prog d 155 (30, [some (.ref a), l1], .ref a :: st, k, h) := zz_k_num f155_29 rfl
theorem f155_30 : zz_fetch zz_prog 155 30 = some (.iconst (-1), 1, [], []) := zz_fetch_of p155 rfl rfl
theorem s155_30 : zz_Run zz_prog d 155 (30, [l0, l1], st, k, h) = zz_Run zz_prog d 155 (31, [l0, l1], .int (-1) :: st, k, h) := zz_k_num f155_30 rfl
theorem f155_31 : zz_fetch zz_prog 155 31 = some (.putfield 27, 3, [0, 10, 0], []) := zz_fetch_of p155 rfl rfl
theorem f155_34 : zz_fetch zz_prog 155 34 = some (.aload_n 0, 1, [], []) := zz_fetch_of p155 rfl rfl
theorem s155_34 : zz_Run zz_prog d 155 (34, [some (.ref a), l1], st, k, h) = zz_Run zz_prog d 155 (35, [some (.ref a), l1], .ref a :: st, k, h) := zz_k_num f155_34 rfl
theorem f155_35 : zz_fetch zz_prog 155 35 = some (.bipush 72, 2, [], []) := zz_fetch_of p155 rfl rfl
theorem s155_35 : zz_Run zz_prog d 155 (35, [l0, l1], st, k, h) = zz_Run zz_prog d 155 (37, [l0, l1], .int 72 :: st, k, h) := zz_k_num f155_35 (congrArg (fun u => some (37, [l0, l1], Value.int u :: st)) (by decide : (Int8.ofInt 72).toInt32 = 72))
theorem f155_37 : zz_fetch zz_prog 155 37 = some (.newarray .int, 2, [1], []) := zz_fetch_of p155 rfl rfl
theorem f155_39 : zz_fetch zz_prog 155 39 = some (.putfield 30, 3, [0, 12, 3], []) := zz_fetch_of p155 rfl rfl
theorem f155_42 : zz_fetch zz_prog 155 42 = some (.aload_n 0, 1, [], []) := zz_fetch_of p155 rfl rfl
theorem s155_42 : zz_Run zz_prog d 155 (42, [some (.ref a), l1], st, k, h) = zz_Run zz_prog d 155 (43, [some (.ref a), l1], .ref a :: st, k, h) := zz_k_num f155_42 rfl
theorem f155_43 : zz_fetch zz_prog 155 43 = some (.bipush 54, 2, [], []) := zz_fetch_of p155 rfl rfl
theorem s155_43 : zz_Run zz_prog d 155 (43, [l0, l1], st, k, h) = zz_Run zz_prog d 155 (45, [l0, l1], .int 54 :: st, k, h) := zz_k_num f155_43 (congrArg (fun u => some (45, [l0, l1], Value.int u :: st)) (by decide : (Int8.ofInt 54).toInt32 = 54))
theorem f155_45 : zz_fetch zz_prog 155 45 = some (.newarray .int, 2, [1], []) := zz_fetch_of p155 rfl rfl
theorem f155_47 : zz_fetch zz_prog 155 47 = some (.putfield 34, 3, [0, 13, 3], []) := zz_fetch_of p155 rfl rfl
theorem f155_50 : zz_fetch zz_prog 155 50 = some (.aload_n 0, 1, [], []) := zz_fetch_of p155 rfl rfl
theorem s155_50 : zz_Run zz_prog d 155 (50, [some (.ref a), l1], st, k, h) = zz_Run zz_prog d 155 (51, [some (.ref a), l1], .ref a :: st, k, h) := zz_k_num f155_50 rfl
theorem f155_51 : zz_fetch zz_prog 155 51 = some (.bipush 25, 2, [], []) := zz_fetch_of p155 rfl rfl
theorem s155_51 : zz_Run zz_prog d 155 (51, [l0, l1], st, k, h) = zz_Run zz_prog d 155 (53, [l0, l1], .int 25 :: st, k, h) := zz_k_num f155_51 (congrArg (fun u => some (53, [l0, l1], Value.int u :: st)) (by decide : (Int8.ofInt 25).toInt32 = 25))
theorem f155_53 : zz_fetch zz_prog 155 53 = some (.newarray .int, 2, [1], []) := zz_fetch_of p155 rfl rfl
theorem f155_55 : zz_fetch zz_prog 155 55 = some (.putfield 37, 3, [0, 14, 3], []) := zz_fetch_of p155 rfl rfl
theorem f155_58 : zz_fetch zz_prog 155 58 = some (.aload_n 0, 1, [], []) := zz_fetch_of p155 rfl rfl
theorem s155_58 : zz_Run zz_prog d 155 (58, [some (.ref a), l1], st, k, h) = zz_Run zz_prog d 155 (59, [some (.ref a), l1], .ref a :: st, k, h) := zz_k_num f155_58 rfl
theorem f155_59 : zz_fetch zz_prog 155 59 = some (.bipush 20, 2, [], []) := zz_fetch_of p155 rfl rfl
theorem s155_59 : zz_Run zz_prog d 155 (59, [l0, l1], st, k, h) = zz_Run zz_prog d 155 (61, [l0, l1], .int 20 :: st, k, h) := zz_k_num f155_59 (congrArg (fun u => some (61, [l0, l1], Value.int u :: st)) (by decide : (Int8.ofInt 20).toInt32 = 20))
theorem f155_61 : zz_fetch zz_prog 155 61 = some (.newarray .int, 2, [1], []) := zz_fetch_of p155 rfl rfl
theorem f155_63 : zz_fetch zz_prog 155 63 = some (.putfield 40, 3, [0, 15, 3], []) := zz_fetch_of p155 rfl rfl
theorem f155_66 : zz_fetch zz_prog 155 66 = some (.aload_n 0, 1, [], []) := zz_fetch_of p155 rfl rfl
theorem s155_66 : zz_Run zz_prog d 155 (66, [some (.ref a), l1], st, k, h) = zz_Run zz_prog d 155 (67, [some (.ref a), l1], .ref a :: st, k, h) := zz_k_num f155_66 rfl
theorem f155_67 : zz_fetch zz_prog 155 67 = some (.iconst 5, 1, [], []) := zz_fetch_of p155 rfl rfl
theorem s155_67 : zz_Run zz_prog d 155 (67, [l0, l1], st, k, h) = zz_Run zz_prog d 155 (68, [l0, l1], .int 5 :: st, k, h) := zz_k_num f155_67 rfl
theorem f155_68 : zz_fetch zz_prog 155 68 = some (.newarray .int, 2, [1], []) := zz_fetch_of p155 rfl rfl
theorem f155_70 : zz_fetch zz_prog 155 70 = some (.putfield 43, 3, [0, 16, 3], []) := zz_fetch_of p155 rfl rfl
theorem f155_73 : zz_fetch zz_prog 155 73 = some (.aload_n 0, 1, [], []) := zz_fetch_of p155 rfl rfl
theorem s155_73 : zz_Run zz_prog d 155 (73, [some (.ref a), l1], st, k, h) = zz_Run zz_prog d 155 (74, [some (.ref a), l1], .ref a :: st, k, h) := zz_k_num f155_73 rfl
theorem f155_74 : zz_fetch zz_prog 155 74 = some (.iconst 4, 1, [], []) := zz_fetch_of p155 rfl rfl
theorem s155_74 : zz_Run zz_prog d 155 (74, [l0, l1], st, k, h) = zz_Run zz_prog d 155 (75, [l0, l1], .int 4 :: st, k, h) := zz_k_num f155_74 rfl
theorem f155_75 : zz_fetch zz_prog 155 75 = some (.newarray .int, 2, [1], []) := zz_fetch_of p155 rfl rfl
theorem f155_77 : zz_fetch zz_prog 155 77 = some (.putfield 46, 3, [0, 17, 3], []) := zz_fetch_of p155 rfl rfl
theorem f155_80 : zz_fetch zz_prog 155 80 = some (.aload_n 0, 1, [], []) := zz_fetch_of p155 rfl rfl
theorem s155_80 : zz_Run zz_prog d 155 (80, [some (.ref a), l1], st, k, h) = zz_Run zz_prog d 155 (81, [some (.ref a), l1], .ref a :: st, k, h) := zz_k_num f155_80 rfl
theorem f155_81 : zz_fetch zz_prog 155 81 = some (.getfield 30, 3, [0, 12, 3], []) := zz_fetch_of p155 rfl rfl
theorem f155_84 : zz_fetch zz_prog 155 84 = some (.iconst (-1), 1, [], []) := zz_fetch_of p155 rfl rfl
theorem s155_84 : zz_Run zz_prog d 155 (84, [l0, l1], st, k, h) = zz_Run zz_prog d 155 (85, [l0, l1], .int (-1) :: st, k, h) := zz_k_num f155_84 rfl
theorem f155_85 : zz_fetch zz_prog 155 85 = some (.invokestatic 49, 3, [0, 178, 2], []) := zz_fetch_of p155 rfl rfl
theorem s155_85 : zz_Run zz_prog d 155 (85, [l0, l1], [b0, b1], k, h) = zz_ret (zz_Call zz_prog d 178 [b1, b0] h) (fun v k' h' => zz_Run zz_prog d 155 (88, [l0, l1], v.toList ++ [], k && k', h')) (fun a k' h' => zz_th d 155 85 a [l0, l1] (k && k') h') := zz_k_call f155_85 rfl rfl rfl
theorem f155_88 : zz_fetch zz_prog 155 88 = some (.aload_n 0, 1, [], []) := zz_fetch_of p155 rfl rfl
theorem s155_88 : zz_Run zz_prog d 155 (88, [some (.ref a), l1], st, k, h) = zz_Run zz_prog d 155 (89, [some (.ref a), l1], .ref a :: st, k, h) := zz_k_num f155_88 rfl
theorem f155_89 : zz_fetch zz_prog 155 89 = some (.getfield 34, 3, [0, 13, 3], []) := zz_fetch_of p155 rfl rfl
theorem f155_92 : zz_fetch zz_prog 155 92 = some (.iconst (-1), 1, [], []) := zz_fetch_of p155 rfl rfl
theorem s155_92 : zz_Run zz_prog d 155 (92, [l0, l1], st, k, h) = zz_Run zz_prog d 155 (93, [l0, l1], .int (-1) :: st, k, h) := zz_k_num f155_92 rfl
theorem f155_93 : zz_fetch zz_prog 155 93 = some (.invokestatic 49, 3, [0, 178, 2], []) := zz_fetch_of p155 rfl rfl
theorem s155_93 : zz_Run zz_prog d 155 (93, [l0, l1], [b0, b1], k, h) = zz_ret (zz_Call zz_prog d 178 [b1, b0] h) (fun v k' h' => zz_Run zz_prog d 155 (96, [l0, l1], v.toList ++ [], k && k', h')) (fun a k' h' => zz_th d 155 93 a [l0, l1] (k && k') h') := zz_k_call f155_93 rfl rfl rfl
theorem f155_96 : zz_fetch zz_prog 155 96 = some (.iconst 0, 1, [], []) := zz_fetch_of p155 rfl rfl
theorem s155_96 : zz_Run zz_prog d 155 (96, [l0, l1], st, k, h) = zz_Run zz_prog d 155 (97, [l0, l1], .int 0 :: st, k, h) := zz_k_num f155_96 rfl
theorem f155_97 : zz_fetch zz_prog 155 97 = some (.istore_n 1, 1, [], []) := zz_fetch_of p155 rfl rfl
theorem s155_97 : zz_Run zz_prog d 155 (97, [l0, l1], .int v :: st, k, h) = zz_sl l0 (zz_Run zz_prog d 155 (98, [l0, some (.int v)], st, k, h)) := zz_k_st (j := 1) (u := .int v) f155_97 rfl (fun q hq => by cases hq) rfl (show 1 < 2 by decide) (by cases l0 <;> rfl) rfl
theorem f155_98 : zz_fetch zz_prog 155 98 = some (.iload_n 1, 1, [], []) := zz_fetch_of p155 rfl rfl
theorem s155_98 : zz_Run zz_prog d 155 (98, [l0, some (.int v)], st, k, h) = zz_Run zz_prog d 155 (99, [l0, some (.int v)], .int v :: st, k, h) := zz_k_num f155_98 rfl
theorem f155_99 : zz_fetch zz_prog 155 99 = some (.iconst 5, 1, [], []) := zz_fetch_of p155 rfl rfl
theorem s155_99 : zz_Run zz_prog d 155 (99, [l0, l1], st, k, h) = zz_Run zz_prog d 155 (100, [l0, l1], .int 5 :: st, k, h) := zz_k_num f155_99 rfl
theorem f155_100 : zz_fetch zz_prog 155 100 = some (.if_icmp .ge 20, 3, [120], []) := zz_fetch_of p155 rfl rfl
theorem s155_100 : zz_Run zz_prog d 155 (100, [l0, l1], .int w :: .int v :: st, k, h) = if w ≤ v then zz_Run zz_prog d 155 (120, [l0, l1], st, k, h) else zz_Run zz_prog d 155 (103, [l0, l1], st, k, h) := zz_k_br (w ≤ v) rfl (zz_k_num f155_100 rfl)
theorem f155_103 : zz_fetch zz_prog 155 103 = some (.aload_n 0, 1, [], []) := zz_fetch_of p155 rfl rfl
theorem s155_103 : zz_Run zz_prog d 155 (103, [some (.ref a), l1], st, k, h) = zz_Run zz_prog d 155 (104, [some (.ref a), l1], .ref a :: st, k, h) := zz_k_num f155_103 rfl
theorem f155_104 : zz_fetch zz_prog 155 104 = some (.getfield 37, 3, [0, 14, 3], []) := zz_fetch_of p155 rfl rfl
theorem f155_107 : zz_fetch zz_prog 155 107 = some (.bipush 20, 2, [], []) := zz_fetch_of p155 rfl rfl
theorem s155_107 : zz_Run zz_prog d 155 (107, [l0, l1], st, k, h) = zz_Run zz_prog d 155 (109, [l0, l1], .int 20 :: st, k, h) := zz_k_num f155_107 (congrArg (fun u => some (109, [l0, l1], Value.int u :: st)) (by decide : (Int8.ofInt 20).toInt32 = 20))
theorem f155_109 : zz_fetch zz_prog 155 109 = some (.iload_n 1, 1, [], []) := zz_fetch_of p155 rfl rfl
theorem s155_109 : zz_Run zz_prog d 155 (109, [l0, some (.int v)], st, k, h) = zz_Run zz_prog d 155 (110, [l0, some (.int v)], .int v :: st, k, h) := zz_k_num f155_109 rfl
theorem f155_110 : zz_fetch zz_prog 155 110 = some (.iadd, 1, [], []) := zz_fetch_of p155 rfl rfl
theorem s155_110 : zz_Run zz_prog d 155 (110, [l0, l1], .int w :: .int v :: st, k, h) = zz_Run zz_prog d 155 (111, [l0, l1], .int (v + w) :: st, k, h) := zz_k_num f155_110 rfl
theorem f155_111 : zz_fetch zz_prog 155 111 = some (.bipush 19, 2, [], []) := zz_fetch_of p155 rfl rfl
theorem s155_111 : zz_Run zz_prog d 155 (111, [l0, l1], st, k, h) = zz_Run zz_prog d 155 (113, [l0, l1], .int 19 :: st, k, h) := zz_k_num f155_111 (congrArg (fun u => some (113, [l0, l1], Value.int u :: st)) (by decide : (Int8.ofInt 19).toInt32 = 19))
theorem f155_113 : zz_fetch zz_prog 155 113 = some (.iastore, 1, [], []) := zz_fetch_of p155 rfl rfl
theorem f155_114 : zz_fetch zz_prog 155 114 = some (.iinc 1 1, 3, [], []) := zz_fetch_of p155 rfl rfl
theorem s155_114 : zz_Run zz_prog d 155 (114, [l0, some (.int v)], st, k, h) = zz_sl l0 (zz_Run zz_prog d 155 (117, [l0, some (.int (v + 1))], st, k, h)) := zz_k_st (j := 1) (u := .int (v + 1)) f155_114 rfl (fun q hq => by cases hq) rfl (show 1 < 2 by decide) (by cases l0 <;> rfl) rfl
theorem f155_117 : zz_fetch zz_prog 155 117 = some (.goto (-19), 3, [98], []) := zz_fetch_of p155 rfl rfl
theorem s155_117 : zz_Run zz_prog d 155 (117, [l0, l1], st, k, h) = zz_Run zz_prog d 155 (98, [l0, l1], st, k, h) := zz_k_num f155_117 rfl
theorem f155_120 : zz_fetch zz_prog 155 120 = some (.return_, 1, [], []) := zz_fetch_of p155 rfl rfl
theorem s155_120 : zz_Run zz_prog d 155 (120, [l0, l1], [], k, h) = some (.inl none, k, h) := zz_k_stop f155_120 rfl rfl rfl
end S155
section S88
variable {d n j : Nat} {l0 l1 l2 l3 l4 l5 l6 : Option Value} {st : List Value} {k : Bool} {h : zz_H} {v w v1 v2 : Int32} {y y1 : Int64} {a a1 a2 : Nat} {b0 b1 b2 b3 b4 b5 b6 b7 b8 : Value} {I : Nat → Nat → Int32} {J : Nat → Nat → Int64} {ex : List (Nat × Nat)}
theorem p88 : zz_prog 88 = some zz_m88 := rfl
theorem e88 (g0 : Nat) : zz_Call zz_prog (d + 1) 88 [.ref g0] h = zz_Run zz_prog d 88 (0, [some (.ref g0), none, none, none, none, none, none], [], true, h) := rfl
theorem t88 (pc : Nat) (L : List (Option Value)) : zz_th d 88 pc a L k h = some (.inr a, k, h) := zz_th_out p88 rfl
theorem f88_0 : zz_fetch zz_prog 88 0 = some (.aload_n 0, 1, [], []) := zz_fetch_of p88 rfl rfl
theorem s88_0 : zz_Run zz_prog d 88 (0, [some (.ref a), l1, l2, l3, l4, l5, l6], st, k, h) = zz_Run zz_prog d 88 (1, [some (.ref a), l1, l2, l3, l4, l5, l6], .ref a :: st, k, h) := zz_k_num f88_0 rfl
theorem f88_1 : zz_fetch zz_prog 88 1 = some (.invokespecial 1, 3, [1], []) := zz_fetch_of p88 rfl rfl
theorem s88_1 : zz_Run zz_prog d 88 (1, [l0, l1, l2, l3, l4, l5, l6], [.ref a], k, h) = zz_Run zz_prog d 88 (4, [l0, l1, l2, l3, l4, l5, l6], [], k, h) := zz_k_bi f88_1 rfl rfl rfl
theorem f88_4 : zz_fetch zz_prog 88 4 = some (.aload_n 0, 1, [], []) := zz_fetch_of p88 rfl rfl
theorem s88_4 : zz_Run zz_prog d 88 (4, [some (.ref a), l1, l2, l3, l4, l5, l6], st, k, h) = zz_Run zz_prog d 88 (5, [some (.ref a), l1, l2, l3, l4, l5, l6], .ref a :: st, k, h) := zz_k_num f88_4 rfl
theorem f88_5 : zz_fetch zz_prog 88 5 = some (.sipush 193, 3, [], []) := zz_fetch_of p88 rfl rfl
theorem s88_5 : zz_Run zz_prog d 88 (5, [l0, l1, l2, l3, l4, l5, l6], st, k, h) = zz_Run zz_prog d 88 (8, [l0, l1, l2, l3, l4, l5, l6], .int 193 :: st, k, h) := zz_k_num f88_5 (congrArg (fun u => some (8, [l0, l1, l2, l3, l4, l5, l6], Value.int u :: st)) (by decide : (Int16.ofInt 193).toInt32 = 193))
theorem f88_8 : zz_fetch zz_prog 88 8 = some (.newarray .int, 2, [1], []) := zz_fetch_of p88 rfl rfl
theorem f88_10 : zz_fetch zz_prog 88 10 = some (.putfield 7, 3, [2, 1, 3], []) := zz_fetch_of p88 rfl rfl
theorem f88_13 : zz_fetch zz_prog 88 13 = some (.aload_n 0, 1, [], []) := zz_fetch_of p88 rfl rfl
theorem s88_13 : zz_Run zz_prog d 88 (13, [some (.ref a), l1, l2, l3, l4, l5, l6], st, k, h) = zz_Run zz_prog d 88 (14, [some (.ref a), l1, l2, l3, l4, l5, l6], .ref a :: st, k, h) := zz_k_num f88_13 rfl
theorem f88_14 : zz_fetch zz_prog 88 14 = some (.sipush 193, 3, [], []) := zz_fetch_of p88 rfl rfl
theorem s88_14 : zz_Run zz_prog d 88 (14, [l0, l1, l2, l3, l4, l5, l6], st, k, h) = zz_Run zz_prog d 88 (17, [l0, l1, l2, l3, l4, l5, l6], .int 193 :: st, k, h) := zz_k_num f88_14 (congrArg (fun u => some (17, [l0, l1, l2, l3, l4, l5, l6], Value.int u :: st)) (by decide : (Int16.ofInt 193).toInt32 = 193))
theorem f88_17 : zz_fetch zz_prog 88 17 = some (.newarray .int, 2, [1], []) := zz_fetch_of p88 rfl rfl
theorem f88_19 : zz_fetch zz_prog 88 19 = some (.putfield 13, 3, [2, 2, 3], []) := zz_fetch_of p88 rfl rfl
theorem f88_22 : zz_fetch zz_prog 88 22 = some (.aload_n 0, 1, [], []) := zz_fetch_of p88 rfl rfl
theorem s88_22 : zz_Run zz_prog d 88 (22, [some (.ref a), l1, l2, l3, l4, l5, l6], st, k, h) = zz_Run zz_prog d 88 (23, [some (.ref a), l1, l2, l3, l4, l5, l6], .ref a :: st, k, h) := zz_k_num f88_22 rfl
theorem f88_23 : zz_fetch zz_prog 88 23 = some (.bipush 54, 2, [], []) := zz_fetch_of p88 rfl rfl
theorem s88_23 : zz_Run zz_prog d 88 (23, [l0, l1, l2, l3, l4, l5, l6], st, k, h) = zz_Run zz_prog d 88 (25, [l0, l1, l2, l3, l4, l5, l6], .int 54 :: st, k, h) := zz_k_num f88_23 (congrArg (fun u => some (25, [l0, l1, l2, l3, l4, l5, l6], Value.int u :: st)) (by decide : (Int8.ofInt 54).toInt32 = 54))
theorem f88_25 : zz_fetch zz_prog 88 25 = some (.newarray .int, 2, [1], []) := zz_fetch_of p88 rfl rfl
theorem f88_27 : zz_fetch zz_prog 88 27 = some (.putfield 16, 3, [2, 4, 3], []) := zz_fetch_of p88 rfl rfl
theorem f88_30 : zz_fetch zz_prog 88 30 = some (.aload_n 0, 1, [], []) := zz_fetch_of p88 rfl rfl
theorem s88_30 : zz_Run zz_prog d 88 (30, [some (.ref a), l1, l2, l3, l4, l5, l6], st, k, h) = zz_Run zz_prog d 88 (31, [some (.ref a), l1, l2, l3, l4, l5, l6], .ref a :: st, k, h) := zz_k_num f88_30 rfl
theorem f88_31 : zz_fetch zz_prog 88 31 = some (.bipush 54, 2, [], []) := zz_fetch_of p88 rfl rfl
theorem s88_31 : zz_Run zz_prog d 88 (31, [l0, l1, l2, l3, l4, l5, l6], st, k, h) = zz_Run zz_prog d 88 (33, [l0, l1, l2, l3, l4, l5, l6], .int 54 :: st, k, h) := zz_k_num f88_31 (congrArg (fun u => some (33, [l0, l1, l2, l3, l4, l5, l6], Value.int u :: st)) (by decide : (Int8.ofInt 54).toInt32 = 54))
theorem f88_33 : zz_fetch zz_prog 88 33 = some (.newarray .int, 2, [1], []) := zz_fetch_of p88 rfl rfl
theorem f88_35 : zz_fetch zz_prog 88 35 = some (.putfield 19, 3, [2, 5, 3], []) := zz_fetch_of p88 rfl rfl
theorem f88_38 : zz_fetch zz_prog 88 38 = some (.aload_n 0, 1, [], []) := zz_fetch_of p88 rfl rfl
theorem s88_38 : zz_Run zz_prog d 88 (38, [some (.ref a), l1, l2, l3, l4, l5, l6], st, k, h) = zz_Run zz_prog d 88 (39, [some (.ref a), l1, l2, l3, l4, l5, l6], .ref a :: st, k, h) := zz_k_num f88_38 rfl
theorem f88_39 : zz_fetch zz_prog 88 39 = some (.bipush 72, 2, [], []) := zz_fetch_of p88 rfl rfl
theorem s88_39 : zz_Run zz_prog d 88 (39, [l0, l1, l2, l3, l4, l5, l6], st, k, h) = zz_Run zz_prog d 88 (41, [l0, l1, l2, l3, l4, l5, l6], .int 72 :: st, k, h) := zz_k_num f88_39 (congrArg (fun u => some (41, [l0, l1, l2, l3, l4, l5, l6], Value.int u :: st)) (by decide : (Int8.ofInt 72).toInt32 = 72))
theorem f88_41 : zz_fetch zz_prog 88 41 = some (.newarray .int, 2, [1], []) := zz_fetch_of p88 rfl rfl
theorem f88_43 : zz_fetch zz_prog 88 43 = some (.putfield 22, 3, [2, 6, 3], []) := zz_fetch_of p88 rfl rfl
theorem f88_46 : zz_fetch zz_prog 88 46 = some (.aload_n 0, 1, [], []) := zz_fetch_of p88 rfl rfl
theorem s88_46 : zz_Run zz_prog d 88 (46, [some (.ref a), l1, l2, l3, l4, l5, l6], st, k, h) = zz_Run zz_prog d 88 (47, [some (.ref a), l1, l2, l3, l4, l5, l6], .ref a :: st, k, h) := zz_k_num f88_46 rfl
theorem f88_47 : zz_fetch zz_prog 88 47 = some (.bipush 72, 2, [], []) := zz_fetch_of p88 rfl rfl
theorem s88_47 : zz_Run zz_prog d 88 (47, [l0, l1, l2, l3, l4, l5, l6], st, k, h) = zz_Run zz_prog d 88 (49, [l0, l1, l2, l3, l4, l5, l6], .int 72 :: st, k, h) := zz_k_num f88_47 (congrArg (fun u => some (49, [l0, l1, l2, l3, l4, l5, l6], Value.int u :: st)) (by decide : (Int8.ofInt 72).toInt32 = 72))
theorem f88_49 : zz_fetch zz_prog 88 49 = some (.newarray .int, 2, [1], []) := zz_fetch_of p88 rfl rfl
theorem f88_51 : zz_fetch zz_prog 88 51 = some (.putfield 25, 3, [2, 7, 3], []) := zz_fetch_of p88 rfl rfl
theorem f88_54 : zz_fetch zz_prog 88 54 = some (.aload_n 0, 1, [], []) := zz_fetch_of p88 rfl rfl
theorem s88_54 : zz_Run zz_prog d 88 (54, [some (.ref a), l1, l2, l3, l4, l5, l6], st, k, h) = zz_Run zz_prog d 88 (55, [some (.ref a), l1, l2, l3, l4, l5, l6], .ref a :: st, k, h) := zz_k_num f88_54 rfl
theorem f88_55 : zz_fetch zz_prog 88 55 = some (.bipush 114, 2, [], []) := zz_fetch_of p88 rfl rfl
theorem s88_55 : zz_Run zz_prog d 88 (55, [l0, l1, l2, l3, l4, l5, l6], st, k, h) = zz_Run zz_prog d 88 (57, [l0, l1, l2, l3, l4, l5, l6], .int 114 :: st, k, h) := zz_k_num f88_55 (congrArg (fun u => some (57, [l0, l1, l2, l3, l4, l5, l6], Value.int u :: st)) (by decide : (Int8.ofInt 114).toInt32 = 114))
theorem f88_57 : zz_fetch zz_prog 88 57 = some (.newarray .int, 2, [1], []) := zz_fetch_of p88 rfl rfl
theorem f88_59 : zz_fetch zz_prog 88 59 = some (.putfield 28, 3, [2, 8, 3], []) := zz_fetch_of p88 rfl rfl
theorem f88_62 : zz_fetch zz_prog 88 62 = some (.aload_n 0, 1, [], []) := zz_fetch_of p88 rfl rfl
theorem s88_62 : zz_Run zz_prog d 88 (62, [some (.ref a), l1, l2, l3, l4, l5, l6], st, k, h) = zz_Run zz_prog d 88 (63, [some (.ref a), l1, l2, l3, l4, l5, l6], .ref a :: st, k, h) := zz_k_num f88_62 rfl
theorem f88_63 : zz_fetch zz_prog 88 63 = some (.bipush 19, 2, [], []) := zz_fetch_of p88 rfl rfl
theorem s88_63 : zz_Run zz_prog d 88 (63, [l0, l1, l2, l3, l4, l5, l6], st, k, h) = zz_Run zz_prog d 88 (65, [l0, l1, l2, l3, l4, l5, l6], .int 19 :: st, k, h) := zz_k_num f88_63 (congrArg (fun u => some (65, [l0, l1, l2, l3, l4, l5, l6], Value.int u :: st)) (by decide : (Int8.ofInt 19).toInt32 = 19))
theorem f88_65 : zz_fetch zz_prog 88 65 = some (.newarray .int, 2, [1], []) := zz_fetch_of p88 rfl rfl
theorem f88_67 : zz_fetch zz_prog 88 67 = some (.putfield 31, 3, [2, 9, 3], []) := zz_fetch_of p88 rfl rfl
theorem f88_70 : zz_fetch zz_prog 88 70 = some (.aload_n 0, 1, [], []) := zz_fetch_of p88 rfl rfl
theorem s88_70 : zz_Run zz_prog d 88 (70, [some (.ref a), l1, l2, l3, l4, l5, l6], st, k, h) = zz_Run zz_prog d 88 (71, [some (.ref a), l1, l2, l3, l4, l5, l6], .ref a :: st, k, h) := zz_k_num f88_70 rfl
theorem f88_71 : zz_fetch zz_prog 88 71 = some (.bipush 19, 2, [], []) := zz_fetch_of p88 rfl rfl
theorem s88_71 : zz_Run zz_prog d 88 (71, [l0, l1, l2, l3, l4, l5, l6], st, k, h) = zz_Run zz_prog d 88 (73, [l0, l1, l2, l3, l4, l5, l6], .int 19 :: st, k, h) := zz_k_num f88_71 (congrArg (fun u => some (73, [l0, l1, l2, l3, l4, l5, l6], Value.int u :: st)) (by decide : (Int8.ofInt 19).toInt32 = 19))
theorem f88_73 : zz_fetch zz_prog 88 73 = some (.newarray .int, 2, [1], []) := zz_fetch_of p88 rfl rfl
theorem f88_75 : zz_fetch zz_prog 88 75 = some (.putfield 34, 3, [2, 10, 3], []) := zz_fetch_of p88 rfl rfl
theorem f88_78 : zz_fetch zz_prog 88 78 = some (.aload_n 0, 1, [], []) := zz_fetch_of p88 rfl rfl
theorem s88_78 : zz_Run zz_prog d 88 (78, [some (.ref a), l1, l2, l3, l4, l5, l6], st, k, h) = zz_Run zz_prog d 88 (79, [some (.ref a), l1, l2, l3, l4, l5, l6], .ref a :: st, k, h) := zz_k_num f88_78 rfl
theorem f88_79 : zz_fetch zz_prog 88 79 = some (.bipush 9, 2, [], []) := zz_fetch_of p88 rfl rfl
theorem s88_79 : zz_Run zz_prog d 88 (79, [l0, l1, l2, l3, l4, l5, l6], st, k, h) = zz_Run zz_prog d 88 (81, [l0, l1, l2, l3, l4, l5, l6], .int 9 :: st, k, h) := zz_k_num f88_79 (congrArg (fun u => some (81, [l0, l1, l2, l3, l4, l5, l6], Value.int u :: st)) (by decide : (Int8.ofInt 9).toInt32 = 9))
theorem f88_81 : zz_fetch zz_prog 88 81 = some (.newarray .int, 2, [1], []) := zz_fetch_of p88 rfl rfl
theorem f88_83 : zz_fetch zz_prog 88 83 = some (.putfield 37, 3, [2, 12, 3], []) := zz_fetch_of p88 rfl rfl
theorem f88_86 : zz_fetch zz_prog 88 86 = some (.aload_n 0, 1, [], []) := zz_fetch_of p88 rfl rfl
theorem s88_86 : zz_Run zz_prog d 88 (86, [some (.ref a), l1, l2, l3, l4, l5, l6], st, k, h) = zz_Run zz_prog d 88 (87, [some (.ref a), l1, l2, l3, l4, l5, l6], .ref a :: st, k, h) := zz_k_num f88_86 rfl
theorem f88_87 : zz_fetch zz_prog 88 87 = some (.bipush 9, 2, [], []) := zz_fetch_of p88 rfl rfl
theorem s88_87 : zz_Run zz_prog d 88 (87, [l0, l1, l2, l3, l4, l5, l6], st, k, h) = zz_Run zz_prog d 88 (89, [l0, l1, l2, l3, l4, l5, l6], .int 9 :: st, k, h) := zz_k_num f88_87 (congrArg (fun u => some (89, [l0, l1, l2, l3, l4, l5, l6], Value.int u :: st)) (by decide : (Int8.ofInt 9).toInt32 = 9))
theorem f88_89 : zz_fetch zz_prog 88 89 = some (.newarray .int, 2, [1], []) := zz_fetch_of p88 rfl rfl
theorem f88_91 : zz_fetch zz_prog 88 91 = some (.putfield 40, 3, [2, 13, 3], []) := zz_fetch_of p88 rfl rfl
theorem f88_94 : zz_fetch zz_prog 88 94 = some (.aload_n 0, 1, [], []) := zz_fetch_of p88 rfl rfl
theorem s88_94 : zz_Run zz_prog d 88 (94, [some (.ref a), l1, l2, l3, l4, l5, l6], st, k, h) = zz_Run zz_prog d 88 (95, [some (.ref a), l1, l2, l3, l4, l5, l6], .ref a :: st, k, h) := zz_k_num f88_94 rfl
theorem f88_95 : zz_fetch zz_prog 88 95 = some (.bipush 16, 2, [], []) := zz_fetch_of p88 rfl rfl
theorem s88_95 : zz_Run zz_prog d 88 (95, [l0, l1, l2, l3, l4, l5, l6], st, k, h) = zz_Run zz_prog d 88 (97, [l0, l1, l2, l3, l4, l5, l6], .int 16 :: st, k, h) := zz_k_num f88_95 (congrArg (fun u => some (97, [l0, l1, l2, l3, l4, l5, l6], Value.int u :: st)) (by decide : (Int8.ofInt 16).toInt32 = 16))
theorem f88_97 : zz_fetch zz_prog 88 97 = some (.newarray .int, 2, [1], []) := zz_fetch_of p88 rfl rfl
theorem f88_99 : zz_fetch zz_prog 88 99 = some (.putfield 43, 3, [2, 14, 3], []) := zz_fetch_of p88 rfl rfl
theorem f88_102 : zz_fetch zz_prog 88 102 = some (.aload_n 0, 1, [], []) := zz_fetch_of p88 rfl rfl
theorem s88_102 : zz_Run zz_prog d 88 (102, [some (.ref a), l1, l2, l3, l4, l5, l6], st, k, h) = zz_Run zz_prog d 88 (103, [some (.ref a), l1, l2, l3, l4, l5, l6], .ref a :: st, k, h) := zz_k_num f88_102 rfl
theorem f88_103 : zz_fetch zz_prog 88 103 = some (.bipush 20, 2, [], []) := zz_fetch_of p88 rfl rfl
theorem s88_103 : zz_Run zz_prog d 88 (103, [l0, l1, l2, l3, l4, l5, l6], st, k, h) = zz_Run zz_prog d 88 (105, [l0, l1, l2, l3, l4, l5, l6], .int 20 :: st, k, h) := zz_k_num f88_103 (congrArg (fun u => some (105, [l0, l1, l2, l3, l4, l5, l6], Value.int u :: st)) (by decide : (Int8.ofInt 20).toInt32 = 20))
theorem f88_105 : zz_fetch zz_prog 88 105 = some (.newarray .int, 2, [1], []) := zz_fetch_of p88 rfl rfl
theorem f88_107 : zz_fetch zz_prog 88 107 = some (.dup, 1, [], []) := zz_fetch_of p88 rfl rfl
theorem s88_107 : zz_Run zz_prog d 88 (107, [l0, l1, l2, l3, l4, l5, l6], .ref a :: st, k, h) = zz_Run zz_prog d 88 (108, [l0, l1, l2, l3, l4, l5, l6], .ref a :: .ref a :: st, k, h) := zz_k_num f88_107 rfl
theorem f88_108 : zz_fetch zz_prog 88 108 = some (.iconst 0, 1, [], []) := zz_fetch_of p88 rfl rfl
theorem s88_108 : zz_Run zz_prog d 88 (108, [l0, l1, l2, l3, l4, l5, l6], st, k, h) = zz_Run zz_prog d 88 (109, [l0, l1, l2, l3, l4, l5, l6], .int 0 :: st, k, h) := zz_k_num f88_108 rfl
theorem f88_109 : zz_fetch zz_prog 88 109 = some (.iconst 1, 1, [], []) := zz_fetch_of p88 rfl rfl
theorem s88_109 : zz_Run zz_prog d 88 (109, [l0, l1, l2, l3, l4, l5, l6], st, k, h) = zz_Run zz_prog d 88 (110, [l0, l1, l2, l3, l4, l5, l6], .int 1 :: st, k, h) := zz_k_num f88_109 rfl
theorem f88_110 : zz_fetch zz_prog 88 110 = some (.iastore, 1, [], []) := zz_fetch_of p88 rfl rfl
theorem f88_111 : zz_fetch zz_prog 88 111 = some (.dup, 1, [], []) := zz_fetch_of p88 rfl rfl
theorem s88_111 : zz_Run zz_prog d 88 (111, [l0, l1, l2, l3, l4, l5, l6], .ref a :: st, k, h) = zz_Run zz_prog d 88 (112, [l0, l1, l2, l3, l4, l5, l6], .ref a :: .ref a :: st, k, h) := zz_k_num f88_111 rfl
theorem f88_112 : zz_fetch zz_prog 88 112 = some (.iconst 1, 1, [], []) := zz_fetch_of p88 rfl rfl
theorem s88_112 : zz_Run zz_prog d 88 (112, [l0, l1, l2, l3, l4, l5, l6], st, k, h) = zz_Run zz_prog d 88 (113, [l0, l1, l2, l3, l4, l5, l6], .int 1 :: st, k, h) := zz_k_num f88_112 rfl
theorem f88_113 : zz_fetch zz_prog 88 113 = some (.iconst 1, 1, [], []) := zz_fetch_of p88 rfl rfl
theorem s88_113 : zz_Run zz_prog d 88 (113, [l0, l1, l2, l3, l4, l5, l6], st, k, h) = zz_Run zz_prog d 88 (114, [l0, l1, l2, l3, l4, l5, l6], .int 1 :: st, k, h) := zz_k_num f88_113 rfl
theorem f88_114 : zz_fetch zz_prog 88 114 = some (.iastore, 1, [], []) := zz_fetch_of p88 rfl rfl
theorem f88_115 : zz_fetch zz_prog 88 115 = some (.dup, 1, [], []) := zz_fetch_of p88 rfl rfl
theorem s88_115 : zz_Run zz_prog d 88 (115, [l0, l1, l2, l3, l4, l5, l6], .ref a :: st, k, h) = zz_Run zz_prog d 88 (116, [l0, l1, l2, l3, l4, l5, l6], .ref a :: .ref a :: st, k, h) := zz_k_num f88_115 rfl
theorem f88_116 : zz_fetch zz_prog 88 116 = some (.iconst 2, 1, [], []) := zz_fetch_of p88 rfl rfl
theorem s88_116 : zz_Run zz_prog d 88 (116, [l0, l1, l2, l3, l4, l5, l6], st, k, h) = zz_Run zz_prog d 88 (117, [l0, l1, l2, l3, l4, l5, l6], .int 2 :: st, k, h) := zz_k_num f88_116 rfl
theorem f88_117 : zz_fetch zz_prog 88 117 = some (.iconst 0, 1, [], []) := zz_fetch_of p88 rfl rfl
theorem s88_117 : zz_Run zz_prog d 88 (117, [l0, l1, l2, l3, l4, l5, l6], st, k, h) = zz_Run zz_prog d 88 (118, [l0, l1, l2, l3, l4, l5, l6], .int 0 :: st, k, h) := zz_k_num f88_117 rfl
theorem f88_118 : zz_fetch zz_prog 88 118 = some (.iastore, 1, [], []) := zz_fetch_of p88 rfl rfl
theorem f88_119 : zz_fetch zz_prog 88 119 = some (.dup, 1, [], []) := zz_fetch_of p88 rfl rfl
theorem s88_119 : zz_Run zz_prog d 88 (119, [l0, l1, l2, l3, l4, l5, l6], .ref a :: st, k, h) = zz_Run zz_prog d 88 (120, [l0, l1, l2, l3, l4, l5, l6], .ref a :: .ref a :: st, k, h) := zz_k_num f88_119 rfl
theorem f88_120 : zz_fetch zz_prog 88 120 = some (.iconst 3, 1, [], []) := zz_fetch_of p88 rfl rfl
theorem s88_120 : zz_Run zz_prog d 88 (120, [l0, l1, l2, l3, l4, l5, l6], st, k, h) = zz_Run zz_prog d 88 (121, [l0, l1, l2, l3, l4, l5, l6], .int 3 :: st, k, h) := zz_k_num f88_120 rfl
theorem f88_121 : zz_fetch zz_prog 88 121 = some (.iconst 0, 1, [], []) := zz_fetch_of p88 rfl rfl
theorem s88_121 : zz_Run zz_prog d 88 (121, [l0, l1, l2, l3, l4, l5, l6], st, k, h) = zz_Run zz_prog d 88 (122, [l0, l1, l2, l3, l4, l5, l6], .int 0 :: st, k, h) := zz_k_num f88_121 rfl
theorem f88_122 : zz_fetch zz_prog 88 122 = some (.iastore, 1, [], []) := zz_fetch_of p88 rfl rfl
theorem f88_123 : zz_fetch zz_prog 88 123 = some (.dup, 1, [], []) := zz_fetch_of p88 rfl rfl
theorem s88_123 : zz_Run zz_prog d 88 (123, [l0, l1, l2, l3, l4, l5, l6], .ref a :: st, k, h) = zz_Run zz_prog d 88 (124, [l0, l1, l2, l3, l4, l5, l6], .ref a :: .ref a :: st, k, h) := zz_k_num f88_123 rfl
theorem f88_124 : zz_fetch zz_prog 88 124 = some (.iconst 4, 1, [], []) := zz_fetch_of p88 rfl rfl
theorem s88_124 : zz_Run zz_prog d 88 (124, [l0, l1, l2, l3, l4, l5, l6], st, k, h) = zz_Run zz_prog d 88 (125, [l0, l1, l2, l3, l4, l5, l6], .int 4 :: st, k, h) := zz_k_num f88_124 rfl
theorem f88_125 : zz_fetch zz_prog 88 125 = some (.iconst 0, 1, [], []) := zz_fetch_of p88 rfl rfl
theorem s88_125 : zz_Run zz_prog d 88 (125, [l0, l1, l2, l3, l4, l5, l6], st, k, h) = zz_Run zz_prog d 88 (126, [l0, l1, l2, l3, l4, l5, l6], .int 0 :: st, k, h) := zz_k_num f88_125 rfl
theorem f88_126 : zz_fetch zz_prog 88 126 = some (.iastore, 1, [], []) := zz_fetch_of p88 rfl rfl
theorem f88_127 : zz_fetch zz_prog 88 127 = some (.dup, 1, [], []) := zz_fetch_of p88 rfl rfl
theorem s88_127 : zz_Run zz_prog d 88 (127, [l0, l1, l2, l3, l4, l5, l6], .ref a :: st, k, h) = zz_Run zz_prog d 88 (128, [l0, l1, l2, l3, l4, l5, l6], .ref a :: .ref a :: st, k, h) := zz_k_num f88_127 rfl
theorem f88_128 : zz_fetch zz_prog 88 128 = some (.iconst 5, 1, [], []) := zz_fetch_of p88 rfl rfl
theorem s88_128 : zz_Run zz_prog d 88 (128, [l0, l1, l2, l3, l4, l5, l6], st, k, h) = zz_Run zz_prog d 88 (129, [l0, l1, l2, l3, l4, l5, l6], .int 5 :: st, k, h) := zz_k_num f88_128 rfl
theorem f88_129 : zz_fetch zz_prog 88 129 = some (.iconst 1, 1, [], []) := zz_fetch_of p88 rfl rfl
theorem s88_129 : zz_Run zz_prog d 88 (129, [l0, l1, l2, l3, l4, l5, l6], st, k, h) = zz_Run zz_prog d 88 (130, [l0, l1, l2, l3, l4, l5, l6], .int 1 :: st, k, h) := zz_k_num f88_129 rfl
theorem f88_130 : zz_fetch zz_prog 88 130 = some (.iastore, 1, [], []) := zz_fetch_of p88 rfl rfl
theorem f88_131 : zz_fetch zz_prog 88 131 = some (.dup, 1, [], []) := zz_fetch_of p88 rfl rfl
theorem s88_131 : zz_Run zz_prog d 88 (131, [l0, l1, l2, l3, l4, l5, l6], .ref a :: st, k, h) = zz_Run zz_prog d 88 (132, [l0, l1, l2, l3, l4, l5, l6], .ref a :: .ref a :: st, k, h) := zz_k_num f88_131 rfl
theorem f88_132 : zz_fetch zz_prog 88 132 = some (.bipush 6, 2, [], []) := zz_fetch_of p88 rfl rfl
theorem s88_132 : zz_Run zz_prog d 88 (132, [l0, l1, l2, l3, l4, l5, l6], st, k, h) = zz_Run zz_prog d 88 (134, [l0, l1, l2, l3, l4, l5, l6], .int 6 :: st, k, h) := zz_k_num f88_132 (congrArg (fun u => some (134, [l0, l1, l2, l3, l4, l5, l6], Value.int u :: st)) (by decide : (Int8.ofInt 6).toInt32 = 6))
theorem f88_134 : zz_fetch zz_prog 88 134 = some (.iconst 1, 1, [], []) := zz_fetch_of p88 rfl rfl
theorem s88_134 : zz_Run zz_prog d 88 (134, [l0, l1, l2, l3, l4, l5, l6], st, k, h) = zz_Run zz_prog d 88 (135, [l0, l1, l2, l3, l4, l5, l6], .int 1 :: st, k, h) := zz_k_num f88_134 rfl
theorem f88_135 : zz_fetch zz_prog 88 135 = some (.iastore, 1, [], []) := zz_fetch_of p88 rfl rfl
theorem f88_136 : zz_fetch zz_prog 88 136 = some (.dup, 1, [], []) := zz_fetch_of p88 rfl rfl
theorem s88_136 : zz_Run zz_prog d 88 (136, [l0, l1, l2, l3, l4, l5, l6], .ref a :: st, k, h) = zz_Run zz_prog d 88 (137, [l0, l1, l2, l3, l4, l5, l6], .ref a :: .ref a :: st, k, h) := zz_k_num f88_136 rfl
theorem f88_137 : zz_fetch zz_prog 88 137 = some (.bipush 7, 2, [], []) := zz_fetch_of p88 rfl rfl
theorem s88_137 : zz_Run zz_prog d 88 (137, [l0, l1, l2, l3, l4, l5, l6], st, k, h) = zz_Run zz_prog d 88 (139, [l0, l1, l2, l3, l4, l5, l6], .int 7 :: st, k, h) := zz_k_num f88_137 (congrArg (fun u => some (139, [l0, l1, l2, l3, l4, l5, l6], Value.int u :: st)) (by decide : (Int8.ofInt 7).toInt32 = 7))
theorem f88_139 : zz_fetch zz_prog 88 139 = some (.iconst 1, 1, [], []) := zz_fetch_of p88 rfl rfl
theorem s88_139 : zz_Run zz_prog d 88 (139, [l0, l1, l2, l3, l4, l5, l6], st, k, h) = zz_Run zz_prog d 88 (140, [l0, l1, l2, l3, l4, l5, l6], .int 1 :: st, k, h) := zz_k_num f88_139 rfl
theorem f88_140 : zz_fetch zz_prog 88 140 = some (.iastore, 1, [], []) := zz_fetch_of p88 rfl rfl
theorem f88_141 : zz_fetch zz_prog 88 141 = some (.dup, 1, [], []) := zz_fetch_of p88 rfl rfl
theorem s88_141 : zz_Run zz_prog d 88 (141, [l0, l1, l2, l3, l4, l5, l6], .ref a :: st, k, h) = zz_Run zz_prog d 88 (142, [l0, l1, l2, l3, l4, l5, l6], .ref a :: .ref a :: st, k, h) := zz_k_num f88_141 rfl
theorem f88_142 : zz_fetch zz_prog 88 142 = some (.bipush 8, 2, [], []) := zz_fetch_of p88 rfl rfl
theorem s88_142 : zz_Run zz_prog d 88 (142, [l0, l1, l2, l3, l4, l5, l6], st, k, h) = zz_Run zz_prog d 88 (144, [l0, l1, l2, l3, l4, l5, l6], .int 8 :: st, k, h) := zz_k_num f88_142 (congrArg (fun u => some (144, [l0, l1, l2, l3, l4, l5, l6], Value.int u :: st)) (by decide : (Int8.ofInt 8).toInt32 = 8))
theorem f88_144 : zz_fetch zz_prog 88 144 = some (.iconst 1, 1, [], []) := zz_fetch_of p88 rfl rfl
theorem s88_144 : zz_Run zz_prog d 88 (144, [l0, l1, l2, l3, l4, l5, l6], st, k, h) = zz_Run zz_prog d 88 (145, [l0, l1, l2, l3, l4, l5, l6], .int 1 :: st, k, h) := zz_k_num f88_144 rfl
theorem f88_145 : zz_fetch zz_prog 88 145 = some (.iastore, 1, [], []) := zz_fetch_of p88 rfl rfl
theorem f88_146 : zz_fetch zz_prog 88 146 = some (.dup, 1, [], []) := zz_fetch_of p88 rfl rfl
theorem s88_146 : zz_Run zz_prog d 88 (146, [l0, l1, l2, l3, l4, l5, l6], .ref a :: st, k, h) = zz_Run zz_prog d 88 (147, [l0, l1, l2, l3, l4, l5, l6], .ref a :: .ref a :: st, k, h) := zz_k_num f88_146 rfl
theorem f88_147 : zz_fetch zz_prog 88 147 = some (.bipush 9, 2, [], []) := zz_fetch_of p88 rfl rfl
theorem s88_147 : zz_Run zz_prog d 88 (147, [l0, l1, l2, l3, l4, l5, l6], st, k, h) = zz_Run zz_prog d 88 (149, [l0, l1, l2, l3, l4, l5, l6], .int 9 :: st, k, h) := zz_k_num f88_147 (congrArg (fun u => some (149, [l0, l1, l2, l3, l4, l5, l6], Value.int u :: st)) (by decide : (Int8.ofInt 9).toInt32 = 9))
theorem f88_149 : zz_fetch zz_prog 88 149 = some (.iconst 0, 1, [], []) := zz_fetch_of p88 rfl rfl
theorem s88_149 : zz_Run zz_prog d 88 (149, [l0, l1, l2, l3, l4, l5, l6], st, k, h) = zz_Run zz_prog d 88 (150, [l0, l1, l2, l3, l4, l5, l6], .int 0 :: st, k, h) := zz_k_num f88_149 rfl
theorem f88_150 : zz_fetch zz_prog 88 150 = some (.iastore, 1, [], []) := zz_fetch_of p88 rfl rfl
theorem f88_151 : zz_fetch zz_prog 88 151 = some (.dup, 1, [], []) := zz_fetch_of p88 rfl rfl
theorem s88_151 : zz_Run zz_prog d 88 (151, [l0, l1, l2, l3, l4, l5, l6], .ref a :: st, k, h) = zz_Run zz_prog d 88 (152, [l0, l1, l2, l3, l4, l5, l6], .ref a :: .ref a :: st, k, h) := zz_k_num f88_151 rfl
theorem f88_152 : zz_fetch zz_prog 88 152 = some (.bipush 10, 2, [], []) := zz_fetch_of p88 rfl rfl
theorem s88_152 : zz_Run zz_prog d 88 (152, [l0, l1, l2, l3, l4, l5, l6], st, k, h) = zz_Run zz_prog d 88 (154, [l0, l1, l2, l3, l4, l5, l6], .int 10 :: st, k, h) := zz_k_num f88_152 (congrArg (fun u => some (154, [l0, l1, l2, l3, l4, l5, l6], Value.int u :: st)) (by decide : (Int8.ofInt 10).toInt32 = 10))
theorem f88_154 : zz_fetch zz_prog 88 154 = some (.iconst 0, 1, [], []) := zz_fetch_of p88 rfl rfl
theorem s88_154 : zz_Run zz_prog d 88 (154, [l0, l1, l2, l3, l4, l5, l6], st, k, h) = zz_Run zz_prog d 88 (155, [l0, l1, l2, l3, l4, l5, l6], .int 0 :: st, k, h) := zz_k_num f88_154 rfl
theorem f88_155 : zz_fetch zz_prog 88 155 = some (.iastore, 1, [], []) := zz_fetch_of p88 rfl rfl
theorem f88_156 : zz_fetch zz_prog 88 156 = some (.dup, 1, [], []) := zz_fetch_of p88 rfl rfl
theorem s88_156 : zz_Run zz_prog d 88 (156, [l0, l1, l2, l3, l4, l5, l6], .ref a :: st, k, h) = zz_Run zz_prog d 88 (157, [l0, l1, l2, l3, l4, l5, l6], .ref a :: .ref a :: st, k, h) := zz_k_num f88_156 rfl
theorem f88_157 : zz_fetch zz_prog 88 157 = some (.bipush 11, 2, [], []) := zz_fetch_of p88 rfl rfl
theorem s88_157 : zz_Run zz_prog d 88 (157, [l0, l1, l2, l3, l4, l5, l6], st, k, h) = zz_Run zz_prog d 88 (159, [l0, l1, l2, l3, l4, l5, l6], .int 11 :: st, k, h) := zz_k_num f88_157 (congrArg (fun u => some (159, [l0, l1, l2, l3, l4, l5, l6], Value.int u :: st)) (by decide : (Int8.ofInt 11).toInt32 = 11))
theorem f88_159 : zz_fetch zz_prog 88 159 = some (.iconst 0, 1, [], []) := zz_fetch_of p88 rfl rfl
theorem s88_159 : zz_Run zz_prog d 88 (159, [l0, l1, l2, l3, l4, l5, l6], st, k, h) = zz_Run zz_prog d 88 (160, [l0, l1, l2, l3, l4, l5, l6], .int 0 :: st, k, h) := zz_k_num f88_159 rfl
theorem f88_160 : zz_fetch zz_prog 88 160 = some (.iastore, 1, [], []) := zz_fetch_of p88 rfl rfl
theorem f88_161 : zz_fetch zz_prog 88 161 = some (.dup, 1, [], []) := zz_fetch_of p88 rfl rfl
theorem s88_161 : zz_Run zz_prog d 88 (161, [l0, l1, l2, l3, l4, l5, l6], .ref a :: st, k, h) = zz_Run zz_prog d 88 (162, [l0, l1, l2, l3, l4, l5, l6], .ref a :: .ref a :: st, k, h) := zz_k_num f88_161 rfl
theorem f88_162 : zz_fetch zz_prog 88 162 = some (.bipush 12, 2, [], []) := zz_fetch_of p88 rfl rfl
theorem s88_162 : zz_Run zz_prog d 88 (162, [l0, l1, l2, l3, l4, l5, l6], st, k, h) = zz_Run zz_prog d 88 (164, [l0, l1, l2, l3, l4, l5, l6], .int 12 :: st, k, h) := zz_k_num f88_162 (congrArg (fun u => some (164, [l0, l1, l2, l3, l4, l5, l6], Value.int u :: st)) (by decide : (Int8.ofInt 12).toInt32 = 12))
theorem f88_164 : zz_fetch zz_prog 88 164 = some (.iconst 0, 1, [], []) := zz_fetch_of p88 rfl rfl
theorem s88_164 : zz_Run zz_prog d 88 (164, [l0, l1, l2, l3, l4, l5, l6], st, k, h) = zz_Run zz_prog d 88 (165, [l0, l1, l2, l3, l4, l5, l6], .int 0 :: st, k, h) := zz_k_num f88_164 rfl
theorem f88_165 : zz_fetch zz_prog 88 165 = some (.iastore, 1, [], []) := zz_fetch_of p88 rfl rfl
theorem f88_166 : zz_fetch zz_prog 88 166 = some (.dup, 1, [], []) := zz_fetch_of p88 rfl rfl
theorem s88_166 : zz_Run zz_prog d 88 (166, [l0, l1, l2, l3, l4, l5, l6], .ref a :: st, k, h) = zz_Run zz_prog d 88 (167, [l0, l1, l2, l3, l4, l5, l6], .ref a :: .ref a :: st, k, h) := zz_k_num f88_166 rfl
theorem f88_167 : zz_fetch zz_prog 88 167 = some (.bipush 13, 2, [], []) := zz_fetch_of p88 rfl rfl
theorem s88_167 : zz_Run zz_prog d 88 (167, [l0, l1, l2, l3, l4, l5, l6], st, k, h) = zz_Run zz_prog d 88 (169, [l0, l1, l2, l3, l4, l5, l6], .int 13 :: st, k, h) := zz_k_num f88_167 (congrArg (fun u => some (169, [l0, l1, l2, l3, l4, l5, l6], Value.int u :: st)) (by decide : (Int8.ofInt 13).toInt32 = 13))
theorem f88_169 : zz_fetch zz_prog 88 169 = some (.iconst 2, 1, [], []) := zz_fetch_of p88 rfl rfl
theorem s88_169 : zz_Run zz_prog d 88 (169, [l0, l1, l2, l3, l4, l5, l6], st, k, h) = zz_Run zz_prog d 88 (170, [l0, l1, l2, l3, l4, l5, l6], .int 2 :: st, k, h) := zz_k_num f88_169 rfl
theorem f88_170 : zz_fetch zz_prog 88 170 = some (.iastore, 1, [], []) := zz_fetch_of p88 rfl rfl
theorem f88_171 : zz_fetch zz_prog 88 171 = some (.dup, 1, [], []) := zz_fetch_of p88 rfl rfl
theorem s88_171 : zz_Run zz_prog d 88 (171, [l0, l1, l2, l3, l4, l5, l6], .ref a :: st, k, h) = zz_Run zz_prog d 88 (172, [l0, l1, l2, l3, l4, l5, l6], .ref a :: .ref a :: st, k, h) := zz_k_num f88_171 rfl
theorem f88_172 : zz_fetch zz_prog 88 172 = some (.bipush 14, 2, [], []) := zz_fetch_of p88 rfl rfl
theorem s88_172 : zz_Run zz_prog d 88 (172, [l0, l1, l2, l3, l4, l5, l6], st, k, h) = zz_Run zz_prog d 88 (174, [l0, l1, l2, l3, l4, l5, l6], .int 14 :: st, k, h) := zz_k_num f88_172 (congrArg (fun u => some (174, [l0, l1, l2, l3, l4, l5, l6], Value.int u :: st)) (by decide : (Int8.ofInt 14).toInt32 = 14))
theorem f88_174 : zz_fetch zz_prog 88 174 = some (.iconst 3, 1, [], []) := zz_fetch_of p88 rfl rfl
theorem s88_174 : zz_Run zz_prog d 88 (174, [l0, l1, l2, l3, l4, l5, l6], st, k, h) = zz_Run zz_prog d 88 (175, [l0, l1, l2, l3, l4, l5, l6], .int 3 :: st, k, h) := zz_k_num f88_174 rfl
theorem f88_175 : zz_fetch zz_prog 88 175 = some (.iastore, 1, [], []) := zz_fetch_of p88 rfl rfl
theorem f88_176 : zz_fetch zz_prog 88 176 = some (.dup, 1, [], []) := zz_fetch_of p88 rfl rfl
theorem s88_176 : zz_Run zz_prog d 88 (176, [l0, l1, l2, l3, l4, l5, l6], .ref a :: st, k, h) = zz_Run zz_prog d 88 (177, [l0, l1, l2, l3, l4, l5, l6], .ref a :: .ref a :: st, k, h) := zz_k_num f88_176 rfl
theorem f88_177 : zz_fetch zz_prog 88 177 = some (.bipush 15, 2, [], []) := zz_fetch_of p88 rfl rfl
theorem s88_177 : zz_Run zz_prog d 88 (177, [l0, l1, l2, l3, l4, l5, l6], st, k, h) = zz_Run zz_prog d 88 (179, [l0, l1, l2, l3, l4, l5, l6], .int 15 :: st, k, h) := zz_k_num f88_177 (congrArg (fun u => some (179, [l0, l1, l2, l3, l4, l5, l6], Value.int u :: st)) (by decide : (Int8.ofInt 15).toInt32 = 15))
theorem f88_179 : zz_fetch zz_prog 88 179 = some (.iconst 0, 1, [], []) := zz_fetch_of p88 rfl rfl
theorem s88_179 : zz_Run zz_prog d 88 (179, [l0, l1, l2, l3, l4, l5, l6], st, k, h) = zz_Run zz_prog d 88 (180, [l0, l1, l2, l3, l4, l5, l6], .int 0 :: st, k, h) := zz_k_num f88_179 rfl
theorem f88_180 : zz_fetch zz_prog 88 180 = some (.iastore, 1, [], []) := zz_fetch_of p88 rfl rfl
theorem f88_181 : zz_fetch zz_prog 88 181 = some (.dup, 1, [], []) := zz_fetch_of p88 rfl rfl
theorem s88_181 : zz_Run zz_prog d 88 (181, [l0, l1, l2, l3, l4, l5, l6], .ref a :: st, k, h) = zz_Run zz_prog d 88 (182, [l0, l1, l2, l3, l4, l5, l6], .ref a :: .ref a :: st, k, h) := zz_k_num f88_181 rfl
theorem f88_182 : zz_fetch zz_prog 88 182 = some (.bipush 16, 2, [], []) := zz_fetch_of p88 rfl rfl
theorem s88_182 : zz_Run zz_prog d 88 (182, [l0, l1, l2, l3, l4, l5, l6], st, k, h) = zz_Run zz_prog d 88 (184, [l0, l1, l2, l3, l4, l5, l6], .int 16 :: st, k, h) := zz_k_num f88_182 (congrArg (fun u => some (184, [l0, l1, l2, l3, l4, l5, l6], Value.int u :: st)) (by decide : (Int8.ofInt 16).toInt32 = 16))
theorem f88_184 : zz_fetch zz_prog 88 184 = some (.iconst 0, 1, [], []) := zz_fetch_of p88 rfl rfl
theorem s88_184 : zz_Run zz_prog d 88 (184, [l0, l1, l2, l3, l4, l5, l6], st, k, h) = zz_Run zz_prog d 88 (185, [l0, l1, l2, l3, l4, l5, l6], .int 0 :: st, k, h) := zz_k_num f88_184 rfl
theorem f88_185 : zz_fetch zz_prog 88 185 = some (.iastore, 1, [], []) := zz_fetch_of p88 rfl rfl
theorem f88_186 : zz_fetch zz_prog 88 186 = some (.dup, 1, [], []) := zz_fetch_of p88 rfl rfl
theorem s88_186 : zz_Run zz_prog d 88 (186, [l0, l1, l2, l3, l4, l5, l6], .ref a :: st, k, h) = zz_Run zz_prog d 88 (187, [l0, l1, l2, l3, l4, l5, l6], .ref a :: .ref a :: st, k, h) := zz_k_num f88_186 rfl
theorem f88_187 : zz_fetch zz_prog 88 187 = some (.bipush 17, 2, [], []) := zz_fetch_of p88 rfl rfl
theorem s88_187 : zz_Run zz_prog d 88 (187, [l0, l1, l2, l3, l4, l5, l6], st, k, h) = zz_Run zz_prog d 88 (189, [l0, l1, l2, l3, l4, l5, l6], .int 17 :: st, k, h) := zz_k_num f88_187 (congrArg (fun u => some (189, [l0, l1, l2, l3, l4, l5, l6], Value.int u :: st)) (by decide : (Int8.ofInt 17).toInt32 = 17))
theorem f88_189 : zz_fetch zz_prog 88 189 = some (.iconst 1, 1, [], []) := zz_fetch_of p88 rfl rfl
theorem s88_189 : zz_Run zz_prog d 88 (189, [l0, l1, l2, l3, l4, l5, l6], st, k, h) = zz_Run zz_prog d 88 (190, [l0, l1, l2, l3, l4, l5, l6], .int 1 :: st, k, h) := zz_k_num f88_189 rfl
theorem f88_190 : zz_fetch zz_prog 88 190 = some (.iastore, 1, [], []) := zz_fetch_of p88 rfl rfl
theorem f88_191 : zz_fetch zz_prog 88 191 = some (.dup, 1, [], []) := zz_fetch_of p88 rfl rfl
theorem s88_191 : zz_Run zz_prog d 88 (191, [l0, l1, l2, l3, l4, l5, l6], .ref a :: st, k, h) = zz_Run zz_prog d 88 (192, [l0, l1, l2, l3, l4, l5, l6], .ref a :: .ref a :: st, k, h) := zz_k_num f88_191 rfl
theorem f88_192 : zz_fetch zz_prog 88 192 = some (.bipush 18, 2, [], []) := zz_fetch_of p88 rfl rfl
theorem s88_192 : zz_Run zz_prog d 88 (192, [l0, l1, l2, l3, l4, l5, l6], st, k, h) = zz_Run zz_prog d 88 (194, [l0, l1, l2, l3, l4, l5, l6], .int 18 :: st, k, h) := zz_k_num f88_192 (congrArg (fun u => some (194, [l0, l1, l2, l3, l4, l5, l6], Value.int u :: st)) (by decide : (Int8.ofInt 18).toInt32 = 18))
theorem f88_194 : zz_fetch zz_prog 88 194 = some (.iconst 1, 1, [], []) := zz_fetch_of p88 rfl rfl
theorem s88_194 : zz_Run zz_prog d 88 (194, [l0, l1, l2, l3, l4, l5, l6], st, k, h) = zz_Run zz_prog d 88 (195, [l0, l1, l2, l3, l4, l5, l6], .int 1 :: st, k, h) := zz_k_num f88_194 rfl
theorem f88_195 : zz_fetch zz_prog 88 195 = some (.iastore, 1, [], []) := zz_fetch_of p88 rfl rfl
theorem f88_196 : zz_fetch zz_prog 88 196 = some (.dup, 1, [], []) := zz_fetch_of p88 rfl rfl
theorem s88_196 : zz_Run zz_prog d 88 (196, [l0, l1, l2, l3, l4, l5, l6], .ref a :: st, k, h) = zz_Run zz_prog d 88 (197, [l0, l1, l2, l3, l4, l5, l6], .ref a :: .ref a :: st, k, h) := zz_k_num f88_196 rfl
theorem f88_197 : zz_fetch zz_prog 88 197 = some (.bipush 19, 2, [], []) := zz_fetch_of p88 rfl rfl
theorem s88_197 : zz_Run zz_prog d 88 (197, [l0, l1, l2, l3, l4, l5, l6], st, k, h) = zz_Run zz_prog d 88 (199, [l0, l1, l2, l3, l4, l5, l6], .int 19 :: st, k, h) := zz_k_num f88_197 (congrArg (fun u => some (199, [l0, l1, l2, l3, l4, l5, l6], Value.int u :: st)) (by decide : (Int8.ofInt 19).toInt32 = 19))
theorem f88_199 : zz_fetch zz_prog 88 199 = some (.iconst 1, 1, [], []) := zz_fetch_of p88 rfl rfl
theorem s88_199 : zz_Run zz_prog d 88 (199, [l0, l1, l2, l3, l4, l5, l6], st, k, h) = zz_Run zz_prog d 88 (200, [l0, l1, l2, l3, l4, l5, l6], .int 1 :: st, k, h) := zz_k_num f88_199 rfl
theorem f88_200 : zz_fetch zz_prog 88 200 = some (.iastore, 1, [], []) := zz_fetch_of p88 rfl rfl
theorem f88_201 : zz_fetch zz_prog 88 201 = some (.putfield 46, 3, [2, 17, 3], []) := zz_fetch_of p88 rfl rfl
theorem f88_204 : zz_fetch zz_prog 88 204 = some (.aload_n 0, 1, [], []) := zz_fetch_of p88 rfl rfl
theorem s88_204 : zz_Run zz_prog d 88 (204, [some (.ref a), l1, l2, l3, l4, l5, l6], st, k, h) = zz_Run zz_prog d 88 (205, [some (.ref a), l1, l2, l3, l4, l5, l6], .ref a :: st, k, h) := zz_k_num f88_204 rfl
theorem f88_205 : zz_fetch zz_prog 88 205 = some (.bipush 12, 2, [], []) := zz_fetch_of p88 rfl rfl
theorem s88_205 : zz_Run zz_prog d 88 (205, [l0, l1, l2, l3, l4, l5, l6], st, k, h) = zz_Run zz_prog d 88 (207, [l0, l1, l2, l3, l4, l5, l6], .int 12 :: st, k, h) := zz_k_num f88_205 (congrArg (fun u => some (207, [l0, l1, l2, l3, l4, l5, l6], Value.int u :: st)) (by decide : (Int8.ofInt 12).toInt32 = 12))
theorem f88_207 : zz_fetch zz_prog 88 207 = some (.newarray .int, 2, [1], []) := zz_fetch_of p88 rfl rfl
theorem f88_209 : zz_fetch zz_prog 88 209 = some (.dup, 1, [], []) := zz_fetch_of p88 rfl rfl
theorem s88_209 : zz_Run zz_prog d 88 (209, [l0, l1, l2, l3, l4, l5, l6], .ref a :: st, k, h) = zz_Run zz_prog d 88 (210, [l0, l1, l2, l3, l4, l5, l6], .ref a :: .ref a :: st, k, h) := zz_k_num f88_209 rfl
theorem f88_210 : zz_fetch zz_prog 88 210 = some (.iconst 0, 1, [], []) := zz_fetch_of p88 rfl rfl
theorem s88_210 : zz_Run zz_prog d 88 (210, [l0, l1, l2, l3, l4, l5, l6], st, k, h) = zz_Run zz_prog d 88 (211, [l0, l1, l2, l3, l4, l5, l6], .int 0 :: st, k, h) := zz_k_num f88_210 rfl
theorem f88_211 : zz_fetch zz_prog 88 211 = some (.iconst 2, 1, [], []) := zz_fetch_of p88 rfl rfl
theorem s88_211 : zz_Run zz_prog d 88 (211, [l0, l1, l2, l3, l4, l5, l6], st, k, h) = zz_Run zz_prog d 88 (212, [l0, l1, l2, l3, l4, l5, l6], .int 2 :: st, k, h) := zz_k_num f88_211 rfl
theorem f88_212 : zz_fetch zz_prog 88 212 = some (.iastore, 1, [], []) := zz_fetch_of p88 rfl rfl
theorem f88_213 : zz_fetch zz_prog 88 213 = some (.dup, 1, [], []) := zz_fetch_of p88 rfl rfl
theorem s88_213 : zz_Run zz_prog d 88 (213, [l0, l1, l2, l3, l4, l5, l6], .ref a :: st, k, h) = zz_Run zz_prog d 88 (214, [l0, l1, l2, l3, l4, l5, l6], .ref a :: .ref a :: st, k, h) := zz_k_num f88_213 rfl
theorem f88_214 : zz_fetch zz_prog 88 214 = some (.iconst 1, 1, [], []) := zz_fetch_of p88 rfl rfl
theorem s88_214 : zz_Run zz_prog d 88 (214, [l0, l1, l2, l3, l4, l5, l6], st, k, h) = zz_Run zz_prog d 88 (215, [l0, l1, l2, l3, l4, l5, l6], .int 1 :: st, k, h) := zz_k_num f88_214 rfl
theorem f88_215 : zz_fetch zz_prog 88 215 = some (.iconst 1, 1, [], []) := zz_fetch_of p88 rfl rfl
theorem s88_215 : zz_Run zz_prog d 88 (215, [l0, l1, l2, l3, l4, l5, l6], st, k, h) = zz_Run zz_prog d 88 (216, [l0, l1, l2, l3, l4, l5, l6], .int 1 :: st, k, h) := zz_k_num f88_215 rfl
theorem f88_216 : zz_fetch zz_prog 88 216 = some (.iastore, 1, [], []) := zz_fetch_of p88 rfl rfl
theorem f88_217 : zz_fetch zz_prog 88 217 = some (.dup, 1, [], []) := zz_fetch_of p88 rfl rfl
theorem s88_217 : zz_Run zz_prog d 88 (217, [l0, l1, l2, l3, l4, l5, l6], .ref a :: st, k, h) = zz_Run zz_prog d 88 (218, [l0, l1, l2, l3, l4, l5, l6], .ref a :: .ref a :: st, k, h) := zz_k_num f88_217 rfl
theorem f88_218 : zz_fetch zz_prog 88 218 = some (.iconst 2, 1, [], []) := zz_fetch_of p88 rfl rfl
theorem s88_218 : zz_Run zz_prog d 88 (218, [l0, l1, l2, l3, l4, l5, l6], st, k, h) = zz_Run zz_prog d 88 (219, [l0, l1, l2, l3, l4, l5, l6], .int 2 :: st, k, h) := zz_k_num f88_218 rfl
theorem f88_219 : zz_fetch zz_prog 88 219 = some (.iconst 1, 1, [], []) := zz_fetch_of p88 rfl rfl
theorem s88_219 : zz_Run zz_prog d 88 (219, [l0, l1, l2, l3, l4, l5, l6], st, k, h) = zz_Run zz_prog d 88 (220, [l0, l1, l2, l3, l4, l5, l6], .int 1 :: st, k, h) := zz_k_num f88_219 rfl
theorem f88_220 : zz_fetch zz_prog 88 220 = some (.iastore, 1, [], []) := zz_fetch_of p88 rfl rfl
theorem f88_221 : zz_fetch zz_prog 88 221 = some (.dup, 1, [], []) := zz_fetch_of p88 rfl rfl
theorem s88_221 : zz_Run zz_prog d 88 (221, [l0, l1, l2, l3, l4, l5, l6], .ref a :: st, k, h) = zz_Run zz_prog d 88 (222, [l0, l1, l2, l3, l4, l5, l6], .ref a :: .ref a :: st, k, h) := zz_k_num f88_221 rfl
theorem f88_222 : zz_fetch zz_prog 88 222 = some (.iconst 3, 1, [], []) := zz_fetch_of p88 rfl rfl
theorem s88_222 : zz_Run zz_prog d 88 (222, [l0, l1, l2, l3, l4, l5, l6], st, k, h) = zz_Run zz_prog d 88 (223, [l0, l1, l2, l3, l4, l5, l6], .int 3 :: st, k, h) := zz_k_num f88_222 rfl
theorem f88_223 : zz_fetch zz_prog 88 223 = some (.iconst 0, 1, [], []) := zz_fetch_of p88 rfl rfl
theorem s88_223 : zz_Run zz_prog d 88 (223, [l0, l1, l2, l3, l4, l5, l6], st, k, h) = zz_Run zz_prog d 88 (224, [l0, l1, l2, l3, l4, l5, l6], .int 0 :: st, k, h) := zz_k_num f88_223 rfl
theorem f88_224 : zz_fetch zz_prog 88 224 = some (.iastore, 1, [], []) := zz_fetch_of p88 rfl rfl
theorem f88_225 : zz_fetch zz_prog 88 225 = some (.dup, 1, [], []) := zz_fetch_of p88 rfl rfl
theorem s88_225 : zz_Run zz_prog d 88 (225, [l0, l1, l2, l3, l4, l5, l6], .ref a :: st, k, h) = zz_Run zz_prog d 88 (226, [l0, l1, l2, l3, l4, l5, l6], .ref a :: .ref a :: st, k, h) := zz_k_num f88_225 rfl
theorem f88_226 : zz_fetch zz_prog 88 226 = some (.iconst 4, 1, [], []) := zz_fetch_of p88 rfl rfl
theorem s88_226 : zz_Run zz_prog d 88 (226, [l0, l1, l2, l3, l4, l5, l6], st, k, h) = zz_Run zz_prog d 88 (227, [l0, l1, l2, l3, l4, l5, l6], .int 4 :: st, k, h) := zz_k_num f88_226 rfl
theorem f88_227 : zz_fetch zz_prog 88 227 = some (.iconst 0, 1, [], []) := zz_fetch_of p88 rfl rfl
theorem s88_227 : zz_Run zz_prog d 88 (227, [l0, l1, l2, l3, l4, l5, l6], st, k, h) = zz_Run zz_prog d 88 (228, [l0, l1, l2, l3, l4, l5, l6], .int 0 :: st, k, h) := zz_k_num f88_227 rfl
theorem f88_228 : zz_fetch zz_prog 88 228 = some (.iastore, 1, [], []) := zz_fetch_of p88 rfl rfl
theorem f88_229 : zz_fetch zz_prog 88 229 = some (.dup, 1, [], []) := zz_fetch_of p88 rfl rfl
theorem s88_229 : zz_Run zz_prog d 88 (229, [l0, l1, l2, l3, l4, l5, l6], .ref a :: st, k, h) = zz_Run zz_prog d 88 (230, [l0, l1, l2, l3, l4, l5, l6], .ref a :: .ref a :: st, k, h) := zz_k_num f88_229 rfl
theorem f88_230 : zz_fetch zz_prog 88 230 = some (.iconst 5, 1, [], []) := zz_fetch_of p88 rfl rfl
theorem s88_230 : zz_Run zz_prog d 88 (230, [l0, l1, l2, l3, l4, l5, l6], st, k, h) = zz_Run zz_prog d 88 (231, [l0, l1, l2, l3, l4, l5, l6], .int 5 :: st, k, h) := zz_k_num f88_230 rfl
theorem f88_231 : zz_fetch zz_prog 88 231 = some (.iconst (-1), 1, [], []) := zz_fetch_of p88 rfl rfl
theorem s88_231 : zz_Run zz_prog d 88 (231, [l0, l1, l2, l3, l4, l5, l6], st, k, h) = zz_Run zz_prog d 88 (232, [l0, l1, l2, l3, l4, l5, l6], .int (-1) :: st, k, h) := zz_k_num f88_231 rfl
theorem f88_232 : zz_fetch zz_prog 88 232 = some (.iastore, 1, [], []) := zz_fetch_of p88 rfl rfl
theorem f88_233 : zz_fetch zz_prog 88 233 = some (.dup, 1, [], []) := zz_fetch_of p88 rfl rfl
theorem s88_233 : zz_Run zz_prog d 88 (233, [l0, l1, l2, l3, l4, l5, l6], .ref a :: st, k, h) = zz_Run zz_prog d 88 (234, [l0, l1, l2, l3, l4, l5, l6], .ref a :: .ref a :: st, k, h) := zz_k_num f88_233 rfl
theorem f88_234 : zz_fetch zz_prog 88 234 = some (.bipush 6, 2, [], []) := zz_fetch_of p88 rfl rfl
theorem s88_234 : zz_Run zz_prog d 88 (234, [l0, l1, l2, l3, l4, l5, l6], st, k, h) = zz_Run zz_prog d 88 (236, [l0, l1, l2, l3, l4, l5, l6], .int 6 :: st, k, h) := zz_k_num f88_234 (congrArg (fun u => some (236, [l0, l1, l2, l3, l4, l5, l6], Value.int u :: st)) (by decide : (Int8.ofInt 6).toInt32 = 6))
theorem f88_236 : zz_fetch zz_prog 88 236 = some (.iconst (-1), 1, [], []) := zz_fetch_of p88 rfl rfl
theorem s88_236 : zz_Run zz_prog d 88 (236, [l0, l1, l2, l3, l4, l5, l6], st, k, h) = zz_Run zz_prog d 88 (237, [l0, l1, l2, l3, l4, l5, l6], .int (-1) :: st, k, h) := zz_k_num f88_236 rfl
theorem f88_237 : zz_fetch zz_prog 88 237 = some (.iastore, 1, [], []) := zz_fetch_of p88 rfl rfl
theorem f88_238 : zz_fetch zz_prog 88 238 = some (.dup, 1, [], []) := zz_fetch_of p88 rfl rfl
theorem s88_238 : zz_Run zz_prog d 88 (238, [l0, l1, l2, l3, l4, l5, l6], .ref a :: st, k, h) = zz_Run zz_prog d 88 (239, [l0, l1, l2, l3, l4, l5, l6], .ref a :: .ref a :: st, k, h) := zz_k_num f88_238 rfl
theorem f88_239 : zz_fetch zz_prog 88 239 = some (.bipush 7, 2, [], []) := zz_fetch_of p88 rfl rfl
theorem s88_239 : zz_Run zz_prog d 88 (239, [l0, l1, l2, l3, l4, l5, l6], st, k, h) = zz_Run zz_prog d 88 (241, [l0, l1, l2, l3, l4, l5, l6], .int 7 :: st, k, h) := zz_k_num f88_239 (congrArg (fun u => some (241, [l0, l1, l2, l3, l4, l5, l6], Value.int u :: st)) (by decide : (Int8.ofInt 7).toInt32 = 7))
theorem f88_241 : zz_fetch zz_prog 88 241 = some (.iconst 0, 1, [], []) := zz_fetch_of p88 rfl rfl
theorem s88_241 : zz_Run zz_prog d 88 (241, [l0, l1, l2, l3, l4, l5, l6], st, k, h) = zz_Run zz_prog d 88 (242, [l0, l1, l2, l3, l4, l5, l6], .int 0 :: st, k, h) := zz_k_num f88_241 rfl
theorem f88_242 : zz_fetch zz_prog 88 242 = some (.iastore, 1, [], []) := zz_fetch_of p88 rfl rfl
theorem f88_243 : zz_fetch zz_prog 88 243 = some (.dup, 1, [], []) := zz_fetch_of p88 rfl rfl
theorem s88_243 : zz_Run zz_prog d 88 (243, [l0, l1, l2, l3, l4, l5, l6], .ref a :: st, k, h) = zz_Run zz_prog d 88 (244, [l0, l1, l2, l3, l4, l5, l6], .ref a :: .ref a :: st, k, h) := zz_k_num f88_243 rfl
theorem f88_244 : zz_fetch zz_prog 88 244 = some (.bipush 8, 2, [], []) := zz_fetch_of p88 rfl rfl
theorem s88_244 : zz_Run zz_prog d 88 (244, [l0, l1, l2, l3, l4, l5, l6], st, k, h) = zz_Run zz_prog d 88 (246, [l0, l1, l2, l3, l4, l5, l6], .int 8 :: st, k, h) := zz_k_num f88_244 (congrArg (fun u => some (246, [l0, l1, l2, l3, l4, l5, l6], Value.int u :: st)) (by decide : (Int8.ofInt 8).toInt32 = 8))
theorem f88_246 : zz_fetch zz_prog 88 246 = some (.iconst 0, 1, [], []) := zz_fetch_of p88 rfl rfl
theorem s88_246 : zz_Run zz_prog d 88 (246, [l0, l1, l2, l3, l4, l5, l6], st, k, h) = zz_Run zz_prog d 88 (247, [l0, l1, l2, l3, l4, l5, l6], .int 0 :: st, k, h) := zz_k_num f88_246 rfl
theorem f88_247 : zz_fetch zz_prog 88 247 = some (.iastore, 1, [], []) := zz_fetch_of p88 rfl rfl
theorem f88_248 : zz_fetch zz_prog 88 248 = some (.dup, 1, [], []) := zz_fetch_of p88 rfl rfl
theorem s88_248 : zz_Run zz_prog d 88 (248, [l0, l1, l2, l3, l4, l5, l6], .ref a :: st, k, h) = zz_Run zz_prog d 88 (249, [l0, l1, l2, l3, l4, l5, l6], .ref a :: .ref a :: st, k, h) := zz_k_num f88_248 rfl
theorem f88_249 : zz_fetch zz_prog 88 249 = some (.bipush 9, 2, [], []) := zz_fetch_of p88 rfl rfl
theorem s88_249 : zz_Run zz_prog d 88 (249, [l0, l1, l2, l3, l4, l5, l6], st, k, h) = zz_Run zz_prog d 88 (251, [l0, l1, l2, l3, l4, l5, l6], .int 9 :: st, k, h) := zz_k_num f88_249 (congrArg (fun u => some (251, [l0, l1, l2, l3, l4, l5, l6], Value.int u :: st)) (by decide : (Int8.ofInt 9).toInt32 = 9))
theorem f88_251 : zz_fetch zz_prog 88 251 = some (.iconst 1, 1, [], []) := zz_fetch_of p88 rfl rfl
theorem s88_251 : zz_Run zz_prog d 88 (251, [l0, l1, l2, l3, l4, l5, l6], st, k, h) = zz_Run zz_prog d 88 (252, [l0, l1, l2, l3, l4, l5, l6], .int 1 :: st, k, h) := zz_k_num f88_251 rfl
theorem f88_252 : zz_fetch zz_prog 88 252 = some (.iastore, 1, [], []) := zz_fetch_of p88 rfl rfl
theorem f88_253 : zz_fetch zz_prog 88 253 = some (.dup, 1, [], []) := zz_fetch_of p88 rfl rfl
theorem s88_253 : zz_Run zz_prog d 88 (253, [l0, l1, l2, l3, l4, l5, l6], .ref a :: st, k, h) = zz_Run zz_prog d 88 (254, [l0, l1, l2, l3, l4, l5, l6], .ref a :: .ref a :: st, k, h) := zz_k_num f88_253 rfl
theorem f88_254 : zz_fetch zz_prog 88 254 = some (.bipush 10, 2, [], []) := zz_fetch_of p88 rfl rfl
theorem s88_254 : zz_Run zz_prog d 88 (254, [l0, l1, l2, l3, l4, l5, l6], st, k, h) = zz_Run zz_prog d 88 (256, [l0, l1, l2, l3, l4, l5, l6], .int 10 :: st, k, h) := zz_k_num f88_254 (congrArg (fun u => some (256, [l0, l1, l2, l3, l4, l5, l6], Value.int u :: st)) (by decide : (Int8.ofInt 10).toInt32 = 10))
theorem f88_256 : zz_fetch zz_prog 88 256 = some (.iconst 1, 1, [], []) := zz_fetch_of p88 rfl rfl
theorem s88_256 : zz_Run zz_prog d 88 (256, [l0, l1, l2, l3, l4, l5, l6], st, k, h) = zz_Run zz_prog d 88 (257, [l0, l1, l2, l3, l4, l5, l6], .int 1 :: st, k, h) := zz_k_num f88_256 rfl
theorem f88_257 : zz_fetch zz_prog 88 257 = some (.iastore, 1, [], []) := zz_fetch_of p88 rfl rfl
theorem f88_258 : zz_fetch zz_prog 88 258 = some (.dup, 1, [], []) := zz_fetch_of p88 rfl rfl
theorem s88_258 : zz_Run zz_prog d 88 (258, [l0, l1, l2, l3, l4, l5, l6], .ref a :: st, k, h) = zz_Run zz_prog d 88 (259, [l0, l1, l2, l3, l4, l5, l6], .ref a :: .ref a :: st, k, h) := zz_k_num f88_258 rfl
theorem f88_259 : zz_fetch zz_prog 88 259 = some (.bipush 11, 2, [], []) := zz_fetch_of p88 rfl rfl
theorem s88_259 : zz_Run zz_prog d 88 (259, [l0, l1, l2, l3, l4, l5, l6], st, k, h) = zz_Run zz_prog d 88 (261, [l0, l1, l2, l3, l4, l5, l6], .int 11 :: st, k, h) := zz_k_num f88_259 (congrArg (fun u => some (261, [l0, l1, l2, l3, l4, l5, l6], Value.int u :: st)) (by decide : (Int8.ofInt 11).toInt32 = 11))
theorem f88_261 : zz_fetch zz_prog 88 261 = some (.iconst 2, 1, [], []) := zz_fetch_of p88 rfl rfl
theorem s88_261 : zz_Run zz_prog d 88 (261, [l0, l1, l2, l3, l4, l5, l6], st, k, h) = zz_Run zz_prog d 88 (262, [l0, l1, l2, l3, l4, l5, l6], .int 2 :: st, k, h) := zz_k_num f88_261 rfl
theorem f88_262 : zz_fetch zz_prog 88 262 = some (.iastore, 1, [], []) := zz_fetch_of p88 rfl rfl
theorem f88_263 : zz_fetch zz_prog 88 263 = some (.putfield 49, 3, [2, 18, 3], []) := zz_fetch_of p88 rfl rfl
theorem f88_266 : zz_fetch zz_prog 88 266 = some (.aload_n 0, 1, [], []) := zz_fetch_of p88 rfl rfl
theorem s88_266 : zz_Run zz_prog d 88 (266, [some (.ref a), l1, l2, l3, l4, l5, l6], st, k, h) = zz_Run zz_prog d 88 (267, [some (.ref a), l1, l2, l3, l4, l5, l6], .ref a :: st, k, h) := zz_k_num f88_266 rfl
theorem f88_267 : zz_fetch zz_prog 88 267 = some (.bipush 12, 2, [], []) := zz_fetch_of p88 rfl rfl
theorem s88_267 : zz_Run zz_prog d 88 (267, [l0, l1, l2, l3, l4, l5, l6], st, k, h) = zz_Run zz_prog d 88 (269, [l0, l1, l2, l3, l4, l5, l6], .int 12 :: st, k, h) := zz_k_num f88_267 (congrArg (fun u => some (269, [l0, l1, l2, l3, l4, l5, l6], Value.int u :: st)) (by decide : (Int8.ofInt 12).toInt32 = 12))
theorem f88_269 : zz_fetch zz_prog 88 269 = some (.newarray .int, 2, [1], []) := zz_fetch_of p88 rfl rfl
theorem f88_271 : zz_fetch zz_prog 88 271 = some (.dup, 1, [], []) := zz_fetch_of p88 rfl rfl
theorem s88_271 : zz_Run zz_prog d 88 (271, [l0, l1, l2, l3, l4, l5, l6], .ref a :: st, k, h) = zz_Run zz_prog d 88 (272, [l0, l1, l2, l3, l4, l5, l6], .ref a :: .ref a :: st, k, h) := zz_k_num f88_271 rfl
theorem f88_272 : zz_fetch zz_prog 88 272 = some (.iconst 0, 1, [], []) := zz_fetch_of p88 rfl rfl
theorem s88_272 : zz_Run zz_prog d 88 (272, [l0, l1, l2, l3, l4, l5, l6], st, k, h) = zz_Run zz_prog d 88 (273, [l0, l1, l2, l3, l4, l5, l6], .int 0 :: st, k, h) := zz_k_num f88_272 rfl
theorem f88_273 : zz_fetch zz_prog 88 273 = some (.iconst 3, 1, [], []) := zz_fetch_of p88 rfl rfl
theorem s88_273 : zz_Run zz_prog d 88 (273, [l0, l1, l2, l3, l4, l5, l6], st, k, h) = zz_Run zz_prog d 88 (274, [l0, l1, l2, l3, l4, l5, l6], .int 3 :: st, k, h) := zz_k_num f88_273 rfl
theorem f88_274 : zz_fetch zz_prog 88 274 = some (.iastore, 1, [], []) := zz_fetch_of p88 rfl rfl
theorem f88_275 : zz_fetch zz_prog 88 275 = some (.dup, 1, [], []) := zz_fetch_of p88 rfl rfl
theorem s88_275 : zz_Run zz_prog d 88 (275, [l0, l1, l2, l3, l4, l5, l6], .ref a :: st, k, h) = zz_Run zz_prog d 88 (276, [l0, l1, l2, l3, l4, l5, l6], .ref a :: .ref a :: st, k, h) := zz_k_num f88_275 rfl
theorem f88_276 : zz_fetch zz_prog 88 276 = some (.iconst 1, 1, [], []) := zz_fetch_of p88 rfl rfl
theorem s88_276 : zz_Run zz_prog d 88 (276, [l0, l1, l2, l3, l4, l5, l6], st, k, h) = zz_Run zz_prog d 88 (277, [l0, l1, l2, l3, l4, l5, l6], .int 1 :: st, k, h) := zz_k_num f88_276 rfl
theorem f88_277 : zz_fetch zz_prog 88 277 = some (.iconst 4, 1, [], []) := zz_fetch_of p88 rfl rfl
theorem s88_277 : zz_Run zz_prog d 88 (277, [l0, l1, l2, l3, l4, l5, l6], st, k, h) = zz_Run zz_prog d 88 (278, [l0, l1, l2, l3, l4, l5, l6], .int 4 :: st, k, h) := zz_k_num f88_277 rfl
theorem f88_278 : zz_fetch zz_prog 88 278 = some (.iastore, 1, [], []) := zz_fetch_of p88 rfl rfl
theorem f88_279 : zz_fetch zz_prog 88 279 = some (.dup, 1, [], []) := zz_fetch_of p88 rfl rfl
theorem s88_279 : zz_Run zz_prog d 88 (279, [l0, l1, l2, l3, l4, l5, l6], .ref a :: st, k, h) = zz_Run zz_prog d 88 (280, [l0, l1, l2, l3, l4, l5, l6], .ref a :: .ref a :: st, k, h) := zz_k_num f88_279 rfl
theorem f88_280 : zz_fetch zz_prog 88 280 = some (.iconst 2, 1, [], []) := zz_fetch_of p88 rfl rfl
theorem s88_280 : zz_Run zz_prog d 88 (280, [l0, l1, l2, l3, l4, l5, l6], st, k, h) = zz_Run zz_prog d 88 (281, [l0, l1, l2, l3, l4, l5, l6], .int 2 :: st, k, h) := zz_k_num f88_280 rfl
theorem f88_281 : zz_fetch zz_prog 88 281 = some (.iconst 4, 1, [], []) := zz_fetch_of p88 rfl rfl
theorem s88_281 : zz_Run zz_prog d 88 (281, [l0, l1, l2, l3, l4, l5, l6], st, k, h) = zz_Run zz_prog d 88 (282, [l0, l1, l2, l3, l4, l5, l6], .int 4 :: st, k, h) := zz_k_num f88_281 rfl
theorem f88_282 : zz_fetch zz_prog 88 282 = some (.iastore, 1, [], []) := zz_fetch_of p88 rfl rfl
theorem f88_283 : zz_fetch zz_prog 88 283 = some (.dup, 1, [], []) := zz_fetch_of p88 rfl rfl
theorem s88_283 : zz_Run zz_prog d 88 (283, [l0, l1, l2, l3, l4, l5, l6], .ref a :: st, k, h) = zz_Run zz_prog d 88 (284, [l0, l1, l2, l3, l4, l5, l6], .ref a :: .ref a :: st, k, h) := zz_k_num f88_283 rfl
theorem f88_284 : zz_fetch zz_prog 88 284 = some (.iconst 3, 1, [], []) := zz_fetch_of p88 rfl rfl
theorem s88_284 : zz_Run zz_prog d 88 (284, [l0, l1, l2, l3, l4, l5, l6], st, k, h) = zz_Run zz_prog d 88 (285, [l0, l1, l2, l3, l4, l5, l6], .int 3 :: st, k, h) := zz_k_num f88_284 rfl
theorem f88_285 : zz_fetch zz_prog 88 285 = some (.iconst 5, 1, [], []) := zz_fetch_of p88 rfl rfl
theorem s88_285 : zz_Run zz_prog d 88 (285, [l0, l1, l2, l3, l4, l5, l6], st, k, h) = zz_Run zz_prog d 88 (286, [l0, l1, l2, l3, l4, l5, l6], .int 5 :: st, k, h) := zz_k_num f88_285 rfl
theorem f88_286 : zz_fetch zz_prog 88 286 = some (.iastore, 1, [], []) := zz_fetch_of p88 rfl rfl
theorem f88_287 : zz_fetch zz_prog 88 287 = some (.dup, 1, [], []) := zz_fetch_of p88 rfl rfl
theorem s88_287 : zz_Run zz_prog d 88 (287, [l0, l1, l2, l3, l4, l5, l6], .ref a :: st, k, h) = zz_Run zz_prog d 88 (288, [l0, l1, l2, l3, l4, l5, l6], .ref a :: .ref a :: st, k, h) := zz_k_num f88_287 rfl
theorem f88_288 : zz_fetch zz_prog 88 288 = some (.iconst 4, 1, [], []) := zz_fetch_of p88 rfl rfl
theorem s88_288 : zz_Run zz_prog d 88 (288, [l0, l1, l2, l3, l4, l5, l6], st, k, h) = zz_Run zz_prog d 88 (289, [l0, l1, l2, l3, l4, l5, l6], .int 4 :: st, k, h) := zz_k_num f88_288 rfl
theorem f88_289 : zz_fetch zz_prog 88 289 = some (.iconst 5, 1, [], []) := zz_fetch_of p88 rfl rfl
theorem s88_289 : zz_Run zz_prog d 88 (289, [l0, l1, l2, l3, l4, l5, l6], st, k, h) = zz_Run zz_prog d 88 (290, [l0, l1, l2, l3, l4, l5, l6], .int 5 :: st, k, h) := zz_k_num f88_289 rfl
theorem f88_290 : zz_fetch zz_prog 88 290 = some (.iastore, 1, [], []) := zz_fetch_of p88 rfl rfl
theorem f88_291 : zz_fetch zz_prog 88 291 = some (.dup, 1, [], []) := zz_fetch_of p88 rfl rfl
theorem s88_291 : zz_Run zz_prog d 88 (291, [l0, l1, l2, l3, l4, l5, l6], .ref a :: st, k, h) = zz_Run zz_prog d 88 (292, [l0, l1, l2, l3, l4, l5, l6], .ref a :: .ref a :: st, k, h) := zz_k_num f88_291 rfl
theorem f88_292 : zz_fetch zz_prog 88 292 = some (.iconst 5, 1, [], []) := zz_fetch_of p88 rfl rfl
theorem s88_292 : zz_Run zz_prog d 88 (292, [l0, l1, l2, l3, l4, l5, l6], st, k, h) = zz_Run zz_prog d 88 (293, [l0, l1, l2, l3, l4, l5, l6], .int 5 :: st, k, h) := zz_k_num f88_292 rfl
theorem f88_293 : zz_fetch zz_prog 88 293 = some (.bipush 6, 2, [], []) := zz_fetch_of p88 rfl rfl
theorem s88_293 : zz_Run zz_prog d 88 (293, [l0, l1, l2, l3, l4, l5, l6], st, k, h) = zz_Run zz_prog d 88 (295, [l0, l1, l2, l3, l4, l5, l6], .int 6 :: st, k, h) := zz_k_num f88_293 (congrArg (fun u => some (295, [l0, l1, l2, l3, l4, l5, l6], Value.int u :: st)) (by decide : (Int8.ofInt 6).toInt32 = 6))
theorem f88_295 : zz_fetch zz_prog 88 295 = some (.iastore, 1, [], []) := zz_fetch_of p88 rfl rfl
theorem f88_296 : zz_fetch zz_prog 88 296 = some (.dup, 1, [], []) := zz_fetch_of p88 rfl rfl
theorem s88_296 : zz_Run zz_prog d 88 (296, [l0, l1, l2, l3, l4, l5, l6], .ref a :: st, k, h) = zz_Run zz_prog d 88 (297, [l0, l1, l2, l3, l4, l5, l6], .ref a :: .ref a :: st, k, h) := zz_k_num f88_296 rfl
theorem f88_297 : zz_fetch zz_prog 88 297 = some (.bipush 6, 2, [], []) := zz_fetch_of p88 rfl rfl
theorem s88_297 : zz_Run zz_prog d 88 (297, [l0, l1, l2, l3, l4, l5, l6], st, k, h) = zz_Run zz_prog d 88 (299, [l0, l1, l2, l3, l4, l5, l6], .int 6 :: st, k, h) := zz_k_num f88_297 (congrArg (fun u => some (299, [l0, l1, l2, l3, l4, l5, l6], Value.int u :: st)) (by decide : (Int8.ofInt 6).toInt32 = 6))
theorem f88_299 : zz_fetch zz_prog 88 299 = some (.bipush 6, 2, [], []) := zz_fetch_of p88 rfl rfl
theorem s88_299 : zz_Run zz_prog d 88 (299, [l0, l1, l2, l3, l4, l5, l6], st, k, h) = zz_Run zz_prog d 88 (301, [l0, l1, l2, l3, l4, l5, l6], .int 6 :: st, k, h) := zz_k_num f88_299 (congrArg (fun u => some (301, [l0, l1, l2, l3, l4, l5, l6], Value.int u :: st)) (by decide : (Int8.ofInt 6).toInt32 = 6))
theorem f88_301 : zz_fetch zz_prog 88 301 = some (.iastore, 1, [], []) := zz_fetch_of p88 rfl rfl
theorem f88_302 : zz_fetch zz_prog 88 302 = some (.dup, 1, [], []) := zz_fetch_of p88 rfl rfl
theorem s88_302 : zz_Run zz_prog d 88 (302, [l0, l1, l2, l3, l4, l5, l6], .ref a :: st, k, h) = zz_Run zz_prog d 88 (303, [l0, l1, l2, l3, l4, l5, l6], .ref a :: .ref a :: st, k, h) := zz_k_num f88_302 rfl
theorem f88_303 : zz_fetch zz_prog 88 303 = some (.bipush 7, 2, [], []) := zz_fetch_of p88 rfl rfl
theorem s88_303 : zz_Run zz_prog d 88 (303, [l0, l1, l2, l3, l4, l5, l6], st, k, h) = zz_Run zz_prog d 88 (305, [l0, l1, l2, l3, l4, l5, l6], .int 7 :: st, k, h) := zz_k_num f88_303 (congrArg (fun u => some (305, [l0, l1, l2, l3, l4, l5, l6], Value.int u :: st)) (by decide : (Int8.ofInt 7).toInt32 = 7))
theorem f88_305 : zz_fetch zz_prog 88 305 = some (.iconst 5, 1, [], []) := zz_fetch_of p88 rfl rfl
theorem s88_305 : zz_Run zz_prog d 88 (305, [l0, l1, l2, l3, l4, l5, l6], st, k, h) = zz_Run zz_prog d 88 (306, [l0, l1, l2, l3, l4, l5, l6], .int 5 :: st, k, h) := zz_k_num f88_305 rfl
theorem f88_306 : zz_fetch zz_prog 88 306 = some (.iastore, 1, [], []) := zz_fetch_of p88 rfl rfl
theorem f88_307 : zz_fetch zz_prog 88 307 = some (.dup, 1, [], []) := zz_fetch_of p88 rfl rfl
theorem s88_307 : zz_Run zz_prog d 88 (307, [l0, l1, l2, l3, l4, l5, l6], .ref a :: st, k, h) = zz_Run zz_prog d 88 (308, [l0, l1, l2, l3, l4, l5, l6], .ref a :: .ref a :: st, k, h) := zz_k_num f88_307 rfl
theorem f88_308 : zz_fetch zz_prog 88 308 = some (.bipush 8, 2, [], []) := zz_fetch_of p88 rfl rfl
theorem s88_308 : zz_Run zz_prog d 88 (308, [l0, l1, l2, l3, l4, l5, l6], st, k, h) = zz_Run zz_prog d 88 (310, [l0, l1, l2, l3, l4, l5, l6], .int 8 :: st, k, h) := zz_k_num f88_308 (congrArg (fun u => some (310, [l0, l1, l2, l3, l4, l5, l6], Value.int u :: st)) (by decide : (Int8.ofInt 8).toInt32 = 8))
theorem f88_310 : zz_fetch zz_prog 88 310 = some (.iconst 5, 1, [], []) := zz_fetch_of p88 rfl rfl
theorem s88_310 : zz_Run zz_prog d 88 (310, [l0, l1, l2, l3, l4, l5, l6], st, k, h) = zz_Run zz_prog d 88 (311, [l0, l1, l2, l3, l4, l5, l6], .int 5 :: st, k, h) := zz_k_num f88_310 rfl
theorem f88_311 : zz_fetch zz_prog 88 311 = some (.iastore, 1, [], []) := zz_fetch_of p88 rfl rfl
theorem f88_312 : zz_fetch zz_prog 88 312 = some (.dup, 1, [], []) := zz_fetch_of p88 rfl rfl
theorem s88_312 : zz_Run zz_prog d 88 (312, [l0, l1, l2, l3, l4, l5, l6], .ref a :: st, k, h) = zz_Run zz_prog d 88 (313, [l0, l1, l2, l3, l4, l5, l6], .ref a :: .ref a :: st, k, h) := zz_k_num f88_312 rfl
theorem f88_313 : zz_fetch zz_prog 88 313 = some (.bipush 9, 2, [], []) := zz_fetch_of p88 rfl rfl
theorem s88_313 : zz_Run zz_prog d 88 (313, [l0, l1, l2, l3, l4, l5, l6], st, k, h) = zz_Run zz_prog d 88 (315, [l0, l1, l2, l3, l4, l5, l6], .int 9 :: st, k, h) := zz_k_num f88_313 (congrArg (fun u => some (315, [l0, l1, l2, l3, l4, l5, l6], Value.int u :: st)) (by decide : (Int8.ofInt 9).toInt32 = 9))
theorem f88_315 : zz_fetch zz_prog 88 315 = some (.iconst 4, 1, [], []) := zz_fetch_of p88 rfl rfl
theorem s88_315 : zz_Run zz_prog d 88 (315, [l0, l1, l2, l3, l4, l5, l6], st, k, h) = zz_Run zz_prog d 88 (316, [l0, l1, l2, l3, l4, l5, l6], .int 4 :: st, k, h) := zz_k_num f88_315 rfl
theorem f88_316 : zz_fetch zz_prog 88 316 = some (.iastore, 1, [], []) := zz_fetch_of p88 rfl rfl
theorem f88_317 : zz_fetch zz_prog 88 317 = some (.dup, 1, [], []) := zz_fetch_of p88 rfl rfl
theorem s88_317 : zz_Run zz_prog d 88 (317, [l0, l1, l2, l3, l4, l5, l6], .ref a :: st, k, h) = zz_Run zz_prog d 88 (318, [l0, l1, l2, l3, l4, l5, l6], .ref a :: .ref a :: st, k, h) := zz_k_num f88_317 rfl
theorem f88_318 : zz_fetch zz_prog 88 318 = some (.bipush 10, 2, [], []) := zz_fetch_of p88 rfl rfl
theorem s88_318 : zz_Run zz_prog d 88 (318, [l0, l1, l2, l3, l4, l5, l6], st, k, h) = zz_Run zz_prog d 88 (320, [l0, l1, l2, l3, l4, l5, l6], .int 10 :: st, k, h) := zz_k_num f88_318 (congrArg (fun u => some (320, [l0, l1, l2, l3, l4, l5, l6], Value.int u :: st)) (by decide : (Int8.ofInt 10).toInt32 = 10))
theorem f88_320 : zz_fetch zz_prog 88 320 = some (.iconst 4, 1, [], []) := zz_fetch_of p88 rfl rfl
theorem s88_320 : zz_Run zz_prog d 88 (320, [l0, l1, l2, l3, l4, l5, l6], st, k, h) = zz_Run zz_prog d 88 (321, [l0, l1, l2, l3, l4, l5, l6], .int 4 :: st, k, h) := zz_k_num f88_320 rfl
theorem f88_321 : zz_fetch zz_prog 88 321 = some (.iastore, 1, [], []) := zz_fetch_of p88 rfl rfl
theorem f88_322 : zz_fetch zz_prog 88 322 = some (.dup, 1, [], []) := zz_fetch_of p88 rfl rfl
theorem s88_322 : zz_Run zz_prog d 88 (322, [l0, l1, l2, l3, l4, l5, l6], .ref a :: st, k, h) = zz_Run zz_prog d 88 (323, [l0, l1, l2, l3, l4, l5, l6], .ref a :: .ref a :: st, k, h) := zz_k_num f88_322 rfl
theorem f88_323 : zz_fetch zz_prog 88 323 = some (.bipush 11, 2, [], []) := zz_fetch_of p88 rfl rfl
theorem s88_323 : zz_Run zz_prog d 88 (323, [l0, l1, l2, l3, l4, l5, l6], st, k, h) = zz_Run zz_prog d 88 (325, [l0, l1, l2, l3, l4, l5, l6], .int 11 :: st, k, h) := zz_k_num f88_323 (congrArg (fun u => some (325, [l0, l1, l2, l3, l4, l5, l6], Value.int u :: st)) (by decide : (Int8.ofInt 11).toInt32 = 11))
theorem f88_325 : zz_fetch zz_prog 88 325 = some (.iconst 3, 1, [], []) := zz_fetch_of p88 rfl rfl
theorem s88_325 : zz_Run zz_prog d 88 (325, [l0, l1, l2, l3, l4, l5, l6], st, k, h) = zz_Run zz_prog d 88 (326, [l0, l1, l2, l3, l4, l5, l6], .int 3 :: st, k, h) := zz_k_num f88_325 rfl
theorem f88_326 : zz_fetch zz_prog 88 326 = some (.iastore, 1, [], []) := zz_fetch_of p88 rfl rfl
theorem f88_327 : zz_fetch zz_prog 88 327 = some (.putfield 52, 3, [2, 19, 3], []) := zz_fetch_of p88 rfl rfl
theorem f88_330 : zz_fetch zz_prog 88 330 = some (.aload_n 0, 1, [], []) := zz_fetch_of p88 rfl rfl
theorem s88_330 : zz_Run zz_prog d 88 (330, [some (.ref a), l1, l2, l3, l4, l5, l6], st, k, h) = zz_Run zz_prog d 88 (331, [some (.ref a), l1, l2, l3, l4, l5, l6], .ref a :: st, k, h) := zz_k_num f88_330 rfl
theorem f88_331 : zz_fetch zz_prog 88 331 = some (.bipush 15, 2, [], []) := zz_fetch_of p88 rfl rfl
theorem s88_331 : zz_Run zz_prog d 88 (331, [l0, l1, l2, l3, l4, l5, l6], st, k, h) = zz_Run zz_prog d 88 (333, [l0, l1, l2, l3, l4, l5, l6], .int 15 :: st, k, h) := zz_k_num f88_331 (congrArg (fun u => some (333, [l0, l1, l2, l3, l4, l5, l6], Value.int u :: st)) (by decide : (Int8.ofInt 15).toInt32 = 15))
theorem f88_333 : zz_fetch zz_prog 88 333 = some (.newarray .int, 2, [1], []) := zz_fetch_of p88 rfl rfl
theorem f88_335 : zz_fetch zz_prog 88 335 = some (.putfield 55, 3, [2, 20, 3], []) := zz_fetch_of p88 rfl rfl
theorem f88_338 : zz_fetch zz_prog 88 338 = some (.aload_n 0, 1, [], []) := zz_fetch_of p88 rfl rfl
theorem s88_338 : zz_Run zz_prog d 88 (338, [some (.ref a), l1, l2, l3, l4, l5, l6], st, k, h) = zz_Run zz_prog d 88 (339, [some (.ref a), l1, l2, l3, l4, l5, l6], .ref a :: st, k, h) := zz_k_num f88_338 rfl
theorem f88_339 : zz_fetch zz_prog 88 339 = some (.bipush 17, 2, [], []) := zz_fetch_of p88 rfl rfl
theorem s88_339 : zz_Run zz_prog d 88 (339, [l0, l1, l2, l3, l4, l5, l6], st, k, h) = zz_Run zz_prog d 88 (341, [l0, l1, l2, l3, l4, l5, l6], .int 17 :: st, k, h) := zz_k_num f88_339 (congrArg (fun u => some (341, [l0, l1, l2, l3, l4, l5, l6], Value.int u :: st)) (by decide : (Int8.ofInt 17).toInt32 = 17))
theorem f88_341 : zz_fetch zz_prog 88 341 = some (.newarray .int, 2, [1], []) := zz_fetch_of p88 rfl rfl
theorem f88_343 : zz_fetch zz_prog 88 343 = some (.putfield 58, 3, [2, 21, 3], []) := zz_fetch_of p88 rfl rfl
theorem f88_346 : zz_fetch zz_prog 88 346 = some (.aload_n 0, 1, [], []) := zz_fetch_of p88 rfl rfl
theorem s88_346 : zz_Run zz_prog d 88 (346, [some (.ref a), l1, l2, l3, l4, l5, l6], st, k, h) = zz_Run zz_prog d 88 (347, [some (.ref a), l1, l2, l3, l4, l5, l6], .ref a :: st, k, h) := zz_k_num f88_346 rfl
theorem f88_347 : zz_fetch zz_prog 88 347 = some (.bipush 17, 2, [], []) := zz_fetch_of p88 rfl rfl
theorem s88_347 : zz_Run zz_prog d 88 (347, [l0, l1, l2, l3, l4, l5, l6], st, k, h) = zz_Run zz_prog d 88 (349, [l0, l1, l2, l3, l4, l5, l6], .int 17 :: st, k, h) := zz_k_num f88_347 (congrArg (fun u => some (349, [l0, l1, l2, l3, l4, l5, l6], Value.int u :: st)) (by decide : (Int8.ofInt 17).toInt32 = 17))
theorem f88_349 : zz_fetch zz_prog 88 349 = some (.newarray .int, 2, [1], []) := zz_fetch_of p88 rfl rfl
theorem f88_351 : zz_fetch zz_prog 88 351 = some (.putfield 61, 3, [2, 22, 3], []) := zz_fetch_of p88 rfl rfl
theorem f88_354 : zz_fetch zz_prog 88 354 = some (.aload_n 0, 1, [], []) := zz_fetch_of p88 rfl rfl
theorem s88_354 : zz_Run zz_prog d 88 (354, [some (.ref a), l1, l2, l3, l4, l5, l6], st, k, h) = zz_Run zz_prog d 88 (355, [some (.ref a), l1, l2, l3, l4, l5, l6], .ref a :: st, k, h) := zz_k_num f88_354 rfl
theorem f88_355 : zz_fetch zz_prog 88 355 = some (.bipush 17, 2, [], []) := zz_fetch_of p88 rfl rfl
theorem s88_355 : zz_Run zz_prog d 88 (355, [l0, l1, l2, l3, l4, l5, l6], st, k, h) = zz_Run zz_prog d 88 (357, [l0, l1, l2, l3, l4, l5, l6], .int 17 :: st, k, h) := zz_k_num f88_355 (congrArg (fun u => some (357, [l0, l1, l2, l3, l4, l5, l6], Value.int u :: st)) (by decide : (Int8.ofInt 17).toInt32 = 17))
theorem f88_357 : zz_fetch zz_prog 88 357 = some (.newarray .int, 2, [1], []) := zz_fetch_of p88 rfl rfl
theorem f88_359 : zz_fetch zz_prog 88 359 = some (.putfield 64, 3, [2, 23, 3], []) := zz_fetch_of p88 rfl rfl
theorem f88_362 : zz_fetch zz_prog 88 362 = some (.aload_n 0, 1, [], []) := zz_fetch_of p88 rfl rfl
theorem s88_362 : zz_Run zz_prog d 88 (362, [some (.ref a), l1, l2, l3, l4, l5, l6], st, k, h) = zz_Run zz_prog d 88 (363, [some (.ref a), l1, l2, l3, l4, l5, l6], .ref a :: st, k, h) := zz_k_num f88_362 rfl
theorem f88_363 : zz_fetch zz_prog 88 363 = some (.bipush 20, 2, [], []) := zz_fetch_of p88 rfl rfl
theorem s88_363 : zz_Run zz_prog d 88 (363, [l0, l1, l2, l3, l4, l5, l6], st, k, h) = zz_Run zz_prog d 88 (365, [l0, l1, l2, l3, l4, l5, l6], .int 20 :: st, k, h) := zz_k_num f88_363 (congrArg (fun u => some (365, [l0, l1, l2, l3, l4, l5, l6], Value.int u :: st)) (by decide : (Int8.ofInt 20).toInt32 = 20))
theorem f88_365 : zz_fetch zz_prog 88 365 = some (.newarray .int, 2, [1], []) := zz_fetch_of p88 rfl rfl
theorem f88_367 : zz_fetch zz_prog 88 367 = some (.putfield 67, 3, [2, 24, 3], []) := zz_fetch_of p88 rfl rfl
theorem f88_370 : zz_fetch zz_prog 88 370 = some (.iconst 0, 1, [], []) := zz_fetch_of p88 rfl rfl
theorem s88_370 : zz_Run zz_prog d 88 (370, [l0, l1, l2, l3, l4, l5, l6], st, k, h) = zz_Run zz_prog d 88 (371, [l0, l1, l2, l3, l4, l5, l6], .int 0 :: st, k, h) := zz_k_num f88_370 rfl
theorem f88_371 : zz_fetch zz_prog 88 371 = some (.istore_n 1, 1, [], []) := zz_fetch_of p88 rfl rfl
theorem s88_371 : zz_Run zz_prog d 88 (371, [l0, l1, l2, l3, l4, l5, l6], .int v :: st, k, h) = zz_sl l0 (zz_Run zz_prog d 88 (372, [l0, some (.int v), l2, l3, l4, l5, l6], st, k, h)) := zz_k_st (j := 1) (u := .int v) f88_371 rfl (fun q hq => by cases hq) rfl (show 1 < 7 by decide) (by cases l0 <;> rfl) rfl
theorem f88_372 : zz_fetch zz_prog 88 372 = some (.iconst 0, 1, [], []) := zz_fetch_of p88 rfl rfl
theorem s88_372 : zz_Run zz_prog d 88 (372, [l0, l1, l2, l3, l4, l5, l6], st, k, h) = zz_Run zz_prog d 88 (373, [l0, l1, l2, l3, l4, l5, l6], .int 0 :: st, k, h) := zz_k_num f88_372 rfl
theorem f88_373 : zz_fetch zz_prog 88 373 = some (.istore_n 2, 1, [], []) := zz_fetch_of p88 rfl rfl
theorem s88_373 : zz_Run zz_prog d 88 (373, [l0, l1, l2, l3, l4, l5, l6], .int v :: st, k, h) = zz_sl l1 (zz_Run zz_prog d 88 (374, [l0, l1, some (.int v), l3, l4, l5, l6], st, k, h)) := zz_k_st (j := 2) (u := .int v) f88_373 rfl (fun q hq => by cases hq) rfl (show 2 < 7 by decide) (by cases l1 <;> rfl) rfl
theorem f88_374 : zz_fetch zz_prog 88 374 = some (.iload_n 2, 1, [], []) := zz_fetch_of p88 rfl rfl
theorem s88_374 : zz_Run zz_prog d 88 (374, [l0, l1, some (.int v), l3, l4, l5, l6], st, k, h) = zz_Run zz_prog d 88 (375, [l0, l1, some (.int v), l3, l4, l5, l6], .int v :: st, k, h) := zz_k_num f88_374 rfl
theorem f88_375 : zz_fetch zz_prog 88 375 = some (.bipush 12, 2, [], []) := zz_fetch_of p88 rfl rfl
theorem s88_375 : zz_Run zz_prog d 88 (375, [l0, l1, l2, l3, l4, l5, l6], st, k, h) = zz_Run zz_prog d 88 (377, [l0, l1, l2, l3, l4, l5, l6], .int 12 :: st, k, h) := zz_k_num f88_375 (congrArg (fun u => some (377, [l0, l1, l2, l3, l4, l5, l6], Value.int u :: st)) (by decide : (Int8.ofInt 12).toInt32 = 12))
theorem f88_377 : zz_fetch zz_prog 88 377 = some (.if_icmp .ge 53, 3, [430], []) := zz_fetch_of p88 rfl rfl
theorem s88_377 : zz_Run zz_prog d 88 (377, [l0, l1, l2, l3, l4, l5, l6], .int w :: .int v :: st, k, h) = if w ≤ v then zz_Run zz_prog d 88 (430, [l0, l1, l2, l3, l4, l5, l6], st, k, h) else zz_Run zz_prog d 88 (380, [l0, l1, l2, l3, l4, l5, l6], st, k, h) := zz_k_br (w ≤ v) rfl (zz_k_num f88_377 rfl)
theorem f88_380 : zz_fetch zz_prog 88 380 = some (.iconst 0, 1, [], []) := zz_fetch_of p88 rfl rfl
theorem s88_380 : zz_Run zz_prog d 88 (380, [l0, l1, l2, l3, l4, l5, l6], st, k, h) = zz_Run zz_prog d 88 (381, [l0, l1, l2, l3, l4, l5, l6], .int 0 :: st, k, h) := zz_k_num f88_380 rfl
theorem f88_381 : zz_fetch zz_prog 88 381 = some (.istore_n 3, 1, [], []) := zz_fetch_of p88 rfl rfl
theorem s88_381 : zz_Run zz_prog d 88 (381, [l0, l1, l2, l3, l4, l5, l6], .int v :: st, k, h) = zz_sl l2 (zz_Run zz_prog d 88 (382, [l0, l1, l2, some (.int v), l4, l5, l6], st, k, h)) := zz_k_st (j := 3) (u := .int v) f88_381 rfl (fun q hq => by cases hq) rfl (show 3 < 7 by decide) (by cases l2 <;> rfl) rfl
theorem f88_382 : zz_fetch zz_prog 88 382 = some (.iload_n 3, 1, [], []) := zz_fetch_of p88 rfl rfl
theorem s88_382 : zz_Run zz_prog d 88 (382, [l0, l1, l2, some (.int v), l4, l5, l6], st, k, h) = zz_Run zz_prog d 88 (383, [l0, l1, l2, some (.int v), l4, l5, l6], .int v :: st, k, h) := zz_k_num f88_382 rfl
theorem f88_383 : zz_fetch zz_prog 88 383 = some (.aload_n 0, 1, [], []) := zz_fetch_of p88 rfl rfl
theorem s88_383 : zz_Run zz_prog d 88 (383, [some (.ref a), l1, l2, l3, l4, l5, l6], st, k, h) = zz_Run zz_prog d 88 (384, [some (.ref a), l1, l2, l3, l4, l5, l6], .ref a :: st, k, h) := zz_k_num f88_383 rfl
theorem f88_384 : zz_fetch zz_prog 88 384 = some (.getfield 52, 3, [2, 19, 3], []) := zz_fetch_of p88 rfl rfl
theorem f88_387 : zz_fetch zz_prog 88 387 = some (.iload_n 2, 1, [], []) := zz_fetch_of p88 rfl rfl
theorem s88_387 : zz_Run zz_prog d 88 (387, [l0, l1, some (.int v), l3, l4, l5, l6], st, k, h) = zz_Run zz_prog d 88 (388, [l0, l1, some (.int v), l3, l4, l5, l6], .int v :: st, k, h) := zz_k_num f88_387 rfl
theorem f88_388 : zz_fetch zz_prog 88 388 = some (.iaload, 1, [], []) := zz_fetch_of p88 rfl rfl
theorem f88_389 : zz_fetch zz_prog 88 389 = some (.if_icmp .ge 35, 3, [424], []) := zz_fetch_of p88 rfl rfl
theorem s88_389 : zz_Run zz_prog d 88 (389, [l0, l1, l2, l3, l4, l5, l6], .int w :: .int v :: st, k, h) = if w ≤ v then zz_Run zz_prog d 88 (424, [l0, l1, l2, l3, l4, l5, l6], st, k, h) else zz_Run zz_prog d 88 (392, [l0, l1, l2, l3, l4, l5, l6], st, k, h) := zz_k_br (w ≤ v) rfl (zz_k_num f88_389 rfl)
theorem f88_392 : zz_fetch zz_prog 88 392 = some (.aload_n 0, 1, [], []) := zz_fetch_of p88 rfl rfl
theorem s88_392 : zz_Run zz_prog d 88 (392, [some (.ref a), l1, l2, l3, l4, l5, l6], st, k, h) = zz_Run zz_prog d 88 (393, [some (.ref a), l1, l2, l3, l4, l5, l6], .ref a :: st, k, h) := zz_k_num f88_392 rfl
theorem f88_393 : zz_fetch zz_prog 88 393 = some (.getfield 16, 3, [2, 4, 3], []) := zz_fetch_of p88 rfl rfl
theorem f88_396 : zz_fetch zz_prog 88 396 = some (.iload_n 1, 1, [], []) := zz_fetch_of p88 rfl rfl
theorem s88_396 : zz_Run zz_prog d 88 (396, [l0, some (.int v), l2, l3, l4, l5, l6], st, k, h) = zz_Run zz_prog d 88 (397, [l0, some (.int v), l2, l3, l4, l5, l6], .int v :: st, k, h) := zz_k_num f88_396 rfl
theorem f88_397 : zz_fetch zz_prog 88 397 = some (.iload_n 2, 1, [], []) := zz_fetch_of p88 rfl rfl
theorem s88_397 : zz_Run zz_prog d 88 (397, [l0, l1, some (.int v), l3, l4, l5, l6], st, k, h) = zz_Run zz_prog d 88 (398, [l0, l1, some (.int v), l3, l4, l5, l6], .int v :: st, k, h) := zz_k_num f88_397 rfl
theorem f88_398 : zz_fetch zz_prog 88 398 = some (.iastore, 1, [], []) := zz_fetch_of p88 rfl rfl
theorem f88_399 : zz_fetch zz_prog 88 399 = some (.aload_n 0, 1, [], []) := zz_fetch_of p88 rfl rfl
theorem s88_399 : zz_Run zz_prog d 88 (399, [some (.ref a), l1, l2, l3, l4, l5, l6], st, k, h) = zz_Run zz_prog d 88 (400, [some (.ref a), l1, l2, l3, l4, l5, l6], .ref a :: st, k, h) := zz_k_num f88_399 rfl
theorem f88_400 : zz_fetch zz_prog 88 400 = some (.getfield 19, 3, [2, 5, 3], []) := zz_fetch_of p88 rfl rfl
theorem f88_403 : zz_fetch zz_prog 88 403 = some (.iload_n 1, 1, [], []) := zz_fetch_of p88 rfl rfl
theorem s88_403 : zz_Run zz_prog d 88 (403, [l0, some (.int v), l2, l3, l4, l5, l6], st, k, h) = zz_Run zz_prog d 88 (404, [l0, some (.int v), l2, l3, l4, l5, l6], .int v :: st, k, h) := zz_k_num f88_403 rfl
theorem f88_404 : zz_fetch zz_prog 88 404 = some (.aload_n 0, 1, [], []) := zz_fetch_of p88 rfl rfl
theorem s88_404 : zz_Run zz_prog d 88 (404, [some (.ref a), l1, l2, l3, l4, l5, l6], st, k, h) = zz_Run zz_prog d 88 (405, [some (.ref a), l1, l2, l3, l4, l5, l6], .ref a :: st, k, h) := zz_k_num f88_404 rfl
theorem f88_405 : zz_fetch zz_prog 88 405 = some (.getfield 49, 3, [2, 18, 3], []) := zz_fetch_of p88 rfl rfl
theorem f88_408 : zz_fetch zz_prog 88 408 = some (.iload_n 2, 1, [], []) := zz_fetch_of p88 rfl rfl
theorem s88_408 : zz_Run zz_prog d 88 (408, [l0, l1, some (.int v), l3, l4, l5, l6], st, k, h) = zz_Run zz_prog d 88 (409, [l0, l1, some (.int v), l3, l4, l5, l6], .int v :: st, k, h) := zz_k_num f88_408 rfl
theorem f88_409 : zz_fetch zz_prog 88 409 = some (.iaload, 1, [], []) := zz_fetch_of p88 rfl rfl
theorem f88_410 : zz_fetch zz_prog 88 410 = some (.iconst 2, 1, [], []) := zz_fetch_of p88 rfl rfl
theorem s88_410 : zz_Run zz_prog d 88 (410, [l0, l1, l2, l3, l4, l5, l6], st, k, h) = zz_Run zz_prog d 88 (411, [l0, l1, l2, l3, l4, l5, l6], .int 2 :: st, k, h) := zz_k_num f88_410 rfl
theorem f88_411 : zz_fetch zz_prog 88 411 = some (.iload_n 3, 1, [], []) := zz_fetch_of p88 rfl rfl
theorem s88_411 : zz_Run zz_prog d 88 (411, [l0, l1, l2, some (.int v), l4, l5, l6], st, k, h) = zz_Run zz_prog d 88 (412, [l0, l1, l2, some (.int v), l4, l5, l6], .int v :: st, k, h) := zz_k_num f88_411 rfl
theorem f88_412 : zz_fetch zz_prog 88 412 = some (.imul, 1, [], []) := zz_fetch_of p88 rfl rfl
theorem s88_412 : zz_Run zz_prog d 88 (412, [l0, l1, l2, l3, l4, l5, l6], .int w :: .int v :: st, k, h) = zz_Run zz_prog d 88 (413, [l0, l1, l2, l3, l4, l5, l6], .int (v * w) :: st, k, h) := zz_k_num f88_412 rfl
theorem f88_413 : zz_fetch zz_prog 88 413 = some (.iadd, 1, [], []) := zz_fetch_of p88 rfl rfl
theorem s88_413 : zz_Run zz_prog d 88 (413, [l0, l1, l2, l3, l4, l5, l6], .int w :: .int v :: st, k, h) = zz_Run zz_prog d 88 (414, [l0, l1, l2, l3, l4, l5, l6], .int (v + w) :: st, k, h) := zz_k_num f88_413 rfl
theorem f88_414 : zz_fetch zz_prog 88 414 = some (.iastore, 1, [], []) := zz_fetch_of p88 rfl rfl
theorem f88_415 : zz_fetch zz_prog 88 415 = some (.iinc 1 1, 3, [], []) := zz_fetch_of p88 rfl rfl
theorem s88_415 : zz_Run zz_prog d 88 (415, [l0, some (.int v), l2, l3, l4, l5, l6], st, k, h) = zz_sl l0 (zz_Run zz_prog d 88 (418, [l0, some (.int (v + 1)), l2, l3, l4, l5, l6], st, k, h)) := zz_k_st (j := 1) (u := .int (v + 1)) f88_415 rfl (fun q hq => by cases hq) rfl (show 1 < 7 by decide) (by cases l0 <;> rfl) rfl
theorem f88_418 : zz_fetch zz_prog 88 418 = some (.iinc 3 1, 3, [], []) := zz_fetch_of p88 rfl rfl
theorem s88_418 : zz_Run zz_prog d 88 (418, [l0, l1, l2, some (.int v), l4, l5, l6], st, k, h) = zz_sl l2 (zz_Run zz_prog d 88 (421, [l0, l1, l2, some (.int (v + 1)), l4, l5, l6], st, k, h)) := zz_k_st (j := 3) (u := .int (v + 1)) f88_418 rfl (fun q hq => by cases hq) rfl (show 3 < 7 by decide) (by cases l2 <;> rfl) rfl
theorem f88_421 : zz_fetch zz_prog 88 421 = some (.goto (-39), 3, [382], []) := zz_fetch_of p88 rfl rfl
theorem s88_421 : zz_Run zz_prog d 88 (421, [l0, l1, l2, l3, l4, l5, l6], st, k, h) = zz_Run zz_prog d 88 (382, [l0, l1, l2, l3, l4, l5, l6], st, k, h) := zz_k_num f88_421 rfl
theorem f88_424 : zz_fetch zz_prog 88 424 = some (.iinc 2 1, 3, [], []) := zz_fetch_of p88 rfl rfl
theorem s88_424 : zz_Run zz_prog d 88 (424, [l0, l1, some (.int v), l3, l4, l5, l6], st, k, h) = zz_sl l1 (zz_Run zz_prog d 88 (427, [l0, l1, some (.int (v + 1)), l3, l4, l5, l6], st, k, h)) := zz_k_st (j := 2) (u := .int (v + 1)) f88_424 rfl (fun q hq => by cases hq) rfl (show 2 < 7 by decide) (by cases l1 <;> rfl) rfl
theorem f88_427 : zz_fetch zz_prog 88 427 = some (.goto (-53), 3, [374], []) := zz_fetch_of p88 rfl rfl
theorem s88_427 : zz_Run zz_prog d 88 (427, [l0, l1, l2, l3, l4, l5, l6], st, k, h) = zz_Run zz_prog d 88 (374, [l0, l1, l2, l3, l4, l5, l6], st, k, h) := zz_k_num f88_427 rfl
theorem f88_430 : zz_fetch zz_prog 88 430 = some (.iconst 0, 1, [], []) := zz_fetch_of p88 rfl rfl
theorem s88_430 : zz_Run zz_prog d 88 (430, [l0, l1, l2, l3, l4, l5, l6], st, k, h) = zz_Run zz_prog d 88 (431, [l0, l1, l2, l3, l4, l5, l6], .int 0 :: st, k, h) := zz_k_num f88_430 rfl
theorem f88_431 : zz_fetch zz_prog 88 431 = some (.istore_n 2, 1, [], []) := zz_fetch_of p88 rfl rfl
theorem s88_431 : zz_Run zz_prog d 88 (431, [l0, l1, l2, l3, l4, l5, l6], .int v :: st, k, h) = zz_sl l1 (zz_Run zz_prog d 88 (432, [l0, l1, some (.int v), l3, l4, l5, l6], st, k, h)) := zz_k_st (j := 2) (u := .int v) f88_431 rfl (fun q hq => by cases hq) rfl (show 2 < 7 by decide) (by cases l1 <;> rfl) rfl
theorem f88_432 : zz_fetch zz_prog 88 432 = some (.iconst 0, 1, [], []) := zz_fetch_of p88 rfl rfl
theorem s88_432 : zz_Run zz_prog d 88 (432, [l0, l1, l2, l3, l4, l5, l6], st, k, h) = zz_Run zz_prog d 88 (433, [l0, l1, l2, l3, l4, l5, l6], .int 0 :: st, k, h) := zz_k_num f88_432 rfl
theorem f88_433 : zz_fetch zz_prog 88 433 = some (.istore_n 3, 1, [], []) := zz_fetch_of p88 rfl rfl
theorem s88_433 : zz_Run zz_prog d 88 (433, [l0, l1, l2, l3, l4, l5, l6], .int v :: st, k, h) = zz_sl l2 (zz_Run zz_prog d 88 (434, [l0, l1, l2, some (.int v), l4, l5, l6], st, k, h)) := zz_k_st (j := 3) (u := .int v) f88_433 rfl (fun q hq => by cases hq) rfl (show 3 < 7 by decide) (by cases l2 <;> rfl) rfl
theorem f88_434 : zz_fetch zz_prog 88 434 = some (.iload_n 3, 1, [], []) := zz_fetch_of p88 rfl rfl
theorem s88_434 : zz_Run zz_prog d 88 (434, [l0, l1, l2, some (.int v), l4, l5, l6], st, k, h) = zz_Run zz_prog d 88 (435, [l0, l1, l2, some (.int v), l4, l5, l6], .int v :: st, k, h) := zz_k_num f88_434 rfl
theorem f88_435 : zz_fetch zz_prog 88 435 = some (.bipush 54, 2, [], []) := zz_fetch_of p88 rfl rfl
theorem s88_435 : zz_Run zz_prog d 88 (435, [l0, l1, l2, l3, l4, l5, l6], st, k, h) = zz_Run zz_prog d 88 (437, [l0, l1, l2, l3, l4, l5, l6], .int 54 :: st, k, h) := zz_k_num f88_435 (congrArg (fun u => some (437, [l0, l1, l2, l3, l4, l5, l6], Value.int u :: st)) (by decide : (Int8.ofInt 54).toInt32 = 54))
theorem f88_437 : zz_fetch zz_prog 88 437 = some (.if_icmp .ge 55, 3, [492], []) := zz_fetch_of p88 rfl rfl
theorem s88_437 : zz_Run zz_prog d 88 (437, [l0, l1, l2, l3, l4, l5, l6], .int w :: .int v :: st, k, h) = if w ≤ v then zz_Run zz_prog d 88 (492, [l0, l1, l2, l3, l4, l5, l6], st, k, h) else zz_Run zz_prog d 88 (440, [l0, l1, l2, l3, l4, l5, l6], st, k, h) := zz_k_br (w ≤ v) rfl (zz_k_num f88_437 rfl)
theorem f88_440 : zz_fetch zz_prog 88 440 = some (.iload_n 3, 1, [], []) := zz_fetch_of p88 rfl rfl
theorem s88_440 : zz_Run zz_prog d 88 (440, [l0, l1, l2, some (.int v), l4, l5, l6], st, k, h) = zz_Run zz_prog d 88 (441, [l0, l1, l2, some (.int v), l4, l5, l6], .int v :: st, k, h) := zz_k_num f88_440 rfl
theorem f88_441 : zz_fetch zz_prog 88 441 = some (.iconst 1, 1, [], []) := zz_fetch_of p88 rfl rfl
theorem s88_441 : zz_Run zz_prog d 88 (441, [l0, l1, l2, l3, l4, l5, l6], st, k, h) = zz_Run zz_prog d 88 (442, [l0, l1, l2, l3, l4, l5, l6], .int 1 :: st, k, h) := zz_k_num f88_441 rfl
theorem f88_442 : zz_fetch zz_prog 88 442 = some (.iadd, 1, [], []) := zz_fetch_of p88 rfl rfl
theorem s88_442 : zz_Run zz_prog d 88 (442, [l0, l1, l2, l3, l4, l5, l6], .int w :: .int v :: st, k, h) = zz_Run zz_prog d 88 (443, [l0, l1, l2, l3, l4, l5, l6], .int (v + w) :: st, k, h) := zz_k_num f88_442 rfl
theorem f88_443 : zz_fetch zz_prog 88 443 = some (.istore 4, 2, [], []) := zz_fetch_of p88 rfl rfl
theorem s88_443 : zz_Run zz_prog d 88 (443, [l0, l1, l2, l3, l4, l5, l6], .int v :: st, k, h) = zz_sl l3 (zz_Run zz_prog d 88 (445, [l0, l1, l2, l3, some (.int v), l5, l6], st, k, h)) := zz_k_st (j := 4) (u := .int v) f88_443 rfl (fun q hq => by cases hq) rfl (show 4 < 7 by decide) (by cases l3 <;> rfl) rfl
theorem f88_445 : zz_fetch zz_prog 88 445 = some (.iload 4, 2, [], []) := zz_fetch_of p88 rfl rfl
theorem s88_445 : zz_Run zz_prog d 88 (445, [l0, l1, l2, l3, some (.int v), l5, l6], st, k, h) = zz_Run zz_prog d 88 (447, [l0, l1, l2, l3, some (.int v), l5, l6], .int v :: st, k, h) := zz_k_num f88_445 rfl
theorem f88_447 : zz_fetch zz_prog 88 447 = some (.bipush 54, 2, [], []) := zz_fetch_of p88 rfl rfl
theorem s88_447 : zz_Run zz_prog d 88 (447, [l0, l1, l2, l3, l4, l5, l6], st, k, h) = zz_Run zz_prog d 88 (449, [l0, l1, l2, l3, l4, l5, l6], .int 54 :: st, k, h) := zz_k_num f88_447 (congrArg (fun u => some (449, [l0, l1, l2, l3, l4, l5, l6], Value.int u :: st)) (by decide : (Int8.ofInt 54).toInt32 = 54))
theorem f88_449 : zz_fetch zz_prog 88 449 = some (.if_icmp .ge 37, 3, [486], []) := zz_fetch_of p88 rfl rfl
theorem s88_449 : zz_Run zz_prog d 88 (449, [l0, l1, l2, l3, l4, l5, l6], .int w :: .int v :: st, k, h) = if w ≤ v then zz_Run zz_prog d 88 (486, [l0, l1, l2, l3, l4, l5, l6], st, k, h) else zz_Run zz_prog d 88 (452, [l0, l1, l2, l3, l4, l5, l6], st, k, h) := zz_k_br (w ≤ v) rfl (zz_k_num f88_449 rfl)
theorem f88_452 : zz_fetch zz_prog 88 452 = some (.aload_n 0, 1, [], []) := zz_fetch_of p88 rfl rfl
theorem s88_452 : zz_Run zz_prog d 88 (452, [some (.ref a), l1, l2, l3, l4, l5, l6], st, k, h) = zz_Run zz_prog d 88 (453, [some (.ref a), l1, l2, l3, l4, l5, l6], .ref a :: st, k, h) := zz_k_num f88_452 rfl
theorem f88_453 : zz_fetch zz_prog 88 453 = some (.iload_n 3, 1, [], []) := zz_fetch_of p88 rfl rfl
theorem s88_453 : zz_Run zz_prog d 88 (453, [l0, l1, l2, some (.int v), l4, l5, l6], st, k, h) = zz_Run zz_prog d 88 (454, [l0, l1, l2, some (.int v), l4, l5, l6], .int v :: st, k, h) := zz_k_num f88_453 rfl
theorem f88_454 : zz_fetch zz_prog 88 454 = some (.iload 4, 2, [], []) := zz_fetch_of p88 rfl rfl
theorem s88_454 : zz_Run zz_prog d 88 (454, [l0, l1, l2, l3, some (.int v), l5, l6], st, k, h) = zz_Run zz_prog d 88 (456, [l0, l1, l2, l3, some (.int v), l5, l6], .int v :: st, k, h) := zz_k_num f88_454 rfl
theorem f88_456 : zz_fetch zz_prog 88 456 = some (.invokevirtual 70, 3, [0, 91, 3, 2], []) := zz_fetch_of p88 rfl rfl
theorem f88_459 : zz_fetch zz_prog 88 459 = some (.ifCond .eq 21, 3, [480], []) := zz_fetch_of p88 rfl rfl
theorem s88_459 : zz_Run zz_prog d 88 (459, [l0, l1, l2, l3, l4, l5, l6], .int v :: st, k, h) = if v = 0 then zz_Run zz_prog d 88 (480, [l0, l1, l2, l3, l4, l5, l6], st, k, h) else zz_Run zz_prog d 88 (462, [l0, l1, l2, l3, l4, l5, l6], st, k, h) := zz_k_br (v = 0) rfl (zz_k_num f88_459 rfl)
theorem f88_462 : zz_fetch zz_prog 88 462 = some (.aload_n 0, 1, [], []) := zz_fetch_of p88 rfl rfl
theorem s88_462 : zz_Run zz_prog d 88 (462, [some (.ref a), l1, l2, l3, l4, l5, l6], st, k, h) = zz_Run zz_prog d 88 (463, [some (.ref a), l1, l2, l3, l4, l5, l6], .ref a :: st, k, h) := zz_k_num f88_462 rfl
theorem f88_463 : zz_fetch zz_prog 88 463 = some (.getfield 22, 3, [2, 6, 3], []) := zz_fetch_of p88 rfl rfl
theorem f88_466 : zz_fetch zz_prog 88 466 = some (.iload_n 2, 1, [], []) := zz_fetch_of p88 rfl rfl
theorem s88_466 : zz_Run zz_prog d 88 (466, [l0, l1, some (.int v), l3, l4, l5, l6], st, k, h) = zz_Run zz_prog d 88 (467, [l0, l1, some (.int v), l3, l4, l5, l6], .int v :: st, k, h) := zz_k_num f88_466 rfl
theorem f88_467 : zz_fetch zz_prog 88 467 = some (.iload_n 3, 1, [], []) := zz_fetch_of p88 rfl rfl
theorem s88_467 : zz_Run zz_prog d 88 (467, [l0, l1, l2, some (.int v), l4, l5, l6], st, k, h) = zz_Run zz_prog d 88 (468, [l0, l1, l2, some (.int v), l4, l5, l6], .int v :: st, k, h) := zz_k_num f88_467 rfl
theorem f88_468 : zz_fetch zz_prog 88 468 = some (.iastore, 1, [], []) := zz_fetch_of p88 rfl rfl
theorem f88_469 : zz_fetch zz_prog 88 469 = some (.aload_n 0, 1, [], []) := zz_fetch_of p88 rfl rfl
theorem s88_469 : zz_Run zz_prog d 88 (469, [some (.ref a), l1, l2, l3, l4, l5, l6], st, k, h) = zz_Run zz_prog d 88 (470, [some (.ref a), l1, l2, l3, l4, l5, l6], .ref a :: st, k, h) := zz_k_num f88_469 rfl
theorem f88_470 : zz_fetch zz_prog 88 470 = some (.getfield 25, 3, [2, 7, 3], []) := zz_fetch_of p88 rfl rfl
theorem f88_473 : zz_fetch zz_prog 88 473 = some (.iload_n 2, 1, [], []) := zz_fetch_of p88 rfl rfl
theorem s88_473 : zz_Run zz_prog d 88 (473, [l0, l1, some (.int v), l3, l4, l5, l6], st, k, h) = zz_Run zz_prog d 88 (474, [l0, l1, some (.int v), l3, l4, l5, l6], .int v :: st, k, h) := zz_k_num f88_473 rfl
theorem f88_474 : zz_fetch zz_prog 88 474 = some (.iload 4, 2, [], []) := zz_fetch_of p88 rfl rfl
theorem s88_474 : zz_Run zz_prog d 88 (474, [l0, l1, l2, l3, some (.int v), l5, l6], st, k, h) = zz_Run zz_prog d 88 (476, [l0, l1, l2, l3, some (.int v), l5, l6], .int v :: st, k, h) := zz_k_num f88_474 rfl
theorem f88_476 : zz_fetch zz_prog 88 476 = some (.iastore, 1, [], []) := zz_fetch_of p88 rfl rfl
theorem f88_477 : zz_fetch zz_prog 88 477 = some (.iinc 2 1, 3, [], []) := zz_fetch_of p88 rfl rfl
theorem s88_477 : zz_Run zz_prog d 88 (477, [l0, l1, some (.int v), l3, l4, l5, l6], st, k, h) = zz_sl l1 (zz_Run zz_prog d 88 (480, [l0, l1, some (.int (v + 1)), l3, l4, l5, l6], st, k, h)) := zz_k_st (j := 2) (u := .int (v + 1)) f88_477 rfl (fun q hq => by cases hq) rfl (show 2 < 7 by decide) (by cases l1 <;> rfl) rfl
theorem f88_480 : zz_fetch zz_prog 88 480 = some (.iinc 4 1, 3, [], []) := zz_fetch_of p88 rfl rfl
theorem s88_480 : zz_Run zz_prog d 88 (480, [l0, l1, l2, l3, some (.int v), l5, l6], st, k, h) = zz_sl l3 (zz_Run zz_prog d 88 (483, [l0, l1, l2, l3, some (.int (v + 1)), l5, l6], st, k, h)) := zz_k_st (j := 4) (u := .int (v + 1)) f88_480 rfl (fun q hq => by cases hq) rfl (show 4 < 7 by decide) (by cases l3 <;> rfl) rfl
theorem f88_483 : zz_fetch zz_prog 88 483 = some (.goto (-38), 3, [445], []) := zz_fetch_of p88 rfl rfl
theorem s88_483 : zz_Run zz_prog d 88 (483, [l0, l1, l2, l3, l4, l5, l6], st, k, h) = zz_Run zz_prog d 88 (445, [l0, l1, l2, l3, l4, l5, l6], st, k, h) := zz_k_num f88_483 rfl
theorem f88_486 : zz_fetch zz_prog 88 486 = some (.iinc 3 1, 3, [], []) := zz_fetch_of p88 rfl rfl
theorem s88_486 : zz_Run zz_prog d 88 (486, [l0, l1, l2, some (.int v), l4, l5, l6], st, k, h) = zz_sl l2 (zz_Run zz_prog d 88 (489, [l0, l1, l2, some (.int (v + 1)), l4, l5, l6], st, k, h)) := zz_k_st (j := 3) (u := .int (v + 1)) f88_486 rfl (fun q hq => by cases hq) rfl (show 3 < 7 by decide) (by cases l2 <;> rfl) rfl
theorem f88_489 : zz_fetch zz_prog 88 489 = some (.goto (-55), 3, [434], []) := zz_fetch_of p88 rfl rfl
theorem s88_489 : zz_Run zz_prog d 88 (489, [l0, l1, l2, l3, l4, l5, l6], st, k, h) = zz_Run zz_prog d 88 (434, [l0, l1, l2, l3, l4, l5, l6], st, k, h) := zz_k_num f88_489 rfl
theorem f88_492 : zz_fetch zz_prog 88 492 = some (.iconst 0, 1, [], []) := zz_fetch_of p88 rfl rfl
theorem s88_492 : zz_Run zz_prog d 88 (492, [l0, l1, l2, l3, l4, l5, l6], st, k, h) = zz_Run zz_prog d 88 (493, [l0, l1, l2, l3, l4, l5, l6], .int 0 :: st, k, h) := zz_k_num f88_492 rfl
theorem f88_493 : zz_fetch zz_prog 88 493 = some (.istore_n 3, 1, [], []) := zz_fetch_of p88 rfl rfl
theorem s88_493 : zz_Run zz_prog d 88 (493, [l0, l1, l2, l3, l4, l5, l6], .int v :: st, k, h) = zz_sl l2 (zz_Run zz_prog d 88 (494, [l0, l1, l2, some (.int v), l4, l5, l6], st, k, h)) := zz_k_st (j := 3) (u := .int v) f88_493 rfl (fun q hq => by cases hq) rfl (show 3 < 7 by decide) (by cases l2 <;> rfl) rfl
theorem f88_494 : zz_fetch zz_prog 88 494 = some (.iload_n 3, 1, [], []) := zz_fetch_of p88 rfl rfl
theorem s88_494 : zz_Run zz_prog d 88 (494, [l0, l1, l2, some (.int v), l4, l5, l6], st, k, h) = zz_Run zz_prog d 88 (495, [l0, l1, l2, some (.int v), l4, l5, l6], .int v :: st, k, h) := zz_k_num f88_494 rfl
theorem f88_495 : zz_fetch zz_prog 88 495 = some (.bipush 19, 2, [], []) := zz_fetch_of p88 rfl rfl
theorem s88_495 : zz_Run zz_prog d 88 (495, [l0, l1, l2, l3, l4, l5, l6], st, k, h) = zz_Run zz_prog d 88 (497, [l0, l1, l2, l3, l4, l5, l6], .int 19 :: st, k, h) := zz_k_num f88_495 (congrArg (fun u => some (497, [l0, l1, l2, l3, l4, l5, l6], Value.int u :: st)) (by decide : (Int8.ofInt 19).toInt32 = 19))
theorem f88_497 : zz_fetch zz_prog 88 497 = some (.if_icmp .ge 271, 3, [768], []) := zz_fetch_of p88 rfl rfl
theorem s88_497 : zz_Run zz_prog d 88 (497, [l0, l1, l2, l3, l4, l5, l6], .int w :: .int v :: st, k, h) = if w ≤ v then zz_Run zz_prog d 88 (768, [l0, l1, l2, l3, l4, l5, l6], st, k, h) else zz_Run zz_prog d 88 (500, [l0, l1, l2, l3, l4, l5, l6], st, k, h) := zz_k_br (w ≤ v) rfl (zz_k_num f88_497 rfl)
theorem f88_500 : zz_fetch zz_prog 88 500 = some (.aload_n 0, 1, [], []) := zz_fetch_of p88 rfl rfl
theorem s88_500 : zz_Run zz_prog d 88 (500, [some (.ref a), l1, l2, l3, l4, l5, l6], st, k, h) = zz_Run zz_prog d 88 (501, [some (.ref a), l1, l2, l3, l4, l5, l6], .ref a :: st, k, h) := zz_k_num f88_500 rfl
theorem f88_501 : zz_fetch zz_prog 88 501 = some (.getfield 31, 3, [2, 9, 3], []) := zz_fetch_of p88 rfl rfl
theorem f88_504 : zz_fetch zz_prog 88 504 = some (.iload_n 3, 1, [], []) := zz_fetch_of p88 rfl rfl
theorem s88_504 : zz_Run zz_prog d 88 (504, [l0, l1, l2, some (.int v), l4, l5, l6], st, k, h) = zz_Run zz_prog d 88 (505, [l0, l1, l2, some (.int v), l4, l5, l6], .int v :: st, k, h) := zz_k_num f88_504 rfl
theorem f88_505 : zz_fetch zz_prog 88 505 = some (.iconst 5, 1, [], []) := zz_fetch_of p88 rfl rfl
theorem s88_505 : zz_Run zz_prog d 88 (505, [l0, l1, l2, l3, l4, l5, l6], st, k, h) = zz_Run zz_prog d 88 (506, [l0, l1, l2, l3, l4, l5, l6], .int 5 :: st, k, h) := zz_k_num f88_505 rfl
theorem f88_506 : zz_fetch zz_prog 88 506 = some (.iastore, 1, [], []) := zz_fetch_of p88 rfl rfl
theorem f88_507 : zz_fetch zz_prog 88 507 = some (.iload_n 3, 1, [], []) := zz_fetch_of p88 rfl rfl
theorem s88_507 : zz_Run zz_prog d 88 (507, [l0, l1, l2, some (.int v), l4, l5, l6], st, k, h) = zz_Run zz_prog d 88 (508, [l0, l1, l2, some (.int v), l4, l5, l6], .int v :: st, k, h) := zz_k_num f88_507 rfl
theorem f88_508 : zz_fetch zz_prog 88 508 = some (.iconst 3, 1, [], []) := zz_fetch_of p88 rfl rfl
theorem s88_508 : zz_Run zz_prog d 88 (508, [l0, l1, l2, l3, l4, l5, l6], st, k, h) = zz_Run zz_prog d 88 (509, [l0, l1, l2, l3, l4, l5, l6], .int 3 :: st, k, h) := zz_k_num f88_508 rfl
theorem f88_509 : zz_fetch zz_prog 88 509 = some (.if_icmp .ge 7, 3, [516], []) := zz_fetch_of p88 rfl rfl
theorem s88_509 : zz_Run zz_prog d 88 (509, [l0, l1, l2, l3, l4, l5, l6], .int w :: .int v :: st, k, h) = if w ≤ v then zz_Run zz_prog d 88 (516, [l0, l1, l2, l3, l4, l5, l6], st, k, h) else zz_Run zz_prog d 88 (512, [l0, l1, l2, l3, l4, l5, l6], st, k, h) := zz_k_br (w ≤ v) rfl (zz_k_num f88_509 rfl)
theorem f88_512 : zz_fetch zz_prog 88 512 = some (.iconst 0, 1, [], []) := zz_fetch_of p88 rfl rfl
theorem s88_512 : zz_Run zz_prog d 88 (512, [l0, l1, l2, l3, l4, l5, l6], st, k, h) = zz_Run zz_prog d 88 (513, [l0, l1, l2, l3, l4, l5, l6], .int 0 :: st, k, h) := zz_k_num f88_512 rfl
theorem f88_513 : zz_fetch zz_prog 88 513 = some (.goto 34, 3, [547], []) := zz_fetch_of p88 rfl rfl
theorem s88_513 : zz_Run zz_prog d 88 (513, [l0, l1, l2, l3, l4, l5, l6], st, k, h) = zz_Run zz_prog d 88 (547, [l0, l1, l2, l3, l4, l5, l6], st, k, h) := zz_k_num f88_513 rfl
theorem f88_516 : zz_fetch zz_prog 88 516 = some (.iload_n 3, 1, [], []) := zz_fetch_of p88 rfl rfl
theorem s88_516 : zz_Run zz_prog d 88 (516, [l0, l1, l2, some (.int v), l4, l5, l6], st, k, h) = zz_Run zz_prog d 88 (517, [l0, l1, l2, some (.int v), l4, l5, l6], .int v :: st, k, h) := zz_k_num f88_516 rfl
theorem f88_517 : zz_fetch zz_prog 88 517 = some (.bipush 7, 2, [], []) := zz_fetch_of p88 rfl rfl
theorem s88_517 : zz_Run zz_prog d 88 (517, [l0, l1, l2, l3, l4, l5, l6], st, k, h) = zz_Run zz_prog d 88 (519, [l0, l1, l2, l3, l4, l5, l6], .int 7 :: st, k, h) := zz_k_num f88_517 (congrArg (fun u => some (519, [l0, l1, l2, l3, l4, l5, l6], Value.int u :: st)) (by decide : (Int8.ofInt 7).toInt32 = 7))
theorem f88_519 : zz_fetch zz_prog 88 519 = some (.if_icmp .ge 7, 3, [526], []) := zz_fetch_of p88 rfl rfl
theorem s88_519 : zz_Run zz_prog d 88 (519, [l0, l1, l2, l3, l4, l5, l6], .int w :: .int v :: st, k, h) = if w ≤ v then zz_Run zz_prog d 88 (526, [l0, l1, l2, l3, l4, l5, l6], st, k, h) else zz_Run zz_prog d 88 (522, [l0, l1, l2, l3, l4, l5, l6], st, k, h) := zz_k_br (w ≤ v) rfl (zz_k_num f88_519 rfl)
theorem f88_522 : zz_fetch zz_prog 88 522 = some (.iconst 1, 1, [], []) := zz_fetch_of p88 rfl rfl
theorem s88_522 : zz_Run zz_prog d 88 (522, [l0, l1, l2, l3, l4, l5, l6], st, k, h) = zz_Run zz_prog d 88 (523, [l0, l1, l2, l3, l4, l5, l6], .int 1 :: st, k, h) := zz_k_num f88_522 rfl
theorem f88_523 : zz_fetch zz_prog 88 523 = some (.goto 24, 3, [547], []) := zz_fetch_of p88 rfl rfl
theorem s88_523 : zz_Run zz_prog d 88 (523, [l0, l1, l2, l3, l4, l5, l6], st, k, h) = zz_Run zz_prog d 88 (547, [l0, l1, l2, l3, l4, l5, l6], st, k, h) := zz_k_num f88_523 rfl
theorem f88_526 : zz_fetch zz_prog 88 526 = some (.iload_n 3, 1, [], []) := zz_fetch_of p88 rfl rfl
theorem s88_526 : zz_Run zz_prog d 88 (526, [l0, l1, l2, some (.int v), l4, l5, l6], st, k, h) = zz_Run zz_prog d 88 (527, [l0, l1, l2, some (.int v), l4, l5, l6], .int v :: st, k, h) := zz_k_num f88_526 rfl
theorem f88_527 : zz_fetch zz_prog 88 527 = some (.bipush 12, 2, [], []) := zz_fetch_of p88 rfl rfl
theorem s88_527 : zz_Run zz_prog d 88 (527, [l0, l1, l2, l3, l4, l5, l6], st, k, h) = zz_Run zz_prog d 88 (529, [l0, l1, l2, l3, l4, l5, l6], .int 12 :: st, k, h) := zz_k_num f88_527 (congrArg (fun u => some (529, [l0, l1, l2, l3, l4, l5, l6], Value.int u :: st)) (by decide : (Int8.ofInt 12).toInt32 = 12))
theorem f88_529 : zz_fetch zz_prog 88 529 = some (.if_icmp .ge 7, 3, [536], []) := zz_fetch_of p88 rfl rfl
theorem s88_529 : zz_Run zz_prog d 88 (529, [l0, l1, l2, l3, l4, l5, l6], .int w :: .int v :: st, k, h) = if w ≤ v then zz_Run zz_prog d 88 (536, [l0, l1, l2, l3, l4, l5, l6], st, k, h) else zz_Run zz_prog d 88 (532, [l0, l1, l2, l3, l4, l5, l6], st, k, h) := zz_k_br (w ≤ v) rfl (zz_k_num f88_529 rfl)
theorem f88_532 : zz_fetch zz_prog 88 532 = some (.iconst 2, 1, [], []) := zz_fetch_of p88 rfl rfl
theorem s88_532 : zz_Run zz_prog d 88 (532, [l0, l1, l2, l3, l4, l5, l6], st, k, h) = zz_Run zz_prog d 88 (533, [l0, l1, l2, l3, l4, l5, l6], .int 2 :: st, k, h) := zz_k_num f88_532 rfl
theorem f88_533 : zz_fetch zz_prog 88 533 = some (.goto 14, 3, [547], []) := zz_fetch_of p88 rfl rfl
theorem s88_533 : zz_Run zz_prog d 88 (533, [l0, l1, l2, l3, l4, l5, l6], st, k, h) = zz_Run zz_prog d 88 (547, [l0, l1, l2, l3, l4, l5, l6], st, k, h) := zz_k_num f88_533 rfl
theorem f88_536 : zz_fetch zz_prog 88 536 = some (.iload_n 3, 1, [], []) := zz_fetch_of p88 rfl rfl
theorem s88_536 : zz_Run zz_prog d 88 (536, [l0, l1, l2, some (.int v), l4, l5, l6], st, k, h) = zz_Run zz_prog d 88 (537, [l0, l1, l2, some (.int v), l4, l5, l6], .int v :: st, k, h) := zz_k_num f88_536 rfl
theorem f88_537 : zz_fetch zz_prog 88 537 = some (.bipush 16, 2, [], []) := zz_fetch_of p88 rfl rfl
theorem s88_537 : zz_Run zz_prog d 88 (537, [l0, l1, l2, l3, l4, l5, l6], st, k, h) = zz_Run zz_prog d 88 (539, [l0, l1, l2, l3, l4, l5, l6], .int 16 :: st, k, h) := zz_k_num f88_537 (congrArg (fun u => some (539, [l0, l1, l2, l3, l4, l5, l6], Value.int u :: st)) (by decide : (Int8.ofInt 16).toInt32 = 16))
theorem f88_539 : zz_fetch zz_prog 88 539 = some (.if_icmp .ge 7, 3, [546], []) := zz_fetch_of p88 rfl rfl
theorem s88_539 : zz_Run zz_prog d 88 (539, [l0, l1, l2, l3, l4, l5, l6], .int w :: .int v :: st, k, h) = if w ≤ v then zz_Run zz_prog d 88 (546, [l0, l1, l2, l3, l4, l5, l6], st, k, h) else zz_Run zz_prog d 88 (542, [l0, l1, l2, l3, l4, l5, l6], st, k, h) := zz_k_br (w ≤ v) rfl (zz_k_num f88_539 rfl)
theorem f88_542 : zz_fetch zz_prog 88 542 = some (.iconst 3, 1, [], []) := zz_fetch_of p88 rfl rfl
theorem s88_542 : zz_Run zz_prog d 88 (542, [l0, l1, l2, l3, l4, l5, l6], st, k, h) = zz_Run zz_prog d 88 (543, [l0, l1, l2, l3, l4, l5, l6], .int 3 :: st, k, h) := zz_k_num f88_542 rfl
theorem f88_543 : zz_fetch zz_prog 88 543 = some (.goto 4, 3, [547], []) := zz_fetch_of p88 rfl rfl
theorem s88_543 : zz_Run zz_prog d 88 (543, [l0, l1, l2, l3, l4, l5, l6], st, k, h) = zz_Run zz_prog d 88 (547, [l0, l1, l2, l3, l4, l5, l6], st, k, h) := zz_k_num f88_543 rfl
theorem f88_546 : zz_fetch zz_prog 88 546 = some (.iconst 4, 1, [], []) := zz_fetch_of p88 rfl rfl
theorem s88_546 : zz_Run zz_prog d 88 (546, [l0, l1, l2, l3, l4, l5, l6], st, k, h) = zz_Run zz_prog d 88 (547, [l0, l1, l2, l3, l4, l5, l6], .int 4 :: st, k, h) := zz_k_num f88_546 rfl
theorem f88_547 : zz_fetch zz_prog 88 547 = some (.istore 4, 2, [], []) := zz_fetch_of p88 rfl rfl
theorem s88_547 : zz_Run zz_prog d 88 (547, [l0, l1, l2, l3, l4, l5, l6], .int v :: st, k, h) = zz_sl l3 (zz_Run zz_prog d 88 (549, [l0, l1, l2, l3, some (.int v), l5, l6], st, k, h)) := zz_k_st (j := 4) (u := .int v) f88_547 rfl (fun q hq => by cases hq) rfl (show 4 < 7 by decide) (by cases l3 <;> rfl) rfl
theorem f88_549 : zz_fetch zz_prog 88 549 = some (.iload_n 3, 1, [], []) := zz_fetch_of p88 rfl rfl
theorem s88_549 : zz_Run zz_prog d 88 (549, [l0, l1, l2, some (.int v), l4, l5, l6], st, k, h) = zz_Run zz_prog d 88 (550, [l0, l1, l2, some (.int v), l4, l5, l6], .int v :: st, k, h) := zz_k_num f88_549 rfl
theorem f88_550 : zz_fetch zz_prog 88 550 = some (.iload 4, 2, [], []) := zz_fetch_of p88 rfl rfl
theorem s88_550 : zz_Run zz_prog d 88 (550, [l0, l1, l2, l3, some (.int v), l5, l6], st, k, h) = zz_Run zz_prog d 88 (552, [l0, l1, l2, l3, some (.int v), l5, l6], .int v :: st, k, h) := zz_k_num f88_550 rfl
theorem f88_552 : zz_fetch zz_prog 88 552 = some (.ifCond .ne 7, 3, [559], []) := zz_fetch_of p88 rfl rfl
theorem s88_552 : zz_Run zz_prog d 88 (552, [l0, l1, l2, l3, l4, l5, l6], .int v :: st, k, h) = if ¬ v = 0 then zz_Run zz_prog d 88 (559, [l0, l1, l2, l3, l4, l5, l6], st, k, h) else zz_Run zz_prog d 88 (555, [l0, l1, l2, l3, l4, l5, l6], st, k, h) := zz_k_br (¬ v = 0) rfl (zz_k_num f88_552 rfl)
theorem f88_555 : zz_fetch zz_prog 88 555 = some (.iconst 0, 1, [], []) := zz_fetch_of p88 rfl rfl
theorem s88_555 : zz_Run zz_prog d 88 (555, [l0, l1, l2, l3, l4, l5, l6], st, k, h) = zz_Run zz_prog d 88 (556, [l0, l1, l2, l3, l4, l5, l6], .int 0 :: st, k, h) := zz_k_num f88_555 rfl
theorem f88_556 : zz_fetch zz_prog 88 556 = some (.goto 37, 3, [593], []) := zz_fetch_of p88 rfl rfl
theorem s88_556 : zz_Run zz_prog d 88 (556, [l0, l1, l2, l3, l4, l5, l6], st, k, h) = zz_Run zz_prog d 88 (593, [l0, l1, l2, l3, l4, l5, l6], st, k, h) := zz_k_num f88_556 rfl
theorem f88_559 : zz_fetch zz_prog 88 559 = some (.iload 4, 2, [], []) := zz_fetch_of p88 rfl rfl
theorem s88_559 : zz_Run zz_prog d 88 (559, [l0, l1, l2, l3, some (.int v), l5, l6], st, k, h) = zz_Run zz_prog d 88 (561, [l0, l1, l2, l3, some (.int v), l5, l6], .int v :: st, k, h) := zz_k_num f88_559 rfl
theorem f88_561 : zz_fetch zz_prog 88 561 = some (.iconst 1, 1, [], []) := zz_fetch_of p88 rfl rfl
theorem s88_561 : zz_Run zz_prog d 88 (561, [l0, l1, l2, l3, l4, l5, l6], st, k, h) = zz_Run zz_prog d 88 (562, [l0, l1, l2, l3, l4, l5, l6], .int 1 :: st, k, h) := zz_k_num f88_561 rfl
theorem f88_562 : zz_fetch zz_prog 88 562 = some (.if_icmp .ne 7, 3, [569], []) := zz_fetch_of p88 rfl rfl
theorem s88_562 : zz_Run zz_prog d 88 (562, [l0, l1, l2, l3, l4, l5, l6], .int w :: .int v :: st, k, h) = if ¬ v = w then zz_Run zz_prog d 88 (569, [l0, l1, l2, l3, l4, l5, l6], st, k, h) else zz_Run zz_prog d 88 (565, [l0, l1, l2, l3, l4, l5, l6], st, k, h) := zz_k_br (¬ v = w) rfl (zz_k_num f88_562 rfl)
theorem f88_565 : zz_fetch zz_prog 88 565 = some (.iconst 3, 1, [], []) := zz_fetch_of p88 rfl rfl
theorem s88_565 : zz_Run zz_prog d 88 (565, [l0, l1, l2, l3, l4, l5, l6], st, k, h) = zz_Run zz_prog d 88 (566, [l0, l1, l2, l3, l4, l5, l6], .int 3 :: st, k, h) := zz_k_num f88_565 rfl
theorem f88_566 : zz_fetch zz_prog 88 566 = some (.goto 27, 3, [593], []) := zz_fetch_of p88 rfl rfl
theorem s88_566 : zz_Run zz_prog d 88 (566, [l0, l1, l2, l3, l4, l5, l6], st, k, h) = zz_Run zz_prog d 88 (593, [l0, l1, l2, l3, l4, l5, l6], st, k, h) := zz_k_num f88_566 rfl
theorem f88_569 : zz_fetch zz_prog 88 569 = some (.iload 4, 2, [], []) := zz_fetch_of p88 rfl rfl
theorem s88_569 : zz_Run zz_prog d 88 (569, [l0, l1, l2, l3, some (.int v), l5, l6], st, k, h) = zz_Run zz_prog d 88 (571, [l0, l1, l2, l3, some (.int v), l5, l6], .int v :: st, k, h) := zz_k_num f88_569 rfl
theorem f88_571 : zz_fetch zz_prog 88 571 = some (.iconst 2, 1, [], []) := zz_fetch_of p88 rfl rfl
theorem s88_571 : zz_Run zz_prog d 88 (571, [l0, l1, l2, l3, l4, l5, l6], st, k, h) = zz_Run zz_prog d 88 (572, [l0, l1, l2, l3, l4, l5, l6], .int 2 :: st, k, h) := zz_k_num f88_571 rfl
theorem f88_572 : zz_fetch zz_prog 88 572 = some (.if_icmp .ne 8, 3, [580], []) := zz_fetch_of p88 rfl rfl
theorem s88_572 : zz_Run zz_prog d 88 (572, [l0, l1, l2, l3, l4, l5, l6], .int w :: .int v :: st, k, h) = if ¬ v = w then zz_Run zz_prog d 88 (580, [l0, l1, l2, l3, l4, l5, l6], st, k, h) else zz_Run zz_prog d 88 (575, [l0, l1, l2, l3, l4, l5, l6], st, k, h) := zz_k_br (¬ v = w) rfl (zz_k_num f88_572 rfl)
theorem f88_575 : zz_fetch zz_prog 88 575 = some (.bipush 7, 2, [], []) := zz_fetch_of p88 rfl rfl
theorem s88_575 : zz_Run zz_prog d 88 (575, [l0, l1, l2, l3, l4, l5, l6], st, k, h) = zz_Run zz_prog d 88 (577, [l0, l1, l2, l3, l4, l5, l6], .int 7 :: st, k, h) := zz_k_num f88_575 (congrArg (fun u => some (577, [l0, l1, l2, l3, l4, l5, l6], Value.int u :: st)) (by decide : (Int8.ofInt 7).toInt32 = 7))
theorem f88_577 : zz_fetch zz_prog 88 577 = some (.goto 16, 3, [593], []) := zz_fetch_of p88 rfl rfl
theorem s88_577 : zz_Run zz_prog d 88 (577, [l0, l1, l2, l3, l4, l5, l6], st, k, h) = zz_Run zz_prog d 88 (593, [l0, l1, l2, l3, l4, l5, l6], st, k, h) := zz_k_num f88_577 rfl
theorem f88_580 : zz_fetch zz_prog 88 580 = some (.iload 4, 2, [], []) := zz_fetch_of p88 rfl rfl
theorem s88_580 : zz_Run zz_prog d 88 (580, [l0, l1, l2, l3, some (.int v), l5, l6], st, k, h) = zz_Run zz_prog d 88 (582, [l0, l1, l2, l3, some (.int v), l5, l6], .int v :: st, k, h) := zz_k_num f88_580 rfl
theorem f88_582 : zz_fetch zz_prog 88 582 = some (.iconst 3, 1, [], []) := zz_fetch_of p88 rfl rfl
theorem s88_582 : zz_Run zz_prog d 88 (582, [l0, l1, l2, l3, l4, l5, l6], st, k, h) = zz_Run zz_prog d 88 (583, [l0, l1, l2, l3, l4, l5, l6], .int 3 :: st, k, h) := zz_k_num f88_582 rfl
theorem f88_583 : zz_fetch zz_prog 88 583 = some (.if_icmp .ne 8, 3, [591], []) := zz_fetch_of p88 rfl rfl
theorem s88_583 : zz_Run zz_prog d 88 (583, [l0, l1, l2, l3, l4, l5, l6], .int w :: .int v :: st, k, h) = if ¬ v = w then zz_Run zz_prog d 88 (591, [l0, l1, l2, l3, l4, l5, l6], st, k, h) else zz_Run zz_prog d 88 (586, [l0, l1, l2, l3, l4, l5, l6], st, k, h) := zz_k_br (¬ v = w) rfl (zz_k_num f88_583 rfl)
theorem f88_586 : zz_fetch zz_prog 88 586 = some (.bipush 12, 2, [], []) := zz_fetch_of p88 rfl rfl
theorem s88_586 : zz_Run zz_prog d 88 (586, [l0, l1, l2, l3, l4, l5, l6], st, k, h) = zz_Run zz_prog d 88 (588, [l0, l1, l2, l3, l4, l5, l6], .int 12 :: st, k, h) := zz_k_num f88_586 (congrArg (fun u => some (588, [l0, l1, l2, l3, l4, l5, l6], Value.int u :: st)) (by decide : (Int8.ofInt 12).toInt32 = 12))
theorem f88_588 : zz_fetch zz_prog 88 588 = some (.goto 5, 3, [593], []) := zz_fetch_of p88 rfl rfl
theorem s88_588 : zz_Run zz_prog d 88 (588, [l0, l1, l2, l3, l4, l5, l6], st, k, h) = zz_Run zz_prog d 88 (593, [l0, l1, l2, l3, l4, l5, l6], st, k, h) := zz_k_num f88_588 rfl
theorem f88_591 : zz_fetch zz_prog 88 591 = some (.bipush 16, 2, [], []) := zz_fetch_of p88 rfl rfl
theorem s88_591 : zz_Run zz_prog d 88 (591, [l0, l1, l2, l3, l4, l5, l6], st, k, h) = zz_Run zz_prog d 88 (593, [l0, l1, l2, l3, l4, l5, l6], .int 16 :: st, k, h) := zz_k_num f88_591 (congrArg (fun u => some (593, [l0, l1, l2, l3, l4, l5, l6], Value.int u :: st)) (by decide : (Int8.ofInt 16).toInt32 = 16))
theorem f88_593 : zz_fetch zz_prog 88 593 = some (.isub, 1, [], []) := zz_fetch_of p88 rfl rfl
theorem s88_593 : zz_Run zz_prog d 88 (593, [l0, l1, l2, l3, l4, l5, l6], .int w :: .int v :: st, k, h) = zz_Run zz_prog d 88 (594, [l0, l1, l2, l3, l4, l5, l6], .int (v - w) :: st, k, h) := zz_k_num f88_593 rfl
theorem f88_594 : zz_fetch zz_prog 88 594 = some (.istore 5, 2, [], []) := zz_fetch_of p88 rfl rfl
theorem s88_594 : zz_Run zz_prog d 88 (594, [l0, l1, l2, l3, l4, l5, l6], .int v :: st, k, h) = zz_sl l4 (zz_Run zz_prog d 88 (596, [l0, l1, l2, l3, l4, some (.int v), l6], st, k, h)) := zz_k_st (j := 5) (u := .int v) f88_594 rfl (fun q hq => by cases hq) rfl (show 5 < 7 by decide) (by cases l4 <;> rfl) rfl
theorem f88_596 : zz_fetch zz_prog 88 596 = some (.iconst 2, 1, [], []) := zz_fetch_of p88 rfl rfl
theorem s88_596 : zz_Run zz_prog d 88 (596, [l0, l1, l2, l3, l4, l5, l6], st, k, h) = zz_Run zz_prog d 88 (597, [l0, l1, l2, l3, l4, l5, l6], .int 2 :: st, k, h) := zz_k_num f88_596 rfl
theorem f88_597 : zz_fetch zz_prog 88 597 = some (.iload 5, 2, [], []) := zz_fetch_of p88 rfl rfl
theorem s88_597 : zz_Run zz_prog d 88 (597, [l0, l1, l2, l3, l4, some (.int v), l6], st, k, h) = zz_Run zz_prog d 88 (599, [l0, l1, l2, l3, l4, some (.int v), l6], .int v :: st, k, h) := zz_k_num f88_597 rfl
theorem f88_599 : zz_fetch zz_prog 88 599 = some (.imul, 1, [], []) := zz_fetch_of p88 rfl rfl
theorem s88_599 : zz_Run zz_prog d 88 (599, [l0, l1, l2, l3, l4, l5, l6], .int w :: .int v :: st, k, h) = zz_Run zz_prog d 88 (600, [l0, l1, l2, l3, l4, l5, l6], .int (v * w) :: st, k, h) := zz_k_num f88_599 rfl
theorem f88_600 : zz_fetch zz_prog 88 600 = some (.iload 4, 2, [], []) := zz_fetch_of p88 rfl rfl
theorem s88_600 : zz_Run zz_prog d 88 (600, [l0, l1, l2, l3, some (.int v), l5, l6], st, k, h) = zz_Run zz_prog d 88 (602, [l0, l1, l2, l3, some (.int v), l5, l6], .int v :: st, k, h) := zz_k_num f88_600 rfl
theorem f88_602 : zz_fetch zz_prog 88 602 = some (.iconst 2, 1, [], []) := zz_fetch_of p88 rfl rfl
theorem s88_602 : zz_Run zz_prog d 88 (602, [l0, l1, l2, l3, l4, l5, l6], st, k, h) = zz_Run zz_prog d 88 (603, [l0, l1, l2, l3, l4, l5, l6], .int 2 :: st, k, h) := zz_k_num f88_602 rfl
theorem f88_603 : zz_fetch zz_prog 88 603 = some (.if_icmp .ge 10, 3, [613], []) := zz_fetch_of p88 rfl rfl
theorem s88_603 : zz_Run zz_prog d 88 (603, [l0, l1, l2, l3, l4, l5, l6], .int w :: .int v :: st, k, h) = if w ≤ v then zz_Run zz_prog d 88 (613, [l0, l1, l2, l3, l4, l5, l6], st, k, h) else zz_Run zz_prog d 88 (606, [l0, l1, l2, l3, l4, l5, l6], st, k, h) := zz_k_br (w ≤ v) rfl (zz_k_num f88_603 rfl)
theorem f88_606 : zz_fetch zz_prog 88 606 = some (.iconst 2, 1, [], []) := zz_fetch_of p88 rfl rfl
theorem s88_606 : zz_Run zz_prog d 88 (606, [l0, l1, l2, l3, l4, l5, l6], st, k, h) = zz_Run zz_prog d 88 (607, [l0, l1, l2, l3, l4, l5, l6], .int 2 :: st, k, h) := zz_k_num f88_606 rfl
theorem f88_607 : zz_fetch zz_prog 88 607 = some (.iload 4, 2, [], []) := zz_fetch_of p88 rfl rfl
theorem s88_607 : zz_Run zz_prog d 88 (607, [l0, l1, l2, l3, some (.int v), l5, l6], st, k, h) = zz_Run zz_prog d 88 (609, [l0, l1, l2, l3, some (.int v), l5, l6], .int v :: st, k, h) := zz_k_num f88_607 rfl
theorem f88_609 : zz_fetch zz_prog 88 609 = some (.isub, 1, [], []) := zz_fetch_of p88 rfl rfl
theorem s88_609 : zz_Run zz_prog d 88 (609, [l0, l1, l2, l3, l4, l5, l6], .int w :: .int v :: st, k, h) = zz_Run zz_prog d 88 (610, [l0, l1, l2, l3, l4, l5, l6], .int (v - w) :: st, k, h) := zz_k_num f88_609 rfl
theorem f88_610 : zz_fetch zz_prog 88 610 = some (.goto 7, 3, [617], []) := zz_fetch_of p88 rfl rfl
theorem s88_610 : zz_Run zz_prog d 88 (610, [l0, l1, l2, l3, l4, l5, l6], st, k, h) = zz_Run zz_prog d 88 (617, [l0, l1, l2, l3, l4, l5, l6], st, k, h) := zz_k_num f88_610 rfl
theorem f88_613 : zz_fetch zz_prog 88 613 = some (.iload 4, 2, [], []) := zz_fetch_of p88 rfl rfl
theorem s88_613 : zz_Run zz_prog d 88 (613, [l0, l1, l2, l3, some (.int v), l5, l6], st, k, h) = zz_Run zz_prog d 88 (615, [l0, l1, l2, l3, some (.int v), l5, l6], .int v :: st, k, h) := zz_k_num f88_613 rfl
theorem f88_615 : zz_fetch zz_prog 88 615 = some (.iconst 2, 1, [], []) := zz_fetch_of p88 rfl rfl
theorem s88_615 : zz_Run zz_prog d 88 (615, [l0, l1, l2, l3, l4, l5, l6], st, k, h) = zz_Run zz_prog d 88 (616, [l0, l1, l2, l3, l4, l5, l6], .int 2 :: st, k, h) := zz_k_num f88_615 rfl
theorem f88_616 : zz_fetch zz_prog 88 616 = some (.isub, 1, [], []) := zz_fetch_of p88 rfl rfl
theorem s88_616 : zz_Run zz_prog d 88 (616, [l0, l1, l2, l3, l4, l5, l6], .int w :: .int v :: st, k, h) = zz_Run zz_prog d 88 (617, [l0, l1, l2, l3, l4, l5, l6], .int (v - w) :: st, k, h) := zz_k_num f88_616 rfl
theorem f88_617 : zz_fetch zz_prog 88 617 = some (.iadd, 1, [], []) := zz_fetch_of p88 rfl rfl
theorem s88_617 : zz_Run zz_prog d 88 (617, [l0, l1, l2, l3, l4, l5, l6], .int w :: .int v :: st, k, h) = zz_Run zz_prog d 88 (618, [l0, l1, l2, l3, l4, l5, l6], .int (v + w) :: st, k, h) := zz_k_num f88_617 rfl
theorem f88_618 : zz_fetch zz_prog 88 618 = some (.istore 6, 2, [], []) := zz_fetch_of p88 rfl rfl
theorem s88_618 : zz_Run zz_prog d 88 (618, [l0, l1, l2, l3, l4, l5, l6], .int v :: st, k, h) = zz_sl l5 (zz_Run zz_prog d 88 (620, [l0, l1, l2, l3, l4, l5, some (.int v)], st, k, h)) := zz_k_st (j := 6) (u := .int v) f88_618 rfl (fun q hq => by cases hq) rfl (show 6 < 7 by decide) (by cases l5 <;> rfl) rfl
theorem f88_620 : zz_fetch zz_prog 88 620 = some (.aload_n 0, 1, [], []) := zz_fetch_of p88 rfl rfl
theorem s88_620 : zz_Run zz_prog d 88 (620, [some (.ref a), l1, l2, l3, l4, l5, l6], st, k, h) = zz_Run zz_prog d 88 (621, [some (.ref a), l1, l2, l3, l4, l5, l6], .ref a :: st, k, h) := zz_k_num f88_620 rfl
theorem f88_621 : zz_fetch zz_prog 88 621 = some (.getfield 28, 3, [2, 8, 3], []) := zz_fetch_of p88 rfl rfl
theorem f88_624 : zz_fetch zz_prog 88 624 = some (.bipush 6, 2, [], []) := zz_fetch_of p88 rfl rfl
theorem s88_624 : zz_Run zz_prog d 88 (624, [l0, l1, l2, l3, l4, l5, l6], st, k, h) = zz_Run zz_prog d 88 (626, [l0, l1, l2, l3, l4, l5, l6], .int 6 :: st, k, h) := zz_k_num f88_624 (congrArg (fun u => some (626, [l0, l1, l2, l3, l4, l5, l6], Value.int u :: st)) (by decide : (Int8.ofInt 6).toInt32 = 6))
theorem f88_626 : zz_fetch zz_prog 88 626 = some (.iload_n 3, 1, [], []) := zz_fetch_of p88 rfl rfl
theorem s88_626 : zz_Run zz_prog d 88 (626, [l0, l1, l2, some (.int v), l4, l5, l6], st, k, h) = zz_Run zz_prog d 88 (627, [l0, l1, l2, some (.int v), l4, l5, l6], .int v :: st, k, h) := zz_k_num f88_626 rfl
theorem f88_627 : zz_fetch zz_prog 88 627 = some (.imul, 1, [], []) := zz_fetch_of p88 rfl rfl
theorem s88_627 : zz_Run zz_prog d 88 (627, [l0, l1, l2, l3, l4, l5, l6], .int w :: .int v :: st, k, h) = zz_Run zz_prog d 88 (628, [l0, l1, l2, l3, l4, l5, l6], .int (v * w) :: st, k, h) := zz_k_num f88_627 rfl
theorem f88_628 : zz_fetch zz_prog 88 628 = some (.aload_n 0, 1, [], []) := zz_fetch_of p88 rfl rfl
theorem s88_628 : zz_Run zz_prog d 88 (628, [some (.ref a), l1, l2, l3, l4, l5, l6], st, k, h) = zz_Run zz_prog d 88 (629, [some (.ref a), l1, l2, l3, l4, l5, l6], .ref a :: st, k, h) := zz_k_num f88_628 rfl
theorem f88_629 : zz_fetch zz_prog 88 629 = some (.iconst 2, 1, [], []) := zz_fetch_of p88 rfl rfl
theorem s88_629 : zz_Run zz_prog d 88 (629, [l0, l1, l2, l3, l4, l5, l6], st, k, h) = zz_Run zz_prog d 88 (630, [l0, l1, l2, l3, l4, l5, l6], .int 2 :: st, k, h) := zz_k_num f88_629 rfl
theorem f88_630 : zz_fetch zz_prog 88 630 = some (.iload 4, 2, [], []) := zz_fetch_of p88 rfl rfl
theorem s88_630 : zz_Run zz_prog d 88 (630, [l0, l1, l2, l3, some (.int v), l5, l6], st, k, h) = zz_Run zz_prog d 88 (632, [l0, l1, l2, l3, some (.int v), l5, l6], .int v :: st, k, h) := zz_k_num f88_630 rfl
theorem f88_632 : zz_fetch zz_prog 88 632 = some (.imul, 1, [], []) := zz_fetch_of p88 rfl rfl
theorem s88_632 : zz_Run zz_prog d 88 (632, [l0, l1, l2, l3, l4, l5, l6], .int w :: .int v :: st, k, h) = zz_Run zz_prog d 88 (633, [l0, l1, l2, l3, l4, l5, l6], .int (v * w) :: st, k, h) := zz_k_num f88_632 rfl
theorem f88_633 : zz_fetch zz_prog 88 633 = some (.iload 6, 2, [], []) := zz_fetch_of p88 rfl rfl
theorem s88_633 : zz_Run zz_prog d 88 (633, [l0, l1, l2, l3, l4, l5, some (.int v)], st, k, h) = zz_Run zz_prog d 88 (635, [l0, l1, l2, l3, l4, l5, some (.int v)], .int v :: st, k, h) := zz_k_num f88_633 rfl
theorem f88_635 : zz_fetch zz_prog 88 635 = some (.invokevirtual 74, 3, [0, 92, 3, 2], []) := zz_fetch_of p88 rfl rfl
theorem f88_638 : zz_fetch zz_prog 88 638 = some (.iastore, 1, [], []) := zz_fetch_of p88 rfl rfl
theorem f88_639 : zz_fetch zz_prog 88 639 = some (.aload_n 0, 1, [], []) := zz_fetch_of p88 rfl rfl
theorem s88_639 : zz_Run zz_prog d 88 (639, [some (.ref a), l1, l2, l3, l4, l5, l6], st, k, h) = zz_Run zz_prog d 88 (640, [some (.ref a), l1, l2, l3, l4, l5, l6], .ref a :: st, k, h) := zz_k_num f88_639 rfl
theorem f88_640 : zz_fetch zz_prog 88 640 = some (.getfield 28, 3, [2, 8, 3], []) := zz_fetch_of p88 rfl rfl
theorem f88_643 : zz_fetch zz_prog 88 643 = some (.bipush 6, 2, [], []) := zz_fetch_of p88 rfl rfl
theorem s88_643 : zz_Run zz_prog d 88 (643, [l0, l1, l2, l3, l4, l5, l6], st, k, h) = zz_Run zz_prog d 88 (645, [l0, l1, l2, l3, l4, l5, l6], .int 6 :: st, k, h) := zz_k_num f88_643 (congrArg (fun u => some (645, [l0, l1, l2, l3, l4, l5, l6], Value.int u :: st)) (by decide : (Int8.ofInt 6).toInt32 = 6))
theorem f88_645 : zz_fetch zz_prog 88 645 = some (.iload_n 3, 1, [], []) := zz_fetch_of p88 rfl rfl
theorem s88_645 : zz_Run zz_prog d 88 (645, [l0, l1, l2, some (.int v), l4, l5, l6], st, k, h) = zz_Run zz_prog d 88 (646, [l0, l1, l2, some (.int v), l4, l5, l6], .int v :: st, k, h) := zz_k_num f88_645 rfl
theorem f88_646 : zz_fetch zz_prog 88 646 = some (.imul, 1, [], []) := zz_fetch_of p88 rfl rfl
theorem s88_646 : zz_Run zz_prog d 88 (646, [l0, l1, l2, l3, l4, l5, l6], .int w :: .int v :: st, k, h) = zz_Run zz_prog d 88 (647, [l0, l1, l2, l3, l4, l5, l6], .int (v * w) :: st, k, h) := zz_k_num f88_646 rfl
theorem f88_647 : zz_fetch zz_prog 88 647 = some (.iconst 1, 1, [], []) := zz_fetch_of p88 rfl rfl
theorem s88_647 : zz_Run zz_prog d 88 (647, [l0, l1, l2, l3, l4, l5, l6], st, k, h) = zz_Run zz_prog d 88 (648, [l0, l1, l2, l3, l4, l5, l6], .int 1 :: st, k, h) := zz_k_num f88_647 rfl
theorem f88_648 : zz_fetch zz_prog 88 648 = some (.iadd, 1, [], []) := zz_fetch_of p88 rfl rfl
theorem s88_648 : zz_Run zz_prog d 88 (648, [l0, l1, l2, l3, l4, l5, l6], .int w :: .int v :: st, k, h) = zz_Run zz_prog d 88 (649, [l0, l1, l2, l3, l4, l5, l6], .int (v + w) :: st, k, h) := zz_k_num f88_648 rfl
theorem f88_649 : zz_fetch zz_prog 88 649 = some (.aload_n 0, 1, [], []) := zz_fetch_of p88 rfl rfl
theorem s88_649 : zz_Run zz_prog d 88 (649, [some (.ref a), l1, l2, l3, l4, l5, l6], st, k, h) = zz_Run zz_prog d 88 (650, [some (.ref a), l1, l2, l3, l4, l5, l6], .ref a :: st, k, h) := zz_k_num f88_649 rfl
theorem f88_650 : zz_fetch zz_prog 88 650 = some (.iconst 2, 1, [], []) := zz_fetch_of p88 rfl rfl
theorem s88_650 : zz_Run zz_prog d 88 (650, [l0, l1, l2, l3, l4, l5, l6], st, k, h) = zz_Run zz_prog d 88 (651, [l0, l1, l2, l3, l4, l5, l6], .int 2 :: st, k, h) := zz_k_num f88_650 rfl
theorem f88_651 : zz_fetch zz_prog 88 651 = some (.iload 4, 2, [], []) := zz_fetch_of p88 rfl rfl
theorem s88_651 : zz_Run zz_prog d 88 (651, [l0, l1, l2, l3, some (.int v), l5, l6], st, k, h) = zz_Run zz_prog d 88 (653, [l0, l1, l2, l3, some (.int v), l5, l6], .int v :: st, k, h) := zz_k_num f88_651 rfl
theorem f88_653 : zz_fetch zz_prog 88 653 = some (.imul, 1, [], []) := zz_fetch_of p88 rfl rfl
theorem s88_653 : zz_Run zz_prog d 88 (653, [l0, l1, l2, l3, l4, l5, l6], .int w :: .int v :: st, k, h) = zz_Run zz_prog d 88 (654, [l0, l1, l2, l3, l4, l5, l6], .int (v * w) :: st, k, h) := zz_k_num f88_653 rfl
theorem f88_654 : zz_fetch zz_prog 88 654 = some (.iconst 1, 1, [], []) := zz_fetch_of p88 rfl rfl
theorem s88_654 : zz_Run zz_prog d 88 (654, [l0, l1, l2, l3, l4, l5, l6], st, k, h) = zz_Run zz_prog d 88 (655, [l0, l1, l2, l3, l4, l5, l6], .int 1 :: st, k, h) := zz_k_num f88_654 rfl
theorem f88_655 : zz_fetch zz_prog 88 655 = some (.iadd, 1, [], []) := zz_fetch_of p88 rfl rfl
theorem s88_655 : zz_Run zz_prog d 88 (655, [l0, l1, l2, l3, l4, l5, l6], .int w :: .int v :: st, k, h) = zz_Run zz_prog d 88 (656, [l0, l1, l2, l3, l4, l5, l6], .int (v + w) :: st, k, h) := zz_k_num f88_655 rfl
theorem f88_656 : zz_fetch zz_prog 88 656 = some (.iload 6, 2, [], []) := zz_fetch_of p88 rfl rfl
theorem s88_656 : zz_Run zz_prog d 88 (656, [l0, l1, l2, l3, l4, l5, some (.int v)], st, k, h) = zz_Run zz_prog d 88 (658, [l0, l1, l2, l3, l4, l5, some (.int v)], .int v :: st, k, h) := zz_k_num f88_656 rfl
theorem f88_658 : zz_fetch zz_prog 88 658 = some (.iconst 1, 1, [], []) := zz_fetch_of p88 rfl rfl
theorem s88_658 : zz_Run zz_prog d 88 (658, [l0, l1, l2, l3, l4, l5, l6], st, k, h) = zz_Run zz_prog d 88 (659, [l0, l1, l2, l3, l4, l5, l6], .int 1 :: st, k, h) := zz_k_num f88_658 rfl
theorem f88_659 : zz_fetch zz_prog 88 659 = some (.isub, 1, [], []) := zz_fetch_of p88 rfl rfl
theorem s88_659 : zz_Run zz_prog d 88 (659, [l0, l1, l2, l3, l4, l5, l6], .int w :: .int v :: st, k, h) = zz_Run zz_prog d 88 (660, [l0, l1, l2, l3, l4, l5, l6], .int (v - w) :: st, k, h) := zz_k_num f88_659 rfl
theorem f88_660 : zz_fetch zz_prog 88 660 = some (.invokevirtual 74, 3, [0, 92, 3, 2], []) := zz_fetch_of p88 rfl rfl
theorem f88_663 : zz_fetch zz_prog 88 663 = some (.iastore, 1, [], []) := zz_fetch_of p88 rfl rfl
theorem f88_664 : zz_fetch zz_prog 88 664 = some (.aload_n 0, 1, [], []) := zz_fetch_of p88 rfl rfl
theorem s88_664 : zz_Run zz_prog d 88 (664, [some (.ref a), l1, l2, l3, l4, l5, l6], st, k, h) = zz_Run zz_prog d 88 (665, [some (.ref a), l1, l2, l3, l4, l5, l6], .ref a :: st, k, h) := zz_k_num f88_664 rfl
theorem f88_665 : zz_fetch zz_prog 88 665 = some (.getfield 28, 3, [2, 8, 3], []) := zz_fetch_of p88 rfl rfl
theorem f88_668 : zz_fetch zz_prog 88 668 = some (.bipush 6, 2, [], []) := zz_fetch_of p88 rfl rfl
theorem s88_668 : zz_Run zz_prog d 88 (668, [l0, l1, l2, l3, l4, l5, l6], st, k, h) = zz_Run zz_prog d 88 (670, [l0, l1, l2, l3, l4, l5, l6], .int 6 :: st, k, h) := zz_k_num f88_668 (congrArg (fun u => some (670, [l0, l1, l2, l3, l4, l5, l6], Value.int u :: st)) (by decide : (Int8.ofInt 6).toInt32 = 6))
theorem f88_670 : zz_fetch zz_prog 88 670 = some (.iload_n 3, 1, [], []) := zz_fetch_of p88 rfl rfl
theorem s88_670 : zz_Run zz_prog d 88 (670, [l0, l1, l2, some (.int v), l4, l5, l6], st, k, h) = zz_Run zz_prog d 88 (671, [l0, l1, l2, some (.int v), l4, l5, l6], .int v :: st, k, h) := zz_k_num f88_670 rfl
theorem f88_671 : zz_fetch zz_prog 88 671 = some (.imul, 1, [], []) := zz_fetch_of p88 rfl rfl
theorem s88_671 : zz_Run zz_prog d 88 (671, [l0, l1, l2, l3, l4, l5, l6], .int w :: .int v :: st, k, h) = zz_Run zz_prog d 88 (672, [l0, l1, l2, l3, l4, l5, l6], .int (v * w) :: st, k, h) := zz_k_num f88_671 rfl
theorem f88_672 : zz_fetch zz_prog 88 672 = some (.iconst 2, 1, [], []) := zz_fetch_of p88 rfl rfl
theorem s88_672 : zz_Run zz_prog d 88 (672, [l0, l1, l2, l3, l4, l5, l6], st, k, h) = zz_Run zz_prog d 88 (673, [l0, l1, l2, l3, l4, l5, l6], .int 2 :: st, k, h) := zz_k_num f88_672 rfl
theorem f88_673 : zz_fetch zz_prog 88 673 = some (.iadd, 1, [], []) := zz_fetch_of p88 rfl rfl
theorem s88_673 : zz_Run zz_prog d 88 (673, [l0, l1, l2, l3, l4, l5, l6], .int w :: .int v :: st, k, h) = zz_Run zz_prog d 88 (674, [l0, l1, l2, l3, l4, l5, l6], .int (v + w) :: st, k, h) := zz_k_num f88_673 rfl
theorem f88_674 : zz_fetch zz_prog 88 674 = some (.aload_n 0, 1, [], []) := zz_fetch_of p88 rfl rfl
theorem s88_674 : zz_Run zz_prog d 88 (674, [some (.ref a), l1, l2, l3, l4, l5, l6], st, k, h) = zz_Run zz_prog d 88 (675, [some (.ref a), l1, l2, l3, l4, l5, l6], .ref a :: st, k, h) := zz_k_num f88_674 rfl
theorem f88_675 : zz_fetch zz_prog 88 675 = some (.iconst 2, 1, [], []) := zz_fetch_of p88 rfl rfl
theorem s88_675 : zz_Run zz_prog d 88 (675, [l0, l1, l2, l3, l4, l5, l6], st, k, h) = zz_Run zz_prog d 88 (676, [l0, l1, l2, l3, l4, l5, l6], .int 2 :: st, k, h) := zz_k_num f88_675 rfl
theorem f88_676 : zz_fetch zz_prog 88 676 = some (.iload 4, 2, [], []) := zz_fetch_of p88 rfl rfl
theorem s88_676 : zz_Run zz_prog d 88 (676, [l0, l1, l2, l3, some (.int v), l5, l6], st, k, h) = zz_Run zz_prog d 88 (678, [l0, l1, l2, l3, some (.int v), l5, l6], .int v :: st, k, h) := zz_k_num f88_676 rfl
theorem f88_678 : zz_fetch zz_prog 88 678 = some (.imul, 1, [], []) := zz_fetch_of p88 rfl rfl
theorem s88_678 : zz_Run zz_prog d 88 (678, [l0, l1, l2, l3, l4, l5, l6], .int w :: .int v :: st, k, h) = zz_Run zz_prog d 88 (679, [l0, l1, l2, l3, l4, l5, l6], .int (v * w) :: st, k, h) := zz_k_num f88_678 rfl
theorem f88_679 : zz_fetch zz_prog 88 679 = some (.iconst 1, 1, [], []) := zz_fetch_of p88 rfl rfl
theorem s88_679 : zz_Run zz_prog d 88 (679, [l0, l1, l2, l3, l4, l5, l6], st, k, h) = zz_Run zz_prog d 88 (680, [l0, l1, l2, l3, l4, l5, l6], .int 1 :: st, k, h) := zz_k_num f88_679 rfl
theorem f88_680 : zz_fetch zz_prog 88 680 = some (.iadd, 1, [], []) := zz_fetch_of p88 rfl rfl
theorem s88_680 : zz_Run zz_prog d 88 (680, [l0, l1, l2, l3, l4, l5, l6], .int w :: .int v :: st, k, h) = zz_Run zz_prog d 88 (681, [l0, l1, l2, l3, l4, l5, l6], .int (v + w) :: st, k, h) := zz_k_num f88_680 rfl
theorem f88_681 : zz_fetch zz_prog 88 681 = some (.iload 6, 2, [], []) := zz_fetch_of p88 rfl rfl
theorem s88_681 : zz_Run zz_prog d 88 (681, [l0, l1, l2, l3, l4, l5, some (.int v)], st, k, h) = zz_Run zz_prog d 88 (683, [l0, l1, l2, l3, l4, l5, some (.int v)], .int v :: st, k, h) := zz_k_num f88_681 rfl
theorem f88_683 : zz_fetch zz_prog 88 683 = some (.iconst 1, 1, [], []) := zz_fetch_of p88 rfl rfl
theorem s88_683 : zz_Run zz_prog d 88 (683, [l0, l1, l2, l3, l4, l5, l6], st, k, h) = zz_Run zz_prog d 88 (684, [l0, l1, l2, l3, l4, l5, l6], .int 1 :: st, k, h) := zz_k_num f88_683 rfl
theorem f88_684 : zz_fetch zz_prog 88 684 = some (.iadd, 1, [], []) := zz_fetch_of p88 rfl rfl
theorem s88_684 : zz_Run zz_prog d 88 (684, [l0, l1, l2, l3, l4, l5, l6], .int w :: .int v :: st, k, h) = zz_Run zz_prog d 88 (685, [l0, l1, l2, l3, l4, l5, l6], .int (v + w) :: st, k, h) := zz_k_num f88_684 rfl
theorem f88_685 : zz_fetch zz_prog 88 685 = some (.invokevirtual 74, 3, [0, 92, 3, 2], []) := zz_fetch_of p88 rfl rfl
theorem f88_688 : zz_fetch zz_prog 88 688 = some (.iastore, 1, [], []) := zz_fetch_of p88 rfl rfl
theorem f88_689 : zz_fetch zz_prog 88 689 = some (.aload_n 0, 1, [], []) := zz_fetch_of p88 rfl rfl
theorem s88_689 : zz_Run zz_prog d 88 (689, [some (.ref a), l1, l2, l3, l4, l5, l6], st, k, h) = zz_Run zz_prog d 88 (690, [some (.ref a), l1, l2, l3, l4, l5, l6], .ref a :: st, k, h) := zz_k_num f88_689 rfl
theorem f88_690 : zz_fetch zz_prog 88 690 = some (.getfield 28, 3, [2, 8, 3], []) := zz_fetch_of p88 rfl rfl
theorem f88_693 : zz_fetch zz_prog 88 693 = some (.bipush 6, 2, [], []) := zz_fetch_of p88 rfl rfl
theorem s88_693 : zz_Run zz_prog d 88 (693, [l0, l1, l2, l3, l4, l5, l6], st, k, h) = zz_Run zz_prog d 88 (695, [l0, l1, l2, l3, l4, l5, l6], .int 6 :: st, k, h) := zz_k_num f88_693 (congrArg (fun u => some (695, [l0, l1, l2, l3, l4, l5, l6], Value.int u :: st)) (by decide : (Int8.ofInt 6).toInt32 = 6))
theorem f88_695 : zz_fetch zz_prog 88 695 = some (.iload_n 3, 1, [], []) := zz_fetch_of p88 rfl rfl
theorem s88_695 : zz_Run zz_prog d 88 (695, [l0, l1, l2, some (.int v), l4, l5, l6], st, k, h) = zz_Run zz_prog d 88 (696, [l0, l1, l2, some (.int v), l4, l5, l6], .int v :: st, k, h) := zz_k_num f88_695 rfl
theorem f88_696 : zz_fetch zz_prog 88 696 = some (.imul, 1, [], []) := zz_fetch_of p88 rfl rfl
theorem s88_696 : zz_Run zz_prog d 88 (696, [l0, l1, l2, l3, l4, l5, l6], .int w :: .int v :: st, k, h) = zz_Run zz_prog d 88 (697, [l0, l1, l2, l3, l4, l5, l6], .int (v * w) :: st, k, h) := zz_k_num f88_696 rfl
theorem f88_697 : zz_fetch zz_prog 88 697 = some (.iconst 3, 1, [], []) := zz_fetch_of p88 rfl rfl
theorem s88_697 : zz_Run zz_prog d 88 (697, [l0, l1, l2, l3, l4, l5, l6], st, k, h) = zz_Run zz_prog d 88 (698, [l0, l1, l2, l3, l4, l5, l6], .int 3 :: st, k, h) := zz_k_num f88_697 rfl
theorem f88_698 : zz_fetch zz_prog 88 698 = some (.iadd, 1, [], []) := zz_fetch_of p88 rfl rfl
theorem s88_698 : zz_Run zz_prog d 88 (698, [l0, l1, l2, l3, l4, l5, l6], .int w :: .int v :: st, k, h) = zz_Run zz_prog d 88 (699, [l0, l1, l2, l3, l4, l5, l6], .int (v + w) :: st, k, h) := zz_k_num f88_698 rfl
theorem f88_699 : zz_fetch zz_prog 88 699 = some (.aload_n 0, 1, [], []) := zz_fetch_of p88 rfl rfl
theorem s88_699 : zz_Run zz_prog d 88 (699, [some (.ref a), l1, l2, l3, l4, l5, l6], st, k, h) = zz_Run zz_prog d 88 (700, [some (.ref a), l1, l2, l3, l4, l5, l6], .ref a :: st, k, h) := zz_k_num f88_699 rfl
theorem f88_700 : zz_fetch zz_prog 88 700 = some (.iconst 2, 1, [], []) := zz_fetch_of p88 rfl rfl
theorem s88_700 : zz_Run zz_prog d 88 (700, [l0, l1, l2, l3, l4, l5, l6], st, k, h) = zz_Run zz_prog d 88 (701, [l0, l1, l2, l3, l4, l5, l6], .int 2 :: st, k, h) := zz_k_num f88_700 rfl
theorem f88_701 : zz_fetch zz_prog 88 701 = some (.iload 4, 2, [], []) := zz_fetch_of p88 rfl rfl
theorem s88_701 : zz_Run zz_prog d 88 (701, [l0, l1, l2, l3, some (.int v), l5, l6], st, k, h) = zz_Run zz_prog d 88 (703, [l0, l1, l2, l3, some (.int v), l5, l6], .int v :: st, k, h) := zz_k_num f88_701 rfl
theorem f88_703 : zz_fetch zz_prog 88 703 = some (.imul, 1, [], []) := zz_fetch_of p88 rfl rfl
theorem s88_703 : zz_Run zz_prog d 88 (703, [l0, l1, l2, l3, l4, l5, l6], .int w :: .int v :: st, k, h) = zz_Run zz_prog d 88 (704, [l0, l1, l2, l3, l4, l5, l6], .int (v * w) :: st, k, h) := zz_k_num f88_703 rfl
theorem f88_704 : zz_fetch zz_prog 88 704 = some (.iconst 2, 1, [], []) := zz_fetch_of p88 rfl rfl
theorem s88_704 : zz_Run zz_prog d 88 (704, [l0, l1, l2, l3, l4, l5, l6], st, k, h) = zz_Run zz_prog d 88 (705, [l0, l1, l2, l3, l4, l5, l6], .int 2 :: st, k, h) := zz_k_num f88_704 rfl
theorem f88_705 : zz_fetch zz_prog 88 705 = some (.iadd, 1, [], []) := zz_fetch_of p88 rfl rfl
theorem s88_705 : zz_Run zz_prog d 88 (705, [l0, l1, l2, l3, l4, l5, l6], .int w :: .int v :: st, k, h) = zz_Run zz_prog d 88 (706, [l0, l1, l2, l3, l4, l5, l6], .int (v + w) :: st, k, h) := zz_k_num f88_705 rfl
theorem f88_706 : zz_fetch zz_prog 88 706 = some (.iload 6, 2, [], []) := zz_fetch_of p88 rfl rfl
theorem s88_706 : zz_Run zz_prog d 88 (706, [l0, l1, l2, l3, l4, l5, some (.int v)], st, k, h) = zz_Run zz_prog d 88 (708, [l0, l1, l2, l3, l4, l5, some (.int v)], .int v :: st, k, h) := zz_k_num f88_706 rfl
theorem f88_708 : zz_fetch zz_prog 88 708 = some (.iconst 1, 1, [], []) := zz_fetch_of p88 rfl rfl
theorem s88_708 : zz_Run zz_prog d 88 (708, [l0, l1, l2, l3, l4, l5, l6], st, k, h) = zz_Run zz_prog d 88 (709, [l0, l1, l2, l3, l4, l5, l6], .int 1 :: st, k, h) := zz_k_num f88_708 rfl
theorem f88_709 : zz_fetch zz_prog 88 709 = some (.isub, 1, [], []) := zz_fetch_of p88 rfl rfl
theorem s88_709 : zz_Run zz_prog d 88 (709, [l0, l1, l2, l3, l4, l5, l6], .int w :: .int v :: st, k, h) = zz_Run zz_prog d 88 (710, [l0, l1, l2, l3, l4, l5, l6], .int (v - w) :: st, k, h) := zz_k_num f88_709 rfl
theorem f88_710 : zz_fetch zz_prog 88 710 = some (.invokevirtual 74, 3, [0, 92, 3, 2], []) := zz_fetch_of p88 rfl rfl
theorem f88_713 : zz_fetch zz_prog 88 713 = some (.iastore, 1, [], []) := zz_fetch_of p88 rfl rfl
theorem f88_714 : zz_fetch zz_prog 88 714 = some (.aload_n 0, 1, [], []) := zz_fetch_of p88 rfl rfl
theorem s88_714 : zz_Run zz_prog d 88 (714, [some (.ref a), l1, l2, l3, l4, l5, l6], st, k, h) = zz_Run zz_prog d 88 (715, [some (.ref a), l1, l2, l3, l4, l5, l6], .ref a :: st, k, h) := zz_k_num f88_714 rfl
theorem f88_715 : zz_fetch zz_prog 88 715 = some (.getfield 28, 3, [2, 8, 3], []) := zz_fetch_of p88 rfl rfl
theorem f88_718 : zz_fetch zz_prog 88 718 = some (.bipush 6, 2, [], []) := zz_fetch_of p88 rfl rfl
theorem s88_718 : zz_Run zz_prog d 88 (718, [l0, l1, l2, l3, l4, l5, l6], st, k, h) = zz_Run zz_prog d 88 (720, [l0, l1, l2, l3, l4, l5, l6], .int 6 :: st, k, h) := zz_k_num f88_718 (congrArg (fun u => some (720, [l0, l1, l2, l3, l4, l5, l6], Value.int u :: st)) (by decide : (Int8.ofInt 6).toInt32 = 6))
theorem f88_720 : zz_fetch zz_prog 88 720 = some (.iload_n 3, 1, [], []) := zz_fetch_of p88 rfl rfl
theorem s88_720 : zz_Run zz_prog d 88 (720, [l0, l1, l2, some (.int v), l4, l5, l6], st, k, h) = zz_Run zz_prog d 88 (721, [l0, l1, l2, some (.int v), l4, l5, l6], .int v :: st, k, h) := zz_k_num f88_720 rfl
theorem f88_721 : zz_fetch zz_prog 88 721 = some (.imul, 1, [], []) := zz_fetch_of p88 rfl rfl
theorem s88_721 : zz_Run zz_prog d 88 (721, [l0, l1, l2, l3, l4, l5, l6], .int w :: .int v :: st, k, h) = zz_Run zz_prog d 88 (722, [l0, l1, l2, l3, l4, l5, l6], .int (v * w) :: st, k, h) := zz_k_num f88_721 rfl
theorem f88_722 : zz_fetch zz_prog 88 722 = some (.iconst 4, 1, [], []) := zz_fetch_of p88 rfl rfl
theorem s88_722 : zz_Run zz_prog d 88 (722, [l0, l1, l2, l3, l4, l5, l6], st, k, h) = zz_Run zz_prog d 88 (723, [l0, l1, l2, l3, l4, l5, l6], .int 4 :: st, k, h) := zz_k_num f88_722 rfl
theorem f88_723 : zz_fetch zz_prog 88 723 = some (.iadd, 1, [], []) := zz_fetch_of p88 rfl rfl
theorem s88_723 : zz_Run zz_prog d 88 (723, [l0, l1, l2, l3, l4, l5, l6], .int w :: .int v :: st, k, h) = zz_Run zz_prog d 88 (724, [l0, l1, l2, l3, l4, l5, l6], .int (v + w) :: st, k, h) := zz_k_num f88_723 rfl
theorem f88_724 : zz_fetch zz_prog 88 724 = some (.aload_n 0, 1, [], []) := zz_fetch_of p88 rfl rfl
theorem s88_724 : zz_Run zz_prog d 88 (724, [some (.ref a), l1, l2, l3, l4, l5, l6], st, k, h) = zz_Run zz_prog d 88 (725, [some (.ref a), l1, l2, l3, l4, l5, l6], .ref a :: st, k, h) := zz_k_num f88_724 rfl
theorem f88_725 : zz_fetch zz_prog 88 725 = some (.iconst 2, 1, [], []) := zz_fetch_of p88 rfl rfl
theorem s88_725 : zz_Run zz_prog d 88 (725, [l0, l1, l2, l3, l4, l5, l6], st, k, h) = zz_Run zz_prog d 88 (726, [l0, l1, l2, l3, l4, l5, l6], .int 2 :: st, k, h) := zz_k_num f88_725 rfl
theorem f88_726 : zz_fetch zz_prog 88 726 = some (.iload 4, 2, [], []) := zz_fetch_of p88 rfl rfl
theorem s88_726 : zz_Run zz_prog d 88 (726, [l0, l1, l2, l3, some (.int v), l5, l6], st, k, h) = zz_Run zz_prog d 88 (728, [l0, l1, l2, l3, some (.int v), l5, l6], .int v :: st, k, h) := zz_k_num f88_726 rfl
theorem f88_728 : zz_fetch zz_prog 88 728 = some (.imul, 1, [], []) := zz_fetch_of p88 rfl rfl
theorem s88_728 : zz_Run zz_prog d 88 (728, [l0, l1, l2, l3, l4, l5, l6], .int w :: .int v :: st, k, h) = zz_Run zz_prog d 88 (729, [l0, l1, l2, l3, l4, l5, l6], .int (v * w) :: st, k, h) := zz_k_num f88_728 rfl
theorem f88_729 : zz_fetch zz_prog 88 729 = some (.iconst 2, 1, [], []) := zz_fetch_of p88 rfl rfl
theorem s88_729 : zz_Run zz_prog d 88 (729, [l0, l1, l2, l3, l4, l5, l6], st, k, h) = zz_Run zz_prog d 88 (730, [l0, l1, l2, l3, l4, l5, l6], .int 2 :: st, k, h) := zz_k_num f88_729 rfl
theorem f88_730 : zz_fetch zz_prog 88 730 = some (.iadd, 1, [], []) := zz_fetch_of p88 rfl rfl
theorem s88_730 : zz_Run zz_prog d 88 (730, [l0, l1, l2, l3, l4, l5, l6], .int w :: .int v :: st, k, h) = zz_Run zz_prog d 88 (731, [l0, l1, l2, l3, l4, l5, l6], .int (v + w) :: st, k, h) := zz_k_num f88_730 rfl
theorem f88_731 : zz_fetch zz_prog 88 731 = some (.iload 6, 2, [], []) := zz_fetch_of p88 rfl rfl
theorem s88_731 : zz_Run zz_prog d 88 (731, [l0, l1, l2, l3, l4, l5, some (.int v)], st, k, h) = zz_Run zz_prog d 88 (733, [l0, l1, l2, l3, l4, l5, some (.int v)], .int v :: st, k, h) := zz_k_num f88_731 rfl
theorem f88_733 : zz_fetch zz_prog 88 733 = some (.iconst 1, 1, [], []) := zz_fetch_of p88 rfl rfl
theorem s88_733 : zz_Run zz_prog d 88 (733, [l0, l1, l2, l3, l4, l5, l6], st, k, h) = zz_Run zz_prog d 88 (734, [l0, l1, l2, l3, l4, l5, l6], .int 1 :: st, k, h) := zz_k_num f88_733 rfl
theorem f88_734 : zz_fetch zz_prog 88 734 = some (.iadd, 1, [], []) := zz_fetch_of p88 rfl rfl
theorem s88_734 : zz_Run zz_prog d 88 (734, [l0, l1, l2, l3, l4, l5, l6], .int w :: .int v :: st, k, h) = zz_Run zz_prog d 88 (735, [l0, l1, l2, l3, l4, l5, l6], .int (v + w) :: st, k, h) := zz_k_num f88_734 rfl
theorem f88_735 : zz_fetch zz_prog 88 735 = some (.invokevirtual 74, 3, [0, 92, 3, 2], []) := zz_fetch_of p88 rfl rfl
theorem f88_738 : zz_fetch zz_prog 88 738 = some (.iastore, 1, [], []) := zz_fetch_of p88 rfl rfl
theorem f88_739 : zz_fetch zz_prog 88 739 = some (.aload_n 0, 1, [], []) := zz_fetch_of p88 rfl rfl
theorem s88_739 : zz_Run zz_prog d 88 (739, [some (.ref a), l1, l2, l3, l4, l5, l6], st, k, h) = zz_Run zz_prog d 88 (740, [some (.ref a), l1, l2, l3, l4, l5, l6], .ref a :: st, k, h) := zz_k_num f88_739 rfl
theorem f88_740 : zz_fetch zz_prog 88 740 = some (.getfield 28, 3, [2, 8, 3], []) := zz_fetch_of p88 rfl rfl
theorem f88_743 : zz_fetch zz_prog 88 743 = some (.bipush 6, 2, [], []) := zz_fetch_of p88 rfl rfl
theorem s88_743 : zz_Run zz_prog d 88 (743, [l0, l1, l2, l3, l4, l5, l6], st, k, h) = zz_Run zz_prog d 88 (745, [l0, l1, l2, l3, l4, l5, l6], .int 6 :: st, k, h) := zz_k_num f88_743 (congrArg (fun u => some (745, [l0, l1, l2, l3, l4, l5, l6], Value.int u :: st)) (by decide : (Int8.ofInt 6).toInt32 = 6))
theorem f88_745 : zz_fetch zz_prog 88 745 = some (.iload_n 3, 1, [], []) := zz_fetch_of p88 rfl rfl
theorem s88_745 : zz_Run zz_prog d 88 (745, [l0, l1, l2, some (.int v), l4, l5, l6], st, k, h) = zz_Run zz_prog d 88 (746, [l0, l1, l2, some (.int v), l4, l5, l6], .int v :: st, k, h) := zz_k_num f88_745 rfl
theorem f88_746 : zz_fetch zz_prog 88 746 = some (.imul, 1, [], []) := zz_fetch_of p88 rfl rfl
theorem s88_746 : zz_Run zz_prog d 88 (746, [l0, l1, l2, l3, l4, l5, l6], .int w :: .int v :: st, k, h) = zz_Run zz_prog d 88 (747, [l0, l1, l2, l3, l4, l5, l6], .int (v * w) :: st, k, h) := zz_k_num f88_746 rfl
theorem f88_747 : zz_fetch zz_prog 88 747 = some (.iconst 5, 1, [], []) := zz_fetch_of p88 rfl rfl
theorem s88_747 : zz_Run zz_prog d 88 (747, [l0, l1, l2, l3, l4, l5, l6], st, k, h) = zz_Run zz_prog d 88 (748, [l0, l1, l2, l3, l4, l5, l6], .int 5 :: st, k, h) := zz_k_num f88_747 rfl
theorem f88_748 : zz_fetch zz_prog 88 748 = some (.iadd, 1, [], []) := zz_fetch_of p88 rfl rfl
theorem s88_748 : zz_Run zz_prog d 88 (748, [l0, l1, l2, l3, l4, l5, l6], .int w :: .int v :: st, k, h) = zz_Run zz_prog d 88 (749, [l0, l1, l2, l3, l4, l5, l6], .int (v + w) :: st, k, h) := zz_k_num f88_748 rfl
theorem f88_749 : zz_fetch zz_prog 88 749 = some (.aload_n 0, 1, [], []) := zz_fetch_of p88 rfl rfl
theorem s88_749 : zz_Run zz_prog d 88 (749, [some (.ref a), l1, l2, l3, l4, l5, l6], st, k, h) = zz_Run zz_prog d 88 (750, [some (.ref a), l1, l2, l3, l4, l5, l6], .ref a :: st, k, h) := zz_k_num f88_749 rfl
theorem f88_750 : zz_fetch zz_prog 88 750 = some (.iconst 2, 1, [], []) := zz_fetch_of p88 rfl rfl
theorem s88_750 : zz_Run zz_prog d 88 (750, [l0, l1, l2, l3, l4, l5, l6], st, k, h) = zz_Run zz_prog d 88 (751, [l0, l1, l2, l3, l4, l5, l6], .int 2 :: st, k, h) := zz_k_num f88_750 rfl
theorem f88_751 : zz_fetch zz_prog 88 751 = some (.iload 4, 2, [], []) := zz_fetch_of p88 rfl rfl
theorem s88_751 : zz_Run zz_prog d 88 (751, [l0, l1, l2, l3, some (.int v), l5, l6], st, k, h) = zz_Run zz_prog d 88 (753, [l0, l1, l2, l3, some (.int v), l5, l6], .int v :: st, k, h) := zz_k_num f88_751 rfl
theorem f88_753 : zz_fetch zz_prog 88 753 = some (.imul, 1, [], []) := zz_fetch_of p88 rfl rfl
theorem s88_753 : zz_Run zz_prog d 88 (753, [l0, l1, l2, l3, l4, l5, l6], .int w :: .int v :: st, k, h) = zz_Run zz_prog d 88 (754, [l0, l1, l2, l3, l4, l5, l6], .int (v * w) :: st, k, h) := zz_k_num f88_753 rfl
theorem f88_754 : zz_fetch zz_prog 88 754 = some (.iconst 3, 1, [], []) := zz_fetch_of p88 rfl rfl
theorem s88_754 : zz_Run zz_prog d 88 (754, [l0, l1, l2, l3, l4, l5, l6], st, k, h) = zz_Run zz_prog d 88 (755, [l0, l1, l2, l3, l4, l5, l6], .int 3 :: st, k, h) := zz_k_num f88_754 rfl
theorem f88_755 : zz_fetch zz_prog 88 755 = some (.iadd, 1, [], []) := zz_fetch_of p88 rfl rfl
theorem s88_755 : zz_Run zz_prog d 88 (755, [l0, l1, l2, l3, l4, l5, l6], .int w :: .int v :: st, k, h) = zz_Run zz_prog d 88 (756, [l0, l1, l2, l3, l4, l5, l6], .int (v + w) :: st, k, h) := zz_k_num f88_755 rfl
theorem f88_756 : zz_fetch zz_prog 88 756 = some (.iload 6, 2, [], []) := zz_fetch_of p88 rfl rfl
theorem s88_756 : zz_Run zz_prog d 88 (756, [l0, l1, l2, l3, l4, l5, some (.int v)], st, k, h) = zz_Run zz_prog d 88 (758, [l0, l1, l2, l3, l4, l5, some (.int v)], .int v :: st, k, h) := zz_k_num f88_756 rfl
theorem f88_758 : zz_fetch zz_prog 88 758 = some (.invokevirtual 74, 3, [0, 92, 3, 2], []) := zz_fetch_of p88 rfl rfl
theorem f88_761 : zz_fetch zz_prog 88 761 = some (.iastore, 1, [], []) := zz_fetch_of p88 rfl rfl
theorem f88_762 : zz_fetch zz_prog 88 762 = some (.iinc 3 1, 3, [], []) := zz_fetch_of p88 rfl rfl
theorem s88_762 : zz_Run zz_prog d 88 (762, [l0, l1, l2, some (.int v), l4, l5, l6], st, k, h) = zz_sl l2 (zz_Run zz_prog d 88 (765, [l0, l1, l2, some (.int (v + 1)), l4, l5, l6], st, k, h)) := zz_k_st (j := 3) (u := .int (v + 1)) f88_762 rfl (fun q hq => by cases hq) rfl (show 3 < 7 by decide) (by cases l2 <;> rfl) rfl
theorem f88_765 : zz_fetch zz_prog 88 765 = some (.goto (-271), 3, [494], []) := zz_fetch_of p88 rfl rfl
theorem s88_765 : zz_Run zz_prog d 88 (765, [l0, l1, l2, l3, l4, l5, l6], st, k, h) = zz_Run zz_prog d 88 (494, [l0, l1, l2, l3, l4, l5, l6], st, k, h) := zz_k_num f88_765 rfl
theorem f88_768 : zz_fetch zz_prog 88 768 = some (.iconst 0, 1, [], []) := zz_fetch_of p88 rfl rfl
theorem s88_768 : zz_Run zz_prog d 88 (768, [l0, l1, l2, l3, l4, l5, l6], st, k, h) = zz_Run zz_prog d 88 (769, [l0, l1, l2, l3, l4, l5, l6], .int 0 :: st, k, h) := zz_k_num f88_768 rfl
theorem f88_769 : zz_fetch zz_prog 88 769 = some (.istore_n 3, 1, [], []) := zz_fetch_of p88 rfl rfl
theorem s88_769 : zz_Run zz_prog d 88 (769, [l0, l1, l2, l3, l4, l5, l6], .int v :: st, k, h) = zz_sl l2 (zz_Run zz_prog d 88 (770, [l0, l1, l2, some (.int v), l4, l5, l6], st, k, h)) := zz_k_st (j := 3) (u := .int v) f88_769 rfl (fun q hq => by cases hq) rfl (show 3 < 7 by decide) (by cases l2 <;> rfl) rfl
theorem f88_770 : zz_fetch zz_prog 88 770 = some (.iload_n 3, 1, [], []) := zz_fetch_of p88 rfl rfl
theorem s88_770 : zz_Run zz_prog d 88 (770, [l0, l1, l2, some (.int v), l4, l5, l6], st, k, h) = zz_Run zz_prog d 88 (771, [l0, l1, l2, some (.int v), l4, l5, l6], .int v :: st, k, h) := zz_k_num f88_770 rfl
theorem f88_771 : zz_fetch zz_prog 88 771 = some (.iconst 5, 1, [], []) := zz_fetch_of p88 rfl rfl
theorem s88_771 : zz_Run zz_prog d 88 (771, [l0, l1, l2, l3, l4, l5, l6], st, k, h) = zz_Run zz_prog d 88 (772, [l0, l1, l2, l3, l4, l5, l6], .int 5 :: st, k, h) := zz_k_num f88_771 rfl
theorem f88_772 : zz_fetch zz_prog 88 772 = some (.if_icmp .ge 21, 3, [793], []) := zz_fetch_of p88 rfl rfl
theorem s88_772 : zz_Run zz_prog d 88 (772, [l0, l1, l2, l3, l4, l5, l6], .int w :: .int v :: st, k, h) = if w ≤ v then zz_Run zz_prog d 88 (793, [l0, l1, l2, l3, l4, l5, l6], st, k, h) else zz_Run zz_prog d 88 (775, [l0, l1, l2, l3, l4, l5, l6], st, k, h) := zz_k_br (w ≤ v) rfl (zz_k_num f88_772 rfl)
theorem f88_775 : zz_fetch zz_prog 88 775 = some (.aload_n 0, 1, [], []) := zz_fetch_of p88 rfl rfl
theorem s88_775 : zz_Run zz_prog d 88 (775, [some (.ref a), l1, l2, l3, l4, l5, l6], st, k, h) = zz_Run zz_prog d 88 (776, [some (.ref a), l1, l2, l3, l4, l5, l6], .ref a :: st, k, h) := zz_k_num f88_775 rfl
theorem f88_776 : zz_fetch zz_prog 88 776 = some (.getfield 7, 3, [2, 1, 3], []) := zz_fetch_of p88 rfl rfl
theorem f88_779 : zz_fetch zz_prog 88 779 = some (.sipush 146, 3, [], []) := zz_fetch_of p88 rfl rfl
theorem s88_779 : zz_Run zz_prog d 88 (779, [l0, l1, l2, l3, l4, l5, l6], st, k, h) = zz_Run zz_prog d 88 (782, [l0, l1, l2, l3, l4, l5, l6], .int 146 :: st, k, h) := zz_k_num f88_779 (congrArg (fun u => some (782, [l0, l1, l2, l3, l4, l5, l6], Value.int u :: st)) (by decide : (Int16.ofInt 146).toInt32 = 146))
theorem f88_782 : zz_fetch zz_prog 88 782 = some (.iload_n 3, 1, [], []) := zz_fetch_of p88 rfl rfl
theorem s88_782 : zz_Run zz_prog d 88 (782, [l0, l1, l2, some (.int v), l4, l5, l6], st, k, h) = zz_Run zz_prog d 88 (783, [l0, l1, l2, some (.int v), l4, l5, l6], .int v :: st, k, h) := zz_k_num f88_782 rfl
theorem f88_783 : zz_fetch zz_prog 88 783 = some (.iadd, 1, [], []) := zz_fetch_of p88 rfl rfl
theorem s88_783 : zz_Run zz_prog d 88 (783, [l0, l1, l2, l3, l4, l5, l6], .int w :: .int v :: st, k, h) = zz_Run zz_prog d 88 (784, [l0, l1, l2, l3, l4, l5, l6], .int (v + w) :: st, k, h) := zz_k_num f88_783 rfl
theorem f88_784 : zz_fetch zz_prog 88 784 = some (.bipush 19, 2, [], []) := zz_fetch_of p88 rfl rfl
theorem s88_784 : zz_Run zz_prog d 88 (784, [l0, l1, l2, l3, l4, l5, l6], st, k, h) = zz_Run zz_prog d 88 (786, [l0, l1, l2, l3, l4, l5, l6], .int 19 :: st, k, h) := zz_k_num f88_784 (congrArg (fun u => some (786, [l0, l1, l2, l3, l4, l5, l6], Value.int u :: st)) (by decide : (Int8.ofInt 19).toInt32 = 19))
theorem f88_786 : zz_fetch zz_prog 88 786 = some (.iastore, 1, [], []) := zz_fetch_of p88 rfl rfl
theorem f88_787 : zz_fetch zz_prog 88 787 = some (.iinc 3 1, 3, [], []) := zz_fetch_of p88 rfl rfl
theorem s88_787 : zz_Run zz_prog d 88 (787, [l0, l1, l2, some (.int v), l4, l5, l6], st, k, h) = zz_sl l2 (zz_Run zz_prog d 88 (790, [l0, l1, l2, some (.int (v + 1)), l4, l5, l6], st, k, h)) := zz_k_st (j := 3) (u := .int (v + 1)) f88_787 rfl (fun q hq => by cases hq) rfl (show 3 < 7 by decide) (by cases l2 <;> rfl) rfl
theorem f88_790 : zz_fetch zz_prog 88 790 = some (.goto (-20), 3, [770], []) := zz_fetch_of p88 rfl rfl
theorem s88_790 : zz_Run zz_prog d 88 (790, [l0, l1, l2, l3, l4, l5, l6], st, k, h) = zz_Run zz_prog d 88 (770, [l0, l1, l2, l3, l4, l5, l6], st, k, h) := zz_k_num f88_790 rfl
theorem f88_793 : zz_fetch zz_prog 88 793 = some (.aload_n 0, 1, [], []) := zz_fetch_of p88 rfl rfl
theorem s88_793 : zz_Run zz_prog d 88 (793, [some (.ref a), l1, l2, l3, l4, l5, l6], st, k, h) = zz_Run zz_prog d 88 (794, [some (.ref a), l1, l2, l3, l4, l5, l6], .ref a :: st, k, h) := zz_k_num f88_793 rfl
theorem f88_794 : zz_fetch zz_prog 88 794 = some (.getfield 7, 3, [2, 1, 3], []) := zz_fetch_of p88 rfl rfl
theorem f88_797 : zz_fetch zz_prog 88 797 = some (.sipush 181, 3, [], []) := zz_fetch_of p88 rfl rfl
theorem s88_797 : zz_Run zz_prog d 88 (797, [l0, l1, l2, l3, l4, l5, l6], st, k, h) = zz_Run zz_prog d 88 (800, [l0, l1, l2, l3, l4, l5, l6], .int 181 :: st, k, h) := zz_k_num f88_797 (congrArg (fun u => some (800, [l0, l1, l2, l3, l4, l5, l6], Value.int u :: st)) (by decide : (Int16.ofInt 181).toInt32 = 181))
theorem f88_800 : zz_fetch zz_prog 88 800 = some (.iconst (-1), 1, [], []) := zz_fetch_of p88 rfl rfl
theorem s88_800 : zz_Run zz_prog d 88 (800, [l0, l1, l2, l3, l4, l5, l6], st, k, h) = zz_Run zz_prog d 88 (801, [l0, l1, l2, l3, l4, l5, l6], .int (-1) :: st, k, h) := zz_k_num f88_800 rfl
theorem f88_801 : zz_fetch zz_prog 88 801 = some (.iastore, 1, [], []) := zz_fetch_of p88 rfl rfl
theorem f88_802 : zz_fetch zz_prog 88 802 = some (.aload_n 0, 1, [], []) := zz_fetch_of p88 rfl rfl
theorem s88_802 : zz_Run zz_prog d 88 (802, [some (.ref a), l1, l2, l3, l4, l5, l6], st, k, h) = zz_Run zz_prog d 88 (803, [some (.ref a), l1, l2, l3, l4, l5, l6], .ref a :: st, k, h) := zz_k_num f88_802 rfl
theorem f88_803 : zz_fetch zz_prog 88 803 = some (.getfield 7, 3, [2, 1, 3], []) := zz_fetch_of p88 rfl rfl
theorem f88_806 : zz_fetch zz_prog 88 806 = some (.sipush 182, 3, [], []) := zz_fetch_of p88 rfl rfl
theorem s88_806 : zz_Run zz_prog d 88 (806, [l0, l1, l2, l3, l4, l5, l6], st, k, h) = zz_Run zz_prog d 88 (809, [l0, l1, l2, l3, l4, l5, l6], .int 182 :: st, k, h) := zz_k_num f88_806 (congrArg (fun u => some (809, [l0, l1, l2, l3, l4, l5, l6], Value.int u :: st)) (by decide : (Int16.ofInt 182).toInt32 = 182))
theorem f88_809 : zz_fetch zz_prog 88 809 = some (.iconst (-1), 1, [], []) := zz_fetch_of p88 rfl rfl
theorem s88_809 : zz_Run zz_prog d 88 (809, [l0, l1, l2, l3, l4, l5, l6], st, k, h) = zz_Run zz_prog d 88 (810, [l0, l1, l2, l3, l4, l5, l6], .int (-1) :: st, k, h) := zz_k_num f88_809 rfl
theorem f88_810 : zz_fetch zz_prog 88 810 = some (.iastore, 1, [], []) := zz_fetch_of p88 rfl rfl
theorem f88_811 : zz_fetch zz_prog 88 811 = some (.aload_n 0, 1, [], []) := zz_fetch_of p88 rfl rfl
theorem s88_811 : zz_Run zz_prog d 88 (811, [some (.ref a), l1, l2, l3, l4, l5, l6], st, k, h) = zz_Run zz_prog d 88 (812, [some (.ref a), l1, l2, l3, l4, l5, l6], .ref a :: st, k, h) := zz_k_num f88_811 rfl
theorem f88_812 : zz_fetch zz_prog 88 812 = some (.getfield 7, 3, [2, 1, 3], []) := zz_fetch_of p88 rfl rfl
theorem f88_815 : zz_fetch zz_prog 88 815 = some (.sipush 186, 3, [], []) := zz_fetch_of p88 rfl rfl
theorem s88_815 : zz_Run zz_prog d 88 (815, [l0, l1, l2, l3, l4, l5, l6], st, k, h) = zz_Run zz_prog d 88 (818, [l0, l1, l2, l3, l4, l5, l6], .int 186 :: st, k, h) := zz_k_num f88_815 (congrArg (fun u => some (818, [l0, l1, l2, l3, l4, l5, l6], Value.int u :: st)) (by decide : (Int16.ofInt 186).toInt32 = 186))
theorem f88_818 : zz_fetch zz_prog 88 818 = some (.iconst (-1), 1, [], []) := zz_fetch_of p88 rfl rfl
theorem s88_818 : zz_Run zz_prog d 88 (818, [l0, l1, l2, l3, l4, l5, l6], st, k, h) = zz_Run zz_prog d 88 (819, [l0, l1, l2, l3, l4, l5, l6], .int (-1) :: st, k, h) := zz_k_num f88_818 rfl
theorem f88_819 : zz_fetch zz_prog 88 819 = some (.iastore, 1, [], []) := zz_fetch_of p88 rfl rfl
theorem f88_820 : zz_fetch zz_prog 88 820 = some (.aload_n 0, 1, [], []) := zz_fetch_of p88 rfl rfl
theorem s88_820 : zz_Run zz_prog d 88 (820, [some (.ref a), l1, l2, l3, l4, l5, l6], st, k, h) = zz_Run zz_prog d 88 (821, [some (.ref a), l1, l2, l3, l4, l5, l6], .ref a :: st, k, h) := zz_k_num f88_820 rfl
theorem f88_821 : zz_fetch zz_prog 88 821 = some (.getfield 7, 3, [2, 1, 3], []) := zz_fetch_of p88 rfl rfl
theorem f88_824 : zz_fetch zz_prog 88 824 = some (.sipush 189, 3, [], []) := zz_fetch_of p88 rfl rfl
theorem s88_824 : zz_Run zz_prog d 88 (824, [l0, l1, l2, l3, l4, l5, l6], st, k, h) = zz_Run zz_prog d 88 (827, [l0, l1, l2, l3, l4, l5, l6], .int 189 :: st, k, h) := zz_k_num f88_824 (congrArg (fun u => some (827, [l0, l1, l2, l3, l4, l5, l6], Value.int u :: st)) (by decide : (Int16.ofInt 189).toInt32 = 189))
theorem f88_827 : zz_fetch zz_prog 88 827 = some (.iconst (-1), 1, [], []) := zz_fetch_of p88 rfl rfl
theorem s88_827 : zz_Run zz_prog d 88 (827, [l0, l1, l2, l3, l4, l5, l6], st, k, h) = zz_Run zz_prog d 88 (828, [l0, l1, l2, l3, l4, l5, l6], .int (-1) :: st, k, h) := zz_k_num f88_827 rfl
theorem f88_828 : zz_fetch zz_prog 88 828 = some (.iastore, 1, [], []) := zz_fetch_of p88 rfl rfl
theorem f88_829 : zz_fetch zz_prog 88 829 = some (.aload_n 0, 1, [], []) := zz_fetch_of p88 rfl rfl
theorem s88_829 : zz_Run zz_prog d 88 (829, [some (.ref a), l1, l2, l3, l4, l5, l6], st, k, h) = zz_Run zz_prog d 88 (830, [some (.ref a), l1, l2, l3, l4, l5, l6], .ref a :: st, k, h) := zz_k_num f88_829 rfl
theorem f88_830 : zz_fetch zz_prog 88 830 = some (.getfield 7, 3, [2, 1, 3], []) := zz_fetch_of p88 rfl rfl
theorem f88_833 : zz_fetch zz_prog 88 833 = some (.sipush 190, 3, [], []) := zz_fetch_of p88 rfl rfl
theorem s88_833 : zz_Run zz_prog d 88 (833, [l0, l1, l2, l3, l4, l5, l6], st, k, h) = zz_Run zz_prog d 88 (836, [l0, l1, l2, l3, l4, l5, l6], .int 190 :: st, k, h) := zz_k_num f88_833 (congrArg (fun u => some (836, [l0, l1, l2, l3, l4, l5, l6], Value.int u :: st)) (by decide : (Int16.ofInt 190).toInt32 = 190))
theorem f88_836 : zz_fetch zz_prog 88 836 = some (.iconst (-1), 1, [], []) := zz_fetch_of p88 rfl rfl
theorem s88_836 : zz_Run zz_prog d 88 (836, [l0, l1, l2, l3, l4, l5, l6], st, k, h) = zz_Run zz_prog d 88 (837, [l0, l1, l2, l3, l4, l5, l6], .int (-1) :: st, k, h) := zz_k_num f88_836 rfl
theorem f88_837 : zz_fetch zz_prog 88 837 = some (.iastore, 1, [], []) := zz_fetch_of p88 rfl rfl
theorem f88_838 : zz_fetch zz_prog 88 838 = some (.return_, 1, [], []) := zz_fetch_of p88 rfl rfl
theorem s88_838 : zz_Run zz_prog d 88 (838, [l0, l1, l2, l3, l4, l5, l6], [], k, h) = some (.inl none, k, h) := zz_k_stop f88_838 rfl rfl rfl
end S88
def zz_hm (n m : Nat) (I : Nat → Nat → Int32) (J : Nat → Nat → Int64) (P : Nat → Nat → Value) : zz_H := ((zz_S0 n).take m, I, J, P)
def zz_hc (n : Nat) (I : Nat → Nat → Int32) (J : Nat → Nat → Int64) : zz_H := zz_hm n 44 I J zz_P0
section ZC2
variable {d M pc len j : Nat} {x : List Nat} {sw : List (Int32 × Nat)} {L L' : List (Option Value)} {st st' : List Value} {k : Bool} {h : zz_H} {i : Instr} {o : Option Value} {v w : Int32} {r : List Value} {n : Nat} {I : Nat → Nat → Int32} {J : Nat → Nat → Int64} {P : Nat → Nat → Value} {m a ln : Nat} {q : Int32} {S : List (Nat × Nat)}
theorem zz_car1 (ha : zz_isar a = true) : ((zz_S0 n).take 44)[a]? = some (1, zz_ary n a) := by
  have hlt : a < 44 := by
    rcases Nat.lt_or_ge a 44 with z | z
    · exact z
    · rcases Nat.eq_or_lt_of_le z with w | w
      · subst w
        cases ha
      · unfold zz_isar at ha
        rw [List.getElem?_eq_none (by exact w)] at ha
        cases ha
  rw [List.getElem?_take_of_lt hlt, ← zz_ar1 (n := n) (ex := []) ha, List.append_nil]
theorem zz_car2 (ha : zz_isrd a = true) : ((zz_S0 n).take 44)[a]? = some (1, zz_ary n a) ∨ ((zz_S0 n).take 44)[a]? = some (2, zz_ary n a) := by
  have hlt : a < 44 := by
    rcases Nat.lt_or_ge a 44 with z | z
    · exact z
    · rcases Nat.eq_or_lt_of_le z with w | w
      · subst w
        cases ha
      · unfold zz_isrd at ha
        rw [List.getElem?_eq_none (by exact w)] at ha
        cases ha
  have := zz_ar2 (n := n) (ex := []) ha
  rw [List.append_nil] at this
  rw [List.getElem?_take_of_lt hlt]
  exact this
theorem zz_c_iald (hf : zz_fetch zz_prog M pc = some (.iaload, len, x, sw)) (ha : zz_isrd a = true) : zz_Run zz_prog d M (pc, L, .int q :: .ref a :: r, k, zz_hc n I J) = zz_ck (zz_in q (zz_ary n a)) (zz_Run zz_prog d M (pc + 1, L, .int (I a q.toNatClampNeg) :: r, k, zz_hc n I J)) := by
  cases hq : zz_in q (zz_ary n a) with
  | true =>
    refine zz_k_go hf rfl rfl ?_
    rcases zz_car2 (n := n) ha with e | e <;> (simp only [zz_heap, zz_hc, zz_hm, e, hq, if_true]; rfl)
  | false =>
    refine zz_k_none hf rfl rfl ?_
    rcases zz_car2 (n := n) ha with e | e <;> simp [zz_heap, zz_hc, zz_hm, e, hq]
theorem zz_c_iast (hf : zz_fetch zz_prog M pc = some (.iastore, len, x, sw)) (ha : zz_isar a = true) : zz_Run zz_prog d M (pc, L, .int v :: .int q :: .ref a :: r, k, zz_hc n I J) = zz_ck (zz_in q (zz_ary n a)) (zz_Run zz_prog d M (pc + 1, L, r, false, zz_hc n (zz_up I a q.toNatClampNeg v) J)) := by
  have e := zz_car1 (n := n) ha
  cases hq : zz_in q (zz_ary n a) with
  | true =>
    refine zz_k_go hf rfl rfl ?_
    simp only [zz_heap, zz_hc, zz_hm, e, hq, if_true]
    rfl
  | false =>
    refine zz_k_none hf rfl rfl ?_
    simp [zz_heap, zz_hc, zz_hm, e, hq]
theorem zz_m_iast (hf : zz_fetch zz_prog M pc = some (.iastore, len, x, sw)) (e : ((zz_S0 n).take m)[a]? = some (1, ln)) : zz_Run zz_prog d M (pc, L, .int v :: .int q :: .ref a :: r, k, zz_hm n m I J P) = zz_ck (zz_in q ln) (zz_Run zz_prog d M (pc + 1, L, r, false, zz_hm n m (zz_up I a q.toNatClampNeg v) J P)) := by
  cases hq : zz_in q ln with
  | true =>
    refine zz_k_go hf rfl rfl ?_
    simp only [zz_heap, zz_hm, e, hq, if_true]
    rfl
  | false =>
    refine zz_k_none hf rfl rfl ?_
    simp [zz_heap, zz_hm, e, hq]
theorem zz_m_alen (hf : zz_fetch zz_prog M pc = some (.arraylength, len, x, sw)) (e : ((zz_S0 n).take m)[a]? = some (1, ln)) : zz_Run zz_prog d M (pc, L, .ref a :: r, k, zz_hm n m I J P) = zz_Run zz_prog d M (pc + 1, L, .int (Int32.ofNat ln) :: r, k, zz_hm n m I J P) := by
  refine zz_k_go hf rfl rfl ?_
  simp only [zz_heap, zz_hm, e]
  rfl
theorem g178_3 (e : ((zz_S0 n).take m)[a]? = some (1, ln)) {l0 l1 l2 l3 : Option Value} : zz_Run zz_prog d 178 (3, [l0, l1, l2, l3], .ref a :: st, k, zz_hm n m I J P) = zz_Run zz_prog d 178 (4, [l0, l1, l2, l3], .int (Int32.ofNat ln) :: st, k, zz_hm n m I J P) := zz_m_alen f178_3 e
theorem g178_13 (e : ((zz_S0 n).take m)[a]? = some (1, ln)) {l0 l1 l2 l3 : Option Value} : zz_Run zz_prog d 178 (13, [l0, l1, l2, l3], .int w :: .int v :: .ref a :: st, k, zz_hm n m I J P) = zz_ck (zz_in v ln) (zz_Run zz_prog d 178 (14, [l0, l1, l2, l3], st, false, zz_hm n m (zz_up I a v.toNatClampNeg w) J P)) := zz_m_iast f178_13 e
end ZC2
section G0
variable {d n j : Nat} {l0 : Option Value} {st : List Value} {k : Bool} {v w : Int32} {b0 b1 b2 b3 : Value} {a : Nat} {I : Nat → Nat → Int32} {J : Nat → Nat → Int64} {P : Nat → Nat → Value}
theorem g0_7 : zz_Run zz_prog d 0 (7, [l0], .int 19 :: st, k, (zz_hm n 6 I J P)) = zz_Run zz_prog d 0 (9, [l0], .ref 6 :: st, false, (zz_hm n 7 (zz_all I 6 0) J P)) := zz_k_go f0_7 rfl rfl rfl
theorem g0_9 : zz_Run zz_prog d 0 (9, [l0], .ref 6 :: .ref 5 :: st, k, (zz_hm n 7 I J P)) = zz_Run zz_prog d 0 (12, [l0], st, false, (zz_hm n 7 I J (zz_up P 5 0 (.ref 6)))) := zz_k_go f0_9 rfl rfl rfl
theorem g0_15 : zz_Run zz_prog d 0 (15, [l0], .int 19 :: st, k, (zz_hm n 7 I J P)) = zz_Run zz_prog d 0 (17, [l0], .ref 7 :: st, false, (zz_hm n 8 (zz_all I 7 0) J P)) := zz_k_go f0_15 rfl rfl rfl
theorem g0_17 : zz_Run zz_prog d 0 (17, [l0], .ref 7 :: .ref 5 :: st, k, (zz_hm n 8 I J P)) = zz_Run zz_prog d 0 (20, [l0], st, false, (zz_hm n 8 I J (zz_up P 5 1 (.ref 7)))) := zz_k_go f0_17 rfl rfl rfl
theorem g0_23 : zz_Run zz_prog d 0 (23, [l0], .int 54 :: st, k, (zz_hm n 8 I J P)) = zz_Run zz_prog d 0 (25, [l0], .ref 8 :: st, false, (zz_hm n 9 (zz_all I 8 0) J P)) := zz_k_go f0_23 rfl rfl rfl
theorem g0_25 : zz_Run zz_prog d 0 (25, [l0], .ref 8 :: .ref 5 :: st, k, (zz_hm n 9 I J P)) = zz_Run zz_prog d 0 (28, [l0], st, false, (zz_hm n 9 I J (zz_up P 5 2 (.ref 8)))) := zz_k_go f0_25 rfl rfl rfl
theorem g0_29 : zz_Run zz_prog d 0 (29, [l0], .ref 5 :: st, k, (zz_hm n 9 I J P)) = zz_Run zz_prog d 0 (32, [l0], P 5 0 :: st, k, (zz_hm n 9 I J P)) := zz_k_go f0_29 rfl rfl rfl
theorem g0_37 : zz_Run zz_prog d 0 (37, [l0], .ref 5 :: st, k, (zz_hm n 9 I J P)) = zz_Run zz_prog d 0 (40, [l0], P 5 2 :: st, k, (zz_hm n 9 I J P)) := zz_k_go f0_37 rfl rfl rfl
theorem g0_45 : zz_Run zz_prog d 0 (45, [l0], st, k, (zz_hm n 9 I J P)) = zz_Run zz_prog d 0 (48, [l0], .ref 9 :: st, false, (zz_hm n 10 (zz_all I 9 0) (zz_all J 9 0) (zz_all P 9 .null))) := zz_k_go f0_45 rfl rfl rfl
theorem g0_49 : zz_Run zz_prog d 0 (49, [l0], [.ref 9, b0, b1], k, (zz_hm n 10 I J P)) = zz_ret (zz_Call zz_prog d 155 [.ref 9] (zz_hm n 10 I J P)) (fun v k' h' => zz_Run zz_prog d 0 (52, [l0], v.toList ++ [b0, b1], k && k', h')) (fun a k' h' => zz_th d 0 49 a [l0] (k && k') h') := zz_k_call f0_49 rfl rfl rfl
theorem g0_52 : zz_Run zz_prog d 0 (52, [l0], .ref 9 :: .ref 5 :: st, k, (zz_hm n 16 I J P)) = zz_Run zz_prog d 0 (55, [l0], st, false, (zz_hm n 16 I J (zz_up P 5 7 (.ref 9)))) := zz_k_go f0_52 rfl rfl rfl
theorem g0_56 : zz_Run zz_prog d 0 (56, [l0], st, k, (zz_hm n 16 I J P)) = zz_Run zz_prog d 0 (59, [l0], .ref 16 :: st, false, (zz_hm n 17 (zz_all I 16 0) (zz_all J 16 0) (zz_all P 16 .null))) := zz_k_go f0_56 rfl rfl rfl
theorem g0_60 : zz_Run zz_prog d 0 (60, [l0], [.ref 16, b0, b1], k, (zz_hm n 17 I J P)) = zz_ret (zz_Call zz_prog d 155 [.ref 16] (zz_hm n 17 I J P)) (fun v k' h' => zz_Run zz_prog d 0 (63, [l0], v.toList ++ [b0, b1], k && k', h')) (fun a k' h' => zz_th d 0 60 a [l0] (k && k') h') := zz_k_call f0_60 rfl rfl rfl
theorem g0_63 : zz_Run zz_prog d 0 (63, [l0], .ref 16 :: .ref 5 :: st, k, (zz_hm n 23 I J P)) = zz_Run zz_prog d 0 (66, [l0], st, false, (zz_hm n 23 I J (zz_up P 5 8 (.ref 16)))) := zz_k_go f0_63 rfl rfl rfl
end G0
section G155a
variable {d n j : Nat} {l0 l1 : Option Value} {st : List Value} {k : Bool} {v w : Int32} {b0 b1 b2 b3 : Value} {a : Nat} {I : Nat → Nat → Int32} {J : Nat → Nat → Int64} {P : Nat → Nat → Value}
theorem g155a_6 : zz_Run zz_prog d 155 (6, [l0, l1], .int 0 :: .ref 9 :: st, k, (zz_hm n 10 I J P)) = zz_Run zz_prog d 155 (9, [l0, l1], st, false, (zz_hm n 10 (zz_up I 9 0 0) J P)) := zz_k_go f155_6 rfl rfl rfl
theorem g155a_11 : zz_Run zz_prog d 155 (11, [l0, l1], .int (-1) :: .ref 9 :: st, k, (zz_hm n 10 I J P)) = zz_Run zz_prog d 155 (14, [l0, l1], st, false, (zz_hm n 10 (zz_up I 9 1 (-1)) J P)) := zz_k_go f155_11 rfl rfl rfl
theorem g155a_16 : zz_Run zz_prog d 155 (16, [l0, l1], .int (-1) :: .ref 9 :: st, k, (zz_hm n 10 I J P)) = zz_Run zz_prog d 155 (19, [l0, l1], st, false, (zz_hm n 10 (zz_up I 9 3 (-1)) J P)) := zz_k_go f155_16 rfl rfl rfl
theorem g155a_21 : zz_Run zz_prog d 155 (21, [l0, l1], .int (-1) :: .ref 9 :: st, k, (zz_hm n 10 I J P)) = zz_Run zz_prog d 155 (24, [l0, l1], st, false, (zz_hm n 10 (zz_up I 9 4 (-1)) J P)) := zz_k_go f155_21 rfl rfl rfl
theorem g155a_26 : zz_Run zz_prog d 155 (26, [l0, l1], .int (-1) :: .ref 9 :: st, k, (zz_hm n 10 I J P)) = zz_Run zz_prog d 155 (29, [l0, l1], st, false, (zz_hm n 10 (zz_up I 9 7 (-1)) J P)) := zz_k_go f155_26 rfl rfl rfl
theorem g155a_31 : zz_Run zz_prog d 155 (31, [l0, l1], .int (-1) :: .ref 9 :: st, k, (zz_hm n 10 I J P)) = zz_Run zz_prog d 155 (34, [l0, l1], st, false, (zz_hm n 10 (zz_up I 9 10 (-1)) J P)) := zz_k_go f155_31 rfl rfl rfl
theorem g155a_37 : zz_Run zz_prog d 155 (37, [l0, l1], .int 72 :: st, k, (zz_hm n 10 I J P)) = zz_Run zz_prog d 155 (39, [l0, l1], .ref 10 :: st, false, (zz_hm n 11 (zz_all I 10 0) J P)) := zz_k_go f155_37 rfl rfl rfl
theorem g155a_39 : zz_Run zz_prog d 155 (39, [l0, l1], .ref 10 :: .ref 9 :: st, k, (zz_hm n 11 I J P)) = zz_Run zz_prog d 155 (42, [l0, l1], st, false, (zz_hm n 11 I J (zz_up P 9 12 (.ref 10)))) := zz_k_go f155_39 rfl rfl rfl
theorem g155a_45 : zz_Run zz_prog d 155 (45, [l0, l1], .int 54 :: st, k, (zz_hm n 11 I J P)) = zz_Run zz_prog d 155 (47, [l0, l1], .ref 11 :: st, false, (zz_hm n 12 (zz_all I 11 0) J P)) := zz_k_go f155_45 rfl rfl rfl
theorem g155a_47 : zz_Run zz_prog d 155 (47, [l0, l1], .ref 11 :: .ref 9 :: st, k, (zz_hm n 12 I J P)) = zz_Run zz_prog d 155 (50, [l0, l1], st, false, (zz_hm n 12 I J (zz_up P 9 13 (.ref 11)))) := zz_k_go f155_47 rfl rfl rfl
theorem g155a_53 : zz_Run zz_prog d 155 (53, [l0, l1], .int 25 :: st, k, (zz_hm n 12 I J P)) = zz_Run zz_prog d 155 (55, [l0, l1], .ref 12 :: st, false, (zz_hm n 13 (zz_all I 12 0) J P)) := zz_k_go f155_53 rfl rfl rfl
theorem g155a_55 : zz_Run zz_prog d 155 (55, [l0, l1], .ref 12 :: .ref 9 :: st, k, (zz_hm n 13 I J P)) = zz_Run zz_prog d 155 (58, [l0, l1], st, false, (zz_hm n 13 I J (zz_up P 9 14 (.ref 12)))) := zz_k_go f155_55 rfl rfl rfl
theorem g155a_61 : zz_Run zz_prog d 155 (61, [l0, l1], .int 20 :: st, k, (zz_hm n 13 I J P)) = zz_Run zz_prog d 155 (63, [l0, l1], .ref 13 :: st, false, (zz_hm n 14 (zz_all I 13 0) J P)) := zz_k_go f155_61 rfl rfl rfl
theorem g155a_63 : zz_Run zz_prog d 155 (63, [l0, l1], .ref 13 :: .ref 9 :: st, k, (zz_hm n 14 I J P)) = zz_Run zz_prog d 155 (66, [l0, l1], st, false, (zz_hm n 14 I J (zz_up P 9 15 (.ref 13)))) := zz_k_go f155_63 rfl rfl rfl
theorem g155a_68 : zz_Run zz_prog d 155 (68, [l0, l1], .int 5 :: st, k, (zz_hm n 14 I J P)) = zz_Run zz_prog d 155 (70, [l0, l1], .ref 14 :: st, false, (zz_hm n 15 (zz_all I 14 0) J P)) := zz_k_go f155_68 rfl rfl rfl
theorem g155a_70 : zz_Run zz_prog d 155 (70, [l0, l1], .ref 14 :: .ref 9 :: st, k, (zz_hm n 15 I J P)) = zz_Run zz_prog d 155 (73, [l0, l1], st, false, (zz_hm n 15 I J (zz_up P 9 16 (.ref 14)))) := zz_k_go f155_70 rfl rfl rfl
theorem g155a_75 : zz_Run zz_prog d 155 (75, [l0, l1], .int 4 :: st, k, (zz_hm n 15 I J P)) = zz_Run zz_prog d 155 (77, [l0, l1], .ref 15 :: st, false, (zz_hm n 16 (zz_all I 15 0) J P)) := zz_k_go f155_75 rfl rfl rfl
theorem g155a_77 : zz_Run zz_prog d 155 (77, [l0, l1], .ref 15 :: .ref 9 :: st, k, (zz_hm n 16 I J P)) = zz_Run zz_prog d 155 (80, [l0, l1], st, false, (zz_hm n 16 I J (zz_up P 9 17 (.ref 15)))) := zz_k_go f155_77 rfl rfl rfl
theorem g155a_81 : zz_Run zz_prog d 155 (81, [l0, l1], .ref 9 :: st, k, (zz_hm n 16 I J P)) = zz_Run zz_prog d 155 (84, [l0, l1], P 9 12 :: st, k, (zz_hm n 16 I J P)) := zz_k_go f155_81 rfl rfl rfl
theorem g155a_89 : zz_Run zz_prog d 155 (89, [l0, l1], .ref 9 :: st, k, (zz_hm n 16 I J P)) = zz_Run zz_prog d 155 (92, [l0, l1], P 9 13 :: st, k, (zz_hm n 16 I J P)) := zz_k_go f155_89 rfl rfl rfl
theorem g155a_104 : zz_Run zz_prog d 155 (104, [l0, l1], .ref 9 :: st, k, (zz_hm n 16 I J P)) = zz_Run zz_prog d 155 (107, [l0, l1], P 9 14 :: st, k, (zz_hm n 16 I J P)) := zz_k_go f155_104 rfl rfl rfl
theorem g155a_113 (ha : ((zz_S0 n).take 16)[a]? = some (1, j)) : zz_Run zz_prog d 155 (113, [l0, l1], .int w :: .int v :: .ref a :: st, k, (zz_hm n 16 I J P)) = zz_ck (zz_in v j) (zz_Run zz_prog d 155 (114, [l0, l1], st, false, (zz_hm n 16 (zz_up I a v.toNatClampNeg w) J P))) := zz_m_iast f155_113 ha
end G155a
section G155b
variable {d n j : Nat} {l0 l1 : Option Value} {st : List Value} {k : Bool} {v w : Int32} {b0 b1 b2 b3 : Value} {a : Nat} {I : Nat → Nat → Int32} {J : Nat → Nat → Int64} {P : Nat → Nat → Value}
theorem g155b_6 : zz_Run zz_prog d 155 (6, [l0, l1], .int 0 :: .ref 16 :: st, k, (zz_hm n 17 I J P)) = zz_Run zz_prog d 155 (9, [l0, l1], st, false, (zz_hm n 17 (zz_up I 16 0 0) J P)) := zz_k_go f155_6 rfl rfl rfl
theorem g155b_11 : zz_Run zz_prog d 155 (11, [l0, l1], .int (-1) :: .ref 16 :: st, k, (zz_hm n 17 I J P)) = zz_Run zz_prog d 155 (14, [l0, l1], st, false, (zz_hm n 17 (zz_up I 16 1 (-1)) J P)) := zz_k_go f155_11 rfl rfl rfl
theorem g155b_16 : zz_Run zz_prog d 155 (16, [l0, l1], .int (-1) :: .ref 16 :: st, k, (zz_hm n 17 I J P)) = zz_Run zz_prog d 155 (19, [l0, l1], st, false, (zz_hm n 17 (zz_up I 16 3 (-1)) J P)) := zz_k_go f155_16 rfl rfl rfl
theorem g155b_21 : zz_Run zz_prog d 155 (21, [l0, l1], .int (-1) :: .ref 16 :: st, k, (zz_hm n 17 I J P)) = zz_Run zz_prog d 155 (24, [l0, l1], st, false, (zz_hm n 17 (zz_up I 16 4 (-1)) J P)) := zz_k_go f155_21 rfl rfl rfl
theorem g155b_26 : zz_Run zz_prog d 155 (26, [l0, l1], .int (-1) :: .ref 16 :: st, k, (zz_hm n 17 I J P)) = zz_Run zz_prog d 155 (29, [l0, l1], st, false, (zz_hm n 17 (zz_up I 16 7 (-1)) J P)) := zz_k_go f155_26 rfl rfl rfl
theorem g155b_31 : zz_Run zz_prog d 155 (31, [l0, l1], .int (-1) :: .ref 16 :: st, k, (zz_hm n 17 I J P)) = zz_Run zz_prog d 155 (34, [l0, l1], st, false, (zz_hm n 17 (zz_up I 16 10 (-1)) J P)) := zz_k_go f155_31 rfl rfl rfl
theorem g155b_37 : zz_Run zz_prog d 155 (37, [l0, l1], .int 72 :: st, k, (zz_hm n 17 I J P)) = zz_Run zz_prog d 155 (39, [l0, l1], .ref 17 :: st, false, (zz_hm n 18 (zz_all I 17 0) J P)) := zz_k_go f155_37 rfl rfl rfl
theorem g155b_39 : zz_Run zz_prog d 155 (39, [l0, l1], .ref 17 :: .ref 16 :: st, k, (zz_hm n 18 I J P)) = zz_Run zz_prog d 155 (42, [l0, l1], st, false, (zz_hm n 18 I J (zz_up P 16 12 (.ref 17)))) := zz_k_go f155_39 rfl rfl rfl
theorem g155b_45 : zz_Run zz_prog d 155 (45, [l0, l1], .int 54 :: st, k, (zz_hm n 18 I J P)) = zz_Run zz_prog d 155 (47, [l0, l1], .ref 18 :: st, false, (zz_hm n 19 (zz_all I 18 0) J P)) := zz_k_go f155_45 rfl rfl rfl
theorem g155b_47 : zz_Run zz_prog d 155 (47, [l0, l1], .ref 18 :: .ref 16 :: st, k, (zz_hm n 19 I J P)) = zz_Run zz_prog d 155 (50, [l0, l1], st, false, (zz_hm n 19 I J (zz_up P 16 13 (.ref 18)))) := zz_k_go f155_47 rfl rfl rfl
theorem g155b_53 : zz_Run zz_prog d 155 (53, [l0, l1], .int 25 :: st, k, (zz_hm n 19 I J P)) = zz_Run zz_prog d 155 (55, [l0, l1], .ref 19 :: st, false, (zz_hm n 20 (zz_all I 19 0) J P)) := zz_k_go f155_53 rfl rfl rfl
theorem g155b_55 : zz_Run zz_prog d 155 (55, [l0, l1], .ref 19 :: .ref 16 :: st, k, (zz_hm n 20 I J P)) = zz_Run zz_prog d 155 (58, [l0, l1], st, false, (zz_hm n 20 I J (zz_up P 16 14 (.ref 19)))) := zz_k_go f155_55 rfl rfl rfl
theorem g155b_61 : zz_Run zz_prog d 155 (61, [l0, l1], .int 20 :: st, k, (zz_hm n 20 I J P)) = zz_Run zz_prog d 155 (63, [l0, l1], .ref 20 :: st, false, (zz_hm n 21 (zz_all I 20 0) J P)) := zz_k_go f155_61 rfl rfl rfl
theorem g155b_63 : zz_Run zz_prog d 155 (63, [l0, l1], .ref 20 :: .ref 16 :: st, k, (zz_hm n 21 I J P)) = zz_Run zz_prog d 155 (66, [l0, l1], st, false, (zz_hm n 21 I J (zz_up P 16 15 (.ref 20)))) := zz_k_go f155_63 rfl rfl rfl
theorem g155b_68 : zz_Run zz_prog d 155 (68, [l0, l1], .int 5 :: st, k, (zz_hm n 21 I J P)) = zz_Run zz_prog d 155 (70, [l0, l1], .ref 21 :: st, false, (zz_hm n 22 (zz_all I 21 0) J P)) := zz_k_go f155_68 rfl rfl rfl
theorem g155b_70 : zz_Run zz_prog d 155 (70, [l0, l1], .ref 21 :: .ref 16 :: st, k, (zz_hm n 22 I J P)) = zz_Run zz_prog d 155 (73, [l0, l1], st, false, (zz_hm n 22 I J (zz_up P 16 16 (.ref 21)))) := zz_k_go f155_70 rfl rfl rfl
theorem g155b_75 : zz_Run zz_prog d 155 (75, [l0, l1], .int 4 :: st, k, (zz_hm n 22 I J P)) = zz_Run zz_prog d 155 (77, [l0, l1], .ref 22 :: st, false, (zz_hm n 23 (zz_all I 22 0) J P)) := zz_k_go f155_75 rfl rfl rfl
theorem g155b_77 : zz_Run zz_prog d 155 (77, [l0, l1], .ref 22 :: .ref 16 :: st, k, (zz_hm n 23 I J P)) = zz_Run zz_prog d 155 (80, [l0, l1], st, false, (zz_hm n 23 I J (zz_up P 16 17 (.ref 22)))) := zz_k_go f155_77 rfl rfl rfl
theorem g155b_81 : zz_Run zz_prog d 155 (81, [l0, l1], .ref 16 :: st, k, (zz_hm n 23 I J P)) = zz_Run zz_prog d 155 (84, [l0, l1], P 16 12 :: st, k, (zz_hm n 23 I J P)) := zz_k_go f155_81 rfl rfl rfl
theorem g155b_89 : zz_Run zz_prog d 155 (89, [l0, l1], .ref 16 :: st, k, (zz_hm n 23 I J P)) = zz_Run zz_prog d 155 (92, [l0, l1], P 16 13 :: st, k, (zz_hm n 23 I J P)) := zz_k_go f155_89 rfl rfl rfl
theorem g155b_104 : zz_Run zz_prog d 155 (104, [l0, l1], .ref 16 :: st, k, (zz_hm n 23 I J P)) = zz_Run zz_prog d 155 (107, [l0, l1], P 16 14 :: st, k, (zz_hm n 23 I J P)) := zz_k_go f155_104 rfl rfl rfl
theorem g155b_113 (ha : ((zz_S0 n).take 23)[a]? = some (1, j)) : zz_Run zz_prog d 155 (113, [l0, l1], .int w :: .int v :: .ref a :: st, k, (zz_hm n 23 I J P)) = zz_ck (zz_in v j) (zz_Run zz_prog d 155 (114, [l0, l1], st, false, (zz_hm n 23 (zz_up I a v.toNatClampNeg w) J P))) := zz_m_iast f155_113 ha
end G155b
section G88
variable {d n j : Nat} {l0 l1 l2 l3 l4 l5 l6 : Option Value} {st : List Value} {k : Bool} {v w : Int32} {b0 b1 b2 b3 : Value} {a : Nat} {I : Nat → Nat → Int32} {J : Nat → Nat → Int64} {P : Nat → Nat → Value}
theorem g88_8 : zz_Run zz_prog d 88 (8, [l0, l1, l2, l3, l4, l5, l6], .int 193 :: st, k, (zz_hm n 24 I J P)) = zz_Run zz_prog d 88 (10, [l0, l1, l2, l3, l4, l5, l6], .ref 24 :: st, false, (zz_hm n 25 (zz_all I 24 0) J P)) := zz_k_go f88_8 rfl rfl rfl
theorem g88_10 : zz_Run zz_prog d 88 (10, [l0, l1, l2, l3, l4, l5, l6], .ref 24 :: .ref 23 :: st, k, (zz_hm n 25 I J P)) = zz_Run zz_prog d 88 (13, [l0, l1, l2, l3, l4, l5, l6], st, false, (zz_hm n 25 I J (zz_up P 23 1 (.ref 24)))) := zz_k_go f88_10 rfl rfl rfl
theorem g88_17 : zz_Run zz_prog d 88 (17, [l0, l1, l2, l3, l4, l5, l6], .int 193 :: st, k, (zz_hm n 25 I J P)) = zz_Run zz_prog d 88 (19, [l0, l1, l2, l3, l4, l5, l6], .ref 25 :: st, false, (zz_hm n 26 (zz_all I 25 0) J P)) := zz_k_go f88_17 rfl rfl rfl
theorem g88_19 : zz_Run zz_prog d 88 (19, [l0, l1, l2, l3, l4, l5, l6], .ref 25 :: .ref 23 :: st, k, (zz_hm n 26 I J P)) = zz_Run zz_prog d 88 (22, [l0, l1, l2, l3, l4, l5, l6], st, false, (zz_hm n 26 I J (zz_up P 23 2 (.ref 25)))) := zz_k_go f88_19 rfl rfl rfl
theorem g88_25 : zz_Run zz_prog d 88 (25, [l0, l1, l2, l3, l4, l5, l6], .int 54 :: st, k, (zz_hm n 26 I J P)) = zz_Run zz_prog d 88 (27, [l0, l1, l2, l3, l4, l5, l6], .ref 26 :: st, false, (zz_hm n 27 (zz_all I 26 0) J P)) := zz_k_go f88_25 rfl rfl rfl
theorem g88_27 : zz_Run zz_prog d 88 (27, [l0, l1, l2, l3, l4, l5, l6], .ref 26 :: .ref 23 :: st, k, (zz_hm n 27 I J P)) = zz_Run zz_prog d 88 (30, [l0, l1, l2, l3, l4, l5, l6], st, false, (zz_hm n 27 I J (zz_up P 23 4 (.ref 26)))) := zz_k_go f88_27 rfl rfl rfl
theorem g88_33 : zz_Run zz_prog d 88 (33, [l0, l1, l2, l3, l4, l5, l6], .int 54 :: st, k, (zz_hm n 27 I J P)) = zz_Run zz_prog d 88 (35, [l0, l1, l2, l3, l4, l5, l6], .ref 27 :: st, false, (zz_hm n 28 (zz_all I 27 0) J P)) := zz_k_go f88_33 rfl rfl rfl
theorem g88_35 : zz_Run zz_prog d 88 (35, [l0, l1, l2, l3, l4, l5, l6], .ref 27 :: .ref 23 :: st, k, (zz_hm n 28 I J P)) = zz_Run zz_prog d 88 (38, [l0, l1, l2, l3, l4, l5, l6], st, false, (zz_hm n 28 I J (zz_up P 23 5 (.ref 27)))) := zz_k_go f88_35 rfl rfl rfl
theorem g88_41 : zz_Run zz_prog d 88 (41, [l0, l1, l2, l3, l4, l5, l6], .int 72 :: st, k, (zz_hm n 28 I J P)) = zz_Run zz_prog d 88 (43, [l0, l1, l2, l3, l4, l5, l6], .ref 28 :: st, false, (zz_hm n 29 (zz_all I 28 0) J P)) := zz_k_go f88_41 rfl rfl rfl
theorem g88_43 : zz_Run zz_prog d 88 (43, [l0, l1, l2, l3, l4, l5, l6], .ref 28 :: .ref 23 :: st, k, (zz_hm n 29 I J P)) = zz_Run zz_prog d 88 (46, [l0, l1, l2, l3, l4, l5, l6], st, false, (zz_hm n 29 I J (zz_up P 23 6 (.ref 28)))) := zz_k_go f88_43 rfl rfl rfl
theorem g88_49 : zz_Run zz_prog d 88 (49, [l0, l1, l2, l3, l4, l5, l6], .int 72 :: st, k, (zz_hm n 29 I J P)) = zz_Run zz_prog d 88 (51, [l0, l1, l2, l3, l4, l5, l6], .ref 29 :: st, false, (zz_hm n 30 (zz_all I 29 0) J P)) := zz_k_go f88_49 rfl rfl rfl
theorem g88_51 : zz_Run zz_prog d 88 (51, [l0, l1, l2, l3, l4, l5, l6], .ref 29 :: .ref 23 :: st, k, (zz_hm n 30 I J P)) = zz_Run zz_prog d 88 (54, [l0, l1, l2, l3, l4, l5, l6], st, false, (zz_hm n 30 I J (zz_up P 23 7 (.ref 29)))) := zz_k_go f88_51 rfl rfl rfl
theorem g88_57 : zz_Run zz_prog d 88 (57, [l0, l1, l2, l3, l4, l5, l6], .int 114 :: st, k, (zz_hm n 30 I J P)) = zz_Run zz_prog d 88 (59, [l0, l1, l2, l3, l4, l5, l6], .ref 30 :: st, false, (zz_hm n 31 (zz_all I 30 0) J P)) := zz_k_go f88_57 rfl rfl rfl
theorem g88_59 : zz_Run zz_prog d 88 (59, [l0, l1, l2, l3, l4, l5, l6], .ref 30 :: .ref 23 :: st, k, (zz_hm n 31 I J P)) = zz_Run zz_prog d 88 (62, [l0, l1, l2, l3, l4, l5, l6], st, false, (zz_hm n 31 I J (zz_up P 23 8 (.ref 30)))) := zz_k_go f88_59 rfl rfl rfl
theorem g88_65 : zz_Run zz_prog d 88 (65, [l0, l1, l2, l3, l4, l5, l6], .int 19 :: st, k, (zz_hm n 31 I J P)) = zz_Run zz_prog d 88 (67, [l0, l1, l2, l3, l4, l5, l6], .ref 31 :: st, false, (zz_hm n 32 (zz_all I 31 0) J P)) := zz_k_go f88_65 rfl rfl rfl
theorem g88_67 : zz_Run zz_prog d 88 (67, [l0, l1, l2, l3, l4, l5, l6], .ref 31 :: .ref 23 :: st, k, (zz_hm n 32 I J P)) = zz_Run zz_prog d 88 (70, [l0, l1, l2, l3, l4, l5, l6], st, false, (zz_hm n 32 I J (zz_up P 23 9 (.ref 31)))) := zz_k_go f88_67 rfl rfl rfl
theorem g88_73 : zz_Run zz_prog d 88 (73, [l0, l1, l2, l3, l4, l5, l6], .int 19 :: st, k, (zz_hm n 32 I J P)) = zz_Run zz_prog d 88 (75, [l0, l1, l2, l3, l4, l5, l6], .ref 32 :: st, false, (zz_hm n 33 (zz_all I 32 0) J P)) := zz_k_go f88_73 rfl rfl rfl
theorem g88_75 : zz_Run zz_prog d 88 (75, [l0, l1, l2, l3, l4, l5, l6], .ref 32 :: .ref 23 :: st, k, (zz_hm n 33 I J P)) = zz_Run zz_prog d 88 (78, [l0, l1, l2, l3, l4, l5, l6], st, false, (zz_hm n 33 I J (zz_up P 23 10 (.ref 32)))) := zz_k_go f88_75 rfl rfl rfl
theorem g88_81 : zz_Run zz_prog d 88 (81, [l0, l1, l2, l3, l4, l5, l6], .int 9 :: st, k, (zz_hm n 33 I J P)) = zz_Run zz_prog d 88 (83, [l0, l1, l2, l3, l4, l5, l6], .ref 33 :: st, false, (zz_hm n 34 (zz_all I 33 0) J P)) := zz_k_go f88_81 rfl rfl rfl
theorem g88_83 : zz_Run zz_prog d 88 (83, [l0, l1, l2, l3, l4, l5, l6], .ref 33 :: .ref 23 :: st, k, (zz_hm n 34 I J P)) = zz_Run zz_prog d 88 (86, [l0, l1, l2, l3, l4, l5, l6], st, false, (zz_hm n 34 I J (zz_up P 23 12 (.ref 33)))) := zz_k_go f88_83 rfl rfl rfl
theorem g88_89 : zz_Run zz_prog d 88 (89, [l0, l1, l2, l3, l4, l5, l6], .int 9 :: st, k, (zz_hm n 34 I J P)) = zz_Run zz_prog d 88 (91, [l0, l1, l2, l3, l4, l5, l6], .ref 34 :: st, false, (zz_hm n 35 (zz_all I 34 0) J P)) := zz_k_go f88_89 rfl rfl rfl
theorem g88_91 : zz_Run zz_prog d 88 (91, [l0, l1, l2, l3, l4, l5, l6], .ref 34 :: .ref 23 :: st, k, (zz_hm n 35 I J P)) = zz_Run zz_prog d 88 (94, [l0, l1, l2, l3, l4, l5, l6], st, false, (zz_hm n 35 I J (zz_up P 23 13 (.ref 34)))) := zz_k_go f88_91 rfl rfl rfl
theorem g88_97 : zz_Run zz_prog d 88 (97, [l0, l1, l2, l3, l4, l5, l6], .int 16 :: st, k, (zz_hm n 35 I J P)) = zz_Run zz_prog d 88 (99, [l0, l1, l2, l3, l4, l5, l6], .ref 35 :: st, false, (zz_hm n 36 (zz_all I 35 0) J P)) := zz_k_go f88_97 rfl rfl rfl
theorem g88_99 : zz_Run zz_prog d 88 (99, [l0, l1, l2, l3, l4, l5, l6], .ref 35 :: .ref 23 :: st, k, (zz_hm n 36 I J P)) = zz_Run zz_prog d 88 (102, [l0, l1, l2, l3, l4, l5, l6], st, false, (zz_hm n 36 I J (zz_up P 23 14 (.ref 35)))) := zz_k_go f88_99 rfl rfl rfl
theorem g88_105 : zz_Run zz_prog d 88 (105, [l0, l1, l2, l3, l4, l5, l6], .int 20 :: st, k, (zz_hm n 36 I J P)) = zz_Run zz_prog d 88 (107, [l0, l1, l2, l3, l4, l5, l6], .ref 36 :: st, false, (zz_hm n 37 (zz_all I 36 0) J P)) := zz_k_go f88_105 rfl rfl rfl
theorem g88_110 : zz_Run zz_prog d 88 (110, [l0, l1, l2, l3, l4, l5, l6], .int 1 :: .int 0 :: .ref 36 :: st, k, (zz_hm n 37 I J P)) = zz_Run zz_prog d 88 (111, [l0, l1, l2, l3, l4, l5, l6], st, false, (zz_hm n 37 (zz_up I 36 0 1) J P)) := zz_k_go f88_110 rfl rfl rfl
theorem g88_114 : zz_Run zz_prog d 88 (114, [l0, l1, l2, l3, l4, l5, l6], .int 1 :: .int 1 :: .ref 36 :: st, k, (zz_hm n 37 I J P)) = zz_Run zz_prog d 88 (115, [l0, l1, l2, l3, l4, l5, l6], st, false, (zz_hm n 37 (zz_up I 36 1 1) J P)) := zz_k_go f88_114 rfl rfl rfl
theorem g88_118 : zz_Run zz_prog d 88 (118, [l0, l1, l2, l3, l4, l5, l6], .int 0 :: .int 2 :: .ref 36 :: st, k, (zz_hm n 37 I J P)) = zz_Run zz_prog d 88 (119, [l0, l1, l2, l3, l4, l5, l6], st, false, (zz_hm n 37 (zz_up I 36 2 0) J P)) := zz_k_go f88_118 rfl rfl rfl
theorem g88_122 : zz_Run zz_prog d 88 (122, [l0, l1, l2, l3, l4, l5, l6], .int 0 :: .int 3 :: .ref 36 :: st, k, (zz_hm n 37 I J P)) = zz_Run zz_prog d 88 (123, [l0, l1, l2, l3, l4, l5, l6], st, false, (zz_hm n 37 (zz_up I 36 3 0) J P)) := zz_k_go f88_122 rfl rfl rfl
theorem g88_126 : zz_Run zz_prog d 88 (126, [l0, l1, l2, l3, l4, l5, l6], .int 0 :: .int 4 :: .ref 36 :: st, k, (zz_hm n 37 I J P)) = zz_Run zz_prog d 88 (127, [l0, l1, l2, l3, l4, l5, l6], st, false, (zz_hm n 37 (zz_up I 36 4 0) J P)) := zz_k_go f88_126 rfl rfl rfl
theorem g88_130 : zz_Run zz_prog d 88 (130, [l0, l1, l2, l3, l4, l5, l6], .int 1 :: .int 5 :: .ref 36 :: st, k, (zz_hm n 37 I J P)) = zz_Run zz_prog d 88 (131, [l0, l1, l2, l3, l4, l5, l6], st, false, (zz_hm n 37 (zz_up I 36 5 1) J P)) := zz_k_go f88_130 rfl rfl rfl
theorem g88_135 : zz_Run zz_prog d 88 (135, [l0, l1, l2, l3, l4, l5, l6], .int 1 :: .int 6 :: .ref 36 :: st, k, (zz_hm n 37 I J P)) = zz_Run zz_prog d 88 (136, [l0, l1, l2, l3, l4, l5, l6], st, false, (zz_hm n 37 (zz_up I 36 6 1) J P)) := zz_k_go f88_135 rfl rfl rfl
theorem g88_140 : zz_Run zz_prog d 88 (140, [l0, l1, l2, l3, l4, l5, l6], .int 1 :: .int 7 :: .ref 36 :: st, k, (zz_hm n 37 I J P)) = zz_Run zz_prog d 88 (141, [l0, l1, l2, l3, l4, l5, l6], st, false, (zz_hm n 37 (zz_up I 36 7 1) J P)) := zz_k_go f88_140 rfl rfl rfl
theorem g88_145 : zz_Run zz_prog d 88 (145, [l0, l1, l2, l3, l4, l5, l6], .int 1 :: .int 8 :: .ref 36 :: st, k, (zz_hm n 37 I J P)) = zz_Run zz_prog d 88 (146, [l0, l1, l2, l3, l4, l5, l6], st, false, (zz_hm n 37 (zz_up I 36 8 1) J P)) := zz_k_go f88_145 rfl rfl rfl
theorem g88_150 : zz_Run zz_prog d 88 (150, [l0, l1, l2, l3, l4, l5, l6], .int 0 :: .int 9 :: .ref 36 :: st, k, (zz_hm n 37 I J P)) = zz_Run zz_prog d 88 (151, [l0, l1, l2, l3, l4, l5, l6], st, false, (zz_hm n 37 (zz_up I 36 9 0) J P)) := zz_k_go f88_150 rfl rfl rfl
theorem g88_155 : zz_Run zz_prog d 88 (155, [l0, l1, l2, l3, l4, l5, l6], .int 0 :: .int 10 :: .ref 36 :: st, k, (zz_hm n 37 I J P)) = zz_Run zz_prog d 88 (156, [l0, l1, l2, l3, l4, l5, l6], st, false, (zz_hm n 37 (zz_up I 36 10 0) J P)) := zz_k_go f88_155 rfl rfl rfl
theorem g88_160 : zz_Run zz_prog d 88 (160, [l0, l1, l2, l3, l4, l5, l6], .int 0 :: .int 11 :: .ref 36 :: st, k, (zz_hm n 37 I J P)) = zz_Run zz_prog d 88 (161, [l0, l1, l2, l3, l4, l5, l6], st, false, (zz_hm n 37 (zz_up I 36 11 0) J P)) := zz_k_go f88_160 rfl rfl rfl
theorem g88_165 : zz_Run zz_prog d 88 (165, [l0, l1, l2, l3, l4, l5, l6], .int 0 :: .int 12 :: .ref 36 :: st, k, (zz_hm n 37 I J P)) = zz_Run zz_prog d 88 (166, [l0, l1, l2, l3, l4, l5, l6], st, false, (zz_hm n 37 (zz_up I 36 12 0) J P)) := zz_k_go f88_165 rfl rfl rfl
theorem g88_170 : zz_Run zz_prog d 88 (170, [l0, l1, l2, l3, l4, l5, l6], .int 2 :: .int 13 :: .ref 36 :: st, k, (zz_hm n 37 I J P)) = zz_Run zz_prog d 88 (171, [l0, l1, l2, l3, l4, l5, l6], st, false, (zz_hm n 37 (zz_up I 36 13 2) J P)) := zz_k_go f88_170 rfl rfl rfl
theorem g88_175 : zz_Run zz_prog d 88 (175, [l0, l1, l2, l3, l4, l5, l6], .int 3 :: .int 14 :: .ref 36 :: st, k, (zz_hm n 37 I J P)) = zz_Run zz_prog d 88 (176, [l0, l1, l2, l3, l4, l5, l6], st, false, (zz_hm n 37 (zz_up I 36 14 3) J P)) := zz_k_go f88_175 rfl rfl rfl
theorem g88_180 : zz_Run zz_prog d 88 (180, [l0, l1, l2, l3, l4, l5, l6], .int 0 :: .int 15 :: .ref 36 :: st, k, (zz_hm n 37 I J P)) = zz_Run zz_prog d 88 (181, [l0, l1, l2, l3, l4, l5, l6], st, false, (zz_hm n 37 (zz_up I 36 15 0) J P)) := zz_k_go f88_180 rfl rfl rfl
theorem g88_185 : zz_Run zz_prog d 88 (185, [l0, l1, l2, l3, l4, l5, l6], .int 0 :: .int 16 :: .ref 36 :: st, k, (zz_hm n 37 I J P)) = zz_Run zz_prog d 88 (186, [l0, l1, l2, l3, l4, l5, l6], st, false, (zz_hm n 37 (zz_up I 36 16 0) J P)) := zz_k_go f88_185 rfl rfl rfl
theorem g88_190 : zz_Run zz_prog d 88 (190, [l0, l1, l2, l3, l4, l5, l6], .int 1 :: .int 17 :: .ref 36 :: st, k, (zz_hm n 37 I J P)) = zz_Run zz_prog d 88 (191, [l0, l1, l2, l3, l4, l5, l6], st, false, (zz_hm n 37 (zz_up I 36 17 1) J P)) := zz_k_go f88_190 rfl rfl rfl
theorem g88_195 : zz_Run zz_prog d 88 (195, [l0, l1, l2, l3, l4, l5, l6], .int 1 :: .int 18 :: .ref 36 :: st, k, (zz_hm n 37 I J P)) = zz_Run zz_prog d 88 (196, [l0, l1, l2, l3, l4, l5, l6], st, false, (zz_hm n 37 (zz_up I 36 18 1) J P)) := zz_k_go f88_195 rfl rfl rfl
theorem g88_200 : zz_Run zz_prog d 88 (200, [l0, l1, l2, l3, l4, l5, l6], .int 1 :: .int 19 :: .ref 36 :: st, k, (zz_hm n 37 I J P)) = zz_Run zz_prog d 88 (201, [l0, l1, l2, l3, l4, l5, l6], st, false, (zz_hm n 37 (zz_up I 36 19 1) J P)) := zz_k_go f88_200 rfl rfl rfl
theorem g88_201 : zz_Run zz_prog d 88 (201, [l0, l1, l2, l3, l4, l5, l6], .ref 36 :: .ref 23 :: st, k, (zz_hm n 37 I J P)) = zz_Run zz_prog d 88 (204, [l0, l1, l2, l3, l4, l5, l6], st, false, (zz_hm n 37 I J (zz_up P 23 17 (.ref 36)))) := zz_k_go f88_201 rfl rfl rfl
theorem g88_207 : zz_Run zz_prog d 88 (207, [l0, l1, l2, l3, l4, l5, l6], .int 12 :: st, k, (zz_hm n 37 I J P)) = zz_Run zz_prog d 88 (209, [l0, l1, l2, l3, l4, l5, l6], .ref 37 :: st, false, (zz_hm n 38 (zz_all I 37 0) J P)) := zz_k_go f88_207 rfl rfl rfl
theorem g88_212 : zz_Run zz_prog d 88 (212, [l0, l1, l2, l3, l4, l5, l6], .int 2 :: .int 0 :: .ref 37 :: st, k, (zz_hm n 38 I J P)) = zz_Run zz_prog d 88 (213, [l0, l1, l2, l3, l4, l5, l6], st, false, (zz_hm n 38 (zz_up I 37 0 2) J P)) := zz_k_go f88_212 rfl rfl rfl
theorem g88_216 : zz_Run zz_prog d 88 (216, [l0, l1, l2, l3, l4, l5, l6], .int 1 :: .int 1 :: .ref 37 :: st, k, (zz_hm n 38 I J P)) = zz_Run zz_prog d 88 (217, [l0, l1, l2, l3, l4, l5, l6], st, false, (zz_hm n 38 (zz_up I 37 1 1) J P)) := zz_k_go f88_216 rfl rfl rfl
theorem g88_220 : zz_Run zz_prog d 88 (220, [l0, l1, l2, l3, l4, l5, l6], .int 1 :: .int 2 :: .ref 37 :: st, k, (zz_hm n 38 I J P)) = zz_Run zz_prog d 88 (221, [l0, l1, l2, l3, l4, l5, l6], st, false, (zz_hm n 38 (zz_up I 37 2 1) J P)) := zz_k_go f88_220 rfl rfl rfl
theorem g88_224 : zz_Run zz_prog d 88 (224, [l0, l1, l2, l3, l4, l5, l6], .int 0 :: .int 3 :: .ref 37 :: st, k, (zz_hm n 38 I J P)) = zz_Run zz_prog d 88 (225, [l0, l1, l2, l3, l4, l5, l6], st, false, (zz_hm n 38 (zz_up I 37 3 0) J P)) := zz_k_go f88_224 rfl rfl rfl
theorem g88_228 : zz_Run zz_prog d 88 (228, [l0, l1, l2, l3, l4, l5, l6], .int 0 :: .int 4 :: .ref 37 :: st, k, (zz_hm n 38 I J P)) = zz_Run zz_prog d 88 (229, [l0, l1, l2, l3, l4, l5, l6], st, false, (zz_hm n 38 (zz_up I 37 4 0) J P)) := zz_k_go f88_228 rfl rfl rfl
theorem g88_232 : zz_Run zz_prog d 88 (232, [l0, l1, l2, l3, l4, l5, l6], .int (-1) :: .int 5 :: .ref 37 :: st, k, (zz_hm n 38 I J P)) = zz_Run zz_prog d 88 (233, [l0, l1, l2, l3, l4, l5, l6], st, false, (zz_hm n 38 (zz_up I 37 5 (-1)) J P)) := zz_k_go f88_232 rfl rfl rfl
theorem g88_237 : zz_Run zz_prog d 88 (237, [l0, l1, l2, l3, l4, l5, l6], .int (-1) :: .int 6 :: .ref 37 :: st, k, (zz_hm n 38 I J P)) = zz_Run zz_prog d 88 (238, [l0, l1, l2, l3, l4, l5, l6], st, false, (zz_hm n 38 (zz_up I 37 6 (-1)) J P)) := zz_k_go f88_237 rfl rfl rfl
theorem g88_242 : zz_Run zz_prog d 88 (242, [l0, l1, l2, l3, l4, l5, l6], .int 0 :: .int 7 :: .ref 37 :: st, k, (zz_hm n 38 I J P)) = zz_Run zz_prog d 88 (243, [l0, l1, l2, l3, l4, l5, l6], st, false, (zz_hm n 38 (zz_up I 37 7 0) J P)) := zz_k_go f88_242 rfl rfl rfl
theorem g88_247 : zz_Run zz_prog d 88 (247, [l0, l1, l2, l3, l4, l5, l6], .int 0 :: .int 8 :: .ref 37 :: st, k, (zz_hm n 38 I J P)) = zz_Run zz_prog d 88 (248, [l0, l1, l2, l3, l4, l5, l6], st, false, (zz_hm n 38 (zz_up I 37 8 0) J P)) := zz_k_go f88_247 rfl rfl rfl
theorem g88_252 : zz_Run zz_prog d 88 (252, [l0, l1, l2, l3, l4, l5, l6], .int 1 :: .int 9 :: .ref 37 :: st, k, (zz_hm n 38 I J P)) = zz_Run zz_prog d 88 (253, [l0, l1, l2, l3, l4, l5, l6], st, false, (zz_hm n 38 (zz_up I 37 9 1) J P)) := zz_k_go f88_252 rfl rfl rfl
theorem g88_257 : zz_Run zz_prog d 88 (257, [l0, l1, l2, l3, l4, l5, l6], .int 1 :: .int 10 :: .ref 37 :: st, k, (zz_hm n 38 I J P)) = zz_Run zz_prog d 88 (258, [l0, l1, l2, l3, l4, l5, l6], st, false, (zz_hm n 38 (zz_up I 37 10 1) J P)) := zz_k_go f88_257 rfl rfl rfl
theorem g88_262 : zz_Run zz_prog d 88 (262, [l0, l1, l2, l3, l4, l5, l6], .int 2 :: .int 11 :: .ref 37 :: st, k, (zz_hm n 38 I J P)) = zz_Run zz_prog d 88 (263, [l0, l1, l2, l3, l4, l5, l6], st, false, (zz_hm n 38 (zz_up I 37 11 2) J P)) := zz_k_go f88_262 rfl rfl rfl
theorem g88_263 : zz_Run zz_prog d 88 (263, [l0, l1, l2, l3, l4, l5, l6], .ref 37 :: .ref 23 :: st, k, (zz_hm n 38 I J P)) = zz_Run zz_prog d 88 (266, [l0, l1, l2, l3, l4, l5, l6], st, false, (zz_hm n 38 I J (zz_up P 23 18 (.ref 37)))) := zz_k_go f88_263 rfl rfl rfl
theorem g88_269 : zz_Run zz_prog d 88 (269, [l0, l1, l2, l3, l4, l5, l6], .int 12 :: st, k, (zz_hm n 38 I J P)) = zz_Run zz_prog d 88 (271, [l0, l1, l2, l3, l4, l5, l6], .ref 38 :: st, false, (zz_hm n 39 (zz_all I 38 0) J P)) := zz_k_go f88_269 rfl rfl rfl
theorem g88_274 : zz_Run zz_prog d 88 (274, [l0, l1, l2, l3, l4, l5, l6], .int 3 :: .int 0 :: .ref 38 :: st, k, (zz_hm n 39 I J P)) = zz_Run zz_prog d 88 (275, [l0, l1, l2, l3, l4, l5, l6], st, false, (zz_hm n 39 (zz_up I 38 0 3) J P)) := zz_k_go f88_274 rfl rfl rfl
theorem g88_278 : zz_Run zz_prog d 88 (278, [l0, l1, l2, l3, l4, l5, l6], .int 4 :: .int 1 :: .ref 38 :: st, k, (zz_hm n 39 I J P)) = zz_Run zz_prog d 88 (279, [l0, l1, l2, l3, l4, l5, l6], st, false, (zz_hm n 39 (zz_up I 38 1 4) J P)) := zz_k_go f88_278 rfl rfl rfl
theorem g88_282 : zz_Run zz_prog d 88 (282, [l0, l1, l2, l3, l4, l5, l6], .int 4 :: .int 2 :: .ref 38 :: st, k, (zz_hm n 39 I J P)) = zz_Run zz_prog d 88 (283, [l0, l1, l2, l3, l4, l5, l6], st, false, (zz_hm n 39 (zz_up I 38 2 4) J P)) := zz_k_go f88_282 rfl rfl rfl
theorem g88_286 : zz_Run zz_prog d 88 (286, [l0, l1, l2, l3, l4, l5, l6], .int 5 :: .int 3 :: .ref 38 :: st, k, (zz_hm n 39 I J P)) = zz_Run zz_prog d 88 (287, [l0, l1, l2, l3, l4, l5, l6], st, false, (zz_hm n 39 (zz_up I 38 3 5) J P)) := zz_k_go f88_286 rfl rfl rfl
theorem g88_290 : zz_Run zz_prog d 88 (290, [l0, l1, l2, l3, l4, l5, l6], .int 5 :: .int 4 :: .ref 38 :: st, k, (zz_hm n 39 I J P)) = zz_Run zz_prog d 88 (291, [l0, l1, l2, l3, l4, l5, l6], st, false, (zz_hm n 39 (zz_up I 38 4 5) J P)) := zz_k_go f88_290 rfl rfl rfl
theorem g88_295 : zz_Run zz_prog d 88 (295, [l0, l1, l2, l3, l4, l5, l6], .int 6 :: .int 5 :: .ref 38 :: st, k, (zz_hm n 39 I J P)) = zz_Run zz_prog d 88 (296, [l0, l1, l2, l3, l4, l5, l6], st, false, (zz_hm n 39 (zz_up I 38 5 6) J P)) := zz_k_go f88_295 rfl rfl rfl
theorem g88_301 : zz_Run zz_prog d 88 (301, [l0, l1, l2, l3, l4, l5, l6], .int 6 :: .int 6 :: .ref 38 :: st, k, (zz_hm n 39 I J P)) = zz_Run zz_prog d 88 (302, [l0, l1, l2, l3, l4, l5, l6], st, false, (zz_hm n 39 (zz_up I 38 6 6) J P)) := zz_k_go f88_301 rfl rfl rfl
theorem g88_306 : zz_Run zz_prog d 88 (306, [l0, l1, l2, l3, l4, l5, l6], .int 5 :: .int 7 :: .ref 38 :: st, k, (zz_hm n 39 I J P)) = zz_Run zz_prog d 88 (307, [l0, l1, l2, l3, l4, l5, l6], st, false, (zz_hm n 39 (zz_up I 38 7 5) J P)) := zz_k_go f88_306 rfl rfl rfl
theorem g88_311 : zz_Run zz_prog d 88 (311, [l0, l1, l2, l3, l4, l5, l6], .int 5 :: .int 8 :: .ref 38 :: st, k, (zz_hm n 39 I J P)) = zz_Run zz_prog d 88 (312, [l0, l1, l2, l3, l4, l5, l6], st, false, (zz_hm n 39 (zz_up I 38 8 5) J P)) := zz_k_go f88_311 rfl rfl rfl
theorem g88_316 : zz_Run zz_prog d 88 (316, [l0, l1, l2, l3, l4, l5, l6], .int 4 :: .int 9 :: .ref 38 :: st, k, (zz_hm n 39 I J P)) = zz_Run zz_prog d 88 (317, [l0, l1, l2, l3, l4, l5, l6], st, false, (zz_hm n 39 (zz_up I 38 9 4) J P)) := zz_k_go f88_316 rfl rfl rfl
theorem g88_321 : zz_Run zz_prog d 88 (321, [l0, l1, l2, l3, l4, l5, l6], .int 4 :: .int 10 :: .ref 38 :: st, k, (zz_hm n 39 I J P)) = zz_Run zz_prog d 88 (322, [l0, l1, l2, l3, l4, l5, l6], st, false, (zz_hm n 39 (zz_up I 38 10 4) J P)) := zz_k_go f88_321 rfl rfl rfl
theorem g88_326 : zz_Run zz_prog d 88 (326, [l0, l1, l2, l3, l4, l5, l6], .int 3 :: .int 11 :: .ref 38 :: st, k, (zz_hm n 39 I J P)) = zz_Run zz_prog d 88 (327, [l0, l1, l2, l3, l4, l5, l6], st, false, (zz_hm n 39 (zz_up I 38 11 3) J P)) := zz_k_go f88_326 rfl rfl rfl
theorem g88_327 : zz_Run zz_prog d 88 (327, [l0, l1, l2, l3, l4, l5, l6], .ref 38 :: .ref 23 :: st, k, (zz_hm n 39 I J P)) = zz_Run zz_prog d 88 (330, [l0, l1, l2, l3, l4, l5, l6], st, false, (zz_hm n 39 I J (zz_up P 23 19 (.ref 38)))) := zz_k_go f88_327 rfl rfl rfl
theorem g88_333 : zz_Run zz_prog d 88 (333, [l0, l1, l2, l3, l4, l5, l6], .int 15 :: st, k, (zz_hm n 39 I J P)) = zz_Run zz_prog d 88 (335, [l0, l1, l2, l3, l4, l5, l6], .ref 39 :: st, false, (zz_hm n 40 (zz_all I 39 0) J P)) := zz_k_go f88_333 rfl rfl rfl
theorem g88_335 : zz_Run zz_prog d 88 (335, [l0, l1, l2, l3, l4, l5, l6], .ref 39 :: .ref 23 :: st, k, (zz_hm n 40 I J P)) = zz_Run zz_prog d 88 (338, [l0, l1, l2, l3, l4, l5, l6], st, false, (zz_hm n 40 I J (zz_up P 23 20 (.ref 39)))) := zz_k_go f88_335 rfl rfl rfl
theorem g88_341 : zz_Run zz_prog d 88 (341, [l0, l1, l2, l3, l4, l5, l6], .int 17 :: st, k, (zz_hm n 40 I J P)) = zz_Run zz_prog d 88 (343, [l0, l1, l2, l3, l4, l5, l6], .ref 40 :: st, false, (zz_hm n 41 (zz_all I 40 0) J P)) := zz_k_go f88_341 rfl rfl rfl
theorem g88_343 : zz_Run zz_prog d 88 (343, [l0, l1, l2, l3, l4, l5, l6], .ref 40 :: .ref 23 :: st, k, (zz_hm n 41 I J P)) = zz_Run zz_prog d 88 (346, [l0, l1, l2, l3, l4, l5, l6], st, false, (zz_hm n 41 I J (zz_up P 23 21 (.ref 40)))) := zz_k_go f88_343 rfl rfl rfl
theorem g88_349 : zz_Run zz_prog d 88 (349, [l0, l1, l2, l3, l4, l5, l6], .int 17 :: st, k, (zz_hm n 41 I J P)) = zz_Run zz_prog d 88 (351, [l0, l1, l2, l3, l4, l5, l6], .ref 41 :: st, false, (zz_hm n 42 (zz_all I 41 0) J P)) := zz_k_go f88_349 rfl rfl rfl
theorem g88_351 : zz_Run zz_prog d 88 (351, [l0, l1, l2, l3, l4, l5, l6], .ref 41 :: .ref 23 :: st, k, (zz_hm n 42 I J P)) = zz_Run zz_prog d 88 (354, [l0, l1, l2, l3, l4, l5, l6], st, false, (zz_hm n 42 I J (zz_up P 23 22 (.ref 41)))) := zz_k_go f88_351 rfl rfl rfl
theorem g88_357 : zz_Run zz_prog d 88 (357, [l0, l1, l2, l3, l4, l5, l6], .int 17 :: st, k, (zz_hm n 42 I J P)) = zz_Run zz_prog d 88 (359, [l0, l1, l2, l3, l4, l5, l6], .ref 42 :: st, false, (zz_hm n 43 (zz_all I 42 0) J P)) := zz_k_go f88_357 rfl rfl rfl
theorem g88_359 : zz_Run zz_prog d 88 (359, [l0, l1, l2, l3, l4, l5, l6], .ref 42 :: .ref 23 :: st, k, (zz_hm n 43 I J P)) = zz_Run zz_prog d 88 (362, [l0, l1, l2, l3, l4, l5, l6], st, false, (zz_hm n 43 I J (zz_up P 23 23 (.ref 42)))) := zz_k_go f88_359 rfl rfl rfl
theorem g88_365 : zz_Run zz_prog d 88 (365, [l0, l1, l2, l3, l4, l5, l6], .int 20 :: st, k, (zz_hm n 43 I J P)) = zz_Run zz_prog d 88 (367, [l0, l1, l2, l3, l4, l5, l6], .ref 43 :: st, false, (zz_hm n 44 (zz_all I 43 0) J P)) := zz_k_go f88_365 rfl rfl rfl
theorem g88_367 : zz_Run zz_prog d 88 (367, [l0, l1, l2, l3, l4, l5, l6], .ref 43 :: .ref 23 :: st, k, (zz_hm n 44 I J P)) = zz_Run zz_prog d 88 (370, [l0, l1, l2, l3, l4, l5, l6], st, false, (zz_hm n 44 I J (zz_up P 23 24 (.ref 43)))) := zz_k_go f88_367 rfl rfl rfl
end G88
section H88
variable {d n j : Nat} {l0 l1 l2 l3 l4 l5 l6 : Option Value} {st : List Value} {k : Bool} {h : zz_H} {v w v1 v2 : Int32} {y y1 : Int64} {a a1 a2 : Nat} {b0 b1 b2 b3 b4 b5 b6 b7 b8 : Value} {I : Nat → Nat → Int32} {J : Nat → Nat → Int64} {ex : List (Nat × Nat)}
theorem g88_384 : zz_Run zz_prog d 88 (384, [l0, l1, l2, l3, l4, l5, l6], .ref 23 :: st, k, (zz_hc n I J)) = zz_Run zz_prog d 88 (387, [l0, l1, l2, l3, l4, l5, l6], .ref 38 :: st, k, (zz_hc n I J)) := zz_k_go f88_384 rfl rfl rfl
theorem g88_388 (ha : zz_isrd a = true) : zz_Run zz_prog d 88 (388, [l0, l1, l2, l3, l4, l5, l6], .int v :: .ref a :: st, k, (zz_hc n I J)) = zz_ck (zz_in v (zz_ary n a)) (zz_Run zz_prog d 88 (389, [l0, l1, l2, l3, l4, l5, l6], .int (I a v.toNatClampNeg) :: st, k, (zz_hc n I J))) := zz_c_iald f88_388 ha
theorem g88_393 : zz_Run zz_prog d 88 (393, [l0, l1, l2, l3, l4, l5, l6], .ref 23 :: st, k, (zz_hc n I J)) = zz_Run zz_prog d 88 (396, [l0, l1, l2, l3, l4, l5, l6], .ref 26 :: st, k, (zz_hc n I J)) := zz_k_go f88_393 rfl rfl rfl
theorem g88_398 (ha : zz_isar a = true) : zz_Run zz_prog d 88 (398, [l0, l1, l2, l3, l4, l5, l6], .int w :: .int v :: .ref a :: st, k, (zz_hc n I J)) = zz_ck (zz_in v (zz_ary n a)) (zz_Run zz_prog d 88 (399, [l0, l1, l2, l3, l4, l5, l6], st, false, (zz_hc n (zz_up I a v.toNatClampNeg w) J))) := zz_c_iast f88_398 ha
theorem g88_400 : zz_Run zz_prog d 88 (400, [l0, l1, l2, l3, l4, l5, l6], .ref 23 :: st, k, (zz_hc n I J)) = zz_Run zz_prog d 88 (403, [l0, l1, l2, l3, l4, l5, l6], .ref 27 :: st, k, (zz_hc n I J)) := zz_k_go f88_400 rfl rfl rfl
theorem g88_405 : zz_Run zz_prog d 88 (405, [l0, l1, l2, l3, l4, l5, l6], .ref 23 :: st, k, (zz_hc n I J)) = zz_Run zz_prog d 88 (408, [l0, l1, l2, l3, l4, l5, l6], .ref 37 :: st, k, (zz_hc n I J)) := zz_k_go f88_405 rfl rfl rfl
theorem g88_409 (ha : zz_isrd a = true) : zz_Run zz_prog d 88 (409, [l0, l1, l2, l3, l4, l5, l6], .int v :: .ref a :: st, k, (zz_hc n I J)) = zz_ck (zz_in v (zz_ary n a)) (zz_Run zz_prog d 88 (410, [l0, l1, l2, l3, l4, l5, l6], .int (I a v.toNatClampNeg) :: st, k, (zz_hc n I J))) := zz_c_iald f88_409 ha
theorem g88_414 (ha : zz_isar a = true) : zz_Run zz_prog d 88 (414, [l0, l1, l2, l3, l4, l5, l6], .int w :: .int v :: .ref a :: st, k, (zz_hc n I J)) = zz_ck (zz_in v (zz_ary n a)) (zz_Run zz_prog d 88 (415, [l0, l1, l2, l3, l4, l5, l6], st, false, (zz_hc n (zz_up I a v.toNatClampNeg w) J))) := zz_c_iast f88_414 ha
theorem g88_456 : zz_Run zz_prog d 88 (456, [l0, l1, l2, l3, l4, l5, l6], [b0, b1, .ref 23], k, (zz_hc n I J)) = zz_ret (zz_Call zz_prog d 91 [.ref 23, b1, b0] (zz_hc n I J)) (fun v k' h' => zz_Run zz_prog d 88 (459, [l0, l1, l2, l3, l4, l5, l6], v.toList ++ [], k && k', h')) (fun a k' h' => zz_th d 88 456 a [l0, l1, l2, l3, l4, l5, l6] (k && k') h') := zz_k_call f88_456 rfl rfl rfl
theorem g88_463 : zz_Run zz_prog d 88 (463, [l0, l1, l2, l3, l4, l5, l6], .ref 23 :: st, k, (zz_hc n I J)) = zz_Run zz_prog d 88 (466, [l0, l1, l2, l3, l4, l5, l6], .ref 28 :: st, k, (zz_hc n I J)) := zz_k_go f88_463 rfl rfl rfl
theorem g88_468 (ha : zz_isar a = true) : zz_Run zz_prog d 88 (468, [l0, l1, l2, l3, l4, l5, l6], .int w :: .int v :: .ref a :: st, k, (zz_hc n I J)) = zz_ck (zz_in v (zz_ary n a)) (zz_Run zz_prog d 88 (469, [l0, l1, l2, l3, l4, l5, l6], st, false, (zz_hc n (zz_up I a v.toNatClampNeg w) J))) := zz_c_iast f88_468 ha
theorem g88_470 : zz_Run zz_prog d 88 (470, [l0, l1, l2, l3, l4, l5, l6], .ref 23 :: st, k, (zz_hc n I J)) = zz_Run zz_prog d 88 (473, [l0, l1, l2, l3, l4, l5, l6], .ref 29 :: st, k, (zz_hc n I J)) := zz_k_go f88_470 rfl rfl rfl
theorem g88_476 (ha : zz_isar a = true) : zz_Run zz_prog d 88 (476, [l0, l1, l2, l3, l4, l5, l6], .int w :: .int v :: .ref a :: st, k, (zz_hc n I J)) = zz_ck (zz_in v (zz_ary n a)) (zz_Run zz_prog d 88 (477, [l0, l1, l2, l3, l4, l5, l6], st, false, (zz_hc n (zz_up I a v.toNatClampNeg w) J))) := zz_c_iast f88_476 ha
theorem g88_501 : zz_Run zz_prog d 88 (501, [l0, l1, l2, l3, l4, l5, l6], .ref 23 :: st, k, (zz_hc n I J)) = zz_Run zz_prog d 88 (504, [l0, l1, l2, l3, l4, l5, l6], .ref 31 :: st, k, (zz_hc n I J)) := zz_k_go f88_501 rfl rfl rfl
theorem g88_506 (ha : zz_isar a = true) : zz_Run zz_prog d 88 (506, [l0, l1, l2, l3, l4, l5, l6], .int w :: .int v :: .ref a :: st, k, (zz_hc n I J)) = zz_ck (zz_in v (zz_ary n a)) (zz_Run zz_prog d 88 (507, [l0, l1, l2, l3, l4, l5, l6], st, false, (zz_hc n (zz_up I a v.toNatClampNeg w) J))) := zz_c_iast f88_506 ha
theorem g88_621 : zz_Run zz_prog d 88 (621, [l0, l1, l2, l3, l4, l5, l6], .ref 23 :: st, k, (zz_hc n I J)) = zz_Run zz_prog d 88 (624, [l0, l1, l2, l3, l4, l5, l6], .ref 30 :: st, k, (zz_hc n I J)) := zz_k_go f88_621 rfl rfl rfl
theorem g88_635 : zz_Run zz_prog d 88 (635, [l0, l1, l2, l3, l4, l5, l6], [b0, b1, .ref 23, b3, b4], k, (zz_hc n I J)) = zz_ret (zz_Call zz_prog d 92 [.ref 23, b1, b0] (zz_hc n I J)) (fun v k' h' => zz_Run zz_prog d 88 (638, [l0, l1, l2, l3, l4, l5, l6], v.toList ++ [b3, b4], k && k', h')) (fun a k' h' => zz_th d 88 635 a [l0, l1, l2, l3, l4, l5, l6] (k && k') h') := zz_k_call f88_635 rfl rfl rfl
theorem g88_638 (ha : zz_isar a = true) : zz_Run zz_prog d 88 (638, [l0, l1, l2, l3, l4, l5, l6], .int w :: .int v :: .ref a :: st, k, (zz_hc n I J)) = zz_ck (zz_in v (zz_ary n a)) (zz_Run zz_prog d 88 (639, [l0, l1, l2, l3, l4, l5, l6], st, false, (zz_hc n (zz_up I a v.toNatClampNeg w) J))) := zz_c_iast f88_638 ha
theorem g88_640 : zz_Run zz_prog d 88 (640, [l0, l1, l2, l3, l4, l5, l6], .ref 23 :: st, k, (zz_hc n I J)) = zz_Run zz_prog d 88 (643, [l0, l1, l2, l3, l4, l5, l6], .ref 30 :: st, k, (zz_hc n I J)) := zz_k_go f88_640 rfl rfl rfl
theorem g88_660 : zz_Run zz_prog d 88 (660, [l0, l1, l2, l3, l4, l5, l6], [b0, b1, .ref 23, b3, b4], k, (zz_hc n I J)) = zz_ret (zz_Call zz_prog d 92 [.ref 23, b1, b0] (zz_hc n I J)) (fun v k' h' => zz_Run zz_prog d 88 (663, [l0, l1, l2, l3, l4, l5, l6], v.toList ++ [b3, b4], k && k', h')) (fun a k' h' => zz_th d 88 660 a [l0, l1, l2, l3, l4, l5, l6] (k && k') h') := zz_k_call f88_660 rfl rfl rfl
theorem g88_663 (ha : zz_isar a = true) : zz_Run zz_prog d 88 (663, [l0, l1, l2, l3, l4, l5, l6], .int w :: .int v :: .ref a :: st, k, (zz_hc n I J)) = zz_ck (zz_in v (zz_ary n a)) (zz_Run zz_prog d 88 (664, [l0, l1, l2, l3, l4, l5, l6], st, false, (zz_hc n (zz_up I a v.toNatClampNeg w) J))) := zz_c_iast f88_663 ha
theorem g88_665 : zz_Run zz_prog d 88 (665, [l0, l1, l2, l3, l4, l5, l6], .ref 23 :: st, k, (zz_hc n I J)) = zz_Run zz_prog d 88 (668, [l0, l1, l2, l3, l4, l5, l6], .ref 30 :: st, k, (zz_hc n I J)) := zz_k_go f88_665 rfl rfl rfl
theorem g88_685 : zz_Run zz_prog d 88 (685, [l0, l1, l2, l3, l4, l5, l6], [b0, b1, .ref 23, b3, b4], k, (zz_hc n I J)) = zz_ret (zz_Call zz_prog d 92 [.ref 23, b1, b0] (zz_hc n I J)) (fun v k' h' => zz_Run zz_prog d 88 (688, [l0, l1, l2, l3, l4, l5, l6], v.toList ++ [b3, b4], k && k', h')) (fun a k' h' => zz_th d 88 685 a [l0, l1, l2, l3, l4, l5, l6] (k && k') h') := zz_k_call f88_685 rfl rfl rfl
theorem g88_688 (ha : zz_isar a = true) : zz_Run zz_prog d 88 (688, [l0, l1, l2, l3, l4, l5, l6], .int w :: .int v :: .ref a :: st, k, (zz_hc n I J)) = zz_ck (zz_in v (zz_ary n a)) (zz_Run zz_prog d 88 (689, [l0, l1, l2, l3, l4, l5, l6], st, false, (zz_hc n (zz_up I a v.toNatClampNeg w) J))) := zz_c_iast f88_688 ha
theorem g88_690 : zz_Run zz_prog d 88 (690, [l0, l1, l2, l3, l4, l5, l6], .ref 23 :: st, k, (zz_hc n I J)) = zz_Run zz_prog d 88 (693, [l0, l1, l2, l3, l4, l5, l6], .ref 30 :: st, k, (zz_hc n I J)) := zz_k_go f88_690 rfl rfl rfl
theorem g88_710 : zz_Run zz_prog d 88 (710, [l0, l1, l2, l3, l4, l5, l6], [b0, b1, .ref 23, b3, b4], k, (zz_hc n I J)) = zz_ret (zz_Call zz_prog d 92 [.ref 23, b1, b0] (zz_hc n I J)) (fun v k' h' => zz_Run zz_prog d 88 (713, [l0, l1, l2, l3, l4, l5, l6], v.toList ++ [b3, b4], k && k', h')) (fun a k' h' => zz_th d 88 710 a [l0, l1, l2, l3, l4, l5, l6] (k && k') h') := zz_k_call f88_710 rfl rfl rfl
theorem g88_713 (ha : zz_isar a = true) : zz_Run zz_prog d 88 (713, [l0, l1, l2, l3, l4, l5, l6], .int w :: .int v :: .ref a :: st, k, (zz_hc n I J)) = zz_ck (zz_in v (zz_ary n a)) (zz_Run zz_prog d 88 (714, [l0, l1, l2, l3, l4, l5, l6], st, false, (zz_hc n (zz_up I a v.toNatClampNeg w) J))) := zz_c_iast f88_713 ha
theorem g88_715 : zz_Run zz_prog d 88 (715, [l0, l1, l2, l3, l4, l5, l6], .ref 23 :: st, k, (zz_hc n I J)) = zz_Run zz_prog d 88 (718, [l0, l1, l2, l3, l4, l5, l6], .ref 30 :: st, k, (zz_hc n I J)) := zz_k_go f88_715 rfl rfl rfl
theorem g88_735 : zz_Run zz_prog d 88 (735, [l0, l1, l2, l3, l4, l5, l6], [b0, b1, .ref 23, b3, b4], k, (zz_hc n I J)) = zz_ret (zz_Call zz_prog d 92 [.ref 23, b1, b0] (zz_hc n I J)) (fun v k' h' => zz_Run zz_prog d 88 (738, [l0, l1, l2, l3, l4, l5, l6], v.toList ++ [b3, b4], k && k', h')) (fun a k' h' => zz_th d 88 735 a [l0, l1, l2, l3, l4, l5, l6] (k && k') h') := zz_k_call f88_735 rfl rfl rfl
theorem g88_738 (ha : zz_isar a = true) : zz_Run zz_prog d 88 (738, [l0, l1, l2, l3, l4, l5, l6], .int w :: .int v :: .ref a :: st, k, (zz_hc n I J)) = zz_ck (zz_in v (zz_ary n a)) (zz_Run zz_prog d 88 (739, [l0, l1, l2, l3, l4, l5, l6], st, false, (zz_hc n (zz_up I a v.toNatClampNeg w) J))) := zz_c_iast f88_738 ha
theorem g88_740 : zz_Run zz_prog d 88 (740, [l0, l1, l2, l3, l4, l5, l6], .ref 23 :: st, k, (zz_hc n I J)) = zz_Run zz_prog d 88 (743, [l0, l1, l2, l3, l4, l5, l6], .ref 30 :: st, k, (zz_hc n I J)) := zz_k_go f88_740 rfl rfl rfl
theorem g88_758 : zz_Run zz_prog d 88 (758, [l0, l1, l2, l3, l4, l5, l6], [b0, b1, .ref 23, b3, b4], k, (zz_hc n I J)) = zz_ret (zz_Call zz_prog d 92 [.ref 23, b1, b0] (zz_hc n I J)) (fun v k' h' => zz_Run zz_prog d 88 (761, [l0, l1, l2, l3, l4, l5, l6], v.toList ++ [b3, b4], k && k', h')) (fun a k' h' => zz_th d 88 758 a [l0, l1, l2, l3, l4, l5, l6] (k && k') h') := zz_k_call f88_758 rfl rfl rfl
theorem g88_761 (ha : zz_isar a = true) : zz_Run zz_prog d 88 (761, [l0, l1, l2, l3, l4, l5, l6], .int w :: .int v :: .ref a :: st, k, (zz_hc n I J)) = zz_ck (zz_in v (zz_ary n a)) (zz_Run zz_prog d 88 (762, [l0, l1, l2, l3, l4, l5, l6], st, false, (zz_hc n (zz_up I a v.toNatClampNeg w) J))) := zz_c_iast f88_761 ha
theorem g88_776 : zz_Run zz_prog d 88 (776, [l0, l1, l2, l3, l4, l5, l6], .ref 23 :: st, k, (zz_hc n I J)) = zz_Run zz_prog d 88 (779, [l0, l1, l2, l3, l4, l5, l6], .ref 24 :: st, k, (zz_hc n I J)) := zz_k_go f88_776 rfl rfl rfl
theorem g88_786 (ha : zz_isar a = true) : zz_Run zz_prog d 88 (786, [l0, l1, l2, l3, l4, l5, l6], .int w :: .int v :: .ref a :: st, k, (zz_hc n I J)) = zz_ck (zz_in v (zz_ary n a)) (zz_Run zz_prog d 88 (787, [l0, l1, l2, l3, l4, l5, l6], st, false, (zz_hc n (zz_up I a v.toNatClampNeg w) J))) := zz_c_iast f88_786 ha
theorem g88_794 : zz_Run zz_prog d 88 (794, [l0, l1, l2, l3, l4, l5, l6], .ref 23 :: st, k, (zz_hc n I J)) = zz_Run zz_prog d 88 (797, [l0, l1, l2, l3, l4, l5, l6], .ref 24 :: st, k, (zz_hc n I J)) := zz_k_go f88_794 rfl rfl rfl
theorem g88_801 (ha : zz_isar a = true) : zz_Run zz_prog d 88 (801, [l0, l1, l2, l3, l4, l5, l6], .int w :: .int v :: .ref a :: st, k, (zz_hc n I J)) = zz_ck (zz_in v (zz_ary n a)) (zz_Run zz_prog d 88 (802, [l0, l1, l2, l3, l4, l5, l6], st, false, (zz_hc n (zz_up I a v.toNatClampNeg w) J))) := zz_c_iast f88_801 ha
theorem g88_803 : zz_Run zz_prog d 88 (803, [l0, l1, l2, l3, l4, l5, l6], .ref 23 :: st, k, (zz_hc n I J)) = zz_Run zz_prog d 88 (806, [l0, l1, l2, l3, l4, l5, l6], .ref 24 :: st, k, (zz_hc n I J)) := zz_k_go f88_803 rfl rfl rfl
theorem g88_810 (ha : zz_isar a = true) : zz_Run zz_prog d 88 (810, [l0, l1, l2, l3, l4, l5, l6], .int w :: .int v :: .ref a :: st, k, (zz_hc n I J)) = zz_ck (zz_in v (zz_ary n a)) (zz_Run zz_prog d 88 (811, [l0, l1, l2, l3, l4, l5, l6], st, false, (zz_hc n (zz_up I a v.toNatClampNeg w) J))) := zz_c_iast f88_810 ha
theorem g88_812 : zz_Run zz_prog d 88 (812, [l0, l1, l2, l3, l4, l5, l6], .ref 23 :: st, k, (zz_hc n I J)) = zz_Run zz_prog d 88 (815, [l0, l1, l2, l3, l4, l5, l6], .ref 24 :: st, k, (zz_hc n I J)) := zz_k_go f88_812 rfl rfl rfl
theorem g88_819 (ha : zz_isar a = true) : zz_Run zz_prog d 88 (819, [l0, l1, l2, l3, l4, l5, l6], .int w :: .int v :: .ref a :: st, k, (zz_hc n I J)) = zz_ck (zz_in v (zz_ary n a)) (zz_Run zz_prog d 88 (820, [l0, l1, l2, l3, l4, l5, l6], st, false, (zz_hc n (zz_up I a v.toNatClampNeg w) J))) := zz_c_iast f88_819 ha
theorem g88_821 : zz_Run zz_prog d 88 (821, [l0, l1, l2, l3, l4, l5, l6], .ref 23 :: st, k, (zz_hc n I J)) = zz_Run zz_prog d 88 (824, [l0, l1, l2, l3, l4, l5, l6], .ref 24 :: st, k, (zz_hc n I J)) := zz_k_go f88_821 rfl rfl rfl
theorem g88_828 (ha : zz_isar a = true) : zz_Run zz_prog d 88 (828, [l0, l1, l2, l3, l4, l5, l6], .int w :: .int v :: .ref a :: st, k, (zz_hc n I J)) = zz_ck (zz_in v (zz_ary n a)) (zz_Run zz_prog d 88 (829, [l0, l1, l2, l3, l4, l5, l6], st, false, (zz_hc n (zz_up I a v.toNatClampNeg w) J))) := zz_c_iast f88_828 ha
theorem g88_830 : zz_Run zz_prog d 88 (830, [l0, l1, l2, l3, l4, l5, l6], .ref 23 :: st, k, (zz_hc n I J)) = zz_Run zz_prog d 88 (833, [l0, l1, l2, l3, l4, l5, l6], .ref 24 :: st, k, (zz_hc n I J)) := zz_k_go f88_830 rfl rfl rfl
theorem g88_837 (ha : zz_isar a = true) : zz_Run zz_prog d 88 (837, [l0, l1, l2, l3, l4, l5, l6], .int w :: .int v :: .ref a :: st, k, (zz_hc n I J)) = zz_ck (zz_in v (zz_ary n a)) (zz_Run zz_prog d 88 (838, [l0, l1, l2, l3, l4, l5, l6], st, false, (zz_hc n (zz_up I a v.toNatClampNeg w) J))) := zz_c_iast f88_837 ha
end H88
section H91
variable {d n j : Nat} {l0 l1 l2 l3 : Option Value} {st : List Value} {k : Bool} {h : zz_H} {v w v1 v2 : Int32} {y y1 : Int64} {a a1 a2 : Nat} {b0 b1 b2 b3 b4 b5 b6 b7 b8 : Value} {I : Nat → Nat → Int32} {J : Nat → Nat → Int64} {ex : List (Nat × Nat)}
theorem g91_1 : zz_Run zz_prog d 91 (1, [l0, l1, l2, l3], .ref 23 :: st, k, (zz_hc n I J)) = zz_Run zz_prog d 91 (4, [l0, l1, l2, l3], .ref 27 :: st, k, (zz_hc n I J)) := zz_k_go f91_1 rfl rfl rfl
theorem g91_5 (ha : zz_isrd a = true) : zz_Run zz_prog d 91 (5, [l0, l1, l2, l3], .int v :: .ref a :: st, k, (zz_hc n I J)) = zz_ck (zz_in v (zz_ary n a)) (zz_Run zz_prog d 91 (6, [l0, l1, l2, l3], .int (I a v.toNatClampNeg) :: st, k, (zz_hc n I J))) := zz_c_iald f91_5 ha
theorem g91_7 : zz_Run zz_prog d 91 (7, [l0, l1, l2, l3], .ref 23 :: st, k, (zz_hc n I J)) = zz_Run zz_prog d 91 (10, [l0, l1, l2, l3], .ref 27 :: st, k, (zz_hc n I J)) := zz_k_go f91_7 rfl rfl rfl
theorem g91_11 (ha : zz_isrd a = true) : zz_Run zz_prog d 91 (11, [l0, l1, l2, l3], .int v :: .ref a :: st, k, (zz_hc n I J)) = zz_ck (zz_in v (zz_ary n a)) (zz_Run zz_prog d 91 (12, [l0, l1, l2, l3], .int (I a v.toNatClampNeg) :: st, k, (zz_hc n I J))) := zz_c_iald f91_11 ha
theorem g91_18 : zz_Run zz_prog d 91 (18, [l0, l1, l2, l3], .ref 23 :: st, k, (zz_hc n I J)) = zz_Run zz_prog d 91 (21, [l0, l1, l2, l3], .ref 26 :: st, k, (zz_hc n I J)) := zz_k_go f91_18 rfl rfl rfl
theorem g91_22 (ha : zz_isrd a = true) : zz_Run zz_prog d 91 (22, [l0, l1, l2, l3], .int v :: .ref a :: st, k, (zz_hc n I J)) = zz_ck (zz_in v (zz_ary n a)) (zz_Run zz_prog d 91 (23, [l0, l1, l2, l3], .int (I a v.toNatClampNeg) :: st, k, (zz_hc n I J))) := zz_c_iald f91_22 ha
theorem g91_24 : zz_Run zz_prog d 91 (24, [l0, l1, l2, l3], .ref 23 :: st, k, (zz_hc n I J)) = zz_Run zz_prog d 91 (27, [l0, l1, l2, l3], .ref 26 :: st, k, (zz_hc n I J)) := zz_k_go f91_24 rfl rfl rfl
theorem g91_28 (ha : zz_isrd a = true) : zz_Run zz_prog d 91 (28, [l0, l1, l2, l3], .int v :: .ref a :: st, k, (zz_hc n I J)) = zz_ck (zz_in v (zz_ary n a)) (zz_Run zz_prog d 91 (29, [l0, l1, l2, l3], .int (I a v.toNatClampNeg) :: st, k, (zz_hc n I J))) := zz_c_iald f91_28 ha
theorem g91_36 : zz_Run zz_prog d 91 (36, [l0, l1, l2, l3], .ref 23 :: st, k, (zz_hc n I J)) = zz_Run zz_prog d 91 (39, [l0, l1, l2, l3], .ref 26 :: st, k, (zz_hc n I J)) := zz_k_go f91_36 rfl rfl rfl
theorem g91_40 (ha : zz_isrd a = true) : zz_Run zz_prog d 91 (40, [l0, l1, l2, l3], .int v :: .ref a :: st, k, (zz_hc n I J)) = zz_ck (zz_in v (zz_ary n a)) (zz_Run zz_prog d 91 (41, [l0, l1, l2, l3], .int (I a v.toNatClampNeg) :: st, k, (zz_hc n I J))) := zz_c_iald f91_40 ha
end H91
section H92
variable {d n j : Nat} {l0 l1 l2 l3 l4 : Option Value} {st : List Value} {k : Bool} {h : zz_H} {v w v1 v2 : Int32} {y y1 : Int64} {a a1 a2 : Nat} {b0 b1 b2 b3 b4 b5 b6 b7 b8 : Value} {I : Nat → Nat → Int32} {J : Nat → Nat → Int64} {ex : List (Nat × Nat)}
theorem g92_13 : zz_Run zz_prog d 92 (13, [l0, l1, l2, l3, l4], .ref 23 :: st, k, (zz_hc n I J)) = zz_Run zz_prog d 92 (16, [l0, l1, l2, l3, l4], .ref 26 :: st, k, (zz_hc n I J)) := zz_k_go f92_13 rfl rfl rfl
theorem g92_18 (ha : zz_isrd a = true) : zz_Run zz_prog d 92 (18, [l0, l1, l2, l3, l4], .int v :: .ref a :: st, k, (zz_hc n I J)) = zz_ck (zz_in v (zz_ary n a)) (zz_Run zz_prog d 92 (19, [l0, l1, l2, l3, l4], .int (I a v.toNatClampNeg) :: st, k, (zz_hc n I J))) := zz_c_iald f92_18 ha
theorem g92_24 : zz_Run zz_prog d 92 (24, [l0, l1, l2, l3, l4], .ref 23 :: st, k, (zz_hc n I J)) = zz_Run zz_prog d 92 (27, [l0, l1, l2, l3, l4], .ref 27 :: st, k, (zz_hc n I J)) := zz_k_go f92_24 rfl rfl rfl
theorem g92_29 (ha : zz_isrd a = true) : zz_Run zz_prog d 92 (29, [l0, l1, l2, l3, l4], .int v :: .ref a :: st, k, (zz_hc n I J)) = zz_ck (zz_in v (zz_ary n a)) (zz_Run zz_prog d 92 (30, [l0, l1, l2, l3, l4], .int (I a v.toNatClampNeg) :: st, k, (zz_hc n I J))) := zz_c_iald f92_29 ha
end H92
section G179
variable {d n j : Nat} {l0 l1 l2 l3 l4 l5 l6 : Option Value} {st : List Value} {k : Bool} {v w : Int32} {b0 b1 b2 b3 : Value} {a : Nat} {I : Nat → Nat → Int32} {J : Nat → Nat → Int64} {P : Nat → Nat → Value}
theorem g179_0 : zz_Run zz_prog d 179 (0, [l0, l1, l2, l3, l4, l5, l6], st, k, (zz_hm n 5 I J P)) = zz_Run zz_prog d 179 (3, [l0, l1, l2, l3, l4, l5, l6], .ref 5 :: st, false, (zz_hm n 6 (zz_all I 5 0) (zz_all J 5 0) (zz_all P 5 .null))) := zz_k_go f179_0 rfl rfl rfl
theorem g179_4 : zz_Run zz_prog d 179 (4, [l0, l1, l2, l3, l4, l5, l6], [.ref 5, b0], k, (zz_hm n 6 I J P)) = zz_ret (zz_Call zz_prog d 0 [.ref 5] (zz_hm n 6 I J P)) (fun v k' h' => zz_Run zz_prog d 179 (7, [l0, l1, l2, l3, l4, l5, l6], v.toList ++ [b0], k && k', h')) (fun a k' h' => zz_th d 179 4 a [l0, l1, l2, l3, l4, l5, l6] (k && k') h') := zz_k_call f179_4 rfl rfl rfl
theorem g179_8 : zz_Run zz_prog d 179 (8, [l0, l1, l2, l3, l4, l5, l6], st, k, (zz_hm n 23 I J P)) = zz_Run zz_prog d 179 (11, [l0, l1, l2, l3, l4, l5, l6], .ref 23 :: st, false, (zz_hm n 24 (zz_all I 23 0) (zz_all J 23 0) (zz_all P 23 .null))) := zz_k_go f179_8 rfl rfl rfl
theorem g179_12 : zz_Run zz_prog d 179 (12, [l0, l1, l2, l3, l4, l5, l6], [.ref 23, b0], k, (zz_hm n 24 I J P)) = zz_ret (zz_Call zz_prog d 88 [.ref 23] (zz_hm n 24 I J P)) (fun v k' h' => zz_Run zz_prog d 179 (15, [l0, l1, l2, l3, l4, l5, l6], v.toList ++ [b0], k && k', h')) (fun a k' h' => zz_th d 179 12 a [l0, l1, l2, l3, l4, l5, l6] (k && k') h') := zz_k_call f179_12 rfl rfl rfl
theorem g179_17 : zz_Run zz_prog d 179 (17, [l0, l1, l2, l3, l4, l5, l6], .int 1 :: st, k, (zz_hm n 44 I J P)) = zz_Run zz_prog d 179 (19, [l0, l1, l2, l3, l4, l5, l6], .ref 44 :: st, false, (zz_hm n 45 I (zz_all J 44 0) P)) := zz_k_go f179_17 rfl rfl rfl
end G179
