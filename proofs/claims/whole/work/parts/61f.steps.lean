section S133
variable {d n j : Nat} {l0 l1 l2 l3 l4 l5 l6 : Option Value} {st : List Value} {k : Bool} {h : zz_H} {v w v1 v2 : Int32} {y y1 : Int64} {a a1 a2 : Nat} {b0 b1 b2 b3 b4 b5 b6 b7 b8 : Value} {I : Nat → Nat → Int32} {J : Nat → Nat → Int64} {ex : List (Nat × Nat)}
theorem p133 : zz_prog 133 = some zz_m133 := rfl
theorem e133 (g0 : Nat) (g1 : Int32) (g2 : Int32) : zz_Call zz_prog (d + 1) 133 [.ref g0, .int g1, .int g2] h = zz_Run zz_prog d 133 (0, [some (.ref g0), some (.int g1), some (.int g2), none, none, none, none], [], true, h) := rfl
theorem t133 (pc : Nat) (L : List (Option Value)) : zz_th d 133 pc a L k h = some (.inr a, k, h) := zz_th_out p133 rfl
theorem f133_0 : zz_fetch zz_prog 133 0 = some (.iconst 4, 1, [], []) := zz_fetch_of p133 rfl rfl
theorem s133_0 : zz_Run zz_prog d 133 (0, [l0, l1, l2, l3, l4, l5, l6], st, k, h) = zz_Run zz_prog d 133 (1, [l0, l1, l2, l3, l4, l5, l6], .int 4 :: st, k, h) := zz_k_num f133_0 rfl
theorem f133_1 : zz_fetch zz_prog 133 1 = some (.istore_n 3, 1, [], []) := zz_fetch_of p133 rfl rfl
theorem s133_1 : zz_Run zz_prog d 133 (1, [l0, l1, l2, l3, l4, l5, l6], .int v :: st, k, h) = zz_sl l2 (zz_Run zz_prog d 133 (2, [l0, l1, l2, some (.int v), l4, l5, l6], st, k, h)) := zz_k_st (j := 3) (u := .int v) f133_1 rfl (fun q hq => by cases hq) rfl (show 3 < 7 by decide) (by cases l2 <;> rfl) rfl
theorem f133_2 : zz_fetch zz_prog 133 2 = some (.iconst 0, 1, [], []) := zz_fetch_of p133 rfl rfl
theorem s133_2 : zz_Run zz_prog d 133 (2, [l0, l1, l2, l3, l4, l5, l6], st, k, h) = zz_Run zz_prog d 133 (3, [l0, l1, l2, l3, l4, l5, l6], .int 0 :: st, k, h) := zz_k_num f133_2 rfl
theorem f133_3 : zz_fetch zz_prog 133 3 = some (.istore 4, 2, [], []) := zz_fetch_of p133 rfl rfl
theorem s133_3 : zz_Run zz_prog d 133 (3, [l0, l1, l2, l3, l4, l5, l6], .int v :: st, k, h) = zz_sl l3 (zz_Run zz_prog d 133 (5, [l0, l1, l2, l3, some (.int v), l5, l6], st, k, h)) := zz_k_st (j := 4) (u := .int v) f133_3 rfl (fun q hq => by cases hq) rfl (show 4 < 7 by decide) (by cases l3 <;> rfl) rfl
theorem f133_5 : zz_fetch zz_prog 133 5 = some (.iload 4, 2, [], []) := zz_fetch_of p133 rfl rfl
theorem s133_5 : zz_Run zz_prog d 133 (5, [l0, l1, l2, l3, some (.int v), l5, l6], st, k, h) = zz_Run zz_prog d 133 (7, [l0, l1, l2, l3, some (.int v), l5, l6], .int v :: st, k, h) := zz_k_num f133_5 rfl
theorem f133_7 : zz_fetch zz_prog 133 7 = some (.aload_n 0, 1, [], []) := zz_fetch_of p133 rfl rfl
theorem s133_7 : zz_Run zz_prog d 133 (7, [some (.ref a), l1, l2, l3, l4, l5, l6], st, k, h) = zz_Run zz_prog d 133 (8, [some (.ref a), l1, l2, l3, l4, l5, l6], .ref a :: st, k, h) := zz_k_num f133_7 rfl
theorem f133_8 : zz_fetch zz_prog 133 8 = some (.getfield 93, 3, [2, 11, 0], []) := zz_fetch_of p133 rfl rfl
theorem s133_8 : zz_Run zz_prog d 133 (8, [l0, l1, l2, l3, l4, l5, l6], .ref 23 :: st, k, (zz_hp n I J ex)) = zz_Run zz_prog d 133 (11, [l0, l1, l2, l3, l4, l5, l6], .int (I 23 11) :: st, k, (zz_hp n I J ex)) := zz_k_go f133_8 rfl rfl rfl
theorem f133_11 : zz_fetch zz_prog 133 11 = some (.if_icmp .ge 107, 3, [118], []) := zz_fetch_of p133 rfl rfl
theorem s133_11 : zz_Run zz_prog d 133 (11, [l0, l1, l2, l3, l4, l5, l6], .int w :: .int v :: st, k, h) = if w ≤ v then zz_Run zz_prog d 133 (118, [l0, l1, l2, l3, l4, l5, l6], st, k, h) else zz_Run zz_prog d 133 (14, [l0, l1, l2, l3, l4, l5, l6], st, k, h) := zz_k_br (w ≤ v) rfl (zz_k_num f133_11 rfl)
theorem f133_14 : zz_fetch zz_prog 133 14 = some (.aload_n 0, 1, [], []) := zz_fetch_of p133 rfl rfl
theorem s133_14 : zz_Run zz_prog d 133 (14, [some (.ref a), l1, l2, l3, l4, l5, l6], st, k, h) = zz_Run zz_prog d 133 (15, [some (.ref a), l1, l2, l3, l4, l5, l6], .ref a :: st, k, h) := zz_k_num f133_14 rfl
theorem f133_15 : zz_fetch zz_prog 133 15 = some (.aload_n 0, 1, [], []) := zz_fetch_of p133 rfl rfl
theorem s133_15 : zz_Run zz_prog d 133 (15, [some (.ref a), l1, l2, l3, l4, l5, l6], st, k, h) = zz_Run zz_prog d 133 (16, [some (.ref a), l1, l2, l3, l4, l5, l6], .ref a :: st, k, h) := zz_k_num f133_15 rfl
theorem f133_16 : zz_fetch zz_prog 133 16 = some (.getfield 22, 3, [2, 6, 3], []) := zz_fetch_of p133 rfl rfl
theorem s133_16 : zz_Run zz_prog d 133 (16, [l0, l1, l2, l3, l4, l5, l6], .ref 23 :: st, k, (zz_hp n I J ex)) = zz_Run zz_prog d 133 (19, [l0, l1, l2, l3, l4, l5, l6], .ref 28 :: st, k, (zz_hp n I J ex)) := zz_k_go f133_16 rfl rfl rfl
theorem f133_19 : zz_fetch zz_prog 133 19 = some (.aload_n 0, 1, [], []) := zz_fetch_of p133 rfl rfl
theorem s133_19 : zz_Run zz_prog d 133 (19, [some (.ref a), l1, l2, l3, l4, l5, l6], st, k, h) = zz_Run zz_prog d 133 (20, [some (.ref a), l1, l2, l3, l4, l5, l6], .ref a :: st, k, h) := zz_k_num f133_19 rfl
theorem f133_20 : zz_fetch zz_prog 133 20 = some (.getfield 37, 3, [2, 12, 3], []) := zz_fetch_of p133 rfl rfl
theorem s133_20 : zz_Run zz_prog d 133 (20, [l0, l1, l2, l3, l4, l5, l6], .ref 23 :: st, k, (zz_hp n I J ex)) = zz_Run zz_prog d 133 (23, [l0, l1, l2, l3, l4, l5, l6], .ref 33 :: st, k, (zz_hp n I J ex)) := zz_k_go f133_20 rfl rfl rfl
theorem f133_23 : zz_fetch zz_prog 133 23 = some (.iload 4, 2, [], []) := zz_fetch_of p133 rfl rfl
theorem s133_23 : zz_Run zz_prog d 133 (23, [l0, l1, l2, l3, some (.int v), l5, l6], st, k, h) = zz_Run zz_prog d 133 (25, [l0, l1, l2, l3, some (.int v), l5, l6], .int v :: st, k, h) := zz_k_num f133_23 rfl
theorem f133_25 : zz_fetch zz_prog 133 25 = some (.iaload, 1, [], []) := zz_fetch_of p133 rfl rfl
theorem s133_25 (ha : zz_isrd a = true) : zz_Run zz_prog d 133 (25, [l0, l1, l2, l3, l4, l5, l6], .int v :: .ref a :: st, k, (zz_hp n I J ex)) = zz_ck (zz_in v (zz_ary n a)) (zz_Run zz_prog d 133 (26, [l0, l1, l2, l3, l4, l5, l6], .int (I a v.toNatClampNeg) :: st, k, (zz_hp n I J ex))) := zz_k_iald f133_25 ha
theorem f133_26 : zz_fetch zz_prog 133 26 = some (.iaload, 1, [], []) := zz_fetch_of p133 rfl rfl
theorem s133_26 (ha : zz_isrd a = true) : zz_Run zz_prog d 133 (26, [l0, l1, l2, l3, l4, l5, l6], .int v :: .ref a :: st, k, (zz_hp n I J ex)) = zz_ck (zz_in v (zz_ary n a)) (zz_Run zz_prog d 133 (27, [l0, l1, l2, l3, l4, l5, l6], .int (I a v.toNatClampNeg) :: st, k, (zz_hp n I J ex))) := zz_k_iald f133_26 ha
theorem f133_27 : zz_fetch zz_prog 133 27 = some (.iload_n 1, 1, [], []) := zz_fetch_of p133 rfl rfl
theorem s133_27 : zz_Run zz_prog d 133 (27, [l0, some (.int v), l2, l3, l4, l5, l6], st, k, h) = zz_Run zz_prog d 133 (28, [l0, some (.int v), l2, l3, l4, l5, l6], .int v :: st, k, h) := zz_k_num f133_27 rfl
theorem f133_28 : zz_fetch zz_prog 133 28 = some (.invokevirtual 111, 3, [0, 101, 3, 2], []) := zz_fetch_of p133 rfl rfl
theorem s133_28 : zz_Run zz_prog d 133 (28, [l0, l1, l2, l3, l4, l5, l6], [b0, b1, .ref 23], k, (zz_hp n I J ex)) = zz_ret (zz_Call zz_prog d 101 [.ref 23, b1, b0] (zz_hp n I J ex)) (fun v k' h' => zz_Run zz_prog d 133 (31, [l0, l1, l2, l3, l4, l5, l6], v.toList ++ [], k && k', h')) (fun a k' h' => zz_th d 133 28 a [l0, l1, l2, l3, l4, l5, l6] (k && k') h') := zz_k_call f133_28 rfl rfl rfl
theorem f133_31 : zz_fetch zz_prog 133 31 = some (.ifCond .ne 23, 3, [54], []) := zz_fetch_of p133 rfl rfl
theorem s133_31 : zz_Run zz_prog d 133 (31, [l0, l1, l2, l3, l4, l5, l6], .int v :: st, k, h) = if ¬ v = 0 then zz_Run zz_prog d 133 (54, [l0, l1, l2, l3, l4, l5, l6], st, k, h) else zz_Run zz_prog d 133 (34, [l0, l1, l2, l3, l4, l5, l6], st, k, h) := zz_k_br (¬ v = 0) rfl (zz_k_num f133_31 rfl)
theorem f133_34 : zz_fetch zz_prog 133 34 = some (.aload_n 0, 1, [], []) := zz_fetch_of p133 rfl rfl
theorem s133_34 : zz_Run zz_prog d 133 (34, [some (.ref a), l1, l2, l3, l4, l5, l6], st, k, h) = zz_Run zz_prog d 133 (35, [some (.ref a), l1, l2, l3, l4, l5, l6], .ref a :: st, k, h) := zz_k_num f133_34 rfl
theorem f133_35 : zz_fetch zz_prog 133 35 = some (.aload_n 0, 1, [], []) := zz_fetch_of p133 rfl rfl
theorem s133_35 : zz_Run zz_prog d 133 (35, [some (.ref a), l1, l2, l3, l4, l5, l6], st, k, h) = zz_Run zz_prog d 133 (36, [some (.ref a), l1, l2, l3, l4, l5, l6], .ref a :: st, k, h) := zz_k_num f133_35 rfl
theorem f133_36 : zz_fetch zz_prog 133 36 = some (.getfield 25, 3, [2, 7, 3], []) := zz_fetch_of p133 rfl rfl
theorem s133_36 : zz_Run zz_prog d 133 (36, [l0, l1, l2, l3, l4, l5, l6], .ref 23 :: st, k, (zz_hp n I J ex)) = zz_Run zz_prog d 133 (39, [l0, l1, l2, l3, l4, l5, l6], .ref 29 :: st, k, (zz_hp n I J ex)) := zz_k_go f133_36 rfl rfl rfl
theorem f133_39 : zz_fetch zz_prog 133 39 = some (.aload_n 0, 1, [], []) := zz_fetch_of p133 rfl rfl
theorem s133_39 : zz_Run zz_prog d 133 (39, [some (.ref a), l1, l2, l3, l4, l5, l6], st, k, h) = zz_Run zz_prog d 133 (40, [some (.ref a), l1, l2, l3, l4, l5, l6], .ref a :: st, k, h) := zz_k_num f133_39 rfl
theorem f133_40 : zz_fetch zz_prog 133 40 = some (.getfield 37, 3, [2, 12, 3], []) := zz_fetch_of p133 rfl rfl
theorem s133_40 : zz_Run zz_prog d 133 (40, [l0, l1, l2, l3, l4, l5, l6], .ref 23 :: st, k, (zz_hp n I J ex)) = zz_Run zz_prog d 133 (43, [l0, l1, l2, l3, l4, l5, l6], .ref 33 :: st, k, (zz_hp n I J ex)) := zz_k_go f133_40 rfl rfl rfl
theorem f133_43 : zz_fetch zz_prog 133 43 = some (.iload 4, 2, [], []) := zz_fetch_of p133 rfl rfl
theorem s133_43 : zz_Run zz_prog d 133 (43, [l0, l1, l2, l3, some (.int v), l5, l6], st, k, h) = zz_Run zz_prog d 133 (45, [l0, l1, l2, l3, some (.int v), l5, l6], .int v :: st, k, h) := zz_k_num f133_43 rfl
theorem f133_45 : zz_fetch zz_prog 133 45 = some (.iaload, 1, [], []) := zz_fetch_of p133 rfl rfl
theorem s133_45 (ha : zz_isrd a = true) : zz_Run zz_prog d 133 (45, [l0, l1, l2, l3, l4, l5, l6], .int v :: .ref a :: st, k, (zz_hp n I J ex)) = zz_ck (zz_in v (zz_ary n a)) (zz_Run zz_prog d 133 (46, [l0, l1, l2, l3, l4, l5, l6], .int (I a v.toNatClampNeg) :: st, k, (zz_hp n I J ex))) := zz_k_iald f133_45 ha
theorem f133_46 : zz_fetch zz_prog 133 46 = some (.iaload, 1, [], []) := zz_fetch_of p133 rfl rfl
theorem s133_46 (ha : zz_isrd a = true) : zz_Run zz_prog d 133 (46, [l0, l1, l2, l3, l4, l5, l6], .int v :: .ref a :: st, k, (zz_hp n I J ex)) = zz_ck (zz_in v (zz_ary n a)) (zz_Run zz_prog d 133 (47, [l0, l1, l2, l3, l4, l5, l6], .int (I a v.toNatClampNeg) :: st, k, (zz_hp n I J ex))) := zz_k_iald f133_46 ha
theorem f133_47 : zz_fetch zz_prog 133 47 = some (.iload_n 1, 1, [], []) := zz_fetch_of p133 rfl rfl
theorem s133_47 : zz_Run zz_prog d 133 (47, [l0, some (.int v), l2, l3, l4, l5, l6], st, k, h) = zz_Run zz_prog d 133 (48, [l0, some (.int v), l2, l3, l4, l5, l6], .int v :: st, k, h) := zz_k_num f133_47 rfl
theorem f133_48 : zz_fetch zz_prog 133 48 = some (.invokevirtual 111, 3, [0, 101, 3, 2], []) := zz_fetch_of p133 rfl rfl
theorem s133_48 : zz_Run zz_prog d 133 (48, [l0, l1, l2, l3, l4, l5, l6], [b0, b1, .ref 23], k, (zz_hp n I J ex)) = zz_ret (zz_Call zz_prog d 101 [.ref 23, b1, b0] (zz_hp n I J ex)) (fun v k' h' => zz_Run zz_prog d 133 (51, [l0, l1, l2, l3, l4, l5, l6], v.toList ++ [], k && k', h')) (fun a k' h' => zz_th d 133 48 a [l0, l1, l2, l3, l4, l5, l6] (k && k') h') := zz_k_call f133_48 rfl rfl rfl
theorem f133_51 : zz_fetch zz_prog 133 51 = some (.ifCond .eq 7, 3, [58], []) := zz_fetch_of p133 rfl rfl
theorem s133_51 : zz_Run zz_prog d 133 (51, [l0, l1, l2, l3, l4, l5, l6], .int v :: st, k, h) = if v = 0 then zz_Run zz_prog d 133 (58, [l0, l1, l2, l3, l4, l5, l6], st, k, h) else zz_Run zz_prog d 133 (54, [l0, l1, l2, l3, l4, l5, l6], st, k, h) := zz_k_br (v = 0) rfl (zz_k_num f133_51 rfl)
theorem f133_54 : zz_fetch zz_prog 133 54 = some (.iconst 1, 1, [], []) := zz_fetch_of p133 rfl rfl
theorem s133_54 : zz_Run zz_prog d 133 (54, [l0, l1, l2, l3, l4, l5, l6], st, k, h) = zz_Run zz_prog d 133 (55, [l0, l1, l2, l3, l4, l5, l6], .int 1 :: st, k, h) := zz_k_num f133_54 rfl
theorem f133_55 : zz_fetch zz_prog 133 55 = some (.goto 4, 3, [59], []) := zz_fetch_of p133 rfl rfl
theorem s133_55 : zz_Run zz_prog d 133 (55, [l0, l1, l2, l3, l4, l5, l6], st, k, h) = zz_Run zz_prog d 133 (59, [l0, l1, l2, l3, l4, l5, l6], st, k, h) := zz_k_num f133_55 rfl
theorem f133_58 : zz_fetch zz_prog 133 58 = some (.iconst 0, 1, [], []) := zz_fetch_of p133 rfl rfl
theorem s133_58 : zz_Run zz_prog d 133 (58, [l0, l1, l2, l3, l4, l5, l6], st, k, h) = zz_Run zz_prog d 133 (59, [l0, l1, l2, l3, l4, l5, l6], .int 0 :: st, k, h) := zz_k_num f133_58 rfl
theorem f133_59 : zz_fetch zz_prog 133 59 = some (.istore 5, 2, [], []) := zz_fetch_of p133 rfl rfl
theorem s133_59 : zz_Run zz_prog d 133 (59, [l0, l1, l2, l3, l4, l5, l6], .int v :: st, k, h) = zz_sl l4 (zz_Run zz_prog d 133 (61, [l0, l1, l2, l3, l4, some (.int v), l6], st, k, h)) := zz_k_st (j := 5) (u := .int v) f133_59 rfl (fun q hq => by cases hq) rfl (show 5 < 7 by decide) (by cases l4 <;> rfl) rfl
theorem f133_61 : zz_fetch zz_prog 133 61 = some (.aload_n 0, 1, [], []) := zz_fetch_of p133 rfl rfl
theorem s133_61 : zz_Run zz_prog d 133 (61, [some (.ref a), l1, l2, l3, l4, l5, l6], st, k, h) = zz_Run zz_prog d 133 (62, [some (.ref a), l1, l2, l3, l4, l5, l6], .ref a :: st, k, h) := zz_k_num f133_61 rfl
theorem f133_62 : zz_fetch zz_prog 133 62 = some (.getfield 40, 3, [2, 13, 3], []) := zz_fetch_of p133 rfl rfl
theorem s133_62 : zz_Run zz_prog d 133 (62, [l0, l1, l2, l3, l4, l5, l6], .ref 23 :: st, k, (zz_hp n I J ex)) = zz_Run zz_prog d 133 (65, [l0, l1, l2, l3, l4, l5, l6], .ref 34 :: st, k, (zz_hp n I J ex)) := zz_k_go f133_62 rfl rfl rfl
theorem f133_65 : zz_fetch zz_prog 133 65 = some (.iload 4, 2, [], []) := zz_fetch_of p133 rfl rfl
theorem s133_65 : zz_Run zz_prog d 133 (65, [l0, l1, l2, l3, some (.int v), l5, l6], st, k, h) = zz_Run zz_prog d 133 (67, [l0, l1, l2, l3, some (.int v), l5, l6], .int v :: st, k, h) := zz_k_num f133_65 rfl
theorem f133_67 : zz_fetch zz_prog 133 67 = some (.iaload, 1, [], []) := zz_fetch_of p133 rfl rfl
theorem s133_67 (ha : zz_isrd a = true) : zz_Run zz_prog d 133 (67, [l0, l1, l2, l3, l4, l5, l6], .int v :: .ref a :: st, k, (zz_hp n I J ex)) = zz_ck (zz_in v (zz_ary n a)) (zz_Run zz_prog d 133 (68, [l0, l1, l2, l3, l4, l5, l6], .int (I a v.toNatClampNeg) :: st, k, (zz_hp n I J ex))) := zz_k_iald f133_67 ha
theorem f133_68 : zz_fetch zz_prog 133 68 = some (.iload_n 2, 1, [], []) := zz_fetch_of p133 rfl rfl
theorem s133_68 : zz_Run zz_prog d 133 (68, [l0, l1, some (.int v), l3, l4, l5, l6], st, k, h) = zz_Run zz_prog d 133 (69, [l0, l1, some (.int v), l3, l4, l5, l6], .int v :: st, k, h) := zz_k_num f133_68 rfl
theorem f133_69 : zz_fetch zz_prog 133 69 = some (.if_icmp .ne 7, 3, [76], []) := zz_fetch_of p133 rfl rfl
theorem s133_69 : zz_Run zz_prog d 133 (69, [l0, l1, l2, l3, l4, l5, l6], .int w :: .int v :: st, k, h) = if ¬ v = w then zz_Run zz_prog d 133 (76, [l0, l1, l2, l3, l4, l5, l6], st, k, h) else zz_Run zz_prog d 133 (72, [l0, l1, l2, l3, l4, l5, l6], st, k, h) := zz_k_br (¬ v = w) rfl (zz_k_num f133_69 rfl)
theorem f133_72 : zz_fetch zz_prog 133 72 = some (.iconst 2, 1, [], []) := zz_fetch_of p133 rfl rfl
theorem s133_72 : zz_Run zz_prog d 133 (72, [l0, l1, l2, l3, l4, l5, l6], st, k, h) = zz_Run zz_prog d 133 (73, [l0, l1, l2, l3, l4, l5, l6], .int 2 :: st, k, h) := zz_k_num f133_72 rfl
theorem f133_73 : zz_fetch zz_prog 133 73 = some (.goto 19, 3, [92], []) := zz_fetch_of p133 rfl rfl
theorem s133_73 : zz_Run zz_prog d 133 (73, [l0, l1, l2, l3, l4, l5, l6], st, k, h) = zz_Run zz_prog d 133 (92, [l0, l1, l2, l3, l4, l5, l6], st, k, h) := zz_k_num f133_73 rfl
theorem f133_76 : zz_fetch zz_prog 133 76 = some (.aload_n 0, 1, [], []) := zz_fetch_of p133 rfl rfl
theorem s133_76 : zz_Run zz_prog d 133 (76, [some (.ref a), l1, l2, l3, l4, l5, l6], st, k, h) = zz_Run zz_prog d 133 (77, [some (.ref a), l1, l2, l3, l4, l5, l6], .ref a :: st, k, h) := zz_k_num f133_76 rfl
theorem f133_77 : zz_fetch zz_prog 133 77 = some (.getfield 40, 3, [2, 13, 3], []) := zz_fetch_of p133 rfl rfl
theorem s133_77 : zz_Run zz_prog d 133 (77, [l0, l1, l2, l3, l4, l5, l6], .ref 23 :: st, k, (zz_hp n I J ex)) = zz_Run zz_prog d 133 (80, [l0, l1, l2, l3, l4, l5, l6], .ref 34 :: st, k, (zz_hp n I J ex)) := zz_k_go f133_77 rfl rfl rfl
theorem f133_80 : zz_fetch zz_prog 133 80 = some (.iload 4, 2, [], []) := zz_fetch_of p133 rfl rfl
theorem s133_80 : zz_Run zz_prog d 133 (80, [l0, l1, l2, l3, some (.int v), l5, l6], st, k, h) = zz_Run zz_prog d 133 (82, [l0, l1, l2, l3, some (.int v), l5, l6], .int v :: st, k, h) := zz_k_num f133_80 rfl
theorem f133_82 : zz_fetch zz_prog 133 82 = some (.iaload, 1, [], []) := zz_fetch_of p133 rfl rfl
theorem s133_82 (ha : zz_isrd a = true) : zz_Run zz_prog d 133 (82, [l0, l1, l2, l3, l4, l5, l6], .int v :: .ref a :: st, k, (zz_hp n I J ex)) = zz_ck (zz_in v (zz_ary n a)) (zz_Run zz_prog d 133 (83, [l0, l1, l2, l3, l4, l5, l6], .int (I a v.toNatClampNeg) :: st, k, (zz_hp n I J ex))) := zz_k_iald f133_82 ha
theorem f133_83 : zz_fetch zz_prog 133 83 = some (.iconst 5, 1, [], []) := zz_fetch_of p133 rfl rfl
theorem s133_83 : zz_Run zz_prog d 133 (83, [l0, l1, l2, l3, l4, l5, l6], st, k, h) = zz_Run zz_prog d 133 (84, [l0, l1, l2, l3, l4, l5, l6], .int 5 :: st, k, h) := zz_k_num f133_83 rfl
theorem f133_84 : zz_fetch zz_prog 133 84 = some (.if_icmp .ne 7, 3, [91], []) := zz_fetch_of p133 rfl rfl
theorem s133_84 : zz_Run zz_prog d 133 (84, [l0, l1, l2, l3, l4, l5, l6], .int w :: .int v :: st, k, h) = if ¬ v = w then zz_Run zz_prog d 133 (91, [l0, l1, l2, l3, l4, l5, l6], st, k, h) else zz_Run zz_prog d 133 (87, [l0, l1, l2, l3, l4, l5, l6], st, k, h) := zz_k_br (¬ v = w) rfl (zz_k_num f133_84 rfl)
theorem f133_87 : zz_fetch zz_prog 133 87 = some (.iconst 3, 1, [], []) := zz_fetch_of p133 rfl rfl
theorem s133_87 : zz_Run zz_prog d 133 (87, [l0, l1, l2, l3, l4, l5, l6], st, k, h) = zz_Run zz_prog d 133 (88, [l0, l1, l2, l3, l4, l5, l6], .int 3 :: st, k, h) := zz_k_num f133_87 rfl
theorem f133_88 : zz_fetch zz_prog 133 88 = some (.goto 4, 3, [92], []) := zz_fetch_of p133 rfl rfl
theorem s133_88 : zz_Run zz_prog d 133 (88, [l0, l1, l2, l3, l4, l5, l6], st, k, h) = zz_Run zz_prog d 133 (92, [l0, l1, l2, l3, l4, l5, l6], st, k, h) := zz_k_num f133_88 rfl
theorem f133_91 : zz_fetch zz_prog 133 91 = some (.iconst 4, 1, [], []) := zz_fetch_of p133 rfl rfl
theorem s133_91 : zz_Run zz_prog d 133 (91, [l0, l1, l2, l3, l4, l5, l6], st, k, h) = zz_Run zz_prog d 133 (92, [l0, l1, l2, l3, l4, l5, l6], .int 4 :: st, k, h) := zz_k_num f133_91 rfl
theorem f133_92 : zz_fetch zz_prog 133 92 = some (.istore 6, 2, [], []) := zz_fetch_of p133 rfl rfl
theorem s133_92 : zz_Run zz_prog d 133 (92, [l0, l1, l2, l3, l4, l5, l6], .int v :: st, k, h) = zz_sl l5 (zz_Run zz_prog d 133 (94, [l0, l1, l2, l3, l4, l5, some (.int v)], st, k, h)) := zz_k_st (j := 6) (u := .int v) f133_92 rfl (fun q hq => by cases hq) rfl (show 6 < 7 by decide) (by cases l5 <;> rfl) rfl
theorem f133_94 : zz_fetch zz_prog 133 94 = some (.iload 5, 2, [], []) := zz_fetch_of p133 rfl rfl
theorem s133_94 : zz_Run zz_prog d 133 (94, [l0, l1, l2, l3, l4, some (.int v), l6], st, k, h) = zz_Run zz_prog d 133 (96, [l0, l1, l2, l3, l4, some (.int v), l6], .int v :: st, k, h) := zz_k_num f133_94 rfl
theorem f133_96 : zz_fetch zz_prog 133 96 = some (.ifCond .eq 14, 3, [110], []) := zz_fetch_of p133 rfl rfl
theorem s133_96 : zz_Run zz_prog d 133 (96, [l0, l1, l2, l3, l4, l5, l6], .int v :: st, k, h) = if v = 0 then zz_Run zz_prog d 133 (110, [l0, l1, l2, l3, l4, l5, l6], st, k, h) else zz_Run zz_prog d 133 (99, [l0, l1, l2, l3, l4, l5, l6], st, k, h) := zz_k_br (v = 0) rfl (zz_k_num f133_96 rfl)
theorem f133_99 : zz_fetch zz_prog 133 99 = some (.iload 6, 2, [], []) := zz_fetch_of p133 rfl rfl
theorem s133_99 : zz_Run zz_prog d 133 (99, [l0, l1, l2, l3, l4, l5, some (.int v)], st, k, h) = zz_Run zz_prog d 133 (101, [l0, l1, l2, l3, l4, l5, some (.int v)], .int v :: st, k, h) := zz_k_num f133_99 rfl
theorem f133_101 : zz_fetch zz_prog 133 101 = some (.iload_n 3, 1, [], []) := zz_fetch_of p133 rfl rfl
theorem s133_101 : zz_Run zz_prog d 133 (101, [l0, l1, l2, some (.int v), l4, l5, l6], st, k, h) = zz_Run zz_prog d 133 (102, [l0, l1, l2, some (.int v), l4, l5, l6], .int v :: st, k, h) := zz_k_num f133_101 rfl
theorem f133_102 : zz_fetch zz_prog 133 102 = some (.if_icmp .ge 8, 3, [110], []) := zz_fetch_of p133 rfl rfl
theorem s133_102 : zz_Run zz_prog d 133 (102, [l0, l1, l2, l3, l4, l5, l6], .int w :: .int v :: st, k, h) = if w ≤ v then zz_Run zz_prog d 133 (110, [l0, l1, l2, l3, l4, l5, l6], st, k, h) else zz_Run zz_prog d 133 (105, [l0, l1, l2, l3, l4, l5, l6], st, k, h) := zz_k_br (w ≤ v) rfl (zz_k_num f133_102 rfl)
theorem f133_105 : zz_fetch zz_prog 133 105 = some (.iload 6, 2, [], []) := zz_fetch_of p133 rfl rfl
theorem s133_105 : zz_Run zz_prog d 133 (105, [l0, l1, l2, l3, l4, l5, some (.int v)], st, k, h) = zz_Run zz_prog d 133 (107, [l0, l1, l2, l3, l4, l5, some (.int v)], .int v :: st, k, h) := zz_k_num f133_105 rfl
theorem f133_107 : zz_fetch zz_prog 133 107 = some (.goto 4, 3, [111], []) := zz_fetch_of p133 rfl rfl
theorem s133_107 : zz_Run zz_prog d 133 (107, [l0, l1, l2, l3, l4, l5, l6], st, k, h) = zz_Run zz_prog d 133 (111, [l0, l1, l2, l3, l4, l5, l6], st, k, h) := zz_k_num f133_107 rfl
theorem f133_110 : zz_fetch zz_prog 133 110 = some (.iload_n 3, 1, [], []) := zz_fetch_of p133 rfl rfl
theorem s133_110 : zz_Run zz_prog d 133 (110, [l0, l1, l2, some (.int v), l4, l5, l6], st, k, h) = zz_Run zz_prog d 133 (111, [l0, l1, l2, some (.int v), l4, l5, l6], .int v :: st, k, h) := zz_k_num f133_110 rfl
theorem f133_111 : zz_fetch zz_prog 133 111 = some (.istore_n 3, 1, [], []) := zz_fetch_of p133 rfl rfl
theorem s133_111 : zz_Run zz_prog d 133 (111, [l0, l1, l2, l3, l4, l5, l6], .int v :: st, k, h) = zz_sl l2 (zz_Run zz_prog d 133 (112, [l0, l1, l2, some (.int v), l4, l5, l6], st, k, h)) := zz_k_st (j := 3) (u := .int v) f133_111 rfl (fun q hq => by cases hq) rfl (show 3 < 7 by decide) (by cases l2 <;> rfl) rfl
theorem f133_112 : zz_fetch zz_prog 133 112 = some (.iinc 4 1, 3, [], []) := zz_fetch_of p133 rfl rfl
theorem s133_112 : zz_Run zz_prog d 133 (112, [l0, l1, l2, l3, some (.int v), l5, l6], st, k, h) = zz_sl l3 (zz_Run zz_prog d 133 (115, [l0, l1, l2, l3, some (.int (v + 1)), l5, l6], st, k, h)) := zz_k_st (j := 4) (u := .int (v + 1)) f133_112 rfl (fun q hq => by cases hq) rfl (show 4 < 7 by decide) (by cases l3 <;> rfl) rfl
theorem f133_115 : zz_fetch zz_prog 133 115 = some (.goto (-110), 3, [5], []) := zz_fetch_of p133 rfl rfl
theorem s133_115 : zz_Run zz_prog d 133 (115, [l0, l1, l2, l3, l4, l5, l6], st, k, h) = zz_Run zz_prog d 133 (5, [l0, l1, l2, l3, l4, l5, l6], st, k, h) := zz_k_num f133_115 rfl
theorem f133_118 : zz_fetch zz_prog 133 118 = some (.iload_n 3, 1, [], []) := zz_fetch_of p133 rfl rfl
theorem s133_118 : zz_Run zz_prog d 133 (118, [l0, l1, l2, some (.int v), l4, l5, l6], st, k, h) = zz_Run zz_prog d 133 (119, [l0, l1, l2, some (.int v), l4, l5, l6], .int v :: st, k, h) := zz_k_num f133_118 rfl
theorem f133_119 : zz_fetch zz_prog 133 119 = some (.ireturn, 1, [0], []) := zz_fetch_of p133 rfl rfl
theorem s133_119 : zz_Run zz_prog d 133 (119, [l0, l1, l2, l3, l4, l5, l6], [.int v], k, h) = some (.inl (some (.int v)), k, h) := zz_k_stop f133_119 rfl rfl rfl
end S133
section S134
variable {d n j : Nat} {l0 l1 l2 l3 l4 l5 l6 : Option Value} {st : List Value} {k : Bool} {h : zz_H} {v w v1 v2 : Int32} {y y1 : Int64} {a a1 a2 : Nat} {b0 b1 b2 b3 b4 b5 b6 b7 b8 : Value} {I : Nat → Nat → Int32} {J : Nat → Nat → Int64} {ex : List (Nat × Nat)}
theorem p134 : zz_prog 134 = some zz_m134 := rfl
theorem e134 (g0 : Nat) (g1 : Int32) (g2 : Int32) : zz_Call zz_prog (d + 1) 134 [.ref g0, .int g1, .int g2] h = zz_Run zz_prog d 134 (0, [some (.ref g0), some (.int g1), some (.int g2), none, none, none, none], [], true, h) := rfl
theorem t134 (pc : Nat) (L : List (Option Value)) : zz_th d 134 pc a L k h = some (.inr a, k, h) := zz_th_out p134 rfl
theorem f134_0 : zz_fetch zz_prog 134 0 = some (.iload_n 1, 1, [], []) := zz_fetch_of p134 rfl rfl
theorem s134_0 : zz_Run zz_prog d 134 (0, [l0, some (.int v), l2, l3, l4, l5, l6], st, k, h) = zz_Run zz_prog d 134 (1, [l0, some (.int v), l2, l3, l4, l5, l6], .int v :: st, k, h) := zz_k_num f134_0 rfl
theorem f134_1 : zz_fetch zz_prog 134 1 = some (.invokestatic 194, 3, [0, 128, 1], []) := zz_fetch_of p134 rfl rfl
theorem s134_1 : zz_Run zz_prog d 134 (1, [l0, l1, l2, l3, l4, l5, l6], [b0], k, h) = zz_ret (zz_Call zz_prog d 128 [b0] h) (fun v k' h' => zz_Run zz_prog d 134 (4, [l0, l1, l2, l3, l4, l5, l6], v.toList ++ [], k && k', h')) (fun a k' h' => zz_th d 134 1 a [l0, l1, l2, l3, l4, l5, l6] (k && k') h') := zz_k_call f134_1 rfl rfl rfl
theorem f134_4 : zz_fetch zz_prog 134 4 = some (.ifCond .eq 15, 3, [19], []) := zz_fetch_of p134 rfl rfl
theorem s134_4 : zz_Run zz_prog d 134 (4, [l0, l1, l2, l3, l4, l5, l6], .int v :: st, k, h) = if v = 0 then zz_Run zz_prog d 134 (19, [l0, l1, l2, l3, l4, l5, l6], st, k, h) else zz_Run zz_prog d 134 (7, [l0, l1, l2, l3, l4, l5, l6], st, k, h) := zz_k_br (v = 0) rfl (zz_k_num f134_4 rfl)
theorem f134_7 : zz_fetch zz_prog 134 7 = some (.iload_n 2, 1, [], []) := zz_fetch_of p134 rfl rfl
theorem s134_7 : zz_Run zz_prog d 134 (7, [l0, l1, some (.int v), l3, l4, l5, l6], st, k, h) = zz_Run zz_prog d 134 (8, [l0, l1, some (.int v), l3, l4, l5, l6], .int v :: st, k, h) := zz_k_num f134_7 rfl
theorem f134_8 : zz_fetch zz_prog 134 8 = some (.invokestatic 194, 3, [0, 128, 1], []) := zz_fetch_of p134 rfl rfl
theorem s134_8 : zz_Run zz_prog d 134 (8, [l0, l1, l2, l3, l4, l5, l6], [b0], k, h) = zz_ret (zz_Call zz_prog d 128 [b0] h) (fun v k' h' => zz_Run zz_prog d 134 (11, [l0, l1, l2, l3, l4, l5, l6], v.toList ++ [], k && k', h')) (fun a k' h' => zz_th d 134 8 a [l0, l1, l2, l3, l4, l5, l6] (k && k') h') := zz_k_call f134_8 rfl rfl rfl
theorem f134_11 : zz_fetch zz_prog 134 11 = some (.ifCond .eq 8, 3, [19], []) := zz_fetch_of p134 rfl rfl
theorem s134_11 : zz_Run zz_prog d 134 (11, [l0, l1, l2, l3, l4, l5, l6], .int v :: st, k, h) = if v = 0 then zz_Run zz_prog d 134 (19, [l0, l1, l2, l3, l4, l5, l6], st, k, h) else zz_Run zz_prog d 134 (14, [l0, l1, l2, l3, l4, l5, l6], st, k, h) := zz_k_br (v = 0) rfl (zz_k_num f134_11 rfl)
theorem f134_14 : zz_fetch zz_prog 134 14 = some (.iload_n 1, 1, [], []) := zz_fetch_of p134 rfl rfl
theorem s134_14 : zz_Run zz_prog d 134 (14, [l0, some (.int v), l2, l3, l4, l5, l6], st, k, h) = zz_Run zz_prog d 134 (15, [l0, some (.int v), l2, l3, l4, l5, l6], .int v :: st, k, h) := zz_k_num f134_14 rfl
theorem f134_15 : zz_fetch zz_prog 134 15 = some (.iload_n 2, 1, [], []) := zz_fetch_of p134 rfl rfl
theorem s134_15 : zz_Run zz_prog d 134 (15, [l0, l1, some (.int v), l3, l4, l5, l6], st, k, h) = zz_Run zz_prog d 134 (16, [l0, l1, some (.int v), l3, l4, l5, l6], .int v :: st, k, h) := zz_k_num f134_15 rfl
theorem f134_16 : zz_fetch zz_prog 134 16 = some (.if_icmp .ne 7, 3, [23], []) := zz_fetch_of p134 rfl rfl
theorem s134_16 : zz_Run zz_prog d 134 (16, [l0, l1, l2, l3, l4, l5, l6], .int w :: .int v :: st, k, h) = if ¬ v = w then zz_Run zz_prog d 134 (23, [l0, l1, l2, l3, l4, l5, l6], st, k, h) else zz_Run zz_prog d 134 (19, [l0, l1, l2, l3, l4, l5, l6], st, k, h) := zz_k_br (¬ v = w) rfl (zz_k_num f134_16 rfl)
theorem f134_19 : zz_fetch zz_prog 134 19 = some (.iconst 1, 1, [], []) := zz_fetch_of p134 rfl rfl
theorem s134_19 : zz_Run zz_prog d 134 (19, [l0, l1, l2, l3, l4, l5, l6], st, k, h) = zz_Run zz_prog d 134 (20, [l0, l1, l2, l3, l4, l5, l6], .int 1 :: st, k, h) := zz_k_num f134_19 rfl
theorem f134_20 : zz_fetch zz_prog 134 20 = some (.goto 4, 3, [24], []) := zz_fetch_of p134 rfl rfl
theorem s134_20 : zz_Run zz_prog d 134 (20, [l0, l1, l2, l3, l4, l5, l6], st, k, h) = zz_Run zz_prog d 134 (24, [l0, l1, l2, l3, l4, l5, l6], st, k, h) := zz_k_num f134_20 rfl
theorem f134_23 : zz_fetch zz_prog 134 23 = some (.iconst 0, 1, [], []) := zz_fetch_of p134 rfl rfl
theorem s134_23 : zz_Run zz_prog d 134 (23, [l0, l1, l2, l3, l4, l5, l6], st, k, h) = zz_Run zz_prog d 134 (24, [l0, l1, l2, l3, l4, l5, l6], .int 0 :: st, k, h) := zz_k_num f134_23 rfl
theorem f134_24 : zz_fetch zz_prog 134 24 = some (.istore_n 3, 1, [], []) := zz_fetch_of p134 rfl rfl
theorem s134_24 : zz_Run zz_prog d 134 (24, [l0, l1, l2, l3, l4, l5, l6], .int v :: st, k, h) = zz_sl l2 (zz_Run zz_prog d 134 (25, [l0, l1, l2, some (.int v), l4, l5, l6], st, k, h)) := zz_k_st (j := 3) (u := .int v) f134_24 rfl (fun q hq => by cases hq) rfl (show 3 < 7 by decide) (by cases l2 <;> rfl) rfl
theorem f134_25 : zz_fetch zz_prog 134 25 = some (.aload_n 0, 1, [], []) := zz_fetch_of p134 rfl rfl
theorem s134_25 : zz_Run zz_prog d 134 (25, [some (.ref a), l1, l2, l3, l4, l5, l6], st, k, h) = zz_Run zz_prog d 134 (26, [some (.ref a), l1, l2, l3, l4, l5, l6], .ref a :: st, k, h) := zz_k_num f134_25 rfl
theorem f134_26 : zz_fetch zz_prog 134 26 = some (.getfield 7, 3, [2, 1, 3], []) := zz_fetch_of p134 rfl rfl
theorem s134_26 : zz_Run zz_prog d 134 (26, [l0, l1, l2, l3, l4, l5, l6], .ref 23 :: st, k, (zz_hp n I J ex)) = zz_Run zz_prog d 134 (29, [l0, l1, l2, l3, l4, l5, l6], .ref 24 :: st, k, (zz_hp n I J ex)) := zz_k_go f134_26 rfl rfl rfl
theorem f134_29 : zz_fetch zz_prog 134 29 = some (.sipush 181, 3, [], []) := zz_fetch_of p134 rfl rfl
theorem s134_29 : zz_Run zz_prog d 134 (29, [l0, l1, l2, l3, l4, l5, l6], st, k, h) = zz_Run zz_prog d 134 (32, [l0, l1, l2, l3, l4, l5, l6], .int 181 :: st, k, h) := zz_k_num f134_29 (congrArg (fun u => some (32, [l0, l1, l2, l3, l4, l5, l6], Value.int u :: st)) (by decide : (Int16.ofInt 181).toInt32 = 181))
theorem f134_32 : zz_fetch zz_prog 134 32 = some (.iaload, 1, [], []) := zz_fetch_of p134 rfl rfl
theorem s134_32 (ha : zz_isrd a = true) : zz_Run zz_prog d 134 (32, [l0, l1, l2, l3, l4, l5, l6], .int v :: .ref a :: st, k, (zz_hp n I J ex)) = zz_ck (zz_in v (zz_ary n a)) (zz_Run zz_prog d 134 (33, [l0, l1, l2, l3, l4, l5, l6], .int (I a v.toNatClampNeg) :: st, k, (zz_hp n I J ex))) := zz_k_iald f134_32 ha
theorem f134_33 : zz_fetch zz_prog 134 33 = some (.istore 4, 2, [], []) := zz_fetch_of p134 rfl rfl
theorem s134_33 : zz_Run zz_prog d 134 (33, [l0, l1, l2, l3, l4, l5, l6], .int v :: st, k, h) = zz_sl l3 (zz_Run zz_prog d 134 (35, [l0, l1, l2, l3, some (.int v), l5, l6], st, k, h)) := zz_k_st (j := 4) (u := .int v) f134_33 rfl (fun q hq => by cases hq) rfl (show 4 < 7 by decide) (by cases l3 <;> rfl) rfl
theorem f134_35 : zz_fetch zz_prog 134 35 = some (.iload_n 3, 1, [], []) := zz_fetch_of p134 rfl rfl
theorem s134_35 : zz_Run zz_prog d 134 (35, [l0, l1, l2, some (.int v), l4, l5, l6], st, k, h) = zz_Run zz_prog d 134 (36, [l0, l1, l2, some (.int v), l4, l5, l6], .int v :: st, k, h) := zz_k_num f134_35 rfl
theorem f134_36 : zz_fetch zz_prog 134 36 = some (.ifCond .ne 53, 3, [89], []) := zz_fetch_of p134 rfl rfl
theorem s134_36 : zz_Run zz_prog d 134 (36, [l0, l1, l2, l3, l4, l5, l6], .int v :: st, k, h) = if ¬ v = 0 then zz_Run zz_prog d 134 (89, [l0, l1, l2, l3, l4, l5, l6], st, k, h) else zz_Run zz_prog d 134 (39, [l0, l1, l2, l3, l4, l5, l6], st, k, h) := zz_k_br (¬ v = 0) rfl (zz_k_num f134_36 rfl)
theorem f134_39 : zz_fetch zz_prog 134 39 = some (.aload_n 0, 1, [], []) := zz_fetch_of p134 rfl rfl
theorem s134_39 : zz_Run zz_prog d 134 (39, [some (.ref a), l1, l2, l3, l4, l5, l6], st, k, h) = zz_Run zz_prog d 134 (40, [some (.ref a), l1, l2, l3, l4, l5, l6], .ref a :: st, k, h) := zz_k_num f134_39 rfl
theorem f134_40 : zz_fetch zz_prog 134 40 = some (.getfield 7, 3, [2, 1, 3], []) := zz_fetch_of p134 rfl rfl
theorem s134_40 : zz_Run zz_prog d 134 (40, [l0, l1, l2, l3, l4, l5, l6], .ref 23 :: st, k, (zz_hp n I J ex)) = zz_Run zz_prog d 134 (43, [l0, l1, l2, l3, l4, l5, l6], .ref 24 :: st, k, (zz_hp n I J ex)) := zz_k_go f134_40 rfl rfl rfl
theorem f134_43 : zz_fetch zz_prog 134 43 = some (.sipush 180, 3, [], []) := zz_fetch_of p134 rfl rfl
theorem s134_43 : zz_Run zz_prog d 134 (43, [l0, l1, l2, l3, l4, l5, l6], st, k, h) = zz_Run zz_prog d 134 (46, [l0, l1, l2, l3, l4, l5, l6], .int 180 :: st, k, h) := zz_k_num f134_43 (congrArg (fun u => some (46, [l0, l1, l2, l3, l4, l5, l6], Value.int u :: st)) (by decide : (Int16.ofInt 180).toInt32 = 180))
theorem f134_46 : zz_fetch zz_prog 134 46 = some (.iaload, 1, [], []) := zz_fetch_of p134 rfl rfl
theorem s134_46 (ha : zz_isrd a = true) : zz_Run zz_prog d 134 (46, [l0, l1, l2, l3, l4, l5, l6], .int v :: .ref a :: st, k, (zz_hp n I J ex)) = zz_ck (zz_in v (zz_ary n a)) (zz_Run zz_prog d 134 (47, [l0, l1, l2, l3, l4, l5, l6], .int (I a v.toNatClampNeg) :: st, k, (zz_hp n I J ex))) := zz_k_iald f134_46 ha
theorem f134_47 : zz_fetch zz_prog 134 47 = some (.bipush 6, 2, [], []) := zz_fetch_of p134 rfl rfl
theorem s134_47 : zz_Run zz_prog d 134 (47, [l0, l1, l2, l3, l4, l5, l6], st, k, h) = zz_Run zz_prog d 134 (49, [l0, l1, l2, l3, l4, l5, l6], .int 6 :: st, k, h) := zz_k_num f134_47 (congrArg (fun u => some (49, [l0, l1, l2, l3, l4, l5, l6], Value.int u :: st)) (by decide : (Int8.ofInt 6).toInt32 = 6))
theorem f134_49 : zz_fetch zz_prog 134 49 = some (.if_icmp .ne 40, 3, [89], []) := zz_fetch_of p134 rfl rfl
theorem s134_49 : zz_Run zz_prog d 134 (49, [l0, l1, l2, l3, l4, l5, l6], .int w :: .int v :: st, k, h) = if ¬ v = w then zz_Run zz_prog d 134 (89, [l0, l1, l2, l3, l4, l5, l6], st, k, h) else zz_Run zz_prog d 134 (52, [l0, l1, l2, l3, l4, l5, l6], st, k, h) := zz_k_br (¬ v = w) rfl (zz_k_num f134_49 rfl)
theorem f134_52 : zz_fetch zz_prog 134 52 = some (.aload_n 0, 1, [], []) := zz_fetch_of p134 rfl rfl
theorem s134_52 : zz_Run zz_prog d 134 (52, [some (.ref a), l1, l2, l3, l4, l5, l6], st, k, h) = zz_Run zz_prog d 134 (53, [some (.ref a), l1, l2, l3, l4, l5, l6], .ref a :: st, k, h) := zz_k_num f134_52 rfl
theorem f134_53 : zz_fetch zz_prog 134 53 = some (.getfield 7, 3, [2, 1, 3], []) := zz_fetch_of p134 rfl rfl
theorem s134_53 : zz_Run zz_prog d 134 (53, [l0, l1, l2, l3, l4, l5, l6], .ref 23 :: st, k, (zz_hp n I J ex)) = zz_Run zz_prog d 134 (56, [l0, l1, l2, l3, l4, l5, l6], .ref 24 :: st, k, (zz_hp n I J ex)) := zz_k_go f134_53 rfl rfl rfl
theorem f134_56 : zz_fetch zz_prog 134 56 = some (.bipush 126, 2, [], []) := zz_fetch_of p134 rfl rfl
theorem s134_56 : zz_Run zz_prog d 134 (56, [l0, l1, l2, l3, l4, l5, l6], st, k, h) = zz_Run zz_prog d 134 (58, [l0, l1, l2, l3, l4, l5, l6], .int 126 :: st, k, h) := zz_k_num f134_56 (congrArg (fun u => some (58, [l0, l1, l2, l3, l4, l5, l6], Value.int u :: st)) (by decide : (Int8.ofInt 126).toInt32 = 126))
theorem f134_58 : zz_fetch zz_prog 134 58 = some (.iconst 5, 1, [], []) := zz_fetch_of p134 rfl rfl
theorem s134_58 : zz_Run zz_prog d 134 (58, [l0, l1, l2, l3, l4, l5, l6], st, k, h) = zz_Run zz_prog d 134 (59, [l0, l1, l2, l3, l4, l5, l6], .int 5 :: st, k, h) := zz_k_num f134_58 rfl
theorem f134_59 : zz_fetch zz_prog 134 59 = some (.iload 4, 2, [], []) := zz_fetch_of p134 rfl rfl
theorem s134_59 : zz_Run zz_prog d 134 (59, [l0, l1, l2, l3, some (.int v), l5, l6], st, k, h) = zz_Run zz_prog d 134 (61, [l0, l1, l2, l3, some (.int v), l5, l6], .int v :: st, k, h) := zz_k_num f134_59 rfl
theorem f134_61 : zz_fetch zz_prog 134 61 = some (.imul, 1, [], []) := zz_fetch_of p134 rfl rfl
theorem s134_61 : zz_Run zz_prog d 134 (61, [l0, l1, l2, l3, l4, l5, l6], .int w :: .int v :: st, k, h) = zz_Run zz_prog d 134 (62, [l0, l1, l2, l3, l4, l5, l6], .int (v * w) :: st, k, h) := zz_k_num f134_61 rfl
theorem f134_62 : zz_fetch zz_prog 134 62 = some (.iadd, 1, [], []) := zz_fetch_of p134 rfl rfl
theorem s134_62 : zz_Run zz_prog d 134 (62, [l0, l1, l2, l3, l4, l5, l6], .int w :: .int v :: st, k, h) = zz_Run zz_prog d 134 (63, [l0, l1, l2, l3, l4, l5, l6], .int (v + w) :: st, k, h) := zz_k_num f134_62 rfl
theorem f134_63 : zz_fetch zz_prog 134 63 = some (.iload_n 1, 1, [], []) := zz_fetch_of p134 rfl rfl
theorem s134_63 : zz_Run zz_prog d 134 (63, [l0, some (.int v), l2, l3, l4, l5, l6], st, k, h) = zz_Run zz_prog d 134 (64, [l0, some (.int v), l2, l3, l4, l5, l6], .int v :: st, k, h) := zz_k_num f134_63 rfl
theorem f134_64 : zz_fetch zz_prog 134 64 = some (.iadd, 1, [], []) := zz_fetch_of p134 rfl rfl
theorem s134_64 : zz_Run zz_prog d 134 (64, [l0, l1, l2, l3, l4, l5, l6], .int w :: .int v :: st, k, h) = zz_Run zz_prog d 134 (65, [l0, l1, l2, l3, l4, l5, l6], .int (v + w) :: st, k, h) := zz_k_num f134_64 rfl
theorem f134_65 : zz_fetch zz_prog 134 65 = some (.iaload, 1, [], []) := zz_fetch_of p134 rfl rfl
theorem s134_65 (ha : zz_isrd a = true) : zz_Run zz_prog d 134 (65, [l0, l1, l2, l3, l4, l5, l6], .int v :: .ref a :: st, k, (zz_hp n I J ex)) = zz_ck (zz_in v (zz_ary n a)) (zz_Run zz_prog d 134 (66, [l0, l1, l2, l3, l4, l5, l6], .int (I a v.toNatClampNeg) :: st, k, (zz_hp n I J ex))) := zz_k_iald f134_65 ha
theorem f134_66 : zz_fetch zz_prog 134 66 = some (.aload_n 0, 1, [], []) := zz_fetch_of p134 rfl rfl
theorem s134_66 : zz_Run zz_prog d 134 (66, [some (.ref a), l1, l2, l3, l4, l5, l6], st, k, h) = zz_Run zz_prog d 134 (67, [some (.ref a), l1, l2, l3, l4, l5, l6], .ref a :: st, k, h) := zz_k_num f134_66 rfl
theorem f134_67 : zz_fetch zz_prog 134 67 = some (.iload 4, 2, [], []) := zz_fetch_of p134 rfl rfl
theorem s134_67 : zz_Run zz_prog d 134 (67, [l0, l1, l2, l3, some (.int v), l5, l6], st, k, h) = zz_Run zz_prog d 134 (69, [l0, l1, l2, l3, some (.int v), l5, l6], .int v :: st, k, h) := zz_k_num f134_67 rfl
theorem f134_69 : zz_fetch zz_prog 134 69 = some (.iload_n 1, 1, [], []) := zz_fetch_of p134 rfl rfl
theorem s134_69 : zz_Run zz_prog d 134 (69, [l0, some (.int v), l2, l3, l4, l5, l6], st, k, h) = zz_Run zz_prog d 134 (70, [l0, some (.int v), l2, l3, l4, l5, l6], .int v :: st, k, h) := zz_k_num f134_69 rfl
theorem f134_70 : zz_fetch zz_prog 134 70 = some (.invokevirtual 203, 3, [0, 133, 3, 2], []) := zz_fetch_of p134 rfl rfl
theorem s134_70 : zz_Run zz_prog d 134 (70, [l0, l1, l2, l3, l4, l5, l6], [b0, b1, .ref 23, b3], k, (zz_hp n I J ex)) = zz_ret (zz_Call zz_prog d 133 [.ref 23, b1, b0] (zz_hp n I J ex)) (fun v k' h' => zz_Run zz_prog d 134 (73, [l0, l1, l2, l3, l4, l5, l6], v.toList ++ [b3], k && k', h')) (fun a k' h' => zz_th d 134 70 a [l0, l1, l2, l3, l4, l5, l6] (k && k') h') := zz_k_call f134_70 rfl rfl rfl
theorem f134_73 : zz_fetch zz_prog 134 73 = some (.if_icmp .lt 16, 3, [89], []) := zz_fetch_of p134 rfl rfl
theorem s134_73 : zz_Run zz_prog d 134 (73, [l0, l1, l2, l3, l4, l5, l6], .int w :: .int v :: st, k, h) = if v < w then zz_Run zz_prog d 134 (89, [l0, l1, l2, l3, l4, l5, l6], st, k, h) else zz_Run zz_prog d 134 (76, [l0, l1, l2, l3, l4, l5, l6], st, k, h) := zz_k_br (v < w) rfl (zz_k_num f134_73 rfl)
theorem f134_76 : zz_fetch zz_prog 134 76 = some (.aload_n 0, 1, [], []) := zz_fetch_of p134 rfl rfl
theorem s134_76 : zz_Run zz_prog d 134 (76, [some (.ref a), l1, l2, l3, l4, l5, l6], st, k, h) = zz_Run zz_prog d 134 (77, [some (.ref a), l1, l2, l3, l4, l5, l6], .ref a :: st, k, h) := zz_k_num f134_76 rfl
theorem f134_77 : zz_fetch zz_prog 134 77 = some (.getfield 7, 3, [2, 1, 3], []) := zz_fetch_of p134 rfl rfl
theorem s134_77 : zz_Run zz_prog d 134 (77, [l0, l1, l2, l3, l4, l5, l6], .ref 23 :: st, k, (zz_hp n I J ex)) = zz_Run zz_prog d 134 (80, [l0, l1, l2, l3, l4, l5, l6], .ref 24 :: st, k, (zz_hp n I J ex)) := zz_k_go f134_77 rfl rfl rfl
theorem f134_80 : zz_fetch zz_prog 134 80 = some (.sipush 146, 3, [], []) := zz_fetch_of p134 rfl rfl
theorem s134_80 : zz_Run zz_prog d 134 (80, [l0, l1, l2, l3, l4, l5, l6], st, k, h) = zz_Run zz_prog d 134 (83, [l0, l1, l2, l3, l4, l5, l6], .int 146 :: st, k, h) := zz_k_num f134_80 (congrArg (fun u => some (83, [l0, l1, l2, l3, l4, l5, l6], Value.int u :: st)) (by decide : (Int16.ofInt 146).toInt32 = 146))
theorem f134_83 : zz_fetch zz_prog 134 83 = some (.iload_n 2, 1, [], []) := zz_fetch_of p134 rfl rfl
theorem s134_83 : zz_Run zz_prog d 134 (83, [l0, l1, some (.int v), l3, l4, l5, l6], st, k, h) = zz_Run zz_prog d 134 (84, [l0, l1, some (.int v), l3, l4, l5, l6], .int v :: st, k, h) := zz_k_num f134_83 rfl
theorem f134_84 : zz_fetch zz_prog 134 84 = some (.iadd, 1, [], []) := zz_fetch_of p134 rfl rfl
theorem s134_84 : zz_Run zz_prog d 134 (84, [l0, l1, l2, l3, l4, l5, l6], .int w :: .int v :: st, k, h) = zz_Run zz_prog d 134 (85, [l0, l1, l2, l3, l4, l5, l6], .int (v + w) :: st, k, h) := zz_k_num f134_84 rfl
theorem f134_85 : zz_fetch zz_prog 134 85 = some (.iaload, 1, [], []) := zz_fetch_of p134 rfl rfl
theorem s134_85 (ha : zz_isrd a = true) : zz_Run zz_prog d 134 (85, [l0, l1, l2, l3, l4, l5, l6], .int v :: .ref a :: st, k, (zz_hp n I J ex)) = zz_ck (zz_in v (zz_ary n a)) (zz_Run zz_prog d 134 (86, [l0, l1, l2, l3, l4, l5, l6], .int (I a v.toNatClampNeg) :: st, k, (zz_hp n I J ex))) := zz_k_iald f134_85 ha
theorem f134_86 : zz_fetch zz_prog 134 86 = some (.ifCond .ne 7, 3, [93], []) := zz_fetch_of p134 rfl rfl
theorem s134_86 : zz_Run zz_prog d 134 (86, [l0, l1, l2, l3, l4, l5, l6], .int v :: st, k, h) = if ¬ v = 0 then zz_Run zz_prog d 134 (93, [l0, l1, l2, l3, l4, l5, l6], st, k, h) else zz_Run zz_prog d 134 (89, [l0, l1, l2, l3, l4, l5, l6], st, k, h) := zz_k_br (¬ v = 0) rfl (zz_k_num f134_86 rfl)
theorem f134_89 : zz_fetch zz_prog 134 89 = some (.iconst 1, 1, [], []) := zz_fetch_of p134 rfl rfl
theorem s134_89 : zz_Run zz_prog d 134 (89, [l0, l1, l2, l3, l4, l5, l6], st, k, h) = zz_Run zz_prog d 134 (90, [l0, l1, l2, l3, l4, l5, l6], .int 1 :: st, k, h) := zz_k_num f134_89 rfl
theorem f134_90 : zz_fetch zz_prog 134 90 = some (.goto 4, 3, [94], []) := zz_fetch_of p134 rfl rfl
theorem s134_90 : zz_Run zz_prog d 134 (90, [l0, l1, l2, l3, l4, l5, l6], st, k, h) = zz_Run zz_prog d 134 (94, [l0, l1, l2, l3, l4, l5, l6], st, k, h) := zz_k_num f134_90 rfl
theorem f134_93 : zz_fetch zz_prog 134 93 = some (.iconst 0, 1, [], []) := zz_fetch_of p134 rfl rfl
theorem s134_93 : zz_Run zz_prog d 134 (93, [l0, l1, l2, l3, l4, l5, l6], st, k, h) = zz_Run zz_prog d 134 (94, [l0, l1, l2, l3, l4, l5, l6], .int 0 :: st, k, h) := zz_k_num f134_93 rfl
theorem f134_94 : zz_fetch zz_prog 134 94 = some (.istore 5, 2, [], []) := zz_fetch_of p134 rfl rfl
theorem s134_94 : zz_Run zz_prog d 134 (94, [l0, l1, l2, l3, l4, l5, l6], .int v :: st, k, h) = zz_sl l4 (zz_Run zz_prog d 134 (96, [l0, l1, l2, l3, l4, some (.int v), l6], st, k, h)) := zz_k_st (j := 5) (u := .int v) f134_94 rfl (fun q hq => by cases hq) rfl (show 5 < 7 by decide) (by cases l4 <;> rfl) rfl
theorem f134_96 : zz_fetch zz_prog 134 96 = some (.aload_n 0, 1, [], []) := zz_fetch_of p134 rfl rfl
theorem s134_96 : zz_Run zz_prog d 134 (96, [some (.ref a), l1, l2, l3, l4, l5, l6], st, k, h) = zz_Run zz_prog d 134 (97, [some (.ref a), l1, l2, l3, l4, l5, l6], .ref a :: st, k, h) := zz_k_num f134_96 rfl
theorem f134_97 : zz_fetch zz_prog 134 97 = some (.iload_n 3, 1, [], []) := zz_fetch_of p134 rfl rfl
theorem s134_97 : zz_Run zz_prog d 134 (97, [l0, l1, l2, some (.int v), l4, l5, l6], st, k, h) = zz_Run zz_prog d 134 (98, [l0, l1, l2, some (.int v), l4, l5, l6], .int v :: st, k, h) := zz_k_num f134_97 rfl
theorem f134_98 : zz_fetch zz_prog 134 98 = some (.iload 5, 2, [], []) := zz_fetch_of p134 rfl rfl
theorem s134_98 : zz_Run zz_prog d 134 (98, [l0, l1, l2, l3, l4, some (.int v), l6], st, k, h) = zz_Run zz_prog d 134 (100, [l0, l1, l2, l3, l4, some (.int v), l6], .int v :: st, k, h) := zz_k_num f134_98 rfl
theorem f134_100 : zz_fetch zz_prog 134 100 = some (.iconst 0, 1, [], []) := zz_fetch_of p134 rfl rfl
theorem s134_100 : zz_Run zz_prog d 134 (100, [l0, l1, l2, l3, l4, l5, l6], st, k, h) = zz_Run zz_prog d 134 (101, [l0, l1, l2, l3, l4, l5, l6], .int 0 :: st, k, h) := zz_k_num f134_100 rfl
theorem f134_101 : zz_fetch zz_prog 134 101 = some (.invokevirtual 89, 3, [0, 95, 4, 2], []) := zz_fetch_of p134 rfl rfl
theorem s134_101 : zz_Run zz_prog d 134 (101, [l0, l1, l2, l3, l4, l5, l6], [b0, b1, b2, .ref 23], k, (zz_hp n I J ex)) = zz_ret (zz_Call zz_prog d 95 [.ref 23, b2, b1, b0] (zz_hp n I J ex)) (fun v k' h' => zz_Run zz_prog d 134 (104, [l0, l1, l2, l3, l4, l5, l6], v.toList ++ [], k && k', h')) (fun a k' h' => zz_th d 134 101 a [l0, l1, l2, l3, l4, l5, l6] (k && k') h') := zz_k_call f134_101 rfl rfl rfl
theorem f134_104 : zz_fetch zz_prog 134 104 = some (.ifCond .eq 5, 3, [109], []) := zz_fetch_of p134 rfl rfl
theorem s134_104 : zz_Run zz_prog d 134 (104, [l0, l1, l2, l3, l4, l5, l6], .int v :: st, k, h) = if v = 0 then zz_Run zz_prog d 134 (109, [l0, l1, l2, l3, l4, l5, l6], st, k, h) else zz_Run zz_prog d 134 (107, [l0, l1, l2, l3, l4, l5, l6], st, k, h) := zz_k_br (v = 0) rfl (zz_k_num f134_104 rfl)
theorem f134_107 : zz_fetch zz_prog 134 107 = some (.iconst 0, 1, [], []) := zz_fetch_of p134 rfl rfl
theorem s134_107 : zz_Run zz_prog d 134 (107, [l0, l1, l2, l3, l4, l5, l6], st, k, h) = zz_Run zz_prog d 134 (108, [l0, l1, l2, l3, l4, l5, l6], .int 0 :: st, k, h) := zz_k_num f134_107 rfl
theorem f134_108 : zz_fetch zz_prog 134 108 = some (.ireturn, 1, [0], []) := zz_fetch_of p134 rfl rfl
theorem s134_108 : zz_Run zz_prog d 134 (108, [l0, l1, l2, l3, l4, l5, l6], [.int v], k, h) = some (.inl (some (.int v)), k, h) := zz_k_stop f134_108 rfl rfl rfl
theorem f134_109 : zz_fetch zz_prog 134 109 = some (.aload_n 0, 1, [], []) := zz_fetch_of p134 rfl rfl
theorem s134_109 : zz_Run zz_prog d 134 (109, [some (.ref a), l1, l2, l3, l4, l5, l6], st, k, h) = zz_Run zz_prog d 134 (110, [some (.ref a), l1, l2, l3, l4, l5, l6], .ref a :: st, k, h) := zz_k_num f134_109 rfl
theorem f134_110 : zz_fetch zz_prog 134 110 = some (.invokevirtual 158, 3, [0, 117, 1, 2], []) := zz_fetch_of p134 rfl rfl
theorem s134_110 : zz_Run zz_prog d 134 (110, [l0, l1, l2, l3, l4, l5, l6], [.ref 23], k, (zz_hp n I J ex)) = zz_ret (zz_Call zz_prog d 117 [.ref 23] (zz_hp n I J ex)) (fun v k' h' => zz_Run zz_prog d 134 (113, [l0, l1, l2, l3, l4, l5, l6], v.toList ++ [], k && k', h')) (fun a k' h' => zz_th d 134 110 a [l0, l1, l2, l3, l4, l5, l6] (k && k') h') := zz_k_call f134_110 rfl rfl rfl
theorem f134_113 : zz_fetch zz_prog 134 113 = some (.aload_n 0, 1, [], []) := zz_fetch_of p134 rfl rfl
theorem s134_113 : zz_Run zz_prog d 134 (113, [some (.ref a), l1, l2, l3, l4, l5, l6], st, k, h) = zz_Run zz_prog d 134 (114, [some (.ref a), l1, l2, l3, l4, l5, l6], .ref a :: st, k, h) := zz_k_num f134_113 rfl
theorem f134_114 : zz_fetch zz_prog 134 114 = some (.iload 4, 2, [], []) := zz_fetch_of p134 rfl rfl
theorem s134_114 : zz_Run zz_prog d 134 (114, [l0, l1, l2, l3, some (.int v), l5, l6], st, k, h) = zz_Run zz_prog d 134 (116, [l0, l1, l2, l3, some (.int v), l5, l6], .int v :: st, k, h) := zz_k_num f134_114 rfl
theorem f134_116 : zz_fetch zz_prog 134 116 = some (.iload_n 1, 1, [], []) := zz_fetch_of p134 rfl rfl
theorem s134_116 : zz_Run zz_prog d 134 (116, [l0, some (.int v), l2, l3, l4, l5, l6], st, k, h) = zz_Run zz_prog d 134 (117, [l0, some (.int v), l2, l3, l4, l5, l6], .int v :: st, k, h) := zz_k_num f134_116 rfl
theorem f134_117 : zz_fetch zz_prog 134 117 = some (.invokevirtual 203, 3, [0, 133, 3, 2], []) := zz_fetch_of p134 rfl rfl
theorem s134_117 : zz_Run zz_prog d 134 (117, [l0, l1, l2, l3, l4, l5, l6], [b0, b1, .ref 23], k, (zz_hp n I J ex)) = zz_ret (zz_Call zz_prog d 133 [.ref 23, b1, b0] (zz_hp n I J ex)) (fun v k' h' => zz_Run zz_prog d 134 (120, [l0, l1, l2, l3, l4, l5, l6], v.toList ++ [], k && k', h')) (fun a k' h' => zz_th d 134 117 a [l0, l1, l2, l3, l4, l5, l6] (k && k') h') := zz_k_call f134_117 rfl rfl rfl
theorem f134_120 : zz_fetch zz_prog 134 120 = some (.istore 6, 2, [], []) := zz_fetch_of p134 rfl rfl
theorem s134_120 : zz_Run zz_prog d 134 (120, [l0, l1, l2, l3, l4, l5, l6], .int v :: st, k, h) = zz_sl l5 (zz_Run zz_prog d 134 (122, [l0, l1, l2, l3, l4, l5, some (.int v)], st, k, h)) := zz_k_st (j := 6) (u := .int v) f134_120 rfl (fun q hq => by cases hq) rfl (show 6 < 7 by decide) (by cases l5 <;> rfl) rfl
theorem f134_122 : zz_fetch zz_prog 134 122 = some (.aload_n 0, 1, [], []) := zz_fetch_of p134 rfl rfl
theorem s134_122 : zz_Run zz_prog d 134 (122, [some (.ref a), l1, l2, l3, l4, l5, l6], st, k, h) = zz_Run zz_prog d 134 (123, [some (.ref a), l1, l2, l3, l4, l5, l6], .ref a :: st, k, h) := zz_k_num f134_122 rfl
theorem f134_123 : zz_fetch zz_prog 134 123 = some (.getfield 7, 3, [2, 1, 3], []) := zz_fetch_of p134 rfl rfl
theorem s134_123 : zz_Run zz_prog d 134 (123, [l0, l1, l2, l3, l4, l5, l6], .ref 23 :: st, k, (zz_hp n I J ex)) = zz_Run zz_prog d 134 (126, [l0, l1, l2, l3, l4, l5, l6], .ref 24 :: st, k, (zz_hp n I J ex)) := zz_k_go f134_123 rfl rfl rfl
theorem f134_126 : zz_fetch zz_prog 134 126 = some (.bipush 126, 2, [], []) := zz_fetch_of p134 rfl rfl
theorem s134_126 : zz_Run zz_prog d 134 (126, [l0, l1, l2, l3, l4, l5, l6], st, k, h) = zz_Run zz_prog d 134 (128, [l0, l1, l2, l3, l4, l5, l6], .int 126 :: st, k, h) := zz_k_num f134_126 (congrArg (fun u => some (128, [l0, l1, l2, l3, l4, l5, l6], Value.int u :: st)) (by decide : (Int8.ofInt 126).toInt32 = 126))
theorem f134_128 : zz_fetch zz_prog 134 128 = some (.iconst 5, 1, [], []) := zz_fetch_of p134 rfl rfl
theorem s134_128 : zz_Run zz_prog d 134 (128, [l0, l1, l2, l3, l4, l5, l6], st, k, h) = zz_Run zz_prog d 134 (129, [l0, l1, l2, l3, l4, l5, l6], .int 5 :: st, k, h) := zz_k_num f134_128 rfl
theorem f134_129 : zz_fetch zz_prog 134 129 = some (.iload 4, 2, [], []) := zz_fetch_of p134 rfl rfl
theorem s134_129 : zz_Run zz_prog d 134 (129, [l0, l1, l2, l3, some (.int v), l5, l6], st, k, h) = zz_Run zz_prog d 134 (131, [l0, l1, l2, l3, some (.int v), l5, l6], .int v :: st, k, h) := zz_k_num f134_129 rfl
theorem f134_131 : zz_fetch zz_prog 134 131 = some (.imul, 1, [], []) := zz_fetch_of p134 rfl rfl
theorem s134_131 : zz_Run zz_prog d 134 (131, [l0, l1, l2, l3, l4, l5, l6], .int w :: .int v :: st, k, h) = zz_Run zz_prog d 134 (132, [l0, l1, l2, l3, l4, l5, l6], .int (v * w) :: st, k, h) := zz_k_num f134_131 rfl
theorem f134_132 : zz_fetch zz_prog 134 132 = some (.iadd, 1, [], []) := zz_fetch_of p134 rfl rfl
theorem s134_132 : zz_Run zz_prog d 134 (132, [l0, l1, l2, l3, l4, l5, l6], .int w :: .int v :: st, k, h) = zz_Run zz_prog d 134 (133, [l0, l1, l2, l3, l4, l5, l6], .int (v + w) :: st, k, h) := zz_k_num f134_132 rfl
theorem f134_133 : zz_fetch zz_prog 134 133 = some (.iload_n 1, 1, [], []) := zz_fetch_of p134 rfl rfl
theorem s134_133 : zz_Run zz_prog d 134 (133, [l0, some (.int v), l2, l3, l4, l5, l6], st, k, h) = zz_Run zz_prog d 134 (134, [l0, some (.int v), l2, l3, l4, l5, l6], .int v :: st, k, h) := zz_k_num f134_133 rfl
theorem f134_134 : zz_fetch zz_prog 134 134 = some (.iadd, 1, [], []) := zz_fetch_of p134 rfl rfl
theorem s134_134 : zz_Run zz_prog d 134 (134, [l0, l1, l2, l3, l4, l5, l6], .int w :: .int v :: st, k, h) = zz_Run zz_prog d 134 (135, [l0, l1, l2, l3, l4, l5, l6], .int (v + w) :: st, k, h) := zz_k_num f134_134 rfl
theorem f134_135 : zz_fetch zz_prog 134 135 = some (.dup2, 1, [], []) := zz_fetch_of p134 rfl rfl
theorem s134_135 : zz_Run zz_prog d 134 (135, [l0, l1, l2, l3, l4, l5, l6], .int v :: .ref a1 :: st, k, h) = zz_Run zz_prog d 134 (136, [l0, l1, l2, l3, l4, l5, l6], .int v :: .ref a1 :: .int v :: .ref a1 :: st, k, h) := zz_k_num f134_135 rfl
theorem f134_136 : zz_fetch zz_prog 134 136 = some (.iaload, 1, [], []) := zz_fetch_of p134 rfl rfl
theorem s134_136 (ha : zz_isrd a = true) : zz_Run zz_prog d 134 (136, [l0, l1, l2, l3, l4, l5, l6], .int v :: .ref a :: st, k, (zz_hp n I J ex)) = zz_ck (zz_in v (zz_ary n a)) (zz_Run zz_prog d 134 (137, [l0, l1, l2, l3, l4, l5, l6], .int (I a v.toNatClampNeg) :: st, k, (zz_hp n I J ex))) := zz_k_iald f134_136 ha
theorem f134_137 : zz_fetch zz_prog 134 137 = some (.iload 6, 2, [], []) := zz_fetch_of p134 rfl rfl
theorem s134_137 : zz_Run zz_prog d 134 (137, [l0, l1, l2, l3, l4, l5, some (.int v)], st, k, h) = zz_Run zz_prog d 134 (139, [l0, l1, l2, l3, l4, l5, some (.int v)], .int v :: st, k, h) := zz_k_num f134_137 rfl
theorem f134_139 : zz_fetch zz_prog 134 139 = some (.isub, 1, [], []) := zz_fetch_of p134 rfl rfl
theorem s134_139 : zz_Run zz_prog d 134 (139, [l0, l1, l2, l3, l4, l5, l6], .int w :: .int v :: st, k, h) = zz_Run zz_prog d 134 (140, [l0, l1, l2, l3, l4, l5, l6], .int (v - w) :: st, k, h) := zz_k_num f134_139 rfl
theorem f134_140 : zz_fetch zz_prog 134 140 = some (.iastore, 1, [], []) := zz_fetch_of p134 rfl rfl
theorem s134_140 (ha : zz_isar a = true) : zz_Run zz_prog d 134 (140, [l0, l1, l2, l3, l4, l5, l6], .int w :: .int v :: .ref a :: st, k, (zz_hp n I J ex)) = zz_ck (zz_in v (zz_ary n a)) (zz_Run zz_prog d 134 (141, [l0, l1, l2, l3, l4, l5, l6], st, false, (zz_hp n (zz_up I a v.toNatClampNeg w) J ex))) := zz_k_iast f134_140 ha
theorem f134_141 : zz_fetch zz_prog 134 141 = some (.aload_n 0, 1, [], []) := zz_fetch_of p134 rfl rfl
theorem s134_141 : zz_Run zz_prog d 134 (141, [some (.ref a), l1, l2, l3, l4, l5, l6], st, k, h) = zz_Run zz_prog d 134 (142, [some (.ref a), l1, l2, l3, l4, l5, l6], .ref a :: st, k, h) := zz_k_num f134_141 rfl
theorem f134_142 : zz_fetch zz_prog 134 142 = some (.getfield 7, 3, [2, 1, 3], []) := zz_fetch_of p134 rfl rfl
theorem s134_142 : zz_Run zz_prog d 134 (142, [l0, l1, l2, l3, l4, l5, l6], .ref 23 :: st, k, (zz_hp n I J ex)) = zz_Run zz_prog d 134 (145, [l0, l1, l2, l3, l4, l5, l6], .ref 24 :: st, k, (zz_hp n I J ex)) := zz_k_go f134_142 rfl rfl rfl
theorem f134_145 : zz_fetch zz_prog 134 145 = some (.sipush 146, 3, [], []) := zz_fetch_of p134 rfl rfl
theorem s134_145 : zz_Run zz_prog d 134 (145, [l0, l1, l2, l3, l4, l5, l6], st, k, h) = zz_Run zz_prog d 134 (148, [l0, l1, l2, l3, l4, l5, l6], .int 146 :: st, k, h) := zz_k_num f134_145 (congrArg (fun u => some (148, [l0, l1, l2, l3, l4, l5, l6], Value.int u :: st)) (by decide : (Int16.ofInt 146).toInt32 = 146))
theorem f134_148 : zz_fetch zz_prog 134 148 = some (.iload_n 1, 1, [], []) := zz_fetch_of p134 rfl rfl
theorem s134_148 : zz_Run zz_prog d 134 (148, [l0, some (.int v), l2, l3, l4, l5, l6], st, k, h) = zz_Run zz_prog d 134 (149, [l0, some (.int v), l2, l3, l4, l5, l6], .int v :: st, k, h) := zz_k_num f134_148 rfl
theorem f134_149 : zz_fetch zz_prog 134 149 = some (.iadd, 1, [], []) := zz_fetch_of p134 rfl rfl
theorem s134_149 : zz_Run zz_prog d 134 (149, [l0, l1, l2, l3, l4, l5, l6], .int w :: .int v :: st, k, h) = zz_Run zz_prog d 134 (150, [l0, l1, l2, l3, l4, l5, l6], .int (v + w) :: st, k, h) := zz_k_num f134_149 rfl
theorem f134_150 : zz_fetch zz_prog 134 150 = some (.dup2, 1, [], []) := zz_fetch_of p134 rfl rfl
theorem s134_150 : zz_Run zz_prog d 134 (150, [l0, l1, l2, l3, l4, l5, l6], .int v :: .ref a1 :: st, k, h) = zz_Run zz_prog d 134 (151, [l0, l1, l2, l3, l4, l5, l6], .int v :: .ref a1 :: .int v :: .ref a1 :: st, k, h) := zz_k_num f134_150 rfl
theorem f134_151 : zz_fetch zz_prog 134 151 = some (.iaload, 1, [], []) := zz_fetch_of p134 rfl rfl
theorem s134_151 (ha : zz_isrd a = true) : zz_Run zz_prog d 134 (151, [l0, l1, l2, l3, l4, l5, l6], .int v :: .ref a :: st, k, (zz_hp n I J ex)) = zz_ck (zz_in v (zz_ary n a)) (zz_Run zz_prog d 134 (152, [l0, l1, l2, l3, l4, l5, l6], .int (I a v.toNatClampNeg) :: st, k, (zz_hp n I J ex))) := zz_k_iald f134_151 ha
theorem f134_152 : zz_fetch zz_prog 134 152 = some (.iload 6, 2, [], []) := zz_fetch_of p134 rfl rfl
theorem s134_152 : zz_Run zz_prog d 134 (152, [l0, l1, l2, l3, l4, l5, some (.int v)], st, k, h) = zz_Run zz_prog d 134 (154, [l0, l1, l2, l3, l4, l5, some (.int v)], .int v :: st, k, h) := zz_k_num f134_152 rfl
theorem f134_154 : zz_fetch zz_prog 134 154 = some (.iadd, 1, [], []) := zz_fetch_of p134 rfl rfl
theorem s134_154 : zz_Run zz_prog d 134 (154, [l0, l1, l2, l3, l4, l5, l6], .int w :: .int v :: st, k, h) = zz_Run zz_prog d 134 (155, [l0, l1, l2, l3, l4, l5, l6], .int (v + w) :: st, k, h) := zz_k_num f134_154 rfl
theorem f134_155 : zz_fetch zz_prog 134 155 = some (.iastore, 1, [], []) := zz_fetch_of p134 rfl rfl
theorem s134_155 (ha : zz_isar a = true) : zz_Run zz_prog d 134 (155, [l0, l1, l2, l3, l4, l5, l6], .int w :: .int v :: .ref a :: st, k, (zz_hp n I J ex)) = zz_ck (zz_in v (zz_ary n a)) (zz_Run zz_prog d 134 (156, [l0, l1, l2, l3, l4, l5, l6], st, false, (zz_hp n (zz_up I a v.toNatClampNeg w) J ex))) := zz_k_iast f134_155 ha
theorem f134_156 : zz_fetch zz_prog 134 156 = some (.aload_n 0, 1, [], []) := zz_fetch_of p134 rfl rfl
theorem s134_156 : zz_Run zz_prog d 134 (156, [some (.ref a), l1, l2, l3, l4, l5, l6], st, k, h) = zz_Run zz_prog d 134 (157, [some (.ref a), l1, l2, l3, l4, l5, l6], .ref a :: st, k, h) := zz_k_num f134_156 rfl
theorem f134_157 : zz_fetch zz_prog 134 157 = some (.getfield 7, 3, [2, 1, 3], []) := zz_fetch_of p134 rfl rfl
theorem s134_157 : zz_Run zz_prog d 134 (157, [l0, l1, l2, l3, l4, l5, l6], .ref 23 :: st, k, (zz_hp n I J ex)) = zz_Run zz_prog d 134 (160, [l0, l1, l2, l3, l4, l5, l6], .ref 24 :: st, k, (zz_hp n I J ex)) := zz_k_go f134_157 rfl rfl rfl
theorem f134_160 : zz_fetch zz_prog 134 160 = some (.bipush 126, 2, [], []) := zz_fetch_of p134 rfl rfl
theorem s134_160 : zz_Run zz_prog d 134 (160, [l0, l1, l2, l3, l4, l5, l6], st, k, h) = zz_Run zz_prog d 134 (162, [l0, l1, l2, l3, l4, l5, l6], .int 126 :: st, k, h) := zz_k_num f134_160 (congrArg (fun u => some (162, [l0, l1, l2, l3, l4, l5, l6], Value.int u :: st)) (by decide : (Int8.ofInt 126).toInt32 = 126))
theorem f134_162 : zz_fetch zz_prog 134 162 = some (.iconst 5, 1, [], []) := zz_fetch_of p134 rfl rfl
theorem s134_162 : zz_Run zz_prog d 134 (162, [l0, l1, l2, l3, l4, l5, l6], st, k, h) = zz_Run zz_prog d 134 (163, [l0, l1, l2, l3, l4, l5, l6], .int 5 :: st, k, h) := zz_k_num f134_162 rfl
theorem f134_163 : zz_fetch zz_prog 134 163 = some (.iload 4, 2, [], []) := zz_fetch_of p134 rfl rfl
theorem s134_163 : zz_Run zz_prog d 134 (163, [l0, l1, l2, l3, some (.int v), l5, l6], st, k, h) = zz_Run zz_prog d 134 (165, [l0, l1, l2, l3, some (.int v), l5, l6], .int v :: st, k, h) := zz_k_num f134_163 rfl
theorem f134_165 : zz_fetch zz_prog 134 165 = some (.imul, 1, [], []) := zz_fetch_of p134 rfl rfl
theorem s134_165 : zz_Run zz_prog d 134 (165, [l0, l1, l2, l3, l4, l5, l6], .int w :: .int v :: st, k, h) = zz_Run zz_prog d 134 (166, [l0, l1, l2, l3, l4, l5, l6], .int (v * w) :: st, k, h) := zz_k_num f134_165 rfl
theorem f134_166 : zz_fetch zz_prog 134 166 = some (.iadd, 1, [], []) := zz_fetch_of p134 rfl rfl
theorem s134_166 : zz_Run zz_prog d 134 (166, [l0, l1, l2, l3, l4, l5, l6], .int w :: .int v :: st, k, h) = zz_Run zz_prog d 134 (167, [l0, l1, l2, l3, l4, l5, l6], .int (v + w) :: st, k, h) := zz_k_num f134_166 rfl
theorem f134_167 : zz_fetch zz_prog 134 167 = some (.iload_n 2, 1, [], []) := zz_fetch_of p134 rfl rfl
theorem s134_167 : zz_Run zz_prog d 134 (167, [l0, l1, some (.int v), l3, l4, l5, l6], st, k, h) = zz_Run zz_prog d 134 (168, [l0, l1, some (.int v), l3, l4, l5, l6], .int v :: st, k, h) := zz_k_num f134_167 rfl
theorem f134_168 : zz_fetch zz_prog 134 168 = some (.iadd, 1, [], []) := zz_fetch_of p134 rfl rfl
theorem s134_168 : zz_Run zz_prog d 134 (168, [l0, l1, l2, l3, l4, l5, l6], .int w :: .int v :: st, k, h) = zz_Run zz_prog d 134 (169, [l0, l1, l2, l3, l4, l5, l6], .int (v + w) :: st, k, h) := zz_k_num f134_168 rfl
theorem f134_169 : zz_fetch zz_prog 134 169 = some (.dup2, 1, [], []) := zz_fetch_of p134 rfl rfl
theorem s134_169 : zz_Run zz_prog d 134 (169, [l0, l1, l2, l3, l4, l5, l6], .int v :: .ref a1 :: st, k, h) = zz_Run zz_prog d 134 (170, [l0, l1, l2, l3, l4, l5, l6], .int v :: .ref a1 :: .int v :: .ref a1 :: st, k, h) := zz_k_num f134_169 rfl
theorem f134_170 : zz_fetch zz_prog 134 170 = some (.iaload, 1, [], []) := zz_fetch_of p134 rfl rfl
theorem s134_170 (ha : zz_isrd a = true) : zz_Run zz_prog d 134 (170, [l0, l1, l2, l3, l4, l5, l6], .int v :: .ref a :: st, k, (zz_hp n I J ex)) = zz_ck (zz_in v (zz_ary n a)) (zz_Run zz_prog d 134 (171, [l0, l1, l2, l3, l4, l5, l6], .int (I a v.toNatClampNeg) :: st, k, (zz_hp n I J ex))) := zz_k_iald f134_170 ha
theorem f134_171 : zz_fetch zz_prog 134 171 = some (.iconst 1, 1, [], []) := zz_fetch_of p134 rfl rfl
theorem s134_171 : zz_Run zz_prog d 134 (171, [l0, l1, l2, l3, l4, l5, l6], st, k, h) = zz_Run zz_prog d 134 (172, [l0, l1, l2, l3, l4, l5, l6], .int 1 :: st, k, h) := zz_k_num f134_171 rfl
theorem f134_172 : zz_fetch zz_prog 134 172 = some (.iadd, 1, [], []) := zz_fetch_of p134 rfl rfl
theorem s134_172 : zz_Run zz_prog d 134 (172, [l0, l1, l2, l3, l4, l5, l6], .int w :: .int v :: st, k, h) = zz_Run zz_prog d 134 (173, [l0, l1, l2, l3, l4, l5, l6], .int (v + w) :: st, k, h) := zz_k_num f134_172 rfl
theorem f134_173 : zz_fetch zz_prog 134 173 = some (.iastore, 1, [], []) := zz_fetch_of p134 rfl rfl
theorem s134_173 (ha : zz_isar a = true) : zz_Run zz_prog d 134 (173, [l0, l1, l2, l3, l4, l5, l6], .int w :: .int v :: .ref a :: st, k, (zz_hp n I J ex)) = zz_ck (zz_in v (zz_ary n a)) (zz_Run zz_prog d 134 (174, [l0, l1, l2, l3, l4, l5, l6], st, false, (zz_hp n (zz_up I a v.toNatClampNeg w) J ex))) := zz_k_iast f134_173 ha
theorem f134_174 : zz_fetch zz_prog 134 174 = some (.aload_n 0, 1, [], []) := zz_fetch_of p134 rfl rfl
theorem s134_174 : zz_Run zz_prog d 134 (174, [some (.ref a), l1, l2, l3, l4, l5, l6], st, k, h) = zz_Run zz_prog d 134 (175, [some (.ref a), l1, l2, l3, l4, l5, l6], .ref a :: st, k, h) := zz_k_num f134_174 rfl
theorem f134_175 : zz_fetch zz_prog 134 175 = some (.getfield 7, 3, [2, 1, 3], []) := zz_fetch_of p134 rfl rfl
theorem s134_175 : zz_Run zz_prog d 134 (175, [l0, l1, l2, l3, l4, l5, l6], .ref 23 :: st, k, (zz_hp n I J ex)) = zz_Run zz_prog d 134 (178, [l0, l1, l2, l3, l4, l5, l6], .ref 24 :: st, k, (zz_hp n I J ex)) := zz_k_go f134_175 rfl rfl rfl
theorem f134_178 : zz_fetch zz_prog 134 178 = some (.sipush 146, 3, [], []) := zz_fetch_of p134 rfl rfl
theorem s134_178 : zz_Run zz_prog d 134 (178, [l0, l1, l2, l3, l4, l5, l6], st, k, h) = zz_Run zz_prog d 134 (181, [l0, l1, l2, l3, l4, l5, l6], .int 146 :: st, k, h) := zz_k_num f134_178 (congrArg (fun u => some (181, [l0, l1, l2, l3, l4, l5, l6], Value.int u :: st)) (by decide : (Int16.ofInt 146).toInt32 = 146))
theorem f134_181 : zz_fetch zz_prog 134 181 = some (.iload_n 2, 1, [], []) := zz_fetch_of p134 rfl rfl
theorem s134_181 : zz_Run zz_prog d 134 (181, [l0, l1, some (.int v), l3, l4, l5, l6], st, k, h) = zz_Run zz_prog d 134 (182, [l0, l1, some (.int v), l3, l4, l5, l6], .int v :: st, k, h) := zz_k_num f134_181 rfl
theorem f134_182 : zz_fetch zz_prog 134 182 = some (.iadd, 1, [], []) := zz_fetch_of p134 rfl rfl
theorem s134_182 : zz_Run zz_prog d 134 (182, [l0, l1, l2, l3, l4, l5, l6], .int w :: .int v :: st, k, h) = zz_Run zz_prog d 134 (183, [l0, l1, l2, l3, l4, l5, l6], .int (v + w) :: st, k, h) := zz_k_num f134_182 rfl
theorem f134_183 : zz_fetch zz_prog 134 183 = some (.dup2, 1, [], []) := zz_fetch_of p134 rfl rfl
theorem s134_183 : zz_Run zz_prog d 134 (183, [l0, l1, l2, l3, l4, l5, l6], .int v :: .ref a1 :: st, k, h) = zz_Run zz_prog d 134 (184, [l0, l1, l2, l3, l4, l5, l6], .int v :: .ref a1 :: .int v :: .ref a1 :: st, k, h) := zz_k_num f134_183 rfl
theorem f134_184 : zz_fetch zz_prog 134 184 = some (.iaload, 1, [], []) := zz_fetch_of p134 rfl rfl
theorem s134_184 (ha : zz_isrd a = true) : zz_Run zz_prog d 134 (184, [l0, l1, l2, l3, l4, l5, l6], .int v :: .ref a :: st, k, (zz_hp n I J ex)) = zz_ck (zz_in v (zz_ary n a)) (zz_Run zz_prog d 134 (185, [l0, l1, l2, l3, l4, l5, l6], .int (I a v.toNatClampNeg) :: st, k, (zz_hp n I J ex))) := zz_k_iald f134_184 ha
theorem f134_185 : zz_fetch zz_prog 134 185 = some (.iconst 1, 1, [], []) := zz_fetch_of p134 rfl rfl
theorem s134_185 : zz_Run zz_prog d 134 (185, [l0, l1, l2, l3, l4, l5, l6], st, k, h) = zz_Run zz_prog d 134 (186, [l0, l1, l2, l3, l4, l5, l6], .int 1 :: st, k, h) := zz_k_num f134_185 rfl
theorem f134_186 : zz_fetch zz_prog 134 186 = some (.isub, 1, [], []) := zz_fetch_of p134 rfl rfl
theorem s134_186 : zz_Run zz_prog d 134 (186, [l0, l1, l2, l3, l4, l5, l6], .int w :: .int v :: st, k, h) = zz_Run zz_prog d 134 (187, [l0, l1, l2, l3, l4, l5, l6], .int (v - w) :: st, k, h) := zz_k_num f134_186 rfl
theorem f134_187 : zz_fetch zz_prog 134 187 = some (.iastore, 1, [], []) := zz_fetch_of p134 rfl rfl
theorem s134_187 (ha : zz_isar a = true) : zz_Run zz_prog d 134 (187, [l0, l1, l2, l3, l4, l5, l6], .int w :: .int v :: .ref a :: st, k, (zz_hp n I J ex)) = zz_ck (zz_in v (zz_ary n a)) (zz_Run zz_prog d 134 (188, [l0, l1, l2, l3, l4, l5, l6], st, false, (zz_hp n (zz_up I a v.toNatClampNeg w) J ex))) := zz_k_iast f134_187 ha
theorem f134_188 : zz_fetch zz_prog 134 188 = some (.aload_n 0, 1, [], []) := zz_fetch_of p134 rfl rfl
theorem s134_188 : zz_Run zz_prog d 134 (188, [some (.ref a), l1, l2, l3, l4, l5, l6], st, k, h) = zz_Run zz_prog d 134 (189, [some (.ref a), l1, l2, l3, l4, l5, l6], .ref a :: st, k, h) := zz_k_num f134_188 rfl
theorem f134_189 : zz_fetch zz_prog 134 189 = some (.invokevirtual 175, 3, [0, 116, 1, 2], []) := zz_fetch_of p134 rfl rfl
theorem s134_189 : zz_Run zz_prog d 134 (189, [l0, l1, l2, l3, l4, l5, l6], [.ref 23], k, (zz_hp n I J ex)) = zz_ret (zz_Call zz_prog d 116 [.ref 23] (zz_hp n I J ex)) (fun v k' h' => zz_Run zz_prog d 134 (192, [l0, l1, l2, l3, l4, l5, l6], v.toList ++ [], k && k', h')) (fun a k' h' => zz_th d 134 189 a [l0, l1, l2, l3, l4, l5, l6] (k && k') h') := zz_k_call f134_189 rfl rfl rfl
theorem f134_192 : zz_fetch zz_prog 134 192 = some (.iload 6, 2, [], []) := zz_fetch_of p134 rfl rfl
theorem s134_192 : zz_Run zz_prog d 134 (192, [l0, l1, l2, l3, l4, l5, some (.int v)], st, k, h) = zz_Run zz_prog d 134 (194, [l0, l1, l2, l3, l4, l5, some (.int v)], .int v :: st, k, h) := zz_k_num f134_192 rfl
theorem f134_194 : zz_fetch zz_prog 134 194 = some (.ireturn, 1, [0], []) := zz_fetch_of p134 rfl rfl
theorem s134_194 : zz_Run zz_prog d 134 (194, [l0, l1, l2, l3, l4, l5, l6], [.int v], k, h) = some (.inl (some (.int v)), k, h) := zz_k_stop f134_194 rfl rfl rfl
end S134
section S135
variable {d n j : Nat} {l0 l1 l2 l3 l4 : Option Value} {st : List Value} {k : Bool} {h : zz_H} {v w v1 v2 : Int32} {y y1 : Int64} {a a1 a2 : Nat} {b0 b1 b2 b3 b4 b5 b6 b7 b8 : Value} {I : Nat → Nat → Int32} {J : Nat → Nat → Int64} {ex : List (Nat × Nat)}
theorem p135 : zz_prog 135 = some zz_m135 := rfl
theorem e135 (g0 : Nat) (g1 : Int32) (g2 : Int32) : zz_Call zz_prog (d + 1) 135 [.ref g0, .int g1, .int g2] h = zz_Run zz_prog d 135 (0, [some (.ref g0), some (.int g1), some (.int g2), none, none], [], true, h) := rfl
theorem t135 (pc : Nat) (L : List (Option Value)) : zz_th d 135 pc a L k h = some (.inr a, k, h) := zz_th_out p135 rfl
theorem f135_0 : zz_fetch zz_prog 135 0 = some (.iconst 1, 1, [], []) := zz_fetch_of p135 rfl rfl
theorem s135_0 : zz_Run zz_prog d 135 (0, [l0, l1, l2, l3, l4], st, k, h) = zz_Run zz_prog d 135 (1, [l0, l1, l2, l3, l4], .int 1 :: st, k, h) := zz_k_num f135_0 rfl
theorem f135_1 : zz_fetch zz_prog 135 1 = some (.istore_n 3, 1, [], []) := zz_fetch_of p135 rfl rfl
theorem s135_1 : zz_Run zz_prog d 135 (1, [l0, l1, l2, l3, l4], .int v :: st, k, h) = zz_sl l2 (zz_Run zz_prog d 135 (2, [l0, l1, l2, some (.int v), l4], st, k, h)) := zz_k_st (j := 3) (u := .int v) f135_1 rfl (fun q hq => by cases hq) rfl (show 3 < 5 by decide) (by cases l2 <;> rfl) rfl
theorem f135_2 : zz_fetch zz_prog 135 2 = some (.iconst 0, 1, [], []) := zz_fetch_of p135 rfl rfl
theorem s135_2 : zz_Run zz_prog d 135 (2, [l0, l1, l2, l3, l4], st, k, h) = zz_Run zz_prog d 135 (3, [l0, l1, l2, l3, l4], .int 0 :: st, k, h) := zz_k_num f135_2 rfl
theorem f135_3 : zz_fetch zz_prog 135 3 = some (.istore 4, 2, [], []) := zz_fetch_of p135 rfl rfl
theorem s135_3 : zz_Run zz_prog d 135 (3, [l0, l1, l2, l3, l4], .int v :: st, k, h) = zz_sl l3 (zz_Run zz_prog d 135 (5, [l0, l1, l2, l3, some (.int v)], st, k, h)) := zz_k_st (j := 4) (u := .int v) f135_3 rfl (fun q hq => by cases hq) rfl (show 4 < 5 by decide) (by cases l3 <;> rfl) rfl
theorem f135_5 : zz_fetch zz_prog 135 5 = some (.iload 4, 2, [], []) := zz_fetch_of p135 rfl rfl
theorem s135_5 : zz_Run zz_prog d 135 (5, [l0, l1, l2, l3, some (.int v)], st, k, h) = zz_Run zz_prog d 135 (7, [l0, l1, l2, l3, some (.int v)], .int v :: st, k, h) := zz_k_num f135_5 rfl
theorem f135_7 : zz_fetch zz_prog 135 7 = some (.iconst 5, 1, [], []) := zz_fetch_of p135 rfl rfl
theorem s135_7 : zz_Run zz_prog d 135 (7, [l0, l1, l2, l3, l4], st, k, h) = zz_Run zz_prog d 135 (8, [l0, l1, l2, l3, l4], .int 5 :: st, k, h) := zz_k_num f135_7 rfl
theorem f135_8 : zz_fetch zz_prog 135 8 = some (.if_icmp .ge 45, 3, [53], []) := zz_fetch_of p135 rfl rfl
theorem s135_8 : zz_Run zz_prog d 135 (8, [l0, l1, l2, l3, l4], .int w :: .int v :: st, k, h) = if w ≤ v then zz_Run zz_prog d 135 (53, [l0, l1, l2, l3, l4], st, k, h) else zz_Run zz_prog d 135 (11, [l0, l1, l2, l3, l4], st, k, h) := zz_k_br (w ≤ v) rfl (zz_k_num f135_8 rfl)
theorem f135_11 : zz_fetch zz_prog 135 11 = some (.iload_n 3, 1, [], []) := zz_fetch_of p135 rfl rfl
theorem s135_11 : zz_Run zz_prog d 135 (11, [l0, l1, l2, some (.int v), l4], st, k, h) = zz_Run zz_prog d 135 (12, [l0, l1, l2, some (.int v), l4], .int v :: st, k, h) := zz_k_num f135_11 rfl
theorem f135_12 : zz_fetch zz_prog 135 12 = some (.ifCond .eq 33, 3, [45], []) := zz_fetch_of p135 rfl rfl
theorem s135_12 : zz_Run zz_prog d 135 (12, [l0, l1, l2, l3, l4], .int v :: st, k, h) = if v = 0 then zz_Run zz_prog d 135 (45, [l0, l1, l2, l3, l4], st, k, h) else zz_Run zz_prog d 135 (15, [l0, l1, l2, l3, l4], st, k, h) := zz_k_br (v = 0) rfl (zz_k_num f135_12 rfl)
theorem f135_15 : zz_fetch zz_prog 135 15 = some (.aload_n 0, 1, [], []) := zz_fetch_of p135 rfl rfl
theorem s135_15 : zz_Run zz_prog d 135 (15, [some (.ref a), l1, l2, l3, l4], st, k, h) = zz_Run zz_prog d 135 (16, [some (.ref a), l1, l2, l3, l4], .ref a :: st, k, h) := zz_k_num f135_15 rfl
theorem f135_16 : zz_fetch zz_prog 135 16 = some (.getfield 7, 3, [2, 1, 3], []) := zz_fetch_of p135 rfl rfl
theorem s135_16 : zz_Run zz_prog d 135 (16, [l0, l1, l2, l3, l4], .ref 23 :: st, k, (zz_hp n I J ex)) = zz_Run zz_prog d 135 (19, [l0, l1, l2, l3, l4], .ref 24 :: st, k, (zz_hp n I J ex)) := zz_k_go f135_16 rfl rfl rfl
theorem f135_19 : zz_fetch zz_prog 135 19 = some (.bipush 126, 2, [], []) := zz_fetch_of p135 rfl rfl
theorem s135_19 : zz_Run zz_prog d 135 (19, [l0, l1, l2, l3, l4], st, k, h) = zz_Run zz_prog d 135 (21, [l0, l1, l2, l3, l4], .int 126 :: st, k, h) := zz_k_num f135_19 (congrArg (fun u => some (21, [l0, l1, l2, l3, l4], Value.int u :: st)) (by decide : (Int8.ofInt 126).toInt32 = 126))
theorem f135_21 : zz_fetch zz_prog 135 21 = some (.iconst 5, 1, [], []) := zz_fetch_of p135 rfl rfl
theorem s135_21 : zz_Run zz_prog d 135 (21, [l0, l1, l2, l3, l4], st, k, h) = zz_Run zz_prog d 135 (22, [l0, l1, l2, l3, l4], .int 5 :: st, k, h) := zz_k_num f135_21 rfl
theorem f135_22 : zz_fetch zz_prog 135 22 = some (.iload_n 1, 1, [], []) := zz_fetch_of p135 rfl rfl
theorem s135_22 : zz_Run zz_prog d 135 (22, [l0, some (.int v), l2, l3, l4], st, k, h) = zz_Run zz_prog d 135 (23, [l0, some (.int v), l2, l3, l4], .int v :: st, k, h) := zz_k_num f135_22 rfl
theorem f135_23 : zz_fetch zz_prog 135 23 = some (.imul, 1, [], []) := zz_fetch_of p135 rfl rfl
theorem s135_23 : zz_Run zz_prog d 135 (23, [l0, l1, l2, l3, l4], .int w :: .int v :: st, k, h) = zz_Run zz_prog d 135 (24, [l0, l1, l2, l3, l4], .int (v * w) :: st, k, h) := zz_k_num f135_23 rfl
theorem f135_24 : zz_fetch zz_prog 135 24 = some (.iadd, 1, [], []) := zz_fetch_of p135 rfl rfl
theorem s135_24 : zz_Run zz_prog d 135 (24, [l0, l1, l2, l3, l4], .int w :: .int v :: st, k, h) = zz_Run zz_prog d 135 (25, [l0, l1, l2, l3, l4], .int (v + w) :: st, k, h) := zz_k_num f135_24 rfl
theorem f135_25 : zz_fetch zz_prog 135 25 = some (.iload 4, 2, [], []) := zz_fetch_of p135 rfl rfl
theorem s135_25 : zz_Run zz_prog d 135 (25, [l0, l1, l2, l3, some (.int v)], st, k, h) = zz_Run zz_prog d 135 (27, [l0, l1, l2, l3, some (.int v)], .int v :: st, k, h) := zz_k_num f135_25 rfl
theorem f135_27 : zz_fetch zz_prog 135 27 = some (.iadd, 1, [], []) := zz_fetch_of p135 rfl rfl
theorem s135_27 : zz_Run zz_prog d 135 (27, [l0, l1, l2, l3, l4], .int w :: .int v :: st, k, h) = zz_Run zz_prog d 135 (28, [l0, l1, l2, l3, l4], .int (v + w) :: st, k, h) := zz_k_num f135_27 rfl
theorem f135_28 : zz_fetch zz_prog 135 28 = some (.iaload, 1, [], []) := zz_fetch_of p135 rfl rfl
theorem s135_28 (ha : zz_isrd a = true) : zz_Run zz_prog d 135 (28, [l0, l1, l2, l3, l4], .int v :: .ref a :: st, k, (zz_hp n I J ex)) = zz_ck (zz_in v (zz_ary n a)) (zz_Run zz_prog d 135 (29, [l0, l1, l2, l3, l4], .int (I a v.toNatClampNeg) :: st, k, (zz_hp n I J ex))) := zz_k_iald f135_28 ha
theorem f135_29 : zz_fetch zz_prog 135 29 = some (.iload_n 2, 1, [], []) := zz_fetch_of p135 rfl rfl
theorem s135_29 : zz_Run zz_prog d 135 (29, [l0, l1, some (.int v), l3, l4], st, k, h) = zz_Run zz_prog d 135 (30, [l0, l1, some (.int v), l3, l4], .int v :: st, k, h) := zz_k_num f135_29 rfl
theorem f135_30 : zz_fetch zz_prog 135 30 = some (.iconst 4, 1, [], []) := zz_fetch_of p135 rfl rfl
theorem s135_30 : zz_Run zz_prog d 135 (30, [l0, l1, l2, l3, l4], st, k, h) = zz_Run zz_prog d 135 (31, [l0, l1, l2, l3, l4], .int 4 :: st, k, h) := zz_k_num f135_30 rfl
theorem f135_31 : zz_fetch zz_prog 135 31 = some (.iload 4, 2, [], []) := zz_fetch_of p135 rfl rfl
theorem s135_31 : zz_Run zz_prog d 135 (31, [l0, l1, l2, l3, some (.int v)], st, k, h) = zz_Run zz_prog d 135 (33, [l0, l1, l2, l3, some (.int v)], .int v :: st, k, h) := zz_k_num f135_31 rfl
theorem f135_33 : zz_fetch zz_prog 135 33 = some (.imul, 1, [], []) := zz_fetch_of p135 rfl rfl
theorem s135_33 : zz_Run zz_prog d 135 (33, [l0, l1, l2, l3, l4], .int w :: .int v :: st, k, h) = zz_Run zz_prog d 135 (34, [l0, l1, l2, l3, l4], .int (v * w) :: st, k, h) := zz_k_num f135_33 rfl
theorem f135_34 : zz_fetch zz_prog 135 34 = some (.ishr, 1, [], []) := zz_fetch_of p135 rfl rfl
theorem s135_34 : zz_Run zz_prog d 135 (34, [l0, l1, l2, l3, l4], .int w :: .int v :: st, k, h) = zz_Run zz_prog d 135 (35, [l0, l1, l2, l3, l4], .int (v >>> (w &&& 31)) :: st, k, h) := zz_k_num f135_34 rfl
theorem f135_35 : zz_fetch zz_prog 135 35 = some (.bipush 15, 2, [], []) := zz_fetch_of p135 rfl rfl
theorem s135_35 : zz_Run zz_prog d 135 (35, [l0, l1, l2, l3, l4], st, k, h) = zz_Run zz_prog d 135 (37, [l0, l1, l2, l3, l4], .int 15 :: st, k, h) := zz_k_num f135_35 (congrArg (fun u => some (37, [l0, l1, l2, l3, l4], Value.int u :: st)) (by decide : (Int8.ofInt 15).toInt32 = 15))
theorem f135_37 : zz_fetch zz_prog 135 37 = some (.iand, 1, [], []) := zz_fetch_of p135 rfl rfl
theorem s135_37 : zz_Run zz_prog d 135 (37, [l0, l1, l2, l3, l4], .int w :: .int v :: st, k, h) = zz_Run zz_prog d 135 (38, [l0, l1, l2, l3, l4], .int (v &&& w) :: st, k, h) := zz_k_num f135_37 rfl
theorem f135_38 : zz_fetch zz_prog 135 38 = some (.if_icmp .lt 7, 3, [45], []) := zz_fetch_of p135 rfl rfl
theorem s135_38 : zz_Run zz_prog d 135 (38, [l0, l1, l2, l3, l4], .int w :: .int v :: st, k, h) = if v < w then zz_Run zz_prog d 135 (45, [l0, l1, l2, l3, l4], st, k, h) else zz_Run zz_prog d 135 (41, [l0, l1, l2, l3, l4], st, k, h) := zz_k_br (v < w) rfl (zz_k_num f135_38 rfl)
theorem f135_41 : zz_fetch zz_prog 135 41 = some (.iconst 1, 1, [], []) := zz_fetch_of p135 rfl rfl
theorem s135_41 : zz_Run zz_prog d 135 (41, [l0, l1, l2, l3, l4], st, k, h) = zz_Run zz_prog d 135 (42, [l0, l1, l2, l3, l4], .int 1 :: st, k, h) := zz_k_num f135_41 rfl
theorem f135_42 : zz_fetch zz_prog 135 42 = some (.goto 4, 3, [46], []) := zz_fetch_of p135 rfl rfl
theorem s135_42 : zz_Run zz_prog d 135 (42, [l0, l1, l2, l3, l4], st, k, h) = zz_Run zz_prog d 135 (46, [l0, l1, l2, l3, l4], st, k, h) := zz_k_num f135_42 rfl
theorem f135_45 : zz_fetch zz_prog 135 45 = some (.iconst 0, 1, [], []) := zz_fetch_of p135 rfl rfl
theorem s135_45 : zz_Run zz_prog d 135 (45, [l0, l1, l2, l3, l4], st, k, h) = zz_Run zz_prog d 135 (46, [l0, l1, l2, l3, l4], .int 0 :: st, k, h) := zz_k_num f135_45 rfl
theorem f135_46 : zz_fetch zz_prog 135 46 = some (.istore_n 3, 1, [], []) := zz_fetch_of p135 rfl rfl
theorem s135_46 : zz_Run zz_prog d 135 (46, [l0, l1, l2, l3, l4], .int v :: st, k, h) = zz_sl l2 (zz_Run zz_prog d 135 (47, [l0, l1, l2, some (.int v), l4], st, k, h)) := zz_k_st (j := 3) (u := .int v) f135_46 rfl (fun q hq => by cases hq) rfl (show 3 < 5 by decide) (by cases l2 <;> rfl) rfl
theorem f135_47 : zz_fetch zz_prog 135 47 = some (.iinc 4 1, 3, [], []) := zz_fetch_of p135 rfl rfl
theorem s135_47 : zz_Run zz_prog d 135 (47, [l0, l1, l2, l3, some (.int v)], st, k, h) = zz_sl l3 (zz_Run zz_prog d 135 (50, [l0, l1, l2, l3, some (.int (v + 1))], st, k, h)) := zz_k_st (j := 4) (u := .int (v + 1)) f135_47 rfl (fun q hq => by cases hq) rfl (show 4 < 5 by decide) (by cases l3 <;> rfl) rfl
theorem f135_50 : zz_fetch zz_prog 135 50 = some (.goto (-45), 3, [5], []) := zz_fetch_of p135 rfl rfl
theorem s135_50 : zz_Run zz_prog d 135 (50, [l0, l1, l2, l3, l4], st, k, h) = zz_Run zz_prog d 135 (5, [l0, l1, l2, l3, l4], st, k, h) := zz_k_num f135_50 rfl
theorem f135_53 : zz_fetch zz_prog 135 53 = some (.iload_n 3, 1, [], []) := zz_fetch_of p135 rfl rfl
theorem s135_53 : zz_Run zz_prog d 135 (53, [l0, l1, l2, some (.int v), l4], st, k, h) = zz_Run zz_prog d 135 (54, [l0, l1, l2, some (.int v), l4], .int v :: st, k, h) := zz_k_num f135_53 rfl
theorem f135_54 : zz_fetch zz_prog 135 54 = some (.ireturn, 1, [1], []) := zz_fetch_of p135 rfl rfl
theorem s135_54 : zz_Run zz_prog d 135 (54, [l0, l1, l2, l3, l4], [.int v], k, h) = zz_ck (decide (v = 0 ∨ v = 1)) (some (.inl (some (.int v)), k, h)) := zz_k_retz f135_54
end S135
section S136
variable {d n j : Nat} {l0 l1 l2 l3 l4 : Option Value} {st : List Value} {k : Bool} {h : zz_H} {v w v1 v2 : Int32} {y y1 : Int64} {a a1 a2 : Nat} {b0 b1 b2 b3 b4 b5 b6 b7 b8 : Value} {I : Nat → Nat → Int32} {J : Nat → Nat → Int64} {ex : List (Nat × Nat)}
theorem p136 : zz_prog 136 = some zz_m136 := rfl
theorem e136 (g0 : Nat) (g1 : Int32) (g2 : Int32) (g3 : Int32) : zz_Call zz_prog (d + 1) 136 [.ref g0, .int g1, .int g2, .int g3] h = zz_Run zz_prog d 136 (0, [some (.ref g0), some (.int g1), some (.int g2), some (.int g3), none], [], true, h) := rfl
theorem t136 (pc : Nat) (L : List (Option Value)) : zz_th d 136 pc a L k h = some (.inr a, k, h) := zz_th_out p136 rfl
theorem f136_0 : zz_fetch zz_prog 136 0 = some (.aload_n 0, 1, [], []) := zz_fetch_of p136 rfl rfl
theorem s136_0 : zz_Run zz_prog d 136 (0, [some (.ref a), l1, l2, l3, l4], st, k, h) = zz_Run zz_prog d 136 (1, [some (.ref a), l1, l2, l3, l4], .ref a :: st, k, h) := zz_k_num f136_0 rfl
theorem f136_1 : zz_fetch zz_prog 136 1 = some (.iload_n 1, 1, [], []) := zz_fetch_of p136 rfl rfl
theorem s136_1 : zz_Run zz_prog d 136 (1, [l0, some (.int v), l2, l3, l4], st, k, h) = zz_Run zz_prog d 136 (2, [l0, some (.int v), l2, l3, l4], .int v :: st, k, h) := zz_k_num f136_1 rfl
theorem f136_2 : zz_fetch zz_prog 136 2 = some (.invokevirtual 191, 3, [0, 127, 2, 2], []) := zz_fetch_of p136 rfl rfl
theorem s136_2 : zz_Run zz_prog d 136 (2, [l0, l1, l2, l3, l4], [b0, .ref 23], k, (zz_hp n I J ex)) = zz_ret (zz_Call zz_prog d 127 [.ref 23, b0] (zz_hp n I J ex)) (fun v k' h' => zz_Run zz_prog d 136 (5, [l0, l1, l2, l3, l4], v.toList ++ [], k && k', h')) (fun a k' h' => zz_th d 136 2 a [l0, l1, l2, l3, l4] (k && k') h') := zz_k_call f136_2 rfl rfl rfl
theorem f136_5 : zz_fetch zz_prog 136 5 = some (.ifCond .eq 43, 3, [48], []) := zz_fetch_of p136 rfl rfl
theorem s136_5 : zz_Run zz_prog d 136 (5, [l0, l1, l2, l3, l4], .int v :: st, k, h) = if v = 0 then zz_Run zz_prog d 136 (48, [l0, l1, l2, l3, l4], st, k, h) else zz_Run zz_prog d 136 (8, [l0, l1, l2, l3, l4], st, k, h) := zz_k_br (v = 0) rfl (zz_k_num f136_5 rfl)
theorem f136_8 : zz_fetch zz_prog 136 8 = some (.iload_n 1, 1, [], []) := zz_fetch_of p136 rfl rfl
theorem s136_8 : zz_Run zz_prog d 136 (8, [l0, some (.int v), l2, l3, l4], st, k, h) = zz_Run zz_prog d 136 (9, [l0, some (.int v), l2, l3, l4], .int v :: st, k, h) := zz_k_num f136_8 rfl
theorem f136_9 : zz_fetch zz_prog 136 9 = some (.aload_n 0, 1, [], []) := zz_fetch_of p136 rfl rfl
theorem s136_9 : zz_Run zz_prog d 136 (9, [some (.ref a), l1, l2, l3, l4], st, k, h) = zz_Run zz_prog d 136 (10, [some (.ref a), l1, l2, l3, l4], .ref a :: st, k, h) := zz_k_num f136_9 rfl
theorem f136_10 : zz_fetch zz_prog 136 10 = some (.getfield 7, 3, [2, 1, 3], []) := zz_fetch_of p136 rfl rfl
theorem s136_10 : zz_Run zz_prog d 136 (10, [l0, l1, l2, l3, l4], .ref 23 :: st, k, (zz_hp n I J ex)) = zz_Run zz_prog d 136 (13, [l0, l1, l2, l3, l4], .ref 24 :: st, k, (zz_hp n I J ex)) := zz_k_go f136_10 rfl rfl rfl
theorem f136_13 : zz_fetch zz_prog 136 13 = some (.sipush 181, 3, [], []) := zz_fetch_of p136 rfl rfl
theorem s136_13 : zz_Run zz_prog d 136 (13, [l0, l1, l2, l3, l4], st, k, h) = zz_Run zz_prog d 136 (16, [l0, l1, l2, l3, l4], .int 181 :: st, k, h) := zz_k_num f136_13 (congrArg (fun u => some (16, [l0, l1, l2, l3, l4], Value.int u :: st)) (by decide : (Int16.ofInt 181).toInt32 = 181))
theorem f136_16 : zz_fetch zz_prog 136 16 = some (.iaload, 1, [], []) := zz_fetch_of p136 rfl rfl
theorem s136_16 (ha : zz_isrd a = true) : zz_Run zz_prog d 136 (16, [l0, l1, l2, l3, l4], .int v :: .ref a :: st, k, (zz_hp n I J ex)) = zz_ck (zz_in v (zz_ary n a)) (zz_Run zz_prog d 136 (17, [l0, l1, l2, l3, l4], .int (I a v.toNatClampNeg) :: st, k, (zz_hp n I J ex))) := zz_k_iald f136_16 ha
theorem f136_17 : zz_fetch zz_prog 136 17 = some (.if_icmp .eq 31, 3, [48], []) := zz_fetch_of p136 rfl rfl
theorem s136_17 : zz_Run zz_prog d 136 (17, [l0, l1, l2, l3, l4], .int w :: .int v :: st, k, h) = if v = w then zz_Run zz_prog d 136 (48, [l0, l1, l2, l3, l4], st, k, h) else zz_Run zz_prog d 136 (20, [l0, l1, l2, l3, l4], st, k, h) := zz_k_br (v = w) rfl (zz_k_num f136_17 rfl)
theorem f136_20 : zz_fetch zz_prog 136 20 = some (.iload_n 2, 1, [], []) := zz_fetch_of p136 rfl rfl
theorem s136_20 : zz_Run zz_prog d 136 (20, [l0, l1, some (.int v), l3, l4], st, k, h) = zz_Run zz_prog d 136 (21, [l0, l1, some (.int v), l3, l4], .int v :: st, k, h) := zz_k_num f136_20 rfl
theorem f136_21 : zz_fetch zz_prog 136 21 = some (.ifCond .lt 27, 3, [48], []) := zz_fetch_of p136 rfl rfl
theorem s136_21 : zz_Run zz_prog d 136 (21, [l0, l1, l2, l3, l4], .int v :: st, k, h) = if v < 0 then zz_Run zz_prog d 136 (48, [l0, l1, l2, l3, l4], st, k, h) else zz_Run zz_prog d 136 (24, [l0, l1, l2, l3, l4], st, k, h) := zz_k_br (v < 0) rfl (zz_k_num f136_21 rfl)
theorem f136_24 : zz_fetch zz_prog 136 24 = some (.iload_n 2, 1, [], []) := zz_fetch_of p136 rfl rfl
theorem s136_24 : zz_Run zz_prog d 136 (24, [l0, l1, some (.int v), l3, l4], st, k, h) = zz_Run zz_prog d 136 (25, [l0, l1, some (.int v), l3, l4], .int v :: st, k, h) := zz_k_num f136_24 rfl
theorem f136_25 : zz_fetch zz_prog 136 25 = some (.ldc 206, 2, [], [(1048575, 0)]) := zz_fetch_of p136 rfl rfl
theorem s136_25 : zz_Run zz_prog d 136 (25, [l0, l1, l2, l3, l4], st, k, h) = zz_Run zz_prog d 136 (27, [l0, l1, l2, l3, l4], .int 1048575 :: st, k, h) := zz_k_go f136_25 rfl rfl rfl
theorem f136_27 : zz_fetch zz_prog 136 27 = some (.if_icmp .gt 21, 3, [48], []) := zz_fetch_of p136 rfl rfl
theorem s136_27 : zz_Run zz_prog d 136 (27, [l0, l1, l2, l3, l4], .int w :: .int v :: st, k, h) = if w < v then zz_Run zz_prog d 136 (48, [l0, l1, l2, l3, l4], st, k, h) else zz_Run zz_prog d 136 (30, [l0, l1, l2, l3, l4], st, k, h) := zz_k_br (w < v) rfl (zz_k_num f136_27 rfl)
theorem f136_30 : zz_fetch zz_prog 136 30 = some (.iload_n 3, 1, [], []) := zz_fetch_of p136 rfl rfl
theorem s136_30 : zz_Run zz_prog d 136 (30, [l0, l1, l2, some (.int v), l4], st, k, h) = zz_Run zz_prog d 136 (31, [l0, l1, l2, some (.int v), l4], .int v :: st, k, h) := zz_k_num f136_30 rfl
theorem f136_31 : zz_fetch zz_prog 136 31 = some (.ifCond .lt 17, 3, [48], []) := zz_fetch_of p136 rfl rfl
theorem s136_31 : zz_Run zz_prog d 136 (31, [l0, l1, l2, l3, l4], .int v :: st, k, h) = if v < 0 then zz_Run zz_prog d 136 (48, [l0, l1, l2, l3, l4], st, k, h) else zz_Run zz_prog d 136 (34, [l0, l1, l2, l3, l4], st, k, h) := zz_k_br (v < 0) rfl (zz_k_num f136_31 rfl)
theorem f136_34 : zz_fetch zz_prog 136 34 = some (.iload_n 3, 1, [], []) := zz_fetch_of p136 rfl rfl
theorem s136_34 : zz_Run zz_prog d 136 (34, [l0, l1, l2, some (.int v), l4], st, k, h) = zz_Run zz_prog d 136 (35, [l0, l1, l2, some (.int v), l4], .int v :: st, k, h) := zz_k_num f136_34 rfl
theorem f136_35 : zz_fetch zz_prog 136 35 = some (.ldc 206, 2, [], [(1048575, 0)]) := zz_fetch_of p136 rfl rfl
theorem s136_35 : zz_Run zz_prog d 136 (35, [l0, l1, l2, l3, l4], st, k, h) = zz_Run zz_prog d 136 (37, [l0, l1, l2, l3, l4], .int 1048575 :: st, k, h) := zz_k_go f136_35 rfl rfl rfl
theorem f136_37 : zz_fetch zz_prog 136 37 = some (.if_icmp .gt 11, 3, [48], []) := zz_fetch_of p136 rfl rfl
theorem s136_37 : zz_Run zz_prog d 136 (37, [l0, l1, l2, l3, l4], .int w :: .int v :: st, k, h) = if w < v then zz_Run zz_prog d 136 (48, [l0, l1, l2, l3, l4], st, k, h) else zz_Run zz_prog d 136 (40, [l0, l1, l2, l3, l4], st, k, h) := zz_k_br (w < v) rfl (zz_k_num f136_37 rfl)
theorem f136_40 : zz_fetch zz_prog 136 40 = some (.iload_n 2, 1, [], []) := zz_fetch_of p136 rfl rfl
theorem s136_40 : zz_Run zz_prog d 136 (40, [l0, l1, some (.int v), l3, l4], st, k, h) = zz_Run zz_prog d 136 (41, [l0, l1, some (.int v), l3, l4], .int v :: st, k, h) := zz_k_num f136_40 rfl
theorem f136_41 : zz_fetch zz_prog 136 41 = some (.ifCond .ne 11, 3, [52], []) := zz_fetch_of p136 rfl rfl
theorem s136_41 : zz_Run zz_prog d 136 (41, [l0, l1, l2, l3, l4], .int v :: st, k, h) = if ¬ v = 0 then zz_Run zz_prog d 136 (52, [l0, l1, l2, l3, l4], st, k, h) else zz_Run zz_prog d 136 (44, [l0, l1, l2, l3, l4], st, k, h) := zz_k_br (¬ v = 0) rfl (zz_k_num f136_41 rfl)
theorem f136_44 : zz_fetch zz_prog 136 44 = some (.iload_n 3, 1, [], []) := zz_fetch_of p136 rfl rfl
theorem s136_44 : zz_Run zz_prog d 136 (44, [l0, l1, l2, some (.int v), l4], st, k, h) = zz_Run zz_prog d 136 (45, [l0, l1, l2, some (.int v), l4], .int v :: st, k, h) := zz_k_num f136_44 rfl
theorem f136_45 : zz_fetch zz_prog 136 45 = some (.ifCond .ne 7, 3, [52], []) := zz_fetch_of p136 rfl rfl
theorem s136_45 : zz_Run zz_prog d 136 (45, [l0, l1, l2, l3, l4], .int v :: st, k, h) = if ¬ v = 0 then zz_Run zz_prog d 136 (52, [l0, l1, l2, l3, l4], st, k, h) else zz_Run zz_prog d 136 (48, [l0, l1, l2, l3, l4], st, k, h) := zz_k_br (¬ v = 0) rfl (zz_k_num f136_45 rfl)
theorem f136_48 : zz_fetch zz_prog 136 48 = some (.iconst 1, 1, [], []) := zz_fetch_of p136 rfl rfl
theorem s136_48 : zz_Run zz_prog d 136 (48, [l0, l1, l2, l3, l4], st, k, h) = zz_Run zz_prog d 136 (49, [l0, l1, l2, l3, l4], .int 1 :: st, k, h) := zz_k_num f136_48 rfl
theorem f136_49 : zz_fetch zz_prog 136 49 = some (.goto 4, 3, [53], []) := zz_fetch_of p136 rfl rfl
theorem s136_49 : zz_Run zz_prog d 136 (49, [l0, l1, l2, l3, l4], st, k, h) = zz_Run zz_prog d 136 (53, [l0, l1, l2, l3, l4], st, k, h) := zz_k_num f136_49 rfl
theorem f136_52 : zz_fetch zz_prog 136 52 = some (.iconst 0, 1, [], []) := zz_fetch_of p136 rfl rfl
theorem s136_52 : zz_Run zz_prog d 136 (52, [l0, l1, l2, l3, l4], st, k, h) = zz_Run zz_prog d 136 (53, [l0, l1, l2, l3, l4], .int 0 :: st, k, h) := zz_k_num f136_52 rfl
theorem f136_53 : zz_fetch zz_prog 136 53 = some (.istore 4, 2, [], []) := zz_fetch_of p136 rfl rfl
theorem s136_53 : zz_Run zz_prog d 136 (53, [l0, l1, l2, l3, l4], .int v :: st, k, h) = zz_sl l3 (zz_Run zz_prog d 136 (55, [l0, l1, l2, l3, some (.int v)], st, k, h)) := zz_k_st (j := 4) (u := .int v) f136_53 rfl (fun q hq => by cases hq) rfl (show 4 < 5 by decide) (by cases l3 <;> rfl) rfl
theorem f136_55 : zz_fetch zz_prog 136 55 = some (.aload_n 0, 1, [], []) := zz_fetch_of p136 rfl rfl
theorem s136_55 : zz_Run zz_prog d 136 (55, [some (.ref a), l1, l2, l3, l4], st, k, h) = zz_Run zz_prog d 136 (56, [some (.ref a), l1, l2, l3, l4], .ref a :: st, k, h) := zz_k_num f136_55 rfl
theorem f136_56 : zz_fetch zz_prog 136 56 = some (.iload 4, 2, [], []) := zz_fetch_of p136 rfl rfl
theorem s136_56 : zz_Run zz_prog d 136 (56, [l0, l1, l2, l3, some (.int v)], st, k, h) = zz_Run zz_prog d 136 (58, [l0, l1, l2, l3, some (.int v)], .int v :: st, k, h) := zz_k_num f136_56 rfl
theorem f136_58 : zz_fetch zz_prog 136 58 = some (.iload 4, 2, [], []) := zz_fetch_of p136 rfl rfl
theorem s136_58 : zz_Run zz_prog d 136 (58, [l0, l1, l2, l3, some (.int v)], st, k, h) = zz_Run zz_prog d 136 (60, [l0, l1, l2, l3, some (.int v)], .int v :: st, k, h) := zz_k_num f136_58 rfl
theorem f136_60 : zz_fetch zz_prog 136 60 = some (.ifCond .ne 32, 3, [92], []) := zz_fetch_of p136 rfl rfl
theorem s136_60 : zz_Run zz_prog d 136 (60, [l0, l1, l2, l3, l4], .int v :: st, k, h) = if ¬ v = 0 then zz_Run zz_prog d 136 (92, [l0, l1, l2, l3, l4], st, k, h) else zz_Run zz_prog d 136 (63, [l0, l1, l2, l3, l4], st, k, h) := zz_k_br (¬ v = 0) rfl (zz_k_num f136_60 rfl)
theorem f136_63 : zz_fetch zz_prog 136 63 = some (.aload_n 0, 1, [], []) := zz_fetch_of p136 rfl rfl
theorem s136_63 : zz_Run zz_prog d 136 (63, [some (.ref a), l1, l2, l3, l4], st, k, h) = zz_Run zz_prog d 136 (64, [some (.ref a), l1, l2, l3, l4], .ref a :: st, k, h) := zz_k_num f136_63 rfl
theorem f136_64 : zz_fetch zz_prog 136 64 = some (.getfield 7, 3, [2, 1, 3], []) := zz_fetch_of p136 rfl rfl
theorem s136_64 : zz_Run zz_prog d 136 (64, [l0, l1, l2, l3, l4], .ref 23 :: st, k, (zz_hp n I J ex)) = zz_Run zz_prog d 136 (67, [l0, l1, l2, l3, l4], .ref 24 :: st, k, (zz_hp n I J ex)) := zz_k_go f136_64 rfl rfl rfl
theorem f136_67 : zz_fetch zz_prog 136 67 = some (.sipush 180, 3, [], []) := zz_fetch_of p136 rfl rfl
theorem s136_67 : zz_Run zz_prog d 136 (67, [l0, l1, l2, l3, l4], st, k, h) = zz_Run zz_prog d 136 (70, [l0, l1, l2, l3, l4], .int 180 :: st, k, h) := zz_k_num f136_67 (congrArg (fun u => some (70, [l0, l1, l2, l3, l4], Value.int u :: st)) (by decide : (Int16.ofInt 180).toInt32 = 180))
theorem f136_70 : zz_fetch zz_prog 136 70 = some (.iaload, 1, [], []) := zz_fetch_of p136 rfl rfl
theorem s136_70 (ha : zz_isrd a = true) : zz_Run zz_prog d 136 (70, [l0, l1, l2, l3, l4], .int v :: .ref a :: st, k, (zz_hp n I J ex)) = zz_ck (zz_in v (zz_ary n a)) (zz_Run zz_prog d 136 (71, [l0, l1, l2, l3, l4], .int (I a v.toNatClampNeg) :: st, k, (zz_hp n I J ex))) := zz_k_iald f136_70 ha
theorem f136_71 : zz_fetch zz_prog 136 71 = some (.bipush 6, 2, [], []) := zz_fetch_of p136 rfl rfl
theorem s136_71 : zz_Run zz_prog d 136 (71, [l0, l1, l2, l3, l4], st, k, h) = zz_Run zz_prog d 136 (73, [l0, l1, l2, l3, l4], .int 6 :: st, k, h) := zz_k_num f136_71 (congrArg (fun u => some (73, [l0, l1, l2, l3, l4], Value.int u :: st)) (by decide : (Int8.ofInt 6).toInt32 = 6))
theorem f136_73 : zz_fetch zz_prog 136 73 = some (.if_icmp .ne 19, 3, [92], []) := zz_fetch_of p136 rfl rfl
theorem s136_73 : zz_Run zz_prog d 136 (73, [l0, l1, l2, l3, l4], .int w :: .int v :: st, k, h) = if ¬ v = w then zz_Run zz_prog d 136 (92, [l0, l1, l2, l3, l4], st, k, h) else zz_Run zz_prog d 136 (76, [l0, l1, l2, l3, l4], st, k, h) := zz_k_br (¬ v = w) rfl (zz_k_num f136_73 rfl)
theorem f136_76 : zz_fetch zz_prog 136 76 = some (.aload_n 0, 1, [], []) := zz_fetch_of p136 rfl rfl
theorem s136_76 : zz_Run zz_prog d 136 (76, [some (.ref a), l1, l2, l3, l4], st, k, h) = zz_Run zz_prog d 136 (77, [some (.ref a), l1, l2, l3, l4], .ref a :: st, k, h) := zz_k_num f136_76 rfl
theorem f136_77 : zz_fetch zz_prog 136 77 = some (.aload_n 0, 1, [], []) := zz_fetch_of p136 rfl rfl
theorem s136_77 : zz_Run zz_prog d 136 (77, [some (.ref a), l1, l2, l3, l4], st, k, h) = zz_Run zz_prog d 136 (78, [some (.ref a), l1, l2, l3, l4], .ref a :: st, k, h) := zz_k_num f136_77 rfl
theorem f136_78 : zz_fetch zz_prog 136 78 = some (.getfield 7, 3, [2, 1, 3], []) := zz_fetch_of p136 rfl rfl
theorem s136_78 : zz_Run zz_prog d 136 (78, [l0, l1, l2, l3, l4], .ref 23 :: st, k, (zz_hp n I J ex)) = zz_Run zz_prog d 136 (81, [l0, l1, l2, l3, l4], .ref 24 :: st, k, (zz_hp n I J ex)) := zz_k_go f136_78 rfl rfl rfl
theorem f136_81 : zz_fetch zz_prog 136 81 = some (.sipush 181, 3, [], []) := zz_fetch_of p136 rfl rfl
theorem s136_81 : zz_Run zz_prog d 136 (81, [l0, l1, l2, l3, l4], st, k, h) = zz_Run zz_prog d 136 (84, [l0, l1, l2, l3, l4], .int 181 :: st, k, h) := zz_k_num f136_81 (congrArg (fun u => some (84, [l0, l1, l2, l3, l4], Value.int u :: st)) (by decide : (Int16.ofInt 181).toInt32 = 181))
theorem f136_84 : zz_fetch zz_prog 136 84 = some (.iaload, 1, [], []) := zz_fetch_of p136 rfl rfl
theorem s136_84 (ha : zz_isrd a = true) : zz_Run zz_prog d 136 (84, [l0, l1, l2, l3, l4], .int v :: .ref a :: st, k, (zz_hp n I J ex)) = zz_ck (zz_in v (zz_ary n a)) (zz_Run zz_prog d 136 (85, [l0, l1, l2, l3, l4], .int (I a v.toNatClampNeg) :: st, k, (zz_hp n I J ex))) := zz_k_iald f136_84 ha
theorem f136_85 : zz_fetch zz_prog 136 85 = some (.iload_n 2, 1, [], []) := zz_fetch_of p136 rfl rfl
theorem s136_85 : zz_Run zz_prog d 136 (85, [l0, l1, some (.int v), l3, l4], st, k, h) = zz_Run zz_prog d 136 (86, [l0, l1, some (.int v), l3, l4], .int v :: st, k, h) := zz_k_num f136_85 rfl
theorem f136_86 : zz_fetch zz_prog 136 86 = some (.invokevirtual 207, 3, [0, 135, 3, 2], []) := zz_fetch_of p136 rfl rfl
theorem s136_86 : zz_Run zz_prog d 136 (86, [l0, l1, l2, l3, l4], [b0, b1, .ref 23, b3, b4], k, (zz_hp n I J ex)) = zz_ret (zz_Call zz_prog d 135 [.ref 23, b1, b0] (zz_hp n I J ex)) (fun v k' h' => zz_Run zz_prog d 136 (89, [l0, l1, l2, l3, l4], v.toList ++ [b3, b4], k && k', h')) (fun a k' h' => zz_th d 136 86 a [l0, l1, l2, l3, l4] (k && k') h') := zz_k_call f136_86 rfl rfl rfl
theorem f136_89 : zz_fetch zz_prog 136 89 = some (.ifCond .ne 7, 3, [96], []) := zz_fetch_of p136 rfl rfl
theorem s136_89 : zz_Run zz_prog d 136 (89, [l0, l1, l2, l3, l4], .int v :: st, k, h) = if ¬ v = 0 then zz_Run zz_prog d 136 (96, [l0, l1, l2, l3, l4], st, k, h) else zz_Run zz_prog d 136 (92, [l0, l1, l2, l3, l4], st, k, h) := zz_k_br (¬ v = 0) rfl (zz_k_num f136_89 rfl)
theorem f136_92 : zz_fetch zz_prog 136 92 = some (.iconst 1, 1, [], []) := zz_fetch_of p136 rfl rfl
theorem s136_92 : zz_Run zz_prog d 136 (92, [l0, l1, l2, l3, l4], st, k, h) = zz_Run zz_prog d 136 (93, [l0, l1, l2, l3, l4], .int 1 :: st, k, h) := zz_k_num f136_92 rfl
theorem f136_93 : zz_fetch zz_prog 136 93 = some (.goto 4, 3, [97], []) := zz_fetch_of p136 rfl rfl
theorem s136_93 : zz_Run zz_prog d 136 (93, [l0, l1, l2, l3, l4], st, k, h) = zz_Run zz_prog d 136 (97, [l0, l1, l2, l3, l4], st, k, h) := zz_k_num f136_93 rfl
theorem f136_96 : zz_fetch zz_prog 136 96 = some (.iconst 0, 1, [], []) := zz_fetch_of p136 rfl rfl
theorem s136_96 : zz_Run zz_prog d 136 (96, [l0, l1, l2, l3, l4], st, k, h) = zz_Run zz_prog d 136 (97, [l0, l1, l2, l3, l4], .int 0 :: st, k, h) := zz_k_num f136_96 rfl
theorem f136_97 : zz_fetch zz_prog 136 97 = some (.iconst 0, 1, [], []) := zz_fetch_of p136 rfl rfl
theorem s136_97 : zz_Run zz_prog d 136 (97, [l0, l1, l2, l3, l4], st, k, h) = zz_Run zz_prog d 136 (98, [l0, l1, l2, l3, l4], .int 0 :: st, k, h) := zz_k_num f136_97 rfl
theorem f136_98 : zz_fetch zz_prog 136 98 = some (.invokevirtual 89, 3, [0, 95, 4, 2], []) := zz_fetch_of p136 rfl rfl
theorem s136_98 : zz_Run zz_prog d 136 (98, [l0, l1, l2, l3, l4], [b0, b1, b2, .ref 23], k, (zz_hp n I J ex)) = zz_ret (zz_Call zz_prog d 95 [.ref 23, b2, b1, b0] (zz_hp n I J ex)) (fun v k' h' => zz_Run zz_prog d 136 (101, [l0, l1, l2, l3, l4], v.toList ++ [], k && k', h')) (fun a k' h' => zz_th d 136 98 a [l0, l1, l2, l3, l4] (k && k') h') := zz_k_call f136_98 rfl rfl rfl
theorem f136_101 : zz_fetch zz_prog 136 101 = some (.ifCond .eq 4, 3, [105], []) := zz_fetch_of p136 rfl rfl
theorem s136_101 : zz_Run zz_prog d 136 (101, [l0, l1, l2, l3, l4], .int v :: st, k, h) = if v = 0 then zz_Run zz_prog d 136 (105, [l0, l1, l2, l3, l4], st, k, h) else zz_Run zz_prog d 136 (104, [l0, l1, l2, l3, l4], st, k, h) := zz_k_br (v = 0) rfl (zz_k_num f136_101 rfl)
theorem f136_104 : zz_fetch zz_prog 136 104 = some (.return_, 1, [], []) := zz_fetch_of p136 rfl rfl
theorem s136_104 : zz_Run zz_prog d 136 (104, [l0, l1, l2, l3, l4], [], k, h) = some (.inl none, k, h) := zz_k_stop f136_104 rfl rfl rfl
theorem f136_105 : zz_fetch zz_prog 136 105 = some (.aload_n 0, 1, [], []) := zz_fetch_of p136 rfl rfl
theorem s136_105 : zz_Run zz_prog d 136 (105, [some (.ref a), l1, l2, l3, l4], st, k, h) = zz_Run zz_prog d 136 (106, [some (.ref a), l1, l2, l3, l4], .ref a :: st, k, h) := zz_k_num f136_105 rfl
theorem f136_106 : zz_fetch zz_prog 136 106 = some (.invokevirtual 158, 3, [0, 117, 1, 2], []) := zz_fetch_of p136 rfl rfl
theorem s136_106 : zz_Run zz_prog d 136 (106, [l0, l1, l2, l3, l4], [.ref 23], k, (zz_hp n I J ex)) = zz_ret (zz_Call zz_prog d 117 [.ref 23] (zz_hp n I J ex)) (fun v k' h' => zz_Run zz_prog d 136 (109, [l0, l1, l2, l3, l4], v.toList ++ [], k && k', h')) (fun a k' h' => zz_th d 136 106 a [l0, l1, l2, l3, l4] (k && k') h') := zz_k_call f136_106 rfl rfl rfl
theorem f136_109 : zz_fetch zz_prog 136 109 = some (.aload_n 0, 1, [], []) := zz_fetch_of p136 rfl rfl
theorem s136_109 : zz_Run zz_prog d 136 (109, [some (.ref a), l1, l2, l3, l4], st, k, h) = zz_Run zz_prog d 136 (110, [some (.ref a), l1, l2, l3, l4], .ref a :: st, k, h) := zz_k_num f136_109 rfl
theorem f136_110 : zz_fetch zz_prog 136 110 = some (.getfield 7, 3, [2, 1, 3], []) := zz_fetch_of p136 rfl rfl
theorem s136_110 : zz_Run zz_prog d 136 (110, [l0, l1, l2, l3, l4], .ref 23 :: st, k, (zz_hp n I J ex)) = zz_Run zz_prog d 136 (113, [l0, l1, l2, l3, l4], .ref 24 :: st, k, (zz_hp n I J ex)) := zz_k_go f136_110 rfl rfl rfl
theorem f136_113 : zz_fetch zz_prog 136 113 = some (.sipush 186, 3, [], []) := zz_fetch_of p136 rfl rfl
theorem s136_113 : zz_Run zz_prog d 136 (113, [l0, l1, l2, l3, l4], st, k, h) = zz_Run zz_prog d 136 (116, [l0, l1, l2, l3, l4], .int 186 :: st, k, h) := zz_k_num f136_113 (congrArg (fun u => some (116, [l0, l1, l2, l3, l4], Value.int u :: st)) (by decide : (Int16.ofInt 186).toInt32 = 186))
theorem f136_116 : zz_fetch zz_prog 136 116 = some (.iload_n 1, 1, [], []) := zz_fetch_of p136 rfl rfl
theorem s136_116 : zz_Run zz_prog d 136 (116, [l0, some (.int v), l2, l3, l4], st, k, h) = zz_Run zz_prog d 136 (117, [l0, some (.int v), l2, l3, l4], .int v :: st, k, h) := zz_k_num f136_116 rfl
theorem f136_117 : zz_fetch zz_prog 136 117 = some (.iastore, 1, [], []) := zz_fetch_of p136 rfl rfl
theorem s136_117 (ha : zz_isar a = true) : zz_Run zz_prog d 136 (117, [l0, l1, l2, l3, l4], .int w :: .int v :: .ref a :: st, k, (zz_hp n I J ex)) = zz_ck (zz_in v (zz_ary n a)) (zz_Run zz_prog d 136 (118, [l0, l1, l2, l3, l4], st, false, (zz_hp n (zz_up I a v.toNatClampNeg w) J ex))) := zz_k_iast f136_117 ha
theorem f136_118 : zz_fetch zz_prog 136 118 = some (.aload_n 0, 1, [], []) := zz_fetch_of p136 rfl rfl
theorem s136_118 : zz_Run zz_prog d 136 (118, [some (.ref a), l1, l2, l3, l4], st, k, h) = zz_Run zz_prog d 136 (119, [some (.ref a), l1, l2, l3, l4], .ref a :: st, k, h) := zz_k_num f136_118 rfl
theorem f136_119 : zz_fetch zz_prog 136 119 = some (.getfield 7, 3, [2, 1, 3], []) := zz_fetch_of p136 rfl rfl
theorem s136_119 : zz_Run zz_prog d 136 (119, [l0, l1, l2, l3, l4], .ref 23 :: st, k, (zz_hp n I J ex)) = zz_Run zz_prog d 136 (122, [l0, l1, l2, l3, l4], .ref 24 :: st, k, (zz_hp n I J ex)) := zz_k_go f136_119 rfl rfl rfl
theorem f136_122 : zz_fetch zz_prog 136 122 = some (.sipush 187, 3, [], []) := zz_fetch_of p136 rfl rfl
theorem s136_122 : zz_Run zz_prog d 136 (122, [l0, l1, l2, l3, l4], st, k, h) = zz_Run zz_prog d 136 (125, [l0, l1, l2, l3, l4], .int 187 :: st, k, h) := zz_k_num f136_122 (congrArg (fun u => some (125, [l0, l1, l2, l3, l4], Value.int u :: st)) (by decide : (Int16.ofInt 187).toInt32 = 187))
theorem f136_125 : zz_fetch zz_prog 136 125 = some (.iload_n 2, 1, [], []) := zz_fetch_of p136 rfl rfl
theorem s136_125 : zz_Run zz_prog d 136 (125, [l0, l1, some (.int v), l3, l4], st, k, h) = zz_Run zz_prog d 136 (126, [l0, l1, some (.int v), l3, l4], .int v :: st, k, h) := zz_k_num f136_125 rfl
theorem f136_126 : zz_fetch zz_prog 136 126 = some (.iastore, 1, [], []) := zz_fetch_of p136 rfl rfl
theorem s136_126 (ha : zz_isar a = true) : zz_Run zz_prog d 136 (126, [l0, l1, l2, l3, l4], .int w :: .int v :: .ref a :: st, k, (zz_hp n I J ex)) = zz_ck (zz_in v (zz_ary n a)) (zz_Run zz_prog d 136 (127, [l0, l1, l2, l3, l4], st, false, (zz_hp n (zz_up I a v.toNatClampNeg w) J ex))) := zz_k_iast f136_126 ha
theorem f136_127 : zz_fetch zz_prog 136 127 = some (.aload_n 0, 1, [], []) := zz_fetch_of p136 rfl rfl
theorem s136_127 : zz_Run zz_prog d 136 (127, [some (.ref a), l1, l2, l3, l4], st, k, h) = zz_Run zz_prog d 136 (128, [some (.ref a), l1, l2, l3, l4], .ref a :: st, k, h) := zz_k_num f136_127 rfl
theorem f136_128 : zz_fetch zz_prog 136 128 = some (.getfield 7, 3, [2, 1, 3], []) := zz_fetch_of p136 rfl rfl
theorem s136_128 : zz_Run zz_prog d 136 (128, [l0, l1, l2, l3, l4], .ref 23 :: st, k, (zz_hp n I J ex)) = zz_Run zz_prog d 136 (131, [l0, l1, l2, l3, l4], .ref 24 :: st, k, (zz_hp n I J ex)) := zz_k_go f136_128 rfl rfl rfl
theorem f136_131 : zz_fetch zz_prog 136 131 = some (.sipush 188, 3, [], []) := zz_fetch_of p136 rfl rfl
theorem s136_131 : zz_Run zz_prog d 136 (131, [l0, l1, l2, l3, l4], st, k, h) = zz_Run zz_prog d 136 (134, [l0, l1, l2, l3, l4], .int 188 :: st, k, h) := zz_k_num f136_131 (congrArg (fun u => some (134, [l0, l1, l2, l3, l4], Value.int u :: st)) (by decide : (Int16.ofInt 188).toInt32 = 188))
theorem f136_134 : zz_fetch zz_prog 136 134 = some (.iload_n 3, 1, [], []) := zz_fetch_of p136 rfl rfl
theorem s136_134 : zz_Run zz_prog d 136 (134, [l0, l1, l2, some (.int v), l4], st, k, h) = zz_Run zz_prog d 136 (135, [l0, l1, l2, some (.int v), l4], .int v :: st, k, h) := zz_k_num f136_134 rfl
theorem f136_135 : zz_fetch zz_prog 136 135 = some (.iastore, 1, [], []) := zz_fetch_of p136 rfl rfl
theorem s136_135 (ha : zz_isar a = true) : zz_Run zz_prog d 136 (135, [l0, l1, l2, l3, l4], .int w :: .int v :: .ref a :: st, k, (zz_hp n I J ex)) = zz_ck (zz_in v (zz_ary n a)) (zz_Run zz_prog d 136 (136, [l0, l1, l2, l3, l4], st, false, (zz_hp n (zz_up I a v.toNatClampNeg w) J ex))) := zz_k_iast f136_135 ha
theorem f136_136 : zz_fetch zz_prog 136 136 = some (.aload_n 0, 1, [], []) := zz_fetch_of p136 rfl rfl
theorem s136_136 : zz_Run zz_prog d 136 (136, [some (.ref a), l1, l2, l3, l4], st, k, h) = zz_Run zz_prog d 136 (137, [some (.ref a), l1, l2, l3, l4], .ref a :: st, k, h) := zz_k_num f136_136 rfl
theorem f136_137 : zz_fetch zz_prog 136 137 = some (.invokevirtual 175, 3, [0, 116, 1, 2], []) := zz_fetch_of p136 rfl rfl
theorem s136_137 : zz_Run zz_prog d 136 (137, [l0, l1, l2, l3, l4], [.ref 23], k, (zz_hp n I J ex)) = zz_ret (zz_Call zz_prog d 116 [.ref 23] (zz_hp n I J ex)) (fun v k' h' => zz_Run zz_prog d 136 (140, [l0, l1, l2, l3, l4], v.toList ++ [], k && k', h')) (fun a k' h' => zz_th d 136 137 a [l0, l1, l2, l3, l4] (k && k') h') := zz_k_call f136_137 rfl rfl rfl
theorem f136_140 : zz_fetch zz_prog 136 140 = some (.return_, 1, [], []) := zz_fetch_of p136 rfl rfl
theorem s136_140 : zz_Run zz_prog d 136 (140, [l0, l1, l2, l3, l4], [], k, h) = some (.inl none, k, h) := zz_k_stop f136_140 rfl rfl rfl
end S136
section S137
variable {d n j : Nat} {l0 l1 l2 l3 l4 l5 l6 l7 : Option Value} {st : List Value} {k : Bool} {h : zz_H} {v w v1 v2 : Int32} {y y1 : Int64} {a a1 a2 : Nat} {b0 b1 b2 b3 b4 b5 b6 b7 b8 : Value} {I : Nat → Nat → Int32} {J : Nat → Nat → Int64} {ex : List (Nat × Nat)}
theorem p137 : zz_prog 137 = some zz_m137 := rfl
theorem e137 (g0 : Nat) : zz_Call zz_prog (d + 1) 137 [.ref g0] h = zz_Run zz_prog d 137 (0, [some (.ref g0), none, none, none, none, none, none, none], [], true, h) := rfl
theorem t137 (pc : Nat) (L : List (Option Value)) : zz_th d 137 pc a L k h = some (.inr a, k, h) := zz_th_out p137 rfl
theorem f137_0 : zz_fetch zz_prog 137 0 = some (.aload_n 0, 1, [], []) := zz_fetch_of p137 rfl rfl
theorem s137_0 : zz_Run zz_prog d 137 (0, [some (.ref a), l1, l2, l3, l4, l5, l6, l7], st, k, h) = zz_Run zz_prog d 137 (1, [some (.ref a), l1, l2, l3, l4, l5, l6, l7], .ref a :: st, k, h) := zz_k_num f137_0 rfl
theorem f137_1 : zz_fetch zz_prog 137 1 = some (.getfield 7, 3, [2, 1, 3], []) := zz_fetch_of p137 rfl rfl
theorem s137_1 : zz_Run zz_prog d 137 (1, [l0, l1, l2, l3, l4, l5, l6, l7], .ref 23 :: st, k, (zz_hp n I J ex)) = zz_Run zz_prog d 137 (4, [l0, l1, l2, l3, l4, l5, l6, l7], .ref 24 :: st, k, (zz_hp n I J ex)) := zz_k_go f137_1 rfl rfl rfl
theorem f137_4 : zz_fetch zz_prog 137 4 = some (.sipush 180, 3, [], []) := zz_fetch_of p137 rfl rfl
theorem s137_4 : zz_Run zz_prog d 137 (4, [l0, l1, l2, l3, l4, l5, l6, l7], st, k, h) = zz_Run zz_prog d 137 (7, [l0, l1, l2, l3, l4, l5, l6, l7], .int 180 :: st, k, h) := zz_k_num f137_4 (congrArg (fun u => some (7, [l0, l1, l2, l3, l4, l5, l6, l7], Value.int u :: st)) (by decide : (Int16.ofInt 180).toInt32 = 180))
theorem f137_7 : zz_fetch zz_prog 137 7 = some (.iaload, 1, [], []) := zz_fetch_of p137 rfl rfl
theorem s137_7 (ha : zz_isrd a = true) : zz_Run zz_prog d 137 (7, [l0, l1, l2, l3, l4, l5, l6, l7], .int v :: .ref a :: st, k, (zz_hp n I J ex)) = zz_ck (zz_in v (zz_ary n a)) (zz_Run zz_prog d 137 (8, [l0, l1, l2, l3, l4, l5, l6, l7], .int (I a v.toNatClampNeg) :: st, k, (zz_hp n I J ex))) := zz_k_iald f137_7 ha
theorem f137_8 : zz_fetch zz_prog 137 8 = some (.bipush 6, 2, [], []) := zz_fetch_of p137 rfl rfl
theorem s137_8 : zz_Run zz_prog d 137 (8, [l0, l1, l2, l3, l4, l5, l6, l7], st, k, h) = zz_Run zz_prog d 137 (10, [l0, l1, l2, l3, l4, l5, l6, l7], .int 6 :: st, k, h) := zz_k_num f137_8 (congrArg (fun u => some (10, [l0, l1, l2, l3, l4, l5, l6, l7], Value.int u :: st)) (by decide : (Int8.ofInt 6).toInt32 = 6))
theorem f137_10 : zz_fetch zz_prog 137 10 = some (.if_icmp .ne 64, 3, [74], []) := zz_fetch_of p137 rfl rfl
theorem s137_10 : zz_Run zz_prog d 137 (10, [l0, l1, l2, l3, l4, l5, l6, l7], .int w :: .int v :: st, k, h) = if ¬ v = w then zz_Run zz_prog d 137 (74, [l0, l1, l2, l3, l4, l5, l6, l7], st, k, h) else zz_Run zz_prog d 137 (13, [l0, l1, l2, l3, l4, l5, l6, l7], st, k, h) := zz_k_br (¬ v = w) rfl (zz_k_num f137_10 rfl)
theorem f137_13 : zz_fetch zz_prog 137 13 = some (.aload_n 0, 1, [], []) := zz_fetch_of p137 rfl rfl
theorem s137_13 : zz_Run zz_prog d 137 (13, [some (.ref a), l1, l2, l3, l4, l5, l6, l7], st, k, h) = zz_Run zz_prog d 137 (14, [some (.ref a), l1, l2, l3, l4, l5, l6, l7], .ref a :: st, k, h) := zz_k_num f137_13 rfl
theorem f137_14 : zz_fetch zz_prog 137 14 = some (.getfield 7, 3, [2, 1, 3], []) := zz_fetch_of p137 rfl rfl
theorem s137_14 : zz_Run zz_prog d 137 (14, [l0, l1, l2, l3, l4, l5, l6, l7], .ref 23 :: st, k, (zz_hp n I J ex)) = zz_Run zz_prog d 137 (17, [l0, l1, l2, l3, l4, l5, l6, l7], .ref 24 :: st, k, (zz_hp n I J ex)) := zz_k_go f137_14 rfl rfl rfl
theorem f137_17 : zz_fetch zz_prog 137 17 = some (.sipush 186, 3, [], []) := zz_fetch_of p137 rfl rfl
theorem s137_17 : zz_Run zz_prog d 137 (17, [l0, l1, l2, l3, l4, l5, l6, l7], st, k, h) = zz_Run zz_prog d 137 (20, [l0, l1, l2, l3, l4, l5, l6, l7], .int 186 :: st, k, h) := zz_k_num f137_17 (congrArg (fun u => some (20, [l0, l1, l2, l3, l4, l5, l6, l7], Value.int u :: st)) (by decide : (Int16.ofInt 186).toInt32 = 186))
theorem f137_20 : zz_fetch zz_prog 137 20 = some (.iaload, 1, [], []) := zz_fetch_of p137 rfl rfl
theorem s137_20 (ha : zz_isrd a = true) : zz_Run zz_prog d 137 (20, [l0, l1, l2, l3, l4, l5, l6, l7], .int v :: .ref a :: st, k, (zz_hp n I J ex)) = zz_ck (zz_in v (zz_ary n a)) (zz_Run zz_prog d 137 (21, [l0, l1, l2, l3, l4, l5, l6, l7], .int (I a v.toNatClampNeg) :: st, k, (zz_hp n I J ex))) := zz_k_iald f137_20 ha
theorem f137_21 : zz_fetch zz_prog 137 21 = some (.ifCond .lt 53, 3, [74], []) := zz_fetch_of p137 rfl rfl
theorem s137_21 : zz_Run zz_prog d 137 (21, [l0, l1, l2, l3, l4, l5, l6, l7], .int v :: st, k, h) = if v < 0 then zz_Run zz_prog d 137 (74, [l0, l1, l2, l3, l4, l5, l6, l7], st, k, h) else zz_Run zz_prog d 137 (24, [l0, l1, l2, l3, l4, l5, l6, l7], st, k, h) := zz_k_br (v < 0) rfl (zz_k_num f137_21 rfl)
theorem f137_24 : zz_fetch zz_prog 137 24 = some (.aload_n 0, 1, [], []) := zz_fetch_of p137 rfl rfl
theorem s137_24 : zz_Run zz_prog d 137 (24, [some (.ref a), l1, l2, l3, l4, l5, l6, l7], st, k, h) = zz_Run zz_prog d 137 (25, [some (.ref a), l1, l2, l3, l4, l5, l6, l7], .ref a :: st, k, h) := zz_k_num f137_24 rfl
theorem f137_25 : zz_fetch zz_prog 137 25 = some (.aload_n 0, 1, [], []) := zz_fetch_of p137 rfl rfl
theorem s137_25 : zz_Run zz_prog d 137 (25, [some (.ref a), l1, l2, l3, l4, l5, l6, l7], st, k, h) = zz_Run zz_prog d 137 (26, [some (.ref a), l1, l2, l3, l4, l5, l6, l7], .ref a :: st, k, h) := zz_k_num f137_25 rfl
theorem f137_26 : zz_fetch zz_prog 137 26 = some (.getfield 7, 3, [2, 1, 3], []) := zz_fetch_of p137 rfl rfl
theorem s137_26 : zz_Run zz_prog d 137 (26, [l0, l1, l2, l3, l4, l5, l6, l7], .ref 23 :: st, k, (zz_hp n I J ex)) = zz_Run zz_prog d 137 (29, [l0, l1, l2, l3, l4, l5, l6, l7], .ref 24 :: st, k, (zz_hp n I J ex)) := zz_k_go f137_26 rfl rfl rfl
theorem f137_29 : zz_fetch zz_prog 137 29 = some (.sipush 181, 3, [], []) := zz_fetch_of p137 rfl rfl
theorem s137_29 : zz_Run zz_prog d 137 (29, [l0, l1, l2, l3, l4, l5, l6, l7], st, k, h) = zz_Run zz_prog d 137 (32, [l0, l1, l2, l3, l4, l5, l6, l7], .int 181 :: st, k, h) := zz_k_num f137_29 (congrArg (fun u => some (32, [l0, l1, l2, l3, l4, l5, l6, l7], Value.int u :: st)) (by decide : (Int16.ofInt 181).toInt32 = 181))
theorem f137_32 : zz_fetch zz_prog 137 32 = some (.iaload, 1, [], []) := zz_fetch_of p137 rfl rfl
theorem s137_32 (ha : zz_isrd a = true) : zz_Run zz_prog d 137 (32, [l0, l1, l2, l3, l4, l5, l6, l7], .int v :: .ref a :: st, k, (zz_hp n I J ex)) = zz_ck (zz_in v (zz_ary n a)) (zz_Run zz_prog d 137 (33, [l0, l1, l2, l3, l4, l5, l6, l7], .int (I a v.toNatClampNeg) :: st, k, (zz_hp n I J ex))) := zz_k_iald f137_32 ha
theorem f137_33 : zz_fetch zz_prog 137 33 = some (.aload_n 0, 1, [], []) := zz_fetch_of p137 rfl rfl
theorem s137_33 : zz_Run zz_prog d 137 (33, [some (.ref a), l1, l2, l3, l4, l5, l6, l7], st, k, h) = zz_Run zz_prog d 137 (34, [some (.ref a), l1, l2, l3, l4, l5, l6, l7], .ref a :: st, k, h) := zz_k_num f137_33 rfl
theorem f137_34 : zz_fetch zz_prog 137 34 = some (.getfield 7, 3, [2, 1, 3], []) := zz_fetch_of p137 rfl rfl
theorem s137_34 : zz_Run zz_prog d 137 (34, [l0, l1, l2, l3, l4, l5, l6, l7], .ref 23 :: st, k, (zz_hp n I J ex)) = zz_Run zz_prog d 137 (37, [l0, l1, l2, l3, l4, l5, l6, l7], .ref 24 :: st, k, (zz_hp n I J ex)) := zz_k_go f137_34 rfl rfl rfl
theorem f137_37 : zz_fetch zz_prog 137 37 = some (.sipush 187, 3, [], []) := zz_fetch_of p137 rfl rfl
theorem s137_37 : zz_Run zz_prog d 137 (37, [l0, l1, l2, l3, l4, l5, l6, l7], st, k, h) = zz_Run zz_prog d 137 (40, [l0, l1, l2, l3, l4, l5, l6, l7], .int 187 :: st, k, h) := zz_k_num f137_37 (congrArg (fun u => some (40, [l0, l1, l2, l3, l4, l5, l6, l7], Value.int u :: st)) (by decide : (Int16.ofInt 187).toInt32 = 187))
theorem f137_40 : zz_fetch zz_prog 137 40 = some (.iaload, 1, [], []) := zz_fetch_of p137 rfl rfl
theorem s137_40 (ha : zz_isrd a = true) : zz_Run zz_prog d 137 (40, [l0, l1, l2, l3, l4, l5, l6, l7], .int v :: .ref a :: st, k, (zz_hp n I J ex)) = zz_ck (zz_in v (zz_ary n a)) (zz_Run zz_prog d 137 (41, [l0, l1, l2, l3, l4, l5, l6, l7], .int (I a v.toNatClampNeg) :: st, k, (zz_hp n I J ex))) := zz_k_iald f137_40 ha
theorem f137_41 : zz_fetch zz_prog 137 41 = some (.invokevirtual 207, 3, [0, 135, 3, 2], []) := zz_fetch_of p137 rfl rfl
theorem s137_41 : zz_Run zz_prog d 137 (41, [l0, l1, l2, l3, l4, l5, l6, l7], [b0, b1, .ref 23], k, (zz_hp n I J ex)) = zz_ret (zz_Call zz_prog d 135 [.ref 23, b1, b0] (zz_hp n I J ex)) (fun v k' h' => zz_Run zz_prog d 137 (44, [l0, l1, l2, l3, l4, l5, l6, l7], v.toList ++ [], k && k', h')) (fun a k' h' => zz_th d 137 41 a [l0, l1, l2, l3, l4, l5, l6, l7] (k && k') h') := zz_k_call f137_41 rfl rfl rfl
theorem f137_44 : zz_fetch zz_prog 137 44 = some (.ifCond .eq 30, 3, [74], []) := zz_fetch_of p137 rfl rfl
theorem s137_44 : zz_Run zz_prog d 137 (44, [l0, l1, l2, l3, l4, l5, l6, l7], .int v :: st, k, h) = if v = 0 then zz_Run zz_prog d 137 (74, [l0, l1, l2, l3, l4, l5, l6, l7], st, k, h) else zz_Run zz_prog d 137 (47, [l0, l1, l2, l3, l4, l5, l6, l7], st, k, h) := zz_k_br (v = 0) rfl (zz_k_num f137_44 rfl)
theorem f137_47 : zz_fetch zz_prog 137 47 = some (.aload_n 0, 1, [], []) := zz_fetch_of p137 rfl rfl
theorem s137_47 : zz_Run zz_prog d 137 (47, [some (.ref a), l1, l2, l3, l4, l5, l6, l7], st, k, h) = zz_Run zz_prog d 137 (48, [some (.ref a), l1, l2, l3, l4, l5, l6, l7], .ref a :: st, k, h) := zz_k_num f137_47 rfl
theorem f137_48 : zz_fetch zz_prog 137 48 = some (.aload_n 0, 1, [], []) := zz_fetch_of p137 rfl rfl
theorem s137_48 : zz_Run zz_prog d 137 (48, [some (.ref a), l1, l2, l3, l4, l5, l6, l7], st, k, h) = zz_Run zz_prog d 137 (49, [some (.ref a), l1, l2, l3, l4, l5, l6, l7], .ref a :: st, k, h) := zz_k_num f137_48 rfl
theorem f137_49 : zz_fetch zz_prog 137 49 = some (.getfield 7, 3, [2, 1, 3], []) := zz_fetch_of p137 rfl rfl
theorem s137_49 : zz_Run zz_prog d 137 (49, [l0, l1, l2, l3, l4, l5, l6, l7], .ref 23 :: st, k, (zz_hp n I J ex)) = zz_Run zz_prog d 137 (52, [l0, l1, l2, l3, l4, l5, l6, l7], .ref 24 :: st, k, (zz_hp n I J ex)) := zz_k_go f137_49 rfl rfl rfl
theorem f137_52 : zz_fetch zz_prog 137 52 = some (.sipush 186, 3, [], []) := zz_fetch_of p137 rfl rfl
theorem s137_52 : zz_Run zz_prog d 137 (52, [l0, l1, l2, l3, l4, l5, l6, l7], st, k, h) = zz_Run zz_prog d 137 (55, [l0, l1, l2, l3, l4, l5, l6, l7], .int 186 :: st, k, h) := zz_k_num f137_52 (congrArg (fun u => some (55, [l0, l1, l2, l3, l4, l5, l6, l7], Value.int u :: st)) (by decide : (Int16.ofInt 186).toInt32 = 186))
theorem f137_55 : zz_fetch zz_prog 137 55 = some (.iaload, 1, [], []) := zz_fetch_of p137 rfl rfl
theorem s137_55 (ha : zz_isrd a = true) : zz_Run zz_prog d 137 (55, [l0, l1, l2, l3, l4, l5, l6, l7], .int v :: .ref a :: st, k, (zz_hp n I J ex)) = zz_ck (zz_in v (zz_ary n a)) (zz_Run zz_prog d 137 (56, [l0, l1, l2, l3, l4, l5, l6, l7], .int (I a v.toNatClampNeg) :: st, k, (zz_hp n I J ex))) := zz_k_iald f137_55 ha
theorem f137_56 : zz_fetch zz_prog 137 56 = some (.aload_n 0, 1, [], []) := zz_fetch_of p137 rfl rfl
theorem s137_56 : zz_Run zz_prog d 137 (56, [some (.ref a), l1, l2, l3, l4, l5, l6, l7], st, k, h) = zz_Run zz_prog d 137 (57, [some (.ref a), l1, l2, l3, l4, l5, l6, l7], .ref a :: st, k, h) := zz_k_num f137_56 rfl
theorem f137_57 : zz_fetch zz_prog 137 57 = some (.getfield 7, 3, [2, 1, 3], []) := zz_fetch_of p137 rfl rfl
theorem s137_57 : zz_Run zz_prog d 137 (57, [l0, l1, l2, l3, l4, l5, l6, l7], .ref 23 :: st, k, (zz_hp n I J ex)) = zz_Run zz_prog d 137 (60, [l0, l1, l2, l3, l4, l5, l6, l7], .ref 24 :: st, k, (zz_hp n I J ex)) := zz_k_go f137_57 rfl rfl rfl
theorem f137_60 : zz_fetch zz_prog 137 60 = some (.sipush 188, 3, [], []) := zz_fetch_of p137 rfl rfl
theorem s137_60 : zz_Run zz_prog d 137 (60, [l0, l1, l2, l3, l4, l5, l6, l7], st, k, h) = zz_Run zz_prog d 137 (63, [l0, l1, l2, l3, l4, l5, l6, l7], .int 188 :: st, k, h) := zz_k_num f137_60 (congrArg (fun u => some (63, [l0, l1, l2, l3, l4, l5, l6, l7], Value.int u :: st)) (by decide : (Int16.ofInt 188).toInt32 = 188))
theorem f137_63 : zz_fetch zz_prog 137 63 = some (.iaload, 1, [], []) := zz_fetch_of p137 rfl rfl
theorem s137_63 (ha : zz_isrd a = true) : zz_Run zz_prog d 137 (63, [l0, l1, l2, l3, l4, l5, l6, l7], .int v :: .ref a :: st, k, (zz_hp n I J ex)) = zz_ck (zz_in v (zz_ary n a)) (zz_Run zz_prog d 137 (64, [l0, l1, l2, l3, l4, l5, l6, l7], .int (I a v.toNatClampNeg) :: st, k, (zz_hp n I J ex))) := zz_k_iald f137_63 ha
theorem f137_64 : zz_fetch zz_prog 137 64 = some (.invokevirtual 207, 3, [0, 135, 3, 2], []) := zz_fetch_of p137 rfl rfl
theorem s137_64 : zz_Run zz_prog d 137 (64, [l0, l1, l2, l3, l4, l5, l6, l7], [b0, b1, .ref 23], k, (zz_hp n I J ex)) = zz_ret (zz_Call zz_prog d 135 [.ref 23, b1, b0] (zz_hp n I J ex)) (fun v k' h' => zz_Run zz_prog d 137 (67, [l0, l1, l2, l3, l4, l5, l6, l7], v.toList ++ [], k && k', h')) (fun a k' h' => zz_th d 137 64 a [l0, l1, l2, l3, l4, l5, l6, l7] (k && k') h') := zz_k_call f137_64 rfl rfl rfl
theorem f137_67 : zz_fetch zz_prog 137 67 = some (.ifCond .eq 7, 3, [74], []) := zz_fetch_of p137 rfl rfl
theorem s137_67 : zz_Run zz_prog d 137 (67, [l0, l1, l2, l3, l4, l5, l6, l7], .int v :: st, k, h) = if v = 0 then zz_Run zz_prog d 137 (74, [l0, l1, l2, l3, l4, l5, l6, l7], st, k, h) else zz_Run zz_prog d 137 (70, [l0, l1, l2, l3, l4, l5, l6, l7], st, k, h) := zz_k_br (v = 0) rfl (zz_k_num f137_67 rfl)
theorem f137_70 : zz_fetch zz_prog 137 70 = some (.iconst 1, 1, [], []) := zz_fetch_of p137 rfl rfl
theorem s137_70 : zz_Run zz_prog d 137 (70, [l0, l1, l2, l3, l4, l5, l6, l7], st, k, h) = zz_Run zz_prog d 137 (71, [l0, l1, l2, l3, l4, l5, l6, l7], .int 1 :: st, k, h) := zz_k_num f137_70 rfl
theorem f137_71 : zz_fetch zz_prog 137 71 = some (.goto 4, 3, [75], []) := zz_fetch_of p137 rfl rfl
theorem s137_71 : zz_Run zz_prog d 137 (71, [l0, l1, l2, l3, l4, l5, l6, l7], st, k, h) = zz_Run zz_prog d 137 (75, [l0, l1, l2, l3, l4, l5, l6, l7], st, k, h) := zz_k_num f137_71 rfl
theorem f137_74 : zz_fetch zz_prog 137 74 = some (.iconst 0, 1, [], []) := zz_fetch_of p137 rfl rfl
theorem s137_74 : zz_Run zz_prog d 137 (74, [l0, l1, l2, l3, l4, l5, l6, l7], st, k, h) = zz_Run zz_prog d 137 (75, [l0, l1, l2, l3, l4, l5, l6, l7], .int 0 :: st, k, h) := zz_k_num f137_74 rfl
theorem f137_75 : zz_fetch zz_prog 137 75 = some (.istore_n 1, 1, [], []) := zz_fetch_of p137 rfl rfl
theorem s137_75 : zz_Run zz_prog d 137 (75, [l0, l1, l2, l3, l4, l5, l6, l7], .int v :: st, k, h) = zz_sl l0 (zz_Run zz_prog d 137 (76, [l0, some (.int v), l2, l3, l4, l5, l6, l7], st, k, h)) := zz_k_st (j := 1) (u := .int v) f137_75 rfl (fun q hq => by cases hq) rfl (show 1 < 8 by decide) (by cases l0 <;> rfl) rfl
theorem f137_76 : zz_fetch zz_prog 137 76 = some (.aload_n 0, 1, [], []) := zz_fetch_of p137 rfl rfl
theorem s137_76 : zz_Run zz_prog d 137 (76, [some (.ref a), l1, l2, l3, l4, l5, l6, l7], st, k, h) = zz_Run zz_prog d 137 (77, [some (.ref a), l1, l2, l3, l4, l5, l6, l7], .ref a :: st, k, h) := zz_k_num f137_76 rfl
theorem f137_77 : zz_fetch zz_prog 137 77 = some (.iload_n 1, 1, [], []) := zz_fetch_of p137 rfl rfl
theorem s137_77 : zz_Run zz_prog d 137 (77, [l0, some (.int v), l2, l3, l4, l5, l6, l7], st, k, h) = zz_Run zz_prog d 137 (78, [l0, some (.int v), l2, l3, l4, l5, l6, l7], .int v :: st, k, h) := zz_k_num f137_77 rfl
theorem f137_78 : zz_fetch zz_prog 137 78 = some (.ifCond .ne 7, 3, [85], []) := zz_fetch_of p137 rfl rfl
theorem s137_78 : zz_Run zz_prog d 137 (78, [l0, l1, l2, l3, l4, l5, l6, l7], .int v :: st, k, h) = if ¬ v = 0 then zz_Run zz_prog d 137 (85, [l0, l1, l2, l3, l4, l5, l6, l7], st, k, h) else zz_Run zz_prog d 137 (81, [l0, l1, l2, l3, l4, l5, l6, l7], st, k, h) := zz_k_br (¬ v = 0) rfl (zz_k_num f137_78 rfl)
theorem f137_81 : zz_fetch zz_prog 137 81 = some (.iconst 1, 1, [], []) := zz_fetch_of p137 rfl rfl
theorem s137_81 : zz_Run zz_prog d 137 (81, [l0, l1, l2, l3, l4, l5, l6, l7], st, k, h) = zz_Run zz_prog d 137 (82, [l0, l1, l2, l3, l4, l5, l6, l7], .int 1 :: st, k, h) := zz_k_num f137_81 rfl
theorem f137_82 : zz_fetch zz_prog 137 82 = some (.goto 4, 3, [86], []) := zz_fetch_of p137 rfl rfl
theorem s137_82 : zz_Run zz_prog d 137 (82, [l0, l1, l2, l3, l4, l5, l6, l7], st, k, h) = zz_Run zz_prog d 137 (86, [l0, l1, l2, l3, l4, l5, l6, l7], st, k, h) := zz_k_num f137_82 rfl
theorem f137_85 : zz_fetch zz_prog 137 85 = some (.iconst 0, 1, [], []) := zz_fetch_of p137 rfl rfl
theorem s137_85 : zz_Run zz_prog d 137 (85, [l0, l1, l2, l3, l4, l5, l6, l7], st, k, h) = zz_Run zz_prog d 137 (86, [l0, l1, l2, l3, l4, l5, l6, l7], .int 0 :: st, k, h) := zz_k_num f137_85 rfl
theorem f137_86 : zz_fetch zz_prog 137 86 = some (.iconst 0, 1, [], []) := zz_fetch_of p137 rfl rfl
theorem s137_86 : zz_Run zz_prog d 137 (86, [l0, l1, l2, l3, l4, l5, l6, l7], st, k, h) = zz_Run zz_prog d 137 (87, [l0, l1, l2, l3, l4, l5, l6, l7], .int 0 :: st, k, h) := zz_k_num f137_86 rfl
theorem f137_87 : zz_fetch zz_prog 137 87 = some (.iconst 0, 1, [], []) := zz_fetch_of p137 rfl rfl
theorem s137_87 : zz_Run zz_prog d 137 (87, [l0, l1, l2, l3, l4, l5, l6, l7], st, k, h) = zz_Run zz_prog d 137 (88, [l0, l1, l2, l3, l4, l5, l6, l7], .int 0 :: st, k, h) := zz_k_num f137_87 rfl
theorem f137_88 : zz_fetch zz_prog 137 88 = some (.invokevirtual 89, 3, [0, 95, 4, 2], []) := zz_fetch_of p137 rfl rfl
theorem s137_88 : zz_Run zz_prog d 137 (88, [l0, l1, l2, l3, l4, l5, l6, l7], [b0, b1, b2, .ref 23], k, (zz_hp n I J ex)) = zz_ret (zz_Call zz_prog d 95 [.ref 23, b2, b1, b0] (zz_hp n I J ex)) (fun v k' h' => zz_Run zz_prog d 137 (91, [l0, l1, l2, l3, l4, l5, l6, l7], v.toList ++ [], k && k', h')) (fun a k' h' => zz_th d 137 88 a [l0, l1, l2, l3, l4, l5, l6, l7] (k && k') h') := zz_k_call f137_88 rfl rfl rfl
theorem f137_91 : zz_fetch zz_prog 137 91 = some (.ifCond .eq 5, 3, [96], []) := zz_fetch_of p137 rfl rfl
theorem s137_91 : zz_Run zz_prog d 137 (91, [l0, l1, l2, l3, l4, l5, l6, l7], .int v :: st, k, h) = if v = 0 then zz_Run zz_prog d 137 (96, [l0, l1, l2, l3, l4, l5, l6, l7], st, k, h) else zz_Run zz_prog d 137 (94, [l0, l1, l2, l3, l4, l5, l6, l7], st, k, h) := zz_k_br (v = 0) rfl (zz_k_num f137_91 rfl)
theorem f137_94 : zz_fetch zz_prog 137 94 = some (.iconst 0, 1, [], []) := zz_fetch_of p137 rfl rfl
theorem s137_94 : zz_Run zz_prog d 137 (94, [l0, l1, l2, l3, l4, l5, l6, l7], st, k, h) = zz_Run zz_prog d 137 (95, [l0, l1, l2, l3, l4, l5, l6, l7], .int 0 :: st, k, h) := zz_k_num f137_94 rfl
theorem f137_95 : zz_fetch zz_prog 137 95 = some (.ireturn, 1, [0], []) := zz_fetch_of p137 rfl rfl
theorem s137_95 : zz_Run zz_prog d 137 (95, [l0, l1, l2, l3, l4, l5, l6, l7], [.int v], k, h) = some (.inl (some (.int v)), k, h) := zz_k_stop f137_95 rfl rfl rfl
theorem f137_96 : zz_fetch zz_prog 137 96 = some (.aload_n 0, 1, [], []) := zz_fetch_of p137 rfl rfl
theorem s137_96 : zz_Run zz_prog d 137 (96, [some (.ref a), l1, l2, l3, l4, l5, l6, l7], st, k, h) = zz_Run zz_prog d 137 (97, [some (.ref a), l1, l2, l3, l4, l5, l6, l7], .ref a :: st, k, h) := zz_k_num f137_96 rfl
theorem f137_97 : zz_fetch zz_prog 137 97 = some (.invokevirtual 158, 3, [0, 117, 1, 2], []) := zz_fetch_of p137 rfl rfl
theorem s137_97 : zz_Run zz_prog d 137 (97, [l0, l1, l2, l3, l4, l5, l6, l7], [.ref 23], k, (zz_hp n I J ex)) = zz_ret (zz_Call zz_prog d 117 [.ref 23] (zz_hp n I J ex)) (fun v k' h' => zz_Run zz_prog d 137 (100, [l0, l1, l2, l3, l4, l5, l6, l7], v.toList ++ [], k && k', h')) (fun a k' h' => zz_th d 137 97 a [l0, l1, l2, l3, l4, l5, l6, l7] (k && k') h') := zz_k_call f137_97 rfl rfl rfl
theorem f137_100 : zz_fetch zz_prog 137 100 = some (.iconst 0, 1, [], []) := zz_fetch_of p137 rfl rfl
theorem s137_100 : zz_Run zz_prog d 137 (100, [l0, l1, l2, l3, l4, l5, l6, l7], st, k, h) = zz_Run zz_prog d 137 (101, [l0, l1, l2, l3, l4, l5, l6, l7], .int 0 :: st, k, h) := zz_k_num f137_100 rfl
theorem f137_101 : zz_fetch zz_prog 137 101 = some (.istore_n 2, 1, [], []) := zz_fetch_of p137 rfl rfl
theorem s137_101 : zz_Run zz_prog d 137 (101, [l0, l1, l2, l3, l4, l5, l6, l7], .int v :: st, k, h) = zz_sl l1 (zz_Run zz_prog d 137 (102, [l0, l1, some (.int v), l3, l4, l5, l6, l7], st, k, h)) := zz_k_st (j := 2) (u := .int v) f137_101 rfl (fun q hq => by cases hq) rfl (show 2 < 8 by decide) (by cases l1 <;> rfl) rfl
theorem f137_102 : zz_fetch zz_prog 137 102 = some (.aload_n 0, 1, [], []) := zz_fetch_of p137 rfl rfl
theorem s137_102 : zz_Run zz_prog d 137 (102, [some (.ref a), l1, l2, l3, l4, l5, l6, l7], st, k, h) = zz_Run zz_prog d 137 (103, [some (.ref a), l1, l2, l3, l4, l5, l6, l7], .ref a :: st, k, h) := zz_k_num f137_102 rfl
theorem f137_103 : zz_fetch zz_prog 137 103 = some (.getfield 7, 3, [2, 1, 3], []) := zz_fetch_of p137 rfl rfl
theorem s137_103 : zz_Run zz_prog d 137 (103, [l0, l1, l2, l3, l4, l5, l6, l7], .ref 23 :: st, k, (zz_hp n I J ex)) = zz_Run zz_prog d 137 (106, [l0, l1, l2, l3, l4, l5, l6, l7], .ref 24 :: st, k, (zz_hp n I J ex)) := zz_k_go f137_103 rfl rfl rfl
theorem f137_106 : zz_fetch zz_prog 137 106 = some (.sipush 181, 3, [], []) := zz_fetch_of p137 rfl rfl
theorem s137_106 : zz_Run zz_prog d 137 (106, [l0, l1, l2, l3, l4, l5, l6, l7], st, k, h) = zz_Run zz_prog d 137 (109, [l0, l1, l2, l3, l4, l5, l6, l7], .int 181 :: st, k, h) := zz_k_num f137_106 (congrArg (fun u => some (109, [l0, l1, l2, l3, l4, l5, l6, l7], Value.int u :: st)) (by decide : (Int16.ofInt 181).toInt32 = 181))
theorem f137_109 : zz_fetch zz_prog 137 109 = some (.iaload, 1, [], []) := zz_fetch_of p137 rfl rfl
theorem s137_109 (ha : zz_isrd a = true) : zz_Run zz_prog d 137 (109, [l0, l1, l2, l3, l4, l5, l6, l7], .int v :: .ref a :: st, k, (zz_hp n I J ex)) = zz_ck (zz_in v (zz_ary n a)) (zz_Run zz_prog d 137 (110, [l0, l1, l2, l3, l4, l5, l6, l7], .int (I a v.toNatClampNeg) :: st, k, (zz_hp n I J ex))) := zz_k_iald f137_109 ha
theorem f137_110 : zz_fetch zz_prog 137 110 = some (.istore_n 3, 1, [], []) := zz_fetch_of p137 rfl rfl
theorem s137_110 : zz_Run zz_prog d 137 (110, [l0, l1, l2, l3, l4, l5, l6, l7], .int v :: st, k, h) = zz_sl l2 (zz_Run zz_prog d 137 (111, [l0, l1, l2, some (.int v), l4, l5, l6, l7], st, k, h)) := zz_k_st (j := 3) (u := .int v) f137_110 rfl (fun q hq => by cases hq) rfl (show 3 < 8 by decide) (by cases l2 <;> rfl) rfl
theorem f137_111 : zz_fetch zz_prog 137 111 = some (.aload_n 0, 1, [], []) := zz_fetch_of p137 rfl rfl
theorem s137_111 : zz_Run zz_prog d 137 (111, [some (.ref a), l1, l2, l3, l4, l5, l6, l7], st, k, h) = zz_Run zz_prog d 137 (112, [some (.ref a), l1, l2, l3, l4, l5, l6, l7], .ref a :: st, k, h) := zz_k_num f137_111 rfl
theorem f137_112 : zz_fetch zz_prog 137 112 = some (.getfield 7, 3, [2, 1, 3], []) := zz_fetch_of p137 rfl rfl
theorem s137_112 : zz_Run zz_prog d 137 (112, [l0, l1, l2, l3, l4, l5, l6, l7], .ref 23 :: st, k, (zz_hp n I J ex)) = zz_Run zz_prog d 137 (115, [l0, l1, l2, l3, l4, l5, l6, l7], .ref 24 :: st, k, (zz_hp n I J ex)) := zz_k_go f137_112 rfl rfl rfl
theorem f137_115 : zz_fetch zz_prog 137 115 = some (.sipush 186, 3, [], []) := zz_fetch_of p137 rfl rfl
theorem s137_115 : zz_Run zz_prog d 137 (115, [l0, l1, l2, l3, l4, l5, l6, l7], st, k, h) = zz_Run zz_prog d 137 (118, [l0, l1, l2, l3, l4, l5, l6, l7], .int 186 :: st, k, h) := zz_k_num f137_115 (congrArg (fun u => some (118, [l0, l1, l2, l3, l4, l5, l6, l7], Value.int u :: st)) (by decide : (Int16.ofInt 186).toInt32 = 186))
theorem f137_118 : zz_fetch zz_prog 137 118 = some (.iaload, 1, [], []) := zz_fetch_of p137 rfl rfl
theorem s137_118 (ha : zz_isrd a = true) : zz_Run zz_prog d 137 (118, [l0, l1, l2, l3, l4, l5, l6, l7], .int v :: .ref a :: st, k, (zz_hp n I J ex)) = zz_ck (zz_in v (zz_ary n a)) (zz_Run zz_prog d 137 (119, [l0, l1, l2, l3, l4, l5, l6, l7], .int (I a v.toNatClampNeg) :: st, k, (zz_hp n I J ex))) := zz_k_iald f137_118 ha
theorem f137_119 : zz_fetch zz_prog 137 119 = some (.istore 4, 2, [], []) := zz_fetch_of p137 rfl rfl
theorem s137_119 : zz_Run zz_prog d 137 (119, [l0, l1, l2, l3, l4, l5, l6, l7], .int v :: st, k, h) = zz_sl l3 (zz_Run zz_prog d 137 (121, [l0, l1, l2, l3, some (.int v), l5, l6, l7], st, k, h)) := zz_k_st (j := 4) (u := .int v) f137_119 rfl (fun q hq => by cases hq) rfl (show 4 < 8 by decide) (by cases l3 <;> rfl) rfl
theorem f137_121 : zz_fetch zz_prog 137 121 = some (.iconst 0, 1, [], []) := zz_fetch_of p137 rfl rfl
theorem s137_121 : zz_Run zz_prog d 137 (121, [l0, l1, l2, l3, l4, l5, l6, l7], st, k, h) = zz_Run zz_prog d 137 (122, [l0, l1, l2, l3, l4, l5, l6, l7], .int 0 :: st, k, h) := zz_k_num f137_121 rfl
theorem f137_122 : zz_fetch zz_prog 137 122 = some (.istore 5, 2, [], []) := zz_fetch_of p137 rfl rfl
theorem s137_122 : zz_Run zz_prog d 137 (122, [l0, l1, l2, l3, l4, l5, l6, l7], .int v :: st, k, h) = zz_sl l4 (zz_Run zz_prog d 137 (124, [l0, l1, l2, l3, l4, some (.int v), l6, l7], st, k, h)) := zz_k_st (j := 5) (u := .int v) f137_122 rfl (fun q hq => by cases hq) rfl (show 5 < 8 by decide) (by cases l4 <;> rfl) rfl
theorem f137_124 : zz_fetch zz_prog 137 124 = some (.iload 5, 2, [], []) := zz_fetch_of p137 rfl rfl
theorem s137_124 : zz_Run zz_prog d 137 (124, [l0, l1, l2, l3, l4, some (.int v), l6, l7], st, k, h) = zz_Run zz_prog d 137 (126, [l0, l1, l2, l3, l4, some (.int v), l6, l7], .int v :: st, k, h) := zz_k_num f137_124 rfl
theorem f137_126 : zz_fetch zz_prog 137 126 = some (.iconst 5, 1, [], []) := zz_fetch_of p137 rfl rfl
theorem s137_126 : zz_Run zz_prog d 137 (126, [l0, l1, l2, l3, l4, l5, l6, l7], st, k, h) = zz_Run zz_prog d 137 (127, [l0, l1, l2, l3, l4, l5, l6, l7], .int 5 :: st, k, h) := zz_k_num f137_126 rfl
theorem f137_127 : zz_fetch zz_prog 137 127 = some (.if_icmp .ge 98, 3, [225], []) := zz_fetch_of p137 rfl rfl
theorem s137_127 : zz_Run zz_prog d 137 (127, [l0, l1, l2, l3, l4, l5, l6, l7], .int w :: .int v :: st, k, h) = if w ≤ v then zz_Run zz_prog d 137 (225, [l0, l1, l2, l3, l4, l5, l6, l7], st, k, h) else zz_Run zz_prog d 137 (130, [l0, l1, l2, l3, l4, l5, l6, l7], st, k, h) := zz_k_br (w ≤ v) rfl (zz_k_num f137_127 rfl)
theorem f137_130 : zz_fetch zz_prog 137 130 = some (.aload_n 0, 1, [], []) := zz_fetch_of p137 rfl rfl
theorem s137_130 : zz_Run zz_prog d 137 (130, [some (.ref a), l1, l2, l3, l4, l5, l6, l7], st, k, h) = zz_Run zz_prog d 137 (131, [some (.ref a), l1, l2, l3, l4, l5, l6, l7], .ref a :: st, k, h) := zz_k_num f137_130 rfl
theorem f137_131 : zz_fetch zz_prog 137 131 = some (.getfield 7, 3, [2, 1, 3], []) := zz_fetch_of p137 rfl rfl
theorem s137_131 : zz_Run zz_prog d 137 (131, [l0, l1, l2, l3, l4, l5, l6, l7], .ref 23 :: st, k, (zz_hp n I J ex)) = zz_Run zz_prog d 137 (134, [l0, l1, l2, l3, l4, l5, l6, l7], .ref 24 :: st, k, (zz_hp n I J ex)) := zz_k_go f137_131 rfl rfl rfl
theorem f137_134 : zz_fetch zz_prog 137 134 = some (.sipush 187, 3, [], []) := zz_fetch_of p137 rfl rfl
theorem s137_134 : zz_Run zz_prog d 137 (134, [l0, l1, l2, l3, l4, l5, l6, l7], st, k, h) = zz_Run zz_prog d 137 (137, [l0, l1, l2, l3, l4, l5, l6, l7], .int 187 :: st, k, h) := zz_k_num f137_134 (congrArg (fun u => some (137, [l0, l1, l2, l3, l4, l5, l6, l7], Value.int u :: st)) (by decide : (Int16.ofInt 187).toInt32 = 187))
theorem f137_137 : zz_fetch zz_prog 137 137 = some (.iaload, 1, [], []) := zz_fetch_of p137 rfl rfl
theorem s137_137 (ha : zz_isrd a = true) : zz_Run zz_prog d 137 (137, [l0, l1, l2, l3, l4, l5, l6, l7], .int v :: .ref a :: st, k, (zz_hp n I J ex)) = zz_ck (zz_in v (zz_ary n a)) (zz_Run zz_prog d 137 (138, [l0, l1, l2, l3, l4, l5, l6, l7], .int (I a v.toNatClampNeg) :: st, k, (zz_hp n I J ex))) := zz_k_iald f137_137 ha
theorem f137_138 : zz_fetch zz_prog 137 138 = some (.iconst 4, 1, [], []) := zz_fetch_of p137 rfl rfl
theorem s137_138 : zz_Run zz_prog d 137 (138, [l0, l1, l2, l3, l4, l5, l6, l7], st, k, h) = zz_Run zz_prog d 137 (139, [l0, l1, l2, l3, l4, l5, l6, l7], .int 4 :: st, k, h) := zz_k_num f137_138 rfl
theorem f137_139 : zz_fetch zz_prog 137 139 = some (.iload 5, 2, [], []) := zz_fetch_of p137 rfl rfl
theorem s137_139 : zz_Run zz_prog d 137 (139, [l0, l1, l2, l3, l4, some (.int v), l6, l7], st, k, h) = zz_Run zz_prog d 137 (141, [l0, l1, l2, l3, l4, some (.int v), l6, l7], .int v :: st, k, h) := zz_k_num f137_139 rfl
theorem f137_141 : zz_fetch zz_prog 137 141 = some (.imul, 1, [], []) := zz_fetch_of p137 rfl rfl
theorem s137_141 : zz_Run zz_prog d 137 (141, [l0, l1, l2, l3, l4, l5, l6, l7], .int w :: .int v :: st, k, h) = zz_Run zz_prog d 137 (142, [l0, l1, l2, l3, l4, l5, l6, l7], .int (v * w) :: st, k, h) := zz_k_num f137_141 rfl
theorem f137_142 : zz_fetch zz_prog 137 142 = some (.ishr, 1, [], []) := zz_fetch_of p137 rfl rfl
theorem s137_142 : zz_Run zz_prog d 137 (142, [l0, l1, l2, l3, l4, l5, l6, l7], .int w :: .int v :: st, k, h) = zz_Run zz_prog d 137 (143, [l0, l1, l2, l3, l4, l5, l6, l7], .int (v >>> (w &&& 31)) :: st, k, h) := zz_k_num f137_142 rfl
theorem f137_143 : zz_fetch zz_prog 137 143 = some (.bipush 15, 2, [], []) := zz_fetch_of p137 rfl rfl
theorem s137_143 : zz_Run zz_prog d 137 (143, [l0, l1, l2, l3, l4, l5, l6, l7], st, k, h) = zz_Run zz_prog d 137 (145, [l0, l1, l2, l3, l4, l5, l6, l7], .int 15 :: st, k, h) := zz_k_num f137_143 (congrArg (fun u => some (145, [l0, l1, l2, l3, l4, l5, l6, l7], Value.int u :: st)) (by decide : (Int8.ofInt 15).toInt32 = 15))
theorem f137_145 : zz_fetch zz_prog 137 145 = some (.iand, 1, [], []) := zz_fetch_of p137 rfl rfl
theorem s137_145 : zz_Run zz_prog d 137 (145, [l0, l1, l2, l3, l4, l5, l6, l7], .int w :: .int v :: st, k, h) = zz_Run zz_prog d 137 (146, [l0, l1, l2, l3, l4, l5, l6, l7], .int (v &&& w) :: st, k, h) := zz_k_num f137_145 rfl
theorem f137_146 : zz_fetch zz_prog 137 146 = some (.istore 6, 2, [], []) := zz_fetch_of p137 rfl rfl
theorem s137_146 : zz_Run zz_prog d 137 (146, [l0, l1, l2, l3, l4, l5, l6, l7], .int v :: st, k, h) = zz_sl l5 (zz_Run zz_prog d 137 (148, [l0, l1, l2, l3, l4, l5, some (.int v), l7], st, k, h)) := zz_k_st (j := 6) (u := .int v) f137_146 rfl (fun q hq => by cases hq) rfl (show 6 < 8 by decide) (by cases l5 <;> rfl) rfl
theorem f137_148 : zz_fetch zz_prog 137 148 = some (.aload_n 0, 1, [], []) := zz_fetch_of p137 rfl rfl
theorem s137_148 : zz_Run zz_prog d 137 (148, [some (.ref a), l1, l2, l3, l4, l5, l6, l7], st, k, h) = zz_Run zz_prog d 137 (149, [some (.ref a), l1, l2, l3, l4, l5, l6, l7], .ref a :: st, k, h) := zz_k_num f137_148 rfl
theorem f137_149 : zz_fetch zz_prog 137 149 = some (.getfield 7, 3, [2, 1, 3], []) := zz_fetch_of p137 rfl rfl
theorem s137_149 : zz_Run zz_prog d 137 (149, [l0, l1, l2, l3, l4, l5, l6, l7], .ref 23 :: st, k, (zz_hp n I J ex)) = zz_Run zz_prog d 137 (152, [l0, l1, l2, l3, l4, l5, l6, l7], .ref 24 :: st, k, (zz_hp n I J ex)) := zz_k_go f137_149 rfl rfl rfl
theorem f137_152 : zz_fetch zz_prog 137 152 = some (.sipush 188, 3, [], []) := zz_fetch_of p137 rfl rfl
theorem s137_152 : zz_Run zz_prog d 137 (152, [l0, l1, l2, l3, l4, l5, l6, l7], st, k, h) = zz_Run zz_prog d 137 (155, [l0, l1, l2, l3, l4, l5, l6, l7], .int 188 :: st, k, h) := zz_k_num f137_152 (congrArg (fun u => some (155, [l0, l1, l2, l3, l4, l5, l6, l7], Value.int u :: st)) (by decide : (Int16.ofInt 188).toInt32 = 188))
theorem f137_155 : zz_fetch zz_prog 137 155 = some (.iaload, 1, [], []) := zz_fetch_of p137 rfl rfl
theorem s137_155 (ha : zz_isrd a = true) : zz_Run zz_prog d 137 (155, [l0, l1, l2, l3, l4, l5, l6, l7], .int v :: .ref a :: st, k, (zz_hp n I J ex)) = zz_ck (zz_in v (zz_ary n a)) (zz_Run zz_prog d 137 (156, [l0, l1, l2, l3, l4, l5, l6, l7], .int (I a v.toNatClampNeg) :: st, k, (zz_hp n I J ex))) := zz_k_iald f137_155 ha
theorem f137_156 : zz_fetch zz_prog 137 156 = some (.iconst 4, 1, [], []) := zz_fetch_of p137 rfl rfl
theorem s137_156 : zz_Run zz_prog d 137 (156, [l0, l1, l2, l3, l4, l5, l6, l7], st, k, h) = zz_Run zz_prog d 137 (157, [l0, l1, l2, l3, l4, l5, l6, l7], .int 4 :: st, k, h) := zz_k_num f137_156 rfl
theorem f137_157 : zz_fetch zz_prog 137 157 = some (.iload 5, 2, [], []) := zz_fetch_of p137 rfl rfl
theorem s137_157 : zz_Run zz_prog d 137 (157, [l0, l1, l2, l3, l4, some (.int v), l6, l7], st, k, h) = zz_Run zz_prog d 137 (159, [l0, l1, l2, l3, l4, some (.int v), l6, l7], .int v :: st, k, h) := zz_k_num f137_157 rfl
theorem f137_159 : zz_fetch zz_prog 137 159 = some (.imul, 1, [], []) := zz_fetch_of p137 rfl rfl
theorem s137_159 : zz_Run zz_prog d 137 (159, [l0, l1, l2, l3, l4, l5, l6, l7], .int w :: .int v :: st, k, h) = zz_Run zz_prog d 137 (160, [l0, l1, l2, l3, l4, l5, l6, l7], .int (v * w) :: st, k, h) := zz_k_num f137_159 rfl
theorem f137_160 : zz_fetch zz_prog 137 160 = some (.ishr, 1, [], []) := zz_fetch_of p137 rfl rfl
theorem s137_160 : zz_Run zz_prog d 137 (160, [l0, l1, l2, l3, l4, l5, l6, l7], .int w :: .int v :: st, k, h) = zz_Run zz_prog d 137 (161, [l0, l1, l2, l3, l4, l5, l6, l7], .int (v >>> (w &&& 31)) :: st, k, h) := zz_k_num f137_160 rfl
theorem f137_161 : zz_fetch zz_prog 137 161 = some (.bipush 15, 2, [], []) := zz_fetch_of p137 rfl rfl
theorem s137_161 : zz_Run zz_prog d 137 (161, [l0, l1, l2, l3, l4, l5, l6, l7], st, k, h) = zz_Run zz_prog d 137 (163, [l0, l1, l2, l3, l4, l5, l6, l7], .int 15 :: st, k, h) := zz_k_num f137_161 (congrArg (fun u => some (163, [l0, l1, l2, l3, l4, l5, l6, l7], Value.int u :: st)) (by decide : (Int8.ofInt 15).toInt32 = 15))
theorem f137_163 : zz_fetch zz_prog 137 163 = some (.iand, 1, [], []) := zz_fetch_of p137 rfl rfl
theorem s137_163 : zz_Run zz_prog d 137 (163, [l0, l1, l2, l3, l4, l5, l6, l7], .int w :: .int v :: st, k, h) = zz_Run zz_prog d 137 (164, [l0, l1, l2, l3, l4, l5, l6, l7], .int (v &&& w) :: st, k, h) := zz_k_num f137_163 rfl
theorem f137_164 : zz_fetch zz_prog 137 164 = some (.istore 7, 2, [], []) := zz_fetch_of p137 rfl rfl
theorem s137_164 : zz_Run zz_prog d 137 (164, [l0, l1, l2, l3, l4, l5, l6, l7], .int v :: st, k, h) = zz_sl l6 (zz_Run zz_prog d 137 (166, [l0, l1, l2, l3, l4, l5, l6, some (.int v)], st, k, h)) := zz_k_st (j := 7) (u := .int v) f137_164 rfl (fun q hq => by cases hq) rfl (show 7 < 8 by decide) (by cases l6 <;> rfl) rfl
theorem f137_166 : zz_fetch zz_prog 137 166 = some (.aload_n 0, 1, [], []) := zz_fetch_of p137 rfl rfl
theorem s137_166 : zz_Run zz_prog d 137 (166, [some (.ref a), l1, l2, l3, l4, l5, l6, l7], st, k, h) = zz_Run zz_prog d 137 (167, [some (.ref a), l1, l2, l3, l4, l5, l6, l7], .ref a :: st, k, h) := zz_k_num f137_166 rfl
theorem f137_167 : zz_fetch zz_prog 137 167 = some (.getfield 7, 3, [2, 1, 3], []) := zz_fetch_of p137 rfl rfl
theorem s137_167 : zz_Run zz_prog d 137 (167, [l0, l1, l2, l3, l4, l5, l6, l7], .ref 23 :: st, k, (zz_hp n I J ex)) = zz_Run zz_prog d 137 (170, [l0, l1, l2, l3, l4, l5, l6, l7], .ref 24 :: st, k, (zz_hp n I J ex)) := zz_k_go f137_167 rfl rfl rfl
theorem f137_170 : zz_fetch zz_prog 137 170 = some (.bipush 126, 2, [], []) := zz_fetch_of p137 rfl rfl
theorem s137_170 : zz_Run zz_prog d 137 (170, [l0, l1, l2, l3, l4, l5, l6, l7], st, k, h) = zz_Run zz_prog d 137 (172, [l0, l1, l2, l3, l4, l5, l6, l7], .int 126 :: st, k, h) := zz_k_num f137_170 (congrArg (fun u => some (172, [l0, l1, l2, l3, l4, l5, l6, l7], Value.int u :: st)) (by decide : (Int8.ofInt 126).toInt32 = 126))
theorem f137_172 : zz_fetch zz_prog 137 172 = some (.iconst 5, 1, [], []) := zz_fetch_of p137 rfl rfl
theorem s137_172 : zz_Run zz_prog d 137 (172, [l0, l1, l2, l3, l4, l5, l6, l7], st, k, h) = zz_Run zz_prog d 137 (173, [l0, l1, l2, l3, l4, l5, l6, l7], .int 5 :: st, k, h) := zz_k_num f137_172 rfl
theorem f137_173 : zz_fetch zz_prog 137 173 = some (.iload_n 3, 1, [], []) := zz_fetch_of p137 rfl rfl
theorem s137_173 : zz_Run zz_prog d 137 (173, [l0, l1, l2, some (.int v), l4, l5, l6, l7], st, k, h) = zz_Run zz_prog d 137 (174, [l0, l1, l2, some (.int v), l4, l5, l6, l7], .int v :: st, k, h) := zz_k_num f137_173 rfl
theorem f137_174 : zz_fetch zz_prog 137 174 = some (.imul, 1, [], []) := zz_fetch_of p137 rfl rfl
theorem s137_174 : zz_Run zz_prog d 137 (174, [l0, l1, l2, l3, l4, l5, l6, l7], .int w :: .int v :: st, k, h) = zz_Run zz_prog d 137 (175, [l0, l1, l2, l3, l4, l5, l6, l7], .int (v * w) :: st, k, h) := zz_k_num f137_174 rfl
theorem f137_175 : zz_fetch zz_prog 137 175 = some (.iadd, 1, [], []) := zz_fetch_of p137 rfl rfl
theorem s137_175 : zz_Run zz_prog d 137 (175, [l0, l1, l2, l3, l4, l5, l6, l7], .int w :: .int v :: st, k, h) = zz_Run zz_prog d 137 (176, [l0, l1, l2, l3, l4, l5, l6, l7], .int (v + w) :: st, k, h) := zz_k_num f137_175 rfl
theorem f137_176 : zz_fetch zz_prog 137 176 = some (.iload 5, 2, [], []) := zz_fetch_of p137 rfl rfl
theorem s137_176 : zz_Run zz_prog d 137 (176, [l0, l1, l2, l3, l4, some (.int v), l6, l7], st, k, h) = zz_Run zz_prog d 137 (178, [l0, l1, l2, l3, l4, some (.int v), l6, l7], .int v :: st, k, h) := zz_k_num f137_176 rfl
theorem f137_178 : zz_fetch zz_prog 137 178 = some (.iadd, 1, [], []) := zz_fetch_of p137 rfl rfl
theorem s137_178 : zz_Run zz_prog d 137 (178, [l0, l1, l2, l3, l4, l5, l6, l7], .int w :: .int v :: st, k, h) = zz_Run zz_prog d 137 (179, [l0, l1, l2, l3, l4, l5, l6, l7], .int (v + w) :: st, k, h) := zz_k_num f137_178 rfl
theorem f137_179 : zz_fetch zz_prog 137 179 = some (.dup2, 1, [], []) := zz_fetch_of p137 rfl rfl
theorem s137_179 : zz_Run zz_prog d 137 (179, [l0, l1, l2, l3, l4, l5, l6, l7], .int v :: .ref a1 :: st, k, h) = zz_Run zz_prog d 137 (180, [l0, l1, l2, l3, l4, l5, l6, l7], .int v :: .ref a1 :: .int v :: .ref a1 :: st, k, h) := zz_k_num f137_179 rfl
theorem f137_180 : zz_fetch zz_prog 137 180 = some (.iaload, 1, [], []) := zz_fetch_of p137 rfl rfl
theorem s137_180 (ha : zz_isrd a = true) : zz_Run zz_prog d 137 (180, [l0, l1, l2, l3, l4, l5, l6, l7], .int v :: .ref a :: st, k, (zz_hp n I J ex)) = zz_ck (zz_in v (zz_ary n a)) (zz_Run zz_prog d 137 (181, [l0, l1, l2, l3, l4, l5, l6, l7], .int (I a v.toNatClampNeg) :: st, k, (zz_hp n I J ex))) := zz_k_iald f137_180 ha
theorem f137_181 : zz_fetch zz_prog 137 181 = some (.iload 7, 2, [], []) := zz_fetch_of p137 rfl rfl
theorem s137_181 : zz_Run zz_prog d 137 (181, [l0, l1, l2, l3, l4, l5, l6, some (.int v)], st, k, h) = zz_Run zz_prog d 137 (183, [l0, l1, l2, l3, l4, l5, l6, some (.int v)], .int v :: st, k, h) := zz_k_num f137_181 rfl
theorem f137_183 : zz_fetch zz_prog 137 183 = some (.iload 6, 2, [], []) := zz_fetch_of p137 rfl rfl
theorem s137_183 : zz_Run zz_prog d 137 (183, [l0, l1, l2, l3, l4, l5, some (.int v), l7], st, k, h) = zz_Run zz_prog d 137 (185, [l0, l1, l2, l3, l4, l5, some (.int v), l7], .int v :: st, k, h) := zz_k_num f137_183 rfl
theorem f137_185 : zz_fetch zz_prog 137 185 = some (.isub, 1, [], []) := zz_fetch_of p137 rfl rfl
theorem s137_185 : zz_Run zz_prog d 137 (185, [l0, l1, l2, l3, l4, l5, l6, l7], .int w :: .int v :: st, k, h) = zz_Run zz_prog d 137 (186, [l0, l1, l2, l3, l4, l5, l6, l7], .int (v - w) :: st, k, h) := zz_k_num f137_185 rfl
theorem f137_186 : zz_fetch zz_prog 137 186 = some (.iadd, 1, [], []) := zz_fetch_of p137 rfl rfl
theorem s137_186 : zz_Run zz_prog d 137 (186, [l0, l1, l2, l3, l4, l5, l6, l7], .int w :: .int v :: st, k, h) = zz_Run zz_prog d 137 (187, [l0, l1, l2, l3, l4, l5, l6, l7], .int (v + w) :: st, k, h) := zz_k_num f137_186 rfl
theorem f137_187 : zz_fetch zz_prog 137 187 = some (.iastore, 1, [], []) := zz_fetch_of p137 rfl rfl
theorem s137_187 (ha : zz_isar a = true) : zz_Run zz_prog d 137 (187, [l0, l1, l2, l3, l4, l5, l6, l7], .int w :: .int v :: .ref a :: st, k, (zz_hp n I J ex)) = zz_ck (zz_in v (zz_ary n a)) (zz_Run zz_prog d 137 (188, [l0, l1, l2, l3, l4, l5, l6, l7], st, false, (zz_hp n (zz_up I a v.toNatClampNeg w) J ex))) := zz_k_iast f137_187 ha
theorem f137_188 : zz_fetch zz_prog 137 188 = some (.aload_n 0, 1, [], []) := zz_fetch_of p137 rfl rfl
theorem s137_188 : zz_Run zz_prog d 137 (188, [some (.ref a), l1, l2, l3, l4, l5, l6, l7], st, k, h) = zz_Run zz_prog d 137 (189, [some (.ref a), l1, l2, l3, l4, l5, l6, l7], .ref a :: st, k, h) := zz_k_num f137_188 rfl
theorem f137_189 : zz_fetch zz_prog 137 189 = some (.getfield 7, 3, [2, 1, 3], []) := zz_fetch_of p137 rfl rfl
theorem s137_189 : zz_Run zz_prog d 137 (189, [l0, l1, l2, l3, l4, l5, l6, l7], .ref 23 :: st, k, (zz_hp n I J ex)) = zz_Run zz_prog d 137 (192, [l0, l1, l2, l3, l4, l5, l6, l7], .ref 24 :: st, k, (zz_hp n I J ex)) := zz_k_go f137_189 rfl rfl rfl
theorem f137_192 : zz_fetch zz_prog 137 192 = some (.bipush 126, 2, [], []) := zz_fetch_of p137 rfl rfl
theorem s137_192 : zz_Run zz_prog d 137 (192, [l0, l1, l2, l3, l4, l5, l6, l7], st, k, h) = zz_Run zz_prog d 137 (194, [l0, l1, l2, l3, l4, l5, l6, l7], .int 126 :: st, k, h) := zz_k_num f137_192 (congrArg (fun u => some (194, [l0, l1, l2, l3, l4, l5, l6, l7], Value.int u :: st)) (by decide : (Int8.ofInt 126).toInt32 = 126))
theorem f137_194 : zz_fetch zz_prog 137 194 = some (.iconst 5, 1, [], []) := zz_fetch_of p137 rfl rfl
theorem s137_194 : zz_Run zz_prog d 137 (194, [l0, l1, l2, l3, l4, l5, l6, l7], st, k, h) = zz_Run zz_prog d 137 (195, [l0, l1, l2, l3, l4, l5, l6, l7], .int 5 :: st, k, h) := zz_k_num f137_194 rfl
theorem f137_195 : zz_fetch zz_prog 137 195 = some (.iload 4, 2, [], []) := zz_fetch_of p137 rfl rfl
theorem s137_195 : zz_Run zz_prog d 137 (195, [l0, l1, l2, l3, some (.int v), l5, l6, l7], st, k, h) = zz_Run zz_prog d 137 (197, [l0, l1, l2, l3, some (.int v), l5, l6, l7], .int v :: st, k, h) := zz_k_num f137_195 rfl
theorem f137_197 : zz_fetch zz_prog 137 197 = some (.imul, 1, [], []) := zz_fetch_of p137 rfl rfl
theorem s137_197 : zz_Run zz_prog d 137 (197, [l0, l1, l2, l3, l4, l5, l6, l7], .int w :: .int v :: st, k, h) = zz_Run zz_prog d 137 (198, [l0, l1, l2, l3, l4, l5, l6, l7], .int (v * w) :: st, k, h) := zz_k_num f137_197 rfl
theorem f137_198 : zz_fetch zz_prog 137 198 = some (.iadd, 1, [], []) := zz_fetch_of p137 rfl rfl
theorem s137_198 : zz_Run zz_prog d 137 (198, [l0, l1, l2, l3, l4, l5, l6, l7], .int w :: .int v :: st, k, h) = zz_Run zz_prog d 137 (199, [l0, l1, l2, l3, l4, l5, l6, l7], .int (v + w) :: st, k, h) := zz_k_num f137_198 rfl
theorem f137_199 : zz_fetch zz_prog 137 199 = some (.iload 5, 2, [], []) := zz_fetch_of p137 rfl rfl
theorem s137_199 : zz_Run zz_prog d 137 (199, [l0, l1, l2, l3, l4, some (.int v), l6, l7], st, k, h) = zz_Run zz_prog d 137 (201, [l0, l1, l2, l3, l4, some (.int v), l6, l7], .int v :: st, k, h) := zz_k_num f137_199 rfl
theorem f137_201 : zz_fetch zz_prog 137 201 = some (.iadd, 1, [], []) := zz_fetch_of p137 rfl rfl
theorem s137_201 : zz_Run zz_prog d 137 (201, [l0, l1, l2, l3, l4, l5, l6, l7], .int w :: .int v :: st, k, h) = zz_Run zz_prog d 137 (202, [l0, l1, l2, l3, l4, l5, l6, l7], .int (v + w) :: st, k, h) := zz_k_num f137_201 rfl
theorem f137_202 : zz_fetch zz_prog 137 202 = some (.dup2, 1, [], []) := zz_fetch_of p137 rfl rfl
theorem s137_202 : zz_Run zz_prog d 137 (202, [l0, l1, l2, l3, l4, l5, l6, l7], .int v :: .ref a1 :: st, k, h) = zz_Run zz_prog d 137 (203, [l0, l1, l2, l3, l4, l5, l6, l7], .int v :: .ref a1 :: .int v :: .ref a1 :: st, k, h) := zz_k_num f137_202 rfl
theorem f137_203 : zz_fetch zz_prog 137 203 = some (.iaload, 1, [], []) := zz_fetch_of p137 rfl rfl
theorem s137_203 (ha : zz_isrd a = true) : zz_Run zz_prog d 137 (203, [l0, l1, l2, l3, l4, l5, l6, l7], .int v :: .ref a :: st, k, (zz_hp n I J ex)) = zz_ck (zz_in v (zz_ary n a)) (zz_Run zz_prog d 137 (204, [l0, l1, l2, l3, l4, l5, l6, l7], .int (I a v.toNatClampNeg) :: st, k, (zz_hp n I J ex))) := zz_k_iald f137_203 ha
theorem f137_204 : zz_fetch zz_prog 137 204 = some (.iload 6, 2, [], []) := zz_fetch_of p137 rfl rfl
theorem s137_204 : zz_Run zz_prog d 137 (204, [l0, l1, l2, l3, l4, l5, some (.int v), l7], st, k, h) = zz_Run zz_prog d 137 (206, [l0, l1, l2, l3, l4, l5, some (.int v), l7], .int v :: st, k, h) := zz_k_num f137_204 rfl
theorem f137_206 : zz_fetch zz_prog 137 206 = some (.iload 7, 2, [], []) := zz_fetch_of p137 rfl rfl
theorem s137_206 : zz_Run zz_prog d 137 (206, [l0, l1, l2, l3, l4, l5, l6, some (.int v)], st, k, h) = zz_Run zz_prog d 137 (208, [l0, l1, l2, l3, l4, l5, l6, some (.int v)], .int v :: st, k, h) := zz_k_num f137_206 rfl
theorem f137_208 : zz_fetch zz_prog 137 208 = some (.isub, 1, [], []) := zz_fetch_of p137 rfl rfl
theorem s137_208 : zz_Run zz_prog d 137 (208, [l0, l1, l2, l3, l4, l5, l6, l7], .int w :: .int v :: st, k, h) = zz_Run zz_prog d 137 (209, [l0, l1, l2, l3, l4, l5, l6, l7], .int (v - w) :: st, k, h) := zz_k_num f137_208 rfl
theorem f137_209 : zz_fetch zz_prog 137 209 = some (.iadd, 1, [], []) := zz_fetch_of p137 rfl rfl
theorem s137_209 : zz_Run zz_prog d 137 (209, [l0, l1, l2, l3, l4, l5, l6, l7], .int w :: .int v :: st, k, h) = zz_Run zz_prog d 137 (210, [l0, l1, l2, l3, l4, l5, l6, l7], .int (v + w) :: st, k, h) := zz_k_num f137_209 rfl
theorem f137_210 : zz_fetch zz_prog 137 210 = some (.iastore, 1, [], []) := zz_fetch_of p137 rfl rfl
theorem s137_210 (ha : zz_isar a = true) : zz_Run zz_prog d 137 (210, [l0, l1, l2, l3, l4, l5, l6, l7], .int w :: .int v :: .ref a :: st, k, (zz_hp n I J ex)) = zz_ck (zz_in v (zz_ary n a)) (zz_Run zz_prog d 137 (211, [l0, l1, l2, l3, l4, l5, l6, l7], st, false, (zz_hp n (zz_up I a v.toNatClampNeg w) J ex))) := zz_k_iast f137_210 ha
theorem f137_211 : zz_fetch zz_prog 137 211 = some (.iload_n 2, 1, [], []) := zz_fetch_of p137 rfl rfl
theorem s137_211 : zz_Run zz_prog d 137 (211, [l0, l1, some (.int v), l3, l4, l5, l6, l7], st, k, h) = zz_Run zz_prog d 137 (212, [l0, l1, some (.int v), l3, l4, l5, l6, l7], .int v :: st, k, h) := zz_k_num f137_211 rfl
theorem f137_212 : zz_fetch zz_prog 137 212 = some (.iload 6, 2, [], []) := zz_fetch_of p137 rfl rfl
theorem s137_212 : zz_Run zz_prog d 137 (212, [l0, l1, l2, l3, l4, l5, some (.int v), l7], st, k, h) = zz_Run zz_prog d 137 (214, [l0, l1, l2, l3, l4, l5, some (.int v), l7], .int v :: st, k, h) := zz_k_num f137_212 rfl
theorem f137_214 : zz_fetch zz_prog 137 214 = some (.iadd, 1, [], []) := zz_fetch_of p137 rfl rfl
theorem s137_214 : zz_Run zz_prog d 137 (214, [l0, l1, l2, l3, l4, l5, l6, l7], .int w :: .int v :: st, k, h) = zz_Run zz_prog d 137 (215, [l0, l1, l2, l3, l4, l5, l6, l7], .int (v + w) :: st, k, h) := zz_k_num f137_214 rfl
theorem f137_215 : zz_fetch zz_prog 137 215 = some (.iload 7, 2, [], []) := zz_fetch_of p137 rfl rfl
theorem s137_215 : zz_Run zz_prog d 137 (215, [l0, l1, l2, l3, l4, l5, l6, some (.int v)], st, k, h) = zz_Run zz_prog d 137 (217, [l0, l1, l2, l3, l4, l5, l6, some (.int v)], .int v :: st, k, h) := zz_k_num f137_215 rfl
theorem f137_217 : zz_fetch zz_prog 137 217 = some (.iadd, 1, [], []) := zz_fetch_of p137 rfl rfl
theorem s137_217 : zz_Run zz_prog d 137 (217, [l0, l1, l2, l3, l4, l5, l6, l7], .int w :: .int v :: st, k, h) = zz_Run zz_prog d 137 (218, [l0, l1, l2, l3, l4, l5, l6, l7], .int (v + w) :: st, k, h) := zz_k_num f137_217 rfl
theorem f137_218 : zz_fetch zz_prog 137 218 = some (.istore_n 2, 1, [], []) := zz_fetch_of p137 rfl rfl
theorem s137_218 : zz_Run zz_prog d 137 (218, [l0, l1, l2, l3, l4, l5, l6, l7], .int v :: st, k, h) = zz_sl l1 (zz_Run zz_prog d 137 (219, [l0, l1, some (.int v), l3, l4, l5, l6, l7], st, k, h)) := zz_k_st (j := 2) (u := .int v) f137_218 rfl (fun q hq => by cases hq) rfl (show 2 < 8 by decide) (by cases l1 <;> rfl) rfl
theorem f137_219 : zz_fetch zz_prog 137 219 = some (.iinc 5 1, 3, [], []) := zz_fetch_of p137 rfl rfl
theorem s137_219 : zz_Run zz_prog d 137 (219, [l0, l1, l2, l3, l4, some (.int v), l6, l7], st, k, h) = zz_sl l4 (zz_Run zz_prog d 137 (222, [l0, l1, l2, l3, l4, some (.int (v + 1)), l6, l7], st, k, h)) := zz_k_st (j := 5) (u := .int (v + 1)) f137_219 rfl (fun q hq => by cases hq) rfl (show 5 < 8 by decide) (by cases l4 <;> rfl) rfl
theorem f137_222 : zz_fetch zz_prog 137 222 = some (.goto (-98), 3, [124], []) := zz_fetch_of p137 rfl rfl
theorem s137_222 : zz_Run zz_prog d 137 (222, [l0, l1, l2, l3, l4, l5, l6, l7], st, k, h) = zz_Run zz_prog d 137 (124, [l0, l1, l2, l3, l4, l5, l6, l7], st, k, h) := zz_k_num f137_222 rfl
theorem f137_225 : zz_fetch zz_prog 137 225 = some (.aload_n 0, 1, [], []) := zz_fetch_of p137 rfl rfl
theorem s137_225 : zz_Run zz_prog d 137 (225, [some (.ref a), l1, l2, l3, l4, l5, l6, l7], st, k, h) = zz_Run zz_prog d 137 (226, [some (.ref a), l1, l2, l3, l4, l5, l6, l7], .ref a :: st, k, h) := zz_k_num f137_225 rfl
theorem f137_226 : zz_fetch zz_prog 137 226 = some (.getfield 7, 3, [2, 1, 3], []) := zz_fetch_of p137 rfl rfl
theorem s137_226 : zz_Run zz_prog d 137 (226, [l0, l1, l2, l3, l4, l5, l6, l7], .ref 23 :: st, k, (zz_hp n I J ex)) = zz_Run zz_prog d 137 (229, [l0, l1, l2, l3, l4, l5, l6, l7], .ref 24 :: st, k, (zz_hp n I J ex)) := zz_k_go f137_226 rfl rfl rfl
theorem f137_229 : zz_fetch zz_prog 137 229 = some (.sipush 186, 3, [], []) := zz_fetch_of p137 rfl rfl
theorem s137_229 : zz_Run zz_prog d 137 (229, [l0, l1, l2, l3, l4, l5, l6, l7], st, k, h) = zz_Run zz_prog d 137 (232, [l0, l1, l2, l3, l4, l5, l6, l7], .int 186 :: st, k, h) := zz_k_num f137_229 (congrArg (fun u => some (232, [l0, l1, l2, l3, l4, l5, l6, l7], Value.int u :: st)) (by decide : (Int16.ofInt 186).toInt32 = 186))
theorem f137_232 : zz_fetch zz_prog 137 232 = some (.iconst (-1), 1, [], []) := zz_fetch_of p137 rfl rfl
theorem s137_232 : zz_Run zz_prog d 137 (232, [l0, l1, l2, l3, l4, l5, l6, l7], st, k, h) = zz_Run zz_prog d 137 (233, [l0, l1, l2, l3, l4, l5, l6, l7], .int (-1) :: st, k, h) := zz_k_num f137_232 rfl
theorem f137_233 : zz_fetch zz_prog 137 233 = some (.iastore, 1, [], []) := zz_fetch_of p137 rfl rfl
theorem s137_233 (ha : zz_isar a = true) : zz_Run zz_prog d 137 (233, [l0, l1, l2, l3, l4, l5, l6, l7], .int w :: .int v :: .ref a :: st, k, (zz_hp n I J ex)) = zz_ck (zz_in v (zz_ary n a)) (zz_Run zz_prog d 137 (234, [l0, l1, l2, l3, l4, l5, l6, l7], st, false, (zz_hp n (zz_up I a v.toNatClampNeg w) J ex))) := zz_k_iast f137_233 ha
theorem f137_234 : zz_fetch zz_prog 137 234 = some (.aload_n 0, 1, [], []) := zz_fetch_of p137 rfl rfl
theorem s137_234 : zz_Run zz_prog d 137 (234, [some (.ref a), l1, l2, l3, l4, l5, l6, l7], st, k, h) = zz_Run zz_prog d 137 (235, [some (.ref a), l1, l2, l3, l4, l5, l6, l7], .ref a :: st, k, h) := zz_k_num f137_234 rfl
theorem f137_235 : zz_fetch zz_prog 137 235 = some (.invokevirtual 175, 3, [0, 116, 1, 2], []) := zz_fetch_of p137 rfl rfl
theorem s137_235 : zz_Run zz_prog d 137 (235, [l0, l1, l2, l3, l4, l5, l6, l7], [.ref 23], k, (zz_hp n I J ex)) = zz_ret (zz_Call zz_prog d 116 [.ref 23] (zz_hp n I J ex)) (fun v k' h' => zz_Run zz_prog d 137 (238, [l0, l1, l2, l3, l4, l5, l6, l7], v.toList ++ [], k && k', h')) (fun a k' h' => zz_th d 137 235 a [l0, l1, l2, l3, l4, l5, l6, l7] (k && k') h') := zz_k_call f137_235 rfl rfl rfl
theorem f137_238 : zz_fetch zz_prog 137 238 = some (.iload_n 2, 1, [], []) := zz_fetch_of p137 rfl rfl
theorem s137_238 : zz_Run zz_prog d 137 (238, [l0, l1, some (.int v), l3, l4, l5, l6, l7], st, k, h) = zz_Run zz_prog d 137 (239, [l0, l1, some (.int v), l3, l4, l5, l6, l7], .int v :: st, k, h) := zz_k_num f137_238 rfl
theorem f137_239 : zz_fetch zz_prog 137 239 = some (.ireturn, 1, [0], []) := zz_fetch_of p137 rfl rfl
theorem s137_239 : zz_Run zz_prog d 137 (239, [l0, l1, l2, l3, l4, l5, l6, l7], [.int v], k, h) = some (.inl (some (.int v)), k, h) := zz_k_stop f137_239 rfl rfl rfl
end S137
section S138
variable {d n j : Nat} {l0 l1 l2 : Option Value} {st : List Value} {k : Bool} {h : zz_H} {v w v1 v2 : Int32} {y y1 : Int64} {a a1 a2 : Nat} {b0 b1 b2 b3 b4 b5 b6 b7 b8 : Value} {I : Nat → Nat → Int32} {J : Nat → Nat → Int64} {ex : List (Nat × Nat)}
theorem p138 : zz_prog 138 = some zz_m138 := rfl
theorem e138 (g0 : Nat) : zz_Call zz_prog (d + 1) 138 [.ref g0] h = zz_Run zz_prog d 138 (0, [some (.ref g0), none, none], [], true, h) := rfl
theorem t138 (pc : Nat) (L : List (Option Value)) : zz_th d 138 pc a L k h = some (.inr a, k, h) := zz_th_out p138 rfl
theorem f138_0 : zz_fetch zz_prog 138 0 = some (.aload_n 0, 1, [], []) := zz_fetch_of p138 rfl rfl
theorem s138_0 : zz_Run zz_prog d 138 (0, [some (.ref a), l1, l2], st, k, h) = zz_Run zz_prog d 138 (1, [some (.ref a), l1, l2], .ref a :: st, k, h) := zz_k_num f138_0 rfl
theorem f138_1 : zz_fetch zz_prog 138 1 = some (.aload_n 0, 1, [], []) := zz_fetch_of p138 rfl rfl
theorem s138_1 : zz_Run zz_prog d 138 (1, [some (.ref a), l1, l2], st, k, h) = zz_Run zz_prog d 138 (2, [some (.ref a), l1, l2], .ref a :: st, k, h) := zz_k_num f138_1 rfl
theorem f138_2 : zz_fetch zz_prog 138 2 = some (.getfield 7, 3, [2, 1, 3], []) := zz_fetch_of p138 rfl rfl
theorem s138_2 : zz_Run zz_prog d 138 (2, [l0, l1, l2], .ref 23 :: st, k, (zz_hp n I J ex)) = zz_Run zz_prog d 138 (5, [l0, l1, l2], .ref 24 :: st, k, (zz_hp n I J ex)) := zz_k_go f138_2 rfl rfl rfl
theorem f138_5 : zz_fetch zz_prog 138 5 = some (.sipush 180, 3, [], []) := zz_fetch_of p138 rfl rfl
theorem s138_5 : zz_Run zz_prog d 138 (5, [l0, l1, l2], st, k, h) = zz_Run zz_prog d 138 (8, [l0, l1, l2], .int 180 :: st, k, h) := zz_k_num f138_5 (congrArg (fun u => some (8, [l0, l1, l2], Value.int u :: st)) (by decide : (Int16.ofInt 180).toInt32 = 180))
theorem f138_8 : zz_fetch zz_prog 138 8 = some (.iaload, 1, [], []) := zz_fetch_of p138 rfl rfl
theorem s138_8 (ha : zz_isrd a = true) : zz_Run zz_prog d 138 (8, [l0, l1, l2], .int v :: .ref a :: st, k, (zz_hp n I J ex)) = zz_ck (zz_in v (zz_ary n a)) (zz_Run zz_prog d 138 (9, [l0, l1, l2], .int (I a v.toNatClampNeg) :: st, k, (zz_hp n I J ex))) := zz_k_iald f138_8 ha
theorem f138_9 : zz_fetch zz_prog 138 9 = some (.bipush 6, 2, [], []) := zz_fetch_of p138 rfl rfl
theorem s138_9 : zz_Run zz_prog d 138 (9, [l0, l1, l2], st, k, h) = zz_Run zz_prog d 138 (11, [l0, l1, l2], .int 6 :: st, k, h) := zz_k_num f138_9 (congrArg (fun u => some (11, [l0, l1, l2], Value.int u :: st)) (by decide : (Int8.ofInt 6).toInt32 = 6))
theorem f138_11 : zz_fetch zz_prog 138 11 = some (.if_icmp .ne 32, 3, [43], []) := zz_fetch_of p138 rfl rfl
theorem s138_11 : zz_Run zz_prog d 138 (11, [l0, l1, l2], .int w :: .int v :: st, k, h) = if ¬ v = w then zz_Run zz_prog d 138 (43, [l0, l1, l2], st, k, h) else zz_Run zz_prog d 138 (14, [l0, l1, l2], st, k, h) := zz_k_br (¬ v = w) rfl (zz_k_num f138_11 rfl)
theorem f138_14 : zz_fetch zz_prog 138 14 = some (.aload_n 0, 1, [], []) := zz_fetch_of p138 rfl rfl
theorem s138_14 : zz_Run zz_prog d 138 (14, [some (.ref a), l1, l2], st, k, h) = zz_Run zz_prog d 138 (15, [some (.ref a), l1, l2], .ref a :: st, k, h) := zz_k_num f138_14 rfl
theorem f138_15 : zz_fetch zz_prog 138 15 = some (.getfield 7, 3, [2, 1, 3], []) := zz_fetch_of p138 rfl rfl
theorem s138_15 : zz_Run zz_prog d 138 (15, [l0, l1, l2], .ref 23 :: st, k, (zz_hp n I J ex)) = zz_Run zz_prog d 138 (18, [l0, l1, l2], .ref 24 :: st, k, (zz_hp n I J ex)) := zz_k_go f138_15 rfl rfl rfl
theorem f138_18 : zz_fetch zz_prog 138 18 = some (.sipush 183, 3, [], []) := zz_fetch_of p138 rfl rfl
theorem s138_18 : zz_Run zz_prog d 138 (18, [l0, l1, l2], st, k, h) = zz_Run zz_prog d 138 (21, [l0, l1, l2], .int 183 :: st, k, h) := zz_k_num f138_18 (congrArg (fun u => some (21, [l0, l1, l2], Value.int u :: st)) (by decide : (Int16.ofInt 183).toInt32 = 183))
theorem f138_21 : zz_fetch zz_prog 138 21 = some (.iaload, 1, [], []) := zz_fetch_of p138 rfl rfl
theorem s138_21 (ha : zz_isrd a = true) : zz_Run zz_prog d 138 (21, [l0, l1, l2], .int v :: .ref a :: st, k, (zz_hp n I J ex)) = zz_ck (zz_in v (zz_ary n a)) (zz_Run zz_prog d 138 (22, [l0, l1, l2], .int (I a v.toNatClampNeg) :: st, k, (zz_hp n I J ex))) := zz_k_iald f138_21 ha
theorem f138_22 : zz_fetch zz_prog 138 22 = some (.bipush 16, 2, [], []) := zz_fetch_of p138 rfl rfl
theorem s138_22 : zz_Run zz_prog d 138 (22, [l0, l1, l2], st, k, h) = zz_Run zz_prog d 138 (24, [l0, l1, l2], .int 16 :: st, k, h) := zz_k_num f138_22 (congrArg (fun u => some (24, [l0, l1, l2], Value.int u :: st)) (by decide : (Int8.ofInt 16).toInt32 = 16))
theorem f138_24 : zz_fetch zz_prog 138 24 = some (.if_icmp .eq 19, 3, [43], []) := zz_fetch_of p138 rfl rfl
theorem s138_24 : zz_Run zz_prog d 138 (24, [l0, l1, l2], .int w :: .int v :: st, k, h) = if v = w then zz_Run zz_prog d 138 (43, [l0, l1, l2], st, k, h) else zz_Run zz_prog d 138 (27, [l0, l1, l2], st, k, h) := zz_k_br (v = w) rfl (zz_k_num f138_24 rfl)
theorem f138_27 : zz_fetch zz_prog 138 27 = some (.aload_n 0, 1, [], []) := zz_fetch_of p138 rfl rfl
theorem s138_27 : zz_Run zz_prog d 138 (27, [some (.ref a), l1, l2], st, k, h) = zz_Run zz_prog d 138 (28, [some (.ref a), l1, l2], .ref a :: st, k, h) := zz_k_num f138_27 rfl
theorem f138_28 : zz_fetch zz_prog 138 28 = some (.aload_n 0, 1, [], []) := zz_fetch_of p138 rfl rfl
theorem s138_28 : zz_Run zz_prog d 138 (28, [some (.ref a), l1, l2], st, k, h) = zz_Run zz_prog d 138 (29, [some (.ref a), l1, l2], .ref a :: st, k, h) := zz_k_num f138_28 rfl
theorem f138_29 : zz_fetch zz_prog 138 29 = some (.getfield 7, 3, [2, 1, 3], []) := zz_fetch_of p138 rfl rfl
theorem s138_29 : zz_Run zz_prog d 138 (29, [l0, l1, l2], .ref 23 :: st, k, (zz_hp n I J ex)) = zz_Run zz_prog d 138 (32, [l0, l1, l2], .ref 24 :: st, k, (zz_hp n I J ex)) := zz_k_go f138_29 rfl rfl rfl
theorem f138_32 : zz_fetch zz_prog 138 32 = some (.sipush 181, 3, [], []) := zz_fetch_of p138 rfl rfl
theorem s138_32 : zz_Run zz_prog d 138 (32, [l0, l1, l2], st, k, h) = zz_Run zz_prog d 138 (35, [l0, l1, l2], .int 181 :: st, k, h) := zz_k_num f138_32 (congrArg (fun u => some (35, [l0, l1, l2], Value.int u :: st)) (by decide : (Int16.ofInt 181).toInt32 = 181))
theorem f138_35 : zz_fetch zz_prog 138 35 = some (.iaload, 1, [], []) := zz_fetch_of p138 rfl rfl
theorem s138_35 (ha : zz_isrd a = true) : zz_Run zz_prog d 138 (35, [l0, l1, l2], .int v :: .ref a :: st, k, (zz_hp n I J ex)) = zz_ck (zz_in v (zz_ary n a)) (zz_Run zz_prog d 138 (36, [l0, l1, l2], .int (I a v.toNatClampNeg) :: st, k, (zz_hp n I J ex))) := zz_k_iald f138_35 ha
theorem f138_36 : zz_fetch zz_prog 138 36 = some (.iconst 3, 1, [], []) := zz_fetch_of p138 rfl rfl
theorem s138_36 : zz_Run zz_prog d 138 (36, [l0, l1, l2], st, k, h) = zz_Run zz_prog d 138 (37, [l0, l1, l2], .int 3 :: st, k, h) := zz_k_num f138_36 rfl
theorem f138_37 : zz_fetch zz_prog 138 37 = some (.invokevirtual 129, 3, [0, 109, 3, 2], []) := zz_fetch_of p138 rfl rfl
theorem s138_37 : zz_Run zz_prog d 138 (37, [l0, l1, l2], [b0, b1, .ref 23, b3], k, (zz_hp n I J ex)) = zz_ret (zz_Call zz_prog d 109 [.ref 23, b1, b0] (zz_hp n I J ex)) (fun v k' h' => zz_Run zz_prog d 138 (40, [l0, l1, l2], v.toList ++ [b3], k && k', h')) (fun a k' h' => zz_th d 138 37 a [l0, l1, l2] (k && k') h') := zz_k_call f138_37 rfl rfl rfl
theorem f138_40 : zz_fetch zz_prog 138 40 = some (.ifCond .ne 7, 3, [47], []) := zz_fetch_of p138 rfl rfl
theorem s138_40 : zz_Run zz_prog d 138 (40, [l0, l1, l2], .int v :: st, k, h) = if ¬ v = 0 then zz_Run zz_prog d 138 (47, [l0, l1, l2], st, k, h) else zz_Run zz_prog d 138 (43, [l0, l1, l2], st, k, h) := zz_k_br (¬ v = 0) rfl (zz_k_num f138_40 rfl)
theorem f138_43 : zz_fetch zz_prog 138 43 = some (.iconst 1, 1, [], []) := zz_fetch_of p138 rfl rfl
theorem s138_43 : zz_Run zz_prog d 138 (43, [l0, l1, l2], st, k, h) = zz_Run zz_prog d 138 (44, [l0, l1, l2], .int 1 :: st, k, h) := zz_k_num f138_43 rfl
theorem f138_44 : zz_fetch zz_prog 138 44 = some (.goto 4, 3, [48], []) := zz_fetch_of p138 rfl rfl
theorem s138_44 : zz_Run zz_prog d 138 (44, [l0, l1, l2], st, k, h) = zz_Run zz_prog d 138 (48, [l0, l1, l2], st, k, h) := zz_k_num f138_44 rfl
theorem f138_47 : zz_fetch zz_prog 138 47 = some (.iconst 0, 1, [], []) := zz_fetch_of p138 rfl rfl
theorem s138_47 : zz_Run zz_prog d 138 (47, [l0, l1, l2], st, k, h) = zz_Run zz_prog d 138 (48, [l0, l1, l2], .int 0 :: st, k, h) := zz_k_num f138_47 rfl
theorem f138_48 : zz_fetch zz_prog 138 48 = some (.iconst 0, 1, [], []) := zz_fetch_of p138 rfl rfl
theorem s138_48 : zz_Run zz_prog d 138 (48, [l0, l1, l2], st, k, h) = zz_Run zz_prog d 138 (49, [l0, l1, l2], .int 0 :: st, k, h) := zz_k_num f138_48 rfl
theorem f138_49 : zz_fetch zz_prog 138 49 = some (.iconst 0, 1, [], []) := zz_fetch_of p138 rfl rfl
theorem s138_49 : zz_Run zz_prog d 138 (49, [l0, l1, l2], st, k, h) = zz_Run zz_prog d 138 (50, [l0, l1, l2], .int 0 :: st, k, h) := zz_k_num f138_49 rfl
theorem f138_50 : zz_fetch zz_prog 138 50 = some (.invokevirtual 89, 3, [0, 95, 4, 2], []) := zz_fetch_of p138 rfl rfl
theorem s138_50 : zz_Run zz_prog d 138 (50, [l0, l1, l2], [b0, b1, b2, .ref 23], k, (zz_hp n I J ex)) = zz_ret (zz_Call zz_prog d 95 [.ref 23, b2, b1, b0] (zz_hp n I J ex)) (fun v k' h' => zz_Run zz_prog d 138 (53, [l0, l1, l2], v.toList ++ [], k && k', h')) (fun a k' h' => zz_th d 138 50 a [l0, l1, l2] (k && k') h') := zz_k_call f138_50 rfl rfl rfl
theorem f138_53 : zz_fetch zz_prog 138 53 = some (.ifCond .eq 5, 3, [58], []) := zz_fetch_of p138 rfl rfl
theorem s138_53 : zz_Run zz_prog d 138 (53, [l0, l1, l2], .int v :: st, k, h) = if v = 0 then zz_Run zz_prog d 138 (58, [l0, l1, l2], st, k, h) else zz_Run zz_prog d 138 (56, [l0, l1, l2], st, k, h) := zz_k_br (v = 0) rfl (zz_k_num f138_53 rfl)
theorem f138_56 : zz_fetch zz_prog 138 56 = some (.iconst 0, 1, [], []) := zz_fetch_of p138 rfl rfl
theorem s138_56 : zz_Run zz_prog d 138 (56, [l0, l1, l2], st, k, h) = zz_Run zz_prog d 138 (57, [l0, l1, l2], .int 0 :: st, k, h) := zz_k_num f138_56 rfl
theorem f138_57 : zz_fetch zz_prog 138 57 = some (.ireturn, 1, [0], []) := zz_fetch_of p138 rfl rfl
theorem s138_57 : zz_Run zz_prog d 138 (57, [l0, l1, l2], [.int v], k, h) = some (.inl (some (.int v)), k, h) := zz_k_stop f138_57 rfl rfl rfl
theorem f138_58 : zz_fetch zz_prog 138 58 = some (.aload_n 0, 1, [], []) := zz_fetch_of p138 rfl rfl
theorem s138_58 : zz_Run zz_prog d 138 (58, [some (.ref a), l1, l2], st, k, h) = zz_Run zz_prog d 138 (59, [some (.ref a), l1, l2], .ref a :: st, k, h) := zz_k_num f138_58 rfl
theorem f138_59 : zz_fetch zz_prog 138 59 = some (.invokevirtual 158, 3, [0, 117, 1, 2], []) := zz_fetch_of p138 rfl rfl
theorem s138_59 : zz_Run zz_prog d 138 (59, [l0, l1, l2], [.ref 23], k, (zz_hp n I J ex)) = zz_ret (zz_Call zz_prog d 117 [.ref 23] (zz_hp n I J ex)) (fun v k' h' => zz_Run zz_prog d 138 (62, [l0, l1, l2], v.toList ++ [], k && k', h')) (fun a k' h' => zz_th d 138 59 a [l0, l1, l2] (k && k') h') := zz_k_call f138_59 rfl rfl rfl
theorem f138_62 : zz_fetch zz_prog 138 62 = some (.aload_n 0, 1, [], []) := zz_fetch_of p138 rfl rfl
theorem s138_62 : zz_Run zz_prog d 138 (62, [some (.ref a), l1, l2], st, k, h) = zz_Run zz_prog d 138 (63, [some (.ref a), l1, l2], .ref a :: st, k, h) := zz_k_num f138_62 rfl
theorem f138_63 : zz_fetch zz_prog 138 63 = some (.getfield 7, 3, [2, 1, 3], []) := zz_fetch_of p138 rfl rfl
theorem s138_63 : zz_Run zz_prog d 138 (63, [l0, l1, l2], .ref 23 :: st, k, (zz_hp n I J ex)) = zz_Run zz_prog d 138 (66, [l0, l1, l2], .ref 24 :: st, k, (zz_hp n I J ex)) := zz_k_go f138_63 rfl rfl rfl
theorem f138_66 : zz_fetch zz_prog 138 66 = some (.sipush 181, 3, [], []) := zz_fetch_of p138 rfl rfl
theorem s138_66 : zz_Run zz_prog d 138 (66, [l0, l1, l2], st, k, h) = zz_Run zz_prog d 138 (69, [l0, l1, l2], .int 181 :: st, k, h) := zz_k_num f138_66 (congrArg (fun u => some (69, [l0, l1, l2], Value.int u :: st)) (by decide : (Int16.ofInt 181).toInt32 = 181))
theorem f138_69 : zz_fetch zz_prog 138 69 = some (.iaload, 1, [], []) := zz_fetch_of p138 rfl rfl
theorem s138_69 (ha : zz_isrd a = true) : zz_Run zz_prog d 138 (69, [l0, l1, l2], .int v :: .ref a :: st, k, (zz_hp n I J ex)) = zz_ck (zz_in v (zz_ary n a)) (zz_Run zz_prog d 138 (70, [l0, l1, l2], .int (I a v.toNatClampNeg) :: st, k, (zz_hp n I J ex))) := zz_k_iald f138_69 ha
theorem f138_70 : zz_fetch zz_prog 138 70 = some (.istore_n 1, 1, [], []) := zz_fetch_of p138 rfl rfl
theorem s138_70 : zz_Run zz_prog d 138 (70, [l0, l1, l2], .int v :: st, k, h) = zz_sl l0 (zz_Run zz_prog d 138 (71, [l0, some (.int v), l2], st, k, h)) := zz_k_st (j := 1) (u := .int v) f138_70 rfl (fun q hq => by cases hq) rfl (show 1 < 3 by decide) (by cases l0 <;> rfl) rfl
theorem f138_71 : zz_fetch zz_prog 138 71 = some (.aload_n 0, 1, [], []) := zz_fetch_of p138 rfl rfl
theorem s138_71 : zz_Run zz_prog d 138 (71, [some (.ref a), l1, l2], st, k, h) = zz_Run zz_prog d 138 (72, [some (.ref a), l1, l2], .ref a :: st, k, h) := zz_k_num f138_71 rfl
theorem f138_72 : zz_fetch zz_prog 138 72 = some (.getfield 43, 3, [2, 14, 3], []) := zz_fetch_of p138 rfl rfl
theorem s138_72 : zz_Run zz_prog d 138 (72, [l0, l1, l2], .ref 23 :: st, k, (zz_hp n I J ex)) = zz_Run zz_prog d 138 (75, [l0, l1, l2], .ref 35 :: st, k, (zz_hp n I J ex)) := zz_k_go f138_72 rfl rfl rfl
theorem f138_75 : zz_fetch zz_prog 138 75 = some (.aload_n 0, 1, [], []) := zz_fetch_of p138 rfl rfl
theorem s138_75 : zz_Run zz_prog d 138 (75, [some (.ref a), l1, l2], st, k, h) = zz_Run zz_prog d 138 (76, [some (.ref a), l1, l2], .ref a :: st, k, h) := zz_k_num f138_75 rfl
theorem f138_76 : zz_fetch zz_prog 138 76 = some (.getfield 7, 3, [2, 1, 3], []) := zz_fetch_of p138 rfl rfl
theorem s138_76 : zz_Run zz_prog d 138 (76, [l0, l1, l2], .ref 23 :: st, k, (zz_hp n I J ex)) = zz_Run zz_prog d 138 (79, [l0, l1, l2], .ref 24 :: st, k, (zz_hp n I J ex)) := zz_k_go f138_76 rfl rfl rfl
theorem f138_79 : zz_fetch zz_prog 138 79 = some (.sipush 183, 3, [], []) := zz_fetch_of p138 rfl rfl
theorem s138_79 : zz_Run zz_prog d 138 (79, [l0, l1, l2], st, k, h) = zz_Run zz_prog d 138 (82, [l0, l1, l2], .int 183 :: st, k, h) := zz_k_num f138_79 (congrArg (fun u => some (82, [l0, l1, l2], Value.int u :: st)) (by decide : (Int16.ofInt 183).toInt32 = 183))
theorem f138_82 : zz_fetch zz_prog 138 82 = some (.iaload, 1, [], []) := zz_fetch_of p138 rfl rfl
theorem s138_82 (ha : zz_isrd a = true) : zz_Run zz_prog d 138 (82, [l0, l1, l2], .int v :: .ref a :: st, k, (zz_hp n I J ex)) = zz_ck (zz_in v (zz_ary n a)) (zz_Run zz_prog d 138 (83, [l0, l1, l2], .int (I a v.toNatClampNeg) :: st, k, (zz_hp n I J ex))) := zz_k_iald f138_82 ha
theorem f138_83 : zz_fetch zz_prog 138 83 = some (.iaload, 1, [], []) := zz_fetch_of p138 rfl rfl
theorem s138_83 (ha : zz_isrd a = true) : zz_Run zz_prog d 138 (83, [l0, l1, l2], .int v :: .ref a :: st, k, (zz_hp n I J ex)) = zz_ck (zz_in v (zz_ary n a)) (zz_Run zz_prog d 138 (84, [l0, l1, l2], .int (I a v.toNatClampNeg) :: st, k, (zz_hp n I J ex))) := zz_k_iald f138_83 ha
theorem f138_84 : zz_fetch zz_prog 138 84 = some (.istore_n 2, 1, [], []) := zz_fetch_of p138 rfl rfl
theorem s138_84 : zz_Run zz_prog d 138 (84, [l0, l1, l2], .int v :: st, k, h) = zz_sl l1 (zz_Run zz_prog d 138 (85, [l0, l1, some (.int v)], st, k, h)) := zz_k_st (j := 2) (u := .int v) f138_84 rfl (fun q hq => by cases hq) rfl (show 2 < 3 by decide) (by cases l1 <;> rfl) rfl
theorem f138_85 : zz_fetch zz_prog 138 85 = some (.aload_n 0, 1, [], []) := zz_fetch_of p138 rfl rfl
theorem s138_85 : zz_Run zz_prog d 138 (85, [some (.ref a), l1, l2], st, k, h) = zz_Run zz_prog d 138 (86, [some (.ref a), l1, l2], .ref a :: st, k, h) := zz_k_num f138_85 rfl
theorem f138_86 : zz_fetch zz_prog 138 86 = some (.iload_n 1, 1, [], []) := zz_fetch_of p138 rfl rfl
theorem s138_86 : zz_Run zz_prog d 138 (86, [l0, some (.int v), l2], st, k, h) = zz_Run zz_prog d 138 (87, [l0, some (.int v), l2], .int v :: st, k, h) := zz_k_num f138_86 rfl
theorem f138_87 : zz_fetch zz_prog 138 87 = some (.iconst 3, 1, [], []) := zz_fetch_of p138 rfl rfl
theorem s138_87 : zz_Run zz_prog d 138 (87, [l0, l1, l2], st, k, h) = zz_Run zz_prog d 138 (88, [l0, l1, l2], .int 3 :: st, k, h) := zz_k_num f138_87 rfl
theorem f138_88 : zz_fetch zz_prog 138 88 = some (.invokevirtual 161, 3, [0, 110, 3, 2], []) := zz_fetch_of p138 rfl rfl
theorem s138_88 : zz_Run zz_prog d 138 (88, [l0, l1, l2], [b0, b1, .ref 23], k, (zz_hp n I J ex)) = zz_ret (zz_Call zz_prog d 110 [.ref 23, b1, b0] (zz_hp n I J ex)) (fun v k' h' => zz_Run zz_prog d 138 (91, [l0, l1, l2], v.toList ++ [], k && k', h')) (fun a k' h' => zz_th d 138 88 a [l0, l1, l2] (k && k') h') := zz_k_call f138_88 rfl rfl rfl
theorem f138_91 : zz_fetch zz_prog 138 91 = some (.aload_n 0, 1, [], []) := zz_fetch_of p138 rfl rfl
theorem s138_91 : zz_Run zz_prog d 138 (91, [some (.ref a), l1, l2], st, k, h) = zz_Run zz_prog d 138 (92, [some (.ref a), l1, l2], .ref a :: st, k, h) := zz_k_num f138_91 rfl
theorem f138_92 : zz_fetch zz_prog 138 92 = some (.getfield 7, 3, [2, 1, 3], []) := zz_fetch_of p138 rfl rfl
theorem s138_92 : zz_Run zz_prog d 138 (92, [l0, l1, l2], .ref 23 :: st, k, (zz_hp n I J ex)) = zz_Run zz_prog d 138 (95, [l0, l1, l2], .ref 24 :: st, k, (zz_hp n I J ex)) := zz_k_go f138_92 rfl rfl rfl
theorem f138_95 : zz_fetch zz_prog 138 95 = some (.sipush 183, 3, [], []) := zz_fetch_of p138 rfl rfl
theorem s138_95 : zz_Run zz_prog d 138 (95, [l0, l1, l2], st, k, h) = zz_Run zz_prog d 138 (98, [l0, l1, l2], .int 183 :: st, k, h) := zz_k_num f138_95 (congrArg (fun u => some (98, [l0, l1, l2], Value.int u :: st)) (by decide : (Int16.ofInt 183).toInt32 = 183))
theorem f138_98 : zz_fetch zz_prog 138 98 = some (.dup2, 1, [], []) := zz_fetch_of p138 rfl rfl
theorem s138_98 : zz_Run zz_prog d 138 (98, [l0, l1, l2], .int v :: .ref a1 :: st, k, h) = zz_Run zz_prog d 138 (99, [l0, l1, l2], .int v :: .ref a1 :: .int v :: .ref a1 :: st, k, h) := zz_k_num f138_98 rfl
theorem f138_99 : zz_fetch zz_prog 138 99 = some (.iaload, 1, [], []) := zz_fetch_of p138 rfl rfl
theorem s138_99 (ha : zz_isrd a = true) : zz_Run zz_prog d 138 (99, [l0, l1, l2], .int v :: .ref a :: st, k, (zz_hp n I J ex)) = zz_ck (zz_in v (zz_ary n a)) (zz_Run zz_prog d 138 (100, [l0, l1, l2], .int (I a v.toNatClampNeg) :: st, k, (zz_hp n I J ex))) := zz_k_iald f138_99 ha
theorem f138_100 : zz_fetch zz_prog 138 100 = some (.iconst 1, 1, [], []) := zz_fetch_of p138 rfl rfl
theorem s138_100 : zz_Run zz_prog d 138 (100, [l0, l1, l2], st, k, h) = zz_Run zz_prog d 138 (101, [l0, l1, l2], .int 1 :: st, k, h) := zz_k_num f138_100 rfl
theorem f138_101 : zz_fetch zz_prog 138 101 = some (.iadd, 1, [], []) := zz_fetch_of p138 rfl rfl
theorem s138_101 : zz_Run zz_prog d 138 (101, [l0, l1, l2], .int w :: .int v :: st, k, h) = zz_Run zz_prog d 138 (102, [l0, l1, l2], .int (v + w) :: st, k, h) := zz_k_num f138_101 rfl
theorem f138_102 : zz_fetch zz_prog 138 102 = some (.iastore, 1, [], []) := zz_fetch_of p138 rfl rfl
theorem s138_102 (ha : zz_isar a = true) : zz_Run zz_prog d 138 (102, [l0, l1, l2], .int w :: .int v :: .ref a :: st, k, (zz_hp n I J ex)) = zz_ck (zz_in v (zz_ary n a)) (zz_Run zz_prog d 138 (103, [l0, l1, l2], st, false, (zz_hp n (zz_up I a v.toNatClampNeg w) J ex))) := zz_k_iast f138_102 ha
theorem f138_103 : zz_fetch zz_prog 138 103 = some (.aload_n 0, 1, [], []) := zz_fetch_of p138 rfl rfl
theorem s138_103 : zz_Run zz_prog d 138 (103, [some (.ref a), l1, l2], st, k, h) = zz_Run zz_prog d 138 (104, [some (.ref a), l1, l2], .ref a :: st, k, h) := zz_k_num f138_103 rfl
theorem f138_104 : zz_fetch zz_prog 138 104 = some (.getfield 7, 3, [2, 1, 3], []) := zz_fetch_of p138 rfl rfl
theorem s138_104 : zz_Run zz_prog d 138 (104, [l0, l1, l2], .ref 23 :: st, k, (zz_hp n I J ex)) = zz_Run zz_prog d 138 (107, [l0, l1, l2], .ref 24 :: st, k, (zz_hp n I J ex)) := zz_k_go f138_104 rfl rfl rfl
theorem f138_107 : zz_fetch zz_prog 138 107 = some (.sipush 151, 3, [], []) := zz_fetch_of p138 rfl rfl
theorem s138_107 : zz_Run zz_prog d 138 (107, [l0, l1, l2], st, k, h) = zz_Run zz_prog d 138 (110, [l0, l1, l2], .int 151 :: st, k, h) := zz_k_num f138_107 (congrArg (fun u => some (110, [l0, l1, l2], Value.int u :: st)) (by decide : (Int16.ofInt 151).toInt32 = 151))
theorem f138_110 : zz_fetch zz_prog 138 110 = some (.iconst 5, 1, [], []) := zz_fetch_of p138 rfl rfl
theorem s138_110 : zz_Run zz_prog d 138 (110, [l0, l1, l2], st, k, h) = zz_Run zz_prog d 138 (111, [l0, l1, l2], .int 5 :: st, k, h) := zz_k_num f138_110 rfl
theorem f138_111 : zz_fetch zz_prog 138 111 = some (.iload_n 1, 1, [], []) := zz_fetch_of p138 rfl rfl
theorem s138_111 : zz_Run zz_prog d 138 (111, [l0, some (.int v), l2], st, k, h) = zz_Run zz_prog d 138 (112, [l0, some (.int v), l2], .int v :: st, k, h) := zz_k_num f138_111 rfl
theorem f138_112 : zz_fetch zz_prog 138 112 = some (.imul, 1, [], []) := zz_fetch_of p138 rfl rfl
theorem s138_112 : zz_Run zz_prog d 138 (112, [l0, l1, l2], .int w :: .int v :: st, k, h) = zz_Run zz_prog d 138 (113, [l0, l1, l2], .int (v * w) :: st, k, h) := zz_k_num f138_112 rfl
theorem f138_113 : zz_fetch zz_prog 138 113 = some (.iadd, 1, [], []) := zz_fetch_of p138 rfl rfl
theorem s138_113 : zz_Run zz_prog d 138 (113, [l0, l1, l2], .int w :: .int v :: st, k, h) = zz_Run zz_prog d 138 (114, [l0, l1, l2], .int (v + w) :: st, k, h) := zz_k_num f138_113 rfl
theorem f138_114 : zz_fetch zz_prog 138 114 = some (.iload_n 2, 1, [], []) := zz_fetch_of p138 rfl rfl
theorem s138_114 : zz_Run zz_prog d 138 (114, [l0, l1, some (.int v)], st, k, h) = zz_Run zz_prog d 138 (115, [l0, l1, some (.int v)], .int v :: st, k, h) := zz_k_num f138_114 rfl
theorem f138_115 : zz_fetch zz_prog 138 115 = some (.iadd, 1, [], []) := zz_fetch_of p138 rfl rfl
theorem s138_115 : zz_Run zz_prog d 138 (115, [l0, l1, l2], .int w :: .int v :: st, k, h) = zz_Run zz_prog d 138 (116, [l0, l1, l2], .int (v + w) :: st, k, h) := zz_k_num f138_115 rfl
theorem f138_116 : zz_fetch zz_prog 138 116 = some (.dup2, 1, [], []) := zz_fetch_of p138 rfl rfl
theorem s138_116 : zz_Run zz_prog d 138 (116, [l0, l1, l2], .int v :: .ref a1 :: st, k, h) = zz_Run zz_prog d 138 (117, [l0, l1, l2], .int v :: .ref a1 :: .int v :: .ref a1 :: st, k, h) := zz_k_num f138_116 rfl
theorem f138_117 : zz_fetch zz_prog 138 117 = some (.iaload, 1, [], []) := zz_fetch_of p138 rfl rfl
theorem s138_117 (ha : zz_isrd a = true) : zz_Run zz_prog d 138 (117, [l0, l1, l2], .int v :: .ref a :: st, k, (zz_hp n I J ex)) = zz_ck (zz_in v (zz_ary n a)) (zz_Run zz_prog d 138 (118, [l0, l1, l2], .int (I a v.toNatClampNeg) :: st, k, (zz_hp n I J ex))) := zz_k_iald f138_117 ha
theorem f138_118 : zz_fetch zz_prog 138 118 = some (.iconst 1, 1, [], []) := zz_fetch_of p138 rfl rfl
theorem s138_118 : zz_Run zz_prog d 138 (118, [l0, l1, l2], st, k, h) = zz_Run zz_prog d 138 (119, [l0, l1, l2], .int 1 :: st, k, h) := zz_k_num f138_118 rfl
theorem f138_119 : zz_fetch zz_prog 138 119 = some (.iadd, 1, [], []) := zz_fetch_of p138 rfl rfl
theorem s138_119 : zz_Run zz_prog d 138 (119, [l0, l1, l2], .int w :: .int v :: st, k, h) = zz_Run zz_prog d 138 (120, [l0, l1, l2], .int (v + w) :: st, k, h) := zz_k_num f138_119 rfl
theorem f138_120 : zz_fetch zz_prog 138 120 = some (.iastore, 1, [], []) := zz_fetch_of p138 rfl rfl
theorem s138_120 (ha : zz_isar a = true) : zz_Run zz_prog d 138 (120, [l0, l1, l2], .int w :: .int v :: .ref a :: st, k, (zz_hp n I J ex)) = zz_ck (zz_in v (zz_ary n a)) (zz_Run zz_prog d 138 (121, [l0, l1, l2], st, false, (zz_hp n (zz_up I a v.toNatClampNeg w) J ex))) := zz_k_iast f138_120 ha
theorem f138_121 : zz_fetch zz_prog 138 121 = some (.aload_n 0, 1, [], []) := zz_fetch_of p138 rfl rfl
theorem s138_121 : zz_Run zz_prog d 138 (121, [some (.ref a), l1, l2], st, k, h) = zz_Run zz_prog d 138 (122, [some (.ref a), l1, l2], .ref a :: st, k, h) := zz_k_num f138_121 rfl
theorem f138_122 : zz_fetch zz_prog 138 122 = some (.getfield 7, 3, [2, 1, 3], []) := zz_fetch_of p138 rfl rfl
theorem s138_122 : zz_Run zz_prog d 138 (122, [l0, l1, l2], .ref 23 :: st, k, (zz_hp n I J ex)) = zz_Run zz_prog d 138 (125, [l0, l1, l2], .ref 24 :: st, k, (zz_hp n I J ex)) := zz_k_go f138_122 rfl rfl rfl
theorem f138_125 : zz_fetch zz_prog 138 125 = some (.sipush 171, 3, [], []) := zz_fetch_of p138 rfl rfl
theorem s138_125 : zz_Run zz_prog d 138 (125, [l0, l1, l2], st, k, h) = zz_Run zz_prog d 138 (128, [l0, l1, l2], .int 171 :: st, k, h) := zz_k_num f138_125 (congrArg (fun u => some (128, [l0, l1, l2], Value.int u :: st)) (by decide : (Int16.ofInt 171).toInt32 = 171))
theorem f138_128 : zz_fetch zz_prog 138 128 = some (.iload_n 2, 1, [], []) := zz_fetch_of p138 rfl rfl
theorem s138_128 : zz_Run zz_prog d 138 (128, [l0, l1, some (.int v)], st, k, h) = zz_Run zz_prog d 138 (129, [l0, l1, some (.int v)], .int v :: st, k, h) := zz_k_num f138_128 rfl
theorem f138_129 : zz_fetch zz_prog 138 129 = some (.iadd, 1, [], []) := zz_fetch_of p138 rfl rfl
theorem s138_129 : zz_Run zz_prog d 138 (129, [l0, l1, l2], .int w :: .int v :: st, k, h) = zz_Run zz_prog d 138 (130, [l0, l1, l2], .int (v + w) :: st, k, h) := zz_k_num f138_129 rfl
theorem f138_130 : zz_fetch zz_prog 138 130 = some (.dup2, 1, [], []) := zz_fetch_of p138 rfl rfl
theorem s138_130 : zz_Run zz_prog d 138 (130, [l0, l1, l2], .int v :: .ref a1 :: st, k, h) = zz_Run zz_prog d 138 (131, [l0, l1, l2], .int v :: .ref a1 :: .int v :: .ref a1 :: st, k, h) := zz_k_num f138_130 rfl
theorem f138_131 : zz_fetch zz_prog 138 131 = some (.iaload, 1, [], []) := zz_fetch_of p138 rfl rfl
theorem s138_131 (ha : zz_isrd a = true) : zz_Run zz_prog d 138 (131, [l0, l1, l2], .int v :: .ref a :: st, k, (zz_hp n I J ex)) = zz_ck (zz_in v (zz_ary n a)) (zz_Run zz_prog d 138 (132, [l0, l1, l2], .int (I a v.toNatClampNeg) :: st, k, (zz_hp n I J ex))) := zz_k_iald f138_131 ha
theorem f138_132 : zz_fetch zz_prog 138 132 = some (.iconst 1, 1, [], []) := zz_fetch_of p138 rfl rfl
theorem s138_132 : zz_Run zz_prog d 138 (132, [l0, l1, l2], st, k, h) = zz_Run zz_prog d 138 (133, [l0, l1, l2], .int 1 :: st, k, h) := zz_k_num f138_132 rfl
theorem f138_133 : zz_fetch zz_prog 138 133 = some (.iadd, 1, [], []) := zz_fetch_of p138 rfl rfl
theorem s138_133 : zz_Run zz_prog d 138 (133, [l0, l1, l2], .int w :: .int v :: st, k, h) = zz_Run zz_prog d 138 (134, [l0, l1, l2], .int (v + w) :: st, k, h) := zz_k_num f138_133 rfl
theorem f138_134 : zz_fetch zz_prog 138 134 = some (.iastore, 1, [], []) := zz_fetch_of p138 rfl rfl
theorem s138_134 (ha : zz_isar a = true) : zz_Run zz_prog d 138 (134, [l0, l1, l2], .int w :: .int v :: .ref a :: st, k, (zz_hp n I J ex)) = zz_ck (zz_in v (zz_ary n a)) (zz_Run zz_prog d 138 (135, [l0, l1, l2], st, false, (zz_hp n (zz_up I a v.toNatClampNeg w) J ex))) := zz_k_iast f138_134 ha
theorem f138_135 : zz_fetch zz_prog 138 135 = some (.aload_n 0, 1, [], []) := zz_fetch_of p138 rfl rfl
theorem s138_135 : zz_Run zz_prog d 138 (135, [some (.ref a), l1, l2], st, k, h) = zz_Run zz_prog d 138 (136, [some (.ref a), l1, l2], .ref a :: st, k, h) := zz_k_num f138_135 rfl
theorem f138_136 : zz_fetch zz_prog 138 136 = some (.invokevirtual 175, 3, [0, 116, 1, 2], []) := zz_fetch_of p138 rfl rfl
theorem s138_136 : zz_Run zz_prog d 138 (136, [l0, l1, l2], [.ref 23], k, (zz_hp n I J ex)) = zz_ret (zz_Call zz_prog d 116 [.ref 23] (zz_hp n I J ex)) (fun v k' h' => zz_Run zz_prog d 138 (139, [l0, l1, l2], v.toList ++ [], k && k', h')) (fun a k' h' => zz_th d 138 136 a [l0, l1, l2] (k && k') h') := zz_k_call f138_136 rfl rfl rfl
theorem f138_139 : zz_fetch zz_prog 138 139 = some (.bipush 16, 2, [], []) := zz_fetch_of p138 rfl rfl
theorem s138_139 : zz_Run zz_prog d 138 (139, [l0, l1, l2], st, k, h) = zz_Run zz_prog d 138 (141, [l0, l1, l2], .int 16 :: st, k, h) := zz_k_num f138_139 (congrArg (fun u => some (141, [l0, l1, l2], Value.int u :: st)) (by decide : (Int8.ofInt 16).toInt32 = 16))
theorem f138_141 : zz_fetch zz_prog 138 141 = some (.aload_n 0, 1, [], []) := zz_fetch_of p138 rfl rfl
theorem s138_141 : zz_Run zz_prog d 138 (141, [some (.ref a), l1, l2], st, k, h) = zz_Run zz_prog d 138 (142, [some (.ref a), l1, l2], .ref a :: st, k, h) := zz_k_num f138_141 rfl
theorem f138_142 : zz_fetch zz_prog 138 142 = some (.getfield 7, 3, [2, 1, 3], []) := zz_fetch_of p138 rfl rfl
theorem s138_142 : zz_Run zz_prog d 138 (142, [l0, l1, l2], .ref 23 :: st, k, (zz_hp n I J ex)) = zz_Run zz_prog d 138 (145, [l0, l1, l2], .ref 24 :: st, k, (zz_hp n I J ex)) := zz_k_go f138_142 rfl rfl rfl
theorem f138_145 : zz_fetch zz_prog 138 145 = some (.sipush 183, 3, [], []) := zz_fetch_of p138 rfl rfl
theorem s138_145 : zz_Run zz_prog d 138 (145, [l0, l1, l2], st, k, h) = zz_Run zz_prog d 138 (148, [l0, l1, l2], .int 183 :: st, k, h) := zz_k_num f138_145 (congrArg (fun u => some (148, [l0, l1, l2], Value.int u :: st)) (by decide : (Int16.ofInt 183).toInt32 = 183))
theorem f138_148 : zz_fetch zz_prog 138 148 = some (.iaload, 1, [], []) := zz_fetch_of p138 rfl rfl
theorem s138_148 (ha : zz_isrd a = true) : zz_Run zz_prog d 138 (148, [l0, l1, l2], .int v :: .ref a :: st, k, (zz_hp n I J ex)) = zz_ck (zz_in v (zz_ary n a)) (zz_Run zz_prog d 138 (149, [l0, l1, l2], .int (I a v.toNatClampNeg) :: st, k, (zz_hp n I J ex))) := zz_k_iald f138_148 ha
theorem f138_149 : zz_fetch zz_prog 138 149 = some (.isub, 1, [], []) := zz_fetch_of p138 rfl rfl
theorem s138_149 : zz_Run zz_prog d 138 (149, [l0, l1, l2], .int w :: .int v :: st, k, h) = zz_Run zz_prog d 138 (150, [l0, l1, l2], .int (v - w) :: st, k, h) := zz_k_num f138_149 rfl
theorem f138_150 : zz_fetch zz_prog 138 150 = some (.ireturn, 1, [0], []) := zz_fetch_of p138 rfl rfl
theorem s138_150 : zz_Run zz_prog d 138 (150, [l0, l1, l2], [.int v], k, h) = some (.inl (some (.int v)), k, h) := zz_k_stop f138_150 rfl rfl rfl
end S138
section S139
variable {d n j : Nat} {l0 l1 l2 l3 l4 l5 : Option Value} {st : List Value} {k : Bool} {h : zz_H} {v w v1 v2 : Int32} {y y1 : Int64} {a a1 a2 : Nat} {b0 b1 b2 b3 b4 b5 b6 b7 b8 : Value} {I : Nat → Nat → Int32} {J : Nat → Nat → Int64} {ex : List (Nat × Nat)}
theorem p139 : zz_prog 139 = some zz_m139 := rfl
theorem e139 (g0 : Nat) (g1 : Int32) (g2 : Int32) (g3 : Int32) : zz_Call zz_prog (d + 1) 139 [.ref g0, .int g1, .int g2, .int g3] h = zz_Run zz_prog d 139 (0, [some (.ref g0), some (.int g1), some (.int g2), some (.int g3), none, none], [], true, h) := rfl
theorem t139 (pc : Nat) (L : List (Option Value)) : zz_th d 139 pc a L k h = some (.inr a, k, h) := zz_th_out p139 rfl
theorem f139_0 : zz_fetch zz_prog 139 0 = some (.aload_n 0, 1, [], []) := zz_fetch_of p139 rfl rfl
theorem s139_0 : zz_Run zz_prog d 139 (0, [some (.ref a), l1, l2, l3, l4, l5], st, k, h) = zz_Run zz_prog d 139 (1, [some (.ref a), l1, l2, l3, l4, l5], .ref a :: st, k, h) := zz_k_num f139_0 rfl
theorem f139_1 : zz_fetch zz_prog 139 1 = some (.getfield 7, 3, [2, 1, 3], []) := zz_fetch_of p139 rfl rfl
theorem s139_1 : zz_Run zz_prog d 139 (1, [l0, l1, l2, l3, l4, l5], .ref 23 :: st, k, (zz_hp n I J ex)) = zz_Run zz_prog d 139 (4, [l0, l1, l2, l3, l4, l5], .ref 24 :: st, k, (zz_hp n I J ex)) := zz_k_go f139_1 rfl rfl rfl
theorem f139_4 : zz_fetch zz_prog 139 4 = some (.sipush 181, 3, [], []) := zz_fetch_of p139 rfl rfl
theorem s139_4 : zz_Run zz_prog d 139 (4, [l0, l1, l2, l3, l4, l5], st, k, h) = zz_Run zz_prog d 139 (7, [l0, l1, l2, l3, l4, l5], .int 181 :: st, k, h) := zz_k_num f139_4 (congrArg (fun u => some (7, [l0, l1, l2, l3, l4, l5], Value.int u :: st)) (by decide : (Int16.ofInt 181).toInt32 = 181))
theorem f139_7 : zz_fetch zz_prog 139 7 = some (.iaload, 1, [], []) := zz_fetch_of p139 rfl rfl
theorem s139_7 (ha : zz_isrd a = true) : zz_Run zz_prog d 139 (7, [l0, l1, l2, l3, l4, l5], .int v :: .ref a :: st, k, (zz_hp n I J ex)) = zz_ck (zz_in v (zz_ary n a)) (zz_Run zz_prog d 139 (8, [l0, l1, l2, l3, l4, l5], .int (I a v.toNatClampNeg) :: st, k, (zz_hp n I J ex))) := zz_k_iald f139_7 ha
theorem f139_8 : zz_fetch zz_prog 139 8 = some (.istore 4, 2, [], []) := zz_fetch_of p139 rfl rfl
theorem s139_8 : zz_Run zz_prog d 139 (8, [l0, l1, l2, l3, l4, l5], .int v :: st, k, h) = zz_sl l3 (zz_Run zz_prog d 139 (10, [l0, l1, l2, l3, some (.int v), l5], st, k, h)) := zz_k_st (j := 4) (u := .int v) f139_8 rfl (fun q hq => by cases hq) rfl (show 4 < 6 by decide) (by cases l3 <;> rfl) rfl
theorem f139_10 : zz_fetch zz_prog 139 10 = some (.aload_n 0, 1, [], []) := zz_fetch_of p139 rfl rfl
theorem s139_10 : zz_Run zz_prog d 139 (10, [some (.ref a), l1, l2, l3, l4, l5], st, k, h) = zz_Run zz_prog d 139 (11, [some (.ref a), l1, l2, l3, l4, l5], .ref a :: st, k, h) := zz_k_num f139_10 rfl
theorem f139_11 : zz_fetch zz_prog 139 11 = some (.getfield 7, 3, [2, 1, 3], []) := zz_fetch_of p139 rfl rfl
theorem s139_11 : zz_Run zz_prog d 139 (11, [l0, l1, l2, l3, l4, l5], .ref 23 :: st, k, (zz_hp n I J ex)) = zz_Run zz_prog d 139 (14, [l0, l1, l2, l3, l4, l5], .ref 24 :: st, k, (zz_hp n I J ex)) := zz_k_go f139_11 rfl rfl rfl
theorem f139_14 : zz_fetch zz_prog 139 14 = some (.sipush 180, 3, [], []) := zz_fetch_of p139 rfl rfl
theorem s139_14 : zz_Run zz_prog d 139 (14, [l0, l1, l2, l3, l4, l5], st, k, h) = zz_Run zz_prog d 139 (17, [l0, l1, l2, l3, l4, l5], .int 180 :: st, k, h) := zz_k_num f139_14 (congrArg (fun u => some (17, [l0, l1, l2, l3, l4, l5], Value.int u :: st)) (by decide : (Int16.ofInt 180).toInt32 = 180))
theorem f139_17 : zz_fetch zz_prog 139 17 = some (.iaload, 1, [], []) := zz_fetch_of p139 rfl rfl
theorem s139_17 (ha : zz_isrd a = true) : zz_Run zz_prog d 139 (17, [l0, l1, l2, l3, l4, l5], .int v :: .ref a :: st, k, (zz_hp n I J ex)) = zz_ck (zz_in v (zz_ary n a)) (zz_Run zz_prog d 139 (18, [l0, l1, l2, l3, l4, l5], .int (I a v.toNatClampNeg) :: st, k, (zz_hp n I J ex))) := zz_k_iald f139_17 ha
theorem f139_18 : zz_fetch zz_prog 139 18 = some (.bipush 6, 2, [], []) := zz_fetch_of p139 rfl rfl
theorem s139_18 : zz_Run zz_prog d 139 (18, [l0, l1, l2, l3, l4, l5], st, k, h) = zz_Run zz_prog d 139 (20, [l0, l1, l2, l3, l4, l5], .int 6 :: st, k, h) := zz_k_num f139_18 (congrArg (fun u => some (20, [l0, l1, l2, l3, l4, l5], Value.int u :: st)) (by decide : (Int8.ofInt 6).toInt32 = 6))
theorem f139_20 : zz_fetch zz_prog 139 20 = some (.if_icmp .ne 44, 3, [64], []) := zz_fetch_of p139 rfl rfl
theorem s139_20 : zz_Run zz_prog d 139 (20, [l0, l1, l2, l3, l4, l5], .int w :: .int v :: st, k, h) = if ¬ v = w then zz_Run zz_prog d 139 (64, [l0, l1, l2, l3, l4, l5], st, k, h) else zz_Run zz_prog d 139 (23, [l0, l1, l2, l3, l4, l5], st, k, h) := zz_k_br (¬ v = w) rfl (zz_k_num f139_20 rfl)
theorem f139_23 : zz_fetch zz_prog 139 23 = some (.aload_n 0, 1, [], []) := zz_fetch_of p139 rfl rfl
theorem s139_23 : zz_Run zz_prog d 139 (23, [some (.ref a), l1, l2, l3, l4, l5], st, k, h) = zz_Run zz_prog d 139 (24, [some (.ref a), l1, l2, l3, l4, l5], .ref a :: st, k, h) := zz_k_num f139_23 rfl
theorem f139_24 : zz_fetch zz_prog 139 24 = some (.getfield 7, 3, [2, 1, 3], []) := zz_fetch_of p139 rfl rfl
theorem s139_24 : zz_Run zz_prog d 139 (24, [l0, l1, l2, l3, l4, l5], .ref 23 :: st, k, (zz_hp n I J ex)) = zz_Run zz_prog d 139 (27, [l0, l1, l2, l3, l4, l5], .ref 24 :: st, k, (zz_hp n I J ex)) := zz_k_go f139_24 rfl rfl rfl
theorem f139_27 : zz_fetch zz_prog 139 27 = some (.sipush 184, 3, [], []) := zz_fetch_of p139 rfl rfl
theorem s139_27 : zz_Run zz_prog d 139 (27, [l0, l1, l2, l3, l4, l5], st, k, h) = zz_Run zz_prog d 139 (30, [l0, l1, l2, l3, l4, l5], .int 184 :: st, k, h) := zz_k_num f139_27 (congrArg (fun u => some (30, [l0, l1, l2, l3, l4, l5], Value.int u :: st)) (by decide : (Int16.ofInt 184).toInt32 = 184))
theorem f139_30 : zz_fetch zz_prog 139 30 = some (.iaload, 1, [], []) := zz_fetch_of p139 rfl rfl
theorem s139_30 (ha : zz_isrd a = true) : zz_Run zz_prog d 139 (30, [l0, l1, l2, l3, l4, l5], .int v :: .ref a :: st, k, (zz_hp n I J ex)) = zz_ck (zz_in v (zz_ary n a)) (zz_Run zz_prog d 139 (31, [l0, l1, l2, l3, l4, l5], .int (I a v.toNatClampNeg) :: st, k, (zz_hp n I J ex))) := zz_k_iald f139_30 ha
theorem f139_31 : zz_fetch zz_prog 139 31 = some (.ifCond .gt 33, 3, [64], []) := zz_fetch_of p139 rfl rfl
theorem s139_31 : zz_Run zz_prog d 139 (31, [l0, l1, l2, l3, l4, l5], .int v :: st, k, h) = if 0 < v then zz_Run zz_prog d 139 (64, [l0, l1, l2, l3, l4, l5], st, k, h) else zz_Run zz_prog d 139 (34, [l0, l1, l2, l3, l4, l5], st, k, h) := zz_k_br (0 < v) rfl (zz_k_num f139_31 rfl)
theorem f139_34 : zz_fetch zz_prog 139 34 = some (.aload_n 0, 1, [], []) := zz_fetch_of p139 rfl rfl
theorem s139_34 : zz_Run zz_prog d 139 (34, [some (.ref a), l1, l2, l3, l4, l5], st, k, h) = zz_Run zz_prog d 139 (35, [some (.ref a), l1, l2, l3, l4, l5], .ref a :: st, k, h) := zz_k_num f139_34 rfl
theorem f139_35 : zz_fetch zz_prog 139 35 = some (.getfield 7, 3, [2, 1, 3], []) := zz_fetch_of p139 rfl rfl
theorem s139_35 : zz_Run zz_prog d 139 (35, [l0, l1, l2, l3, l4, l5], .ref 23 :: st, k, (zz_hp n I J ex)) = zz_Run zz_prog d 139 (38, [l0, l1, l2, l3, l4, l5], .ref 24 :: st, k, (zz_hp n I J ex)) := zz_k_go f139_35 rfl rfl rfl
theorem f139_38 : zz_fetch zz_prog 139 38 = some (.sipush 151, 3, [], []) := zz_fetch_of p139 rfl rfl
theorem s139_38 : zz_Run zz_prog d 139 (38, [l0, l1, l2, l3, l4, l5], st, k, h) = zz_Run zz_prog d 139 (41, [l0, l1, l2, l3, l4, l5], .int 151 :: st, k, h) := zz_k_num f139_38 (congrArg (fun u => some (41, [l0, l1, l2, l3, l4, l5], Value.int u :: st)) (by decide : (Int16.ofInt 151).toInt32 = 151))
theorem f139_41 : zz_fetch zz_prog 139 41 = some (.iconst 5, 1, [], []) := zz_fetch_of p139 rfl rfl
theorem s139_41 : zz_Run zz_prog d 139 (41, [l0, l1, l2, l3, l4, l5], st, k, h) = zz_Run zz_prog d 139 (42, [l0, l1, l2, l3, l4, l5], .int 5 :: st, k, h) := zz_k_num f139_41 rfl
theorem f139_42 : zz_fetch zz_prog 139 42 = some (.iload 4, 2, [], []) := zz_fetch_of p139 rfl rfl
theorem s139_42 : zz_Run zz_prog d 139 (42, [l0, l1, l2, l3, some (.int v), l5], st, k, h) = zz_Run zz_prog d 139 (44, [l0, l1, l2, l3, some (.int v), l5], .int v :: st, k, h) := zz_k_num f139_42 rfl
theorem f139_44 : zz_fetch zz_prog 139 44 = some (.imul, 1, [], []) := zz_fetch_of p139 rfl rfl
theorem s139_44 : zz_Run zz_prog d 139 (44, [l0, l1, l2, l3, l4, l5], .int w :: .int v :: st, k, h) = zz_Run zz_prog d 139 (45, [l0, l1, l2, l3, l4, l5], .int (v * w) :: st, k, h) := zz_k_num f139_44 rfl
theorem f139_45 : zz_fetch zz_prog 139 45 = some (.iadd, 1, [], []) := zz_fetch_of p139 rfl rfl
theorem s139_45 : zz_Run zz_prog d 139 (45, [l0, l1, l2, l3, l4, l5], .int w :: .int v :: st, k, h) = zz_Run zz_prog d 139 (46, [l0, l1, l2, l3, l4, l5], .int (v + w) :: st, k, h) := zz_k_num f139_45 rfl
theorem f139_46 : zz_fetch zz_prog 139 46 = some (.iload_n 1, 1, [], []) := zz_fetch_of p139 rfl rfl
theorem s139_46 : zz_Run zz_prog d 139 (46, [l0, some (.int v), l2, l3, l4, l5], st, k, h) = zz_Run zz_prog d 139 (47, [l0, some (.int v), l2, l3, l4, l5], .int v :: st, k, h) := zz_k_num f139_46 rfl
theorem f139_47 : zz_fetch zz_prog 139 47 = some (.iadd, 1, [], []) := zz_fetch_of p139 rfl rfl
theorem s139_47 : zz_Run zz_prog d 139 (47, [l0, l1, l2, l3, l4, l5], .int w :: .int v :: st, k, h) = zz_Run zz_prog d 139 (48, [l0, l1, l2, l3, l4, l5], .int (v + w) :: st, k, h) := zz_k_num f139_47 rfl
theorem f139_48 : zz_fetch zz_prog 139 48 = some (.iaload, 1, [], []) := zz_fetch_of p139 rfl rfl
theorem s139_48 (ha : zz_isrd a = true) : zz_Run zz_prog d 139 (48, [l0, l1, l2, l3, l4, l5], .int v :: .ref a :: st, k, (zz_hp n I J ex)) = zz_ck (zz_in v (zz_ary n a)) (zz_Run zz_prog d 139 (49, [l0, l1, l2, l3, l4, l5], .int (I a v.toNatClampNeg) :: st, k, (zz_hp n I J ex))) := zz_k_iald f139_48 ha
theorem f139_49 : zz_fetch zz_prog 139 49 = some (.aload_n 0, 1, [], []) := zz_fetch_of p139 rfl rfl
theorem s139_49 : zz_Run zz_prog d 139 (49, [some (.ref a), l1, l2, l3, l4, l5], st, k, h) = zz_Run zz_prog d 139 (50, [some (.ref a), l1, l2, l3, l4, l5], .ref a :: st, k, h) := zz_k_num f139_49 rfl
theorem f139_50 : zz_fetch zz_prog 139 50 = some (.getfield 7, 3, [2, 1, 3], []) := zz_fetch_of p139 rfl rfl
theorem s139_50 : zz_Run zz_prog d 139 (50, [l0, l1, l2, l3, l4, l5], .ref 23 :: st, k, (zz_hp n I J ex)) = zz_Run zz_prog d 139 (53, [l0, l1, l2, l3, l4, l5], .ref 24 :: st, k, (zz_hp n I J ex)) := zz_k_go f139_50 rfl rfl rfl
theorem f139_53 : zz_fetch zz_prog 139 53 = some (.sipush 171, 3, [], []) := zz_fetch_of p139 rfl rfl
theorem s139_53 : zz_Run zz_prog d 139 (53, [l0, l1, l2, l3, l4, l5], st, k, h) = zz_Run zz_prog d 139 (56, [l0, l1, l2, l3, l4, l5], .int 171 :: st, k, h) := zz_k_num f139_53 (congrArg (fun u => some (56, [l0, l1, l2, l3, l4, l5], Value.int u :: st)) (by decide : (Int16.ofInt 171).toInt32 = 171))
theorem f139_56 : zz_fetch zz_prog 139 56 = some (.iload_n 1, 1, [], []) := zz_fetch_of p139 rfl rfl
theorem s139_56 : zz_Run zz_prog d 139 (56, [l0, some (.int v), l2, l3, l4, l5], st, k, h) = zz_Run zz_prog d 139 (57, [l0, some (.int v), l2, l3, l4, l5], .int v :: st, k, h) := zz_k_num f139_56 rfl
theorem f139_57 : zz_fetch zz_prog 139 57 = some (.iadd, 1, [], []) := zz_fetch_of p139 rfl rfl
theorem s139_57 : zz_Run zz_prog d 139 (57, [l0, l1, l2, l3, l4, l5], .int w :: .int v :: st, k, h) = zz_Run zz_prog d 139 (58, [l0, l1, l2, l3, l4, l5], .int (v + w) :: st, k, h) := zz_k_num f139_57 rfl
theorem f139_58 : zz_fetch zz_prog 139 58 = some (.iaload, 1, [], []) := zz_fetch_of p139 rfl rfl
theorem s139_58 (ha : zz_isrd a = true) : zz_Run zz_prog d 139 (58, [l0, l1, l2, l3, l4, l5], .int v :: .ref a :: st, k, (zz_hp n I J ex)) = zz_ck (zz_in v (zz_ary n a)) (zz_Run zz_prog d 139 (59, [l0, l1, l2, l3, l4, l5], .int (I a v.toNatClampNeg) :: st, k, (zz_hp n I J ex))) := zz_k_iald f139_58 ha
theorem f139_59 : zz_fetch zz_prog 139 59 = some (.isub, 1, [], []) := zz_fetch_of p139 rfl rfl
theorem s139_59 : zz_Run zz_prog d 139 (59, [l0, l1, l2, l3, l4, l5], .int w :: .int v :: st, k, h) = zz_Run zz_prog d 139 (60, [l0, l1, l2, l3, l4, l5], .int (v - w) :: st, k, h) := zz_k_num f139_59 rfl
theorem f139_60 : zz_fetch zz_prog 139 60 = some (.iconst 1, 1, [], []) := zz_fetch_of p139 rfl rfl
theorem s139_60 : zz_Run zz_prog d 139 (60, [l0, l1, l2, l3, l4, l5], st, k, h) = zz_Run zz_prog d 139 (61, [l0, l1, l2, l3, l4, l5], .int 1 :: st, k, h) := zz_k_num f139_60 rfl
theorem f139_61 : zz_fetch zz_prog 139 61 = some (.if_icmp .ge 5, 3, [66], []) := zz_fetch_of p139 rfl rfl
theorem s139_61 : zz_Run zz_prog d 139 (61, [l0, l1, l2, l3, l4, l5], .int w :: .int v :: st, k, h) = if w ≤ v then zz_Run zz_prog d 139 (66, [l0, l1, l2, l3, l4, l5], st, k, h) else zz_Run zz_prog d 139 (64, [l0, l1, l2, l3, l4, l5], st, k, h) := zz_k_br (w ≤ v) rfl (zz_k_num f139_61 rfl)
theorem f139_64 : zz_fetch zz_prog 139 64 = some (.iconst 0, 1, [], []) := zz_fetch_of p139 rfl rfl
theorem s139_64 : zz_Run zz_prog d 139 (64, [l0, l1, l2, l3, l4, l5], st, k, h) = zz_Run zz_prog d 139 (65, [l0, l1, l2, l3, l4, l5], .int 0 :: st, k, h) := zz_k_num f139_64 rfl
theorem f139_65 : zz_fetch zz_prog 139 65 = some (.ireturn, 1, [1], []) := zz_fetch_of p139 rfl rfl
theorem s139_65 : zz_Run zz_prog d 139 (65, [l0, l1, l2, l3, l4, l5], [.int v], k, h) = zz_ck (decide (v = 0 ∨ v = 1)) (some (.inl (some (.int v)), k, h)) := zz_k_retz f139_65
theorem f139_66 : zz_fetch zz_prog 139 66 = some (.iload_n 1, 1, [], []) := zz_fetch_of p139 rfl rfl
theorem s139_66 : zz_Run zz_prog d 139 (66, [l0, some (.int v), l2, l3, l4, l5], st, k, h) = zz_Run zz_prog d 139 (67, [l0, some (.int v), l2, l3, l4, l5], .int v :: st, k, h) := zz_k_num f139_66 rfl
theorem f139_67 : zz_fetch zz_prog 139 67 = some (.iconst 2, 1, [], []) := zz_fetch_of p139 rfl rfl
theorem s139_67 : zz_Run zz_prog d 139 (67, [l0, l1, l2, l3, l4, l5], st, k, h) = zz_Run zz_prog d 139 (68, [l0, l1, l2, l3, l4, l5], .int 2 :: st, k, h) := zz_k_num f139_67 rfl
theorem f139_68 : zz_fetch zz_prog 139 68 = some (.if_icmp .ne 39, 3, [107], []) := zz_fetch_of p139 rfl rfl
theorem s139_68 : zz_Run zz_prog d 139 (68, [l0, l1, l2, l3, l4, l5], .int w :: .int v :: st, k, h) = if ¬ v = w then zz_Run zz_prog d 139 (107, [l0, l1, l2, l3, l4, l5], st, k, h) else zz_Run zz_prog d 139 (71, [l0, l1, l2, l3, l4, l5], st, k, h) := zz_k_br (¬ v = w) rfl (zz_k_num f139_68 rfl)
theorem f139_71 : zz_fetch zz_prog 139 71 = some (.aload_n 0, 1, [], []) := zz_fetch_of p139 rfl rfl
theorem s139_71 : zz_Run zz_prog d 139 (71, [some (.ref a), l1, l2, l3, l4, l5], st, k, h) = zz_Run zz_prog d 139 (72, [some (.ref a), l1, l2, l3, l4, l5], .ref a :: st, k, h) := zz_k_num f139_71 rfl
theorem f139_72 : zz_fetch zz_prog 139 72 = some (.getfield 7, 3, [2, 1, 3], []) := zz_fetch_of p139 rfl rfl
theorem s139_72 : zz_Run zz_prog d 139 (72, [l0, l1, l2, l3, l4, l5], .ref 23 :: st, k, (zz_hp n I J ex)) = zz_Run zz_prog d 139 (75, [l0, l1, l2, l3, l4, l5], .ref 24 :: st, k, (zz_hp n I J ex)) := zz_k_go f139_72 rfl rfl rfl
theorem f139_75 : zz_fetch zz_prog 139 75 = some (.sipush 146, 3, [], []) := zz_fetch_of p139 rfl rfl
theorem s139_75 : zz_Run zz_prog d 139 (75, [l0, l1, l2, l3, l4, l5], st, k, h) = zz_Run zz_prog d 139 (78, [l0, l1, l2, l3, l4, l5], .int 146 :: st, k, h) := zz_k_num f139_75 (congrArg (fun u => some (78, [l0, l1, l2, l3, l4, l5], Value.int u :: st)) (by decide : (Int16.ofInt 146).toInt32 = 146))
theorem f139_78 : zz_fetch zz_prog 139 78 = some (.iload_n 2, 1, [], []) := zz_fetch_of p139 rfl rfl
theorem s139_78 : zz_Run zz_prog d 139 (78, [l0, l1, some (.int v), l3, l4, l5], st, k, h) = zz_Run zz_prog d 139 (79, [l0, l1, some (.int v), l3, l4, l5], .int v :: st, k, h) := zz_k_num f139_78 rfl
theorem f139_79 : zz_fetch zz_prog 139 79 = some (.iadd, 1, [], []) := zz_fetch_of p139 rfl rfl
theorem s139_79 : zz_Run zz_prog d 139 (79, [l0, l1, l2, l3, l4, l5], .int w :: .int v :: st, k, h) = zz_Run zz_prog d 139 (80, [l0, l1, l2, l3, l4, l5], .int (v + w) :: st, k, h) := zz_k_num f139_79 rfl
theorem f139_80 : zz_fetch zz_prog 139 80 = some (.iaload, 1, [], []) := zz_fetch_of p139 rfl rfl
theorem s139_80 (ha : zz_isrd a = true) : zz_Run zz_prog d 139 (80, [l0, l1, l2, l3, l4, l5], .int v :: .ref a :: st, k, (zz_hp n I J ex)) = zz_ck (zz_in v (zz_ary n a)) (zz_Run zz_prog d 139 (81, [l0, l1, l2, l3, l4, l5], .int (I a v.toNatClampNeg) :: st, k, (zz_hp n I J ex))) := zz_k_iald f139_80 ha
theorem f139_81 : zz_fetch zz_prog 139 81 = some (.iload_n 2, 1, [], []) := zz_fetch_of p139 rfl rfl
theorem s139_81 : zz_Run zz_prog d 139 (81, [l0, l1, some (.int v), l3, l4, l5], st, k, h) = zz_Run zz_prog d 139 (82, [l0, l1, some (.int v), l3, l4, l5], .int v :: st, k, h) := zz_k_num f139_81 rfl
theorem f139_82 : zz_fetch zz_prog 139 82 = some (.iload_n 3, 1, [], []) := zz_fetch_of p139 rfl rfl
theorem s139_82 : zz_Run zz_prog d 139 (82, [l0, l1, l2, some (.int v), l4, l5], st, k, h) = zz_Run zz_prog d 139 (83, [l0, l1, l2, some (.int v), l4, l5], .int v :: st, k, h) := zz_k_num f139_82 rfl
theorem f139_83 : zz_fetch zz_prog 139 83 = some (.if_icmp .ne 7, 3, [90], []) := zz_fetch_of p139 rfl rfl
theorem s139_83 : zz_Run zz_prog d 139 (83, [l0, l1, l2, l3, l4, l5], .int w :: .int v :: st, k, h) = if ¬ v = w then zz_Run zz_prog d 139 (90, [l0, l1, l2, l3, l4, l5], st, k, h) else zz_Run zz_prog d 139 (86, [l0, l1, l2, l3, l4, l5], st, k, h) := zz_k_br (¬ v = w) rfl (zz_k_num f139_83 rfl)
theorem f139_86 : zz_fetch zz_prog 139 86 = some (.iconst 1, 1, [], []) := zz_fetch_of p139 rfl rfl
theorem s139_86 : zz_Run zz_prog d 139 (86, [l0, l1, l2, l3, l4, l5], st, k, h) = zz_Run zz_prog d 139 (87, [l0, l1, l2, l3, l4, l5], .int 1 :: st, k, h) := zz_k_num f139_86 rfl
theorem f139_87 : zz_fetch zz_prog 139 87 = some (.goto 4, 3, [91], []) := zz_fetch_of p139 rfl rfl
theorem s139_87 : zz_Run zz_prog d 139 (87, [l0, l1, l2, l3, l4, l5], st, k, h) = zz_Run zz_prog d 139 (91, [l0, l1, l2, l3, l4, l5], st, k, h) := zz_k_num f139_87 rfl
theorem f139_90 : zz_fetch zz_prog 139 90 = some (.iconst 0, 1, [], []) := zz_fetch_of p139 rfl rfl
theorem s139_90 : zz_Run zz_prog d 139 (90, [l0, l1, l2, l3, l4, l5], st, k, h) = zz_Run zz_prog d 139 (91, [l0, l1, l2, l3, l4, l5], .int 0 :: st, k, h) := zz_k_num f139_90 rfl
theorem f139_91 : zz_fetch zz_prog 139 91 = some (.if_icmp .le 20, 3, [111], []) := zz_fetch_of p139 rfl rfl
theorem s139_91 : zz_Run zz_prog d 139 (91, [l0, l1, l2, l3, l4, l5], .int w :: .int v :: st, k, h) = if v ≤ w then zz_Run zz_prog d 139 (111, [l0, l1, l2, l3, l4, l5], st, k, h) else zz_Run zz_prog d 139 (94, [l0, l1, l2, l3, l4, l5], st, k, h) := zz_k_br (v ≤ w) rfl (zz_k_num f139_91 rfl)
theorem f139_94 : zz_fetch zz_prog 139 94 = some (.aload_n 0, 1, [], []) := zz_fetch_of p139 rfl rfl
theorem s139_94 : zz_Run zz_prog d 139 (94, [some (.ref a), l1, l2, l3, l4, l5], st, k, h) = zz_Run zz_prog d 139 (95, [some (.ref a), l1, l2, l3, l4, l5], .ref a :: st, k, h) := zz_k_num f139_94 rfl
theorem f139_95 : zz_fetch zz_prog 139 95 = some (.getfield 7, 3, [2, 1, 3], []) := zz_fetch_of p139 rfl rfl
theorem s139_95 : zz_Run zz_prog d 139 (95, [l0, l1, l2, l3, l4, l5], .ref 23 :: st, k, (zz_hp n I J ex)) = zz_Run zz_prog d 139 (98, [l0, l1, l2, l3, l4, l5], .ref 24 :: st, k, (zz_hp n I J ex)) := zz_k_go f139_95 rfl rfl rfl
theorem f139_98 : zz_fetch zz_prog 139 98 = some (.sipush 146, 3, [], []) := zz_fetch_of p139 rfl rfl
theorem s139_98 : zz_Run zz_prog d 139 (98, [l0, l1, l2, l3, l4, l5], st, k, h) = zz_Run zz_prog d 139 (101, [l0, l1, l2, l3, l4, l5], .int 146 :: st, k, h) := zz_k_num f139_98 (congrArg (fun u => some (101, [l0, l1, l2, l3, l4, l5], Value.int u :: st)) (by decide : (Int16.ofInt 146).toInt32 = 146))
theorem f139_101 : zz_fetch zz_prog 139 101 = some (.iload_n 3, 1, [], []) := zz_fetch_of p139 rfl rfl
theorem s139_101 : zz_Run zz_prog d 139 (101, [l0, l1, l2, some (.int v), l4, l5], st, k, h) = zz_Run zz_prog d 139 (102, [l0, l1, l2, some (.int v), l4, l5], .int v :: st, k, h) := zz_k_num f139_101 rfl
theorem f139_102 : zz_fetch zz_prog 139 102 = some (.iadd, 1, [], []) := zz_fetch_of p139 rfl rfl
theorem s139_102 : zz_Run zz_prog d 139 (102, [l0, l1, l2, l3, l4, l5], .int w :: .int v :: st, k, h) = zz_Run zz_prog d 139 (103, [l0, l1, l2, l3, l4, l5], .int (v + w) :: st, k, h) := zz_k_num f139_102 rfl
theorem f139_103 : zz_fetch zz_prog 139 103 = some (.iaload, 1, [], []) := zz_fetch_of p139 rfl rfl
theorem s139_103 (ha : zz_isrd a = true) : zz_Run zz_prog d 139 (103, [l0, l1, l2, l3, l4, l5], .int v :: .ref a :: st, k, (zz_hp n I J ex)) = zz_ck (zz_in v (zz_ary n a)) (zz_Run zz_prog d 139 (104, [l0, l1, l2, l3, l4, l5], .int (I a v.toNatClampNeg) :: st, k, (zz_hp n I J ex))) := zz_k_iald f139_103 ha
theorem f139_104 : zz_fetch zz_prog 139 104 = some (.ifCond .le 7, 3, [111], []) := zz_fetch_of p139 rfl rfl
theorem s139_104 : zz_Run zz_prog d 139 (104, [l0, l1, l2, l3, l4, l5], .int v :: st, k, h) = if v ≤ 0 then zz_Run zz_prog d 139 (111, [l0, l1, l2, l3, l4, l5], st, k, h) else zz_Run zz_prog d 139 (107, [l0, l1, l2, l3, l4, l5], st, k, h) := zz_k_br (v ≤ 0) rfl (zz_k_num f139_104 rfl)
theorem f139_107 : zz_fetch zz_prog 139 107 = some (.iconst 1, 1, [], []) := zz_fetch_of p139 rfl rfl
theorem s139_107 : zz_Run zz_prog d 139 (107, [l0, l1, l2, l3, l4, l5], st, k, h) = zz_Run zz_prog d 139 (108, [l0, l1, l2, l3, l4, l5], .int 1 :: st, k, h) := zz_k_num f139_107 rfl
theorem f139_108 : zz_fetch zz_prog 139 108 = some (.goto 4, 3, [112], []) := zz_fetch_of p139 rfl rfl
theorem s139_108 : zz_Run zz_prog d 139 (108, [l0, l1, l2, l3, l4, l5], st, k, h) = zz_Run zz_prog d 139 (112, [l0, l1, l2, l3, l4, l5], st, k, h) := zz_k_num f139_108 rfl
theorem f139_111 : zz_fetch zz_prog 139 111 = some (.iconst 0, 1, [], []) := zz_fetch_of p139 rfl rfl
theorem s139_111 : zz_Run zz_prog d 139 (111, [l0, l1, l2, l3, l4, l5], st, k, h) = zz_Run zz_prog d 139 (112, [l0, l1, l2, l3, l4, l5], .int 0 :: st, k, h) := zz_k_num f139_111 rfl
theorem f139_112 : zz_fetch zz_prog 139 112 = some (.istore 5, 2, [], []) := zz_fetch_of p139 rfl rfl
theorem s139_112 : zz_Run zz_prog d 139 (112, [l0, l1, l2, l3, l4, l5], .int v :: st, k, h) = zz_sl l4 (zz_Run zz_prog d 139 (114, [l0, l1, l2, l3, l4, some (.int v)], st, k, h)) := zz_k_st (j := 5) (u := .int v) f139_112 rfl (fun q hq => by cases hq) rfl (show 5 < 6 by decide) (by cases l4 <;> rfl) rfl
theorem f139_114 : zz_fetch zz_prog 139 114 = some (.iload 5, 2, [], []) := zz_fetch_of p139 rfl rfl
theorem s139_114 : zz_Run zz_prog d 139 (114, [l0, l1, l2, l3, l4, some (.int v)], st, k, h) = zz_Run zz_prog d 139 (116, [l0, l1, l2, l3, l4, some (.int v)], .int v :: st, k, h) := zz_k_num f139_114 rfl
theorem f139_116 : zz_fetch zz_prog 139 116 = some (.ifCond .eq 24, 3, [140], []) := zz_fetch_of p139 rfl rfl
theorem s139_116 : zz_Run zz_prog d 139 (116, [l0, l1, l2, l3, l4, l5], .int v :: st, k, h) = if v = 0 then zz_Run zz_prog d 139 (140, [l0, l1, l2, l3, l4, l5], st, k, h) else zz_Run zz_prog d 139 (119, [l0, l1, l2, l3, l4, l5], st, k, h) := zz_k_br (v = 0) rfl (zz_k_num f139_116 rfl)
theorem f139_119 : zz_fetch zz_prog 139 119 = some (.iload_n 1, 1, [], []) := zz_fetch_of p139 rfl rfl
theorem s139_119 : zz_Run zz_prog d 139 (119, [l0, some (.int v), l2, l3, l4, l5], st, k, h) = zz_Run zz_prog d 139 (120, [l0, some (.int v), l2, l3, l4, l5], .int v :: st, k, h) := zz_k_num f139_119 rfl
theorem f139_120 : zz_fetch zz_prog 139 120 = some (.iconst 1, 1, [], []) := zz_fetch_of p139 rfl rfl
theorem s139_120 : zz_Run zz_prog d 139 (120, [l0, l1, l2, l3, l4, l5], st, k, h) = zz_Run zz_prog d 139 (121, [l0, l1, l2, l3, l4, l5], .int 1 :: st, k, h) := zz_k_num f139_120 rfl
theorem f139_121 : zz_fetch zz_prog 139 121 = some (.if_icmp .ne 15, 3, [136], []) := zz_fetch_of p139 rfl rfl
theorem s139_121 : zz_Run zz_prog d 139 (121, [l0, l1, l2, l3, l4, l5], .int w :: .int v :: st, k, h) = if ¬ v = w then zz_Run zz_prog d 139 (136, [l0, l1, l2, l3, l4, l5], st, k, h) else zz_Run zz_prog d 139 (124, [l0, l1, l2, l3, l4, l5], st, k, h) := zz_k_br (¬ v = w) rfl (zz_k_num f139_121 rfl)
theorem f139_124 : zz_fetch zz_prog 139 124 = some (.aload_n 0, 1, [], []) := zz_fetch_of p139 rfl rfl
theorem s139_124 : zz_Run zz_prog d 139 (124, [some (.ref a), l1, l2, l3, l4, l5], st, k, h) = zz_Run zz_prog d 139 (125, [some (.ref a), l1, l2, l3, l4, l5], .ref a :: st, k, h) := zz_k_num f139_124 rfl
theorem f139_125 : zz_fetch zz_prog 139 125 = some (.iload 4, 2, [], []) := zz_fetch_of p139 rfl rfl
theorem s139_125 : zz_Run zz_prog d 139 (125, [l0, l1, l2, l3, some (.int v), l5], st, k, h) = zz_Run zz_prog d 139 (127, [l0, l1, l2, l3, some (.int v), l5], .int v :: st, k, h) := zz_k_num f139_125 rfl
theorem f139_127 : zz_fetch zz_prog 139 127 = some (.iconst 0, 1, [], []) := zz_fetch_of p139 rfl rfl
theorem s139_127 : zz_Run zz_prog d 139 (127, [l0, l1, l2, l3, l4, l5], st, k, h) = zz_Run zz_prog d 139 (128, [l0, l1, l2, l3, l4, l5], .int 0 :: st, k, h) := zz_k_num f139_127 rfl
theorem f139_128 : zz_fetch zz_prog 139 128 = some (.invokevirtual 126, 3, [0, 103, 3, 2], []) := zz_fetch_of p139 rfl rfl
theorem s139_128 : zz_Run zz_prog d 139 (128, [l0, l1, l2, l3, l4, l5], [b0, b1, .ref 23], k, (zz_hp n I J ex)) = zz_ret (zz_Call zz_prog d 103 [.ref 23, b1, b0] (zz_hp n I J ex)) (fun v k' h' => zz_Run zz_prog d 139 (131, [l0, l1, l2, l3, l4, l5], v.toList ++ [], k && k', h')) (fun a k' h' => zz_th d 139 128 a [l0, l1, l2, l3, l4, l5] (k && k') h') := zz_k_call f139_128 rfl rfl rfl
theorem f139_131 : zz_fetch zz_prog 139 131 = some (.bipush 15, 2, [], []) := zz_fetch_of p139 rfl rfl
theorem s139_131 : zz_Run zz_prog d 139 (131, [l0, l1, l2, l3, l4, l5], st, k, h) = zz_Run zz_prog d 139 (133, [l0, l1, l2, l3, l4, l5], .int 15 :: st, k, h) := zz_k_num f139_131 (congrArg (fun u => some (133, [l0, l1, l2, l3, l4, l5], Value.int u :: st)) (by decide : (Int8.ofInt 15).toInt32 = 15))
theorem f139_133 : zz_fetch zz_prog 139 133 = some (.if_icmp .ge 7, 3, [140], []) := zz_fetch_of p139 rfl rfl
theorem s139_133 : zz_Run zz_prog d 139 (133, [l0, l1, l2, l3, l4, l5], .int w :: .int v :: st, k, h) = if w ≤ v then zz_Run zz_prog d 139 (140, [l0, l1, l2, l3, l4, l5], st, k, h) else zz_Run zz_prog d 139 (136, [l0, l1, l2, l3, l4, l5], st, k, h) := zz_k_br (w ≤ v) rfl (zz_k_num f139_133 rfl)
theorem f139_136 : zz_fetch zz_prog 139 136 = some (.iconst 1, 1, [], []) := zz_fetch_of p139 rfl rfl
theorem s139_136 : zz_Run zz_prog d 139 (136, [l0, l1, l2, l3, l4, l5], st, k, h) = zz_Run zz_prog d 139 (137, [l0, l1, l2, l3, l4, l5], .int 1 :: st, k, h) := zz_k_num f139_136 rfl
theorem f139_137 : zz_fetch zz_prog 139 137 = some (.goto 4, 3, [141], []) := zz_fetch_of p139 rfl rfl
theorem s139_137 : zz_Run zz_prog d 139 (137, [l0, l1, l2, l3, l4, l5], st, k, h) = zz_Run zz_prog d 139 (141, [l0, l1, l2, l3, l4, l5], st, k, h) := zz_k_num f139_137 rfl
theorem f139_140 : zz_fetch zz_prog 139 140 = some (.iconst 0, 1, [], []) := zz_fetch_of p139 rfl rfl
theorem s139_140 : zz_Run zz_prog d 139 (140, [l0, l1, l2, l3, l4, l5], st, k, h) = zz_Run zz_prog d 139 (141, [l0, l1, l2, l3, l4, l5], .int 0 :: st, k, h) := zz_k_num f139_140 rfl
theorem f139_141 : zz_fetch zz_prog 139 141 = some (.ireturn, 1, [1], []) := zz_fetch_of p139 rfl rfl
theorem s139_141 : zz_Run zz_prog d 139 (141, [l0, l1, l2, l3, l4, l5], [.int v], k, h) = zz_ck (decide (v = 0 ∨ v = 1)) (some (.inl (some (.int v)), k, h)) := zz_k_retz f139_141
end S139
section S140
variable {d n j : Nat} {l0 l1 l2 l3 l4 : Option Value} {st : List Value} {k : Bool} {h : zz_H} {v w v1 v2 : Int32} {y y1 : Int64} {a a1 a2 : Nat} {b0 b1 b2 b3 b4 b5 b6 b7 b8 : Value} {I : Nat → Nat → Int32} {J : Nat → Nat → Int64} {ex : List (Nat × Nat)}
theorem p140 : zz_prog 140 = some zz_m140 := rfl
theorem e140 (g0 : Nat) (g1 : Int32) (g2 : Int32) : zz_Call zz_prog (d + 1) 140 [.ref g0, .int g1, .int g2] h = zz_Run zz_prog d 140 (0, [some (.ref g0), some (.int g1), some (.int g2), none, none], [], true, h) := rfl
theorem t140 (pc : Nat) (L : List (Option Value)) : zz_th d 140 pc a L k h = some (.inr a, k, h) := zz_th_out p140 rfl
theorem f140_0 : zz_fetch zz_prog 140 0 = some (.iconst 0, 1, [], []) := zz_fetch_of p140 rfl rfl
theorem s140_0 : zz_Run zz_prog d 140 (0, [l0, l1, l2, l3, l4], st, k, h) = zz_Run zz_prog d 140 (1, [l0, l1, l2, l3, l4], .int 0 :: st, k, h) := zz_k_num f140_0 rfl
theorem f140_1 : zz_fetch zz_prog 140 1 = some (.istore_n 3, 1, [], []) := zz_fetch_of p140 rfl rfl
theorem s140_1 : zz_Run zz_prog d 140 (1, [l0, l1, l2, l3, l4], .int v :: st, k, h) = zz_sl l2 (zz_Run zz_prog d 140 (2, [l0, l1, l2, some (.int v), l4], st, k, h)) := zz_k_st (j := 3) (u := .int v) f140_1 rfl (fun q hq => by cases hq) rfl (show 3 < 5 by decide) (by cases l2 <;> rfl) rfl
theorem f140_2 : zz_fetch zz_prog 140 2 = some (.iconst 0, 1, [], []) := zz_fetch_of p140 rfl rfl
theorem s140_2 : zz_Run zz_prog d 140 (2, [l0, l1, l2, l3, l4], st, k, h) = zz_Run zz_prog d 140 (3, [l0, l1, l2, l3, l4], .int 0 :: st, k, h) := zz_k_num f140_2 rfl
theorem f140_3 : zz_fetch zz_prog 140 3 = some (.istore 4, 2, [], []) := zz_fetch_of p140 rfl rfl
theorem s140_3 : zz_Run zz_prog d 140 (3, [l0, l1, l2, l3, l4], .int v :: st, k, h) = zz_sl l3 (zz_Run zz_prog d 140 (5, [l0, l1, l2, l3, some (.int v)], st, k, h)) := zz_k_st (j := 4) (u := .int v) f140_3 rfl (fun q hq => by cases hq) rfl (show 4 < 5 by decide) (by cases l3 <;> rfl) rfl
theorem f140_5 : zz_fetch zz_prog 140 5 = some (.iload 4, 2, [], []) := zz_fetch_of p140 rfl rfl
theorem s140_5 : zz_Run zz_prog d 140 (5, [l0, l1, l2, l3, some (.int v)], st, k, h) = zz_Run zz_prog d 140 (7, [l0, l1, l2, l3, some (.int v)], .int v :: st, k, h) := zz_k_num f140_5 rfl
theorem f140_7 : zz_fetch zz_prog 140 7 = some (.aload_n 0, 1, [], []) := zz_fetch_of p140 rfl rfl
theorem s140_7 : zz_Run zz_prog d 140 (7, [some (.ref a), l1, l2, l3, l4], st, k, h) = zz_Run zz_prog d 140 (8, [some (.ref a), l1, l2, l3, l4], .ref a :: st, k, h) := zz_k_num f140_7 rfl
theorem f140_8 : zz_fetch zz_prog 140 8 = some (.getfield 105, 3, [2, 15, 0], []) := zz_fetch_of p140 rfl rfl
theorem s140_8 : zz_Run zz_prog d 140 (8, [l0, l1, l2, l3, l4], .ref 23 :: st, k, (zz_hp n I J ex)) = zz_Run zz_prog d 140 (11, [l0, l1, l2, l3, l4], .int (I 23 15) :: st, k, (zz_hp n I J ex)) := zz_k_go f140_8 rfl rfl rfl
theorem f140_11 : zz_fetch zz_prog 140 11 = some (.if_icmp .ge 47, 3, [58], []) := zz_fetch_of p140 rfl rfl
theorem s140_11 : zz_Run zz_prog d 140 (11, [l0, l1, l2, l3, l4], .int w :: .int v :: st, k, h) = if w ≤ v then zz_Run zz_prog d 140 (58, [l0, l1, l2, l3, l4], st, k, h) else zz_Run zz_prog d 140 (14, [l0, l1, l2, l3, l4], st, k, h) := zz_k_br (w ≤ v) rfl (zz_k_num f140_11 rfl)
theorem f140_14 : zz_fetch zz_prog 140 14 = some (.iload 4, 2, [], []) := zz_fetch_of p140 rfl rfl
theorem s140_14 : zz_Run zz_prog d 140 (14, [l0, l1, l2, l3, some (.int v)], st, k, h) = zz_Run zz_prog d 140 (16, [l0, l1, l2, l3, some (.int v)], .int v :: st, k, h) := zz_k_num f140_14 rfl
theorem f140_16 : zz_fetch zz_prog 140 16 = some (.iload_n 1, 1, [], []) := zz_fetch_of p140 rfl rfl
theorem s140_16 : zz_Run zz_prog d 140 (16, [l0, some (.int v), l2, l3, l4], st, k, h) = zz_Run zz_prog d 140 (17, [l0, some (.int v), l2, l3, l4], .int v :: st, k, h) := zz_k_num f140_16 rfl
theorem f140_17 : zz_fetch zz_prog 140 17 = some (.if_icmp .eq 35, 3, [52], []) := zz_fetch_of p140 rfl rfl
theorem s140_17 : zz_Run zz_prog d 140 (17, [l0, l1, l2, l3, l4], .int w :: .int v :: st, k, h) = if v = w then zz_Run zz_prog d 140 (52, [l0, l1, l2, l3, l4], st, k, h) else zz_Run zz_prog d 140 (20, [l0, l1, l2, l3, l4], st, k, h) := zz_k_br (v = w) rfl (zz_k_num f140_17 rfl)
theorem f140_20 : zz_fetch zz_prog 140 20 = some (.iload_n 3, 1, [], []) := zz_fetch_of p140 rfl rfl
theorem s140_20 : zz_Run zz_prog d 140 (20, [l0, l1, l2, some (.int v), l4], st, k, h) = zz_Run zz_prog d 140 (21, [l0, l1, l2, some (.int v), l4], .int v :: st, k, h) := zz_k_num f140_20 rfl
theorem f140_21 : zz_fetch zz_prog 140 21 = some (.aload_n 0, 1, [], []) := zz_fetch_of p140 rfl rfl
theorem s140_21 : zz_Run zz_prog d 140 (21, [some (.ref a), l1, l2, l3, l4], st, k, h) = zz_Run zz_prog d 140 (22, [some (.ref a), l1, l2, l3, l4], .ref a :: st, k, h) := zz_k_num f140_21 rfl
theorem f140_22 : zz_fetch zz_prog 140 22 = some (.getfield 7, 3, [2, 1, 3], []) := zz_fetch_of p140 rfl rfl
theorem s140_22 : zz_Run zz_prog d 140 (22, [l0, l1, l2, l3, l4], .ref 23 :: st, k, (zz_hp n I J ex)) = zz_Run zz_prog d 140 (25, [l0, l1, l2, l3, l4], .ref 24 :: st, k, (zz_hp n I J ex)) := zz_k_go f140_22 rfl rfl rfl
theorem f140_25 : zz_fetch zz_prog 140 25 = some (.bipush 126, 2, [], []) := zz_fetch_of p140 rfl rfl
theorem s140_25 : zz_Run zz_prog d 140 (25, [l0, l1, l2, l3, l4], st, k, h) = zz_Run zz_prog d 140 (27, [l0, l1, l2, l3, l4], .int 126 :: st, k, h) := zz_k_num f140_25 (congrArg (fun u => some (27, [l0, l1, l2, l3, l4], Value.int u :: st)) (by decide : (Int8.ofInt 126).toInt32 = 126))
theorem f140_27 : zz_fetch zz_prog 140 27 = some (.iconst 5, 1, [], []) := zz_fetch_of p140 rfl rfl
theorem s140_27 : zz_Run zz_prog d 140 (27, [l0, l1, l2, l3, l4], st, k, h) = zz_Run zz_prog d 140 (28, [l0, l1, l2, l3, l4], .int 5 :: st, k, h) := zz_k_num f140_27 rfl
theorem f140_28 : zz_fetch zz_prog 140 28 = some (.iload 4, 2, [], []) := zz_fetch_of p140 rfl rfl
theorem s140_28 : zz_Run zz_prog d 140 (28, [l0, l1, l2, l3, some (.int v)], st, k, h) = zz_Run zz_prog d 140 (30, [l0, l1, l2, l3, some (.int v)], .int v :: st, k, h) := zz_k_num f140_28 rfl
theorem f140_30 : zz_fetch zz_prog 140 30 = some (.imul, 1, [], []) := zz_fetch_of p140 rfl rfl
theorem s140_30 : zz_Run zz_prog d 140 (30, [l0, l1, l2, l3, l4], .int w :: .int v :: st, k, h) = zz_Run zz_prog d 140 (31, [l0, l1, l2, l3, l4], .int (v * w) :: st, k, h) := zz_k_num f140_30 rfl
theorem f140_31 : zz_fetch zz_prog 140 31 = some (.iadd, 1, [], []) := zz_fetch_of p140 rfl rfl
theorem s140_31 : zz_Run zz_prog d 140 (31, [l0, l1, l2, l3, l4], .int w :: .int v :: st, k, h) = zz_Run zz_prog d 140 (32, [l0, l1, l2, l3, l4], .int (v + w) :: st, k, h) := zz_k_num f140_31 rfl
theorem f140_32 : zz_fetch zz_prog 140 32 = some (.iload_n 2, 1, [], []) := zz_fetch_of p140 rfl rfl
theorem s140_32 : zz_Run zz_prog d 140 (32, [l0, l1, some (.int v), l3, l4], st, k, h) = zz_Run zz_prog d 140 (33, [l0, l1, some (.int v), l3, l4], .int v :: st, k, h) := zz_k_num f140_32 rfl
theorem f140_33 : zz_fetch zz_prog 140 33 = some (.iadd, 1, [], []) := zz_fetch_of p140 rfl rfl
theorem s140_33 : zz_Run zz_prog d 140 (33, [l0, l1, l2, l3, l4], .int w :: .int v :: st, k, h) = zz_Run zz_prog d 140 (34, [l0, l1, l2, l3, l4], .int (v + w) :: st, k, h) := zz_k_num f140_33 rfl
theorem f140_34 : zz_fetch zz_prog 140 34 = some (.iaload, 1, [], []) := zz_fetch_of p140 rfl rfl
theorem s140_34 (ha : zz_isrd a = true) : zz_Run zz_prog d 140 (34, [l0, l1, l2, l3, l4], .int v :: .ref a :: st, k, (zz_hp n I J ex)) = zz_ck (zz_in v (zz_ary n a)) (zz_Run zz_prog d 140 (35, [l0, l1, l2, l3, l4], .int (I a v.toNatClampNeg) :: st, k, (zz_hp n I J ex))) := zz_k_iald f140_34 ha
theorem f140_35 : zz_fetch zz_prog 140 35 = some (.iadd, 1, [], []) := zz_fetch_of p140 rfl rfl
theorem s140_35 : zz_Run zz_prog d 140 (35, [l0, l1, l2, l3, l4], .int w :: .int v :: st, k, h) = zz_Run zz_prog d 140 (36, [l0, l1, l2, l3, l4], .int (v + w) :: st, k, h) := zz_k_num f140_35 rfl
theorem f140_36 : zz_fetch zz_prog 140 36 = some (.istore_n 3, 1, [], []) := zz_fetch_of p140 rfl rfl
theorem s140_36 : zz_Run zz_prog d 140 (36, [l0, l1, l2, l3, l4], .int v :: st, k, h) = zz_sl l2 (zz_Run zz_prog d 140 (37, [l0, l1, l2, some (.int v), l4], st, k, h)) := zz_k_st (j := 3) (u := .int v) f140_36 rfl (fun q hq => by cases hq) rfl (show 3 < 5 by decide) (by cases l2 <;> rfl) rfl
theorem f140_37 : zz_fetch zz_prog 140 37 = some (.aload_n 0, 1, [], []) := zz_fetch_of p140 rfl rfl
theorem s140_37 : zz_Run zz_prog d 140 (37, [some (.ref a), l1, l2, l3, l4], st, k, h) = zz_Run zz_prog d 140 (38, [some (.ref a), l1, l2, l3, l4], .ref a :: st, k, h) := zz_k_num f140_37 rfl
theorem f140_38 : zz_fetch zz_prog 140 38 = some (.getfield 7, 3, [2, 1, 3], []) := zz_fetch_of p140 rfl rfl
theorem s140_38 : zz_Run zz_prog d 140 (38, [l0, l1, l2, l3, l4], .ref 23 :: st, k, (zz_hp n I J ex)) = zz_Run zz_prog d 140 (41, [l0, l1, l2, l3, l4], .ref 24 :: st, k, (zz_hp n I J ex)) := zz_k_go f140_38 rfl rfl rfl
theorem f140_41 : zz_fetch zz_prog 140 41 = some (.bipush 126, 2, [], []) := zz_fetch_of p140 rfl rfl
theorem s140_41 : zz_Run zz_prog d 140 (41, [l0, l1, l2, l3, l4], st, k, h) = zz_Run zz_prog d 140 (43, [l0, l1, l2, l3, l4], .int 126 :: st, k, h) := zz_k_num f140_41 (congrArg (fun u => some (43, [l0, l1, l2, l3, l4], Value.int u :: st)) (by decide : (Int8.ofInt 126).toInt32 = 126))
theorem f140_43 : zz_fetch zz_prog 140 43 = some (.iconst 5, 1, [], []) := zz_fetch_of p140 rfl rfl
theorem s140_43 : zz_Run zz_prog d 140 (43, [l0, l1, l2, l3, l4], st, k, h) = zz_Run zz_prog d 140 (44, [l0, l1, l2, l3, l4], .int 5 :: st, k, h) := zz_k_num f140_43 rfl
theorem f140_44 : zz_fetch zz_prog 140 44 = some (.iload 4, 2, [], []) := zz_fetch_of p140 rfl rfl
theorem s140_44 : zz_Run zz_prog d 140 (44, [l0, l1, l2, l3, some (.int v)], st, k, h) = zz_Run zz_prog d 140 (46, [l0, l1, l2, l3, some (.int v)], .int v :: st, k, h) := zz_k_num f140_44 rfl
theorem f140_46 : zz_fetch zz_prog 140 46 = some (.imul, 1, [], []) := zz_fetch_of p140 rfl rfl
theorem s140_46 : zz_Run zz_prog d 140 (46, [l0, l1, l2, l3, l4], .int w :: .int v :: st, k, h) = zz_Run zz_prog d 140 (47, [l0, l1, l2, l3, l4], .int (v * w) :: st, k, h) := zz_k_num f140_46 rfl
theorem f140_47 : zz_fetch zz_prog 140 47 = some (.iadd, 1, [], []) := zz_fetch_of p140 rfl rfl
theorem s140_47 : zz_Run zz_prog d 140 (47, [l0, l1, l2, l3, l4], .int w :: .int v :: st, k, h) = zz_Run zz_prog d 140 (48, [l0, l1, l2, l3, l4], .int (v + w) :: st, k, h) := zz_k_num f140_47 rfl
theorem f140_48 : zz_fetch zz_prog 140 48 = some (.iload_n 2, 1, [], []) := zz_fetch_of p140 rfl rfl
theorem s140_48 : zz_Run zz_prog d 140 (48, [l0, l1, some (.int v), l3, l4], st, k, h) = zz_Run zz_prog d 140 (49, [l0, l1, some (.int v), l3, l4], .int v :: st, k, h) := zz_k_num f140_48 rfl
theorem f140_49 : zz_fetch zz_prog 140 49 = some (.iadd, 1, [], []) := zz_fetch_of p140 rfl rfl
theorem s140_49 : zz_Run zz_prog d 140 (49, [l0, l1, l2, l3, l4], .int w :: .int v :: st, k, h) = zz_Run zz_prog d 140 (50, [l0, l1, l2, l3, l4], .int (v + w) :: st, k, h) := zz_k_num f140_49 rfl
theorem f140_50 : zz_fetch zz_prog 140 50 = some (.iconst 0, 1, [], []) := zz_fetch_of p140 rfl rfl
theorem s140_50 : zz_Run zz_prog d 140 (50, [l0, l1, l2, l3, l4], st, k, h) = zz_Run zz_prog d 140 (51, [l0, l1, l2, l3, l4], .int 0 :: st, k, h) := zz_k_num f140_50 rfl
theorem f140_51 : zz_fetch zz_prog 140 51 = some (.iastore, 1, [], []) := zz_fetch_of p140 rfl rfl
theorem s140_51 (ha : zz_isar a = true) : zz_Run zz_prog d 140 (51, [l0, l1, l2, l3, l4], .int w :: .int v :: .ref a :: st, k, (zz_hp n I J ex)) = zz_ck (zz_in v (zz_ary n a)) (zz_Run zz_prog d 140 (52, [l0, l1, l2, l3, l4], st, false, (zz_hp n (zz_up I a v.toNatClampNeg w) J ex))) := zz_k_iast f140_51 ha
theorem f140_52 : zz_fetch zz_prog 140 52 = some (.iinc 4 1, 3, [], []) := zz_fetch_of p140 rfl rfl
theorem s140_52 : zz_Run zz_prog d 140 (52, [l0, l1, l2, l3, some (.int v)], st, k, h) = zz_sl l3 (zz_Run zz_prog d 140 (55, [l0, l1, l2, l3, some (.int (v + 1))], st, k, h)) := zz_k_st (j := 4) (u := .int (v + 1)) f140_52 rfl (fun q hq => by cases hq) rfl (show 4 < 5 by decide) (by cases l3 <;> rfl) rfl
theorem f140_55 : zz_fetch zz_prog 140 55 = some (.goto (-50), 3, [5], []) := zz_fetch_of p140 rfl rfl
theorem s140_55 : zz_Run zz_prog d 140 (55, [l0, l1, l2, l3, l4], st, k, h) = zz_Run zz_prog d 140 (5, [l0, l1, l2, l3, l4], st, k, h) := zz_k_num f140_55 rfl
theorem f140_58 : zz_fetch zz_prog 140 58 = some (.aload_n 0, 1, [], []) := zz_fetch_of p140 rfl rfl
theorem s140_58 : zz_Run zz_prog d 140 (58, [some (.ref a), l1, l2, l3, l4], st, k, h) = zz_Run zz_prog d 140 (59, [some (.ref a), l1, l2, l3, l4], .ref a :: st, k, h) := zz_k_num f140_58 rfl
theorem f140_59 : zz_fetch zz_prog 140 59 = some (.getfield 7, 3, [2, 1, 3], []) := zz_fetch_of p140 rfl rfl
theorem s140_59 : zz_Run zz_prog d 140 (59, [l0, l1, l2, l3, l4], .ref 23 :: st, k, (zz_hp n I J ex)) = zz_Run zz_prog d 140 (62, [l0, l1, l2, l3, l4], .ref 24 :: st, k, (zz_hp n I J ex)) := zz_k_go f140_59 rfl rfl rfl
theorem f140_62 : zz_fetch zz_prog 140 62 = some (.bipush 126, 2, [], []) := zz_fetch_of p140 rfl rfl
theorem s140_62 : zz_Run zz_prog d 140 (62, [l0, l1, l2, l3, l4], st, k, h) = zz_Run zz_prog d 140 (64, [l0, l1, l2, l3, l4], .int 126 :: st, k, h) := zz_k_num f140_62 (congrArg (fun u => some (64, [l0, l1, l2, l3, l4], Value.int u :: st)) (by decide : (Int8.ofInt 126).toInt32 = 126))
theorem f140_64 : zz_fetch zz_prog 140 64 = some (.iconst 5, 1, [], []) := zz_fetch_of p140 rfl rfl
theorem s140_64 : zz_Run zz_prog d 140 (64, [l0, l1, l2, l3, l4], st, k, h) = zz_Run zz_prog d 140 (65, [l0, l1, l2, l3, l4], .int 5 :: st, k, h) := zz_k_num f140_64 rfl
theorem f140_65 : zz_fetch zz_prog 140 65 = some (.iload_n 1, 1, [], []) := zz_fetch_of p140 rfl rfl
theorem s140_65 : zz_Run zz_prog d 140 (65, [l0, some (.int v), l2, l3, l4], st, k, h) = zz_Run zz_prog d 140 (66, [l0, some (.int v), l2, l3, l4], .int v :: st, k, h) := zz_k_num f140_65 rfl
theorem f140_66 : zz_fetch zz_prog 140 66 = some (.imul, 1, [], []) := zz_fetch_of p140 rfl rfl
theorem s140_66 : zz_Run zz_prog d 140 (66, [l0, l1, l2, l3, l4], .int w :: .int v :: st, k, h) = zz_Run zz_prog d 140 (67, [l0, l1, l2, l3, l4], .int (v * w) :: st, k, h) := zz_k_num f140_66 rfl
theorem f140_67 : zz_fetch zz_prog 140 67 = some (.iadd, 1, [], []) := zz_fetch_of p140 rfl rfl
theorem s140_67 : zz_Run zz_prog d 140 (67, [l0, l1, l2, l3, l4], .int w :: .int v :: st, k, h) = zz_Run zz_prog d 140 (68, [l0, l1, l2, l3, l4], .int (v + w) :: st, k, h) := zz_k_num f140_67 rfl
theorem f140_68 : zz_fetch zz_prog 140 68 = some (.iload_n 2, 1, [], []) := zz_fetch_of p140 rfl rfl
theorem s140_68 : zz_Run zz_prog d 140 (68, [l0, l1, some (.int v), l3, l4], st, k, h) = zz_Run zz_prog d 140 (69, [l0, l1, some (.int v), l3, l4], .int v :: st, k, h) := zz_k_num f140_68 rfl
theorem f140_69 : zz_fetch zz_prog 140 69 = some (.iadd, 1, [], []) := zz_fetch_of p140 rfl rfl
theorem s140_69 : zz_Run zz_prog d 140 (69, [l0, l1, l2, l3, l4], .int w :: .int v :: st, k, h) = zz_Run zz_prog d 140 (70, [l0, l1, l2, l3, l4], .int (v + w) :: st, k, h) := zz_k_num f140_69 rfl
theorem f140_70 : zz_fetch zz_prog 140 70 = some (.dup2, 1, [], []) := zz_fetch_of p140 rfl rfl
theorem s140_70 : zz_Run zz_prog d 140 (70, [l0, l1, l2, l3, l4], .int v :: .ref a1 :: st, k, h) = zz_Run zz_prog d 140 (71, [l0, l1, l2, l3, l4], .int v :: .ref a1 :: .int v :: .ref a1 :: st, k, h) := zz_k_num f140_70 rfl
theorem f140_71 : zz_fetch zz_prog 140 71 = some (.iaload, 1, [], []) := zz_fetch_of p140 rfl rfl
theorem s140_71 (ha : zz_isrd a = true) : zz_Run zz_prog d 140 (71, [l0, l1, l2, l3, l4], .int v :: .ref a :: st, k, (zz_hp n I J ex)) = zz_ck (zz_in v (zz_ary n a)) (zz_Run zz_prog d 140 (72, [l0, l1, l2, l3, l4], .int (I a v.toNatClampNeg) :: st, k, (zz_hp n I J ex))) := zz_k_iald f140_71 ha
theorem f140_72 : zz_fetch zz_prog 140 72 = some (.iload_n 3, 1, [], []) := zz_fetch_of p140 rfl rfl
theorem s140_72 : zz_Run zz_prog d 140 (72, [l0, l1, l2, some (.int v), l4], st, k, h) = zz_Run zz_prog d 140 (73, [l0, l1, l2, some (.int v), l4], .int v :: st, k, h) := zz_k_num f140_72 rfl
theorem f140_73 : zz_fetch zz_prog 140 73 = some (.iadd, 1, [], []) := zz_fetch_of p140 rfl rfl
theorem s140_73 : zz_Run zz_prog d 140 (73, [l0, l1, l2, l3, l4], .int w :: .int v :: st, k, h) = zz_Run zz_prog d 140 (74, [l0, l1, l2, l3, l4], .int (v + w) :: st, k, h) := zz_k_num f140_73 rfl
theorem f140_74 : zz_fetch zz_prog 140 74 = some (.iastore, 1, [], []) := zz_fetch_of p140 rfl rfl
theorem s140_74 (ha : zz_isar a = true) : zz_Run zz_prog d 140 (74, [l0, l1, l2, l3, l4], .int w :: .int v :: .ref a :: st, k, (zz_hp n I J ex)) = zz_ck (zz_in v (zz_ary n a)) (zz_Run zz_prog d 140 (75, [l0, l1, l2, l3, l4], st, false, (zz_hp n (zz_up I a v.toNatClampNeg w) J ex))) := zz_k_iast f140_74 ha
theorem f140_75 : zz_fetch zz_prog 140 75 = some (.iload_n 3, 1, [], []) := zz_fetch_of p140 rfl rfl
theorem s140_75 : zz_Run zz_prog d 140 (75, [l0, l1, l2, some (.int v), l4], st, k, h) = zz_Run zz_prog d 140 (76, [l0, l1, l2, some (.int v), l4], .int v :: st, k, h) := zz_k_num f140_75 rfl
theorem f140_76 : zz_fetch zz_prog 140 76 = some (.ireturn, 1, [0], []) := zz_fetch_of p140 rfl rfl
theorem s140_76 : zz_Run zz_prog d 140 (76, [l0, l1, l2, l3, l4], [.int v], k, h) = some (.inl (some (.int v)), k, h) := zz_k_stop f140_76 rfl rfl rfl
end S140
section S141
variable {d n j : Nat} {l0 l1 l2 l3 l4 l5 l6 : Option Value} {st : List Value} {k : Bool} {h : zz_H} {v w v1 v2 : Int32} {y y1 : Int64} {a a1 a2 : Nat} {b0 b1 b2 b3 b4 b5 b6 b7 b8 : Value} {I : Nat → Nat → Int32} {J : Nat → Nat → Int64} {ex : List (Nat × Nat)}
theorem p141 : zz_prog 141 = some zz_m141 := rfl
theorem e141 (g0 : Nat) (g1 : Int32) (g2 : Int32) (g3 : Int32) : zz_Call zz_prog (d + 1) 141 [.ref g0, .int g1, .int g2, .int g3] h = zz_Run zz_prog d 141 (0, [some (.ref g0), some (.int g1), some (.int g2), some (.int g3), none, none, none], [], true, h) := rfl
theorem t141 (pc : Nat) (L : List (Option Value)) : zz_th d 141 pc a L k h = some (.inr a, k, h) := zz_th_out p141 rfl
theorem f141_0 : zz_fetch zz_prog 141 0 = some (.iload_n 1, 1, [], []) := zz_fetch_of p141 rfl rfl
theorem s141_0 : zz_Run zz_prog d 141 (0, [l0, some (.int v), l2, l3, l4, l5, l6], st, k, h) = zz_Run zz_prog d 141 (1, [l0, some (.int v), l2, l3, l4, l5, l6], .int v :: st, k, h) := zz_k_num f141_0 rfl
theorem f141_1 : zz_fetch zz_prog 141 1 = some (.ifCond .lt 32, 3, [33], []) := zz_fetch_of p141 rfl rfl
theorem s141_1 : zz_Run zz_prog d 141 (1, [l0, l1, l2, l3, l4, l5, l6], .int v :: st, k, h) = if v < 0 then zz_Run zz_prog d 141 (33, [l0, l1, l2, l3, l4, l5, l6], st, k, h) else zz_Run zz_prog d 141 (4, [l0, l1, l2, l3, l4, l5, l6], st, k, h) := zz_k_br (v < 0) rfl (zz_k_num f141_1 rfl)
theorem f141_4 : zz_fetch zz_prog 141 4 = some (.iload_n 1, 1, [], []) := zz_fetch_of p141 rfl rfl
theorem s141_4 : zz_Run zz_prog d 141 (4, [l0, some (.int v), l2, l3, l4, l5, l6], st, k, h) = zz_Run zz_prog d 141 (5, [l0, some (.int v), l2, l3, l4, l5, l6], .int v :: st, k, h) := zz_k_num f141_4 rfl
theorem f141_5 : zz_fetch zz_prog 141 5 = some (.iconst 3, 1, [], []) := zz_fetch_of p141 rfl rfl
theorem s141_5 : zz_Run zz_prog d 141 (5, [l0, l1, l2, l3, l4, l5, l6], st, k, h) = zz_Run zz_prog d 141 (6, [l0, l1, l2, l3, l4, l5, l6], .int 3 :: st, k, h) := zz_k_num f141_5 rfl
theorem f141_6 : zz_fetch zz_prog 141 6 = some (.if_icmp .gt 27, 3, [33], []) := zz_fetch_of p141 rfl rfl
theorem s141_6 : zz_Run zz_prog d 141 (6, [l0, l1, l2, l3, l4, l5, l6], .int w :: .int v :: st, k, h) = if w < v then zz_Run zz_prog d 141 (33, [l0, l1, l2, l3, l4, l5, l6], st, k, h) else zz_Run zz_prog d 141 (9, [l0, l1, l2, l3, l4, l5, l6], st, k, h) := zz_k_br (w < v) rfl (zz_k_num f141_6 rfl)
theorem f141_9 : zz_fetch zz_prog 141 9 = some (.iload_n 1, 1, [], []) := zz_fetch_of p141 rfl rfl
theorem s141_9 : zz_Run zz_prog d 141 (9, [l0, some (.int v), l2, l3, l4, l5, l6], st, k, h) = zz_Run zz_prog d 141 (10, [l0, some (.int v), l2, l3, l4, l5, l6], .int v :: st, k, h) := zz_k_num f141_9 rfl
theorem f141_10 : zz_fetch zz_prog 141 10 = some (.iconst 2, 1, [], []) := zz_fetch_of p141 rfl rfl
theorem s141_10 : zz_Run zz_prog d 141 (10, [l0, l1, l2, l3, l4, l5, l6], st, k, h) = zz_Run zz_prog d 141 (11, [l0, l1, l2, l3, l4, l5, l6], .int 2 :: st, k, h) := zz_k_num f141_10 rfl
theorem f141_11 : zz_fetch zz_prog 141 11 = some (.if_icmp .ne 10, 3, [21], []) := zz_fetch_of p141 rfl rfl
theorem s141_11 : zz_Run zz_prog d 141 (11, [l0, l1, l2, l3, l4, l5, l6], .int w :: .int v :: st, k, h) = if ¬ v = w then zz_Run zz_prog d 141 (21, [l0, l1, l2, l3, l4, l5, l6], st, k, h) else zz_Run zz_prog d 141 (14, [l0, l1, l2, l3, l4, l5, l6], st, k, h) := zz_k_br (¬ v = w) rfl (zz_k_num f141_11 rfl)
theorem f141_14 : zz_fetch zz_prog 141 14 = some (.iload_n 3, 1, [], []) := zz_fetch_of p141 rfl rfl
theorem s141_14 : zz_Run zz_prog d 141 (14, [l0, l1, l2, some (.int v), l4, l5, l6], st, k, h) = zz_Run zz_prog d 141 (15, [l0, l1, l2, some (.int v), l4, l5, l6], .int v :: st, k, h) := zz_k_num f141_14 rfl
theorem f141_15 : zz_fetch zz_prog 141 15 = some (.invokestatic 194, 3, [0, 128, 1], []) := zz_fetch_of p141 rfl rfl
theorem s141_15 : zz_Run zz_prog d 141 (15, [l0, l1, l2, l3, l4, l5, l6], [b0], k, h) = zz_ret (zz_Call zz_prog d 128 [b0] h) (fun v k' h' => zz_Run zz_prog d 141 (18, [l0, l1, l2, l3, l4, l5, l6], v.toList ++ [], k && k', h')) (fun a k' h' => zz_th d 141 15 a [l0, l1, l2, l3, l4, l5, l6] (k && k') h') := zz_k_call f141_15 rfl rfl rfl
theorem f141_18 : zz_fetch zz_prog 141 18 = some (.ifCond .eq 15, 3, [33], []) := zz_fetch_of p141 rfl rfl
theorem s141_18 : zz_Run zz_prog d 141 (18, [l0, l1, l2, l3, l4, l5, l6], .int v :: st, k, h) = if v = 0 then zz_Run zz_prog d 141 (33, [l0, l1, l2, l3, l4, l5, l6], st, k, h) else zz_Run zz_prog d 141 (21, [l0, l1, l2, l3, l4, l5, l6], st, k, h) := zz_k_br (v = 0) rfl (zz_k_num f141_18 rfl)
theorem f141_21 : zz_fetch zz_prog 141 21 = some (.iload_n 1, 1, [], []) := zz_fetch_of p141 rfl rfl
theorem s141_21 : zz_Run zz_prog d 141 (21, [l0, some (.int v), l2, l3, l4, l5, l6], st, k, h) = zz_Run zz_prog d 141 (22, [l0, some (.int v), l2, l3, l4, l5, l6], .int v :: st, k, h) := zz_k_num f141_21 rfl
theorem f141_22 : zz_fetch zz_prog 141 22 = some (.iconst 1, 1, [], []) := zz_fetch_of p141 rfl rfl
theorem s141_22 : zz_Run zz_prog d 141 (22, [l0, l1, l2, l3, l4, l5, l6], st, k, h) = zz_Run zz_prog d 141 (23, [l0, l1, l2, l3, l4, l5, l6], .int 1 :: st, k, h) := zz_k_num f141_22 rfl
theorem f141_23 : zz_fetch zz_prog 141 23 = some (.if_icmp .le 14, 3, [37], []) := zz_fetch_of p141 rfl rfl
theorem s141_23 : zz_Run zz_prog d 141 (23, [l0, l1, l2, l3, l4, l5, l6], .int w :: .int v :: st, k, h) = if v ≤ w then zz_Run zz_prog d 141 (37, [l0, l1, l2, l3, l4, l5, l6], st, k, h) else zz_Run zz_prog d 141 (26, [l0, l1, l2, l3, l4, l5, l6], st, k, h) := zz_k_br (v ≤ w) rfl (zz_k_num f141_23 rfl)
theorem f141_26 : zz_fetch zz_prog 141 26 = some (.iload_n 2, 1, [], []) := zz_fetch_of p141 rfl rfl
theorem s141_26 : zz_Run zz_prog d 141 (26, [l0, l1, some (.int v), l3, l4, l5, l6], st, k, h) = zz_Run zz_prog d 141 (27, [l0, l1, some (.int v), l3, l4, l5, l6], .int v :: st, k, h) := zz_k_num f141_26 rfl
theorem f141_27 : zz_fetch zz_prog 141 27 = some (.invokestatic 194, 3, [0, 128, 1], []) := zz_fetch_of p141 rfl rfl
theorem s141_27 : zz_Run zz_prog d 141 (27, [l0, l1, l2, l3, l4, l5, l6], [b0], k, h) = zz_ret (zz_Call zz_prog d 128 [b0] h) (fun v k' h' => zz_Run zz_prog d 141 (30, [l0, l1, l2, l3, l4, l5, l6], v.toList ++ [], k && k', h')) (fun a k' h' => zz_th d 141 27 a [l0, l1, l2, l3, l4, l5, l6] (k && k') h') := zz_k_call f141_27 rfl rfl rfl
theorem f141_30 : zz_fetch zz_prog 141 30 = some (.ifCond .ne 7, 3, [37], []) := zz_fetch_of p141 rfl rfl
theorem s141_30 : zz_Run zz_prog d 141 (30, [l0, l1, l2, l3, l4, l5, l6], .int v :: st, k, h) = if ¬ v = 0 then zz_Run zz_prog d 141 (37, [l0, l1, l2, l3, l4, l5, l6], st, k, h) else zz_Run zz_prog d 141 (33, [l0, l1, l2, l3, l4, l5, l6], st, k, h) := zz_k_br (¬ v = 0) rfl (zz_k_num f141_30 rfl)
theorem f141_33 : zz_fetch zz_prog 141 33 = some (.iconst 1, 1, [], []) := zz_fetch_of p141 rfl rfl
theorem s141_33 : zz_Run zz_prog d 141 (33, [l0, l1, l2, l3, l4, l5, l6], st, k, h) = zz_Run zz_prog d 141 (34, [l0, l1, l2, l3, l4, l5, l6], .int 1 :: st, k, h) := zz_k_num f141_33 rfl
theorem f141_34 : zz_fetch zz_prog 141 34 = some (.goto 4, 3, [38], []) := zz_fetch_of p141 rfl rfl
theorem s141_34 : zz_Run zz_prog d 141 (34, [l0, l1, l2, l3, l4, l5, l6], st, k, h) = zz_Run zz_prog d 141 (38, [l0, l1, l2, l3, l4, l5, l6], st, k, h) := zz_k_num f141_34 rfl
theorem f141_37 : zz_fetch zz_prog 141 37 = some (.iconst 0, 1, [], []) := zz_fetch_of p141 rfl rfl
theorem s141_37 : zz_Run zz_prog d 141 (37, [l0, l1, l2, l3, l4, l5, l6], st, k, h) = zz_Run zz_prog d 141 (38, [l0, l1, l2, l3, l4, l5, l6], .int 0 :: st, k, h) := zz_k_num f141_37 rfl
theorem f141_38 : zz_fetch zz_prog 141 38 = some (.istore 4, 2, [], []) := zz_fetch_of p141 rfl rfl
theorem s141_38 : zz_Run zz_prog d 141 (38, [l0, l1, l2, l3, l4, l5, l6], .int v :: st, k, h) = zz_sl l3 (zz_Run zz_prog d 141 (40, [l0, l1, l2, l3, some (.int v), l5, l6], st, k, h)) := zz_k_st (j := 4) (u := .int v) f141_38 rfl (fun q hq => by cases hq) rfl (show 4 < 7 by decide) (by cases l3 <;> rfl) rfl
theorem f141_40 : zz_fetch zz_prog 141 40 = some (.aload_n 0, 1, [], []) := zz_fetch_of p141 rfl rfl
theorem s141_40 : zz_Run zz_prog d 141 (40, [some (.ref a), l1, l2, l3, l4, l5, l6], st, k, h) = zz_Run zz_prog d 141 (41, [some (.ref a), l1, l2, l3, l4, l5, l6], .ref a :: st, k, h) := zz_k_num f141_40 rfl
theorem f141_41 : zz_fetch zz_prog 141 41 = some (.iload 4, 2, [], []) := zz_fetch_of p141 rfl rfl
theorem s141_41 : zz_Run zz_prog d 141 (41, [l0, l1, l2, l3, some (.int v), l5, l6], st, k, h) = zz_Run zz_prog d 141 (43, [l0, l1, l2, l3, some (.int v), l5, l6], .int v :: st, k, h) := zz_k_num f141_41 rfl
theorem f141_43 : zz_fetch zz_prog 141 43 = some (.iload 4, 2, [], []) := zz_fetch_of p141 rfl rfl
theorem s141_43 : zz_Run zz_prog d 141 (43, [l0, l1, l2, l3, some (.int v), l5, l6], st, k, h) = zz_Run zz_prog d 141 (45, [l0, l1, l2, l3, some (.int v), l5, l6], .int v :: st, k, h) := zz_k_num f141_43 rfl
theorem f141_45 : zz_fetch zz_prog 141 45 = some (.ifCond .ne 17, 3, [62], []) := zz_fetch_of p141 rfl rfl
theorem s141_45 : zz_Run zz_prog d 141 (45, [l0, l1, l2, l3, l4, l5, l6], .int v :: st, k, h) = if ¬ v = 0 then zz_Run zz_prog d 141 (62, [l0, l1, l2, l3, l4, l5, l6], st, k, h) else zz_Run zz_prog d 141 (48, [l0, l1, l2, l3, l4, l5, l6], st, k, h) := zz_k_br (¬ v = 0) rfl (zz_k_num f141_45 rfl)
theorem f141_48 : zz_fetch zz_prog 141 48 = some (.aload_n 0, 1, [], []) := zz_fetch_of p141 rfl rfl
theorem s141_48 : zz_Run zz_prog d 141 (48, [some (.ref a), l1, l2, l3, l4, l5, l6], st, k, h) = zz_Run zz_prog d 141 (49, [some (.ref a), l1, l2, l3, l4, l5, l6], .ref a :: st, k, h) := zz_k_num f141_48 rfl
theorem f141_49 : zz_fetch zz_prog 141 49 = some (.iload_n 1, 1, [], []) := zz_fetch_of p141 rfl rfl
theorem s141_49 : zz_Run zz_prog d 141 (49, [l0, some (.int v), l2, l3, l4, l5, l6], st, k, h) = zz_Run zz_prog d 141 (50, [l0, some (.int v), l2, l3, l4, l5, l6], .int v :: st, k, h) := zz_k_num f141_49 rfl
theorem f141_50 : zz_fetch zz_prog 141 50 = some (.iload_n 2, 1, [], []) := zz_fetch_of p141 rfl rfl
theorem s141_50 : zz_Run zz_prog d 141 (50, [l0, l1, some (.int v), l3, l4, l5, l6], st, k, h) = zz_Run zz_prog d 141 (51, [l0, l1, some (.int v), l3, l4, l5, l6], .int v :: st, k, h) := zz_k_num f141_50 rfl
theorem f141_51 : zz_fetch zz_prog 141 51 = some (.iload_n 3, 1, [], []) := zz_fetch_of p141 rfl rfl
theorem s141_51 : zz_Run zz_prog d 141 (51, [l0, l1, l2, some (.int v), l4, l5, l6], st, k, h) = zz_Run zz_prog d 141 (52, [l0, l1, l2, some (.int v), l4, l5, l6], .int v :: st, k, h) := zz_k_num f141_51 rfl
theorem f141_52 : zz_fetch zz_prog 141 52 = some (.invokevirtual 210, 3, [0, 139, 4, 2], []) := zz_fetch_of p141 rfl rfl
theorem s141_52 : zz_Run zz_prog d 141 (52, [l0, l1, l2, l3, l4, l5, l6], [b0, b1, b2, .ref 23, b4, b5], k, (zz_hp n I J ex)) = zz_ret (zz_Call zz_prog d 139 [.ref 23, b2, b1, b0] (zz_hp n I J ex)) (fun v k' h' => zz_Run zz_prog d 141 (55, [l0, l1, l2, l3, l4, l5, l6], v.toList ++ [b4, b5], k && k', h')) (fun a k' h' => zz_th d 141 52 a [l0, l1, l2, l3, l4, l5, l6] (k && k') h') := zz_k_call f141_52 rfl rfl rfl
theorem f141_55 : zz_fetch zz_prog 141 55 = some (.ifCond .ne 7, 3, [62], []) := zz_fetch_of p141 rfl rfl
theorem s141_55 : zz_Run zz_prog d 141 (55, [l0, l1, l2, l3, l4, l5, l6], .int v :: st, k, h) = if ¬ v = 0 then zz_Run zz_prog d 141 (62, [l0, l1, l2, l3, l4, l5, l6], st, k, h) else zz_Run zz_prog d 141 (58, [l0, l1, l2, l3, l4, l5, l6], st, k, h) := zz_k_br (¬ v = 0) rfl (zz_k_num f141_55 rfl)
theorem f141_58 : zz_fetch zz_prog 141 58 = some (.iconst 1, 1, [], []) := zz_fetch_of p141 rfl rfl
theorem s141_58 : zz_Run zz_prog d 141 (58, [l0, l1, l2, l3, l4, l5, l6], st, k, h) = zz_Run zz_prog d 141 (59, [l0, l1, l2, l3, l4, l5, l6], .int 1 :: st, k, h) := zz_k_num f141_58 rfl
theorem f141_59 : zz_fetch zz_prog 141 59 = some (.goto 4, 3, [63], []) := zz_fetch_of p141 rfl rfl
theorem s141_59 : zz_Run zz_prog d 141 (59, [l0, l1, l2, l3, l4, l5, l6], st, k, h) = zz_Run zz_prog d 141 (63, [l0, l1, l2, l3, l4, l5, l6], st, k, h) := zz_k_num f141_59 rfl
theorem f141_62 : zz_fetch zz_prog 141 62 = some (.iconst 0, 1, [], []) := zz_fetch_of p141 rfl rfl
theorem s141_62 : zz_Run zz_prog d 141 (62, [l0, l1, l2, l3, l4, l5, l6], st, k, h) = zz_Run zz_prog d 141 (63, [l0, l1, l2, l3, l4, l5, l6], .int 0 :: st, k, h) := zz_k_num f141_62 rfl
theorem f141_63 : zz_fetch zz_prog 141 63 = some (.iconst 0, 1, [], []) := zz_fetch_of p141 rfl rfl
theorem s141_63 : zz_Run zz_prog d 141 (63, [l0, l1, l2, l3, l4, l5, l6], st, k, h) = zz_Run zz_prog d 141 (64, [l0, l1, l2, l3, l4, l5, l6], .int 0 :: st, k, h) := zz_k_num f141_63 rfl
theorem f141_64 : zz_fetch zz_prog 141 64 = some (.invokevirtual 89, 3, [0, 95, 4, 2], []) := zz_fetch_of p141 rfl rfl
theorem s141_64 : zz_Run zz_prog d 141 (64, [l0, l1, l2, l3, l4, l5, l6], [b0, b1, b2, .ref 23], k, (zz_hp n I J ex)) = zz_ret (zz_Call zz_prog d 95 [.ref 23, b2, b1, b0] (zz_hp n I J ex)) (fun v k' h' => zz_Run zz_prog d 141 (67, [l0, l1, l2, l3, l4, l5, l6], v.toList ++ [], k && k', h')) (fun a k' h' => zz_th d 141 64 a [l0, l1, l2, l3, l4, l5, l6] (k && k') h') := zz_k_call f141_64 rfl rfl rfl
theorem f141_67 : zz_fetch zz_prog 141 67 = some (.ifCond .eq 5, 3, [72], []) := zz_fetch_of p141 rfl rfl
theorem s141_67 : zz_Run zz_prog d 141 (67, [l0, l1, l2, l3, l4, l5, l6], .int v :: st, k, h) = if v = 0 then zz_Run zz_prog d 141 (72, [l0, l1, l2, l3, l4, l5, l6], st, k, h) else zz_Run zz_prog d 141 (70, [l0, l1, l2, l3, l4, l5, l6], st, k, h) := zz_k_br (v = 0) rfl (zz_k_num f141_67 rfl)
theorem f141_70 : zz_fetch zz_prog 141 70 = some (.iconst 0, 1, [], []) := zz_fetch_of p141 rfl rfl
theorem s141_70 : zz_Run zz_prog d 141 (70, [l0, l1, l2, l3, l4, l5, l6], st, k, h) = zz_Run zz_prog d 141 (71, [l0, l1, l2, l3, l4, l5, l6], .int 0 :: st, k, h) := zz_k_num f141_70 rfl
theorem f141_71 : zz_fetch zz_prog 141 71 = some (.ireturn, 1, [0], []) := zz_fetch_of p141 rfl rfl
theorem s141_71 : zz_Run zz_prog d 141 (71, [l0, l1, l2, l3, l4, l5, l6], [.int v], k, h) = some (.inl (some (.int v)), k, h) := zz_k_stop f141_71 rfl rfl rfl
theorem f141_72 : zz_fetch zz_prog 141 72 = some (.aload_n 0, 1, [], []) := zz_fetch_of p141 rfl rfl
theorem s141_72 : zz_Run zz_prog d 141 (72, [some (.ref a), l1, l2, l3, l4, l5, l6], st, k, h) = zz_Run zz_prog d 141 (73, [some (.ref a), l1, l2, l3, l4, l5, l6], .ref a :: st, k, h) := zz_k_num f141_72 rfl
theorem f141_73 : zz_fetch zz_prog 141 73 = some (.invokevirtual 158, 3, [0, 117, 1, 2], []) := zz_fetch_of p141 rfl rfl
theorem s141_73 : zz_Run zz_prog d 141 (73, [l0, l1, l2, l3, l4, l5, l6], [.ref 23], k, (zz_hp n I J ex)) = zz_ret (zz_Call zz_prog d 117 [.ref 23] (zz_hp n I J ex)) (fun v k' h' => zz_Run zz_prog d 141 (76, [l0, l1, l2, l3, l4, l5, l6], v.toList ++ [], k && k', h')) (fun a k' h' => zz_th d 141 73 a [l0, l1, l2, l3, l4, l5, l6] (k && k') h') := zz_k_call f141_73 rfl rfl rfl
theorem f141_76 : zz_fetch zz_prog 141 76 = some (.aload_n 0, 1, [], []) := zz_fetch_of p141 rfl rfl
theorem s141_76 : zz_Run zz_prog d 141 (76, [some (.ref a), l1, l2, l3, l4, l5, l6], st, k, h) = zz_Run zz_prog d 141 (77, [some (.ref a), l1, l2, l3, l4, l5, l6], .ref a :: st, k, h) := zz_k_num f141_76 rfl
theorem f141_77 : zz_fetch zz_prog 141 77 = some (.getfield 7, 3, [2, 1, 3], []) := zz_fetch_of p141 rfl rfl
theorem s141_77 : zz_Run zz_prog d 141 (77, [l0, l1, l2, l3, l4, l5, l6], .ref 23 :: st, k, (zz_hp n I J ex)) = zz_Run zz_prog d 141 (80, [l0, l1, l2, l3, l4, l5, l6], .ref 24 :: st, k, (zz_hp n I J ex)) := zz_k_go f141_77 rfl rfl rfl
theorem f141_80 : zz_fetch zz_prog 141 80 = some (.sipush 181, 3, [], []) := zz_fetch_of p141 rfl rfl
theorem s141_80 : zz_Run zz_prog d 141 (80, [l0, l1, l2, l3, l4, l5, l6], st, k, h) = zz_Run zz_prog d 141 (83, [l0, l1, l2, l3, l4, l5, l6], .int 181 :: st, k, h) := zz_k_num f141_80 (congrArg (fun u => some (83, [l0, l1, l2, l3, l4, l5, l6], Value.int u :: st)) (by decide : (Int16.ofInt 181).toInt32 = 181))
theorem f141_83 : zz_fetch zz_prog 141 83 = some (.iaload, 1, [], []) := zz_fetch_of p141 rfl rfl
theorem s141_83 (ha : zz_isrd a = true) : zz_Run zz_prog d 141 (83, [l0, l1, l2, l3, l4, l5, l6], .int v :: .ref a :: st, k, (zz_hp n I J ex)) = zz_ck (zz_in v (zz_ary n a)) (zz_Run zz_prog d 141 (84, [l0, l1, l2, l3, l4, l5, l6], .int (I a v.toNatClampNeg) :: st, k, (zz_hp n I J ex))) := zz_k_iald f141_83 ha
theorem f141_84 : zz_fetch zz_prog 141 84 = some (.istore 5, 2, [], []) := zz_fetch_of p141 rfl rfl
theorem s141_84 : zz_Run zz_prog d 141 (84, [l0, l1, l2, l3, l4, l5, l6], .int v :: st, k, h) = zz_sl l4 (zz_Run zz_prog d 141 (86, [l0, l1, l2, l3, l4, some (.int v), l6], st, k, h)) := zz_k_st (j := 5) (u := .int v) f141_84 rfl (fun q hq => by cases hq) rfl (show 5 < 7 by decide) (by cases l4 <;> rfl) rfl
theorem f141_86 : zz_fetch zz_prog 141 86 = some (.iconst 0, 1, [], []) := zz_fetch_of p141 rfl rfl
theorem s141_86 : zz_Run zz_prog d 141 (86, [l0, l1, l2, l3, l4, l5, l6], st, k, h) = zz_Run zz_prog d 141 (87, [l0, l1, l2, l3, l4, l5, l6], .int 0 :: st, k, h) := zz_k_num f141_86 rfl
theorem f141_87 : zz_fetch zz_prog 141 87 = some (.istore 6, 2, [], []) := zz_fetch_of p141 rfl rfl
theorem s141_87 : zz_Run zz_prog d 141 (87, [l0, l1, l2, l3, l4, l5, l6], .int v :: st, k, h) = zz_sl l5 (zz_Run zz_prog d 141 (89, [l0, l1, l2, l3, l4, l5, some (.int v)], st, k, h)) := zz_k_st (j := 6) (u := .int v) f141_87 rfl (fun q hq => by cases hq) rfl (show 6 < 7 by decide) (by cases l5 <;> rfl) rfl
theorem f141_89 : zz_fetch zz_prog 141 89 = some (.aload_n 0, 1, [], []) := zz_fetch_of p141 rfl rfl
theorem s141_89 : zz_Run zz_prog d 141 (89, [some (.ref a), l1, l2, l3, l4, l5, l6], st, k, h) = zz_Run zz_prog d 141 (90, [some (.ref a), l1, l2, l3, l4, l5, l6], .ref a :: st, k, h) := zz_k_num f141_89 rfl
theorem f141_90 : zz_fetch zz_prog 141 90 = some (.getfield 7, 3, [2, 1, 3], []) := zz_fetch_of p141 rfl rfl
theorem s141_90 : zz_Run zz_prog d 141 (90, [l0, l1, l2, l3, l4, l5, l6], .ref 23 :: st, k, (zz_hp n I J ex)) = zz_Run zz_prog d 141 (93, [l0, l1, l2, l3, l4, l5, l6], .ref 24 :: st, k, (zz_hp n I J ex)) := zz_k_go f141_90 rfl rfl rfl
theorem f141_93 : zz_fetch zz_prog 141 93 = some (.sipush 151, 3, [], []) := zz_fetch_of p141 rfl rfl
theorem s141_93 : zz_Run zz_prog d 141 (93, [l0, l1, l2, l3, l4, l5, l6], st, k, h) = zz_Run zz_prog d 141 (96, [l0, l1, l2, l3, l4, l5, l6], .int 151 :: st, k, h) := zz_k_num f141_93 (congrArg (fun u => some (96, [l0, l1, l2, l3, l4, l5, l6], Value.int u :: st)) (by decide : (Int16.ofInt 151).toInt32 = 151))
theorem f141_96 : zz_fetch zz_prog 141 96 = some (.iconst 5, 1, [], []) := zz_fetch_of p141 rfl rfl
theorem s141_96 : zz_Run zz_prog d 141 (96, [l0, l1, l2, l3, l4, l5, l6], st, k, h) = zz_Run zz_prog d 141 (97, [l0, l1, l2, l3, l4, l5, l6], .int 5 :: st, k, h) := zz_k_num f141_96 rfl
theorem f141_97 : zz_fetch zz_prog 141 97 = some (.iload 5, 2, [], []) := zz_fetch_of p141 rfl rfl
theorem s141_97 : zz_Run zz_prog d 141 (97, [l0, l1, l2, l3, l4, some (.int v), l6], st, k, h) = zz_Run zz_prog d 141 (99, [l0, l1, l2, l3, l4, some (.int v), l6], .int v :: st, k, h) := zz_k_num f141_97 rfl
theorem f141_99 : zz_fetch zz_prog 141 99 = some (.imul, 1, [], []) := zz_fetch_of p141 rfl rfl
theorem s141_99 : zz_Run zz_prog d 141 (99, [l0, l1, l2, l3, l4, l5, l6], .int w :: .int v :: st, k, h) = zz_Run zz_prog d 141 (100, [l0, l1, l2, l3, l4, l5, l6], .int (v * w) :: st, k, h) := zz_k_num f141_99 rfl
theorem f141_100 : zz_fetch zz_prog 141 100 = some (.iadd, 1, [], []) := zz_fetch_of p141 rfl rfl
theorem s141_100 : zz_Run zz_prog d 141 (100, [l0, l1, l2, l3, l4, l5, l6], .int w :: .int v :: st, k, h) = zz_Run zz_prog d 141 (101, [l0, l1, l2, l3, l4, l5, l6], .int (v + w) :: st, k, h) := zz_k_num f141_100 rfl
theorem f141_101 : zz_fetch zz_prog 141 101 = some (.iload_n 1, 1, [], []) := zz_fetch_of p141 rfl rfl
theorem s141_101 : zz_Run zz_prog d 141 (101, [l0, some (.int v), l2, l3, l4, l5, l6], st, k, h) = zz_Run zz_prog d 141 (102, [l0, some (.int v), l2, l3, l4, l5, l6], .int v :: st, k, h) := zz_k_num f141_101 rfl
theorem f141_102 : zz_fetch zz_prog 141 102 = some (.iadd, 1, [], []) := zz_fetch_of p141 rfl rfl
theorem s141_102 : zz_Run zz_prog d 141 (102, [l0, l1, l2, l3, l4, l5, l6], .int w :: .int v :: st, k, h) = zz_Run zz_prog d 141 (103, [l0, l1, l2, l3, l4, l5, l6], .int (v + w) :: st, k, h) := zz_k_num f141_102 rfl
theorem f141_103 : zz_fetch zz_prog 141 103 = some (.dup2, 1, [], []) := zz_fetch_of p141 rfl rfl
theorem s141_103 : zz_Run zz_prog d 141 (103, [l0, l1, l2, l3, l4, l5, l6], .int v :: .ref a1 :: st, k, h) = zz_Run zz_prog d 141 (104, [l0, l1, l2, l3, l4, l5, l6], .int v :: .ref a1 :: .int v :: .ref a1 :: st, k, h) := zz_k_num f141_103 rfl
theorem f141_104 : zz_fetch zz_prog 141 104 = some (.iaload, 1, [], []) := zz_fetch_of p141 rfl rfl
theorem s141_104 (ha : zz_isrd a = true) : zz_Run zz_prog d 141 (104, [l0, l1, l2, l3, l4, l5, l6], .int v :: .ref a :: st, k, (zz_hp n I J ex)) = zz_ck (zz_in v (zz_ary n a)) (zz_Run zz_prog d 141 (105, [l0, l1, l2, l3, l4, l5, l6], .int (I a v.toNatClampNeg) :: st, k, (zz_hp n I J ex))) := zz_k_iald f141_104 ha
theorem f141_105 : zz_fetch zz_prog 141 105 = some (.iconst 1, 1, [], []) := zz_fetch_of p141 rfl rfl
theorem s141_105 : zz_Run zz_prog d 141 (105, [l0, l1, l2, l3, l4, l5, l6], st, k, h) = zz_Run zz_prog d 141 (106, [l0, l1, l2, l3, l4, l5, l6], .int 1 :: st, k, h) := zz_k_num f141_105 rfl
theorem f141_106 : zz_fetch zz_prog 141 106 = some (.isub, 1, [], []) := zz_fetch_of p141 rfl rfl
theorem s141_106 : zz_Run zz_prog d 141 (106, [l0, l1, l2, l3, l4, l5, l6], .int w :: .int v :: st, k, h) = zz_Run zz_prog d 141 (107, [l0, l1, l2, l3, l4, l5, l6], .int (v - w) :: st, k, h) := zz_k_num f141_106 rfl
theorem f141_107 : zz_fetch zz_prog 141 107 = some (.iastore, 1, [], []) := zz_fetch_of p141 rfl rfl
theorem s141_107 (ha : zz_isar a = true) : zz_Run zz_prog d 141 (107, [l0, l1, l2, l3, l4, l5, l6], .int w :: .int v :: .ref a :: st, k, (zz_hp n I J ex)) = zz_ck (zz_in v (zz_ary n a)) (zz_Run zz_prog d 141 (108, [l0, l1, l2, l3, l4, l5, l6], st, false, (zz_hp n (zz_up I a v.toNatClampNeg w) J ex))) := zz_k_iast f141_107 ha
theorem f141_108 : zz_fetch zz_prog 141 108 = some (.aload_n 0, 1, [], []) := zz_fetch_of p141 rfl rfl
theorem s141_108 : zz_Run zz_prog d 141 (108, [some (.ref a), l1, l2, l3, l4, l5, l6], st, k, h) = zz_Run zz_prog d 141 (109, [some (.ref a), l1, l2, l3, l4, l5, l6], .ref a :: st, k, h) := zz_k_num f141_108 rfl
theorem f141_109 : zz_fetch zz_prog 141 109 = some (.getfield 7, 3, [2, 1, 3], []) := zz_fetch_of p141 rfl rfl
theorem s141_109 : zz_Run zz_prog d 141 (109, [l0, l1, l2, l3, l4, l5, l6], .ref 23 :: st, k, (zz_hp n I J ex)) = zz_Run zz_prog d 141 (112, [l0, l1, l2, l3, l4, l5, l6], .ref 24 :: st, k, (zz_hp n I J ex)) := zz_k_go f141_109 rfl rfl rfl
theorem f141_112 : zz_fetch zz_prog 141 112 = some (.sipush 184, 3, [], []) := zz_fetch_of p141 rfl rfl
theorem s141_112 : zz_Run zz_prog d 141 (112, [l0, l1, l2, l3, l4, l5, l6], st, k, h) = zz_Run zz_prog d 141 (115, [l0, l1, l2, l3, l4, l5, l6], .int 184 :: st, k, h) := zz_k_num f141_112 (congrArg (fun u => some (115, [l0, l1, l2, l3, l4, l5, l6], Value.int u :: st)) (by decide : (Int16.ofInt 184).toInt32 = 184))
theorem f141_115 : zz_fetch zz_prog 141 115 = some (.iconst 1, 1, [], []) := zz_fetch_of p141 rfl rfl
theorem s141_115 : zz_Run zz_prog d 141 (115, [l0, l1, l2, l3, l4, l5, l6], st, k, h) = zz_Run zz_prog d 141 (116, [l0, l1, l2, l3, l4, l5, l6], .int 1 :: st, k, h) := zz_k_num f141_115 rfl
theorem f141_116 : zz_fetch zz_prog 141 116 = some (.iastore, 1, [], []) := zz_fetch_of p141 rfl rfl
theorem s141_116 (ha : zz_isar a = true) : zz_Run zz_prog d 141 (116, [l0, l1, l2, l3, l4, l5, l6], .int w :: .int v :: .ref a :: st, k, (zz_hp n I J ex)) = zz_ck (zz_in v (zz_ary n a)) (zz_Run zz_prog d 141 (117, [l0, l1, l2, l3, l4, l5, l6], st, false, (zz_hp n (zz_up I a v.toNatClampNeg w) J ex))) := zz_k_iast f141_116 ha
theorem f141_117 : zz_fetch zz_prog 141 117 = some (.iload_n 1, 1, [], []) := zz_fetch_of p141 rfl rfl
theorem s141_117 : zz_Run zz_prog d 141 (117, [l0, some (.int v), l2, l3, l4, l5, l6], st, k, h) = zz_Run zz_prog d 141 (118, [l0, some (.int v), l2, l3, l4, l5, l6], .int v :: st, k, h) := zz_k_num f141_117 rfl
theorem f141_118 : zz_fetch zz_prog 141 118 = some (.ifCond .ne 15, 3, [133], []) := zz_fetch_of p141 rfl rfl
theorem s141_118 : zz_Run zz_prog d 141 (118, [l0, l1, l2, l3, l4, l5, l6], .int v :: st, k, h) = if ¬ v = 0 then zz_Run zz_prog d 141 (133, [l0, l1, l2, l3, l4, l5, l6], st, k, h) else zz_Run zz_prog d 141 (121, [l0, l1, l2, l3, l4, l5, l6], st, k, h) := zz_k_br (¬ v = 0) rfl (zz_k_num f141_118 rfl)
theorem f141_121 : zz_fetch zz_prog 141 121 = some (.aload_n 0, 1, [], []) := zz_fetch_of p141 rfl rfl
theorem s141_121 : zz_Run zz_prog d 141 (121, [some (.ref a), l1, l2, l3, l4, l5, l6], st, k, h) = zz_Run zz_prog d 141 (122, [some (.ref a), l1, l2, l3, l4, l5, l6], .ref a :: st, k, h) := zz_k_num f141_121 rfl
theorem f141_122 : zz_fetch zz_prog 141 122 = some (.getfield 7, 3, [2, 1, 3], []) := zz_fetch_of p141 rfl rfl
theorem s141_122 : zz_Run zz_prog d 141 (122, [l0, l1, l2, l3, l4, l5, l6], .ref 23 :: st, k, (zz_hp n I J ex)) = zz_Run zz_prog d 141 (125, [l0, l1, l2, l3, l4, l5, l6], .ref 24 :: st, k, (zz_hp n I J ex)) := zz_k_go f141_122 rfl rfl rfl
theorem f141_125 : zz_fetch zz_prog 141 125 = some (.sipush 180, 3, [], []) := zz_fetch_of p141 rfl rfl
theorem s141_125 : zz_Run zz_prog d 141 (125, [l0, l1, l2, l3, l4, l5, l6], st, k, h) = zz_Run zz_prog d 141 (128, [l0, l1, l2, l3, l4, l5, l6], .int 180 :: st, k, h) := zz_k_num f141_125 (congrArg (fun u => some (128, [l0, l1, l2, l3, l4, l5, l6], Value.int u :: st)) (by decide : (Int16.ofInt 180).toInt32 = 180))
theorem f141_128 : zz_fetch zz_prog 141 128 = some (.iconst 5, 1, [], []) := zz_fetch_of p141 rfl rfl
theorem s141_128 : zz_Run zz_prog d 141 (128, [l0, l1, l2, l3, l4, l5, l6], st, k, h) = zz_Run zz_prog d 141 (129, [l0, l1, l2, l3, l4, l5, l6], .int 5 :: st, k, h) := zz_k_num f141_128 rfl
theorem f141_129 : zz_fetch zz_prog 141 129 = some (.iastore, 1, [], []) := zz_fetch_of p141 rfl rfl
theorem s141_129 (ha : zz_isar a = true) : zz_Run zz_prog d 141 (129, [l0, l1, l2, l3, l4, l5, l6], .int w :: .int v :: .ref a :: st, k, (zz_hp n I J ex)) = zz_ck (zz_in v (zz_ary n a)) (zz_Run zz_prog d 141 (130, [l0, l1, l2, l3, l4, l5, l6], st, false, (zz_hp n (zz_up I a v.toNatClampNeg w) J ex))) := zz_k_iast f141_129 ha
theorem f141_130 : zz_fetch zz_prog 141 130 = some (.goto 118, 3, [248], []) := zz_fetch_of p141 rfl rfl
theorem s141_130 : zz_Run zz_prog d 141 (130, [l0, l1, l2, l3, l4, l5, l6], st, k, h) = zz_Run zz_prog d 141 (248, [l0, l1, l2, l3, l4, l5, l6], st, k, h) := zz_k_num f141_130 rfl
theorem f141_133 : zz_fetch zz_prog 141 133 = some (.iload_n 1, 1, [], []) := zz_fetch_of p141 rfl rfl
theorem s141_133 : zz_Run zz_prog d 141 (133, [l0, some (.int v), l2, l3, l4, l5, l6], st, k, h) = zz_Run zz_prog d 141 (134, [l0, some (.int v), l2, l3, l4, l5, l6], .int v :: st, k, h) := zz_k_num f141_133 rfl
theorem f141_134 : zz_fetch zz_prog 141 134 = some (.iconst 1, 1, [], []) := zz_fetch_of p141 rfl rfl
theorem s141_134 : zz_Run zz_prog d 141 (134, [l0, l1, l2, l3, l4, l5, l6], st, k, h) = zz_Run zz_prog d 141 (135, [l0, l1, l2, l3, l4, l5, l6], .int 1 :: st, k, h) := zz_k_num f141_134 rfl
theorem f141_135 : zz_fetch zz_prog 141 135 = some (.if_icmp .ne 29, 3, [164], []) := zz_fetch_of p141 rfl rfl
theorem s141_135 : zz_Run zz_prog d 141 (135, [l0, l1, l2, l3, l4, l5, l6], .int w :: .int v :: st, k, h) = if ¬ v = w then zz_Run zz_prog d 141 (164, [l0, l1, l2, l3, l4, l5, l6], st, k, h) else zz_Run zz_prog d 141 (138, [l0, l1, l2, l3, l4, l5, l6], st, k, h) := zz_k_br (¬ v = w) rfl (zz_k_num f141_135 rfl)
theorem f141_138 : zz_fetch zz_prog 141 138 = some (.aload_n 0, 1, [], []) := zz_fetch_of p141 rfl rfl
theorem s141_138 : zz_Run zz_prog d 141 (138, [some (.ref a), l1, l2, l3, l4, l5, l6], st, k, h) = zz_Run zz_prog d 141 (139, [some (.ref a), l1, l2, l3, l4, l5, l6], .ref a :: st, k, h) := zz_k_num f141_138 rfl
theorem f141_139 : zz_fetch zz_prog 141 139 = some (.getfield 7, 3, [2, 1, 3], []) := zz_fetch_of p141 rfl rfl
theorem s141_139 : zz_Run zz_prog d 141 (139, [l0, l1, l2, l3, l4, l5, l6], .ref 23 :: st, k, (zz_hp n I J ex)) = zz_Run zz_prog d 141 (142, [l0, l1, l2, l3, l4, l5, l6], .ref 24 :: st, k, (zz_hp n I J ex)) := zz_k_go f141_139 rfl rfl rfl
theorem f141_142 : zz_fetch zz_prog 141 142 = some (.sipush 180, 3, [], []) := zz_fetch_of p141 rfl rfl
theorem s141_142 : zz_Run zz_prog d 141 (142, [l0, l1, l2, l3, l4, l5, l6], st, k, h) = zz_Run zz_prog d 141 (145, [l0, l1, l2, l3, l4, l5, l6], .int 180 :: st, k, h) := zz_k_num f141_142 (congrArg (fun u => some (145, [l0, l1, l2, l3, l4, l5, l6], Value.int u :: st)) (by decide : (Int16.ofInt 180).toInt32 = 180))
theorem f141_145 : zz_fetch zz_prog 141 145 = some (.bipush 7, 2, [], []) := zz_fetch_of p141 rfl rfl
theorem s141_145 : zz_Run zz_prog d 141 (145, [l0, l1, l2, l3, l4, l5, l6], st, k, h) = zz_Run zz_prog d 141 (147, [l0, l1, l2, l3, l4, l5, l6], .int 7 :: st, k, h) := zz_k_num f141_145 (congrArg (fun u => some (147, [l0, l1, l2, l3, l4, l5, l6], Value.int u :: st)) (by decide : (Int8.ofInt 7).toInt32 = 7))
theorem f141_147 : zz_fetch zz_prog 141 147 = some (.iastore, 1, [], []) := zz_fetch_of p141 rfl rfl
theorem s141_147 (ha : zz_isar a = true) : zz_Run zz_prog d 141 (147, [l0, l1, l2, l3, l4, l5, l6], .int w :: .int v :: .ref a :: st, k, (zz_hp n I J ex)) = zz_ck (zz_in v (zz_ary n a)) (zz_Run zz_prog d 141 (148, [l0, l1, l2, l3, l4, l5, l6], st, false, (zz_hp n (zz_up I a v.toNatClampNeg w) J ex))) := zz_k_iast f141_147 ha
theorem f141_148 : zz_fetch zz_prog 141 148 = some (.aload_n 0, 1, [], []) := zz_fetch_of p141 rfl rfl
theorem s141_148 : zz_Run zz_prog d 141 (148, [some (.ref a), l1, l2, l3, l4, l5, l6], st, k, h) = zz_Run zz_prog d 141 (149, [some (.ref a), l1, l2, l3, l4, l5, l6], .ref a :: st, k, h) := zz_k_num f141_148 rfl
theorem f141_149 : zz_fetch zz_prog 141 149 = some (.getfield 7, 3, [2, 1, 3], []) := zz_fetch_of p141 rfl rfl
theorem s141_149 : zz_Run zz_prog d 141 (149, [l0, l1, l2, l3, l4, l5, l6], .ref 23 :: st, k, (zz_hp n I J ex)) = zz_Run zz_prog d 141 (152, [l0, l1, l2, l3, l4, l5, l6], .ref 24 :: st, k, (zz_hp n I J ex)) := zz_k_go f141_149 rfl rfl rfl
theorem f141_152 : zz_fetch zz_prog 141 152 = some (.sipush 185, 3, [], []) := zz_fetch_of p141 rfl rfl
theorem s141_152 : zz_Run zz_prog d 141 (152, [l0, l1, l2, l3, l4, l5, l6], st, k, h) = zz_Run zz_prog d 141 (155, [l0, l1, l2, l3, l4, l5, l6], .int 185 :: st, k, h) := zz_k_num f141_152 (congrArg (fun u => some (155, [l0, l1, l2, l3, l4, l5, l6], Value.int u :: st)) (by decide : (Int16.ofInt 185).toInt32 = 185))
theorem f141_155 : zz_fetch zz_prog 141 155 = some (.iconst 2, 1, [], []) := zz_fetch_of p141 rfl rfl
theorem s141_155 : zz_Run zz_prog d 141 (155, [l0, l1, l2, l3, l4, l5, l6], st, k, h) = zz_Run zz_prog d 141 (156, [l0, l1, l2, l3, l4, l5, l6], .int 2 :: st, k, h) := zz_k_num f141_155 rfl
theorem f141_156 : zz_fetch zz_prog 141 156 = some (.iastore, 1, [], []) := zz_fetch_of p141 rfl rfl
theorem s141_156 (ha : zz_isar a = true) : zz_Run zz_prog d 141 (156, [l0, l1, l2, l3, l4, l5, l6], .int w :: .int v :: .ref a :: st, k, (zz_hp n I J ex)) = zz_ck (zz_in v (zz_ary n a)) (zz_Run zz_prog d 141 (157, [l0, l1, l2, l3, l4, l5, l6], st, false, (zz_hp n (zz_up I a v.toNatClampNeg w) J ex))) := zz_k_iast f141_156 ha
theorem f141_157 : zz_fetch zz_prog 141 157 = some (.aload_n 0, 1, [], []) := zz_fetch_of p141 rfl rfl
theorem s141_157 : zz_Run zz_prog d 141 (157, [some (.ref a), l1, l2, l3, l4, l5, l6], st, k, h) = zz_Run zz_prog d 141 (158, [some (.ref a), l1, l2, l3, l4, l5, l6], .ref a :: st, k, h) := zz_k_num f141_157 rfl
theorem f141_158 : zz_fetch zz_prog 141 158 = some (.invokevirtual 172, 3, [0, 118, 1, 2], []) := zz_fetch_of p141 rfl rfl
theorem s141_158 : zz_Run zz_prog d 141 (158, [l0, l1, l2, l3, l4, l5, l6], [.ref 23], k, (zz_hp n I J ex)) = zz_ret (zz_Call zz_prog d 118 [.ref 23] (zz_hp n I J ex)) (fun v k' h' => zz_Run zz_prog d 141 (161, [l0, l1, l2, l3, l4, l5, l6], v.toList ++ [], k && k', h')) (fun a k' h' => zz_th d 141 158 a [l0, l1, l2, l3, l4, l5, l6] (k && k') h') := zz_k_call f141_158 rfl rfl rfl
theorem f141_161 : zz_fetch zz_prog 141 161 = some (.goto 87, 3, [248], []) := zz_fetch_of p141 rfl rfl
theorem s141_161 : zz_Run zz_prog d 141 (161, [l0, l1, l2, l3, l4, l5, l6], st, k, h) = zz_Run zz_prog d 141 (248, [l0, l1, l2, l3, l4, l5, l6], st, k, h) := zz_k_num f141_161 rfl
theorem f141_164 : zz_fetch zz_prog 141 164 = some (.iload_n 1, 1, [], []) := zz_fetch_of p141 rfl rfl
theorem s141_164 : zz_Run zz_prog d 141 (164, [l0, some (.int v), l2, l3, l4, l5, l6], st, k, h) = zz_Run zz_prog d 141 (165, [l0, some (.int v), l2, l3, l4, l5, l6], .int v :: st, k, h) := zz_k_num f141_164 rfl
theorem f141_165 : zz_fetch zz_prog 141 165 = some (.iconst 2, 1, [], []) := zz_fetch_of p141 rfl rfl
theorem s141_165 : zz_Run zz_prog d 141 (165, [l0, l1, l2, l3, l4, l5, l6], st, k, h) = zz_Run zz_prog d 141 (166, [l0, l1, l2, l3, l4, l5, l6], .int 2 :: st, k, h) := zz_k_num f141_165 rfl
theorem f141_166 : zz_fetch zz_prog 141 166 = some (.if_icmp .ne 73, 3, [239], []) := zz_fetch_of p141 rfl rfl
theorem s141_166 : zz_Run zz_prog d 141 (166, [l0, l1, l2, l3, l4, l5, l6], .int w :: .int v :: st, k, h) = if ¬ v = w then zz_Run zz_prog d 141 (239, [l0, l1, l2, l3, l4, l5, l6], st, k, h) else zz_Run zz_prog d 141 (169, [l0, l1, l2, l3, l4, l5, l6], st, k, h) := zz_k_br (¬ v = w) rfl (zz_k_num f141_166 rfl)
theorem f141_169 : zz_fetch zz_prog 141 169 = some (.aload_n 0, 1, [], []) := zz_fetch_of p141 rfl rfl
theorem s141_169 : zz_Run zz_prog d 141 (169, [some (.ref a), l1, l2, l3, l4, l5, l6], st, k, h) = zz_Run zz_prog d 141 (170, [some (.ref a), l1, l2, l3, l4, l5, l6], .ref a :: st, k, h) := zz_k_num f141_169 rfl
theorem f141_170 : zz_fetch zz_prog 141 170 = some (.getfield 7, 3, [2, 1, 3], []) := zz_fetch_of p141 rfl rfl
theorem s141_170 : zz_Run zz_prog d 141 (170, [l0, l1, l2, l3, l4, l5, l6], .ref 23 :: st, k, (zz_hp n I J ex)) = zz_Run zz_prog d 141 (173, [l0, l1, l2, l3, l4, l5, l6], .ref 24 :: st, k, (zz_hp n I J ex)) := zz_k_go f141_170 rfl rfl rfl
theorem f141_173 : zz_fetch zz_prog 141 173 = some (.bipush 126, 2, [], []) := zz_fetch_of p141 rfl rfl
theorem s141_173 : zz_Run zz_prog d 141 (173, [l0, l1, l2, l3, l4, l5, l6], st, k, h) = zz_Run zz_prog d 141 (175, [l0, l1, l2, l3, l4, l5, l6], .int 126 :: st, k, h) := zz_k_num f141_173 (congrArg (fun u => some (175, [l0, l1, l2, l3, l4, l5, l6], Value.int u :: st)) (by decide : (Int8.ofInt 126).toInt32 = 126))
theorem f141_175 : zz_fetch zz_prog 141 175 = some (.iconst 5, 1, [], []) := zz_fetch_of p141 rfl rfl
theorem s141_175 : zz_Run zz_prog d 141 (175, [l0, l1, l2, l3, l4, l5, l6], st, k, h) = zz_Run zz_prog d 141 (176, [l0, l1, l2, l3, l4, l5, l6], .int 5 :: st, k, h) := zz_k_num f141_175 rfl
theorem f141_176 : zz_fetch zz_prog 141 176 = some (.iload 5, 2, [], []) := zz_fetch_of p141 rfl rfl
theorem s141_176 : zz_Run zz_prog d 141 (176, [l0, l1, l2, l3, l4, some (.int v), l6], st, k, h) = zz_Run zz_prog d 141 (178, [l0, l1, l2, l3, l4, some (.int v), l6], .int v :: st, k, h) := zz_k_num f141_176 rfl
theorem f141_178 : zz_fetch zz_prog 141 178 = some (.imul, 1, [], []) := zz_fetch_of p141 rfl rfl
theorem s141_178 : zz_Run zz_prog d 141 (178, [l0, l1, l2, l3, l4, l5, l6], .int w :: .int v :: st, k, h) = zz_Run zz_prog d 141 (179, [l0, l1, l2, l3, l4, l5, l6], .int (v * w) :: st, k, h) := zz_k_num f141_178 rfl
theorem f141_179 : zz_fetch zz_prog 141 179 = some (.iadd, 1, [], []) := zz_fetch_of p141 rfl rfl
theorem s141_179 : zz_Run zz_prog d 141 (179, [l0, l1, l2, l3, l4, l5, l6], .int w :: .int v :: st, k, h) = zz_Run zz_prog d 141 (180, [l0, l1, l2, l3, l4, l5, l6], .int (v + w) :: st, k, h) := zz_k_num f141_179 rfl
theorem f141_180 : zz_fetch zz_prog 141 180 = some (.iload_n 2, 1, [], []) := zz_fetch_of p141 rfl rfl
theorem s141_180 : zz_Run zz_prog d 141 (180, [l0, l1, some (.int v), l3, l4, l5, l6], st, k, h) = zz_Run zz_prog d 141 (181, [l0, l1, some (.int v), l3, l4, l5, l6], .int v :: st, k, h) := zz_k_num f141_180 rfl
theorem f141_181 : zz_fetch zz_prog 141 181 = some (.iadd, 1, [], []) := zz_fetch_of p141 rfl rfl
theorem s141_181 : zz_Run zz_prog d 141 (181, [l0, l1, l2, l3, l4, l5, l6], .int w :: .int v :: st, k, h) = zz_Run zz_prog d 141 (182, [l0, l1, l2, l3, l4, l5, l6], .int (v + w) :: st, k, h) := zz_k_num f141_181 rfl
theorem f141_182 : zz_fetch zz_prog 141 182 = some (.dup2, 1, [], []) := zz_fetch_of p141 rfl rfl
theorem s141_182 : zz_Run zz_prog d 141 (182, [l0, l1, l2, l3, l4, l5, l6], .int v :: .ref a1 :: st, k, h) = zz_Run zz_prog d 141 (183, [l0, l1, l2, l3, l4, l5, l6], .int v :: .ref a1 :: .int v :: .ref a1 :: st, k, h) := zz_k_num f141_182 rfl
theorem f141_183 : zz_fetch zz_prog 141 183 = some (.iaload, 1, [], []) := zz_fetch_of p141 rfl rfl
theorem s141_183 (ha : zz_isrd a = true) : zz_Run zz_prog d 141 (183, [l0, l1, l2, l3, l4, l5, l6], .int v :: .ref a :: st, k, (zz_hp n I J ex)) = zz_ck (zz_in v (zz_ary n a)) (zz_Run zz_prog d 141 (184, [l0, l1, l2, l3, l4, l5, l6], .int (I a v.toNatClampNeg) :: st, k, (zz_hp n I J ex))) := zz_k_iald f141_183 ha
theorem f141_184 : zz_fetch zz_prog 141 184 = some (.iconst 1, 1, [], []) := zz_fetch_of p141 rfl rfl
theorem s141_184 : zz_Run zz_prog d 141 (184, [l0, l1, l2, l3, l4, l5, l6], st, k, h) = zz_Run zz_prog d 141 (185, [l0, l1, l2, l3, l4, l5, l6], .int 1 :: st, k, h) := zz_k_num f141_184 rfl
theorem f141_185 : zz_fetch zz_prog 141 185 = some (.iadd, 1, [], []) := zz_fetch_of p141 rfl rfl
theorem s141_185 : zz_Run zz_prog d 141 (185, [l0, l1, l2, l3, l4, l5, l6], .int w :: .int v :: st, k, h) = zz_Run zz_prog d 141 (186, [l0, l1, l2, l3, l4, l5, l6], .int (v + w) :: st, k, h) := zz_k_num f141_185 rfl
theorem f141_186 : zz_fetch zz_prog 141 186 = some (.iastore, 1, [], []) := zz_fetch_of p141 rfl rfl
theorem s141_186 (ha : zz_isar a = true) : zz_Run zz_prog d 141 (186, [l0, l1, l2, l3, l4, l5, l6], .int w :: .int v :: .ref a :: st, k, (zz_hp n I J ex)) = zz_ck (zz_in v (zz_ary n a)) (zz_Run zz_prog d 141 (187, [l0, l1, l2, l3, l4, l5, l6], st, false, (zz_hp n (zz_up I a v.toNatClampNeg w) J ex))) := zz_k_iast f141_186 ha
theorem f141_187 : zz_fetch zz_prog 141 187 = some (.aload_n 0, 1, [], []) := zz_fetch_of p141 rfl rfl
theorem s141_187 : zz_Run zz_prog d 141 (187, [some (.ref a), l1, l2, l3, l4, l5, l6], st, k, h) = zz_Run zz_prog d 141 (188, [some (.ref a), l1, l2, l3, l4, l5, l6], .ref a :: st, k, h) := zz_k_num f141_187 rfl
theorem f141_188 : zz_fetch zz_prog 141 188 = some (.getfield 7, 3, [2, 1, 3], []) := zz_fetch_of p141 rfl rfl
theorem s141_188 : zz_Run zz_prog d 141 (188, [l0, l1, l2, l3, l4, l5, l6], .ref 23 :: st, k, (zz_hp n I J ex)) = zz_Run zz_prog d 141 (191, [l0, l1, l2, l3, l4, l5, l6], .ref 24 :: st, k, (zz_hp n I J ex)) := zz_k_go f141_188 rfl rfl rfl
theorem f141_191 : zz_fetch zz_prog 141 191 = some (.bipush 126, 2, [], []) := zz_fetch_of p141 rfl rfl
theorem s141_191 : zz_Run zz_prog d 141 (191, [l0, l1, l2, l3, l4, l5, l6], st, k, h) = zz_Run zz_prog d 141 (193, [l0, l1, l2, l3, l4, l5, l6], .int 126 :: st, k, h) := zz_k_num f141_191 (congrArg (fun u => some (193, [l0, l1, l2, l3, l4, l5, l6], Value.int u :: st)) (by decide : (Int8.ofInt 126).toInt32 = 126))
theorem f141_193 : zz_fetch zz_prog 141 193 = some (.iconst 5, 1, [], []) := zz_fetch_of p141 rfl rfl
theorem s141_193 : zz_Run zz_prog d 141 (193, [l0, l1, l2, l3, l4, l5, l6], st, k, h) = zz_Run zz_prog d 141 (194, [l0, l1, l2, l3, l4, l5, l6], .int 5 :: st, k, h) := zz_k_num f141_193 rfl
theorem f141_194 : zz_fetch zz_prog 141 194 = some (.iload 5, 2, [], []) := zz_fetch_of p141 rfl rfl
theorem s141_194 : zz_Run zz_prog d 141 (194, [l0, l1, l2, l3, l4, some (.int v), l6], st, k, h) = zz_Run zz_prog d 141 (196, [l0, l1, l2, l3, l4, some (.int v), l6], .int v :: st, k, h) := zz_k_num f141_194 rfl
theorem f141_196 : zz_fetch zz_prog 141 196 = some (.imul, 1, [], []) := zz_fetch_of p141 rfl rfl
theorem s141_196 : zz_Run zz_prog d 141 (196, [l0, l1, l2, l3, l4, l5, l6], .int w :: .int v :: st, k, h) = zz_Run zz_prog d 141 (197, [l0, l1, l2, l3, l4, l5, l6], .int (v * w) :: st, k, h) := zz_k_num f141_196 rfl
theorem f141_197 : zz_fetch zz_prog 141 197 = some (.iadd, 1, [], []) := zz_fetch_of p141 rfl rfl
theorem s141_197 : zz_Run zz_prog d 141 (197, [l0, l1, l2, l3, l4, l5, l6], .int w :: .int v :: st, k, h) = zz_Run zz_prog d 141 (198, [l0, l1, l2, l3, l4, l5, l6], .int (v + w) :: st, k, h) := zz_k_num f141_197 rfl
theorem f141_198 : zz_fetch zz_prog 141 198 = some (.iload_n 3, 1, [], []) := zz_fetch_of p141 rfl rfl
theorem s141_198 : zz_Run zz_prog d 141 (198, [l0, l1, l2, some (.int v), l4, l5, l6], st, k, h) = zz_Run zz_prog d 141 (199, [l0, l1, l2, some (.int v), l4, l5, l6], .int v :: st, k, h) := zz_k_num f141_198 rfl
theorem f141_199 : zz_fetch zz_prog 141 199 = some (.iadd, 1, [], []) := zz_fetch_of p141 rfl rfl
theorem s141_199 : zz_Run zz_prog d 141 (199, [l0, l1, l2, l3, l4, l5, l6], .int w :: .int v :: st, k, h) = zz_Run zz_prog d 141 (200, [l0, l1, l2, l3, l4, l5, l6], .int (v + w) :: st, k, h) := zz_k_num f141_199 rfl
theorem f141_200 : zz_fetch zz_prog 141 200 = some (.dup2, 1, [], []) := zz_fetch_of p141 rfl rfl
theorem s141_200 : zz_Run zz_prog d 141 (200, [l0, l1, l2, l3, l4, l5, l6], .int v :: .ref a1 :: st, k, h) = zz_Run zz_prog d 141 (201, [l0, l1, l2, l3, l4, l5, l6], .int v :: .ref a1 :: .int v :: .ref a1 :: st, k, h) := zz_k_num f141_200 rfl
theorem f141_201 : zz_fetch zz_prog 141 201 = some (.iaload, 1, [], []) := zz_fetch_of p141 rfl rfl
theorem s141_201 (ha : zz_isrd a = true) : zz_Run zz_prog d 141 (201, [l0, l1, l2, l3, l4, l5, l6], .int v :: .ref a :: st, k, (zz_hp n I J ex)) = zz_ck (zz_in v (zz_ary n a)) (zz_Run zz_prog d 141 (202, [l0, l1, l2, l3, l4, l5, l6], .int (I a v.toNatClampNeg) :: st, k, (zz_hp n I J ex))) := zz_k_iald f141_201 ha
theorem f141_202 : zz_fetch zz_prog 141 202 = some (.iconst 1, 1, [], []) := zz_fetch_of p141 rfl rfl
theorem s141_202 : zz_Run zz_prog d 141 (202, [l0, l1, l2, l3, l4, l5, l6], st, k, h) = zz_Run zz_prog d 141 (203, [l0, l1, l2, l3, l4, l5, l6], .int 1 :: st, k, h) := zz_k_num f141_202 rfl
theorem f141_203 : zz_fetch zz_prog 141 203 = some (.iadd, 1, [], []) := zz_fetch_of p141 rfl rfl
theorem s141_203 : zz_Run zz_prog d 141 (203, [l0, l1, l2, l3, l4, l5, l6], .int w :: .int v :: st, k, h) = zz_Run zz_prog d 141 (204, [l0, l1, l2, l3, l4, l5, l6], .int (v + w) :: st, k, h) := zz_k_num f141_203 rfl
theorem f141_204 : zz_fetch zz_prog 141 204 = some (.iastore, 1, [], []) := zz_fetch_of p141 rfl rfl
theorem s141_204 (ha : zz_isar a = true) : zz_Run zz_prog d 141 (204, [l0, l1, l2, l3, l4, l5, l6], .int w :: .int v :: .ref a :: st, k, (zz_hp n I J ex)) = zz_ck (zz_in v (zz_ary n a)) (zz_Run zz_prog d 141 (205, [l0, l1, l2, l3, l4, l5, l6], st, false, (zz_hp n (zz_up I a v.toNatClampNeg w) J ex))) := zz_k_iast f141_204 ha
theorem f141_205 : zz_fetch zz_prog 141 205 = some (.aload_n 0, 1, [], []) := zz_fetch_of p141 rfl rfl
theorem s141_205 : zz_Run zz_prog d 141 (205, [some (.ref a), l1, l2, l3, l4, l5, l6], st, k, h) = zz_Run zz_prog d 141 (206, [some (.ref a), l1, l2, l3, l4, l5, l6], .ref a :: st, k, h) := zz_k_num f141_205 rfl
theorem f141_206 : zz_fetch zz_prog 141 206 = some (.getfield 7, 3, [2, 1, 3], []) := zz_fetch_of p141 rfl rfl
theorem s141_206 : zz_Run zz_prog d 141 (206, [l0, l1, l2, l3, l4, l5, l6], .ref 23 :: st, k, (zz_hp n I J ex)) = zz_Run zz_prog d 141 (209, [l0, l1, l2, l3, l4, l5, l6], .ref 24 :: st, k, (zz_hp n I J ex)) := zz_k_go f141_206 rfl rfl rfl
theorem f141_209 : zz_fetch zz_prog 141 209 = some (.sipush 146, 3, [], []) := zz_fetch_of p141 rfl rfl
theorem s141_209 : zz_Run zz_prog d 141 (209, [l0, l1, l2, l3, l4, l5, l6], st, k, h) = zz_Run zz_prog d 141 (212, [l0, l1, l2, l3, l4, l5, l6], .int 146 :: st, k, h) := zz_k_num f141_209 (congrArg (fun u => some (212, [l0, l1, l2, l3, l4, l5, l6], Value.int u :: st)) (by decide : (Int16.ofInt 146).toInt32 = 146))
theorem f141_212 : zz_fetch zz_prog 141 212 = some (.iload_n 2, 1, [], []) := zz_fetch_of p141 rfl rfl
theorem s141_212 : zz_Run zz_prog d 141 (212, [l0, l1, some (.int v), l3, l4, l5, l6], st, k, h) = zz_Run zz_prog d 141 (213, [l0, l1, some (.int v), l3, l4, l5, l6], .int v :: st, k, h) := zz_k_num f141_212 rfl
theorem f141_213 : zz_fetch zz_prog 141 213 = some (.iadd, 1, [], []) := zz_fetch_of p141 rfl rfl
theorem s141_213 : zz_Run zz_prog d 141 (213, [l0, l1, l2, l3, l4, l5, l6], .int w :: .int v :: st, k, h) = zz_Run zz_prog d 141 (214, [l0, l1, l2, l3, l4, l5, l6], .int (v + w) :: st, k, h) := zz_k_num f141_213 rfl
theorem f141_214 : zz_fetch zz_prog 141 214 = some (.dup2, 1, [], []) := zz_fetch_of p141 rfl rfl
theorem s141_214 : zz_Run zz_prog d 141 (214, [l0, l1, l2, l3, l4, l5, l6], .int v :: .ref a1 :: st, k, h) = zz_Run zz_prog d 141 (215, [l0, l1, l2, l3, l4, l5, l6], .int v :: .ref a1 :: .int v :: .ref a1 :: st, k, h) := zz_k_num f141_214 rfl
theorem f141_215 : zz_fetch zz_prog 141 215 = some (.iaload, 1, [], []) := zz_fetch_of p141 rfl rfl
theorem s141_215 (ha : zz_isrd a = true) : zz_Run zz_prog d 141 (215, [l0, l1, l2, l3, l4, l5, l6], .int v :: .ref a :: st, k, (zz_hp n I J ex)) = zz_ck (zz_in v (zz_ary n a)) (zz_Run zz_prog d 141 (216, [l0, l1, l2, l3, l4, l5, l6], .int (I a v.toNatClampNeg) :: st, k, (zz_hp n I J ex))) := zz_k_iald f141_215 ha
theorem f141_216 : zz_fetch zz_prog 141 216 = some (.iconst 1, 1, [], []) := zz_fetch_of p141 rfl rfl
theorem s141_216 : zz_Run zz_prog d 141 (216, [l0, l1, l2, l3, l4, l5, l6], st, k, h) = zz_Run zz_prog d 141 (217, [l0, l1, l2, l3, l4, l5, l6], .int 1 :: st, k, h) := zz_k_num f141_216 rfl
theorem f141_217 : zz_fetch zz_prog 141 217 = some (.isub, 1, [], []) := zz_fetch_of p141 rfl rfl
theorem s141_217 : zz_Run zz_prog d 141 (217, [l0, l1, l2, l3, l4, l5, l6], .int w :: .int v :: st, k, h) = zz_Run zz_prog d 141 (218, [l0, l1, l2, l3, l4, l5, l6], .int (v - w) :: st, k, h) := zz_k_num f141_217 rfl
theorem f141_218 : zz_fetch zz_prog 141 218 = some (.iastore, 1, [], []) := zz_fetch_of p141 rfl rfl
theorem s141_218 (ha : zz_isar a = true) : zz_Run zz_prog d 141 (218, [l0, l1, l2, l3, l4, l5, l6], .int w :: .int v :: .ref a :: st, k, (zz_hp n I J ex)) = zz_ck (zz_in v (zz_ary n a)) (zz_Run zz_prog d 141 (219, [l0, l1, l2, l3, l4, l5, l6], st, false, (zz_hp n (zz_up I a v.toNatClampNeg w) J ex))) := zz_k_iast f141_218 ha
theorem f141_219 : zz_fetch zz_prog 141 219 = some (.aload_n 0, 1, [], []) := zz_fetch_of p141 rfl rfl
theorem s141_219 : zz_Run zz_prog d 141 (219, [some (.ref a), l1, l2, l3, l4, l5, l6], st, k, h) = zz_Run zz_prog d 141 (220, [some (.ref a), l1, l2, l3, l4, l5, l6], .ref a :: st, k, h) := zz_k_num f141_219 rfl
theorem f141_220 : zz_fetch zz_prog 141 220 = some (.getfield 7, 3, [2, 1, 3], []) := zz_fetch_of p141 rfl rfl
theorem s141_220 : zz_Run zz_prog d 141 (220, [l0, l1, l2, l3, l4, l5, l6], .ref 23 :: st, k, (zz_hp n I J ex)) = zz_Run zz_prog d 141 (223, [l0, l1, l2, l3, l4, l5, l6], .ref 24 :: st, k, (zz_hp n I J ex)) := zz_k_go f141_220 rfl rfl rfl
theorem f141_223 : zz_fetch zz_prog 141 223 = some (.sipush 146, 3, [], []) := zz_fetch_of p141 rfl rfl
theorem s141_223 : zz_Run zz_prog d 141 (223, [l0, l1, l2, l3, l4, l5, l6], st, k, h) = zz_Run zz_prog d 141 (226, [l0, l1, l2, l3, l4, l5, l6], .int 146 :: st, k, h) := zz_k_num f141_223 (congrArg (fun u => some (226, [l0, l1, l2, l3, l4, l5, l6], Value.int u :: st)) (by decide : (Int16.ofInt 146).toInt32 = 146))
theorem f141_226 : zz_fetch zz_prog 141 226 = some (.iload_n 3, 1, [], []) := zz_fetch_of p141 rfl rfl
theorem s141_226 : zz_Run zz_prog d 141 (226, [l0, l1, l2, some (.int v), l4, l5, l6], st, k, h) = zz_Run zz_prog d 141 (227, [l0, l1, l2, some (.int v), l4, l5, l6], .int v :: st, k, h) := zz_k_num f141_226 rfl
theorem f141_227 : zz_fetch zz_prog 141 227 = some (.iadd, 1, [], []) := zz_fetch_of p141 rfl rfl
theorem s141_227 : zz_Run zz_prog d 141 (227, [l0, l1, l2, l3, l4, l5, l6], .int w :: .int v :: st, k, h) = zz_Run zz_prog d 141 (228, [l0, l1, l2, l3, l4, l5, l6], .int (v + w) :: st, k, h) := zz_k_num f141_227 rfl
theorem f141_228 : zz_fetch zz_prog 141 228 = some (.dup2, 1, [], []) := zz_fetch_of p141 rfl rfl
theorem s141_228 : zz_Run zz_prog d 141 (228, [l0, l1, l2, l3, l4, l5, l6], .int v :: .ref a1 :: st, k, h) = zz_Run zz_prog d 141 (229, [l0, l1, l2, l3, l4, l5, l6], .int v :: .ref a1 :: .int v :: .ref a1 :: st, k, h) := zz_k_num f141_228 rfl
theorem f141_229 : zz_fetch zz_prog 141 229 = some (.iaload, 1, [], []) := zz_fetch_of p141 rfl rfl
theorem s141_229 (ha : zz_isrd a = true) : zz_Run zz_prog d 141 (229, [l0, l1, l2, l3, l4, l5, l6], .int v :: .ref a :: st, k, (zz_hp n I J ex)) = zz_ck (zz_in v (zz_ary n a)) (zz_Run zz_prog d 141 (230, [l0, l1, l2, l3, l4, l5, l6], .int (I a v.toNatClampNeg) :: st, k, (zz_hp n I J ex))) := zz_k_iald f141_229 ha
theorem f141_230 : zz_fetch zz_prog 141 230 = some (.iconst 1, 1, [], []) := zz_fetch_of p141 rfl rfl
theorem s141_230 : zz_Run zz_prog d 141 (230, [l0, l1, l2, l3, l4, l5, l6], st, k, h) = zz_Run zz_prog d 141 (231, [l0, l1, l2, l3, l4, l5, l6], .int 1 :: st, k, h) := zz_k_num f141_230 rfl
theorem f141_231 : zz_fetch zz_prog 141 231 = some (.isub, 1, [], []) := zz_fetch_of p141 rfl rfl
theorem s141_231 : zz_Run zz_prog d 141 (231, [l0, l1, l2, l3, l4, l5, l6], .int w :: .int v :: st, k, h) = zz_Run zz_prog d 141 (232, [l0, l1, l2, l3, l4, l5, l6], .int (v - w) :: st, k, h) := zz_k_num f141_231 rfl
theorem f141_232 : zz_fetch zz_prog 141 232 = some (.iastore, 1, [], []) := zz_fetch_of p141 rfl rfl
theorem s141_232 (ha : zz_isar a = true) : zz_Run zz_prog d 141 (232, [l0, l1, l2, l3, l4, l5, l6], .int w :: .int v :: .ref a :: st, k, (zz_hp n I J ex)) = zz_ck (zz_in v (zz_ary n a)) (zz_Run zz_prog d 141 (233, [l0, l1, l2, l3, l4, l5, l6], st, false, (zz_hp n (zz_up I a v.toNatClampNeg w) J ex))) := zz_k_iast f141_232 ha
theorem f141_233 : zz_fetch zz_prog 141 233 = some (.iconst 2, 1, [], []) := zz_fetch_of p141 rfl rfl
theorem s141_233 : zz_Run zz_prog d 141 (233, [l0, l1, l2, l3, l4, l5, l6], st, k, h) = zz_Run zz_prog d 141 (234, [l0, l1, l2, l3, l4, l5, l6], .int 2 :: st, k, h) := zz_k_num f141_233 rfl
theorem f141_234 : zz_fetch zz_prog 141 234 = some (.istore 6, 2, [], []) := zz_fetch_of p141 rfl rfl
theorem s141_234 : zz_Run zz_prog d 141 (234, [l0, l1, l2, l3, l4, l5, l6], .int v :: st, k, h) = zz_sl l5 (zz_Run zz_prog d 141 (236, [l0, l1, l2, l3, l4, l5, some (.int v)], st, k, h)) := zz_k_st (j := 6) (u := .int v) f141_234 rfl (fun q hq => by cases hq) rfl (show 6 < 7 by decide) (by cases l5 <;> rfl) rfl
theorem f141_236 : zz_fetch zz_prog 141 236 = some (.goto 12, 3, [248], []) := zz_fetch_of p141 rfl rfl
theorem s141_236 : zz_Run zz_prog d 141 (236, [l0, l1, l2, l3, l4, l5, l6], st, k, h) = zz_Run zz_prog d 141 (248, [l0, l1, l2, l3, l4, l5, l6], st, k, h) := zz_k_num f141_236 rfl
theorem f141_239 : zz_fetch zz_prog 141 239 = some (.aload_n 0, 1, [], []) := zz_fetch_of p141 rfl rfl
theorem s141_239 : zz_Run zz_prog d 141 (239, [some (.ref a), l1, l2, l3, l4, l5, l6], st, k, h) = zz_Run zz_prog d 141 (240, [some (.ref a), l1, l2, l3, l4, l5, l6], .ref a :: st, k, h) := zz_k_num f141_239 rfl
theorem f141_240 : zz_fetch zz_prog 141 240 = some (.iload 5, 2, [], []) := zz_fetch_of p141 rfl rfl
theorem s141_240 : zz_Run zz_prog d 141 (240, [l0, l1, l2, l3, l4, some (.int v), l6], st, k, h) = zz_Run zz_prog d 141 (242, [l0, l1, l2, l3, l4, some (.int v), l6], .int v :: st, k, h) := zz_k_num f141_240 rfl
theorem f141_242 : zz_fetch zz_prog 141 242 = some (.iload_n 2, 1, [], []) := zz_fetch_of p141 rfl rfl
theorem s141_242 : zz_Run zz_prog d 141 (242, [l0, l1, some (.int v), l3, l4, l5, l6], st, k, h) = zz_Run zz_prog d 141 (243, [l0, l1, some (.int v), l3, l4, l5, l6], .int v :: st, k, h) := zz_k_num f141_242 rfl
theorem f141_243 : zz_fetch zz_prog 141 243 = some (.invokevirtual 214, 3, [0, 140, 3, 2], []) := zz_fetch_of p141 rfl rfl
theorem s141_243 : zz_Run zz_prog d 141 (243, [l0, l1, l2, l3, l4, l5, l6], [b0, b1, .ref 23], k, (zz_hp n I J ex)) = zz_ret (zz_Call zz_prog d 140 [.ref 23, b1, b0] (zz_hp n I J ex)) (fun v k' h' => zz_Run zz_prog d 141 (246, [l0, l1, l2, l3, l4, l5, l6], v.toList ++ [], k && k', h')) (fun a k' h' => zz_th d 141 243 a [l0, l1, l2, l3, l4, l5, l6] (k && k') h') := zz_k_call f141_243 rfl rfl rfl
theorem f141_246 : zz_fetch zz_prog 141 246 = some (.istore 6, 2, [], []) := zz_fetch_of p141 rfl rfl
theorem s141_246 : zz_Run zz_prog d 141 (246, [l0, l1, l2, l3, l4, l5, l6], .int v :: st, k, h) = zz_sl l5 (zz_Run zz_prog d 141 (248, [l0, l1, l2, l3, l4, l5, some (.int v)], st, k, h)) := zz_k_st (j := 6) (u := .int v) f141_246 rfl (fun q hq => by cases hq) rfl (show 6 < 7 by decide) (by cases l5 <;> rfl) rfl
theorem f141_248 : zz_fetch zz_prog 141 248 = some (.aload_n 0, 1, [], []) := zz_fetch_of p141 rfl rfl
theorem s141_248 : zz_Run zz_prog d 141 (248, [some (.ref a), l1, l2, l3, l4, l5, l6], st, k, h) = zz_Run zz_prog d 141 (249, [some (.ref a), l1, l2, l3, l4, l5, l6], .ref a :: st, k, h) := zz_k_num f141_248 rfl
theorem f141_249 : zz_fetch zz_prog 141 249 = some (.invokevirtual 175, 3, [0, 116, 1, 2], []) := zz_fetch_of p141 rfl rfl
theorem s141_249 : zz_Run zz_prog d 141 (249, [l0, l1, l2, l3, l4, l5, l6], [.ref 23], k, (zz_hp n I J ex)) = zz_ret (zz_Call zz_prog d 116 [.ref 23] (zz_hp n I J ex)) (fun v k' h' => zz_Run zz_prog d 141 (252, [l0, l1, l2, l3, l4, l5, l6], v.toList ++ [], k && k', h')) (fun a k' h' => zz_th d 141 249 a [l0, l1, l2, l3, l4, l5, l6] (k && k') h') := zz_k_call f141_249 rfl rfl rfl
theorem f141_252 : zz_fetch zz_prog 141 252 = some (.iload 6, 2, [], []) := zz_fetch_of p141 rfl rfl
theorem s141_252 : zz_Run zz_prog d 141 (252, [l0, l1, l2, l3, l4, l5, some (.int v)], st, k, h) = zz_Run zz_prog d 141 (254, [l0, l1, l2, l3, l4, l5, some (.int v)], .int v :: st, k, h) := zz_k_num f141_252 rfl
theorem f141_254 : zz_fetch zz_prog 141 254 = some (.ireturn, 1, [0], []) := zz_fetch_of p141 rfl rfl
theorem s141_254 : zz_Run zz_prog d 141 (254, [l0, l1, l2, l3, l4, l5, l6], [.int v], k, h) = some (.inl (some (.int v)), k, h) := zz_k_stop f141_254 rfl rfl rfl
end S141
section S142
variable {d n j : Nat} {l0 l1 : Option Value} {st : List Value} {k : Bool} {h : zz_H} {v w v1 v2 : Int32} {y y1 : Int64} {a a1 a2 : Nat} {b0 b1 b2 b3 b4 b5 b6 b7 b8 : Value} {I : Nat → Nat → Int32} {J : Nat → Nat → Int64} {ex : List (Nat × Nat)}
theorem p142 : zz_prog 142 = some zz_m142 := rfl
theorem e142 (g0 : Nat) : zz_Call zz_prog (d + 1) 142 [.ref g0] h = zz_Run zz_prog d 142 (0, [some (.ref g0), none], [], true, h) := rfl
theorem t142 (pc : Nat) (L : List (Option Value)) : zz_th d 142 pc a L k h = some (.inr a, k, h) := zz_th_out p142 rfl
theorem f142_0 : zz_fetch zz_prog 142 0 = some (.aload_n 0, 1, [], []) := zz_fetch_of p142 rfl rfl
theorem s142_0 : zz_Run zz_prog d 142 (0, [some (.ref a), l1], st, k, h) = zz_Run zz_prog d 142 (1, [some (.ref a), l1], .ref a :: st, k, h) := zz_k_num f142_0 rfl
theorem f142_1 : zz_fetch zz_prog 142 1 = some (.aload_n 0, 1, [], []) := zz_fetch_of p142 rfl rfl
theorem s142_1 : zz_Run zz_prog d 142 (1, [some (.ref a), l1], st, k, h) = zz_Run zz_prog d 142 (2, [some (.ref a), l1], .ref a :: st, k, h) := zz_k_num f142_1 rfl
theorem f142_2 : zz_fetch zz_prog 142 2 = some (.getfield 7, 3, [2, 1, 3], []) := zz_fetch_of p142 rfl rfl
theorem s142_2 : zz_Run zz_prog d 142 (2, [l0, l1], .ref 23 :: st, k, (zz_hp n I J ex)) = zz_Run zz_prog d 142 (5, [l0, l1], .ref 24 :: st, k, (zz_hp n I J ex)) := zz_k_go f142_2 rfl rfl rfl
theorem f142_5 : zz_fetch zz_prog 142 5 = some (.sipush 180, 3, [], []) := zz_fetch_of p142 rfl rfl
theorem s142_5 : zz_Run zz_prog d 142 (5, [l0, l1], st, k, h) = zz_Run zz_prog d 142 (8, [l0, l1], .int 180 :: st, k, h) := zz_k_num f142_5 (congrArg (fun u => some (8, [l0, l1], Value.int u :: st)) (by decide : (Int16.ofInt 180).toInt32 = 180))
theorem f142_8 : zz_fetch zz_prog 142 8 = some (.iaload, 1, [], []) := zz_fetch_of p142 rfl rfl
theorem s142_8 (ha : zz_isrd a = true) : zz_Run zz_prog d 142 (8, [l0, l1], .int v :: .ref a :: st, k, (zz_hp n I J ex)) = zz_ck (zz_in v (zz_ary n a)) (zz_Run zz_prog d 142 (9, [l0, l1], .int (I a v.toNatClampNeg) :: st, k, (zz_hp n I J ex))) := zz_k_iald f142_8 ha
theorem f142_9 : zz_fetch zz_prog 142 9 = some (.bipush 6, 2, [], []) := zz_fetch_of p142 rfl rfl
theorem s142_9 : zz_Run zz_prog d 142 (9, [l0, l1], st, k, h) = zz_Run zz_prog d 142 (11, [l0, l1], .int 6 :: st, k, h) := zz_k_num f142_9 (congrArg (fun u => some (11, [l0, l1], Value.int u :: st)) (by decide : (Int8.ofInt 6).toInt32 = 6))
theorem f142_11 : zz_fetch zz_prog 142 11 = some (.if_icmp .eq 20, 3, [31], []) := zz_fetch_of p142 rfl rfl
theorem s142_11 : zz_Run zz_prog d 142 (11, [l0, l1], .int w :: .int v :: st, k, h) = if v = w then zz_Run zz_prog d 142 (31, [l0, l1], st, k, h) else zz_Run zz_prog d 142 (14, [l0, l1], st, k, h) := zz_k_br (v = w) rfl (zz_k_num f142_11 rfl)
theorem f142_14 : zz_fetch zz_prog 142 14 = some (.aload_n 0, 1, [], []) := zz_fetch_of p142 rfl rfl
theorem s142_14 : zz_Run zz_prog d 142 (14, [some (.ref a), l1], st, k, h) = zz_Run zz_prog d 142 (15, [some (.ref a), l1], .ref a :: st, k, h) := zz_k_num f142_14 rfl
theorem f142_15 : zz_fetch zz_prog 142 15 = some (.getfield 7, 3, [2, 1, 3], []) := zz_fetch_of p142 rfl rfl
theorem s142_15 : zz_Run zz_prog d 142 (15, [l0, l1], .ref 23 :: st, k, (zz_hp n I J ex)) = zz_Run zz_prog d 142 (18, [l0, l1], .ref 24 :: st, k, (zz_hp n I J ex)) := zz_k_go f142_15 rfl rfl rfl
theorem f142_18 : zz_fetch zz_prog 142 18 = some (.sipush 180, 3, [], []) := zz_fetch_of p142 rfl rfl
theorem s142_18 : zz_Run zz_prog d 142 (18, [l0, l1], st, k, h) = zz_Run zz_prog d 142 (21, [l0, l1], .int 180 :: st, k, h) := zz_k_num f142_18 (congrArg (fun u => some (21, [l0, l1], Value.int u :: st)) (by decide : (Int16.ofInt 180).toInt32 = 180))
theorem f142_21 : zz_fetch zz_prog 142 21 = some (.iaload, 1, [], []) := zz_fetch_of p142 rfl rfl
theorem s142_21 (ha : zz_isrd a = true) : zz_Run zz_prog d 142 (21, [l0, l1], .int v :: .ref a :: st, k, (zz_hp n I J ex)) = zz_ck (zz_in v (zz_ary n a)) (zz_Run zz_prog d 142 (22, [l0, l1], .int (I a v.toNatClampNeg) :: st, k, (zz_hp n I J ex))) := zz_k_iald f142_21 ha
theorem f142_22 : zz_fetch zz_prog 142 22 = some (.bipush 7, 2, [], []) := zz_fetch_of p142 rfl rfl
theorem s142_22 : zz_Run zz_prog d 142 (22, [l0, l1], st, k, h) = zz_Run zz_prog d 142 (24, [l0, l1], .int 7 :: st, k, h) := zz_k_num f142_22 (congrArg (fun u => some (24, [l0, l1], Value.int u :: st)) (by decide : (Int8.ofInt 7).toInt32 = 7))
theorem f142_24 : zz_fetch zz_prog 142 24 = some (.if_icmp .eq 7, 3, [31], []) := zz_fetch_of p142 rfl rfl
theorem s142_24 : zz_Run zz_prog d 142 (24, [l0, l1], .int w :: .int v :: st, k, h) = if v = w then zz_Run zz_prog d 142 (31, [l0, l1], st, k, h) else zz_Run zz_prog d 142 (27, [l0, l1], st, k, h) := zz_k_br (v = w) rfl (zz_k_num f142_24 rfl)
theorem f142_27 : zz_fetch zz_prog 142 27 = some (.iconst 1, 1, [], []) := zz_fetch_of p142 rfl rfl
theorem s142_27 : zz_Run zz_prog d 142 (27, [l0, l1], st, k, h) = zz_Run zz_prog d 142 (28, [l0, l1], .int 1 :: st, k, h) := zz_k_num f142_27 rfl
theorem f142_28 : zz_fetch zz_prog 142 28 = some (.goto 4, 3, [32], []) := zz_fetch_of p142 rfl rfl
theorem s142_28 : zz_Run zz_prog d 142 (28, [l0, l1], st, k, h) = zz_Run zz_prog d 142 (32, [l0, l1], st, k, h) := zz_k_num f142_28 rfl
theorem f142_31 : zz_fetch zz_prog 142 31 = some (.iconst 0, 1, [], []) := zz_fetch_of p142 rfl rfl
theorem s142_31 : zz_Run zz_prog d 142 (31, [l0, l1], st, k, h) = zz_Run zz_prog d 142 (32, [l0, l1], .int 0 :: st, k, h) := zz_k_num f142_31 rfl
theorem f142_32 : zz_fetch zz_prog 142 32 = some (.iconst 0, 1, [], []) := zz_fetch_of p142 rfl rfl
theorem s142_32 : zz_Run zz_prog d 142 (32, [l0, l1], st, k, h) = zz_Run zz_prog d 142 (33, [l0, l1], .int 0 :: st, k, h) := zz_k_num f142_32 rfl
theorem f142_33 : zz_fetch zz_prog 142 33 = some (.iconst 0, 1, [], []) := zz_fetch_of p142 rfl rfl
theorem s142_33 : zz_Run zz_prog d 142 (33, [l0, l1], st, k, h) = zz_Run zz_prog d 142 (34, [l0, l1], .int 0 :: st, k, h) := zz_k_num f142_33 rfl
theorem f142_34 : zz_fetch zz_prog 142 34 = some (.invokevirtual 89, 3, [0, 95, 4, 2], []) := zz_fetch_of p142 rfl rfl
theorem s142_34 : zz_Run zz_prog d 142 (34, [l0, l1], [b0, b1, b2, .ref 23], k, (zz_hp n I J ex)) = zz_ret (zz_Call zz_prog d 95 [.ref 23, b2, b1, b0] (zz_hp n I J ex)) (fun v k' h' => zz_Run zz_prog d 142 (37, [l0, l1], v.toList ++ [], k && k', h')) (fun a k' h' => zz_th d 142 34 a [l0, l1] (k && k') h') := zz_k_call f142_34 rfl rfl rfl
theorem f142_37 : zz_fetch zz_prog 142 37 = some (.ifCond .eq 5, 3, [42], []) := zz_fetch_of p142 rfl rfl
theorem s142_37 : zz_Run zz_prog d 142 (37, [l0, l1], .int v :: st, k, h) = if v = 0 then zz_Run zz_prog d 142 (42, [l0, l1], st, k, h) else zz_Run zz_prog d 142 (40, [l0, l1], st, k, h) := zz_k_br (v = 0) rfl (zz_k_num f142_37 rfl)
theorem f142_40 : zz_fetch zz_prog 142 40 = some (.iconst 0, 1, [], []) := zz_fetch_of p142 rfl rfl
theorem s142_40 : zz_Run zz_prog d 142 (40, [l0, l1], st, k, h) = zz_Run zz_prog d 142 (41, [l0, l1], .int 0 :: st, k, h) := zz_k_num f142_40 rfl
theorem f142_41 : zz_fetch zz_prog 142 41 = some (.ireturn, 1, [0], []) := zz_fetch_of p142 rfl rfl
theorem s142_41 : zz_Run zz_prog d 142 (41, [l0, l1], [.int v], k, h) = some (.inl (some (.int v)), k, h) := zz_k_stop f142_41 rfl rfl rfl
theorem f142_42 : zz_fetch zz_prog 142 42 = some (.aload_n 0, 1, [], []) := zz_fetch_of p142 rfl rfl
theorem s142_42 : zz_Run zz_prog d 142 (42, [some (.ref a), l1], st, k, h) = zz_Run zz_prog d 142 (43, [some (.ref a), l1], .ref a :: st, k, h) := zz_k_num f142_42 rfl
theorem f142_43 : zz_fetch zz_prog 142 43 = some (.invokevirtual 158, 3, [0, 117, 1, 2], []) := zz_fetch_of p142 rfl rfl
theorem s142_43 : zz_Run zz_prog d 142 (43, [l0, l1], [.ref 23], k, (zz_hp n I J ex)) = zz_ret (zz_Call zz_prog d 117 [.ref 23] (zz_hp n I J ex)) (fun v k' h' => zz_Run zz_prog d 142 (46, [l0, l1], v.toList ++ [], k && k', h')) (fun a k' h' => zz_th d 142 43 a [l0, l1] (k && k') h') := zz_k_call f142_43 rfl rfl rfl
theorem f142_46 : zz_fetch zz_prog 142 46 = some (.aload_n 0, 1, [], []) := zz_fetch_of p142 rfl rfl
theorem s142_46 : zz_Run zz_prog d 142 (46, [some (.ref a), l1], st, k, h) = zz_Run zz_prog d 142 (47, [some (.ref a), l1], .ref a :: st, k, h) := zz_k_num f142_46 rfl
theorem f142_47 : zz_fetch zz_prog 142 47 = some (.getfield 7, 3, [2, 1, 3], []) := zz_fetch_of p142 rfl rfl
theorem s142_47 : zz_Run zz_prog d 142 (47, [l0, l1], .ref 23 :: st, k, (zz_hp n I J ex)) = zz_Run zz_prog d 142 (50, [l0, l1], .ref 24 :: st, k, (zz_hp n I J ex)) := zz_k_go f142_47 rfl rfl rfl
theorem f142_50 : zz_fetch zz_prog 142 50 = some (.sipush 180, 3, [], []) := zz_fetch_of p142 rfl rfl
theorem s142_50 : zz_Run zz_prog d 142 (50, [l0, l1], st, k, h) = zz_Run zz_prog d 142 (53, [l0, l1], .int 180 :: st, k, h) := zz_k_num f142_50 (congrArg (fun u => some (53, [l0, l1], Value.int u :: st)) (by decide : (Int16.ofInt 180).toInt32 = 180))
theorem f142_53 : zz_fetch zz_prog 142 53 = some (.iaload, 1, [], []) := zz_fetch_of p142 rfl rfl
theorem s142_53 (ha : zz_isrd a = true) : zz_Run zz_prog d 142 (53, [l0, l1], .int v :: .ref a :: st, k, (zz_hp n I J ex)) = zz_ck (zz_in v (zz_ary n a)) (zz_Run zz_prog d 142 (54, [l0, l1], .int (I a v.toNatClampNeg) :: st, k, (zz_hp n I J ex))) := zz_k_iald f142_53 ha
theorem f142_54 : zz_fetch zz_prog 142 54 = some (.bipush 7, 2, [], []) := zz_fetch_of p142 rfl rfl
theorem s142_54 : zz_Run zz_prog d 142 (54, [l0, l1], st, k, h) = zz_Run zz_prog d 142 (56, [l0, l1], .int 7 :: st, k, h) := zz_k_num f142_54 (congrArg (fun u => some (56, [l0, l1], Value.int u :: st)) (by decide : (Int8.ofInt 7).toInt32 = 7))
theorem f142_56 : zz_fetch zz_prog 142 56 = some (.if_icmp .ne 25, 3, [81], []) := zz_fetch_of p142 rfl rfl
theorem s142_56 : zz_Run zz_prog d 142 (56, [l0, l1], .int w :: .int v :: st, k, h) = if ¬ v = w then zz_Run zz_prog d 142 (81, [l0, l1], st, k, h) else zz_Run zz_prog d 142 (59, [l0, l1], st, k, h) := zz_k_br (¬ v = w) rfl (zz_k_num f142_56 rfl)
theorem f142_59 : zz_fetch zz_prog 142 59 = some (.aload_n 0, 1, [], []) := zz_fetch_of p142 rfl rfl
theorem s142_59 : zz_Run zz_prog d 142 (59, [some (.ref a), l1], st, k, h) = zz_Run zz_prog d 142 (60, [some (.ref a), l1], .ref a :: st, k, h) := zz_k_num f142_59 rfl
theorem f142_60 : zz_fetch zz_prog 142 60 = some (.getfield 7, 3, [2, 1, 3], []) := zz_fetch_of p142 rfl rfl
theorem s142_60 : zz_Run zz_prog d 142 (60, [l0, l1], .ref 23 :: st, k, (zz_hp n I J ex)) = zz_Run zz_prog d 142 (63, [l0, l1], .ref 24 :: st, k, (zz_hp n I J ex)) := zz_k_go f142_60 rfl rfl rfl
theorem f142_63 : zz_fetch zz_prog 142 63 = some (.sipush 180, 3, [], []) := zz_fetch_of p142 rfl rfl
theorem s142_63 : zz_Run zz_prog d 142 (63, [l0, l1], st, k, h) = zz_Run zz_prog d 142 (66, [l0, l1], .int 180 :: st, k, h) := zz_k_num f142_63 (congrArg (fun u => some (66, [l0, l1], Value.int u :: st)) (by decide : (Int16.ofInt 180).toInt32 = 180))
theorem f142_66 : zz_fetch zz_prog 142 66 = some (.bipush 6, 2, [], []) := zz_fetch_of p142 rfl rfl
theorem s142_66 : zz_Run zz_prog d 142 (66, [l0, l1], st, k, h) = zz_Run zz_prog d 142 (68, [l0, l1], .int 6 :: st, k, h) := zz_k_num f142_66 (congrArg (fun u => some (68, [l0, l1], Value.int u :: st)) (by decide : (Int8.ofInt 6).toInt32 = 6))
theorem f142_68 : zz_fetch zz_prog 142 68 = some (.iastore, 1, [], []) := zz_fetch_of p142 rfl rfl
theorem s142_68 (ha : zz_isar a = true) : zz_Run zz_prog d 142 (68, [l0, l1], .int w :: .int v :: .ref a :: st, k, (zz_hp n I J ex)) = zz_ck (zz_in v (zz_ary n a)) (zz_Run zz_prog d 142 (69, [l0, l1], st, false, (zz_hp n (zz_up I a v.toNatClampNeg w) J ex))) := zz_k_iast f142_68 ha
theorem f142_69 : zz_fetch zz_prog 142 69 = some (.aload_n 0, 1, [], []) := zz_fetch_of p142 rfl rfl
theorem s142_69 : zz_Run zz_prog d 142 (69, [some (.ref a), l1], st, k, h) = zz_Run zz_prog d 142 (70, [some (.ref a), l1], .ref a :: st, k, h) := zz_k_num f142_69 rfl
theorem f142_70 : zz_fetch zz_prog 142 70 = some (.getfield 7, 3, [2, 1, 3], []) := zz_fetch_of p142 rfl rfl
theorem s142_70 : zz_Run zz_prog d 142 (70, [l0, l1], .ref 23 :: st, k, (zz_hp n I J ex)) = zz_Run zz_prog d 142 (73, [l0, l1], .ref 24 :: st, k, (zz_hp n I J ex)) := zz_k_go f142_70 rfl rfl rfl
theorem f142_73 : zz_fetch zz_prog 142 73 = some (.sipush 185, 3, [], []) := zz_fetch_of p142 rfl rfl
theorem s142_73 : zz_Run zz_prog d 142 (73, [l0, l1], st, k, h) = zz_Run zz_prog d 142 (76, [l0, l1], .int 185 :: st, k, h) := zz_k_num f142_73 (congrArg (fun u => some (76, [l0, l1], Value.int u :: st)) (by decide : (Int16.ofInt 185).toInt32 = 185))
theorem f142_76 : zz_fetch zz_prog 142 76 = some (.iconst 0, 1, [], []) := zz_fetch_of p142 rfl rfl
theorem s142_76 : zz_Run zz_prog d 142 (76, [l0, l1], st, k, h) = zz_Run zz_prog d 142 (77, [l0, l1], .int 0 :: st, k, h) := zz_k_num f142_76 rfl
theorem f142_77 : zz_fetch zz_prog 142 77 = some (.iastore, 1, [], []) := zz_fetch_of p142 rfl rfl
theorem s142_77 (ha : zz_isar a = true) : zz_Run zz_prog d 142 (77, [l0, l1], .int w :: .int v :: .ref a :: st, k, (zz_hp n I J ex)) = zz_ck (zz_in v (zz_ary n a)) (zz_Run zz_prog d 142 (78, [l0, l1], st, false, (zz_hp n (zz_up I a v.toNatClampNeg w) J ex))) := zz_k_iast f142_77 ha
theorem f142_78 : zz_fetch zz_prog 142 78 = some (.goto 77, 3, [155], []) := zz_fetch_of p142 rfl rfl
theorem s142_78 : zz_Run zz_prog d 142 (78, [l0, l1], st, k, h) = zz_Run zz_prog d 142 (155, [l0, l1], st, k, h) := zz_k_num f142_78 rfl
theorem f142_81 : zz_fetch zz_prog 142 81 = some (.aload_n 0, 1, [], []) := zz_fetch_of p142 rfl rfl
theorem s142_81 : zz_Run zz_prog d 142 (81, [some (.ref a), l1], st, k, h) = zz_Run zz_prog d 142 (82, [some (.ref a), l1], .ref a :: st, k, h) := zz_k_num f142_81 rfl
theorem f142_82 : zz_fetch zz_prog 142 82 = some (.getfield 7, 3, [2, 1, 3], []) := zz_fetch_of p142 rfl rfl
theorem s142_82 : zz_Run zz_prog d 142 (82, [l0, l1], .ref 23 :: st, k, (zz_hp n I J ex)) = zz_Run zz_prog d 142 (85, [l0, l1], .ref 24 :: st, k, (zz_hp n I J ex)) := zz_k_go f142_82 rfl rfl rfl
theorem f142_85 : zz_fetch zz_prog 142 85 = some (.sipush 181, 3, [], []) := zz_fetch_of p142 rfl rfl
theorem s142_85 : zz_Run zz_prog d 142 (85, [l0, l1], st, k, h) = zz_Run zz_prog d 142 (88, [l0, l1], .int 181 :: st, k, h) := zz_k_num f142_85 (congrArg (fun u => some (88, [l0, l1], Value.int u :: st)) (by decide : (Int16.ofInt 181).toInt32 = 181))
theorem f142_88 : zz_fetch zz_prog 142 88 = some (.aload_n 0, 1, [], []) := zz_fetch_of p142 rfl rfl
theorem s142_88 : zz_Run zz_prog d 142 (88, [some (.ref a), l1], st, k, h) = zz_Run zz_prog d 142 (89, [some (.ref a), l1], .ref a :: st, k, h) := zz_k_num f142_88 rfl
theorem f142_89 : zz_fetch zz_prog 142 89 = some (.getfield 7, 3, [2, 1, 3], []) := zz_fetch_of p142 rfl rfl
theorem s142_89 : zz_Run zz_prog d 142 (89, [l0, l1], .ref 23 :: st, k, (zz_hp n I J ex)) = zz_Run zz_prog d 142 (92, [l0, l1], .ref 24 :: st, k, (zz_hp n I J ex)) := zz_k_go f142_89 rfl rfl rfl
theorem f142_92 : zz_fetch zz_prog 142 92 = some (.sipush 181, 3, [], []) := zz_fetch_of p142 rfl rfl
theorem s142_92 : zz_Run zz_prog d 142 (92, [l0, l1], st, k, h) = zz_Run zz_prog d 142 (95, [l0, l1], .int 181 :: st, k, h) := zz_k_num f142_92 (congrArg (fun u => some (95, [l0, l1], Value.int u :: st)) (by decide : (Int16.ofInt 181).toInt32 = 181))
theorem f142_95 : zz_fetch zz_prog 142 95 = some (.iaload, 1, [], []) := zz_fetch_of p142 rfl rfl
theorem s142_95 (ha : zz_isrd a = true) : zz_Run zz_prog d 142 (95, [l0, l1], .int v :: .ref a :: st, k, (zz_hp n I J ex)) = zz_ck (zz_in v (zz_ary n a)) (zz_Run zz_prog d 142 (96, [l0, l1], .int (I a v.toNatClampNeg) :: st, k, (zz_hp n I J ex))) := zz_k_iald f142_95 ha
theorem f142_96 : zz_fetch zz_prog 142 96 = some (.iconst 1, 1, [], []) := zz_fetch_of p142 rfl rfl
theorem s142_96 : zz_Run zz_prog d 142 (96, [l0, l1], st, k, h) = zz_Run zz_prog d 142 (97, [l0, l1], .int 1 :: st, k, h) := zz_k_num f142_96 rfl
theorem f142_97 : zz_fetch zz_prog 142 97 = some (.iadd, 1, [], []) := zz_fetch_of p142 rfl rfl
theorem s142_97 : zz_Run zz_prog d 142 (97, [l0, l1], .int w :: .int v :: st, k, h) = zz_Run zz_prog d 142 (98, [l0, l1], .int (v + w) :: st, k, h) := zz_k_num f142_97 rfl
theorem f142_98 : zz_fetch zz_prog 142 98 = some (.aload_n 0, 1, [], []) := zz_fetch_of p142 rfl rfl
theorem s142_98 : zz_Run zz_prog d 142 (98, [some (.ref a), l1], st, k, h) = zz_Run zz_prog d 142 (99, [some (.ref a), l1], .ref a :: st, k, h) := zz_k_num f142_98 rfl
theorem f142_99 : zz_fetch zz_prog 142 99 = some (.getfield 105, 3, [2, 15, 0], []) := zz_fetch_of p142 rfl rfl
theorem s142_99 : zz_Run zz_prog d 142 (99, [l0, l1], .ref 23 :: st, k, (zz_hp n I J ex)) = zz_Run zz_prog d 142 (102, [l0, l1], .int (I 23 15) :: st, k, (zz_hp n I J ex)) := zz_k_go f142_99 rfl rfl rfl
theorem f142_102 : zz_fetch zz_prog 142 102 = some (.irem, 1, [], []) := zz_fetch_of p142 rfl rfl
theorem s142_102 (hw : ¬ w = 0) : zz_Run zz_prog d 142 (102, [l0, l1], .int w :: .int v :: st, k, h) = zz_Run zz_prog d 142 (103, [l0, l1], .int (v - v / w * w) :: st, k, h) := zz_k_irem f142_102 hw
theorem f142_103 : zz_fetch zz_prog 142 103 = some (.iastore, 1, [], []) := zz_fetch_of p142 rfl rfl
theorem s142_103 (ha : zz_isar a = true) : zz_Run zz_prog d 142 (103, [l0, l1], .int w :: .int v :: .ref a :: st, k, (zz_hp n I J ex)) = zz_ck (zz_in v (zz_ary n a)) (zz_Run zz_prog d 142 (104, [l0, l1], st, false, (zz_hp n (zz_up I a v.toNatClampNeg w) J ex))) := zz_k_iast f142_103 ha
theorem f142_104 : zz_fetch zz_prog 142 104 = some (.aload_n 0, 1, [], []) := zz_fetch_of p142 rfl rfl
theorem s142_104 : zz_Run zz_prog d 142 (104, [some (.ref a), l1], st, k, h) = zz_Run zz_prog d 142 (105, [some (.ref a), l1], .ref a :: st, k, h) := zz_k_num f142_104 rfl
theorem f142_105 : zz_fetch zz_prog 142 105 = some (.getfield 7, 3, [2, 1, 3], []) := zz_fetch_of p142 rfl rfl
theorem s142_105 : zz_Run zz_prog d 142 (105, [l0, l1], .ref 23 :: st, k, (zz_hp n I J ex)) = zz_Run zz_prog d 142 (108, [l0, l1], .ref 24 :: st, k, (zz_hp n I J ex)) := zz_k_go f142_105 rfl rfl rfl
theorem f142_108 : zz_fetch zz_prog 142 108 = some (.sipush 180, 3, [], []) := zz_fetch_of p142 rfl rfl
theorem s142_108 : zz_Run zz_prog d 142 (108, [l0, l1], st, k, h) = zz_Run zz_prog d 142 (111, [l0, l1], .int 180 :: st, k, h) := zz_k_num f142_108 (congrArg (fun u => some (111, [l0, l1], Value.int u :: st)) (by decide : (Int16.ofInt 180).toInt32 = 180))
theorem f142_111 : zz_fetch zz_prog 142 111 = some (.iconst 3, 1, [], []) := zz_fetch_of p142 rfl rfl
theorem s142_111 : zz_Run zz_prog d 142 (111, [l0, l1], st, k, h) = zz_Run zz_prog d 142 (112, [l0, l1], .int 3 :: st, k, h) := zz_k_num f142_111 rfl
theorem f142_112 : zz_fetch zz_prog 142 112 = some (.iastore, 1, [], []) := zz_fetch_of p142 rfl rfl
theorem s142_112 (ha : zz_isar a = true) : zz_Run zz_prog d 142 (112, [l0, l1], .int w :: .int v :: .ref a :: st, k, (zz_hp n I J ex)) = zz_ck (zz_in v (zz_ary n a)) (zz_Run zz_prog d 142 (113, [l0, l1], st, false, (zz_hp n (zz_up I a v.toNatClampNeg w) J ex))) := zz_k_iast f142_112 ha
theorem f142_113 : zz_fetch zz_prog 142 113 = some (.aload_n 0, 1, [], []) := zz_fetch_of p142 rfl rfl
theorem s142_113 : zz_Run zz_prog d 142 (113, [some (.ref a), l1], st, k, h) = zz_Run zz_prog d 142 (114, [some (.ref a), l1], .ref a :: st, k, h) := zz_k_num f142_113 rfl
theorem f142_114 : zz_fetch zz_prog 142 114 = some (.getfield 7, 3, [2, 1, 3], []) := zz_fetch_of p142 rfl rfl
theorem s142_114 : zz_Run zz_prog d 142 (114, [l0, l1], .ref 23 :: st, k, (zz_hp n I J ex)) = zz_Run zz_prog d 142 (117, [l0, l1], .ref 24 :: st, k, (zz_hp n I J ex)) := zz_k_go f142_114 rfl rfl rfl
theorem f142_117 : zz_fetch zz_prog 142 117 = some (.sipush 184, 3, [], []) := zz_fetch_of p142 rfl rfl
theorem s142_117 : zz_Run zz_prog d 142 (117, [l0, l1], st, k, h) = zz_Run zz_prog d 142 (120, [l0, l1], .int 184 :: st, k, h) := zz_k_num f142_117 (congrArg (fun u => some (120, [l0, l1], Value.int u :: st)) (by decide : (Int16.ofInt 184).toInt32 = 184))
theorem f142_120 : zz_fetch zz_prog 142 120 = some (.iconst 0, 1, [], []) := zz_fetch_of p142 rfl rfl
theorem s142_120 : zz_Run zz_prog d 142 (120, [l0, l1], st, k, h) = zz_Run zz_prog d 142 (121, [l0, l1], .int 0 :: st, k, h) := zz_k_num f142_120 rfl
theorem f142_121 : zz_fetch zz_prog 142 121 = some (.iastore, 1, [], []) := zz_fetch_of p142 rfl rfl
theorem s142_121 (ha : zz_isar a = true) : zz_Run zz_prog d 142 (121, [l0, l1], .int w :: .int v :: .ref a :: st, k, (zz_hp n I J ex)) = zz_ck (zz_in v (zz_ary n a)) (zz_Run zz_prog d 142 (122, [l0, l1], st, false, (zz_hp n (zz_up I a v.toNatClampNeg w) J ex))) := zz_k_iast f142_121 ha
theorem f142_122 : zz_fetch zz_prog 142 122 = some (.aload_n 0, 1, [], []) := zz_fetch_of p142 rfl rfl
theorem s142_122 : zz_Run zz_prog d 142 (122, [some (.ref a), l1], st, k, h) = zz_Run zz_prog d 142 (123, [some (.ref a), l1], .ref a :: st, k, h) := zz_k_num f142_122 rfl
theorem f142_123 : zz_fetch zz_prog 142 123 = some (.getfield 7, 3, [2, 1, 3], []) := zz_fetch_of p142 rfl rfl
theorem s142_123 : zz_Run zz_prog d 142 (123, [l0, l1], .ref 23 :: st, k, (zz_hp n I J ex)) = zz_Run zz_prog d 142 (126, [l0, l1], .ref 24 :: st, k, (zz_hp n I J ex)) := zz_k_go f142_123 rfl rfl rfl
theorem f142_126 : zz_fetch zz_prog 142 126 = some (.sipush 186, 3, [], []) := zz_fetch_of p142 rfl rfl
theorem s142_126 : zz_Run zz_prog d 142 (126, [l0, l1], st, k, h) = zz_Run zz_prog d 142 (129, [l0, l1], .int 186 :: st, k, h) := zz_k_num f142_126 (congrArg (fun u => some (129, [l0, l1], Value.int u :: st)) (by decide : (Int16.ofInt 186).toInt32 = 186))
theorem f142_129 : zz_fetch zz_prog 142 129 = some (.iconst (-1), 1, [], []) := zz_fetch_of p142 rfl rfl
theorem s142_129 : zz_Run zz_prog d 142 (129, [l0, l1], st, k, h) = zz_Run zz_prog d 142 (130, [l0, l1], .int (-1) :: st, k, h) := zz_k_num f142_129 rfl
theorem f142_130 : zz_fetch zz_prog 142 130 = some (.iastore, 1, [], []) := zz_fetch_of p142 rfl rfl
theorem s142_130 (ha : zz_isar a = true) : zz_Run zz_prog d 142 (130, [l0, l1], .int w :: .int v :: .ref a :: st, k, (zz_hp n I J ex)) = zz_ck (zz_in v (zz_ary n a)) (zz_Run zz_prog d 142 (131, [l0, l1], st, false, (zz_hp n (zz_up I a v.toNatClampNeg w) J ex))) := zz_k_iast f142_130 ha
theorem f142_131 : zz_fetch zz_prog 142 131 = some (.iconst 0, 1, [], []) := zz_fetch_of p142 rfl rfl
theorem s142_131 : zz_Run zz_prog d 142 (131, [l0, l1], st, k, h) = zz_Run zz_prog d 142 (132, [l0, l1], .int 0 :: st, k, h) := zz_k_num f142_131 rfl
theorem f142_132 : zz_fetch zz_prog 142 132 = some (.istore_n 1, 1, [], []) := zz_fetch_of p142 rfl rfl
theorem s142_132 : zz_Run zz_prog d 142 (132, [l0, l1], .int v :: st, k, h) = zz_sl l0 (zz_Run zz_prog d 142 (133, [l0, some (.int v)], st, k, h)) := zz_k_st (j := 1) (u := .int v) f142_132 rfl (fun q hq => by cases hq) rfl (show 1 < 2 by decide) (by cases l0 <;> rfl) rfl
theorem f142_133 : zz_fetch zz_prog 142 133 = some (.iload_n 1, 1, [], []) := zz_fetch_of p142 rfl rfl
theorem s142_133 : zz_Run zz_prog d 142 (133, [l0, some (.int v)], st, k, h) = zz_Run zz_prog d 142 (134, [l0, some (.int v)], .int v :: st, k, h) := zz_k_num f142_133 rfl
theorem f142_134 : zz_fetch zz_prog 142 134 = some (.iconst 5, 1, [], []) := zz_fetch_of p142 rfl rfl
theorem s142_134 : zz_Run zz_prog d 142 (134, [l0, l1], st, k, h) = zz_Run zz_prog d 142 (135, [l0, l1], .int 5 :: st, k, h) := zz_k_num f142_134 rfl
theorem f142_135 : zz_fetch zz_prog 142 135 = some (.if_icmp .ge 20, 3, [155], []) := zz_fetch_of p142 rfl rfl
theorem s142_135 : zz_Run zz_prog d 142 (135, [l0, l1], .int w :: .int v :: st, k, h) = if w ≤ v then zz_Run zz_prog d 142 (155, [l0, l1], st, k, h) else zz_Run zz_prog d 142 (138, [l0, l1], st, k, h) := zz_k_br (w ≤ v) rfl (zz_k_num f142_135 rfl)
theorem f142_138 : zz_fetch zz_prog 142 138 = some (.aload_n 0, 1, [], []) := zz_fetch_of p142 rfl rfl
theorem s142_138 : zz_Run zz_prog d 142 (138, [some (.ref a), l1], st, k, h) = zz_Run zz_prog d 142 (139, [some (.ref a), l1], .ref a :: st, k, h) := zz_k_num f142_138 rfl
theorem f142_139 : zz_fetch zz_prog 142 139 = some (.getfield 7, 3, [2, 1, 3], []) := zz_fetch_of p142 rfl rfl
theorem s142_139 : zz_Run zz_prog d 142 (139, [l0, l1], .ref 23 :: st, k, (zz_hp n I J ex)) = zz_Run zz_prog d 142 (142, [l0, l1], .ref 24 :: st, k, (zz_hp n I J ex)) := zz_k_go f142_139 rfl rfl rfl
theorem f142_142 : zz_fetch zz_prog 142 142 = some (.sipush 171, 3, [], []) := zz_fetch_of p142 rfl rfl
theorem s142_142 : zz_Run zz_prog d 142 (142, [l0, l1], st, k, h) = zz_Run zz_prog d 142 (145, [l0, l1], .int 171 :: st, k, h) := zz_k_num f142_142 (congrArg (fun u => some (145, [l0, l1], Value.int u :: st)) (by decide : (Int16.ofInt 171).toInt32 = 171))
theorem f142_145 : zz_fetch zz_prog 142 145 = some (.iload_n 1, 1, [], []) := zz_fetch_of p142 rfl rfl
theorem s142_145 : zz_Run zz_prog d 142 (145, [l0, some (.int v)], st, k, h) = zz_Run zz_prog d 142 (146, [l0, some (.int v)], .int v :: st, k, h) := zz_k_num f142_145 rfl
theorem f142_146 : zz_fetch zz_prog 142 146 = some (.iadd, 1, [], []) := zz_fetch_of p142 rfl rfl
theorem s142_146 : zz_Run zz_prog d 142 (146, [l0, l1], .int w :: .int v :: st, k, h) = zz_Run zz_prog d 142 (147, [l0, l1], .int (v + w) :: st, k, h) := zz_k_num f142_146 rfl
theorem f142_147 : zz_fetch zz_prog 142 147 = some (.iconst 0, 1, [], []) := zz_fetch_of p142 rfl rfl
theorem s142_147 : zz_Run zz_prog d 142 (147, [l0, l1], st, k, h) = zz_Run zz_prog d 142 (148, [l0, l1], .int 0 :: st, k, h) := zz_k_num f142_147 rfl
theorem f142_148 : zz_fetch zz_prog 142 148 = some (.iastore, 1, [], []) := zz_fetch_of p142 rfl rfl
theorem s142_148 (ha : zz_isar a = true) : zz_Run zz_prog d 142 (148, [l0, l1], .int w :: .int v :: .ref a :: st, k, (zz_hp n I J ex)) = zz_ck (zz_in v (zz_ary n a)) (zz_Run zz_prog d 142 (149, [l0, l1], st, false, (zz_hp n (zz_up I a v.toNatClampNeg w) J ex))) := zz_k_iast f142_148 ha
theorem f142_149 : zz_fetch zz_prog 142 149 = some (.iinc 1 1, 3, [], []) := zz_fetch_of p142 rfl rfl
theorem s142_149 : zz_Run zz_prog d 142 (149, [l0, some (.int v)], st, k, h) = zz_sl l0 (zz_Run zz_prog d 142 (152, [l0, some (.int (v + 1))], st, k, h)) := zz_k_st (j := 1) (u := .int (v + 1)) f142_149 rfl (fun q hq => by cases hq) rfl (show 1 < 2 by decide) (by cases l0 <;> rfl) rfl
theorem f142_152 : zz_fetch zz_prog 142 152 = some (.goto (-19), 3, [133], []) := zz_fetch_of p142 rfl rfl
theorem s142_152 : zz_Run zz_prog d 142 (152, [l0, l1], st, k, h) = zz_Run zz_prog d 142 (133, [l0, l1], st, k, h) := zz_k_num f142_152 rfl
theorem f142_155 : zz_fetch zz_prog 142 155 = some (.aload_n 0, 1, [], []) := zz_fetch_of p142 rfl rfl
theorem s142_155 : zz_Run zz_prog d 142 (155, [some (.ref a), l1], st, k, h) = zz_Run zz_prog d 142 (156, [some (.ref a), l1], .ref a :: st, k, h) := zz_k_num f142_155 rfl
theorem f142_156 : zz_fetch zz_prog 142 156 = some (.invokevirtual 175, 3, [0, 116, 1, 2], []) := zz_fetch_of p142 rfl rfl
theorem s142_156 : zz_Run zz_prog d 142 (156, [l0, l1], [.ref 23], k, (zz_hp n I J ex)) = zz_ret (zz_Call zz_prog d 116 [.ref 23] (zz_hp n I J ex)) (fun v k' h' => zz_Run zz_prog d 142 (159, [l0, l1], v.toList ++ [], k && k', h')) (fun a k' h' => zz_th d 142 156 a [l0, l1] (k && k') h') := zz_k_call f142_156 rfl rfl rfl
theorem f142_159 : zz_fetch zz_prog 142 159 = some (.aload_n 0, 1, [], []) := zz_fetch_of p142 rfl rfl
theorem s142_159 : zz_Run zz_prog d 142 (159, [some (.ref a), l1], st, k, h) = zz_Run zz_prog d 142 (160, [some (.ref a), l1], .ref a :: st, k, h) := zz_k_num f142_159 rfl
theorem f142_160 : zz_fetch zz_prog 142 160 = some (.getfield 7, 3, [2, 1, 3], []) := zz_fetch_of p142 rfl rfl
theorem s142_160 : zz_Run zz_prog d 142 (160, [l0, l1], .ref 23 :: st, k, (zz_hp n I J ex)) = zz_Run zz_prog d 142 (163, [l0, l1], .ref 24 :: st, k, (zz_hp n I J ex)) := zz_k_go f142_160 rfl rfl rfl
theorem f142_163 : zz_fetch zz_prog 142 163 = some (.sipush 181, 3, [], []) := zz_fetch_of p142 rfl rfl
theorem s142_163 : zz_Run zz_prog d 142 (163, [l0, l1], st, k, h) = zz_Run zz_prog d 142 (166, [l0, l1], .int 181 :: st, k, h) := zz_k_num f142_163 (congrArg (fun u => some (166, [l0, l1], Value.int u :: st)) (by decide : (Int16.ofInt 181).toInt32 = 181))
theorem f142_166 : zz_fetch zz_prog 142 166 = some (.iaload, 1, [], []) := zz_fetch_of p142 rfl rfl
theorem s142_166 (ha : zz_isrd a = true) : zz_Run zz_prog d 142 (166, [l0, l1], .int v :: .ref a :: st, k, (zz_hp n I J ex)) = zz_ck (zz_in v (zz_ary n a)) (zz_Run zz_prog d 142 (167, [l0, l1], .int (I a v.toNatClampNeg) :: st, k, (zz_hp n I J ex))) := zz_k_iald f142_166 ha
theorem f142_167 : zz_fetch zz_prog 142 167 = some (.ireturn, 1, [0], []) := zz_fetch_of p142 rfl rfl
theorem s142_167 : zz_Run zz_prog d 142 (167, [l0, l1], [.int v], k, h) = some (.inl (some (.int v)), k, h) := zz_k_stop f142_167 rfl rfl rfl
end S142
section S143
variable {d n j : Nat} {l0 l1 : Option Value} {st : List Value} {k : Bool} {h : zz_H} {v w v1 v2 : Int32} {y y1 : Int64} {a a1 a2 : Nat} {b0 b1 b2 b3 b4 b5 b6 b7 b8 : Value} {I : Nat → Nat → Int32} {J : Nat → Nat → Int64} {ex : List (Nat × Nat)}
theorem p143 : zz_prog 143 = some zz_m143 := rfl
theorem e143 (g0 : Nat) : zz_Call zz_prog (d + 1) 143 [.ref g0] h = zz_Run zz_prog d 143 (0, [some (.ref g0), none], [], true, h) := rfl
theorem t143 (pc : Nat) (L : List (Option Value)) : zz_th d 143 pc a L k h = some (.inr a, k, h) := zz_th_out p143 rfl
theorem f143_0 : zz_fetch zz_prog 143 0 = some (.aload_n 0, 1, [], []) := zz_fetch_of p143 rfl rfl
theorem s143_0 : zz_Run zz_prog d 143 (0, [some (.ref a), l1], st, k, h) = zz_Run zz_prog d 143 (1, [some (.ref a), l1], .ref a :: st, k, h) := zz_k_num f143_0 rfl
theorem f143_1 : zz_fetch zz_prog 143 1 = some (.aload_n 0, 1, [], []) := zz_fetch_of p143 rfl rfl
theorem s143_1 : zz_Run zz_prog d 143 (1, [some (.ref a), l1], st, k, h) = zz_Run zz_prog d 143 (2, [some (.ref a), l1], .ref a :: st, k, h) := zz_k_num f143_1 rfl
theorem f143_2 : zz_fetch zz_prog 143 2 = some (.getfield 145, 3, [2, 3, 1], []) := zz_fetch_of p143 rfl rfl
theorem s143_2 : zz_Run zz_prog d 143 (2, [l0, l1], .ref 23 :: st, k, (zz_hp n I J ex)) = zz_Run zz_prog d 143 (5, [l0, l1], .int (I 23 3) :: st, k, (zz_hp n I J ex)) := zz_k_go f143_2 rfl rfl rfl
theorem f143_5 : zz_fetch zz_prog 143 5 = some (.ifCond .ne 7, 3, [12], []) := zz_fetch_of p143 rfl rfl
theorem s143_5 : zz_Run zz_prog d 143 (5, [l0, l1], .int v :: st, k, h) = if ¬ v = 0 then zz_Run zz_prog d 143 (12, [l0, l1], st, k, h) else zz_Run zz_prog d 143 (8, [l0, l1], st, k, h) := zz_k_br (¬ v = 0) rfl (zz_k_num f143_5 rfl)
theorem f143_8 : zz_fetch zz_prog 143 8 = some (.iconst 1, 1, [], []) := zz_fetch_of p143 rfl rfl
theorem s143_8 : zz_Run zz_prog d 143 (8, [l0, l1], st, k, h) = zz_Run zz_prog d 143 (9, [l0, l1], .int 1 :: st, k, h) := zz_k_num f143_8 rfl
theorem f143_9 : zz_fetch zz_prog 143 9 = some (.goto 4, 3, [13], []) := zz_fetch_of p143 rfl rfl
theorem s143_9 : zz_Run zz_prog d 143 (9, [l0, l1], st, k, h) = zz_Run zz_prog d 143 (13, [l0, l1], st, k, h) := zz_k_num f143_9 rfl
theorem f143_12 : zz_fetch zz_prog 143 12 = some (.iconst 0, 1, [], []) := zz_fetch_of p143 rfl rfl
theorem s143_12 : zz_Run zz_prog d 143 (12, [l0, l1], st, k, h) = zz_Run zz_prog d 143 (13, [l0, l1], .int 0 :: st, k, h) := zz_k_num f143_12 rfl
theorem f143_13 : zz_fetch zz_prog 143 13 = some (.iconst 0, 1, [], []) := zz_fetch_of p143 rfl rfl
theorem s143_13 : zz_Run zz_prog d 143 (13, [l0, l1], st, k, h) = zz_Run zz_prog d 143 (14, [l0, l1], .int 0 :: st, k, h) := zz_k_num f143_13 rfl
theorem f143_14 : zz_fetch zz_prog 143 14 = some (.iconst 0, 1, [], []) := zz_fetch_of p143 rfl rfl
theorem s143_14 : zz_Run zz_prog d 143 (14, [l0, l1], st, k, h) = zz_Run zz_prog d 143 (15, [l0, l1], .int 0 :: st, k, h) := zz_k_num f143_14 rfl
theorem f143_15 : zz_fetch zz_prog 143 15 = some (.invokevirtual 89, 3, [0, 95, 4, 2], []) := zz_fetch_of p143 rfl rfl
theorem s143_15 : zz_Run zz_prog d 143 (15, [l0, l1], [b0, b1, b2, .ref 23], k, (zz_hp n I J ex)) = zz_ret (zz_Call zz_prog d 95 [.ref 23, b2, b1, b0] (zz_hp n I J ex)) (fun v k' h' => zz_Run zz_prog d 143 (18, [l0, l1], v.toList ++ [], k && k', h')) (fun a k' h' => zz_th d 143 15 a [l0, l1] (k && k') h') := zz_k_call f143_15 rfl rfl rfl
theorem f143_18 : zz_fetch zz_prog 143 18 = some (.ifCond .eq 5, 3, [23], []) := zz_fetch_of p143 rfl rfl
theorem s143_18 : zz_Run zz_prog d 143 (18, [l0, l1], .int v :: st, k, h) = if v = 0 then zz_Run zz_prog d 143 (23, [l0, l1], st, k, h) else zz_Run zz_prog d 143 (21, [l0, l1], st, k, h) := zz_k_br (v = 0) rfl (zz_k_num f143_18 rfl)
theorem f143_21 : zz_fetch zz_prog 143 21 = some (.iconst 0, 1, [], []) := zz_fetch_of p143 rfl rfl
theorem s143_21 : zz_Run zz_prog d 143 (21, [l0, l1], st, k, h) = zz_Run zz_prog d 143 (22, [l0, l1], .int 0 :: st, k, h) := zz_k_num f143_21 rfl
theorem f143_22 : zz_fetch zz_prog 143 22 = some (.ireturn, 1, [0], []) := zz_fetch_of p143 rfl rfl
theorem s143_22 : zz_Run zz_prog d 143 (22, [l0, l1], [.int v], k, h) = some (.inl (some (.int v)), k, h) := zz_k_stop f143_22 rfl rfl rfl
theorem f143_23 : zz_fetch zz_prog 143 23 = some (.iconst 0, 1, [], []) := zz_fetch_of p143 rfl rfl
theorem s143_23 : zz_Run zz_prog d 143 (23, [l0, l1], st, k, h) = zz_Run zz_prog d 143 (24, [l0, l1], .int 0 :: st, k, h) := zz_k_num f143_23 rfl
theorem f143_24 : zz_fetch zz_prog 143 24 = some (.istore_n 1, 1, [], []) := zz_fetch_of p143 rfl rfl
theorem s143_24 : zz_Run zz_prog d 143 (24, [l0, l1], .int v :: st, k, h) = zz_sl l0 (zz_Run zz_prog d 143 (25, [l0, some (.int v)], st, k, h)) := zz_k_st (j := 1) (u := .int v) f143_24 rfl (fun q hq => by cases hq) rfl (show 1 < 2 by decide) (by cases l0 <;> rfl) rfl
theorem f143_25 : zz_fetch zz_prog 143 25 = some (.iload_n 1, 1, [], []) := zz_fetch_of p143 rfl rfl
theorem s143_25 : zz_Run zz_prog d 143 (25, [l0, some (.int v)], st, k, h) = zz_Run zz_prog d 143 (26, [l0, some (.int v)], .int v :: st, k, h) := zz_k_num f143_25 rfl
theorem f143_26 : zz_fetch zz_prog 143 26 = some (.sipush 193, 3, [], []) := zz_fetch_of p143 rfl rfl
theorem s143_26 : zz_Run zz_prog d 143 (26, [l0, l1], st, k, h) = zz_Run zz_prog d 143 (29, [l0, l1], .int 193 :: st, k, h) := zz_k_num f143_26 (congrArg (fun u => some (29, [l0, l1], Value.int u :: st)) (by decide : (Int16.ofInt 193).toInt32 = 193))
theorem f143_29 : zz_fetch zz_prog 143 29 = some (.if_icmp .ge 21, 3, [50], []) := zz_fetch_of p143 rfl rfl
theorem s143_29 : zz_Run zz_prog d 143 (29, [l0, l1], .int w :: .int v :: st, k, h) = if w ≤ v then zz_Run zz_prog d 143 (50, [l0, l1], st, k, h) else zz_Run zz_prog d 143 (32, [l0, l1], st, k, h) := zz_k_br (w ≤ v) rfl (zz_k_num f143_29 rfl)
theorem f143_32 : zz_fetch zz_prog 143 32 = some (.aload_n 0, 1, [], []) := zz_fetch_of p143 rfl rfl
theorem s143_32 : zz_Run zz_prog d 143 (32, [some (.ref a), l1], st, k, h) = zz_Run zz_prog d 143 (33, [some (.ref a), l1], .ref a :: st, k, h) := zz_k_num f143_32 rfl
theorem f143_33 : zz_fetch zz_prog 143 33 = some (.getfield 7, 3, [2, 1, 3], []) := zz_fetch_of p143 rfl rfl
theorem s143_33 : zz_Run zz_prog d 143 (33, [l0, l1], .ref 23 :: st, k, (zz_hp n I J ex)) = zz_Run zz_prog d 143 (36, [l0, l1], .ref 24 :: st, k, (zz_hp n I J ex)) := zz_k_go f143_33 rfl rfl rfl
theorem f143_36 : zz_fetch zz_prog 143 36 = some (.iload_n 1, 1, [], []) := zz_fetch_of p143 rfl rfl
theorem s143_36 : zz_Run zz_prog d 143 (36, [l0, some (.int v)], st, k, h) = zz_Run zz_prog d 143 (37, [l0, some (.int v)], .int v :: st, k, h) := zz_k_num f143_36 rfl
theorem f143_37 : zz_fetch zz_prog 143 37 = some (.aload_n 0, 1, [], []) := zz_fetch_of p143 rfl rfl
theorem s143_37 : zz_Run zz_prog d 143 (37, [some (.ref a), l1], st, k, h) = zz_Run zz_prog d 143 (38, [some (.ref a), l1], .ref a :: st, k, h) := zz_k_num f143_37 rfl
theorem f143_38 : zz_fetch zz_prog 143 38 = some (.getfield 13, 3, [2, 2, 3], []) := zz_fetch_of p143 rfl rfl
theorem s143_38 : zz_Run zz_prog d 143 (38, [l0, l1], .ref 23 :: st, k, (zz_hp n I J ex)) = zz_Run zz_prog d 143 (41, [l0, l1], .ref 25 :: st, k, (zz_hp n I J ex)) := zz_k_go f143_38 rfl rfl rfl
theorem f143_41 : zz_fetch zz_prog 143 41 = some (.iload_n 1, 1, [], []) := zz_fetch_of p143 rfl rfl
theorem s143_41 : zz_Run zz_prog d 143 (41, [l0, some (.int v)], st, k, h) = zz_Run zz_prog d 143 (42, [l0, some (.int v)], .int v :: st, k, h) := zz_k_num f143_41 rfl
theorem f143_42 : zz_fetch zz_prog 143 42 = some (.iaload, 1, [], []) := zz_fetch_of p143 rfl rfl
theorem s143_42 (ha : zz_isrd a = true) : zz_Run zz_prog d 143 (42, [l0, l1], .int v :: .ref a :: st, k, (zz_hp n I J ex)) = zz_ck (zz_in v (zz_ary n a)) (zz_Run zz_prog d 143 (43, [l0, l1], .int (I a v.toNatClampNeg) :: st, k, (zz_hp n I J ex))) := zz_k_iald f143_42 ha
theorem f143_43 : zz_fetch zz_prog 143 43 = some (.iastore, 1, [], []) := zz_fetch_of p143 rfl rfl
theorem s143_43 (ha : zz_isar a = true) : zz_Run zz_prog d 143 (43, [l0, l1], .int w :: .int v :: .ref a :: st, k, (zz_hp n I J ex)) = zz_ck (zz_in v (zz_ary n a)) (zz_Run zz_prog d 143 (44, [l0, l1], st, false, (zz_hp n (zz_up I a v.toNatClampNeg w) J ex))) := zz_k_iast f143_43 ha
theorem f143_44 : zz_fetch zz_prog 143 44 = some (.iinc 1 1, 3, [], []) := zz_fetch_of p143 rfl rfl
theorem s143_44 : zz_Run zz_prog d 143 (44, [l0, some (.int v)], st, k, h) = zz_sl l0 (zz_Run zz_prog d 143 (47, [l0, some (.int (v + 1))], st, k, h)) := zz_k_st (j := 1) (u := .int (v + 1)) f143_44 rfl (fun q hq => by cases hq) rfl (show 1 < 2 by decide) (by cases l0 <;> rfl) rfl
theorem f143_47 : zz_fetch zz_prog 143 47 = some (.goto (-22), 3, [25], []) := zz_fetch_of p143 rfl rfl
theorem s143_47 : zz_Run zz_prog d 143 (47, [l0, l1], st, k, h) = zz_Run zz_prog d 143 (25, [l0, l1], st, k, h) := zz_k_num f143_47 rfl
theorem f143_50 : zz_fetch zz_prog 143 50 = some (.aload_n 0, 1, [], []) := zz_fetch_of p143 rfl rfl
theorem s143_50 : zz_Run zz_prog d 143 (50, [some (.ref a), l1], st, k, h) = zz_Run zz_prog d 143 (51, [some (.ref a), l1], .ref a :: st, k, h) := zz_k_num f143_50 rfl
theorem f143_51 : zz_fetch zz_prog 143 51 = some (.iconst 0, 1, [], []) := zz_fetch_of p143 rfl rfl
theorem s143_51 : zz_Run zz_prog d 143 (51, [l0, l1], st, k, h) = zz_Run zz_prog d 143 (52, [l0, l1], .int 0 :: st, k, h) := zz_k_num f143_51 rfl
theorem f143_52 : zz_fetch zz_prog 143 52 = some (.putfield 145, 3, [2, 3, 1], []) := zz_fetch_of p143 rfl rfl
theorem s143_52 : zz_Run zz_prog d 143 (52, [l0, l1], .int v :: .ref 23 :: st, k, (zz_hp n I J ex)) = zz_ck (decide (v = 0 ∨ v = 1)) (zz_Run zz_prog d 143 (55, [l0, l1], st, false, (zz_hp n (zz_up I 23 3 v) J ex))) := zz_k_putz f143_52 rfl
theorem f143_55 : zz_fetch zz_prog 143 55 = some (.aload_n 0, 1, [], []) := zz_fetch_of p143 rfl rfl
theorem s143_55 : zz_Run zz_prog d 143 (55, [some (.ref a), l1], st, k, h) = zz_Run zz_prog d 143 (56, [some (.ref a), l1], .ref a :: st, k, h) := zz_k_num f143_55 rfl
theorem f143_56 : zz_fetch zz_prog 143 56 = some (.getfield 7, 3, [2, 1, 3], []) := zz_fetch_of p143 rfl rfl
theorem s143_56 : zz_Run zz_prog d 143 (56, [l0, l1], .ref 23 :: st, k, (zz_hp n I J ex)) = zz_Run zz_prog d 143 (59, [l0, l1], .ref 24 :: st, k, (zz_hp n I J ex)) := zz_k_go f143_56 rfl rfl rfl
theorem f143_59 : zz_fetch zz_prog 143 59 = some (.sipush 180, 3, [], []) := zz_fetch_of p143 rfl rfl
theorem s143_59 : zz_Run zz_prog d 143 (59, [l0, l1], st, k, h) = zz_Run zz_prog d 143 (62, [l0, l1], .int 180 :: st, k, h) := zz_k_num f143_59 (congrArg (fun u => some (62, [l0, l1], Value.int u :: st)) (by decide : (Int16.ofInt 180).toInt32 = 180))
theorem f143_62 : zz_fetch zz_prog 143 62 = some (.iaload, 1, [], []) := zz_fetch_of p143 rfl rfl
theorem s143_62 (ha : zz_isrd a = true) : zz_Run zz_prog d 143 (62, [l0, l1], .int v :: .ref a :: st, k, (zz_hp n I J ex)) = zz_ck (zz_in v (zz_ary n a)) (zz_Run zz_prog d 143 (63, [l0, l1], .int (I a v.toNatClampNeg) :: st, k, (zz_hp n I J ex))) := zz_k_iald f143_62 ha
theorem f143_63 : zz_fetch zz_prog 143 63 = some (.ireturn, 1, [0], []) := zz_fetch_of p143 rfl rfl
theorem s143_63 : zz_Run zz_prog d 143 (63, [l0, l1], [.int v], k, h) = some (.inl (some (.int v)), k, h) := zz_k_stop f143_63 rfl rfl rfl
end S143
