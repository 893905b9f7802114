section S144
variable {d n j : Nat} {l0 : Option Value} {st : List Value} {k : Bool} {h : zz_H} {v w v1 v2 : Int32} {y y1 : Int64} {a a1 a2 : Nat} {b0 b1 b2 b3 b4 b5 b6 b7 b8 : Value} {I : Nat → Nat → Int32} {J : Nat → Nat → Int64} {ex : List (Nat × Nat)}
theorem p144 : zz_prog 144 = some zz_m144 := rfl
theorem e144 (g0 : Nat) : zz_Call zz_prog (d + 1) 144 [.ref g0] h = zz_Run zz_prog d 144 (0, [some (.ref g0)], [], true, h) := rfl
theorem t144 (pc : Nat) (L : List (Option Value)) : zz_th d 144 pc a L k h = some (.inr a, k, h) := zz_th_out p144 rfl
theorem f144_0 : zz_fetch zz_prog 144 0 = some (.aload_n 0, 1, [], []) := zz_fetch_of p144 rfl rfl
theorem s144_0 : zz_Run zz_prog d 144 (0, [some (.ref a)], st, k, h) = zz_Run zz_prog d 144 (1, [some (.ref a)], .ref a :: st, k, h) := zz_k_num f144_0 rfl
theorem f144_1 : zz_fetch zz_prog 144 1 = some (.iconst 0, 1, [], []) := zz_fetch_of p144 rfl rfl
theorem s144_1 : zz_Run zz_prog d 144 (1, [l0], st, k, h) = zz_Run zz_prog d 144 (2, [l0], .int 0 :: st, k, h) := zz_k_num f144_1 rfl
theorem f144_2 : zz_fetch zz_prog 144 2 = some (.putfield 78, 3, [2, 0, 0], []) := zz_fetch_of p144 rfl rfl
theorem s144_2 : zz_Run zz_prog d 144 (2, [l0], .int v :: .ref 23 :: st, k, (zz_hp n I J ex)) = zz_Run zz_prog d 144 (5, [l0], st, false, (zz_hp n (zz_up I 23 0 v) J ex)) := zz_k_go f144_2 rfl rfl rfl
theorem f144_5 : zz_fetch zz_prog 144 5 = some (.aload_n 0, 1, [], []) := zz_fetch_of p144 rfl rfl
theorem s144_5 : zz_Run zz_prog d 144 (5, [some (.ref a)], st, k, h) = zz_Run zz_prog d 144 (6, [some (.ref a)], .ref a :: st, k, h) := zz_k_num f144_5 rfl
theorem f144_6 : zz_fetch zz_prog 144 6 = some (.getfield 7, 3, [2, 1, 3], []) := zz_fetch_of p144 rfl rfl
theorem s144_6 : zz_Run zz_prog d 144 (6, [l0], .ref 23 :: st, k, (zz_hp n I J ex)) = zz_Run zz_prog d 144 (9, [l0], .ref 24 :: st, k, (zz_hp n I J ex)) := zz_k_go f144_6 rfl rfl rfl
theorem f144_9 : zz_fetch zz_prog 144 9 = some (.sipush 180, 3, [], []) := zz_fetch_of p144 rfl rfl
theorem s144_9 : zz_Run zz_prog d 144 (9, [l0], st, k, h) = zz_Run zz_prog d 144 (12, [l0], .int 180 :: st, k, h) := zz_k_num f144_9 (congrArg (fun u => some (12, [l0], Value.int u :: st)) (by decide : (Int16.ofInt 180).toInt32 = 180))
theorem f144_12 : zz_fetch zz_prog 144 12 = some (.iaload, 1, [], []) := zz_fetch_of p144 rfl rfl
theorem s144_12 (ha : zz_isrd a = true) : zz_Run zz_prog d 144 (12, [l0], .int v :: .ref a :: st, k, (zz_hp n I J ex)) = zz_ck (zz_in v (zz_ary n a)) (zz_Run zz_prog d 144 (13, [l0], .int (I a v.toNatClampNeg) :: st, k, (zz_hp n I J ex))) := zz_k_iald f144_12 ha
theorem f144_13 : zz_fetch zz_prog 144 13 = some (.ireturn, 1, [0], []) := zz_fetch_of p144 rfl rfl
theorem s144_13 : zz_Run zz_prog d 144 (13, [l0], [.int v], k, h) = some (.inl (some (.int v)), k, h) := zz_k_stop f144_13 rfl rfl rfl
end S144
section S145
variable {d n j : Nat} {l0 : Option Value} {st : List Value} {k : Bool} {h : zz_H} {v w v1 v2 : Int32} {y y1 : Int64} {a a1 a2 : Nat} {b0 b1 b2 b3 b4 b5 b6 b7 b8 : Value} {I : Nat → Nat → Int32} {J : Nat → Nat → Int64} {ex : List (Nat × Nat)}
theorem p145 : zz_prog 145 = some zz_m145 := rfl
theorem e145 (g0 : Nat) : zz_Call zz_prog (d + 1) 145 [.ref g0] h = zz_Run zz_prog d 145 (0, [some (.ref g0)], [], true, h) := rfl
theorem t145 (pc : Nat) (L : List (Option Value)) : zz_th d 145 pc a L k h = some (.inr a, k, h) := zz_th_out p145 rfl
theorem f145_0 : zz_fetch zz_prog 145 0 = some (.aload_n 0, 1, [], []) := zz_fetch_of p145 rfl rfl
theorem s145_0 : zz_Run zz_prog d 145 (0, [some (.ref a)], st, k, h) = zz_Run zz_prog d 145 (1, [some (.ref a)], .ref a :: st, k, h) := zz_k_num f145_0 rfl
theorem f145_1 : zz_fetch zz_prog 145 1 = some (.iconst 0, 1, [], []) := zz_fetch_of p145 rfl rfl
theorem s145_1 : zz_Run zz_prog d 145 (1, [l0], st, k, h) = zz_Run zz_prog d 145 (2, [l0], .int 0 :: st, k, h) := zz_k_num f145_1 rfl
theorem f145_2 : zz_fetch zz_prog 145 2 = some (.putfield 78, 3, [2, 0, 0], []) := zz_fetch_of p145 rfl rfl
theorem s145_2 : zz_Run zz_prog d 145 (2, [l0], .int v :: .ref 23 :: st, k, (zz_hp n I J ex)) = zz_Run zz_prog d 145 (5, [l0], st, false, (zz_hp n (zz_up I 23 0 v) J ex)) := zz_k_go f145_2 rfl rfl rfl
theorem f145_5 : zz_fetch zz_prog 145 5 = some (.aload_n 0, 1, [], []) := zz_fetch_of p145 rfl rfl
theorem s145_5 : zz_Run zz_prog d 145 (5, [some (.ref a)], st, k, h) = zz_Run zz_prog d 145 (6, [some (.ref a)], .ref a :: st, k, h) := zz_k_num f145_5 rfl
theorem f145_6 : zz_fetch zz_prog 145 6 = some (.getfield 7, 3, [2, 1, 3], []) := zz_fetch_of p145 rfl rfl
theorem s145_6 : zz_Run zz_prog d 145 (6, [l0], .ref 23 :: st, k, (zz_hp n I J ex)) = zz_Run zz_prog d 145 (9, [l0], .ref 24 :: st, k, (zz_hp n I J ex)) := zz_k_go f145_6 rfl rfl rfl
theorem f145_9 : zz_fetch zz_prog 145 9 = some (.sipush 181, 3, [], []) := zz_fetch_of p145 rfl rfl
theorem s145_9 : zz_Run zz_prog d 145 (9, [l0], st, k, h) = zz_Run zz_prog d 145 (12, [l0], .int 181 :: st, k, h) := zz_k_num f145_9 (congrArg (fun u => some (12, [l0], Value.int u :: st)) (by decide : (Int16.ofInt 181).toInt32 = 181))
theorem f145_12 : zz_fetch zz_prog 145 12 = some (.iaload, 1, [], []) := zz_fetch_of p145 rfl rfl
theorem s145_12 (ha : zz_isrd a = true) : zz_Run zz_prog d 145 (12, [l0], .int v :: .ref a :: st, k, (zz_hp n I J ex)) = zz_ck (zz_in v (zz_ary n a)) (zz_Run zz_prog d 145 (13, [l0], .int (I a v.toNatClampNeg) :: st, k, (zz_hp n I J ex))) := zz_k_iald f145_12 ha
theorem f145_13 : zz_fetch zz_prog 145 13 = some (.ireturn, 1, [0], []) := zz_fetch_of p145 rfl rfl
theorem s145_13 : zz_Run zz_prog d 145 (13, [l0], [.int v], k, h) = some (.inl (some (.int v)), k, h) := zz_k_stop f145_13 rfl rfl rfl
end S145
section S146
variable {d n j : Nat} {l0 : Option Value} {st : List Value} {k : Bool} {h : zz_H} {v w v1 v2 : Int32} {y y1 : Int64} {a a1 a2 : Nat} {b0 b1 b2 b3 b4 b5 b6 b7 b8 : Value} {I : Nat → Nat → Int32} {J : Nat → Nat → Int64} {ex : List (Nat × Nat)}
theorem p146 : zz_prog 146 = some zz_m146 := rfl
theorem e146 (g0 : Nat) : zz_Call zz_prog (d + 1) 146 [.ref g0] h = zz_Run zz_prog d 146 (0, [some (.ref g0)], [], true, h) := rfl
theorem t146 (pc : Nat) (L : List (Option Value)) : zz_th d 146 pc a L k h = some (.inr a, k, h) := zz_th_out p146 rfl
theorem f146_0 : zz_fetch zz_prog 146 0 = some (.aload_n 0, 1, [], []) := zz_fetch_of p146 rfl rfl
theorem s146_0 : zz_Run zz_prog d 146 (0, [some (.ref a)], st, k, h) = zz_Run zz_prog d 146 (1, [some (.ref a)], .ref a :: st, k, h) := zz_k_num f146_0 rfl
theorem f146_1 : zz_fetch zz_prog 146 1 = some (.iconst 0, 1, [], []) := zz_fetch_of p146 rfl rfl
theorem s146_1 : zz_Run zz_prog d 146 (1, [l0], st, k, h) = zz_Run zz_prog d 146 (2, [l0], .int 0 :: st, k, h) := zz_k_num f146_1 rfl
theorem f146_2 : zz_fetch zz_prog 146 2 = some (.putfield 78, 3, [2, 0, 0], []) := zz_fetch_of p146 rfl rfl
theorem s146_2 : zz_Run zz_prog d 146 (2, [l0], .int v :: .ref 23 :: st, k, (zz_hp n I J ex)) = zz_Run zz_prog d 146 (5, [l0], st, false, (zz_hp n (zz_up I 23 0 v) J ex)) := zz_k_go f146_2 rfl rfl rfl
theorem f146_5 : zz_fetch zz_prog 146 5 = some (.aload_n 0, 1, [], []) := zz_fetch_of p146 rfl rfl
theorem s146_5 : zz_Run zz_prog d 146 (5, [some (.ref a)], st, k, h) = zz_Run zz_prog d 146 (6, [some (.ref a)], .ref a :: st, k, h) := zz_k_num f146_5 rfl
theorem f146_6 : zz_fetch zz_prog 146 6 = some (.getfield 7, 3, [2, 1, 3], []) := zz_fetch_of p146 rfl rfl
theorem s146_6 : zz_Run zz_prog d 146 (6, [l0], .ref 23 :: st, k, (zz_hp n I J ex)) = zz_Run zz_prog d 146 (9, [l0], .ref 24 :: st, k, (zz_hp n I J ex)) := zz_k_go f146_6 rfl rfl rfl
theorem f146_9 : zz_fetch zz_prog 146 9 = some (.sipush 190, 3, [], []) := zz_fetch_of p146 rfl rfl
theorem s146_9 : zz_Run zz_prog d 146 (9, [l0], st, k, h) = zz_Run zz_prog d 146 (12, [l0], .int 190 :: st, k, h) := zz_k_num f146_9 (congrArg (fun u => some (12, [l0], Value.int u :: st)) (by decide : (Int16.ofInt 190).toInt32 = 190))
theorem f146_12 : zz_fetch zz_prog 146 12 = some (.iaload, 1, [], []) := zz_fetch_of p146 rfl rfl
theorem s146_12 (ha : zz_isrd a = true) : zz_Run zz_prog d 146 (12, [l0], .int v :: .ref a :: st, k, (zz_hp n I J ex)) = zz_ck (zz_in v (zz_ary n a)) (zz_Run zz_prog d 146 (13, [l0], .int (I a v.toNatClampNeg) :: st, k, (zz_hp n I J ex))) := zz_k_iald f146_12 ha
theorem f146_13 : zz_fetch zz_prog 146 13 = some (.ireturn, 1, [0], []) := zz_fetch_of p146 rfl rfl
theorem s146_13 : zz_Run zz_prog d 146 (13, [l0], [.int v], k, h) = some (.inl (some (.int v)), k, h) := zz_k_stop f146_13 rfl rfl rfl
end S146
section S147
variable {d n j : Nat} {l0 l1 l2 : Option Value} {st : List Value} {k : Bool} {h : zz_H} {v w v1 v2 : Int32} {y y1 : Int64} {a a1 a2 : Nat} {b0 b1 b2 b3 b4 b5 b6 b7 b8 : Value} {I : Nat → Nat → Int32} {J : Nat → Nat → Int64} {ex : List (Nat × Nat)}
theorem p147 : zz_prog 147 = some zz_m147 := rfl
theorem e147 (g0 : Nat) (g1 : Int32) (g2 : Int32) : zz_Call zz_prog (d + 1) 147 [.ref g0, .int g1, .int g2] h = zz_Run zz_prog d 147 (0, [some (.ref g0), some (.int g1), some (.int g2)], [], true, h) := rfl
theorem t147 (pc : Nat) (L : List (Option Value)) : zz_th d 147 pc a L k h = some (.inr a, k, h) := zz_th_out p147 rfl
theorem f147_0 : zz_fetch zz_prog 147 0 = some (.aload_n 0, 1, [], []) := zz_fetch_of p147 rfl rfl
theorem s147_0 : zz_Run zz_prog d 147 (0, [some (.ref a), l1, l2], st, k, h) = zz_Run zz_prog d 147 (1, [some (.ref a), l1, l2], .ref a :: st, k, h) := zz_k_num f147_0 rfl
theorem f147_1 : zz_fetch zz_prog 147 1 = some (.iload_n 1, 1, [], []) := zz_fetch_of p147 rfl rfl
theorem s147_1 : zz_Run zz_prog d 147 (1, [l0, some (.int v), l2], st, k, h) = zz_Run zz_prog d 147 (2, [l0, some (.int v), l2], .int v :: st, k, h) := zz_k_num f147_1 rfl
theorem f147_2 : zz_fetch zz_prog 147 2 = some (.iconst (-1), 1, [], []) := zz_fetch_of p147 rfl rfl
theorem s147_2 : zz_Run zz_prog d 147 (2, [l0, l1, l2], st, k, h) = zz_Run zz_prog d 147 (3, [l0, l1, l2], .int (-1) :: st, k, h) := zz_k_num f147_2 rfl
theorem f147_3 : zz_fetch zz_prog 147 3 = some (.if_icmp .eq 11, 3, [14], []) := zz_fetch_of p147 rfl rfl
theorem s147_3 : zz_Run zz_prog d 147 (3, [l0, l1, l2], .int w :: .int v :: st, k, h) = if v = w then zz_Run zz_prog d 147 (14, [l0, l1, l2], st, k, h) else zz_Run zz_prog d 147 (6, [l0, l1, l2], st, k, h) := zz_k_br (v = w) rfl (zz_k_num f147_3 rfl)
theorem f147_6 : zz_fetch zz_prog 147 6 = some (.aload_n 0, 1, [], []) := zz_fetch_of p147 rfl rfl
theorem s147_6 : zz_Run zz_prog d 147 (6, [some (.ref a), l1, l2], st, k, h) = zz_Run zz_prog d 147 (7, [some (.ref a), l1, l2], .ref a :: st, k, h) := zz_k_num f147_6 rfl
theorem f147_7 : zz_fetch zz_prog 147 7 = some (.iload_n 1, 1, [], []) := zz_fetch_of p147 rfl rfl
theorem s147_7 : zz_Run zz_prog d 147 (7, [l0, some (.int v), l2], st, k, h) = zz_Run zz_prog d 147 (8, [l0, some (.int v), l2], .int v :: st, k, h) := zz_k_num f147_7 rfl
theorem f147_8 : zz_fetch zz_prog 147 8 = some (.invokevirtual 191, 3, [0, 127, 2, 2], []) := zz_fetch_of p147 rfl rfl
theorem s147_8 : zz_Run zz_prog d 147 (8, [l0, l1, l2], [b0, .ref 23, b2], k, (zz_hp n I J ex)) = zz_ret (zz_Call zz_prog d 127 [.ref 23, b0] (zz_hp n I J ex)) (fun v k' h' => zz_Run zz_prog d 147 (11, [l0, l1, l2], v.toList ++ [b2], k && k', h')) (fun a k' h' => zz_th d 147 8 a [l0, l1, l2] (k && k') h') := zz_k_call f147_8 rfl rfl rfl
theorem f147_11 : zz_fetch zz_prog 147 11 = some (.ifCond .eq 10, 3, [21], []) := zz_fetch_of p147 rfl rfl
theorem s147_11 : zz_Run zz_prog d 147 (11, [l0, l1, l2], .int v :: st, k, h) = if v = 0 then zz_Run zz_prog d 147 (21, [l0, l1, l2], st, k, h) else zz_Run zz_prog d 147 (14, [l0, l1, l2], st, k, h) := zz_k_br (v = 0) rfl (zz_k_num f147_11 rfl)
theorem f147_14 : zz_fetch zz_prog 147 14 = some (.iload_n 2, 1, [], []) := zz_fetch_of p147 rfl rfl
theorem s147_14 : zz_Run zz_prog d 147 (14, [l0, l1, some (.int v)], st, k, h) = zz_Run zz_prog d 147 (15, [l0, l1, some (.int v)], .int v :: st, k, h) := zz_k_num f147_14 rfl
theorem f147_15 : zz_fetch zz_prog 147 15 = some (.invokestatic 194, 3, [0, 128, 1], []) := zz_fetch_of p147 rfl rfl
theorem s147_15 : zz_Run zz_prog d 147 (15, [l0, l1, l2], [b0, b1], k, h) = zz_ret (zz_Call zz_prog d 128 [b0] h) (fun v k' h' => zz_Run zz_prog d 147 (18, [l0, l1, l2], v.toList ++ [b1], k && k', h')) (fun a k' h' => zz_th d 147 15 a [l0, l1, l2] (k && k') h') := zz_k_call f147_15 rfl rfl rfl
theorem f147_18 : zz_fetch zz_prog 147 18 = some (.ifCond .ne 7, 3, [25], []) := zz_fetch_of p147 rfl rfl
theorem s147_18 : zz_Run zz_prog d 147 (18, [l0, l1, l2], .int v :: st, k, h) = if ¬ v = 0 then zz_Run zz_prog d 147 (25, [l0, l1, l2], st, k, h) else zz_Run zz_prog d 147 (21, [l0, l1, l2], st, k, h) := zz_k_br (¬ v = 0) rfl (zz_k_num f147_18 rfl)
theorem f147_21 : zz_fetch zz_prog 147 21 = some (.iconst 1, 1, [], []) := zz_fetch_of p147 rfl rfl
theorem s147_21 : zz_Run zz_prog d 147 (21, [l0, l1, l2], st, k, h) = zz_Run zz_prog d 147 (22, [l0, l1, l2], .int 1 :: st, k, h) := zz_k_num f147_21 rfl
theorem f147_22 : zz_fetch zz_prog 147 22 = some (.goto 4, 3, [26], []) := zz_fetch_of p147 rfl rfl
theorem s147_22 : zz_Run zz_prog d 147 (22, [l0, l1, l2], st, k, h) = zz_Run zz_prog d 147 (26, [l0, l1, l2], st, k, h) := zz_k_num f147_22 rfl
theorem f147_25 : zz_fetch zz_prog 147 25 = some (.iconst 0, 1, [], []) := zz_fetch_of p147 rfl rfl
theorem s147_25 : zz_Run zz_prog d 147 (25, [l0, l1, l2], st, k, h) = zz_Run zz_prog d 147 (26, [l0, l1, l2], .int 0 :: st, k, h) := zz_k_num f147_25 rfl
theorem f147_26 : zz_fetch zz_prog 147 26 = some (.iconst 0, 1, [], []) := zz_fetch_of p147 rfl rfl
theorem s147_26 : zz_Run zz_prog d 147 (26, [l0, l1, l2], st, k, h) = zz_Run zz_prog d 147 (27, [l0, l1, l2], .int 0 :: st, k, h) := zz_k_num f147_26 rfl
theorem f147_27 : zz_fetch zz_prog 147 27 = some (.iconst 0, 1, [], []) := zz_fetch_of p147 rfl rfl
theorem s147_27 : zz_Run zz_prog d 147 (27, [l0, l1, l2], st, k, h) = zz_Run zz_prog d 147 (28, [l0, l1, l2], .int 0 :: st, k, h) := zz_k_num f147_27 rfl
theorem f147_28 : zz_fetch zz_prog 147 28 = some (.invokevirtual 89, 3, [0, 95, 4, 2], []) := zz_fetch_of p147 rfl rfl
theorem s147_28 : zz_Run zz_prog d 147 (28, [l0, l1, l2], [b0, b1, b2, .ref 23], k, (zz_hp n I J ex)) = zz_ret (zz_Call zz_prog d 95 [.ref 23, b2, b1, b0] (zz_hp n I J ex)) (fun v k' h' => zz_Run zz_prog d 147 (31, [l0, l1, l2], v.toList ++ [], k && k', h')) (fun a k' h' => zz_th d 147 28 a [l0, l1, l2] (k && k') h') := zz_k_call f147_28 rfl rfl rfl
theorem f147_31 : zz_fetch zz_prog 147 31 = some (.ifCond .eq 5, 3, [36], []) := zz_fetch_of p147 rfl rfl
theorem s147_31 : zz_Run zz_prog d 147 (31, [l0, l1, l2], .int v :: st, k, h) = if v = 0 then zz_Run zz_prog d 147 (36, [l0, l1, l2], st, k, h) else zz_Run zz_prog d 147 (34, [l0, l1, l2], st, k, h) := zz_k_br (v = 0) rfl (zz_k_num f147_31 rfl)
theorem f147_34 : zz_fetch zz_prog 147 34 = some (.iconst 0, 1, [], []) := zz_fetch_of p147 rfl rfl
theorem s147_34 : zz_Run zz_prog d 147 (34, [l0, l1, l2], st, k, h) = zz_Run zz_prog d 147 (35, [l0, l1, l2], .int 0 :: st, k, h) := zz_k_num f147_34 rfl
theorem f147_35 : zz_fetch zz_prog 147 35 = some (.ireturn, 1, [0], []) := zz_fetch_of p147 rfl rfl
theorem s147_35 : zz_Run zz_prog d 147 (35, [l0, l1, l2], [.int v], k, h) = some (.inl (some (.int v)), k, h) := zz_k_stop f147_35 rfl rfl rfl
theorem f147_36 : zz_fetch zz_prog 147 36 = some (.iload_n 1, 1, [], []) := zz_fetch_of p147 rfl rfl
theorem s147_36 : zz_Run zz_prog d 147 (36, [l0, some (.int v), l2], st, k, h) = zz_Run zz_prog d 147 (37, [l0, some (.int v), l2], .int v :: st, k, h) := zz_k_num f147_36 rfl
theorem f147_37 : zz_fetch zz_prog 147 37 = some (.iconst (-1), 1, [], []) := zz_fetch_of p147 rfl rfl
theorem s147_37 : zz_Run zz_prog d 147 (37, [l0, l1, l2], st, k, h) = zz_Run zz_prog d 147 (38, [l0, l1, l2], .int (-1) :: st, k, h) := zz_k_num f147_37 rfl
theorem f147_38 : zz_fetch zz_prog 147 38 = some (.if_icmp .ne 16, 3, [54], []) := zz_fetch_of p147 rfl rfl
theorem s147_38 : zz_Run zz_prog d 147 (38, [l0, l1, l2], .int w :: .int v :: st, k, h) = if ¬ v = w then zz_Run zz_prog d 147 (54, [l0, l1, l2], st, k, h) else zz_Run zz_prog d 147 (41, [l0, l1, l2], st, k, h) := zz_k_br (¬ v = w) rfl (zz_k_num f147_38 rfl)
theorem f147_41 : zz_fetch zz_prog 147 41 = some (.aload_n 0, 1, [], []) := zz_fetch_of p147 rfl rfl
theorem s147_41 : zz_Run zz_prog d 147 (41, [some (.ref a), l1, l2], st, k, h) = zz_Run zz_prog d 147 (42, [some (.ref a), l1, l2], .ref a :: st, k, h) := zz_k_num f147_41 rfl
theorem f147_42 : zz_fetch zz_prog 147 42 = some (.getfield 7, 3, [2, 1, 3], []) := zz_fetch_of p147 rfl rfl
theorem s147_42 : zz_Run zz_prog d 147 (42, [l0, l1, l2], .ref 23 :: st, k, (zz_hp n I J ex)) = zz_Run zz_prog d 147 (45, [l0, l1, l2], .ref 24 :: st, k, (zz_hp n I J ex)) := zz_k_go f147_42 rfl rfl rfl
theorem f147_45 : zz_fetch zz_prog 147 45 = some (.sipush 146, 3, [], []) := zz_fetch_of p147 rfl rfl
theorem s147_45 : zz_Run zz_prog d 147 (45, [l0, l1, l2], st, k, h) = zz_Run zz_prog d 147 (48, [l0, l1, l2], .int 146 :: st, k, h) := zz_k_num f147_45 (congrArg (fun u => some (48, [l0, l1, l2], Value.int u :: st)) (by decide : (Int16.ofInt 146).toInt32 = 146))
theorem f147_48 : zz_fetch zz_prog 147 48 = some (.iload_n 2, 1, [], []) := zz_fetch_of p147 rfl rfl
theorem s147_48 : zz_Run zz_prog d 147 (48, [l0, l1, some (.int v)], st, k, h) = zz_Run zz_prog d 147 (49, [l0, l1, some (.int v)], .int v :: st, k, h) := zz_k_num f147_48 rfl
theorem f147_49 : zz_fetch zz_prog 147 49 = some (.iadd, 1, [], []) := zz_fetch_of p147 rfl rfl
theorem s147_49 : zz_Run zz_prog d 147 (49, [l0, l1, l2], .int w :: .int v :: st, k, h) = zz_Run zz_prog d 147 (50, [l0, l1, l2], .int (v + w) :: st, k, h) := zz_k_num f147_49 rfl
theorem f147_50 : zz_fetch zz_prog 147 50 = some (.iaload, 1, [], []) := zz_fetch_of p147 rfl rfl
theorem s147_50 (ha : zz_isrd a = true) : zz_Run zz_prog d 147 (50, [l0, l1, l2], .int v :: .ref a :: st, k, (zz_hp n I J ex)) = zz_ck (zz_in v (zz_ary n a)) (zz_Run zz_prog d 147 (51, [l0, l1, l2], .int (I a v.toNatClampNeg) :: st, k, (zz_hp n I J ex))) := zz_k_iald f147_50 ha
theorem f147_51 : zz_fetch zz_prog 147 51 = some (.goto 16, 3, [67], []) := zz_fetch_of p147 rfl rfl
theorem s147_51 : zz_Run zz_prog d 147 (51, [l0, l1, l2], st, k, h) = zz_Run zz_prog d 147 (67, [l0, l1, l2], st, k, h) := zz_k_num f147_51 rfl
theorem f147_54 : zz_fetch zz_prog 147 54 = some (.aload_n 0, 1, [], []) := zz_fetch_of p147 rfl rfl
theorem s147_54 : zz_Run zz_prog d 147 (54, [some (.ref a), l1, l2], st, k, h) = zz_Run zz_prog d 147 (55, [some (.ref a), l1, l2], .ref a :: st, k, h) := zz_k_num f147_54 rfl
theorem f147_55 : zz_fetch zz_prog 147 55 = some (.getfield 7, 3, [2, 1, 3], []) := zz_fetch_of p147 rfl rfl
theorem s147_55 : zz_Run zz_prog d 147 (55, [l0, l1, l2], .ref 23 :: st, k, (zz_hp n I J ex)) = zz_Run zz_prog d 147 (58, [l0, l1, l2], .ref 24 :: st, k, (zz_hp n I J ex)) := zz_k_go f147_55 rfl rfl rfl
theorem f147_58 : zz_fetch zz_prog 147 58 = some (.bipush 126, 2, [], []) := zz_fetch_of p147 rfl rfl
theorem s147_58 : zz_Run zz_prog d 147 (58, [l0, l1, l2], st, k, h) = zz_Run zz_prog d 147 (60, [l0, l1, l2], .int 126 :: st, k, h) := zz_k_num f147_58 (congrArg (fun u => some (60, [l0, l1, l2], Value.int u :: st)) (by decide : (Int8.ofInt 126).toInt32 = 126))
theorem f147_60 : zz_fetch zz_prog 147 60 = some (.iconst 5, 1, [], []) := zz_fetch_of p147 rfl rfl
theorem s147_60 : zz_Run zz_prog d 147 (60, [l0, l1, l2], st, k, h) = zz_Run zz_prog d 147 (61, [l0, l1, l2], .int 5 :: st, k, h) := zz_k_num f147_60 rfl
theorem f147_61 : zz_fetch zz_prog 147 61 = some (.iload_n 1, 1, [], []) := zz_fetch_of p147 rfl rfl
theorem s147_61 : zz_Run zz_prog d 147 (61, [l0, some (.int v), l2], st, k, h) = zz_Run zz_prog d 147 (62, [l0, some (.int v), l2], .int v :: st, k, h) := zz_k_num f147_61 rfl
theorem f147_62 : zz_fetch zz_prog 147 62 = some (.imul, 1, [], []) := zz_fetch_of p147 rfl rfl
theorem s147_62 : zz_Run zz_prog d 147 (62, [l0, l1, l2], .int w :: .int v :: st, k, h) = zz_Run zz_prog d 147 (63, [l0, l1, l2], .int (v * w) :: st, k, h) := zz_k_num f147_62 rfl
theorem f147_63 : zz_fetch zz_prog 147 63 = some (.iadd, 1, [], []) := zz_fetch_of p147 rfl rfl
theorem s147_63 : zz_Run zz_prog d 147 (63, [l0, l1, l2], .int w :: .int v :: st, k, h) = zz_Run zz_prog d 147 (64, [l0, l1, l2], .int (v + w) :: st, k, h) := zz_k_num f147_63 rfl
theorem f147_64 : zz_fetch zz_prog 147 64 = some (.iload_n 2, 1, [], []) := zz_fetch_of p147 rfl rfl
theorem s147_64 : zz_Run zz_prog d 147 (64, [l0, l1, some (.int v)], st, k, h) = zz_Run zz_prog d 147 (65, [l0, l1, some (.int v)], .int v :: st, k, h) := zz_k_num f147_64 rfl
theorem f147_65 : zz_fetch zz_prog 147 65 = some (.iadd, 1, [], []) := zz_fetch_of p147 rfl rfl
theorem s147_65 : zz_Run zz_prog d 147 (65, [l0, l1, l2], .int w :: .int v :: st, k, h) = zz_Run zz_prog d 147 (66, [l0, l1, l2], .int (v + w) :: st, k, h) := zz_k_num f147_65 rfl
theorem f147_66 : zz_fetch zz_prog 147 66 = some (.iaload, 1, [], []) := zz_fetch_of p147 rfl rfl
theorem s147_66 (ha : zz_isrd a = true) : zz_Run zz_prog d 147 (66, [l0, l1, l2], .int v :: .ref a :: st, k, (zz_hp n I J ex)) = zz_ck (zz_in v (zz_ary n a)) (zz_Run zz_prog d 147 (67, [l0, l1, l2], .int (I a v.toNatClampNeg) :: st, k, (zz_hp n I J ex))) := zz_k_iald f147_66 ha
theorem f147_67 : zz_fetch zz_prog 147 67 = some (.ireturn, 1, [0], []) := zz_fetch_of p147 rfl rfl
theorem s147_67 : zz_Run zz_prog d 147 (67, [l0, l1, l2], [.int v], k, h) = some (.inl (some (.int v)), k, h) := zz_k_stop f147_67 rfl rfl rfl
end S147
section S148
variable {d n j : Nat} {l0 l1 l2 : Option Value} {st : List Value} {k : Bool} {h : zz_H} {v w v1 v2 : Int32} {y y1 : Int64} {a a1 a2 : Nat} {b0 b1 b2 b3 b4 b5 b6 b7 b8 : Value} {I : Nat → Nat → Int32} {J : Nat → Nat → Int64} {ex : List (Nat × Nat)}
theorem p148 : zz_prog 148 = some zz_m148 := rfl
theorem e148 (g0 : Nat) (g1 : Int32) (g2 : Int32) : zz_Call zz_prog (d + 1) 148 [.ref g0, .int g1, .int g2] h = zz_Run zz_prog d 148 (0, [some (.ref g0), some (.int g1), some (.int g2)], [], true, h) := rfl
theorem t148 (pc : Nat) (L : List (Option Value)) : zz_th d 148 pc a L k h = some (.inr a, k, h) := zz_th_out p148 rfl
theorem f148_0 : zz_fetch zz_prog 148 0 = some (.aload_n 0, 1, [], []) := zz_fetch_of p148 rfl rfl
theorem s148_0 : zz_Run zz_prog d 148 (0, [some (.ref a), l1, l2], st, k, h) = zz_Run zz_prog d 148 (1, [some (.ref a), l1, l2], .ref a :: st, k, h) := zz_k_num f148_0 rfl
theorem f148_1 : zz_fetch zz_prog 148 1 = some (.aload_n 0, 1, [], []) := zz_fetch_of p148 rfl rfl
theorem s148_1 : zz_Run zz_prog d 148 (1, [some (.ref a), l1, l2], st, k, h) = zz_Run zz_prog d 148 (2, [some (.ref a), l1, l2], .ref a :: st, k, h) := zz_k_num f148_1 rfl
theorem f148_2 : zz_fetch zz_prog 148 2 = some (.iload_n 1, 1, [], []) := zz_fetch_of p148 rfl rfl
theorem s148_2 : zz_Run zz_prog d 148 (2, [l0, some (.int v), l2], st, k, h) = zz_Run zz_prog d 148 (3, [l0, some (.int v), l2], .int v :: st, k, h) := zz_k_num f148_2 rfl
theorem f148_3 : zz_fetch zz_prog 148 3 = some (.invokevirtual 191, 3, [0, 127, 2, 2], []) := zz_fetch_of p148 rfl rfl
theorem s148_3 : zz_Run zz_prog d 148 (3, [l0, l1, l2], [b0, .ref 23, b2], k, (zz_hp n I J ex)) = zz_ret (zz_Call zz_prog d 127 [.ref 23, b0] (zz_hp n I J ex)) (fun v k' h' => zz_Run zz_prog d 148 (6, [l0, l1, l2], v.toList ++ [b2], k && k', h')) (fun a k' h' => zz_th d 148 3 a [l0, l1, l2] (k && k') h') := zz_k_call f148_3 rfl rfl rfl
theorem f148_6 : zz_fetch zz_prog 148 6 = some (.ifCond .eq 12, 3, [18], []) := zz_fetch_of p148 rfl rfl
theorem s148_6 : zz_Run zz_prog d 148 (6, [l0, l1, l2], .int v :: st, k, h) = if v = 0 then zz_Run zz_prog d 148 (18, [l0, l1, l2], st, k, h) else zz_Run zz_prog d 148 (9, [l0, l1, l2], st, k, h) := zz_k_br (v = 0) rfl (zz_k_num f148_6 rfl)
theorem f148_9 : zz_fetch zz_prog 148 9 = some (.iload_n 2, 1, [], []) := zz_fetch_of p148 rfl rfl
theorem s148_9 : zz_Run zz_prog d 148 (9, [l0, l1, some (.int v)], st, k, h) = zz_Run zz_prog d 148 (10, [l0, l1, some (.int v)], .int v :: st, k, h) := zz_k_num f148_9 rfl
theorem f148_10 : zz_fetch zz_prog 148 10 = some (.ifCond .lt 8, 3, [18], []) := zz_fetch_of p148 rfl rfl
theorem s148_10 : zz_Run zz_prog d 148 (10, [l0, l1, l2], .int v :: st, k, h) = if v < 0 then zz_Run zz_prog d 148 (18, [l0, l1, l2], st, k, h) else zz_Run zz_prog d 148 (13, [l0, l1, l2], st, k, h) := zz_k_br (v < 0) rfl (zz_k_num f148_10 rfl)
theorem f148_13 : zz_fetch zz_prog 148 13 = some (.iload_n 2, 1, [], []) := zz_fetch_of p148 rfl rfl
theorem s148_13 : zz_Run zz_prog d 148 (13, [l0, l1, some (.int v)], st, k, h) = zz_Run zz_prog d 148 (14, [l0, l1, some (.int v)], .int v :: st, k, h) := zz_k_num f148_13 rfl
theorem f148_14 : zz_fetch zz_prog 148 14 = some (.iconst 4, 1, [], []) := zz_fetch_of p148 rfl rfl
theorem s148_14 : zz_Run zz_prog d 148 (14, [l0, l1, l2], st, k, h) = zz_Run zz_prog d 148 (15, [l0, l1, l2], .int 4 :: st, k, h) := zz_k_num f148_14 rfl
theorem f148_15 : zz_fetch zz_prog 148 15 = some (.if_icmp .le 7, 3, [22], []) := zz_fetch_of p148 rfl rfl
theorem s148_15 : zz_Run zz_prog d 148 (15, [l0, l1, l2], .int w :: .int v :: st, k, h) = if v ≤ w then zz_Run zz_prog d 148 (22, [l0, l1, l2], st, k, h) else zz_Run zz_prog d 148 (18, [l0, l1, l2], st, k, h) := zz_k_br (v ≤ w) rfl (zz_k_num f148_15 rfl)
theorem f148_18 : zz_fetch zz_prog 148 18 = some (.iconst 1, 1, [], []) := zz_fetch_of p148 rfl rfl
theorem s148_18 : zz_Run zz_prog d 148 (18, [l0, l1, l2], st, k, h) = zz_Run zz_prog d 148 (19, [l0, l1, l2], .int 1 :: st, k, h) := zz_k_num f148_18 rfl
theorem f148_19 : zz_fetch zz_prog 148 19 = some (.goto 4, 3, [23], []) := zz_fetch_of p148 rfl rfl
theorem s148_19 : zz_Run zz_prog d 148 (19, [l0, l1, l2], st, k, h) = zz_Run zz_prog d 148 (23, [l0, l1, l2], st, k, h) := zz_k_num f148_19 rfl
theorem f148_22 : zz_fetch zz_prog 148 22 = some (.iconst 0, 1, [], []) := zz_fetch_of p148 rfl rfl
theorem s148_22 : zz_Run zz_prog d 148 (22, [l0, l1, l2], st, k, h) = zz_Run zz_prog d 148 (23, [l0, l1, l2], .int 0 :: st, k, h) := zz_k_num f148_22 rfl
theorem f148_23 : zz_fetch zz_prog 148 23 = some (.iconst 0, 1, [], []) := zz_fetch_of p148 rfl rfl
theorem s148_23 : zz_Run zz_prog d 148 (23, [l0, l1, l2], st, k, h) = zz_Run zz_prog d 148 (24, [l0, l1, l2], .int 0 :: st, k, h) := zz_k_num f148_23 rfl
theorem f148_24 : zz_fetch zz_prog 148 24 = some (.iconst 0, 1, [], []) := zz_fetch_of p148 rfl rfl
theorem s148_24 : zz_Run zz_prog d 148 (24, [l0, l1, l2], st, k, h) = zz_Run zz_prog d 148 (25, [l0, l1, l2], .int 0 :: st, k, h) := zz_k_num f148_24 rfl
theorem f148_25 : zz_fetch zz_prog 148 25 = some (.invokevirtual 89, 3, [0, 95, 4, 2], []) := zz_fetch_of p148 rfl rfl
theorem s148_25 : zz_Run zz_prog d 148 (25, [l0, l1, l2], [b0, b1, b2, .ref 23], k, (zz_hp n I J ex)) = zz_ret (zz_Call zz_prog d 95 [.ref 23, b2, b1, b0] (zz_hp n I J ex)) (fun v k' h' => zz_Run zz_prog d 148 (28, [l0, l1, l2], v.toList ++ [], k && k', h')) (fun a k' h' => zz_th d 148 25 a [l0, l1, l2] (k && k') h') := zz_k_call f148_25 rfl rfl rfl
theorem f148_28 : zz_fetch zz_prog 148 28 = some (.ifCond .eq 7, 3, [35], []) := zz_fetch_of p148 rfl rfl
theorem s148_28 : zz_Run zz_prog d 148 (28, [l0, l1, l2], .int v :: st, k, h) = if v = 0 then zz_Run zz_prog d 148 (35, [l0, l1, l2], st, k, h) else zz_Run zz_prog d 148 (31, [l0, l1, l2], st, k, h) := zz_k_br (v = 0) rfl (zz_k_num f148_28 rfl)
theorem f148_31 : zz_fetch zz_prog 148 31 = some (.iconst 0, 1, [], []) := zz_fetch_of p148 rfl rfl
theorem s148_31 : zz_Run zz_prog d 148 (31, [l0, l1, l2], st, k, h) = zz_Run zz_prog d 148 (32, [l0, l1, l2], .int 0 :: st, k, h) := zz_k_num f148_31 rfl
theorem f148_32 : zz_fetch zz_prog 148 32 = some (.goto 17, 3, [49], []) := zz_fetch_of p148 rfl rfl
theorem s148_32 : zz_Run zz_prog d 148 (32, [l0, l1, l2], st, k, h) = zz_Run zz_prog d 148 (49, [l0, l1, l2], st, k, h) := zz_k_num f148_32 rfl
theorem f148_35 : zz_fetch zz_prog 148 35 = some (.aload_n 0, 1, [], []) := zz_fetch_of p148 rfl rfl
theorem s148_35 : zz_Run zz_prog d 148 (35, [some (.ref a), l1, l2], st, k, h) = zz_Run zz_prog d 148 (36, [some (.ref a), l1, l2], .ref a :: st, k, h) := zz_k_num f148_35 rfl
theorem f148_36 : zz_fetch zz_prog 148 36 = some (.getfield 7, 3, [2, 1, 3], []) := zz_fetch_of p148 rfl rfl
theorem s148_36 : zz_Run zz_prog d 148 (36, [l0, l1, l2], .ref 23 :: st, k, (zz_hp n I J ex)) = zz_Run zz_prog d 148 (39, [l0, l1, l2], .ref 24 :: st, k, (zz_hp n I J ex)) := zz_k_go f148_36 rfl rfl rfl
theorem f148_39 : zz_fetch zz_prog 148 39 = some (.sipush 151, 3, [], []) := zz_fetch_of p148 rfl rfl
theorem s148_39 : zz_Run zz_prog d 148 (39, [l0, l1, l2], st, k, h) = zz_Run zz_prog d 148 (42, [l0, l1, l2], .int 151 :: st, k, h) := zz_k_num f148_39 (congrArg (fun u => some (42, [l0, l1, l2], Value.int u :: st)) (by decide : (Int16.ofInt 151).toInt32 = 151))
theorem f148_42 : zz_fetch zz_prog 148 42 = some (.iconst 5, 1, [], []) := zz_fetch_of p148 rfl rfl
theorem s148_42 : zz_Run zz_prog d 148 (42, [l0, l1, l2], st, k, h) = zz_Run zz_prog d 148 (43, [l0, l1, l2], .int 5 :: st, k, h) := zz_k_num f148_42 rfl
theorem f148_43 : zz_fetch zz_prog 148 43 = some (.iload_n 1, 1, [], []) := zz_fetch_of p148 rfl rfl
theorem s148_43 : zz_Run zz_prog d 148 (43, [l0, some (.int v), l2], st, k, h) = zz_Run zz_prog d 148 (44, [l0, some (.int v), l2], .int v :: st, k, h) := zz_k_num f148_43 rfl
theorem f148_44 : zz_fetch zz_prog 148 44 = some (.imul, 1, [], []) := zz_fetch_of p148 rfl rfl
theorem s148_44 : zz_Run zz_prog d 148 (44, [l0, l1, l2], .int w :: .int v :: st, k, h) = zz_Run zz_prog d 148 (45, [l0, l1, l2], .int (v * w) :: st, k, h) := zz_k_num f148_44 rfl
theorem f148_45 : zz_fetch zz_prog 148 45 = some (.iadd, 1, [], []) := zz_fetch_of p148 rfl rfl
theorem s148_45 : zz_Run zz_prog d 148 (45, [l0, l1, l2], .int w :: .int v :: st, k, h) = zz_Run zz_prog d 148 (46, [l0, l1, l2], .int (v + w) :: st, k, h) := zz_k_num f148_45 rfl
theorem f148_46 : zz_fetch zz_prog 148 46 = some (.iload_n 2, 1, [], []) := zz_fetch_of p148 rfl rfl
theorem s148_46 : zz_Run zz_prog d 148 (46, [l0, l1, some (.int v)], st, k, h) = zz_Run zz_prog d 148 (47, [l0, l1, some (.int v)], .int v :: st, k, h) := zz_k_num f148_46 rfl
theorem f148_47 : zz_fetch zz_prog 148 47 = some (.iadd, 1, [], []) := zz_fetch_of p148 rfl rfl
theorem s148_47 : zz_Run zz_prog d 148 (47, [l0, l1, l2], .int w :: .int v :: st, k, h) = zz_Run zz_prog d 148 (48, [l0, l1, l2], .int (v + w) :: st, k, h) := zz_k_num f148_47 rfl
theorem f148_48 : zz_fetch zz_prog 148 48 = some (.iaload, 1, [], []) := zz_fetch_of p148 rfl rfl
theorem s148_48 (ha : zz_isrd a = true) : zz_Run zz_prog d 148 (48, [l0, l1, l2], .int v :: .ref a :: st, k, (zz_hp n I J ex)) = zz_ck (zz_in v (zz_ary n a)) (zz_Run zz_prog d 148 (49, [l0, l1, l2], .int (I a v.toNatClampNeg) :: st, k, (zz_hp n I J ex))) := zz_k_iald f148_48 ha
theorem f148_49 : zz_fetch zz_prog 148 49 = some (.ireturn, 1, [0], []) := zz_fetch_of p148 rfl rfl
theorem s148_49 : zz_Run zz_prog d 148 (49, [l0, l1, l2], [.int v], k, h) = some (.inl (some (.int v)), k, h) := zz_k_stop f148_49 rfl rfl rfl
end S148
section S149
variable {d n j : Nat} {l0 l1 : Option Value} {st : List Value} {k : Bool} {h : zz_H} {v w v1 v2 : Int32} {y y1 : Int64} {a a1 a2 : Nat} {b0 b1 b2 b3 b4 b5 b6 b7 b8 : Value} {I : Nat → Nat → Int32} {J : Nat → Nat → Int64} {ex : List (Nat × Nat)}
theorem p149 : zz_prog 149 = some zz_m149 := rfl
theorem e149 (g0 : Nat) (g1 : Int32) : zz_Call zz_prog (d + 1) 149 [.ref g0, .int g1] h = zz_Run zz_prog d 149 (0, [some (.ref g0), some (.int g1)], [], true, h) := rfl
theorem t149 (pc : Nat) (L : List (Option Value)) : zz_th d 149 pc a L k h = some (.inr a, k, h) := zz_th_out p149 rfl
theorem f149_0 : zz_fetch zz_prog 149 0 = some (.aload_n 0, 1, [], []) := zz_fetch_of p149 rfl rfl
theorem s149_0 : zz_Run zz_prog d 149 (0, [some (.ref a), l1], st, k, h) = zz_Run zz_prog d 149 (1, [some (.ref a), l1], .ref a :: st, k, h) := zz_k_num f149_0 rfl
theorem f149_1 : zz_fetch zz_prog 149 1 = some (.aload_n 0, 1, [], []) := zz_fetch_of p149 rfl rfl
theorem s149_1 : zz_Run zz_prog d 149 (1, [some (.ref a), l1], st, k, h) = zz_Run zz_prog d 149 (2, [some (.ref a), l1], .ref a :: st, k, h) := zz_k_num f149_1 rfl
theorem f149_2 : zz_fetch zz_prog 149 2 = some (.iload_n 1, 1, [], []) := zz_fetch_of p149 rfl rfl
theorem s149_2 : zz_Run zz_prog d 149 (2, [l0, some (.int v)], st, k, h) = zz_Run zz_prog d 149 (3, [l0, some (.int v)], .int v :: st, k, h) := zz_k_num f149_2 rfl
theorem f149_3 : zz_fetch zz_prog 149 3 = some (.invokevirtual 191, 3, [0, 127, 2, 2], []) := zz_fetch_of p149 rfl rfl
theorem s149_3 : zz_Run zz_prog d 149 (3, [l0, l1], [b0, .ref 23, b2], k, (zz_hp n I J ex)) = zz_ret (zz_Call zz_prog d 127 [.ref 23, b0] (zz_hp n I J ex)) (fun v k' h' => zz_Run zz_prog d 149 (6, [l0, l1], v.toList ++ [b2], k && k', h')) (fun a k' h' => zz_th d 149 3 a [l0, l1] (k && k') h') := zz_k_call f149_3 rfl rfl rfl
theorem f149_6 : zz_fetch zz_prog 149 6 = some (.ifCond .ne 7, 3, [13], []) := zz_fetch_of p149 rfl rfl
theorem s149_6 : zz_Run zz_prog d 149 (6, [l0, l1], .int v :: st, k, h) = if ¬ v = 0 then zz_Run zz_prog d 149 (13, [l0, l1], st, k, h) else zz_Run zz_prog d 149 (9, [l0, l1], st, k, h) := zz_k_br (¬ v = 0) rfl (zz_k_num f149_6 rfl)
theorem f149_9 : zz_fetch zz_prog 149 9 = some (.iconst 1, 1, [], []) := zz_fetch_of p149 rfl rfl
theorem s149_9 : zz_Run zz_prog d 149 (9, [l0, l1], st, k, h) = zz_Run zz_prog d 149 (10, [l0, l1], .int 1 :: st, k, h) := zz_k_num f149_9 rfl
theorem f149_10 : zz_fetch zz_prog 149 10 = some (.goto 4, 3, [14], []) := zz_fetch_of p149 rfl rfl
theorem s149_10 : zz_Run zz_prog d 149 (10, [l0, l1], st, k, h) = zz_Run zz_prog d 149 (14, [l0, l1], st, k, h) := zz_k_num f149_10 rfl
theorem f149_13 : zz_fetch zz_prog 149 13 = some (.iconst 0, 1, [], []) := zz_fetch_of p149 rfl rfl
theorem s149_13 : zz_Run zz_prog d 149 (13, [l0, l1], st, k, h) = zz_Run zz_prog d 149 (14, [l0, l1], .int 0 :: st, k, h) := zz_k_num f149_13 rfl
theorem f149_14 : zz_fetch zz_prog 149 14 = some (.iconst 0, 1, [], []) := zz_fetch_of p149 rfl rfl
theorem s149_14 : zz_Run zz_prog d 149 (14, [l0, l1], st, k, h) = zz_Run zz_prog d 149 (15, [l0, l1], .int 0 :: st, k, h) := zz_k_num f149_14 rfl
theorem f149_15 : zz_fetch zz_prog 149 15 = some (.iconst 0, 1, [], []) := zz_fetch_of p149 rfl rfl
theorem s149_15 : zz_Run zz_prog d 149 (15, [l0, l1], st, k, h) = zz_Run zz_prog d 149 (16, [l0, l1], .int 0 :: st, k, h) := zz_k_num f149_15 rfl
theorem f149_16 : zz_fetch zz_prog 149 16 = some (.invokevirtual 89, 3, [0, 95, 4, 2], []) := zz_fetch_of p149 rfl rfl
theorem s149_16 : zz_Run zz_prog d 149 (16, [l0, l1], [b0, b1, b2, .ref 23], k, (zz_hp n I J ex)) = zz_ret (zz_Call zz_prog d 95 [.ref 23, b2, b1, b0] (zz_hp n I J ex)) (fun v k' h' => zz_Run zz_prog d 149 (19, [l0, l1], v.toList ++ [], k && k', h')) (fun a k' h' => zz_th d 149 16 a [l0, l1] (k && k') h') := zz_k_call f149_16 rfl rfl rfl
theorem f149_19 : zz_fetch zz_prog 149 19 = some (.ifCond .eq 7, 3, [26], []) := zz_fetch_of p149 rfl rfl
theorem s149_19 : zz_Run zz_prog d 149 (19, [l0, l1], .int v :: st, k, h) = if v = 0 then zz_Run zz_prog d 149 (26, [l0, l1], st, k, h) else zz_Run zz_prog d 149 (22, [l0, l1], st, k, h) := zz_k_br (v = 0) rfl (zz_k_num f149_19 rfl)
theorem f149_22 : zz_fetch zz_prog 149 22 = some (.iconst 0, 1, [], []) := zz_fetch_of p149 rfl rfl
theorem s149_22 : zz_Run zz_prog d 149 (22, [l0, l1], st, k, h) = zz_Run zz_prog d 149 (23, [l0, l1], .int 0 :: st, k, h) := zz_k_num f149_22 rfl
theorem f149_23 : zz_fetch zz_prog 149 23 = some (.goto 8, 3, [31], []) := zz_fetch_of p149 rfl rfl
theorem s149_23 : zz_Run zz_prog d 149 (23, [l0, l1], st, k, h) = zz_Run zz_prog d 149 (31, [l0, l1], st, k, h) := zz_k_num f149_23 rfl
theorem f149_26 : zz_fetch zz_prog 149 26 = some (.aload_n 0, 1, [], []) := zz_fetch_of p149 rfl rfl
theorem s149_26 : zz_Run zz_prog d 149 (26, [some (.ref a), l1], st, k, h) = zz_Run zz_prog d 149 (27, [some (.ref a), l1], .ref a :: st, k, h) := zz_k_num f149_26 rfl
theorem f149_27 : zz_fetch zz_prog 149 27 = some (.iload_n 1, 1, [], []) := zz_fetch_of p149 rfl rfl
theorem s149_27 : zz_Run zz_prog d 149 (27, [l0, some (.int v)], st, k, h) = zz_Run zz_prog d 149 (28, [l0, some (.int v)], .int v :: st, k, h) := zz_k_num f149_27 rfl
theorem f149_28 : zz_fetch zz_prog 149 28 = some (.invokevirtual 142, 3, [0, 115, 2, 2], []) := zz_fetch_of p149 rfl rfl
theorem s149_28 : zz_Run zz_prog d 149 (28, [l0, l1], [b0, .ref 23], k, (zz_hp n I J ex)) = zz_ret (zz_Call zz_prog d 115 [.ref 23, b0] (zz_hp n I J ex)) (fun v k' h' => zz_Run zz_prog d 149 (31, [l0, l1], v.toList ++ [], k && k', h')) (fun a k' h' => zz_th d 149 28 a [l0, l1] (k && k') h') := zz_k_call f149_28 rfl rfl rfl
theorem f149_31 : zz_fetch zz_prog 149 31 = some (.ireturn, 1, [0], []) := zz_fetch_of p149 rfl rfl
theorem s149_31 : zz_Run zz_prog d 149 (31, [l0, l1], [.int v], k, h) = some (.inl (some (.int v)), k, h) := zz_k_stop f149_31 rfl rfl rfl
end S149
section S150
variable {d n j : Nat} {l0 l1 : Option Value} {st : List Value} {k : Bool} {h : zz_H} {v w v1 v2 : Int32} {y y1 : Int64} {a a1 a2 : Nat} {b0 b1 b2 b3 b4 b5 b6 b7 b8 : Value} {I : Nat → Nat → Int32} {J : Nat → Nat → Int64} {ex : List (Nat × Nat)}
theorem p150 : zz_prog 150 = some zz_m150 := rfl
theorem e150 (g0 : Nat) (g1 : Int32) : zz_Call zz_prog (d + 1) 150 [.ref g0, .int g1] h = zz_Run zz_prog d 150 (0, [some (.ref g0), some (.int g1)], [], true, h) := rfl
theorem t150 (pc : Nat) (L : List (Option Value)) : zz_th d 150 pc a L k h = some (.inr a, k, h) := zz_th_out p150 rfl
theorem f150_0 : zz_fetch zz_prog 150 0 = some (.aload_n 0, 1, [], []) := zz_fetch_of p150 rfl rfl
theorem s150_0 : zz_Run zz_prog d 150 (0, [some (.ref a), l1], st, k, h) = zz_Run zz_prog d 150 (1, [some (.ref a), l1], .ref a :: st, k, h) := zz_k_num f150_0 rfl
theorem f150_1 : zz_fetch zz_prog 150 1 = some (.aload_n 0, 1, [], []) := zz_fetch_of p150 rfl rfl
theorem s150_1 : zz_Run zz_prog d 150 (1, [some (.ref a), l1], st, k, h) = zz_Run zz_prog d 150 (2, [some (.ref a), l1], .ref a :: st, k, h) := zz_k_num f150_1 rfl
theorem f150_2 : zz_fetch zz_prog 150 2 = some (.iload_n 1, 1, [], []) := zz_fetch_of p150 rfl rfl
theorem s150_2 : zz_Run zz_prog d 150 (2, [l0, some (.int v)], st, k, h) = zz_Run zz_prog d 150 (3, [l0, some (.int v)], .int v :: st, k, h) := zz_k_num f150_2 rfl
theorem f150_3 : zz_fetch zz_prog 150 3 = some (.invokevirtual 191, 3, [0, 127, 2, 2], []) := zz_fetch_of p150 rfl rfl
theorem s150_3 : zz_Run zz_prog d 150 (3, [l0, l1], [b0, .ref 23, b2], k, (zz_hp n I J ex)) = zz_ret (zz_Call zz_prog d 127 [.ref 23, b0] (zz_hp n I J ex)) (fun v k' h' => zz_Run zz_prog d 150 (6, [l0, l1], v.toList ++ [b2], k && k', h')) (fun a k' h' => zz_th d 150 3 a [l0, l1] (k && k') h') := zz_k_call f150_3 rfl rfl rfl
theorem f150_6 : zz_fetch zz_prog 150 6 = some (.ifCond .ne 7, 3, [13], []) := zz_fetch_of p150 rfl rfl
theorem s150_6 : zz_Run zz_prog d 150 (6, [l0, l1], .int v :: st, k, h) = if ¬ v = 0 then zz_Run zz_prog d 150 (13, [l0, l1], st, k, h) else zz_Run zz_prog d 150 (9, [l0, l1], st, k, h) := zz_k_br (¬ v = 0) rfl (zz_k_num f150_6 rfl)
theorem f150_9 : zz_fetch zz_prog 150 9 = some (.iconst 1, 1, [], []) := zz_fetch_of p150 rfl rfl
theorem s150_9 : zz_Run zz_prog d 150 (9, [l0, l1], st, k, h) = zz_Run zz_prog d 150 (10, [l0, l1], .int 1 :: st, k, h) := zz_k_num f150_9 rfl
theorem f150_10 : zz_fetch zz_prog 150 10 = some (.goto 4, 3, [14], []) := zz_fetch_of p150 rfl rfl
theorem s150_10 : zz_Run zz_prog d 150 (10, [l0, l1], st, k, h) = zz_Run zz_prog d 150 (14, [l0, l1], st, k, h) := zz_k_num f150_10 rfl
theorem f150_13 : zz_fetch zz_prog 150 13 = some (.iconst 0, 1, [], []) := zz_fetch_of p150 rfl rfl
theorem s150_13 : zz_Run zz_prog d 150 (13, [l0, l1], st, k, h) = zz_Run zz_prog d 150 (14, [l0, l1], .int 0 :: st, k, h) := zz_k_num f150_13 rfl
theorem f150_14 : zz_fetch zz_prog 150 14 = some (.iconst 0, 1, [], []) := zz_fetch_of p150 rfl rfl
theorem s150_14 : zz_Run zz_prog d 150 (14, [l0, l1], st, k, h) = zz_Run zz_prog d 150 (15, [l0, l1], .int 0 :: st, k, h) := zz_k_num f150_14 rfl
theorem f150_15 : zz_fetch zz_prog 150 15 = some (.iconst 0, 1, [], []) := zz_fetch_of p150 rfl rfl
theorem s150_15 : zz_Run zz_prog d 150 (15, [l0, l1], st, k, h) = zz_Run zz_prog d 150 (16, [l0, l1], .int 0 :: st, k, h) := zz_k_num f150_15 rfl
theorem f150_16 : zz_fetch zz_prog 150 16 = some (.invokevirtual 89, 3, [0, 95, 4, 2], []) := zz_fetch_of p150 rfl rfl
theorem s150_16 : zz_Run zz_prog d 150 (16, [l0, l1], [b0, b1, b2, .ref 23], k, (zz_hp n I J ex)) = zz_ret (zz_Call zz_prog d 95 [.ref 23, b2, b1, b0] (zz_hp n I J ex)) (fun v k' h' => zz_Run zz_prog d 150 (19, [l0, l1], v.toList ++ [], k && k', h')) (fun a k' h' => zz_th d 150 16 a [l0, l1] (k && k') h') := zz_k_call f150_16 rfl rfl rfl
theorem f150_19 : zz_fetch zz_prog 150 19 = some (.ifCond .eq 7, 3, [26], []) := zz_fetch_of p150 rfl rfl
theorem s150_19 : zz_Run zz_prog d 150 (19, [l0, l1], .int v :: st, k, h) = if v = 0 then zz_Run zz_prog d 150 (26, [l0, l1], st, k, h) else zz_Run zz_prog d 150 (22, [l0, l1], st, k, h) := zz_k_br (v = 0) rfl (zz_k_num f150_19 rfl)
theorem f150_22 : zz_fetch zz_prog 150 22 = some (.iconst 0, 1, [], []) := zz_fetch_of p150 rfl rfl
theorem s150_22 : zz_Run zz_prog d 150 (22, [l0, l1], st, k, h) = zz_Run zz_prog d 150 (23, [l0, l1], .int 0 :: st, k, h) := zz_k_num f150_22 rfl
theorem f150_23 : zz_fetch zz_prog 150 23 = some (.goto 8, 3, [31], []) := zz_fetch_of p150 rfl rfl
theorem s150_23 : zz_Run zz_prog d 150 (23, [l0, l1], st, k, h) = zz_Run zz_prog d 150 (31, [l0, l1], st, k, h) := zz_k_num f150_23 rfl
theorem f150_26 : zz_fetch zz_prog 150 26 = some (.aload_n 0, 1, [], []) := zz_fetch_of p150 rfl rfl
theorem s150_26 : zz_Run zz_prog d 150 (26, [some (.ref a), l1], st, k, h) = zz_Run zz_prog d 150 (27, [some (.ref a), l1], .ref a :: st, k, h) := zz_k_num f150_26 rfl
theorem f150_27 : zz_fetch zz_prog 150 27 = some (.iload_n 1, 1, [], []) := zz_fetch_of p150 rfl rfl
theorem s150_27 : zz_Run zz_prog d 150 (27, [l0, some (.int v)], st, k, h) = zz_Run zz_prog d 150 (28, [l0, some (.int v)], .int v :: st, k, h) := zz_k_num f150_27 rfl
theorem f150_28 : zz_fetch zz_prog 150 28 = some (.invokevirtual 139, 3, [0, 113, 2, 2], []) := zz_fetch_of p150 rfl rfl
theorem s150_28 : zz_Run zz_prog d 150 (28, [l0, l1], [b0, .ref 23], k, (zz_hp n I J ex)) = zz_ret (zz_Call zz_prog d 113 [.ref 23, b0] (zz_hp n I J ex)) (fun v k' h' => zz_Run zz_prog d 150 (31, [l0, l1], v.toList ++ [], k && k', h')) (fun a k' h' => zz_th d 150 28 a [l0, l1] (k && k') h') := zz_k_call f150_28 rfl rfl rfl
theorem f150_31 : zz_fetch zz_prog 150 31 = some (.ireturn, 1, [0], []) := zz_fetch_of p150 rfl rfl
theorem s150_31 : zz_Run zz_prog d 150 (31, [l0, l1], [.int v], k, h) = some (.inl (some (.int v)), k, h) := zz_k_stop f150_31 rfl rfl rfl
end S150
section S151
variable {d n j : Nat} {l0 : Option Value} {st : List Value} {k : Bool} {h : zz_H} {v w v1 v2 : Int32} {y y1 : Int64} {a a1 a2 : Nat} {b0 b1 b2 b3 b4 b5 b6 b7 b8 : Value} {I : Nat → Nat → Int32} {J : Nat → Nat → Int64} {ex : List (Nat × Nat)}
theorem p151 : zz_prog 151 = some zz_m151 := rfl
theorem e151 (g0 : Nat) : zz_Call zz_prog (d + 1) 151 [.ref g0] h = zz_Run zz_prog d 151 (0, [some (.ref g0)], [], true, h) := rfl
theorem t151 (pc : Nat) (L : List (Option Value)) : zz_th d 151 pc a L k h = some (.inr a, k, h) := zz_th_out p151 rfl
theorem f151_0 : zz_fetch zz_prog 151 0 = some (.aload_n 0, 1, [], []) := zz_fetch_of p151 rfl rfl
theorem s151_0 : zz_Run zz_prog d 151 (0, [some (.ref a)], st, k, h) = zz_Run zz_prog d 151 (1, [some (.ref a)], .ref a :: st, k, h) := zz_k_num f151_0 rfl
theorem f151_1 : zz_fetch zz_prog 151 1 = some (.iconst 0, 1, [], []) := zz_fetch_of p151 rfl rfl
theorem s151_1 : zz_Run zz_prog d 151 (1, [l0], st, k, h) = zz_Run zz_prog d 151 (2, [l0], .int 0 :: st, k, h) := zz_k_num f151_1 rfl
theorem f151_2 : zz_fetch zz_prog 151 2 = some (.putfield 78, 3, [2, 0, 0], []) := zz_fetch_of p151 rfl rfl
theorem s151_2 : zz_Run zz_prog d 151 (2, [l0], .int v :: .ref 23 :: st, k, (zz_hp n I J ex)) = zz_Run zz_prog d 151 (5, [l0], st, false, (zz_hp n (zz_up I 23 0 v) J ex)) := zz_k_go f151_2 rfl rfl rfl
theorem f151_5 : zz_fetch zz_prog 151 5 = some (.aload_n 0, 1, [], []) := zz_fetch_of p151 rfl rfl
theorem s151_5 : zz_Run zz_prog d 151 (5, [some (.ref a)], st, k, h) = zz_Run zz_prog d 151 (6, [some (.ref a)], .ref a :: st, k, h) := zz_k_num f151_5 rfl
theorem f151_6 : zz_fetch zz_prog 151 6 = some (.getfield 7, 3, [2, 1, 3], []) := zz_fetch_of p151 rfl rfl
theorem s151_6 : zz_Run zz_prog d 151 (6, [l0], .ref 23 :: st, k, (zz_hp n I J ex)) = zz_Run zz_prog d 151 (9, [l0], .ref 24 :: st, k, (zz_hp n I J ex)) := zz_k_go f151_6 rfl rfl rfl
theorem f151_9 : zz_fetch zz_prog 151 9 = some (.sipush 189, 3, [], []) := zz_fetch_of p151 rfl rfl
theorem s151_9 : zz_Run zz_prog d 151 (9, [l0], st, k, h) = zz_Run zz_prog d 151 (12, [l0], .int 189 :: st, k, h) := zz_k_num f151_9 (congrArg (fun u => some (12, [l0], Value.int u :: st)) (by decide : (Int16.ofInt 189).toInt32 = 189))
theorem f151_12 : zz_fetch zz_prog 151 12 = some (.iaload, 1, [], []) := zz_fetch_of p151 rfl rfl
theorem s151_12 (ha : zz_isrd a = true) : zz_Run zz_prog d 151 (12, [l0], .int v :: .ref a :: st, k, (zz_hp n I J ex)) = zz_ck (zz_in v (zz_ary n a)) (zz_Run zz_prog d 151 (13, [l0], .int (I a v.toNatClampNeg) :: st, k, (zz_hp n I J ex))) := zz_k_iald f151_12 ha
theorem f151_13 : zz_fetch zz_prog 151 13 = some (.ireturn, 1, [0], []) := zz_fetch_of p151 rfl rfl
theorem s151_13 : zz_Run zz_prog d 151 (13, [l0], [.int v], k, h) = some (.inl (some (.int v)), k, h) := zz_k_stop f151_13 rfl rfl rfl
end S151
section S152
variable {d n j : Nat} {l0 l1 l2 : Option Value} {st : List Value} {k : Bool} {h : zz_H} {v w v1 v2 : Int32} {y y1 : Int64} {a a1 a2 : Nat} {b0 b1 b2 b3 b4 b5 b6 b7 b8 : Value} {I : Nat → Nat → Int32} {J : Nat → Nat → Int64} {ex : List (Nat × Nat)}
theorem p152 : zz_prog 152 = some zz_m152 := rfl
theorem e152 (g0 : Nat) (g1 : Int32) (g2 : Int32) : zz_Call zz_prog (d + 1) 152 [.ref g0, .int g1, .int g2] h = zz_Run zz_prog d 152 (0, [some (.ref g0), some (.int g1), some (.int g2)], [], true, h) := rfl
theorem t152 (pc : Nat) (L : List (Option Value)) : zz_th d 152 pc a L k h = some (.inr a, k, h) := zz_th_out p152 rfl
theorem f152_0 : zz_fetch zz_prog 152 0 = some (.aload_n 0, 1, [], []) := zz_fetch_of p152 rfl rfl
theorem s152_0 : zz_Run zz_prog d 152 (0, [some (.ref a), l1, l2], st, k, h) = zz_Run zz_prog d 152 (1, [some (.ref a), l1, l2], .ref a :: st, k, h) := zz_k_num f152_0 rfl
theorem f152_1 : zz_fetch zz_prog 152 1 = some (.iload_n 1, 1, [], []) := zz_fetch_of p152 rfl rfl
theorem s152_1 : zz_Run zz_prog d 152 (1, [l0, some (.int v), l2], st, k, h) = zz_Run zz_prog d 152 (2, [l0, some (.int v), l2], .int v :: st, k, h) := zz_k_num f152_1 rfl
theorem f152_2 : zz_fetch zz_prog 152 2 = some (.ifCond .lt 16, 3, [18], []) := zz_fetch_of p152 rfl rfl
theorem s152_2 : zz_Run zz_prog d 152 (2, [l0, l1, l2], .int v :: st, k, h) = if v < 0 then zz_Run zz_prog d 152 (18, [l0, l1, l2], st, k, h) else zz_Run zz_prog d 152 (5, [l0, l1, l2], st, k, h) := zz_k_br (v < 0) rfl (zz_k_num f152_2 rfl)
theorem f152_5 : zz_fetch zz_prog 152 5 = some (.iload_n 1, 1, [], []) := zz_fetch_of p152 rfl rfl
theorem s152_5 : zz_Run zz_prog d 152 (5, [l0, some (.int v), l2], st, k, h) = zz_Run zz_prog d 152 (6, [l0, some (.int v), l2], .int v :: st, k, h) := zz_k_num f152_5 rfl
theorem f152_6 : zz_fetch zz_prog 152 6 = some (.iconst 1, 1, [], []) := zz_fetch_of p152 rfl rfl
theorem s152_6 : zz_Run zz_prog d 152 (6, [l0, l1, l2], st, k, h) = zz_Run zz_prog d 152 (7, [l0, l1, l2], .int 1 :: st, k, h) := zz_k_num f152_6 rfl
theorem f152_7 : zz_fetch zz_prog 152 7 = some (.if_icmp .gt 11, 3, [18], []) := zz_fetch_of p152 rfl rfl
theorem s152_7 : zz_Run zz_prog d 152 (7, [l0, l1, l2], .int w :: .int v :: st, k, h) = if w < v then zz_Run zz_prog d 152 (18, [l0, l1, l2], st, k, h) else zz_Run zz_prog d 152 (10, [l0, l1, l2], st, k, h) := zz_k_br (w < v) rfl (zz_k_num f152_7 rfl)
theorem f152_10 : zz_fetch zz_prog 152 10 = some (.iload_n 1, 1, [], []) := zz_fetch_of p152 rfl rfl
theorem s152_10 : zz_Run zz_prog d 152 (10, [l0, some (.int v), l2], st, k, h) = zz_Run zz_prog d 152 (11, [l0, some (.int v), l2], .int v :: st, k, h) := zz_k_num f152_10 rfl
theorem f152_11 : zz_fetch zz_prog 152 11 = some (.iload_n 2, 1, [], []) := zz_fetch_of p152 rfl rfl
theorem s152_11 : zz_Run zz_prog d 152 (11, [l0, l1, some (.int v)], st, k, h) = zz_Run zz_prog d 152 (12, [l0, l1, some (.int v)], .int v :: st, k, h) := zz_k_num f152_11 rfl
theorem f152_12 : zz_fetch zz_prog 152 12 = some (.invokestatic 152, 3, [0, 112, 2], []) := zz_fetch_of p152 rfl rfl
theorem s152_12 : zz_Run zz_prog d 152 (12, [l0, l1, l2], [b0, b1, b2], k, h) = zz_ret (zz_Call zz_prog d 112 [b1, b0] h) (fun v k' h' => zz_Run zz_prog d 152 (15, [l0, l1, l2], v.toList ++ [b2], k && k', h')) (fun a k' h' => zz_th d 152 12 a [l0, l1, l2] (k && k') h') := zz_k_call f152_12 rfl rfl rfl
theorem f152_15 : zz_fetch zz_prog 152 15 = some (.ifCond .ne 7, 3, [22], []) := zz_fetch_of p152 rfl rfl
theorem s152_15 : zz_Run zz_prog d 152 (15, [l0, l1, l2], .int v :: st, k, h) = if ¬ v = 0 then zz_Run zz_prog d 152 (22, [l0, l1, l2], st, k, h) else zz_Run zz_prog d 152 (18, [l0, l1, l2], st, k, h) := zz_k_br (¬ v = 0) rfl (zz_k_num f152_15 rfl)
theorem f152_18 : zz_fetch zz_prog 152 18 = some (.iconst 1, 1, [], []) := zz_fetch_of p152 rfl rfl
theorem s152_18 : zz_Run zz_prog d 152 (18, [l0, l1, l2], st, k, h) = zz_Run zz_prog d 152 (19, [l0, l1, l2], .int 1 :: st, k, h) := zz_k_num f152_18 rfl
theorem f152_19 : zz_fetch zz_prog 152 19 = some (.goto 4, 3, [23], []) := zz_fetch_of p152 rfl rfl
theorem s152_19 : zz_Run zz_prog d 152 (19, [l0, l1, l2], st, k, h) = zz_Run zz_prog d 152 (23, [l0, l1, l2], st, k, h) := zz_k_num f152_19 rfl
theorem f152_22 : zz_fetch zz_prog 152 22 = some (.iconst 0, 1, [], []) := zz_fetch_of p152 rfl rfl
theorem s152_22 : zz_Run zz_prog d 152 (22, [l0, l1, l2], st, k, h) = zz_Run zz_prog d 152 (23, [l0, l1, l2], .int 0 :: st, k, h) := zz_k_num f152_22 rfl
theorem f152_23 : zz_fetch zz_prog 152 23 = some (.iconst 0, 1, [], []) := zz_fetch_of p152 rfl rfl
theorem s152_23 : zz_Run zz_prog d 152 (23, [l0, l1, l2], st, k, h) = zz_Run zz_prog d 152 (24, [l0, l1, l2], .int 0 :: st, k, h) := zz_k_num f152_23 rfl
theorem f152_24 : zz_fetch zz_prog 152 24 = some (.iconst 0, 1, [], []) := zz_fetch_of p152 rfl rfl
theorem s152_24 : zz_Run zz_prog d 152 (24, [l0, l1, l2], st, k, h) = zz_Run zz_prog d 152 (25, [l0, l1, l2], .int 0 :: st, k, h) := zz_k_num f152_24 rfl
theorem f152_25 : zz_fetch zz_prog 152 25 = some (.invokevirtual 89, 3, [0, 95, 4, 2], []) := zz_fetch_of p152 rfl rfl
theorem s152_25 : zz_Run zz_prog d 152 (25, [l0, l1, l2], [b0, b1, b2, .ref 23], k, (zz_hp n I J ex)) = zz_ret (zz_Call zz_prog d 95 [.ref 23, b2, b1, b0] (zz_hp n I J ex)) (fun v k' h' => zz_Run zz_prog d 152 (28, [l0, l1, l2], v.toList ++ [], k && k', h')) (fun a k' h' => zz_th d 152 25 a [l0, l1, l2] (k && k') h') := zz_k_call f152_25 rfl rfl rfl
theorem f152_28 : zz_fetch zz_prog 152 28 = some (.ifCond .eq 5, 3, [33], []) := zz_fetch_of p152 rfl rfl
theorem s152_28 : zz_Run zz_prog d 152 (28, [l0, l1, l2], .int v :: st, k, h) = if v = 0 then zz_Run zz_prog d 152 (33, [l0, l1, l2], st, k, h) else zz_Run zz_prog d 152 (31, [l0, l1, l2], st, k, h) := zz_k_br (v = 0) rfl (zz_k_num f152_28 rfl)
theorem f152_31 : zz_fetch zz_prog 152 31 = some (.iconst 0, 1, [], []) := zz_fetch_of p152 rfl rfl
theorem s152_31 : zz_Run zz_prog d 152 (31, [l0, l1, l2], st, k, h) = zz_Run zz_prog d 152 (32, [l0, l1, l2], .int 0 :: st, k, h) := zz_k_num f152_31 rfl
theorem f152_32 : zz_fetch zz_prog 152 32 = some (.ireturn, 1, [0], []) := zz_fetch_of p152 rfl rfl
theorem s152_32 : zz_Run zz_prog d 152 (32, [l0, l1, l2], [.int v], k, h) = some (.inl (some (.int v)), k, h) := zz_k_stop f152_32 rfl rfl rfl
theorem f152_33 : zz_fetch zz_prog 152 33 = some (.iload_n 1, 1, [], []) := zz_fetch_of p152 rfl rfl
theorem s152_33 : zz_Run zz_prog d 152 (33, [l0, some (.int v), l2], st, k, h) = zz_Run zz_prog d 152 (34, [l0, some (.int v), l2], .int v :: st, k, h) := zz_k_num f152_33 rfl
theorem f152_34 : zz_fetch zz_prog 152 34 = some (.ifCond .ne 16, 3, [50], []) := zz_fetch_of p152 rfl rfl
theorem s152_34 : zz_Run zz_prog d 152 (34, [l0, l1, l2], .int v :: st, k, h) = if ¬ v = 0 then zz_Run zz_prog d 152 (50, [l0, l1, l2], st, k, h) else zz_Run zz_prog d 152 (37, [l0, l1, l2], st, k, h) := zz_k_br (¬ v = 0) rfl (zz_k_num f152_34 rfl)
theorem f152_37 : zz_fetch zz_prog 152 37 = some (.aload_n 0, 1, [], []) := zz_fetch_of p152 rfl rfl
theorem s152_37 : zz_Run zz_prog d 152 (37, [some (.ref a), l1, l2], st, k, h) = zz_Run zz_prog d 152 (38, [some (.ref a), l1, l2], .ref a :: st, k, h) := zz_k_num f152_37 rfl
theorem f152_38 : zz_fetch zz_prog 152 38 = some (.getfield 7, 3, [2, 1, 3], []) := zz_fetch_of p152 rfl rfl
theorem s152_38 : zz_Run zz_prog d 152 (38, [l0, l1, l2], .ref 23 :: st, k, (zz_hp n I J ex)) = zz_Run zz_prog d 152 (41, [l0, l1, l2], .ref 24 :: st, k, (zz_hp n I J ex)) := zz_k_go f152_38 rfl rfl rfl
theorem f152_41 : zz_fetch zz_prog 152 41 = some (.iconst 0, 1, [], []) := zz_fetch_of p152 rfl rfl
theorem s152_41 : zz_Run zz_prog d 152 (41, [l0, l1, l2], st, k, h) = zz_Run zz_prog d 152 (42, [l0, l1, l2], .int 0 :: st, k, h) := zz_k_num f152_41 rfl
theorem f152_42 : zz_fetch zz_prog 152 42 = some (.iload_n 2, 1, [], []) := zz_fetch_of p152 rfl rfl
theorem s152_42 : zz_Run zz_prog d 152 (42, [l0, l1, some (.int v)], st, k, h) = zz_Run zz_prog d 152 (43, [l0, l1, some (.int v)], .int v :: st, k, h) := zz_k_num f152_42 rfl
theorem f152_43 : zz_fetch zz_prog 152 43 = some (.iadd, 1, [], []) := zz_fetch_of p152 rfl rfl
theorem s152_43 : zz_Run zz_prog d 152 (43, [l0, l1, l2], .int w :: .int v :: st, k, h) = zz_Run zz_prog d 152 (44, [l0, l1, l2], .int (v + w) :: st, k, h) := zz_k_num f152_43 rfl
theorem f152_44 : zz_fetch zz_prog 152 44 = some (.iaload, 1, [], []) := zz_fetch_of p152 rfl rfl
theorem s152_44 (ha : zz_isrd a = true) : zz_Run zz_prog d 152 (44, [l0, l1, l2], .int v :: .ref a :: st, k, (zz_hp n I J ex)) = zz_ck (zz_in v (zz_ary n a)) (zz_Run zz_prog d 152 (45, [l0, l1, l2], .int (I a v.toNatClampNeg) :: st, k, (zz_hp n I J ex))) := zz_k_iald f152_44 ha
theorem f152_45 : zz_fetch zz_prog 152 45 = some (.iconst 1, 1, [], []) := zz_fetch_of p152 rfl rfl
theorem s152_45 : zz_Run zz_prog d 152 (45, [l0, l1, l2], st, k, h) = zz_Run zz_prog d 152 (46, [l0, l1, l2], .int 1 :: st, k, h) := zz_k_num f152_45 rfl
theorem f152_46 : zz_fetch zz_prog 152 46 = some (.isub, 1, [], []) := zz_fetch_of p152 rfl rfl
theorem s152_46 : zz_Run zz_prog d 152 (46, [l0, l1, l2], .int w :: .int v :: st, k, h) = zz_Run zz_prog d 152 (47, [l0, l1, l2], .int (v - w) :: st, k, h) := zz_k_num f152_46 rfl
theorem f152_47 : zz_fetch zz_prog 152 47 = some (.goto 14, 3, [61], []) := zz_fetch_of p152 rfl rfl
theorem s152_47 : zz_Run zz_prog d 152 (47, [l0, l1, l2], st, k, h) = zz_Run zz_prog d 152 (61, [l0, l1, l2], st, k, h) := zz_k_num f152_47 rfl
theorem f152_50 : zz_fetch zz_prog 152 50 = some (.aload_n 0, 1, [], []) := zz_fetch_of p152 rfl rfl
theorem s152_50 : zz_Run zz_prog d 152 (50, [some (.ref a), l1, l2], st, k, h) = zz_Run zz_prog d 152 (51, [some (.ref a), l1, l2], .ref a :: st, k, h) := zz_k_num f152_50 rfl
theorem f152_51 : zz_fetch zz_prog 152 51 = some (.getfield 7, 3, [2, 1, 3], []) := zz_fetch_of p152 rfl rfl
theorem s152_51 : zz_Run zz_prog d 152 (51, [l0, l1, l2], .ref 23 :: st, k, (zz_hp n I J ex)) = zz_Run zz_prog d 152 (54, [l0, l1, l2], .ref 24 :: st, k, (zz_hp n I J ex)) := zz_k_go f152_51 rfl rfl rfl
theorem f152_54 : zz_fetch zz_prog 152 54 = some (.bipush 72, 2, [], []) := zz_fetch_of p152 rfl rfl
theorem s152_54 : zz_Run zz_prog d 152 (54, [l0, l1, l2], st, k, h) = zz_Run zz_prog d 152 (56, [l0, l1, l2], .int 72 :: st, k, h) := zz_k_num f152_54 (congrArg (fun u => some (56, [l0, l1, l2], Value.int u :: st)) (by decide : (Int8.ofInt 72).toInt32 = 72))
theorem f152_56 : zz_fetch zz_prog 152 56 = some (.iload_n 2, 1, [], []) := zz_fetch_of p152 rfl rfl
theorem s152_56 : zz_Run zz_prog d 152 (56, [l0, l1, some (.int v)], st, k, h) = zz_Run zz_prog d 152 (57, [l0, l1, some (.int v)], .int v :: st, k, h) := zz_k_num f152_56 rfl
theorem f152_57 : zz_fetch zz_prog 152 57 = some (.iadd, 1, [], []) := zz_fetch_of p152 rfl rfl
theorem s152_57 : zz_Run zz_prog d 152 (57, [l0, l1, l2], .int w :: .int v :: st, k, h) = zz_Run zz_prog d 152 (58, [l0, l1, l2], .int (v + w) :: st, k, h) := zz_k_num f152_57 rfl
theorem f152_58 : zz_fetch zz_prog 152 58 = some (.iaload, 1, [], []) := zz_fetch_of p152 rfl rfl
theorem s152_58 (ha : zz_isrd a = true) : zz_Run zz_prog d 152 (58, [l0, l1, l2], .int v :: .ref a :: st, k, (zz_hp n I J ex)) = zz_ck (zz_in v (zz_ary n a)) (zz_Run zz_prog d 152 (59, [l0, l1, l2], .int (I a v.toNatClampNeg) :: st, k, (zz_hp n I J ex))) := zz_k_iald f152_58 ha
theorem f152_59 : zz_fetch zz_prog 152 59 = some (.iconst 1, 1, [], []) := zz_fetch_of p152 rfl rfl
theorem s152_59 : zz_Run zz_prog d 152 (59, [l0, l1, l2], st, k, h) = zz_Run zz_prog d 152 (60, [l0, l1, l2], .int 1 :: st, k, h) := zz_k_num f152_59 rfl
theorem f152_60 : zz_fetch zz_prog 152 60 = some (.isub, 1, [], []) := zz_fetch_of p152 rfl rfl
theorem s152_60 : zz_Run zz_prog d 152 (60, [l0, l1, l2], .int w :: .int v :: st, k, h) = zz_Run zz_prog d 152 (61, [l0, l1, l2], .int (v - w) :: st, k, h) := zz_k_num f152_60 rfl
theorem f152_61 : zz_fetch zz_prog 152 61 = some (.ireturn, 1, [0], []) := zz_fetch_of p152 rfl rfl
theorem s152_61 : zz_Run zz_prog d 152 (61, [l0, l1, l2], [.int v], k, h) = some (.inl (some (.int v)), k, h) := zz_k_stop f152_61 rfl rfl rfl
end S152
section S153
variable {d n j : Nat} {l0 l1 l2 l3 l4 l5 : Option Value} {st : List Value} {k : Bool} {h : zz_H} {v w v1 v2 : Int32} {y y1 : Int64} {a a1 a2 : Nat} {b0 b1 b2 b3 b4 b5 b6 b7 b8 : Value} {I : Nat → Nat → Int32} {J : Nat → Nat → Int64} {ex : List (Nat × Nat)}
theorem p153 : zz_prog 153 = some zz_m153 := rfl
theorem e153 (g0 : Nat) (g1 : Int32) : zz_Call zz_prog (d + 1) 153 [.ref g0, .int g1] h = zz_Run zz_prog d 153 (0, [some (.ref g0), some (.int g1), none, none, none, none], [], true, h) := rfl
theorem t153 (pc : Nat) (L : List (Option Value)) : zz_th d 153 pc a L k h = some (.inr a, k, h) := zz_th_out p153 rfl
theorem f153_0 : zz_fetch zz_prog 153 0 = some (.aload_n 0, 1, [], []) := zz_fetch_of p153 rfl rfl
theorem s153_0 : zz_Run zz_prog d 153 (0, [some (.ref a), l1, l2, l3, l4, l5], st, k, h) = zz_Run zz_prog d 153 (1, [some (.ref a), l1, l2, l3, l4, l5], .ref a :: st, k, h) := zz_k_num f153_0 rfl
theorem f153_1 : zz_fetch zz_prog 153 1 = some (.iconst 0, 1, [], []) := zz_fetch_of p153 rfl rfl
theorem s153_1 : zz_Run zz_prog d 153 (1, [l0, l1, l2, l3, l4, l5], st, k, h) = zz_Run zz_prog d 153 (2, [l0, l1, l2, l3, l4, l5], .int 0 :: st, k, h) := zz_k_num f153_1 rfl
theorem f153_2 : zz_fetch zz_prog 153 2 = some (.putfield 78, 3, [2, 0, 0], []) := zz_fetch_of p153 rfl rfl
theorem s153_2 : zz_Run zz_prog d 153 (2, [l0, l1, l2, l3, l4, l5], .int v :: .ref 23 :: st, k, (zz_hp n I J ex)) = zz_Run zz_prog d 153 (5, [l0, l1, l2, l3, l4, l5], st, false, (zz_hp n (zz_up I 23 0 v) J ex)) := zz_k_go f153_2 rfl rfl rfl
theorem f153_5 : zz_fetch zz_prog 153 5 = some (.iload_n 1, 1, [], []) := zz_fetch_of p153 rfl rfl
theorem s153_5 : zz_Run zz_prog d 153 (5, [l0, some (.int v), l2, l3, l4, l5], st, k, h) = zz_Run zz_prog d 153 (6, [l0, some (.int v), l2, l3, l4, l5], .int v :: st, k, h) := zz_k_num f153_5 rfl
theorem f153_6 : zz_fetch zz_prog 153 6 = some (.istore_n 2, 1, [], []) := zz_fetch_of p153 rfl rfl
theorem s153_6 : zz_Run zz_prog d 153 (6, [l0, l1, l2, l3, l4, l5], .int v :: st, k, h) = zz_sl l1 (zz_Run zz_prog d 153 (7, [l0, l1, some (.int v), l3, l4, l5], st, k, h)) := zz_k_st (j := 2) (u := .int v) f153_6 rfl (fun q hq => by cases hq) rfl (show 2 < 6 by decide) (by cases l1 <;> rfl) rfl
theorem f153_7 : zz_fetch zz_prog 153 7 = some (.iconst 0, 1, [], []) := zz_fetch_of p153 rfl rfl
theorem s153_7 : zz_Run zz_prog d 153 (7, [l0, l1, l2, l3, l4, l5], st, k, h) = zz_Run zz_prog d 153 (8, [l0, l1, l2, l3, l4, l5], .int 0 :: st, k, h) := zz_k_num f153_7 rfl
theorem f153_8 : zz_fetch zz_prog 153 8 = some (.istore_n 3, 1, [], []) := zz_fetch_of p153 rfl rfl
theorem s153_8 : zz_Run zz_prog d 153 (8, [l0, l1, l2, l3, l4, l5], .int v :: st, k, h) = zz_sl l2 (zz_Run zz_prog d 153 (9, [l0, l1, l2, some (.int v), l4, l5], st, k, h)) := zz_k_st (j := 3) (u := .int v) f153_8 rfl (fun q hq => by cases hq) rfl (show 3 < 6 by decide) (by cases l2 <;> rfl) rfl
theorem f153_9 : zz_fetch zz_prog 153 9 = some (.iload_n 3, 1, [], []) := zz_fetch_of p153 rfl rfl
theorem s153_9 : zz_Run zz_prog d 153 (9, [l0, l1, l2, some (.int v), l4, l5], st, k, h) = zz_Run zz_prog d 153 (10, [l0, l1, l2, some (.int v), l4, l5], .int v :: st, k, h) := zz_k_num f153_9 rfl
theorem f153_10 : zz_fetch zz_prog 153 10 = some (.iconst 3, 1, [], []) := zz_fetch_of p153 rfl rfl
theorem s153_10 : zz_Run zz_prog d 153 (10, [l0, l1, l2, l3, l4, l5], st, k, h) = zz_Run zz_prog d 153 (11, [l0, l1, l2, l3, l4, l5], .int 3 :: st, k, h) := zz_k_num f153_10 rfl
theorem f153_11 : zz_fetch zz_prog 153 11 = some (.if_icmp .ge 75, 3, [86], []) := zz_fetch_of p153 rfl rfl
theorem s153_11 : zz_Run zz_prog d 153 (11, [l0, l1, l2, l3, l4, l5], .int w :: .int v :: st, k, h) = if w ≤ v then zz_Run zz_prog d 153 (86, [l0, l1, l2, l3, l4, l5], st, k, h) else zz_Run zz_prog d 153 (14, [l0, l1, l2, l3, l4, l5], st, k, h) := zz_k_br (w ≤ v) rfl (zz_k_num f153_11 rfl)
theorem f153_14 : zz_fetch zz_prog 153 14 = some (.iload_n 1, 1, [], []) := zz_fetch_of p153 rfl rfl
theorem s153_14 : zz_Run zz_prog d 153 (14, [l0, some (.int v), l2, l3, l4, l5], st, k, h) = zz_Run zz_prog d 153 (15, [l0, some (.int v), l2, l3, l4, l5], .int v :: st, k, h) := zz_k_num f153_14 rfl
theorem f153_15 : zz_fetch zz_prog 153 15 = some (.ifCond .lt 71, 3, [86], []) := zz_fetch_of p153 rfl rfl
theorem s153_15 : zz_Run zz_prog d 153 (15, [l0, l1, l2, l3, l4, l5], .int v :: st, k, h) = if v < 0 then zz_Run zz_prog d 153 (86, [l0, l1, l2, l3, l4, l5], st, k, h) else zz_Run zz_prog d 153 (18, [l0, l1, l2, l3, l4, l5], st, k, h) := zz_k_br (v < 0) rfl (zz_k_num f153_15 rfl)
theorem f153_18 : zz_fetch zz_prog 153 18 = some (.aload_n 0, 1, [], []) := zz_fetch_of p153 rfl rfl
theorem s153_18 : zz_Run zz_prog d 153 (18, [some (.ref a), l1, l2, l3, l4, l5], st, k, h) = zz_Run zz_prog d 153 (19, [some (.ref a), l1, l2, l3, l4, l5], .ref a :: st, k, h) := zz_k_num f153_18 rfl
theorem f153_19 : zz_fetch zz_prog 153 19 = some (.iload_n 3, 1, [], []) := zz_fetch_of p153 rfl rfl
theorem s153_19 : zz_Run zz_prog d 153 (19, [l0, l1, l2, some (.int v), l4, l5], st, k, h) = zz_Run zz_prog d 153 (20, [l0, l1, l2, some (.int v), l4, l5], .int v :: st, k, h) := zz_k_num f153_19 rfl
theorem f153_20 : zz_fetch zz_prog 153 20 = some (.invokevirtual 155, 3, [0, 111, 2, 2], []) := zz_fetch_of p153 rfl rfl
theorem s153_20 : zz_Run zz_prog d 153 (20, [l0, l1, l2, l3, l4, l5], [b0, .ref 23], k, (zz_hp n I J ex)) = zz_ret (zz_Call zz_prog d 111 [.ref 23, b0] (zz_hp n I J ex)) (fun v k' h' => zz_Run zz_prog d 153 (23, [l0, l1, l2, l3, l4, l5], v.toList ++ [], k && k', h')) (fun a k' h' => zz_th d 153 20 a [l0, l1, l2, l3, l4, l5] (k && k') h') := zz_k_call f153_20 rfl rfl rfl
theorem f153_23 : zz_fetch zz_prog 153 23 = some (.istore 4, 2, [], []) := zz_fetch_of p153 rfl rfl
theorem s153_23 : zz_Run zz_prog d 153 (23, [l0, l1, l2, l3, l4, l5], .int v :: st, k, h) = zz_sl l3 (zz_Run zz_prog d 153 (25, [l0, l1, l2, l3, some (.int v), l5], st, k, h)) := zz_k_st (j := 4) (u := .int v) f153_23 rfl (fun q hq => by cases hq) rfl (show 4 < 6 by decide) (by cases l3 <;> rfl) rfl
theorem f153_25 : zz_fetch zz_prog 153 25 = some (.iconst 0, 1, [], []) := zz_fetch_of p153 rfl rfl
theorem s153_25 : zz_Run zz_prog d 153 (25, [l0, l1, l2, l3, l4, l5], st, k, h) = zz_Run zz_prog d 153 (26, [l0, l1, l2, l3, l4, l5], .int 0 :: st, k, h) := zz_k_num f153_25 rfl
theorem f153_26 : zz_fetch zz_prog 153 26 = some (.istore 5, 2, [], []) := zz_fetch_of p153 rfl rfl
theorem s153_26 : zz_Run zz_prog d 153 (26, [l0, l1, l2, l3, l4, l5], .int v :: st, k, h) = zz_sl l4 (zz_Run zz_prog d 153 (28, [l0, l1, l2, l3, l4, some (.int v)], st, k, h)) := zz_k_st (j := 5) (u := .int v) f153_26 rfl (fun q hq => by cases hq) rfl (show 5 < 6 by decide) (by cases l4 <;> rfl) rfl
theorem f153_28 : zz_fetch zz_prog 153 28 = some (.iload 5, 2, [], []) := zz_fetch_of p153 rfl rfl
theorem s153_28 : zz_Run zz_prog d 153 (28, [l0, l1, l2, l3, l4, some (.int v)], st, k, h) = zz_Run zz_prog d 153 (30, [l0, l1, l2, l3, l4, some (.int v)], .int v :: st, k, h) := zz_k_num f153_28 rfl
theorem f153_30 : zz_fetch zz_prog 153 30 = some (.bipush 72, 2, [], []) := zz_fetch_of p153 rfl rfl
theorem s153_30 : zz_Run zz_prog d 153 (30, [l0, l1, l2, l3, l4, l5], st, k, h) = zz_Run zz_prog d 153 (32, [l0, l1, l2, l3, l4, l5], .int 72 :: st, k, h) := zz_k_num f153_30 (congrArg (fun u => some (32, [l0, l1, l2, l3, l4, l5], Value.int u :: st)) (by decide : (Int8.ofInt 72).toInt32 = 72))
theorem f153_32 : zz_fetch zz_prog 153 32 = some (.if_icmp .ge 48, 3, [80], []) := zz_fetch_of p153 rfl rfl
theorem s153_32 : zz_Run zz_prog d 153 (32, [l0, l1, l2, l3, l4, l5], .int w :: .int v :: st, k, h) = if w ≤ v then zz_Run zz_prog d 153 (80, [l0, l1, l2, l3, l4, l5], st, k, h) else zz_Run zz_prog d 153 (35, [l0, l1, l2, l3, l4, l5], st, k, h) := zz_k_br (w ≤ v) rfl (zz_k_num f153_32 rfl)
theorem f153_35 : zz_fetch zz_prog 153 35 = some (.iload 4, 2, [], []) := zz_fetch_of p153 rfl rfl
theorem s153_35 : zz_Run zz_prog d 153 (35, [l0, l1, l2, l3, some (.int v), l5], st, k, h) = zz_Run zz_prog d 153 (37, [l0, l1, l2, l3, some (.int v), l5], .int v :: st, k, h) := zz_k_num f153_35 rfl
theorem f153_37 : zz_fetch zz_prog 153 37 = some (.ifCond .eq 43, 3, [80], []) := zz_fetch_of p153 rfl rfl
theorem s153_37 : zz_Run zz_prog d 153 (37, [l0, l1, l2, l3, l4, l5], .int v :: st, k, h) = if v = 0 then zz_Run zz_prog d 153 (80, [l0, l1, l2, l3, l4, l5], st, k, h) else zz_Run zz_prog d 153 (40, [l0, l1, l2, l3, l4, l5], st, k, h) := zz_k_br (v = 0) rfl (zz_k_num f153_37 rfl)
theorem f153_40 : zz_fetch zz_prog 153 40 = some (.iload_n 3, 1, [], []) := zz_fetch_of p153 rfl rfl
theorem s153_40 : zz_Run zz_prog d 153 (40, [l0, l1, l2, some (.int v), l4, l5], st, k, h) = zz_Run zz_prog d 153 (41, [l0, l1, l2, some (.int v), l4, l5], .int v :: st, k, h) := zz_k_num f153_40 rfl
theorem f153_41 : zz_fetch zz_prog 153 41 = some (.iload 5, 2, [], []) := zz_fetch_of p153 rfl rfl
theorem s153_41 : zz_Run zz_prog d 153 (41, [l0, l1, l2, l3, l4, some (.int v)], st, k, h) = zz_Run zz_prog d 153 (43, [l0, l1, l2, l3, l4, some (.int v)], .int v :: st, k, h) := zz_k_num f153_41 rfl
theorem f153_43 : zz_fetch zz_prog 153 43 = some (.invokestatic 152, 3, [0, 112, 2], []) := zz_fetch_of p153 rfl rfl
theorem s153_43 : zz_Run zz_prog d 153 (43, [l0, l1, l2, l3, l4, l5], [b0, b1], k, h) = zz_ret (zz_Call zz_prog d 112 [b1, b0] h) (fun v k' h' => zz_Run zz_prog d 153 (46, [l0, l1, l2, l3, l4, l5], v.toList ++ [], k && k', h')) (fun a k' h' => zz_th d 153 43 a [l0, l1, l2, l3, l4, l5] (k && k') h') := zz_k_call f153_43 rfl rfl rfl
theorem f153_46 : zz_fetch zz_prog 153 46 = some (.ifCond .eq 28, 3, [74], []) := zz_fetch_of p153 rfl rfl
theorem s153_46 : zz_Run zz_prog d 153 (46, [l0, l1, l2, l3, l4, l5], .int v :: st, k, h) = if v = 0 then zz_Run zz_prog d 153 (74, [l0, l1, l2, l3, l4, l5], st, k, h) else zz_Run zz_prog d 153 (49, [l0, l1, l2, l3, l4, l5], st, k, h) := zz_k_br (v = 0) rfl (zz_k_num f153_46 rfl)
theorem f153_49 : zz_fetch zz_prog 153 49 = some (.aload_n 0, 1, [], []) := zz_fetch_of p153 rfl rfl
theorem s153_49 : zz_Run zz_prog d 153 (49, [some (.ref a), l1, l2, l3, l4, l5], st, k, h) = zz_Run zz_prog d 153 (50, [some (.ref a), l1, l2, l3, l4, l5], .ref a :: st, k, h) := zz_k_num f153_49 rfl
theorem f153_50 : zz_fetch zz_prog 153 50 = some (.iload_n 3, 1, [], []) := zz_fetch_of p153 rfl rfl
theorem s153_50 : zz_Run zz_prog d 153 (50, [l0, l1, l2, some (.int v), l4, l5], st, k, h) = zz_Run zz_prog d 153 (51, [l0, l1, l2, some (.int v), l4, l5], .int v :: st, k, h) := zz_k_num f153_50 rfl
theorem f153_51 : zz_fetch zz_prog 153 51 = some (.iload 5, 2, [], []) := zz_fetch_of p153 rfl rfl
theorem s153_51 : zz_Run zz_prog d 153 (51, [l0, l1, l2, l3, l4, some (.int v)], st, k, h) = zz_Run zz_prog d 153 (53, [l0, l1, l2, l3, l4, some (.int v)], .int v :: st, k, h) := zz_k_num f153_51 rfl
theorem f153_53 : zz_fetch zz_prog 153 53 = some (.invokevirtual 149, 3, [0, 107, 3, 2], []) := zz_fetch_of p153 rfl rfl
theorem s153_53 : zz_Run zz_prog d 153 (53, [l0, l1, l2, l3, l4, l5], [b0, b1, .ref 23], k, (zz_hp n I J ex)) = zz_ret (zz_Call zz_prog d 107 [.ref 23, b1, b0] (zz_hp n I J ex)) (fun v k' h' => zz_Run zz_prog d 153 (56, [l0, l1, l2, l3, l4, l5], v.toList ++ [], k && k', h')) (fun a k' h' => zz_th d 153 53 a [l0, l1, l2, l3, l4, l5] (k && k') h') := zz_k_call f153_53 rfl rfl rfl
theorem f153_56 : zz_fetch zz_prog 153 56 = some (.ifCond .eq 18, 3, [74], []) := zz_fetch_of p153 rfl rfl
theorem s153_56 : zz_Run zz_prog d 153 (56, [l0, l1, l2, l3, l4, l5], .int v :: st, k, h) = if v = 0 then zz_Run zz_prog d 153 (74, [l0, l1, l2, l3, l4, l5], st, k, h) else zz_Run zz_prog d 153 (59, [l0, l1, l2, l3, l4, l5], st, k, h) := zz_k_br (v = 0) rfl (zz_k_num f153_56 rfl)
theorem f153_59 : zz_fetch zz_prog 153 59 = some (.iload_n 2, 1, [], []) := zz_fetch_of p153 rfl rfl
theorem s153_59 : zz_Run zz_prog d 153 (59, [l0, l1, some (.int v), l3, l4, l5], st, k, h) = zz_Run zz_prog d 153 (60, [l0, l1, some (.int v), l3, l4, l5], .int v :: st, k, h) := zz_k_num f153_59 rfl
theorem f153_60 : zz_fetch zz_prog 153 60 = some (.ifCond .ne 11, 3, [71], []) := zz_fetch_of p153 rfl rfl
theorem s153_60 : zz_Run zz_prog d 153 (60, [l0, l1, l2, l3, l4, l5], .int v :: st, k, h) = if ¬ v = 0 then zz_Run zz_prog d 153 (71, [l0, l1, l2, l3, l4, l5], st, k, h) else zz_Run zz_prog d 153 (63, [l0, l1, l2, l3, l4, l5], st, k, h) := zz_k_br (¬ v = 0) rfl (zz_k_num f153_60 rfl)
theorem f153_63 : zz_fetch zz_prog 153 63 = some (.bipush 100, 2, [], []) := zz_fetch_of p153 rfl rfl
theorem s153_63 : zz_Run zz_prog d 153 (63, [l0, l1, l2, l3, l4, l5], st, k, h) = zz_Run zz_prog d 153 (65, [l0, l1, l2, l3, l4, l5], .int 100 :: st, k, h) := zz_k_num f153_63 (congrArg (fun u => some (65, [l0, l1, l2, l3, l4, l5], Value.int u :: st)) (by decide : (Int8.ofInt 100).toInt32 = 100))
theorem f153_65 : zz_fetch zz_prog 153 65 = some (.iload_n 3, 1, [], []) := zz_fetch_of p153 rfl rfl
theorem s153_65 : zz_Run zz_prog d 153 (65, [l0, l1, l2, some (.int v), l4, l5], st, k, h) = zz_Run zz_prog d 153 (66, [l0, l1, l2, some (.int v), l4, l5], .int v :: st, k, h) := zz_k_num f153_65 rfl
theorem f153_66 : zz_fetch zz_prog 153 66 = some (.imul, 1, [], []) := zz_fetch_of p153 rfl rfl
theorem s153_66 : zz_Run zz_prog d 153 (66, [l0, l1, l2, l3, l4, l5], .int w :: .int v :: st, k, h) = zz_Run zz_prog d 153 (67, [l0, l1, l2, l3, l4, l5], .int (v * w) :: st, k, h) := zz_k_num f153_66 rfl
theorem f153_67 : zz_fetch zz_prog 153 67 = some (.iload 5, 2, [], []) := zz_fetch_of p153 rfl rfl
theorem s153_67 : zz_Run zz_prog d 153 (67, [l0, l1, l2, l3, l4, some (.int v)], st, k, h) = zz_Run zz_prog d 153 (69, [l0, l1, l2, l3, l4, some (.int v)], .int v :: st, k, h) := zz_k_num f153_67 rfl
theorem f153_69 : zz_fetch zz_prog 153 69 = some (.iadd, 1, [], []) := zz_fetch_of p153 rfl rfl
theorem s153_69 : zz_Run zz_prog d 153 (69, [l0, l1, l2, l3, l4, l5], .int w :: .int v :: st, k, h) = zz_Run zz_prog d 153 (70, [l0, l1, l2, l3, l4, l5], .int (v + w) :: st, k, h) := zz_k_num f153_69 rfl
theorem f153_70 : zz_fetch zz_prog 153 70 = some (.ireturn, 1, [0], []) := zz_fetch_of p153 rfl rfl
theorem s153_70 : zz_Run zz_prog d 153 (70, [l0, l1, l2, l3, l4, l5], [.int v], k, h) = some (.inl (some (.int v)), k, h) := zz_k_stop f153_70 rfl rfl rfl
theorem f153_71 : zz_fetch zz_prog 153 71 = some (.iinc 2 (-1), 3, [], []) := zz_fetch_of p153 rfl rfl
theorem s153_71 : zz_Run zz_prog d 153 (71, [l0, l1, some (.int v), l3, l4, l5], st, k, h) = zz_sl l1 (zz_Run zz_prog d 153 (74, [l0, l1, some (.int (v + (-1))), l3, l4, l5], st, k, h)) := zz_k_st (j := 2) (u := .int (v + (-1))) f153_71 rfl (fun q hq => by cases hq) rfl (show 2 < 6 by decide) (by cases l1 <;> rfl) rfl
theorem f153_74 : zz_fetch zz_prog 153 74 = some (.iinc 5 1, 3, [], []) := zz_fetch_of p153 rfl rfl
theorem s153_74 : zz_Run zz_prog d 153 (74, [l0, l1, l2, l3, l4, some (.int v)], st, k, h) = zz_sl l4 (zz_Run zz_prog d 153 (77, [l0, l1, l2, l3, l4, some (.int (v + 1))], st, k, h)) := zz_k_st (j := 5) (u := .int (v + 1)) f153_74 rfl (fun q hq => by cases hq) rfl (show 5 < 6 by decide) (by cases l4 <;> rfl) rfl
theorem f153_77 : zz_fetch zz_prog 153 77 = some (.goto (-49), 3, [28], []) := zz_fetch_of p153 rfl rfl
theorem s153_77 : zz_Run zz_prog d 153 (77, [l0, l1, l2, l3, l4, l5], st, k, h) = zz_Run zz_prog d 153 (28, [l0, l1, l2, l3, l4, l5], st, k, h) := zz_k_num f153_77 rfl
theorem f153_80 : zz_fetch zz_prog 153 80 = some (.iinc 3 1, 3, [], []) := zz_fetch_of p153 rfl rfl
theorem s153_80 : zz_Run zz_prog d 153 (80, [l0, l1, l2, some (.int v), l4, l5], st, k, h) = zz_sl l2 (zz_Run zz_prog d 153 (83, [l0, l1, l2, some (.int (v + 1)), l4, l5], st, k, h)) := zz_k_st (j := 3) (u := .int (v + 1)) f153_80 rfl (fun q hq => by cases hq) rfl (show 3 < 6 by decide) (by cases l2 <;> rfl) rfl
theorem f153_83 : zz_fetch zz_prog 153 83 = some (.goto (-74), 3, [9], []) := zz_fetch_of p153 rfl rfl
theorem s153_83 : zz_Run zz_prog d 153 (83, [l0, l1, l2, l3, l4, l5], st, k, h) = zz_Run zz_prog d 153 (9, [l0, l1, l2, l3, l4, l5], st, k, h) := zz_k_num f153_83 rfl
theorem f153_86 : zz_fetch zz_prog 153 86 = some (.iconst (-1), 1, [], []) := zz_fetch_of p153 rfl rfl
theorem s153_86 : zz_Run zz_prog d 153 (86, [l0, l1, l2, l3, l4, l5], st, k, h) = zz_Run zz_prog d 153 (87, [l0, l1, l2, l3, l4, l5], .int (-1) :: st, k, h) := zz_k_num f153_86 rfl
theorem f153_87 : zz_fetch zz_prog 153 87 = some (.ireturn, 1, [0], []) := zz_fetch_of p153 rfl rfl
theorem s153_87 : zz_Run zz_prog d 153 (87, [l0, l1, l2, l3, l4, l5], [.int v], k, h) = some (.inl (some (.int v)), k, h) := zz_k_stop f153_87 rfl rfl rfl
end S153
section S154
variable {d n j : Nat} {l0 l1 l2 l3 l4 l5 l6 : Option Value} {st : List Value} {k : Bool} {h : zz_H} {v w v1 v2 : Int32} {y y1 : Int64} {a a1 a2 : Nat} {b0 b1 b2 b3 b4 b5 b6 b7 b8 : Value} {I : Nat → Nat → Int32} {J : Nat → Nat → Int64} {ex : List (Nat × Nat)}
theorem p154 : zz_prog 154 = some zz_m154 := rfl
theorem e154 (g0 : Nat) (g1 : Int32) (g2 : Int32) (g3 : Int32) : zz_Call zz_prog (d + 1) 154 [.ref g0, .int g1, .int g2, .int g3] h = zz_Run zz_prog d 154 (0, [some (.ref g0), some (.int g1), some (.int g2), some (.int g3), none, none, none], [], true, h) := rfl
theorem t154 (pc : Nat) (L : List (Option Value)) : zz_th d 154 pc a L k h = some (.inr a, k, h) := zz_th_out p154 rfl
theorem f154_0 : zz_fetch zz_prog 154 0 = some (.aload_n 0, 1, [], []) := zz_fetch_of p154 rfl rfl
theorem s154_0 : zz_Run zz_prog d 154 (0, [some (.ref a), l1, l2, l3, l4, l5, l6], st, k, h) = zz_Run zz_prog d 154 (1, [some (.ref a), l1, l2, l3, l4, l5, l6], .ref a :: st, k, h) := zz_k_num f154_0 rfl
theorem f154_1 : zz_fetch zz_prog 154 1 = some (.aload_n 0, 1, [], []) := zz_fetch_of p154 rfl rfl
theorem s154_1 : zz_Run zz_prog d 154 (1, [some (.ref a), l1, l2, l3, l4, l5, l6], st, k, h) = zz_Run zz_prog d 154 (2, [some (.ref a), l1, l2, l3, l4, l5, l6], .ref a :: st, k, h) := zz_k_num f154_1 rfl
theorem f154_2 : zz_fetch zz_prog 154 2 = some (.iload_n 1, 1, [], []) := zz_fetch_of p154 rfl rfl
theorem s154_2 : zz_Run zz_prog d 154 (2, [l0, some (.int v), l2, l3, l4, l5, l6], st, k, h) = zz_Run zz_prog d 154 (3, [l0, some (.int v), l2, l3, l4, l5, l6], .int v :: st, k, h) := zz_k_num f154_2 rfl
theorem f154_3 : zz_fetch zz_prog 154 3 = some (.invokevirtual 191, 3, [0, 127, 2, 2], []) := zz_fetch_of p154 rfl rfl
theorem s154_3 : zz_Run zz_prog d 154 (3, [l0, l1, l2, l3, l4, l5, l6], [b0, .ref 23, b2], k, (zz_hp n I J ex)) = zz_ret (zz_Call zz_prog d 127 [.ref 23, b0] (zz_hp n I J ex)) (fun v k' h' => zz_Run zz_prog d 154 (6, [l0, l1, l2, l3, l4, l5, l6], v.toList ++ [b2], k && k', h')) (fun a k' h' => zz_th d 154 3 a [l0, l1, l2, l3, l4, l5, l6] (k && k') h') := zz_k_call f154_3 rfl rfl rfl
theorem f154_6 : zz_fetch zz_prog 154 6 = some (.ifCond .eq 10, 3, [16], []) := zz_fetch_of p154 rfl rfl
theorem s154_6 : zz_Run zz_prog d 154 (6, [l0, l1, l2, l3, l4, l5, l6], .int v :: st, k, h) = if v = 0 then zz_Run zz_prog d 154 (16, [l0, l1, l2, l3, l4, l5, l6], st, k, h) else zz_Run zz_prog d 154 (9, [l0, l1, l2, l3, l4, l5, l6], st, k, h) := zz_k_br (v = 0) rfl (zz_k_num f154_6 rfl)
theorem f154_9 : zz_fetch zz_prog 154 9 = some (.iload_n 2, 1, [], []) := zz_fetch_of p154 rfl rfl
theorem s154_9 : zz_Run zz_prog d 154 (9, [l0, l1, some (.int v), l3, l4, l5, l6], st, k, h) = zz_Run zz_prog d 154 (10, [l0, l1, some (.int v), l3, l4, l5, l6], .int v :: st, k, h) := zz_k_num f154_9 rfl
theorem f154_10 : zz_fetch zz_prog 154 10 = some (.invokestatic 194, 3, [0, 128, 1], []) := zz_fetch_of p154 rfl rfl
theorem s154_10 : zz_Run zz_prog d 154 (10, [l0, l1, l2, l3, l4, l5, l6], [b0, b1], k, h) = zz_ret (zz_Call zz_prog d 128 [b0] h) (fun v k' h' => zz_Run zz_prog d 154 (13, [l0, l1, l2, l3, l4, l5, l6], v.toList ++ [b1], k && k', h')) (fun a k' h' => zz_th d 154 10 a [l0, l1, l2, l3, l4, l5, l6] (k && k') h') := zz_k_call f154_10 rfl rfl rfl
theorem f154_13 : zz_fetch zz_prog 154 13 = some (.ifCond .ne 7, 3, [20], []) := zz_fetch_of p154 rfl rfl
theorem s154_13 : zz_Run zz_prog d 154 (13, [l0, l1, l2, l3, l4, l5, l6], .int v :: st, k, h) = if ¬ v = 0 then zz_Run zz_prog d 154 (20, [l0, l1, l2, l3, l4, l5, l6], st, k, h) else zz_Run zz_prog d 154 (16, [l0, l1, l2, l3, l4, l5, l6], st, k, h) := zz_k_br (¬ v = 0) rfl (zz_k_num f154_13 rfl)
theorem f154_16 : zz_fetch zz_prog 154 16 = some (.iconst 1, 1, [], []) := zz_fetch_of p154 rfl rfl
theorem s154_16 : zz_Run zz_prog d 154 (16, [l0, l1, l2, l3, l4, l5, l6], st, k, h) = zz_Run zz_prog d 154 (17, [l0, l1, l2, l3, l4, l5, l6], .int 1 :: st, k, h) := zz_k_num f154_16 rfl
theorem f154_17 : zz_fetch zz_prog 154 17 = some (.goto 4, 3, [21], []) := zz_fetch_of p154 rfl rfl
theorem s154_17 : zz_Run zz_prog d 154 (17, [l0, l1, l2, l3, l4, l5, l6], st, k, h) = zz_Run zz_prog d 154 (21, [l0, l1, l2, l3, l4, l5, l6], st, k, h) := zz_k_num f154_17 rfl
theorem f154_20 : zz_fetch zz_prog 154 20 = some (.iconst 0, 1, [], []) := zz_fetch_of p154 rfl rfl
theorem s154_20 : zz_Run zz_prog d 154 (20, [l0, l1, l2, l3, l4, l5, l6], st, k, h) = zz_Run zz_prog d 154 (21, [l0, l1, l2, l3, l4, l5, l6], .int 0 :: st, k, h) := zz_k_num f154_20 rfl
theorem f154_21 : zz_fetch zz_prog 154 21 = some (.iload_n 3, 1, [], []) := zz_fetch_of p154 rfl rfl
theorem s154_21 : zz_Run zz_prog d 154 (21, [l0, l1, l2, some (.int v), l4, l5, l6], st, k, h) = zz_Run zz_prog d 154 (22, [l0, l1, l2, some (.int v), l4, l5, l6], .int v :: st, k, h) := zz_k_num f154_21 rfl
theorem f154_22 : zz_fetch zz_prog 154 22 = some (.iconst 1, 1, [], []) := zz_fetch_of p154 rfl rfl
theorem s154_22 : zz_Run zz_prog d 154 (22, [l0, l1, l2, l3, l4, l5, l6], st, k, h) = zz_Run zz_prog d 154 (23, [l0, l1, l2, l3, l4, l5, l6], .int 1 :: st, k, h) := zz_k_num f154_22 rfl
theorem f154_23 : zz_fetch zz_prog 154 23 = some (.if_icmp .lt 8, 3, [31], []) := zz_fetch_of p154 rfl rfl
theorem s154_23 : zz_Run zz_prog d 154 (23, [l0, l1, l2, l3, l4, l5, l6], .int w :: .int v :: st, k, h) = if v < w then zz_Run zz_prog d 154 (31, [l0, l1, l2, l3, l4, l5, l6], st, k, h) else zz_Run zz_prog d 154 (26, [l0, l1, l2, l3, l4, l5, l6], st, k, h) := zz_k_br (v < w) rfl (zz_k_num f154_23 rfl)
theorem f154_26 : zz_fetch zz_prog 154 26 = some (.iload_n 3, 1, [], []) := zz_fetch_of p154 rfl rfl
theorem s154_26 : zz_Run zz_prog d 154 (26, [l0, l1, l2, some (.int v), l4, l5, l6], st, k, h) = zz_Run zz_prog d 154 (27, [l0, l1, l2, some (.int v), l4, l5, l6], .int v :: st, k, h) := zz_k_num f154_26 rfl
theorem f154_27 : zz_fetch zz_prog 154 27 = some (.iconst 3, 1, [], []) := zz_fetch_of p154 rfl rfl
theorem s154_27 : zz_Run zz_prog d 154 (27, [l0, l1, l2, l3, l4, l5, l6], st, k, h) = zz_Run zz_prog d 154 (28, [l0, l1, l2, l3, l4, l5, l6], .int 3 :: st, k, h) := zz_k_num f154_27 rfl
theorem f154_28 : zz_fetch zz_prog 154 28 = some (.if_icmp .le 7, 3, [35], []) := zz_fetch_of p154 rfl rfl
theorem s154_28 : zz_Run zz_prog d 154 (28, [l0, l1, l2, l3, l4, l5, l6], .int w :: .int v :: st, k, h) = if v ≤ w then zz_Run zz_prog d 154 (35, [l0, l1, l2, l3, l4, l5, l6], st, k, h) else zz_Run zz_prog d 154 (31, [l0, l1, l2, l3, l4, l5, l6], st, k, h) := zz_k_br (v ≤ w) rfl (zz_k_num f154_28 rfl)
theorem f154_31 : zz_fetch zz_prog 154 31 = some (.iconst 1, 1, [], []) := zz_fetch_of p154 rfl rfl
theorem s154_31 : zz_Run zz_prog d 154 (31, [l0, l1, l2, l3, l4, l5, l6], st, k, h) = zz_Run zz_prog d 154 (32, [l0, l1, l2, l3, l4, l5, l6], .int 1 :: st, k, h) := zz_k_num f154_31 rfl
theorem f154_32 : zz_fetch zz_prog 154 32 = some (.goto 4, 3, [36], []) := zz_fetch_of p154 rfl rfl
theorem s154_32 : zz_Run zz_prog d 154 (32, [l0, l1, l2, l3, l4, l5, l6], st, k, h) = zz_Run zz_prog d 154 (36, [l0, l1, l2, l3, l4, l5, l6], st, k, h) := zz_k_num f154_32 rfl
theorem f154_35 : zz_fetch zz_prog 154 35 = some (.iconst 0, 1, [], []) := zz_fetch_of p154 rfl rfl
theorem s154_35 : zz_Run zz_prog d 154 (35, [l0, l1, l2, l3, l4, l5, l6], st, k, h) = zz_Run zz_prog d 154 (36, [l0, l1, l2, l3, l4, l5, l6], .int 0 :: st, k, h) := zz_k_num f154_35 rfl
theorem f154_36 : zz_fetch zz_prog 154 36 = some (.iconst 0, 1, [], []) := zz_fetch_of p154 rfl rfl
theorem s154_36 : zz_Run zz_prog d 154 (36, [l0, l1, l2, l3, l4, l5, l6], st, k, h) = zz_Run zz_prog d 154 (37, [l0, l1, l2, l3, l4, l5, l6], .int 0 :: st, k, h) := zz_k_num f154_36 rfl
theorem f154_37 : zz_fetch zz_prog 154 37 = some (.invokevirtual 89, 3, [0, 95, 4, 2], []) := zz_fetch_of p154 rfl rfl
theorem s154_37 : zz_Run zz_prog d 154 (37, [l0, l1, l2, l3, l4, l5, l6], [b0, b1, b2, .ref 23], k, (zz_hp n I J ex)) = zz_ret (zz_Call zz_prog d 95 [.ref 23, b2, b1, b0] (zz_hp n I J ex)) (fun v k' h' => zz_Run zz_prog d 154 (40, [l0, l1, l2, l3, l4, l5, l6], v.toList ++ [], k && k', h')) (fun a k' h' => zz_th d 154 37 a [l0, l1, l2, l3, l4, l5, l6] (k && k') h') := zz_k_call f154_37 rfl rfl rfl
theorem f154_40 : zz_fetch zz_prog 154 40 = some (.ifCond .eq 5, 3, [45], []) := zz_fetch_of p154 rfl rfl
theorem s154_40 : zz_Run zz_prog d 154 (40, [l0, l1, l2, l3, l4, l5, l6], .int v :: st, k, h) = if v = 0 then zz_Run zz_prog d 154 (45, [l0, l1, l2, l3, l4, l5, l6], st, k, h) else zz_Run zz_prog d 154 (43, [l0, l1, l2, l3, l4, l5, l6], st, k, h) := zz_k_br (v = 0) rfl (zz_k_num f154_40 rfl)
theorem f154_43 : zz_fetch zz_prog 154 43 = some (.iconst 0, 1, [], []) := zz_fetch_of p154 rfl rfl
theorem s154_43 : zz_Run zz_prog d 154 (43, [l0, l1, l2, l3, l4, l5, l6], st, k, h) = zz_Run zz_prog d 154 (44, [l0, l1, l2, l3, l4, l5, l6], .int 0 :: st, k, h) := zz_k_num f154_43 rfl
theorem f154_44 : zz_fetch zz_prog 154 44 = some (.ireturn, 1, [0], []) := zz_fetch_of p154 rfl rfl
theorem s154_44 : zz_Run zz_prog d 154 (44, [l0, l1, l2, l3, l4, l5, l6], [.int v], k, h) = some (.inl (some (.int v)), k, h) := zz_k_stop f154_44 rfl rfl rfl
theorem f154_45 : zz_fetch zz_prog 154 45 = some (.iconst 0, 1, [], []) := zz_fetch_of p154 rfl rfl
theorem s154_45 : zz_Run zz_prog d 154 (45, [l0, l1, l2, l3, l4, l5, l6], st, k, h) = zz_Run zz_prog d 154 (46, [l0, l1, l2, l3, l4, l5, l6], .int 0 :: st, k, h) := zz_k_num f154_45 rfl
theorem f154_46 : zz_fetch zz_prog 154 46 = some (.istore 4, 2, [], []) := zz_fetch_of p154 rfl rfl
theorem s154_46 : zz_Run zz_prog d 154 (46, [l0, l1, l2, l3, l4, l5, l6], .int v :: st, k, h) = zz_sl l3 (zz_Run zz_prog d 154 (48, [l0, l1, l2, l3, some (.int v), l5, l6], st, k, h)) := zz_k_st (j := 4) (u := .int v) f154_46 rfl (fun q hq => by cases hq) rfl (show 4 < 7 by decide) (by cases l3 <;> rfl) rfl
theorem f154_48 : zz_fetch zz_prog 154 48 = some (.iconst 0, 1, [], []) := zz_fetch_of p154 rfl rfl
theorem s154_48 : zz_Run zz_prog d 154 (48, [l0, l1, l2, l3, l4, l5, l6], st, k, h) = zz_Run zz_prog d 154 (49, [l0, l1, l2, l3, l4, l5, l6], .int 0 :: st, k, h) := zz_k_num f154_48 rfl
theorem f154_49 : zz_fetch zz_prog 154 49 = some (.istore 5, 2, [], []) := zz_fetch_of p154 rfl rfl
theorem s154_49 : zz_Run zz_prog d 154 (49, [l0, l1, l2, l3, l4, l5, l6], .int v :: st, k, h) = zz_sl l4 (zz_Run zz_prog d 154 (51, [l0, l1, l2, l3, l4, some (.int v), l6], st, k, h)) := zz_k_st (j := 5) (u := .int v) f154_49 rfl (fun q hq => by cases hq) rfl (show 5 < 7 by decide) (by cases l4 <;> rfl) rfl
theorem f154_51 : zz_fetch zz_prog 154 51 = some (.iload 5, 2, [], []) := zz_fetch_of p154 rfl rfl
theorem s154_51 : zz_Run zz_prog d 154 (51, [l0, l1, l2, l3, l4, some (.int v), l6], st, k, h) = zz_Run zz_prog d 154 (53, [l0, l1, l2, l3, l4, some (.int v), l6], .int v :: st, k, h) := zz_k_num f154_51 rfl
theorem f154_53 : zz_fetch zz_prog 154 53 = some (.bipush 19, 2, [], []) := zz_fetch_of p154 rfl rfl
theorem s154_53 : zz_Run zz_prog d 154 (53, [l0, l1, l2, l3, l4, l5, l6], st, k, h) = zz_Run zz_prog d 154 (55, [l0, l1, l2, l3, l4, l5, l6], .int 19 :: st, k, h) := zz_k_num f154_53 (congrArg (fun u => some (55, [l0, l1, l2, l3, l4, l5, l6], Value.int u :: st)) (by decide : (Int8.ofInt 19).toInt32 = 19))
theorem f154_55 : zz_fetch zz_prog 154 55 = some (.if_icmp .ge 71, 3, [126], []) := zz_fetch_of p154 rfl rfl
theorem s154_55 : zz_Run zz_prog d 154 (55, [l0, l1, l2, l3, l4, l5, l6], .int w :: .int v :: st, k, h) = if w ≤ v then zz_Run zz_prog d 154 (126, [l0, l1, l2, l3, l4, l5, l6], st, k, h) else zz_Run zz_prog d 154 (58, [l0, l1, l2, l3, l4, l5, l6], st, k, h) := zz_k_br (w ≤ v) rfl (zz_k_num f154_55 rfl)
theorem f154_58 : zz_fetch zz_prog 154 58 = some (.bipush 6, 2, [], []) := zz_fetch_of p154 rfl rfl
theorem s154_58 : zz_Run zz_prog d 154 (58, [l0, l1, l2, l3, l4, l5, l6], st, k, h) = zz_Run zz_prog d 154 (60, [l0, l1, l2, l3, l4, l5, l6], .int 6 :: st, k, h) := zz_k_num f154_58 (congrArg (fun u => some (60, [l0, l1, l2, l3, l4, l5, l6], Value.int u :: st)) (by decide : (Int8.ofInt 6).toInt32 = 6))
theorem f154_60 : zz_fetch zz_prog 154 60 = some (.bipush 7, 2, [], []) := zz_fetch_of p154 rfl rfl
theorem s154_60 : zz_Run zz_prog d 154 (60, [l0, l1, l2, l3, l4, l5, l6], st, k, h) = zz_Run zz_prog d 154 (62, [l0, l1, l2, l3, l4, l5, l6], .int 7 :: st, k, h) := zz_k_num f154_60 (congrArg (fun u => some (62, [l0, l1, l2, l3, l4, l5, l6], Value.int u :: st)) (by decide : (Int8.ofInt 7).toInt32 = 7))
theorem f154_62 : zz_fetch zz_prog 154 62 = some (.aload_n 0, 1, [], []) := zz_fetch_of p154 rfl rfl
theorem s154_62 : zz_Run zz_prog d 154 (62, [some (.ref a), l1, l2, l3, l4, l5, l6], st, k, h) = zz_Run zz_prog d 154 (63, [some (.ref a), l1, l2, l3, l4, l5, l6], .ref a :: st, k, h) := zz_k_num f154_62 rfl
theorem f154_63 : zz_fetch zz_prog 154 63 = some (.getfield 34, 3, [2, 10, 3], []) := zz_fetch_of p154 rfl rfl
theorem s154_63 : zz_Run zz_prog d 154 (63, [l0, l1, l2, l3, l4, l5, l6], .ref 23 :: st, k, (zz_hp n I J ex)) = zz_Run zz_prog d 154 (66, [l0, l1, l2, l3, l4, l5, l6], .ref 32 :: st, k, (zz_hp n I J ex)) := zz_k_go f154_63 rfl rfl rfl
theorem f154_66 : zz_fetch zz_prog 154 66 = some (.iload 5, 2, [], []) := zz_fetch_of p154 rfl rfl
theorem s154_66 : zz_Run zz_prog d 154 (66, [l0, l1, l2, l3, l4, some (.int v), l6], st, k, h) = zz_Run zz_prog d 154 (68, [l0, l1, l2, l3, l4, some (.int v), l6], .int v :: st, k, h) := zz_k_num f154_66 rfl
theorem f154_68 : zz_fetch zz_prog 154 68 = some (.iaload, 1, [], []) := zz_fetch_of p154 rfl rfl
theorem s154_68 (ha : zz_isrd a = true) : zz_Run zz_prog d 154 (68, [l0, l1, l2, l3, l4, l5, l6], .int v :: .ref a :: st, k, (zz_hp n I J ex)) = zz_ck (zz_in v (zz_ary n a)) (zz_Run zz_prog d 154 (69, [l0, l1, l2, l3, l4, l5, l6], .int (I a v.toNatClampNeg) :: st, k, (zz_hp n I J ex))) := zz_k_iald f154_68 ha
theorem f154_69 : zz_fetch zz_prog 154 69 = some (.isub, 1, [], []) := zz_fetch_of p154 rfl rfl
theorem s154_69 : zz_Run zz_prog d 154 (69, [l0, l1, l2, l3, l4, l5, l6], .int w :: .int v :: st, k, h) = zz_Run zz_prog d 154 (70, [l0, l1, l2, l3, l4, l5, l6], .int (v - w) :: st, k, h) := zz_k_num f154_69 rfl
theorem f154_70 : zz_fetch zz_prog 154 70 = some (.invokestatic 82, 3, [0, 90, 1], []) := zz_fetch_of p154 rfl rfl
theorem s154_70 : zz_Run zz_prog d 154 (70, [l0, l1, l2, l3, l4, l5, l6], [b0, b1], k, h) = zz_ret (zz_Call zz_prog d 90 [b0] h) (fun v k' h' => zz_Run zz_prog d 154 (73, [l0, l1, l2, l3, l4, l5, l6], v.toList ++ [b1], k && k', h')) (fun a k' h' => zz_th d 154 70 a [l0, l1, l2, l3, l4, l5, l6] (k && k') h') := zz_k_call f154_70 rfl rfl rfl
theorem f154_73 : zz_fetch zz_prog 154 73 = some (.isub, 1, [], []) := zz_fetch_of p154 rfl rfl
theorem s154_73 : zz_Run zz_prog d 154 (73, [l0, l1, l2, l3, l4, l5, l6], .int w :: .int v :: st, k, h) = zz_Run zz_prog d 154 (74, [l0, l1, l2, l3, l4, l5, l6], .int (v - w) :: st, k, h) := zz_k_num f154_73 rfl
theorem f154_74 : zz_fetch zz_prog 154 74 = some (.istore 6, 2, [], []) := zz_fetch_of p154 rfl rfl
theorem s154_74 : zz_Run zz_prog d 154 (74, [l0, l1, l2, l3, l4, l5, l6], .int v :: st, k, h) = zz_sl l5 (zz_Run zz_prog d 154 (76, [l0, l1, l2, l3, l4, l5, some (.int v)], st, k, h)) := zz_k_st (j := 6) (u := .int v) f154_74 rfl (fun q hq => by cases hq) rfl (show 6 < 7 by decide) (by cases l5 <;> rfl) rfl
theorem f154_76 : zz_fetch zz_prog 154 76 = some (.aload_n 0, 1, [], []) := zz_fetch_of p154 rfl rfl
theorem s154_76 : zz_Run zz_prog d 154 (76, [some (.ref a), l1, l2, l3, l4, l5, l6], st, k, h) = zz_Run zz_prog d 154 (77, [some (.ref a), l1, l2, l3, l4, l5, l6], .ref a :: st, k, h) := zz_k_num f154_76 rfl
theorem f154_77 : zz_fetch zz_prog 154 77 = some (.getfield 31, 3, [2, 9, 3], []) := zz_fetch_of p154 rfl rfl
theorem s154_77 : zz_Run zz_prog d 154 (77, [l0, l1, l2, l3, l4, l5, l6], .ref 23 :: st, k, (zz_hp n I J ex)) = zz_Run zz_prog d 154 (80, [l0, l1, l2, l3, l4, l5, l6], .ref 31 :: st, k, (zz_hp n I J ex)) := zz_k_go f154_77 rfl rfl rfl
theorem f154_80 : zz_fetch zz_prog 154 80 = some (.iload 5, 2, [], []) := zz_fetch_of p154 rfl rfl
theorem s154_80 : zz_Run zz_prog d 154 (80, [l0, l1, l2, l3, l4, some (.int v), l6], st, k, h) = zz_Run zz_prog d 154 (82, [l0, l1, l2, l3, l4, some (.int v), l6], .int v :: st, k, h) := zz_k_num f154_80 rfl
theorem f154_82 : zz_fetch zz_prog 154 82 = some (.iaload, 1, [], []) := zz_fetch_of p154 rfl rfl
theorem s154_82 (ha : zz_isrd a = true) : zz_Run zz_prog d 154 (82, [l0, l1, l2, l3, l4, l5, l6], .int v :: .ref a :: st, k, (zz_hp n I J ex)) = zz_ck (zz_in v (zz_ary n a)) (zz_Run zz_prog d 154 (83, [l0, l1, l2, l3, l4, l5, l6], .int (I a v.toNatClampNeg) :: st, k, (zz_hp n I J ex))) := zz_k_iald f154_82 ha
theorem f154_83 : zz_fetch zz_prog 154 83 = some (.iload_n 2, 1, [], []) := zz_fetch_of p154 rfl rfl
theorem s154_83 : zz_Run zz_prog d 154 (83, [l0, l1, some (.int v), l3, l4, l5, l6], st, k, h) = zz_Run zz_prog d 154 (84, [l0, l1, some (.int v), l3, l4, l5, l6], .int v :: st, k, h) := zz_k_num f154_83 rfl
theorem f154_84 : zz_fetch zz_prog 154 84 = some (.if_icmp .ne 32, 3, [116], []) := zz_fetch_of p154 rfl rfl
theorem s154_84 : zz_Run zz_prog d 154 (84, [l0, l1, l2, l3, l4, l5, l6], .int w :: .int v :: st, k, h) = if ¬ v = w then zz_Run zz_prog d 154 (116, [l0, l1, l2, l3, l4, l5, l6], st, k, h) else zz_Run zz_prog d 154 (87, [l0, l1, l2, l3, l4, l5, l6], st, k, h) := zz_k_br (¬ v = w) rfl (zz_k_num f154_84 rfl)
theorem f154_87 : zz_fetch zz_prog 154 87 = some (.iload 5, 2, [], []) := zz_fetch_of p154 rfl rfl
theorem s154_87 : zz_Run zz_prog d 154 (87, [l0, l1, l2, l3, l4, some (.int v), l6], st, k, h) = zz_Run zz_prog d 154 (89, [l0, l1, l2, l3, l4, some (.int v), l6], .int v :: st, k, h) := zz_k_num f154_87 rfl
theorem f154_89 : zz_fetch zz_prog 154 89 = some (.aload_n 0, 1, [], []) := zz_fetch_of p154 rfl rfl
theorem s154_89 : zz_Run zz_prog d 154 (89, [some (.ref a), l1, l2, l3, l4, l5, l6], st, k, h) = zz_Run zz_prog d 154 (90, [some (.ref a), l1, l2, l3, l4, l5, l6], .ref a :: st, k, h) := zz_k_num f154_89 rfl
theorem f154_90 : zz_fetch zz_prog 154 90 = some (.getfield 7, 3, [2, 1, 3], []) := zz_fetch_of p154 rfl rfl
theorem s154_90 : zz_Run zz_prog d 154 (90, [l0, l1, l2, l3, l4, l5, l6], .ref 23 :: st, k, (zz_hp n I J ex)) = zz_Run zz_prog d 154 (93, [l0, l1, l2, l3, l4, l5, l6], .ref 24 :: st, k, (zz_hp n I J ex)) := zz_k_go f154_90 rfl rfl rfl
theorem f154_93 : zz_fetch zz_prog 154 93 = some (.sipush 182, 3, [], []) := zz_fetch_of p154 rfl rfl
theorem s154_93 : zz_Run zz_prog d 154 (93, [l0, l1, l2, l3, l4, l5, l6], st, k, h) = zz_Run zz_prog d 154 (96, [l0, l1, l2, l3, l4, l5, l6], .int 182 :: st, k, h) := zz_k_num f154_93 (congrArg (fun u => some (96, [l0, l1, l2, l3, l4, l5, l6], Value.int u :: st)) (by decide : (Int16.ofInt 182).toInt32 = 182))
theorem f154_96 : zz_fetch zz_prog 154 96 = some (.iaload, 1, [], []) := zz_fetch_of p154 rfl rfl
theorem s154_96 (ha : zz_isrd a = true) : zz_Run zz_prog d 154 (96, [l0, l1, l2, l3, l4, l5, l6], .int v :: .ref a :: st, k, (zz_hp n I J ex)) = zz_ck (zz_in v (zz_ary n a)) (zz_Run zz_prog d 154 (97, [l0, l1, l2, l3, l4, l5, l6], .int (I a v.toNatClampNeg) :: st, k, (zz_hp n I J ex))) := zz_k_iald f154_96 ha
theorem f154_97 : zz_fetch zz_prog 154 97 = some (.if_icmp .eq 19, 3, [116], []) := zz_fetch_of p154 rfl rfl
theorem s154_97 : zz_Run zz_prog d 154 (97, [l0, l1, l2, l3, l4, l5, l6], .int w :: .int v :: st, k, h) = if v = w then zz_Run zz_prog d 154 (116, [l0, l1, l2, l3, l4, l5, l6], st, k, h) else zz_Run zz_prog d 154 (100, [l0, l1, l2, l3, l4, l5, l6], st, k, h) := zz_k_br (v = w) rfl (zz_k_num f154_97 rfl)
theorem f154_100 : zz_fetch zz_prog 154 100 = some (.iload 4, 2, [], []) := zz_fetch_of p154 rfl rfl
theorem s154_100 : zz_Run zz_prog d 154 (100, [l0, l1, l2, l3, some (.int v), l5, l6], st, k, h) = zz_Run zz_prog d 154 (102, [l0, l1, l2, l3, some (.int v), l5, l6], .int v :: st, k, h) := zz_k_num f154_100 rfl
theorem f154_102 : zz_fetch zz_prog 154 102 = some (.iload 6, 2, [], []) := zz_fetch_of p154 rfl rfl
theorem s154_102 : zz_Run zz_prog d 154 (102, [l0, l1, l2, l3, l4, l5, some (.int v)], st, k, h) = zz_Run zz_prog d 154 (104, [l0, l1, l2, l3, l4, l5, some (.int v)], .int v :: st, k, h) := zz_k_num f154_102 rfl
theorem f154_104 : zz_fetch zz_prog 154 104 = some (.aload_n 0, 1, [], []) := zz_fetch_of p154 rfl rfl
theorem s154_104 : zz_Run zz_prog d 154 (104, [some (.ref a), l1, l2, l3, l4, l5, l6], st, k, h) = zz_Run zz_prog d 154 (105, [some (.ref a), l1, l2, l3, l4, l5, l6], .ref a :: st, k, h) := zz_k_num f154_104 rfl
theorem f154_105 : zz_fetch zz_prog 154 105 = some (.iload_n 1, 1, [], []) := zz_fetch_of p154 rfl rfl
theorem s154_105 : zz_Run zz_prog d 154 (105, [l0, some (.int v), l2, l3, l4, l5, l6], st, k, h) = zz_Run zz_prog d 154 (106, [l0, some (.int v), l2, l3, l4, l5, l6], .int v :: st, k, h) := zz_k_num f154_105 rfl
theorem f154_106 : zz_fetch zz_prog 154 106 = some (.iload 5, 2, [], []) := zz_fetch_of p154 rfl rfl
theorem s154_106 : zz_Run zz_prog d 154 (106, [l0, l1, l2, l3, l4, some (.int v), l6], st, k, h) = zz_Run zz_prog d 154 (108, [l0, l1, l2, l3, l4, some (.int v), l6], .int v :: st, k, h) := zz_k_num f154_106 rfl
theorem f154_108 : zz_fetch zz_prog 154 108 = some (.invokevirtual 185, 3, [0, 122, 3, 2], []) := zz_fetch_of p154 rfl rfl
theorem s154_108 : zz_Run zz_prog d 154 (108, [l0, l1, l2, l3, l4, l5, l6], [b0, b1, .ref 23, b3, b4], k, (zz_hp n I J ex)) = zz_ret (zz_Call zz_prog d 122 [.ref 23, b1, b0] (zz_hp n I J ex)) (fun v k' h' => zz_Run zz_prog d 154 (111, [l0, l1, l2, l3, l4, l5, l6], v.toList ++ [b3, b4], k && k', h')) (fun a k' h' => zz_th d 154 108 a [l0, l1, l2, l3, l4, l5, l6] (k && k') h') := zz_k_call f154_108 rfl rfl rfl
theorem f154_111 : zz_fetch zz_prog 154 111 = some (.imul, 1, [], []) := zz_fetch_of p154 rfl rfl
theorem s154_111 : zz_Run zz_prog d 154 (111, [l0, l1, l2, l3, l4, l5, l6], .int w :: .int v :: st, k, h) = zz_Run zz_prog d 154 (112, [l0, l1, l2, l3, l4, l5, l6], .int (v * w) :: st, k, h) := zz_k_num f154_111 rfl
theorem f154_112 : zz_fetch zz_prog 154 112 = some (.iadd, 1, [], []) := zz_fetch_of p154 rfl rfl
theorem s154_112 : zz_Run zz_prog d 154 (112, [l0, l1, l2, l3, l4, l5, l6], .int w :: .int v :: st, k, h) = zz_Run zz_prog d 154 (113, [l0, l1, l2, l3, l4, l5, l6], .int (v + w) :: st, k, h) := zz_k_num f154_112 rfl
theorem f154_113 : zz_fetch zz_prog 154 113 = some (.goto 5, 3, [118], []) := zz_fetch_of p154 rfl rfl
theorem s154_113 : zz_Run zz_prog d 154 (113, [l0, l1, l2, l3, l4, l5, l6], st, k, h) = zz_Run zz_prog d 154 (118, [l0, l1, l2, l3, l4, l5, l6], st, k, h) := zz_k_num f154_113 rfl
theorem f154_116 : zz_fetch zz_prog 154 116 = some (.iload 4, 2, [], []) := zz_fetch_of p154 rfl rfl
theorem s154_116 : zz_Run zz_prog d 154 (116, [l0, l1, l2, l3, some (.int v), l5, l6], st, k, h) = zz_Run zz_prog d 154 (118, [l0, l1, l2, l3, some (.int v), l5, l6], .int v :: st, k, h) := zz_k_num f154_116 rfl
theorem f154_118 : zz_fetch zz_prog 154 118 = some (.istore 4, 2, [], []) := zz_fetch_of p154 rfl rfl
theorem s154_118 : zz_Run zz_prog d 154 (118, [l0, l1, l2, l3, l4, l5, l6], .int v :: st, k, h) = zz_sl l3 (zz_Run zz_prog d 154 (120, [l0, l1, l2, l3, some (.int v), l5, l6], st, k, h)) := zz_k_st (j := 4) (u := .int v) f154_118 rfl (fun q hq => by cases hq) rfl (show 4 < 7 by decide) (by cases l3 <;> rfl) rfl
theorem f154_120 : zz_fetch zz_prog 154 120 = some (.iinc 5 1, 3, [], []) := zz_fetch_of p154 rfl rfl
theorem s154_120 : zz_Run zz_prog d 154 (120, [l0, l1, l2, l3, l4, some (.int v), l6], st, k, h) = zz_sl l4 (zz_Run zz_prog d 154 (123, [l0, l1, l2, l3, l4, some (.int (v + 1)), l6], st, k, h)) := zz_k_st (j := 5) (u := .int (v + 1)) f154_120 rfl (fun q hq => by cases hq) rfl (show 5 < 7 by decide) (by cases l4 <;> rfl) rfl
theorem f154_123 : zz_fetch zz_prog 154 123 = some (.goto (-72), 3, [51], []) := zz_fetch_of p154 rfl rfl
theorem s154_123 : zz_Run zz_prog d 154 (123, [l0, l1, l2, l3, l4, l5, l6], st, k, h) = zz_Run zz_prog d 154 (51, [l0, l1, l2, l3, l4, l5, l6], st, k, h) := zz_k_num f154_123 rfl
theorem f154_126 : zz_fetch zz_prog 154 126 = some (.iload_n 3, 1, [], []) := zz_fetch_of p154 rfl rfl
theorem s154_126 : zz_Run zz_prog d 154 (126, [l0, l1, l2, some (.int v), l4, l5, l6], st, k, h) = zz_Run zz_prog d 154 (127, [l0, l1, l2, some (.int v), l4, l5, l6], .int v :: st, k, h) := zz_k_num f154_126 rfl
theorem f154_127 : zz_fetch zz_prog 154 127 = some (.iload 4, 2, [], []) := zz_fetch_of p154 rfl rfl
theorem s154_127 : zz_Run zz_prog d 154 (127, [l0, l1, l2, l3, some (.int v), l5, l6], st, k, h) = zz_Run zz_prog d 154 (129, [l0, l1, l2, l3, some (.int v), l5, l6], .int v :: st, k, h) := zz_k_num f154_127 rfl
theorem f154_129 : zz_fetch zz_prog 154 129 = some (.imul, 1, [], []) := zz_fetch_of p154 rfl rfl
theorem s154_129 : zz_Run zz_prog d 154 (129, [l0, l1, l2, l3, l4, l5, l6], .int w :: .int v :: st, k, h) = zz_Run zz_prog d 154 (130, [l0, l1, l2, l3, l4, l5, l6], .int (v * w) :: st, k, h) := zz_k_num f154_129 rfl
theorem f154_130 : zz_fetch zz_prog 154 130 = some (.iload_n 3, 1, [], []) := zz_fetch_of p154 rfl rfl
theorem s154_130 : zz_Run zz_prog d 154 (130, [l0, l1, l2, some (.int v), l4, l5, l6], st, k, h) = zz_Run zz_prog d 154 (131, [l0, l1, l2, some (.int v), l4, l5, l6], .int v :: st, k, h) := zz_k_num f154_130 rfl
theorem f154_131 : zz_fetch zz_prog 154 131 = some (.iconst 1, 1, [], []) := zz_fetch_of p154 rfl rfl
theorem s154_131 : zz_Run zz_prog d 154 (131, [l0, l1, l2, l3, l4, l5, l6], st, k, h) = zz_Run zz_prog d 154 (132, [l0, l1, l2, l3, l4, l5, l6], .int 1 :: st, k, h) := zz_k_num f154_131 rfl
theorem f154_132 : zz_fetch zz_prog 154 132 = some (.if_icmp .ne 7, 3, [139], []) := zz_fetch_of p154 rfl rfl
theorem s154_132 : zz_Run zz_prog d 154 (132, [l0, l1, l2, l3, l4, l5, l6], .int w :: .int v :: st, k, h) = if ¬ v = w then zz_Run zz_prog d 154 (139, [l0, l1, l2, l3, l4, l5, l6], st, k, h) else zz_Run zz_prog d 154 (135, [l0, l1, l2, l3, l4, l5, l6], st, k, h) := zz_k_br (¬ v = w) rfl (zz_k_num f154_132 rfl)
theorem f154_135 : zz_fetch zz_prog 154 135 = some (.iconst 1, 1, [], []) := zz_fetch_of p154 rfl rfl
theorem s154_135 : zz_Run zz_prog d 154 (135, [l0, l1, l2, l3, l4, l5, l6], st, k, h) = zz_Run zz_prog d 154 (136, [l0, l1, l2, l3, l4, l5, l6], .int 1 :: st, k, h) := zz_k_num f154_135 rfl
theorem f154_136 : zz_fetch zz_prog 154 136 = some (.goto 16, 3, [152], []) := zz_fetch_of p154 rfl rfl
theorem s154_136 : zz_Run zz_prog d 154 (136, [l0, l1, l2, l3, l4, l5, l6], st, k, h) = zz_Run zz_prog d 154 (152, [l0, l1, l2, l3, l4, l5, l6], st, k, h) := zz_k_num f154_136 rfl
theorem f154_139 : zz_fetch zz_prog 154 139 = some (.iload_n 3, 1, [], []) := zz_fetch_of p154 rfl rfl
theorem s154_139 : zz_Run zz_prog d 154 (139, [l0, l1, l2, some (.int v), l4, l5, l6], st, k, h) = zz_Run zz_prog d 154 (140, [l0, l1, l2, some (.int v), l4, l5, l6], .int v :: st, k, h) := zz_k_num f154_139 rfl
theorem f154_140 : zz_fetch zz_prog 154 140 = some (.iconst 2, 1, [], []) := zz_fetch_of p154 rfl rfl
theorem s154_140 : zz_Run zz_prog d 154 (140, [l0, l1, l2, l3, l4, l5, l6], st, k, h) = zz_Run zz_prog d 154 (141, [l0, l1, l2, l3, l4, l5, l6], .int 2 :: st, k, h) := zz_k_num f154_140 rfl
theorem f154_141 : zz_fetch zz_prog 154 141 = some (.if_icmp .ne 8, 3, [149], []) := zz_fetch_of p154 rfl rfl
theorem s154_141 : zz_Run zz_prog d 154 (141, [l0, l1, l2, l3, l4, l5, l6], .int w :: .int v :: st, k, h) = if ¬ v = w then zz_Run zz_prog d 154 (149, [l0, l1, l2, l3, l4, l5, l6], st, k, h) else zz_Run zz_prog d 154 (144, [l0, l1, l2, l3, l4, l5, l6], st, k, h) := zz_k_br (¬ v = w) rfl (zz_k_num f154_141 rfl)
theorem f154_144 : zz_fetch zz_prog 154 144 = some (.bipush 36, 2, [], []) := zz_fetch_of p154 rfl rfl
theorem s154_144 : zz_Run zz_prog d 154 (144, [l0, l1, l2, l3, l4, l5, l6], st, k, h) = zz_Run zz_prog d 154 (146, [l0, l1, l2, l3, l4, l5, l6], .int 36 :: st, k, h) := zz_k_num f154_144 (congrArg (fun u => some (146, [l0, l1, l2, l3, l4, l5, l6], Value.int u :: st)) (by decide : (Int8.ofInt 36).toInt32 = 36))
theorem f154_146 : zz_fetch zz_prog 154 146 = some (.goto 6, 3, [152], []) := zz_fetch_of p154 rfl rfl
theorem s154_146 : zz_Run zz_prog d 154 (146, [l0, l1, l2, l3, l4, l5, l6], st, k, h) = zz_Run zz_prog d 154 (152, [l0, l1, l2, l3, l4, l5, l6], st, k, h) := zz_k_num f154_146 rfl
theorem f154_149 : zz_fetch zz_prog 154 149 = some (.sipush 1296, 3, [], []) := zz_fetch_of p154 rfl rfl
theorem s154_149 : zz_Run zz_prog d 154 (149, [l0, l1, l2, l3, l4, l5, l6], st, k, h) = zz_Run zz_prog d 154 (152, [l0, l1, l2, l3, l4, l5, l6], .int 1296 :: st, k, h) := zz_k_num f154_149 (congrArg (fun u => some (152, [l0, l1, l2, l3, l4, l5, l6], Value.int u :: st)) (by decide : (Int16.ofInt 1296).toInt32 = 1296))
theorem f154_152 : zz_fetch zz_prog 154 152 = some (.imul, 1, [], []) := zz_fetch_of p154 rfl rfl
theorem s154_152 : zz_Run zz_prog d 154 (152, [l0, l1, l2, l3, l4, l5, l6], .int w :: .int v :: st, k, h) = zz_Run zz_prog d 154 (153, [l0, l1, l2, l3, l4, l5, l6], .int (v * w) :: st, k, h) := zz_k_num f154_152 rfl
theorem f154_153 : zz_fetch zz_prog 154 153 = some (.ireturn, 1, [0], []) := zz_fetch_of p154 rfl rfl
theorem s154_153 : zz_Run zz_prog d 154 (153, [l0, l1, l2, l3, l4, l5, l6], [.int v], k, h) = some (.inl (some (.int v)), k, h) := zz_k_stop f154_153 rfl rfl rfl
end S154
section S156
variable {d n j : Nat} {l0 l1 : Option Value} {st : List Value} {k : Bool} {h : zz_H} {v w v1 v2 : Int32} {y y1 : Int64} {a a1 a2 : Nat} {b0 b1 b2 b3 b4 b5 b6 b7 b8 : Value} {I : Nat → Nat → Int32} {J : Nat → Nat → Int64} {ex : List (Nat × Nat)}
theorem p156 : zz_prog 156 = some zz_m156 := rfl
theorem e156 (g0 : Nat) (g1 : Nat) : zz_Call zz_prog (d + 1) 156 [.ref g0, .ref g1] h = zz_Run zz_prog d 156 (0, [some (.ref g0), some (.ref g1)], [], true, h) := rfl
theorem t156 (pc : Nat) (L : List (Option Value)) : zz_th d 156 pc a L k h = some (.inr a, k, h) := zz_th_out p156 rfl
theorem f156_0 : zz_fetch zz_prog 156 0 = some (.aload_n 0, 1, [], []) := zz_fetch_of p156 rfl rfl
theorem s156_0 : zz_Run zz_prog d 156 (0, [some (.ref a), l1], st, k, h) = zz_Run zz_prog d 156 (1, [some (.ref a), l1], .ref a :: st, k, h) := zz_k_num f156_0 rfl
theorem f156_1 : zz_fetch zz_prog 156 1 = some (.aload_n 1, 1, [], []) := zz_fetch_of p156 rfl rfl
theorem s156_1 : zz_Run zz_prog d 156 (1, [l0, some (.ref a)], st, k, h) = zz_Run zz_prog d 156 (2, [l0, some (.ref a)], .ref a :: st, k, h) := zz_k_num f156_1 rfl
theorem f156_2 : zz_fetch zz_prog 156 2 = some (.getfield 9, 3, [0, 0, 0], []) := zz_fetch_of p156 rfl rfl
theorem s156_2 : zz_Run zz_prog d 156 (2, [l0, l1], .ref 9 :: st, k, (zz_hp n I J ex)) = zz_Run zz_prog d 156 (5, [l0, l1], .int (I 9 0) :: st, k, (zz_hp n I J ex)) := zz_k_go f156_2 rfl rfl rfl
theorem s156_2b : zz_Run zz_prog d 156 (2, [l0, l1], .ref 16 :: st, k, (zz_hp n I J ex)) = zz_Run zz_prog d 156 (5, [l0, l1], .int (I 16 0) :: st, k, (zz_hp n I J ex)) := zz_k_go f156_2 rfl rfl rfl
theorem f156_5 : zz_fetch zz_prog 156 5 = some (.putfield 9, 3, [0, 0, 0], []) := zz_fetch_of p156 rfl rfl
theorem s156_5 : zz_Run zz_prog d 156 (5, [l0, l1], .int v :: .ref 9 :: st, k, (zz_hp n I J ex)) = zz_Run zz_prog d 156 (8, [l0, l1], st, false, (zz_hp n (zz_up I 9 0 v) J ex)) := zz_k_go f156_5 rfl rfl rfl
theorem s156_5b : zz_Run zz_prog d 156 (5, [l0, l1], .int v :: .ref 16 :: st, k, (zz_hp n I J ex)) = zz_Run zz_prog d 156 (8, [l0, l1], st, false, (zz_hp n (zz_up I 16 0 v) J ex)) := zz_k_go f156_5 rfl rfl rfl
theorem f156_8 : zz_fetch zz_prog 156 8 = some (.aload_n 0, 1, [], []) := zz_fetch_of p156 rfl rfl
theorem s156_8 : zz_Run zz_prog d 156 (8, [some (.ref a), l1], st, k, h) = zz_Run zz_prog d 156 (9, [some (.ref a), l1], .ref a :: st, k, h) := zz_k_num f156_8 rfl
theorem f156_9 : zz_fetch zz_prog 156 9 = some (.aload_n 1, 1, [], []) := zz_fetch_of p156 rfl rfl
theorem s156_9 : zz_Run zz_prog d 156 (9, [l0, some (.ref a)], st, k, h) = zz_Run zz_prog d 156 (10, [l0, some (.ref a)], .ref a :: st, k, h) := zz_k_num f156_9 rfl
theorem f156_10 : zz_fetch zz_prog 156 10 = some (.getfield 15, 3, [0, 1, 0], []) := zz_fetch_of p156 rfl rfl
theorem s156_10 : zz_Run zz_prog d 156 (10, [l0, l1], .ref 9 :: st, k, (zz_hp n I J ex)) = zz_Run zz_prog d 156 (13, [l0, l1], .int (I 9 1) :: st, k, (zz_hp n I J ex)) := zz_k_go f156_10 rfl rfl rfl
theorem s156_10b : zz_Run zz_prog d 156 (10, [l0, l1], .ref 16 :: st, k, (zz_hp n I J ex)) = zz_Run zz_prog d 156 (13, [l0, l1], .int (I 16 1) :: st, k, (zz_hp n I J ex)) := zz_k_go f156_10 rfl rfl rfl
theorem f156_13 : zz_fetch zz_prog 156 13 = some (.putfield 15, 3, [0, 1, 0], []) := zz_fetch_of p156 rfl rfl
theorem s156_13 : zz_Run zz_prog d 156 (13, [l0, l1], .int v :: .ref 9 :: st, k, (zz_hp n I J ex)) = zz_Run zz_prog d 156 (16, [l0, l1], st, false, (zz_hp n (zz_up I 9 1 v) J ex)) := zz_k_go f156_13 rfl rfl rfl
theorem s156_13b : zz_Run zz_prog d 156 (13, [l0, l1], .int v :: .ref 16 :: st, k, (zz_hp n I J ex)) = zz_Run zz_prog d 156 (16, [l0, l1], st, false, (zz_hp n (zz_up I 16 1 v) J ex)) := zz_k_go f156_13 rfl rfl rfl
theorem f156_16 : zz_fetch zz_prog 156 16 = some (.aload_n 0, 1, [], []) := zz_fetch_of p156 rfl rfl
theorem s156_16 : zz_Run zz_prog d 156 (16, [some (.ref a), l1], st, k, h) = zz_Run zz_prog d 156 (17, [some (.ref a), l1], .ref a :: st, k, h) := zz_k_num f156_16 rfl
theorem f156_17 : zz_fetch zz_prog 156 17 = some (.aload_n 1, 1, [], []) := zz_fetch_of p156 rfl rfl
theorem s156_17 : zz_Run zz_prog d 156 (17, [l0, some (.ref a)], st, k, h) = zz_Run zz_prog d 156 (18, [l0, some (.ref a)], .ref a :: st, k, h) := zz_k_num f156_17 rfl
theorem f156_18 : zz_fetch zz_prog 156 18 = some (.getfield 55, 3, [0, 2, 0], []) := zz_fetch_of p156 rfl rfl
theorem s156_18 : zz_Run zz_prog d 156 (18, [l0, l1], .ref 9 :: st, k, (zz_hp n I J ex)) = zz_Run zz_prog d 156 (21, [l0, l1], .int (I 9 2) :: st, k, (zz_hp n I J ex)) := zz_k_go f156_18 rfl rfl rfl
theorem s156_18b : zz_Run zz_prog d 156 (18, [l0, l1], .ref 16 :: st, k, (zz_hp n I J ex)) = zz_Run zz_prog d 156 (21, [l0, l1], .int (I 16 2) :: st, k, (zz_hp n I J ex)) := zz_k_go f156_18 rfl rfl rfl
theorem f156_21 : zz_fetch zz_prog 156 21 = some (.putfield 55, 3, [0, 2, 0], []) := zz_fetch_of p156 rfl rfl
theorem s156_21 : zz_Run zz_prog d 156 (21, [l0, l1], .int v :: .ref 9 :: st, k, (zz_hp n I J ex)) = zz_Run zz_prog d 156 (24, [l0, l1], st, false, (zz_hp n (zz_up I 9 2 v) J ex)) := zz_k_go f156_21 rfl rfl rfl
theorem s156_21b : zz_Run zz_prog d 156 (21, [l0, l1], .int v :: .ref 16 :: st, k, (zz_hp n I J ex)) = zz_Run zz_prog d 156 (24, [l0, l1], st, false, (zz_hp n (zz_up I 16 2 v) J ex)) := zz_k_go f156_21 rfl rfl rfl
theorem f156_24 : zz_fetch zz_prog 156 24 = some (.aload_n 0, 1, [], []) := zz_fetch_of p156 rfl rfl
theorem s156_24 : zz_Run zz_prog d 156 (24, [some (.ref a), l1], st, k, h) = zz_Run zz_prog d 156 (25, [some (.ref a), l1], .ref a :: st, k, h) := zz_k_num f156_24 rfl
theorem f156_25 : zz_fetch zz_prog 156 25 = some (.aload_n 1, 1, [], []) := zz_fetch_of p156 rfl rfl
theorem s156_25 : zz_Run zz_prog d 156 (25, [l0, some (.ref a)], st, k, h) = zz_Run zz_prog d 156 (26, [l0, some (.ref a)], .ref a :: st, k, h) := zz_k_num f156_25 rfl
theorem f156_26 : zz_fetch zz_prog 156 26 = some (.getfield 18, 3, [0, 3, 0], []) := zz_fetch_of p156 rfl rfl
theorem s156_26 : zz_Run zz_prog d 156 (26, [l0, l1], .ref 9 :: st, k, (zz_hp n I J ex)) = zz_Run zz_prog d 156 (29, [l0, l1], .int (I 9 3) :: st, k, (zz_hp n I J ex)) := zz_k_go f156_26 rfl rfl rfl
theorem s156_26b : zz_Run zz_prog d 156 (26, [l0, l1], .ref 16 :: st, k, (zz_hp n I J ex)) = zz_Run zz_prog d 156 (29, [l0, l1], .int (I 16 3) :: st, k, (zz_hp n I J ex)) := zz_k_go f156_26 rfl rfl rfl
theorem f156_29 : zz_fetch zz_prog 156 29 = some (.putfield 18, 3, [0, 3, 0], []) := zz_fetch_of p156 rfl rfl
theorem s156_29 : zz_Run zz_prog d 156 (29, [l0, l1], .int v :: .ref 9 :: st, k, (zz_hp n I J ex)) = zz_Run zz_prog d 156 (32, [l0, l1], st, false, (zz_hp n (zz_up I 9 3 v) J ex)) := zz_k_go f156_29 rfl rfl rfl
theorem s156_29b : zz_Run zz_prog d 156 (29, [l0, l1], .int v :: .ref 16 :: st, k, (zz_hp n I J ex)) = zz_Run zz_prog d 156 (32, [l0, l1], st, false, (zz_hp n (zz_up I 16 3 v) J ex)) := zz_k_go f156_29 rfl rfl rfl
theorem f156_32 : zz_fetch zz_prog 156 32 = some (.aload_n 0, 1, [], []) := zz_fetch_of p156 rfl rfl
theorem s156_32 : zz_Run zz_prog d 156 (32, [some (.ref a), l1], st, k, h) = zz_Run zz_prog d 156 (33, [some (.ref a), l1], .ref a :: st, k, h) := zz_k_num f156_32 rfl
theorem f156_33 : zz_fetch zz_prog 156 33 = some (.aload_n 1, 1, [], []) := zz_fetch_of p156 rfl rfl
theorem s156_33 : zz_Run zz_prog d 156 (33, [l0, some (.ref a)], st, k, h) = zz_Run zz_prog d 156 (34, [l0, some (.ref a)], .ref a :: st, k, h) := zz_k_num f156_33 rfl
theorem f156_34 : zz_fetch zz_prog 156 34 = some (.getfield 21, 3, [0, 4, 0], []) := zz_fetch_of p156 rfl rfl
theorem s156_34 : zz_Run zz_prog d 156 (34, [l0, l1], .ref 9 :: st, k, (zz_hp n I J ex)) = zz_Run zz_prog d 156 (37, [l0, l1], .int (I 9 4) :: st, k, (zz_hp n I J ex)) := zz_k_go f156_34 rfl rfl rfl
theorem s156_34b : zz_Run zz_prog d 156 (34, [l0, l1], .ref 16 :: st, k, (zz_hp n I J ex)) = zz_Run zz_prog d 156 (37, [l0, l1], .int (I 16 4) :: st, k, (zz_hp n I J ex)) := zz_k_go f156_34 rfl rfl rfl
theorem f156_37 : zz_fetch zz_prog 156 37 = some (.putfield 21, 3, [0, 4, 0], []) := zz_fetch_of p156 rfl rfl
theorem s156_37 : zz_Run zz_prog d 156 (37, [l0, l1], .int v :: .ref 9 :: st, k, (zz_hp n I J ex)) = zz_Run zz_prog d 156 (40, [l0, l1], st, false, (zz_hp n (zz_up I 9 4 v) J ex)) := zz_k_go f156_37 rfl rfl rfl
theorem s156_37b : zz_Run zz_prog d 156 (37, [l0, l1], .int v :: .ref 16 :: st, k, (zz_hp n I J ex)) = zz_Run zz_prog d 156 (40, [l0, l1], st, false, (zz_hp n (zz_up I 16 4 v) J ex)) := zz_k_go f156_37 rfl rfl rfl
theorem f156_40 : zz_fetch zz_prog 156 40 = some (.aload_n 0, 1, [], []) := zz_fetch_of p156 rfl rfl
theorem s156_40 : zz_Run zz_prog d 156 (40, [some (.ref a), l1], st, k, h) = zz_Run zz_prog d 156 (41, [some (.ref a), l1], .ref a :: st, k, h) := zz_k_num f156_40 rfl
theorem f156_41 : zz_fetch zz_prog 156 41 = some (.aload_n 1, 1, [], []) := zz_fetch_of p156 rfl rfl
theorem s156_41 : zz_Run zz_prog d 156 (41, [l0, some (.ref a)], st, k, h) = zz_Run zz_prog d 156 (42, [l0, some (.ref a)], .ref a :: st, k, h) := zz_k_num f156_41 rfl
theorem f156_42 : zz_fetch zz_prog 156 42 = some (.getfield 58, 3, [0, 5, 0], []) := zz_fetch_of p156 rfl rfl
theorem s156_42 : zz_Run zz_prog d 156 (42, [l0, l1], .ref 9 :: st, k, (zz_hp n I J ex)) = zz_Run zz_prog d 156 (45, [l0, l1], .int (I 9 5) :: st, k, (zz_hp n I J ex)) := zz_k_go f156_42 rfl rfl rfl
theorem s156_42b : zz_Run zz_prog d 156 (42, [l0, l1], .ref 16 :: st, k, (zz_hp n I J ex)) = zz_Run zz_prog d 156 (45, [l0, l1], .int (I 16 5) :: st, k, (zz_hp n I J ex)) := zz_k_go f156_42 rfl rfl rfl
theorem f156_45 : zz_fetch zz_prog 156 45 = some (.putfield 58, 3, [0, 5, 0], []) := zz_fetch_of p156 rfl rfl
theorem s156_45 : zz_Run zz_prog d 156 (45, [l0, l1], .int v :: .ref 9 :: st, k, (zz_hp n I J ex)) = zz_Run zz_prog d 156 (48, [l0, l1], st, false, (zz_hp n (zz_up I 9 5 v) J ex)) := zz_k_go f156_45 rfl rfl rfl
theorem s156_45b : zz_Run zz_prog d 156 (45, [l0, l1], .int v :: .ref 16 :: st, k, (zz_hp n I J ex)) = zz_Run zz_prog d 156 (48, [l0, l1], st, false, (zz_hp n (zz_up I 16 5 v) J ex)) := zz_k_go f156_45 rfl rfl rfl
theorem f156_48 : zz_fetch zz_prog 156 48 = some (.aload_n 0, 1, [], []) := zz_fetch_of p156 rfl rfl
theorem s156_48 : zz_Run zz_prog d 156 (48, [some (.ref a), l1], st, k, h) = zz_Run zz_prog d 156 (49, [some (.ref a), l1], .ref a :: st, k, h) := zz_k_num f156_48 rfl
theorem f156_49 : zz_fetch zz_prog 156 49 = some (.aload_n 1, 1, [], []) := zz_fetch_of p156 rfl rfl
theorem s156_49 : zz_Run zz_prog d 156 (49, [l0, some (.ref a)], st, k, h) = zz_Run zz_prog d 156 (50, [l0, some (.ref a)], .ref a :: st, k, h) := zz_k_num f156_49 rfl
theorem f156_50 : zz_fetch zz_prog 156 50 = some (.getfield 61, 3, [0, 6, 0], []) := zz_fetch_of p156 rfl rfl
theorem s156_50 : zz_Run zz_prog d 156 (50, [l0, l1], .ref 9 :: st, k, (zz_hp n I J ex)) = zz_Run zz_prog d 156 (53, [l0, l1], .int (I 9 6) :: st, k, (zz_hp n I J ex)) := zz_k_go f156_50 rfl rfl rfl
theorem s156_50b : zz_Run zz_prog d 156 (50, [l0, l1], .ref 16 :: st, k, (zz_hp n I J ex)) = zz_Run zz_prog d 156 (53, [l0, l1], .int (I 16 6) :: st, k, (zz_hp n I J ex)) := zz_k_go f156_50 rfl rfl rfl
theorem f156_53 : zz_fetch zz_prog 156 53 = some (.putfield 61, 3, [0, 6, 0], []) := zz_fetch_of p156 rfl rfl
theorem s156_53 : zz_Run zz_prog d 156 (53, [l0, l1], .int v :: .ref 9 :: st, k, (zz_hp n I J ex)) = zz_Run zz_prog d 156 (56, [l0, l1], st, false, (zz_hp n (zz_up I 9 6 v) J ex)) := zz_k_go f156_53 rfl rfl rfl
theorem s156_53b : zz_Run zz_prog d 156 (53, [l0, l1], .int v :: .ref 16 :: st, k, (zz_hp n I J ex)) = zz_Run zz_prog d 156 (56, [l0, l1], st, false, (zz_hp n (zz_up I 16 6 v) J ex)) := zz_k_go f156_53 rfl rfl rfl
theorem f156_56 : zz_fetch zz_prog 156 56 = some (.aload_n 0, 1, [], []) := zz_fetch_of p156 rfl rfl
theorem s156_56 : zz_Run zz_prog d 156 (56, [some (.ref a), l1], st, k, h) = zz_Run zz_prog d 156 (57, [some (.ref a), l1], .ref a :: st, k, h) := zz_k_num f156_56 rfl
theorem f156_57 : zz_fetch zz_prog 156 57 = some (.aload_n 1, 1, [], []) := zz_fetch_of p156 rfl rfl
theorem s156_57 : zz_Run zz_prog d 156 (57, [l0, some (.ref a)], st, k, h) = zz_Run zz_prog d 156 (58, [l0, some (.ref a)], .ref a :: st, k, h) := zz_k_num f156_57 rfl
theorem f156_58 : zz_fetch zz_prog 156 58 = some (.getfield 24, 3, [0, 7, 0], []) := zz_fetch_of p156 rfl rfl
theorem s156_58 : zz_Run zz_prog d 156 (58, [l0, l1], .ref 9 :: st, k, (zz_hp n I J ex)) = zz_Run zz_prog d 156 (61, [l0, l1], .int (I 9 7) :: st, k, (zz_hp n I J ex)) := zz_k_go f156_58 rfl rfl rfl
theorem s156_58b : zz_Run zz_prog d 156 (58, [l0, l1], .ref 16 :: st, k, (zz_hp n I J ex)) = zz_Run zz_prog d 156 (61, [l0, l1], .int (I 16 7) :: st, k, (zz_hp n I J ex)) := zz_k_go f156_58 rfl rfl rfl
theorem f156_61 : zz_fetch zz_prog 156 61 = some (.putfield 24, 3, [0, 7, 0], []) := zz_fetch_of p156 rfl rfl
theorem s156_61 : zz_Run zz_prog d 156 (61, [l0, l1], .int v :: .ref 9 :: st, k, (zz_hp n I J ex)) = zz_Run zz_prog d 156 (64, [l0, l1], st, false, (zz_hp n (zz_up I 9 7 v) J ex)) := zz_k_go f156_61 rfl rfl rfl
theorem s156_61b : zz_Run zz_prog d 156 (61, [l0, l1], .int v :: .ref 16 :: st, k, (zz_hp n I J ex)) = zz_Run zz_prog d 156 (64, [l0, l1], st, false, (zz_hp n (zz_up I 16 7 v) J ex)) := zz_k_go f156_61 rfl rfl rfl
theorem f156_64 : zz_fetch zz_prog 156 64 = some (.aload_n 0, 1, [], []) := zz_fetch_of p156 rfl rfl
theorem s156_64 : zz_Run zz_prog d 156 (64, [some (.ref a), l1], st, k, h) = zz_Run zz_prog d 156 (65, [some (.ref a), l1], .ref a :: st, k, h) := zz_k_num f156_64 rfl
theorem f156_65 : zz_fetch zz_prog 156 65 = some (.aload_n 1, 1, [], []) := zz_fetch_of p156 rfl rfl
theorem s156_65 : zz_Run zz_prog d 156 (65, [l0, some (.ref a)], st, k, h) = zz_Run zz_prog d 156 (66, [l0, some (.ref a)], .ref a :: st, k, h) := zz_k_num f156_65 rfl
theorem f156_66 : zz_fetch zz_prog 156 66 = some (.getfield 64, 3, [0, 8, 0], []) := zz_fetch_of p156 rfl rfl
theorem s156_66 : zz_Run zz_prog d 156 (66, [l0, l1], .ref 9 :: st, k, (zz_hp n I J ex)) = zz_Run zz_prog d 156 (69, [l0, l1], .int (I 9 8) :: st, k, (zz_hp n I J ex)) := zz_k_go f156_66 rfl rfl rfl
theorem s156_66b : zz_Run zz_prog d 156 (66, [l0, l1], .ref 16 :: st, k, (zz_hp n I J ex)) = zz_Run zz_prog d 156 (69, [l0, l1], .int (I 16 8) :: st, k, (zz_hp n I J ex)) := zz_k_go f156_66 rfl rfl rfl
theorem f156_69 : zz_fetch zz_prog 156 69 = some (.putfield 64, 3, [0, 8, 0], []) := zz_fetch_of p156 rfl rfl
theorem s156_69 : zz_Run zz_prog d 156 (69, [l0, l1], .int v :: .ref 9 :: st, k, (zz_hp n I J ex)) = zz_Run zz_prog d 156 (72, [l0, l1], st, false, (zz_hp n (zz_up I 9 8 v) J ex)) := zz_k_go f156_69 rfl rfl rfl
theorem s156_69b : zz_Run zz_prog d 156 (69, [l0, l1], .int v :: .ref 16 :: st, k, (zz_hp n I J ex)) = zz_Run zz_prog d 156 (72, [l0, l1], st, false, (zz_hp n (zz_up I 16 8 v) J ex)) := zz_k_go f156_69 rfl rfl rfl
theorem f156_72 : zz_fetch zz_prog 156 72 = some (.aload_n 0, 1, [], []) := zz_fetch_of p156 rfl rfl
theorem s156_72 : zz_Run zz_prog d 156 (72, [some (.ref a), l1], st, k, h) = zz_Run zz_prog d 156 (73, [some (.ref a), l1], .ref a :: st, k, h) := zz_k_num f156_72 rfl
theorem f156_73 : zz_fetch zz_prog 156 73 = some (.aload_n 1, 1, [], []) := zz_fetch_of p156 rfl rfl
theorem s156_73 : zz_Run zz_prog d 156 (73, [l0, some (.ref a)], st, k, h) = zz_Run zz_prog d 156 (74, [l0, some (.ref a)], .ref a :: st, k, h) := zz_k_num f156_73 rfl
theorem f156_74 : zz_fetch zz_prog 156 74 = some (.getfield 67, 3, [0, 9, 0], []) := zz_fetch_of p156 rfl rfl
theorem s156_74 : zz_Run zz_prog d 156 (74, [l0, l1], .ref 9 :: st, k, (zz_hp n I J ex)) = zz_Run zz_prog d 156 (77, [l0, l1], .int (I 9 9) :: st, k, (zz_hp n I J ex)) := zz_k_go f156_74 rfl rfl rfl
theorem s156_74b : zz_Run zz_prog d 156 (74, [l0, l1], .ref 16 :: st, k, (zz_hp n I J ex)) = zz_Run zz_prog d 156 (77, [l0, l1], .int (I 16 9) :: st, k, (zz_hp n I J ex)) := zz_k_go f156_74 rfl rfl rfl
theorem f156_77 : zz_fetch zz_prog 156 77 = some (.putfield 67, 3, [0, 9, 0], []) := zz_fetch_of p156 rfl rfl
theorem s156_77 : zz_Run zz_prog d 156 (77, [l0, l1], .int v :: .ref 9 :: st, k, (zz_hp n I J ex)) = zz_Run zz_prog d 156 (80, [l0, l1], st, false, (zz_hp n (zz_up I 9 9 v) J ex)) := zz_k_go f156_77 rfl rfl rfl
theorem s156_77b : zz_Run zz_prog d 156 (77, [l0, l1], .int v :: .ref 16 :: st, k, (zz_hp n I J ex)) = zz_Run zz_prog d 156 (80, [l0, l1], st, false, (zz_hp n (zz_up I 16 9 v) J ex)) := zz_k_go f156_77 rfl rfl rfl
theorem f156_80 : zz_fetch zz_prog 156 80 = some (.aload_n 0, 1, [], []) := zz_fetch_of p156 rfl rfl
theorem s156_80 : zz_Run zz_prog d 156 (80, [some (.ref a), l1], st, k, h) = zz_Run zz_prog d 156 (81, [some (.ref a), l1], .ref a :: st, k, h) := zz_k_num f156_80 rfl
theorem f156_81 : zz_fetch zz_prog 156 81 = some (.aload_n 1, 1, [], []) := zz_fetch_of p156 rfl rfl
theorem s156_81 : zz_Run zz_prog d 156 (81, [l0, some (.ref a)], st, k, h) = zz_Run zz_prog d 156 (82, [l0, some (.ref a)], .ref a :: st, k, h) := zz_k_num f156_81 rfl
theorem f156_82 : zz_fetch zz_prog 156 82 = some (.getfield 27, 3, [0, 10, 0], []) := zz_fetch_of p156 rfl rfl
theorem s156_82 : zz_Run zz_prog d 156 (82, [l0, l1], .ref 9 :: st, k, (zz_hp n I J ex)) = zz_Run zz_prog d 156 (85, [l0, l1], .int (I 9 10) :: st, k, (zz_hp n I J ex)) := zz_k_go f156_82 rfl rfl rfl
theorem s156_82b : zz_Run zz_prog d 156 (82, [l0, l1], .ref 16 :: st, k, (zz_hp n I J ex)) = zz_Run zz_prog d 156 (85, [l0, l1], .int (I 16 10) :: st, k, (zz_hp n I J ex)) := zz_k_go f156_82 rfl rfl rfl
theorem f156_85 : zz_fetch zz_prog 156 85 = some (.putfield 27, 3, [0, 10, 0], []) := zz_fetch_of p156 rfl rfl
theorem s156_85 : zz_Run zz_prog d 156 (85, [l0, l1], .int v :: .ref 9 :: st, k, (zz_hp n I J ex)) = zz_Run zz_prog d 156 (88, [l0, l1], st, false, (zz_hp n (zz_up I 9 10 v) J ex)) := zz_k_go f156_85 rfl rfl rfl
theorem s156_85b : zz_Run zz_prog d 156 (85, [l0, l1], .int v :: .ref 16 :: st, k, (zz_hp n I J ex)) = zz_Run zz_prog d 156 (88, [l0, l1], st, false, (zz_hp n (zz_up I 16 10 v) J ex)) := zz_k_go f156_85 rfl rfl rfl
theorem f156_88 : zz_fetch zz_prog 156 88 = some (.aload_n 0, 1, [], []) := zz_fetch_of p156 rfl rfl
theorem s156_88 : zz_Run zz_prog d 156 (88, [some (.ref a), l1], st, k, h) = zz_Run zz_prog d 156 (89, [some (.ref a), l1], .ref a :: st, k, h) := zz_k_num f156_88 rfl
theorem f156_89 : zz_fetch zz_prog 156 89 = some (.aload_n 1, 1, [], []) := zz_fetch_of p156 rfl rfl
theorem s156_89 : zz_Run zz_prog d 156 (89, [l0, some (.ref a)], st, k, h) = zz_Run zz_prog d 156 (90, [l0, some (.ref a)], .ref a :: st, k, h) := zz_k_num f156_89 rfl
theorem f156_90 : zz_fetch zz_prog 156 90 = some (.getfield 70, 3, [0, 11, 1], []) := zz_fetch_of p156 rfl rfl
theorem s156_90 : zz_Run zz_prog d 156 (90, [l0, l1], .ref 9 :: st, k, (zz_hp n I J ex)) = zz_Run zz_prog d 156 (93, [l0, l1], .int (I 9 11) :: st, k, (zz_hp n I J ex)) := zz_k_go f156_90 rfl rfl rfl
theorem s156_90b : zz_Run zz_prog d 156 (90, [l0, l1], .ref 16 :: st, k, (zz_hp n I J ex)) = zz_Run zz_prog d 156 (93, [l0, l1], .int (I 16 11) :: st, k, (zz_hp n I J ex)) := zz_k_go f156_90 rfl rfl rfl
theorem f156_93 : zz_fetch zz_prog 156 93 = some (.putfield 70, 3, [0, 11, 1], []) := zz_fetch_of p156 rfl rfl
theorem s156_93 : zz_Run zz_prog d 156 (93, [l0, l1], .int v :: .ref 9 :: st, k, (zz_hp n I J ex)) = zz_ck (decide (v = 0 ∨ v = 1)) (zz_Run zz_prog d 156 (96, [l0, l1], st, false, (zz_hp n (zz_up I 9 11 v) J ex))) := zz_k_putz f156_93 rfl
theorem s156_93b : zz_Run zz_prog d 156 (93, [l0, l1], .int v :: .ref 16 :: st, k, (zz_hp n I J ex)) = zz_ck (decide (v = 0 ∨ v = 1)) (zz_Run zz_prog d 156 (96, [l0, l1], st, false, (zz_hp n (zz_up I 16 11 v) J ex))) := zz_k_putz f156_93 rfl
theorem f156_96 : zz_fetch zz_prog 156 96 = some (.aload_n 1, 1, [], []) := zz_fetch_of p156 rfl rfl
theorem s156_96 : zz_Run zz_prog d 156 (96, [l0, some (.ref a)], st, k, h) = zz_Run zz_prog d 156 (97, [l0, some (.ref a)], .ref a :: st, k, h) := zz_k_num f156_96 rfl
theorem f156_97 : zz_fetch zz_prog 156 97 = some (.getfield 30, 3, [0, 12, 3], []) := zz_fetch_of p156 rfl rfl
theorem s156_97 : zz_Run zz_prog d 156 (97, [l0, l1], .ref 9 :: st, k, (zz_hp n I J ex)) = zz_Run zz_prog d 156 (100, [l0, l1], .ref 10 :: st, k, (zz_hp n I J ex)) := zz_k_go f156_97 rfl rfl rfl
theorem s156_97b : zz_Run zz_prog d 156 (97, [l0, l1], .ref 16 :: st, k, (zz_hp n I J ex)) = zz_Run zz_prog d 156 (100, [l0, l1], .ref 17 :: st, k, (zz_hp n I J ex)) := zz_k_go f156_97 rfl rfl rfl
theorem f156_100 : zz_fetch zz_prog 156 100 = some (.iconst 0, 1, [], []) := zz_fetch_of p156 rfl rfl
theorem s156_100 : zz_Run zz_prog d 156 (100, [l0, l1], st, k, h) = zz_Run zz_prog d 156 (101, [l0, l1], .int 0 :: st, k, h) := zz_k_num f156_100 rfl
theorem f156_101 : zz_fetch zz_prog 156 101 = some (.aload_n 0, 1, [], []) := zz_fetch_of p156 rfl rfl
theorem s156_101 : zz_Run zz_prog d 156 (101, [some (.ref a), l1], st, k, h) = zz_Run zz_prog d 156 (102, [some (.ref a), l1], .ref a :: st, k, h) := zz_k_num f156_101 rfl
theorem f156_102 : zz_fetch zz_prog 156 102 = some (.getfield 30, 3, [0, 12, 3], []) := zz_fetch_of p156 rfl rfl
theorem s156_102 : zz_Run zz_prog d 156 (102, [l0, l1], .ref 9 :: st, k, (zz_hp n I J ex)) = zz_Run zz_prog d 156 (105, [l0, l1], .ref 10 :: st, k, (zz_hp n I J ex)) := zz_k_go f156_102 rfl rfl rfl
theorem s156_102b : zz_Run zz_prog d 156 (102, [l0, l1], .ref 16 :: st, k, (zz_hp n I J ex)) = zz_Run zz_prog d 156 (105, [l0, l1], .ref 17 :: st, k, (zz_hp n I J ex)) := zz_k_go f156_102 rfl rfl rfl
theorem f156_105 : zz_fetch zz_prog 156 105 = some (.iconst 0, 1, [], []) := zz_fetch_of p156 rfl rfl
theorem s156_105 : zz_Run zz_prog d 156 (105, [l0, l1], st, k, h) = zz_Run zz_prog d 156 (106, [l0, l1], .int 0 :: st, k, h) := zz_k_num f156_105 rfl
theorem f156_106 : zz_fetch zz_prog 156 106 = some (.aload_n 0, 1, [], []) := zz_fetch_of p156 rfl rfl
theorem s156_106 : zz_Run zz_prog d 156 (106, [some (.ref a), l1], st, k, h) = zz_Run zz_prog d 156 (107, [some (.ref a), l1], .ref a :: st, k, h) := zz_k_num f156_106 rfl
theorem f156_107 : zz_fetch zz_prog 156 107 = some (.getfield 30, 3, [0, 12, 3], []) := zz_fetch_of p156 rfl rfl
theorem s156_107 : zz_Run zz_prog d 156 (107, [l0, l1], .ref 9 :: st, k, (zz_hp n I J ex)) = zz_Run zz_prog d 156 (110, [l0, l1], .ref 10 :: st, k, (zz_hp n I J ex)) := zz_k_go f156_107 rfl rfl rfl
theorem s156_107b : zz_Run zz_prog d 156 (107, [l0, l1], .ref 16 :: st, k, (zz_hp n I J ex)) = zz_Run zz_prog d 156 (110, [l0, l1], .ref 17 :: st, k, (zz_hp n I J ex)) := zz_k_go f156_107 rfl rfl rfl
theorem f156_110 : zz_fetch zz_prog 156 110 = some (.arraylength, 1, [], []) := zz_fetch_of p156 rfl rfl
theorem s156_110 (ha : zz_isrd a = true) : zz_Run zz_prog d 156 (110, [l0, l1], .ref a :: st, k, (zz_hp n I J ex)) = zz_Run zz_prog d 156 (111, [l0, l1], .int (Int32.ofNat (zz_ary n a)) :: st, k, (zz_hp n I J ex)) := zz_k_alen f156_110 ha
theorem f156_111 : zz_fetch zz_prog 156 111 = some (.invokestatic 74, 3, [2], []) := zz_fetch_of p156 rfl rfl
theorem s156_111 : zz_Run zz_prog d 156 (111, [l0, l1], [.int (Int32.ofNat 72), .int 0, .ref 17, .int 0, .ref 10], k, (zz_hp n I J ex)) = zz_Run zz_prog d 156 (114, [l0, l1], [], false, (zz_hp n (zz_cpy I 10 17) J ex)) := zz_k_bi f156_111 rfl rfl rfl
theorem s156_111b : zz_Run zz_prog d 156 (111, [l0, l1], [.int (Int32.ofNat 72), .int 0, .ref 10, .int 0, .ref 17], k, (zz_hp n I J ex)) = zz_Run zz_prog d 156 (114, [l0, l1], [], false, (zz_hp n (zz_cpy I 17 10) J ex)) := zz_k_bi f156_111 rfl rfl rfl
theorem f156_114 : zz_fetch zz_prog 156 114 = some (.aload_n 1, 1, [], []) := zz_fetch_of p156 rfl rfl
theorem s156_114 : zz_Run zz_prog d 156 (114, [l0, some (.ref a)], st, k, h) = zz_Run zz_prog d 156 (115, [l0, some (.ref a)], .ref a :: st, k, h) := zz_k_num f156_114 rfl
theorem f156_115 : zz_fetch zz_prog 156 115 = some (.getfield 34, 3, [0, 13, 3], []) := zz_fetch_of p156 rfl rfl
theorem s156_115 : zz_Run zz_prog d 156 (115, [l0, l1], .ref 9 :: st, k, (zz_hp n I J ex)) = zz_Run zz_prog d 156 (118, [l0, l1], .ref 11 :: st, k, (zz_hp n I J ex)) := zz_k_go f156_115 rfl rfl rfl
theorem s156_115b : zz_Run zz_prog d 156 (115, [l0, l1], .ref 16 :: st, k, (zz_hp n I J ex)) = zz_Run zz_prog d 156 (118, [l0, l1], .ref 18 :: st, k, (zz_hp n I J ex)) := zz_k_go f156_115 rfl rfl rfl
theorem f156_118 : zz_fetch zz_prog 156 118 = some (.iconst 0, 1, [], []) := zz_fetch_of p156 rfl rfl
theorem s156_118 : zz_Run zz_prog d 156 (118, [l0, l1], st, k, h) = zz_Run zz_prog d 156 (119, [l0, l1], .int 0 :: st, k, h) := zz_k_num f156_118 rfl
theorem f156_119 : zz_fetch zz_prog 156 119 = some (.aload_n 0, 1, [], []) := zz_fetch_of p156 rfl rfl
theorem s156_119 : zz_Run zz_prog d 156 (119, [some (.ref a), l1], st, k, h) = zz_Run zz_prog d 156 (120, [some (.ref a), l1], .ref a :: st, k, h) := zz_k_num f156_119 rfl
theorem f156_120 : zz_fetch zz_prog 156 120 = some (.getfield 34, 3, [0, 13, 3], []) := zz_fetch_of p156 rfl rfl
theorem s156_120 : zz_Run zz_prog d 156 (120, [l0, l1], .ref 9 :: st, k, (zz_hp n I J ex)) = zz_Run zz_prog d 156 (123, [l0, l1], .ref 11 :: st, k, (zz_hp n I J ex)) := zz_k_go f156_120 rfl rfl rfl
theorem s156_120b : zz_Run zz_prog d 156 (120, [l0, l1], .ref 16 :: st, k, (zz_hp n I J ex)) = zz_Run zz_prog d 156 (123, [l0, l1], .ref 18 :: st, k, (zz_hp n I J ex)) := zz_k_go f156_120 rfl rfl rfl
theorem f156_123 : zz_fetch zz_prog 156 123 = some (.iconst 0, 1, [], []) := zz_fetch_of p156 rfl rfl
theorem s156_123 : zz_Run zz_prog d 156 (123, [l0, l1], st, k, h) = zz_Run zz_prog d 156 (124, [l0, l1], .int 0 :: st, k, h) := zz_k_num f156_123 rfl
theorem f156_124 : zz_fetch zz_prog 156 124 = some (.aload_n 0, 1, [], []) := zz_fetch_of p156 rfl rfl
theorem s156_124 : zz_Run zz_prog d 156 (124, [some (.ref a), l1], st, k, h) = zz_Run zz_prog d 156 (125, [some (.ref a), l1], .ref a :: st, k, h) := zz_k_num f156_124 rfl
theorem f156_125 : zz_fetch zz_prog 156 125 = some (.getfield 34, 3, [0, 13, 3], []) := zz_fetch_of p156 rfl rfl
theorem s156_125 : zz_Run zz_prog d 156 (125, [l0, l1], .ref 9 :: st, k, (zz_hp n I J ex)) = zz_Run zz_prog d 156 (128, [l0, l1], .ref 11 :: st, k, (zz_hp n I J ex)) := zz_k_go f156_125 rfl rfl rfl
theorem s156_125b : zz_Run zz_prog d 156 (125, [l0, l1], .ref 16 :: st, k, (zz_hp n I J ex)) = zz_Run zz_prog d 156 (128, [l0, l1], .ref 18 :: st, k, (zz_hp n I J ex)) := zz_k_go f156_125 rfl rfl rfl
theorem f156_128 : zz_fetch zz_prog 156 128 = some (.arraylength, 1, [], []) := zz_fetch_of p156 rfl rfl
theorem s156_128 (ha : zz_isrd a = true) : zz_Run zz_prog d 156 (128, [l0, l1], .ref a :: st, k, (zz_hp n I J ex)) = zz_Run zz_prog d 156 (129, [l0, l1], .int (Int32.ofNat (zz_ary n a)) :: st, k, (zz_hp n I J ex)) := zz_k_alen f156_128 ha
theorem f156_129 : zz_fetch zz_prog 156 129 = some (.invokestatic 74, 3, [2], []) := zz_fetch_of p156 rfl rfl
theorem s156_129 : zz_Run zz_prog d 156 (129, [l0, l1], [.int (Int32.ofNat 54), .int 0, .ref 18, .int 0, .ref 11], k, (zz_hp n I J ex)) = zz_Run zz_prog d 156 (132, [l0, l1], [], false, (zz_hp n (zz_cpy I 11 18) J ex)) := zz_k_bi f156_129 rfl rfl rfl
theorem s156_129b : zz_Run zz_prog d 156 (129, [l0, l1], [.int (Int32.ofNat 54), .int 0, .ref 11, .int 0, .ref 18], k, (zz_hp n I J ex)) = zz_Run zz_prog d 156 (132, [l0, l1], [], false, (zz_hp n (zz_cpy I 18 11) J ex)) := zz_k_bi f156_129 rfl rfl rfl
theorem f156_132 : zz_fetch zz_prog 156 132 = some (.aload_n 1, 1, [], []) := zz_fetch_of p156 rfl rfl
theorem s156_132 : zz_Run zz_prog d 156 (132, [l0, some (.ref a)], st, k, h) = zz_Run zz_prog d 156 (133, [l0, some (.ref a)], .ref a :: st, k, h) := zz_k_num f156_132 rfl
theorem f156_133 : zz_fetch zz_prog 156 133 = some (.getfield 37, 3, [0, 14, 3], []) := zz_fetch_of p156 rfl rfl
theorem s156_133 : zz_Run zz_prog d 156 (133, [l0, l1], .ref 9 :: st, k, (zz_hp n I J ex)) = zz_Run zz_prog d 156 (136, [l0, l1], .ref 12 :: st, k, (zz_hp n I J ex)) := zz_k_go f156_133 rfl rfl rfl
theorem s156_133b : zz_Run zz_prog d 156 (133, [l0, l1], .ref 16 :: st, k, (zz_hp n I J ex)) = zz_Run zz_prog d 156 (136, [l0, l1], .ref 19 :: st, k, (zz_hp n I J ex)) := zz_k_go f156_133 rfl rfl rfl
theorem f156_136 : zz_fetch zz_prog 156 136 = some (.iconst 0, 1, [], []) := zz_fetch_of p156 rfl rfl
theorem s156_136 : zz_Run zz_prog d 156 (136, [l0, l1], st, k, h) = zz_Run zz_prog d 156 (137, [l0, l1], .int 0 :: st, k, h) := zz_k_num f156_136 rfl
theorem f156_137 : zz_fetch zz_prog 156 137 = some (.aload_n 0, 1, [], []) := zz_fetch_of p156 rfl rfl
theorem s156_137 : zz_Run zz_prog d 156 (137, [some (.ref a), l1], st, k, h) = zz_Run zz_prog d 156 (138, [some (.ref a), l1], .ref a :: st, k, h) := zz_k_num f156_137 rfl
theorem f156_138 : zz_fetch zz_prog 156 138 = some (.getfield 37, 3, [0, 14, 3], []) := zz_fetch_of p156 rfl rfl
theorem s156_138 : zz_Run zz_prog d 156 (138, [l0, l1], .ref 9 :: st, k, (zz_hp n I J ex)) = zz_Run zz_prog d 156 (141, [l0, l1], .ref 12 :: st, k, (zz_hp n I J ex)) := zz_k_go f156_138 rfl rfl rfl
theorem s156_138b : zz_Run zz_prog d 156 (138, [l0, l1], .ref 16 :: st, k, (zz_hp n I J ex)) = zz_Run zz_prog d 156 (141, [l0, l1], .ref 19 :: st, k, (zz_hp n I J ex)) := zz_k_go f156_138 rfl rfl rfl
theorem f156_141 : zz_fetch zz_prog 156 141 = some (.iconst 0, 1, [], []) := zz_fetch_of p156 rfl rfl
theorem s156_141 : zz_Run zz_prog d 156 (141, [l0, l1], st, k, h) = zz_Run zz_prog d 156 (142, [l0, l1], .int 0 :: st, k, h) := zz_k_num f156_141 rfl
theorem f156_142 : zz_fetch zz_prog 156 142 = some (.aload_n 0, 1, [], []) := zz_fetch_of p156 rfl rfl
theorem s156_142 : zz_Run zz_prog d 156 (142, [some (.ref a), l1], st, k, h) = zz_Run zz_prog d 156 (143, [some (.ref a), l1], .ref a :: st, k, h) := zz_k_num f156_142 rfl
theorem f156_143 : zz_fetch zz_prog 156 143 = some (.getfield 37, 3, [0, 14, 3], []) := zz_fetch_of p156 rfl rfl
theorem s156_143 : zz_Run zz_prog d 156 (143, [l0, l1], .ref 9 :: st, k, (zz_hp n I J ex)) = zz_Run zz_prog d 156 (146, [l0, l1], .ref 12 :: st, k, (zz_hp n I J ex)) := zz_k_go f156_143 rfl rfl rfl
theorem s156_143b : zz_Run zz_prog d 156 (143, [l0, l1], .ref 16 :: st, k, (zz_hp n I J ex)) = zz_Run zz_prog d 156 (146, [l0, l1], .ref 19 :: st, k, (zz_hp n I J ex)) := zz_k_go f156_143 rfl rfl rfl
theorem f156_146 : zz_fetch zz_prog 156 146 = some (.arraylength, 1, [], []) := zz_fetch_of p156 rfl rfl
theorem s156_146 (ha : zz_isrd a = true) : zz_Run zz_prog d 156 (146, [l0, l1], .ref a :: st, k, (zz_hp n I J ex)) = zz_Run zz_prog d 156 (147, [l0, l1], .int (Int32.ofNat (zz_ary n a)) :: st, k, (zz_hp n I J ex)) := zz_k_alen f156_146 ha
theorem f156_147 : zz_fetch zz_prog 156 147 = some (.invokestatic 74, 3, [2], []) := zz_fetch_of p156 rfl rfl
theorem s156_147 : zz_Run zz_prog d 156 (147, [l0, l1], [.int (Int32.ofNat 25), .int 0, .ref 19, .int 0, .ref 12], k, (zz_hp n I J ex)) = zz_Run zz_prog d 156 (150, [l0, l1], [], false, (zz_hp n (zz_cpy I 12 19) J ex)) := zz_k_bi f156_147 rfl rfl rfl
theorem s156_147b : zz_Run zz_prog d 156 (147, [l0, l1], [.int (Int32.ofNat 25), .int 0, .ref 12, .int 0, .ref 19], k, (zz_hp n I J ex)) = zz_Run zz_prog d 156 (150, [l0, l1], [], false, (zz_hp n (zz_cpy I 19 12) J ex)) := zz_k_bi f156_147 rfl rfl rfl
theorem f156_150 : zz_fetch zz_prog 156 150 = some (.aload_n 1, 1, [], []) := zz_fetch_of p156 rfl rfl
theorem s156_150 : zz_Run zz_prog d 156 (150, [l0, some (.ref a)], st, k, h) = zz_Run zz_prog d 156 (151, [l0, some (.ref a)], .ref a :: st, k, h) := zz_k_num f156_150 rfl
theorem f156_151 : zz_fetch zz_prog 156 151 = some (.getfield 40, 3, [0, 15, 3], []) := zz_fetch_of p156 rfl rfl
theorem s156_151 : zz_Run zz_prog d 156 (151, [l0, l1], .ref 9 :: st, k, (zz_hp n I J ex)) = zz_Run zz_prog d 156 (154, [l0, l1], .ref 13 :: st, k, (zz_hp n I J ex)) := zz_k_go f156_151 rfl rfl rfl
theorem s156_151b : zz_Run zz_prog d 156 (151, [l0, l1], .ref 16 :: st, k, (zz_hp n I J ex)) = zz_Run zz_prog d 156 (154, [l0, l1], .ref 20 :: st, k, (zz_hp n I J ex)) := zz_k_go f156_151 rfl rfl rfl
theorem f156_154 : zz_fetch zz_prog 156 154 = some (.iconst 0, 1, [], []) := zz_fetch_of p156 rfl rfl
theorem s156_154 : zz_Run zz_prog d 156 (154, [l0, l1], st, k, h) = zz_Run zz_prog d 156 (155, [l0, l1], .int 0 :: st, k, h) := zz_k_num f156_154 rfl
theorem f156_155 : zz_fetch zz_prog 156 155 = some (.aload_n 0, 1, [], []) := zz_fetch_of p156 rfl rfl
theorem s156_155 : zz_Run zz_prog d 156 (155, [some (.ref a), l1], st, k, h) = zz_Run zz_prog d 156 (156, [some (.ref a), l1], .ref a :: st, k, h) := zz_k_num f156_155 rfl
theorem f156_156 : zz_fetch zz_prog 156 156 = some (.getfield 40, 3, [0, 15, 3], []) := zz_fetch_of p156 rfl rfl
theorem s156_156 : zz_Run zz_prog d 156 (156, [l0, l1], .ref 9 :: st, k, (zz_hp n I J ex)) = zz_Run zz_prog d 156 (159, [l0, l1], .ref 13 :: st, k, (zz_hp n I J ex)) := zz_k_go f156_156 rfl rfl rfl
theorem s156_156b : zz_Run zz_prog d 156 (156, [l0, l1], .ref 16 :: st, k, (zz_hp n I J ex)) = zz_Run zz_prog d 156 (159, [l0, l1], .ref 20 :: st, k, (zz_hp n I J ex)) := zz_k_go f156_156 rfl rfl rfl
theorem f156_159 : zz_fetch zz_prog 156 159 = some (.iconst 0, 1, [], []) := zz_fetch_of p156 rfl rfl
theorem s156_159 : zz_Run zz_prog d 156 (159, [l0, l1], st, k, h) = zz_Run zz_prog d 156 (160, [l0, l1], .int 0 :: st, k, h) := zz_k_num f156_159 rfl
theorem f156_160 : zz_fetch zz_prog 156 160 = some (.aload_n 0, 1, [], []) := zz_fetch_of p156 rfl rfl
theorem s156_160 : zz_Run zz_prog d 156 (160, [some (.ref a), l1], st, k, h) = zz_Run zz_prog d 156 (161, [some (.ref a), l1], .ref a :: st, k, h) := zz_k_num f156_160 rfl
theorem f156_161 : zz_fetch zz_prog 156 161 = some (.getfield 40, 3, [0, 15, 3], []) := zz_fetch_of p156 rfl rfl
theorem s156_161 : zz_Run zz_prog d 156 (161, [l0, l1], .ref 9 :: st, k, (zz_hp n I J ex)) = zz_Run zz_prog d 156 (164, [l0, l1], .ref 13 :: st, k, (zz_hp n I J ex)) := zz_k_go f156_161 rfl rfl rfl
theorem s156_161b : zz_Run zz_prog d 156 (161, [l0, l1], .ref 16 :: st, k, (zz_hp n I J ex)) = zz_Run zz_prog d 156 (164, [l0, l1], .ref 20 :: st, k, (zz_hp n I J ex)) := zz_k_go f156_161 rfl rfl rfl
theorem f156_164 : zz_fetch zz_prog 156 164 = some (.arraylength, 1, [], []) := zz_fetch_of p156 rfl rfl
theorem s156_164 (ha : zz_isrd a = true) : zz_Run zz_prog d 156 (164, [l0, l1], .ref a :: st, k, (zz_hp n I J ex)) = zz_Run zz_prog d 156 (165, [l0, l1], .int (Int32.ofNat (zz_ary n a)) :: st, k, (zz_hp n I J ex)) := zz_k_alen f156_164 ha
theorem f156_165 : zz_fetch zz_prog 156 165 = some (.invokestatic 74, 3, [2], []) := zz_fetch_of p156 rfl rfl
theorem s156_165 : zz_Run zz_prog d 156 (165, [l0, l1], [.int (Int32.ofNat 20), .int 0, .ref 20, .int 0, .ref 13], k, (zz_hp n I J ex)) = zz_Run zz_prog d 156 (168, [l0, l1], [], false, (zz_hp n (zz_cpy I 13 20) J ex)) := zz_k_bi f156_165 rfl rfl rfl
theorem s156_165b : zz_Run zz_prog d 156 (165, [l0, l1], [.int (Int32.ofNat 20), .int 0, .ref 13, .int 0, .ref 20], k, (zz_hp n I J ex)) = zz_Run zz_prog d 156 (168, [l0, l1], [], false, (zz_hp n (zz_cpy I 20 13) J ex)) := zz_k_bi f156_165 rfl rfl rfl
theorem f156_168 : zz_fetch zz_prog 156 168 = some (.aload_n 1, 1, [], []) := zz_fetch_of p156 rfl rfl
theorem s156_168 : zz_Run zz_prog d 156 (168, [l0, some (.ref a)], st, k, h) = zz_Run zz_prog d 156 (169, [l0, some (.ref a)], .ref a :: st, k, h) := zz_k_num f156_168 rfl
theorem f156_169 : zz_fetch zz_prog 156 169 = some (.getfield 43, 3, [0, 16, 3], []) := zz_fetch_of p156 rfl rfl
theorem s156_169 : zz_Run zz_prog d 156 (169, [l0, l1], .ref 9 :: st, k, (zz_hp n I J ex)) = zz_Run zz_prog d 156 (172, [l0, l1], .ref 14 :: st, k, (zz_hp n I J ex)) := zz_k_go f156_169 rfl rfl rfl
theorem s156_169b : zz_Run zz_prog d 156 (169, [l0, l1], .ref 16 :: st, k, (zz_hp n I J ex)) = zz_Run zz_prog d 156 (172, [l0, l1], .ref 21 :: st, k, (zz_hp n I J ex)) := zz_k_go f156_169 rfl rfl rfl
theorem f156_172 : zz_fetch zz_prog 156 172 = some (.iconst 0, 1, [], []) := zz_fetch_of p156 rfl rfl
theorem s156_172 : zz_Run zz_prog d 156 (172, [l0, l1], st, k, h) = zz_Run zz_prog d 156 (173, [l0, l1], .int 0 :: st, k, h) := zz_k_num f156_172 rfl
theorem f156_173 : zz_fetch zz_prog 156 173 = some (.aload_n 0, 1, [], []) := zz_fetch_of p156 rfl rfl
theorem s156_173 : zz_Run zz_prog d 156 (173, [some (.ref a), l1], st, k, h) = zz_Run zz_prog d 156 (174, [some (.ref a), l1], .ref a :: st, k, h) := zz_k_num f156_173 rfl
theorem f156_174 : zz_fetch zz_prog 156 174 = some (.getfield 43, 3, [0, 16, 3], []) := zz_fetch_of p156 rfl rfl
theorem s156_174 : zz_Run zz_prog d 156 (174, [l0, l1], .ref 9 :: st, k, (zz_hp n I J ex)) = zz_Run zz_prog d 156 (177, [l0, l1], .ref 14 :: st, k, (zz_hp n I J ex)) := zz_k_go f156_174 rfl rfl rfl
theorem s156_174b : zz_Run zz_prog d 156 (174, [l0, l1], .ref 16 :: st, k, (zz_hp n I J ex)) = zz_Run zz_prog d 156 (177, [l0, l1], .ref 21 :: st, k, (zz_hp n I J ex)) := zz_k_go f156_174 rfl rfl rfl
theorem f156_177 : zz_fetch zz_prog 156 177 = some (.iconst 0, 1, [], []) := zz_fetch_of p156 rfl rfl
theorem s156_177 : zz_Run zz_prog d 156 (177, [l0, l1], st, k, h) = zz_Run zz_prog d 156 (178, [l0, l1], .int 0 :: st, k, h) := zz_k_num f156_177 rfl
theorem f156_178 : zz_fetch zz_prog 156 178 = some (.aload_n 0, 1, [], []) := zz_fetch_of p156 rfl rfl
theorem s156_178 : zz_Run zz_prog d 156 (178, [some (.ref a), l1], st, k, h) = zz_Run zz_prog d 156 (179, [some (.ref a), l1], .ref a :: st, k, h) := zz_k_num f156_178 rfl
theorem f156_179 : zz_fetch zz_prog 156 179 = some (.getfield 43, 3, [0, 16, 3], []) := zz_fetch_of p156 rfl rfl
theorem s156_179 : zz_Run zz_prog d 156 (179, [l0, l1], .ref 9 :: st, k, (zz_hp n I J ex)) = zz_Run zz_prog d 156 (182, [l0, l1], .ref 14 :: st, k, (zz_hp n I J ex)) := zz_k_go f156_179 rfl rfl rfl
theorem s156_179b : zz_Run zz_prog d 156 (179, [l0, l1], .ref 16 :: st, k, (zz_hp n I J ex)) = zz_Run zz_prog d 156 (182, [l0, l1], .ref 21 :: st, k, (zz_hp n I J ex)) := zz_k_go f156_179 rfl rfl rfl
theorem f156_182 : zz_fetch zz_prog 156 182 = some (.arraylength, 1, [], []) := zz_fetch_of p156 rfl rfl
theorem s156_182 (ha : zz_isrd a = true) : zz_Run zz_prog d 156 (182, [l0, l1], .ref a :: st, k, (zz_hp n I J ex)) = zz_Run zz_prog d 156 (183, [l0, l1], .int (Int32.ofNat (zz_ary n a)) :: st, k, (zz_hp n I J ex)) := zz_k_alen f156_182 ha
theorem f156_183 : zz_fetch zz_prog 156 183 = some (.invokestatic 74, 3, [2], []) := zz_fetch_of p156 rfl rfl
theorem s156_183 : zz_Run zz_prog d 156 (183, [l0, l1], [.int (Int32.ofNat 5), .int 0, .ref 21, .int 0, .ref 14], k, (zz_hp n I J ex)) = zz_Run zz_prog d 156 (186, [l0, l1], [], false, (zz_hp n (zz_cpy I 14 21) J ex)) := zz_k_bi f156_183 rfl rfl rfl
theorem s156_183b : zz_Run zz_prog d 156 (183, [l0, l1], [.int (Int32.ofNat 5), .int 0, .ref 14, .int 0, .ref 21], k, (zz_hp n I J ex)) = zz_Run zz_prog d 156 (186, [l0, l1], [], false, (zz_hp n (zz_cpy I 21 14) J ex)) := zz_k_bi f156_183 rfl rfl rfl
theorem f156_186 : zz_fetch zz_prog 156 186 = some (.aload_n 1, 1, [], []) := zz_fetch_of p156 rfl rfl
theorem s156_186 : zz_Run zz_prog d 156 (186, [l0, some (.ref a)], st, k, h) = zz_Run zz_prog d 156 (187, [l0, some (.ref a)], .ref a :: st, k, h) := zz_k_num f156_186 rfl
theorem f156_187 : zz_fetch zz_prog 156 187 = some (.getfield 46, 3, [0, 17, 3], []) := zz_fetch_of p156 rfl rfl
theorem s156_187 : zz_Run zz_prog d 156 (187, [l0, l1], .ref 9 :: st, k, (zz_hp n I J ex)) = zz_Run zz_prog d 156 (190, [l0, l1], .ref 15 :: st, k, (zz_hp n I J ex)) := zz_k_go f156_187 rfl rfl rfl
theorem s156_187b : zz_Run zz_prog d 156 (187, [l0, l1], .ref 16 :: st, k, (zz_hp n I J ex)) = zz_Run zz_prog d 156 (190, [l0, l1], .ref 22 :: st, k, (zz_hp n I J ex)) := zz_k_go f156_187 rfl rfl rfl
theorem f156_190 : zz_fetch zz_prog 156 190 = some (.iconst 0, 1, [], []) := zz_fetch_of p156 rfl rfl
theorem s156_190 : zz_Run zz_prog d 156 (190, [l0, l1], st, k, h) = zz_Run zz_prog d 156 (191, [l0, l1], .int 0 :: st, k, h) := zz_k_num f156_190 rfl
theorem f156_191 : zz_fetch zz_prog 156 191 = some (.aload_n 0, 1, [], []) := zz_fetch_of p156 rfl rfl
theorem s156_191 : zz_Run zz_prog d 156 (191, [some (.ref a), l1], st, k, h) = zz_Run zz_prog d 156 (192, [some (.ref a), l1], .ref a :: st, k, h) := zz_k_num f156_191 rfl
theorem f156_192 : zz_fetch zz_prog 156 192 = some (.getfield 46, 3, [0, 17, 3], []) := zz_fetch_of p156 rfl rfl
theorem s156_192 : zz_Run zz_prog d 156 (192, [l0, l1], .ref 9 :: st, k, (zz_hp n I J ex)) = zz_Run zz_prog d 156 (195, [l0, l1], .ref 15 :: st, k, (zz_hp n I J ex)) := zz_k_go f156_192 rfl rfl rfl
theorem s156_192b : zz_Run zz_prog d 156 (192, [l0, l1], .ref 16 :: st, k, (zz_hp n I J ex)) = zz_Run zz_prog d 156 (195, [l0, l1], .ref 22 :: st, k, (zz_hp n I J ex)) := zz_k_go f156_192 rfl rfl rfl
theorem f156_195 : zz_fetch zz_prog 156 195 = some (.iconst 0, 1, [], []) := zz_fetch_of p156 rfl rfl
theorem s156_195 : zz_Run zz_prog d 156 (195, [l0, l1], st, k, h) = zz_Run zz_prog d 156 (196, [l0, l1], .int 0 :: st, k, h) := zz_k_num f156_195 rfl
theorem f156_196 : zz_fetch zz_prog 156 196 = some (.aload_n 0, 1, [], []) := zz_fetch_of p156 rfl rfl
theorem s156_196 : zz_Run zz_prog d 156 (196, [some (.ref a), l1], st, k, h) = zz_Run zz_prog d 156 (197, [some (.ref a), l1], .ref a :: st, k, h) := zz_k_num f156_196 rfl
theorem f156_197 : zz_fetch zz_prog 156 197 = some (.getfield 46, 3, [0, 17, 3], []) := zz_fetch_of p156 rfl rfl
theorem s156_197 : zz_Run zz_prog d 156 (197, [l0, l1], .ref 9 :: st, k, (zz_hp n I J ex)) = zz_Run zz_prog d 156 (200, [l0, l1], .ref 15 :: st, k, (zz_hp n I J ex)) := zz_k_go f156_197 rfl rfl rfl
theorem s156_197b : zz_Run zz_prog d 156 (197, [l0, l1], .ref 16 :: st, k, (zz_hp n I J ex)) = zz_Run zz_prog d 156 (200, [l0, l1], .ref 22 :: st, k, (zz_hp n I J ex)) := zz_k_go f156_197 rfl rfl rfl
theorem f156_200 : zz_fetch zz_prog 156 200 = some (.arraylength, 1, [], []) := zz_fetch_of p156 rfl rfl
theorem s156_200 (ha : zz_isrd a = true) : zz_Run zz_prog d 156 (200, [l0, l1], .ref a :: st, k, (zz_hp n I J ex)) = zz_Run zz_prog d 156 (201, [l0, l1], .int (Int32.ofNat (zz_ary n a)) :: st, k, (zz_hp n I J ex)) := zz_k_alen f156_200 ha
theorem f156_201 : zz_fetch zz_prog 156 201 = some (.invokestatic 74, 3, [2], []) := zz_fetch_of p156 rfl rfl
theorem s156_201 : zz_Run zz_prog d 156 (201, [l0, l1], [.int (Int32.ofNat 4), .int 0, .ref 22, .int 0, .ref 15], k, (zz_hp n I J ex)) = zz_Run zz_prog d 156 (204, [l0, l1], [], false, (zz_hp n (zz_cpy I 15 22) J ex)) := zz_k_bi f156_201 rfl rfl rfl
theorem s156_201b : zz_Run zz_prog d 156 (201, [l0, l1], [.int (Int32.ofNat 4), .int 0, .ref 15, .int 0, .ref 22], k, (zz_hp n I J ex)) = zz_Run zz_prog d 156 (204, [l0, l1], [], false, (zz_hp n (zz_cpy I 22 15) J ex)) := zz_k_bi f156_201 rfl rfl rfl
theorem f156_204 : zz_fetch zz_prog 156 204 = some (.return_, 1, [], []) := zz_fetch_of p156 rfl rfl
theorem s156_204 : zz_Run zz_prog d 156 (204, [l0, l1], [], k, h) = some (.inl none, k, h) := zz_k_stop f156_204 rfl rfl rfl
end S156
section S157
variable {d n j : Nat} {l0 l1 l2 l3 l4 : Option Value} {st : List Value} {k : Bool} {h : zz_H} {v w v1 v2 : Int32} {y y1 : Int64} {a a1 a2 : Nat} {b0 b1 b2 b3 b4 b5 b6 b7 b8 : Value} {I : Nat → Nat → Int32} {J : Nat → Nat → Int64} {ex : List (Nat × Nat)}
theorem p157 : zz_prog 157 = some zz_m157 := rfl
theorem e157 (g0 : Nat) (g1 : Int32) (g2 : Int32) (g3 : Int32) : zz_Call zz_prog (d + 1) 157 [.ref g0, .int g1, .int g2, .int g3] h = zz_Run zz_prog d 157 (0, [some (.ref g0), some (.int g1), some (.int g2), some (.int g3), none], [], true, h) := rfl
theorem f157_0 : zz_fetch zz_prog 157 0 = some (.aload_n 0, 1, [], []) := zz_fetch_of p157 rfl rfl
theorem s157_0 : zz_Run zz_prog d 157 (0, [some (.ref a), l1, l2, l3, l4], st, k, h) = zz_Run zz_prog d 157 (1, [some (.ref a), l1, l2, l3, l4], .ref a :: st, k, h) := zz_k_num f157_0 rfl
theorem f157_1 : zz_fetch zz_prog 157 1 = some (.iload_n 1, 1, [], []) := zz_fetch_of p157 rfl rfl
theorem s157_1 : zz_Run zz_prog d 157 (1, [l0, some (.int v), l2, l3, l4], st, k, h) = zz_Run zz_prog d 157 (2, [l0, some (.int v), l2, l3, l4], .int v :: st, k, h) := zz_k_num f157_1 rfl
theorem f157_2 : zz_fetch zz_prog 157 2 = some (.iload_n 2, 1, [], []) := zz_fetch_of p157 rfl rfl
theorem s157_2 : zz_Run zz_prog d 157 (2, [l0, l1, some (.int v), l3, l4], st, k, h) = zz_Run zz_prog d 157 (3, [l0, l1, some (.int v), l3, l4], .int v :: st, k, h) := zz_k_num f157_2 rfl
theorem f157_3 : zz_fetch zz_prog 157 3 = some (.iload_n 3, 1, [], []) := zz_fetch_of p157 rfl rfl
theorem s157_3 : zz_Run zz_prog d 157 (3, [l0, l1, l2, some (.int v), l4], st, k, h) = zz_Run zz_prog d 157 (4, [l0, l1, l2, some (.int v), l4], .int v :: st, k, h) := zz_k_num f157_3 rfl
theorem f157_4 : zz_fetch zz_prog 157 4 = some (.invokevirtual 7, 3, [0, 1, 4, 1], []) := zz_fetch_of p157 rfl rfl
theorem s157_4 : zz_Run zz_prog d 157 (4, [l0, l1, l2, l3, l4], [b0, b1, b2, .ref 5], k, (zz_hp n I J ex)) = zz_ret (zz_Call zz_prog d 1 [.ref 5, b2, b1, b0] (zz_hp n I J ex)) (fun v k' h' => zz_Run zz_prog d 157 (7, [l0, l1, l2, l3, l4], v.toList ++ [], k && k', h')) (fun a k' h' => zz_th d 157 4 a [l0, l1, l2, l3, l4] (k && k') h') := zz_k_call f157_4 rfl rfl rfl
theorem f157_7 : zz_fetch zz_prog 157 7 = some (.goto 11, 3, [18], []) := zz_fetch_of p157 rfl rfl
theorem s157_7 : zz_Run zz_prog d 157 (7, [l0, l1, l2, l3, l4], st, k, h) = zz_Run zz_prog d 157 (18, [l0, l1, l2, l3, l4], st, k, h) := zz_k_num f157_7 rfl
theorem f157_10 : zz_fetch zz_prog 157 10 = some (.astore 4, 2, [], []) := zz_fetch_of p157 rfl rfl
theorem s157_10 : zz_Run zz_prog d 157 (10, [l0, l1, l2, l3, l4], .ref a :: st, k, h) = zz_sl l3 (zz_Run zz_prog d 157 (12, [l0, l1, l2, l3, some (.ref a)], st, k, h)) := zz_k_st (j := 4) (u := .ref a) f157_10 rfl (fun q hq => by cases hq) rfl (show 4 < 5 by decide) (by cases l3 <;> rfl) rfl
theorem f157_12 : zz_fetch zz_prog 157 12 = some (.iconst 1, 1, [], []) := zz_fetch_of p157 rfl rfl
theorem s157_12 : zz_Run zz_prog d 157 (12, [l0, l1, l2, l3, l4], st, k, h) = zz_Run zz_prog d 157 (13, [l0, l1, l2, l3, l4], .int 1 :: st, k, h) := zz_k_num f157_12 rfl
theorem f157_13 : zz_fetch zz_prog 157 13 = some (.ireturn, 1, [0], []) := zz_fetch_of p157 rfl rfl
theorem s157_13 : zz_Run zz_prog d 157 (13, [l0, l1, l2, l3, l4], [.int v], k, h) = some (.inl (some (.int v)), k, h) := zz_k_stop f157_13 rfl rfl rfl
theorem f157_14 : zz_fetch zz_prog 157 14 = some (.astore 4, 2, [], []) := zz_fetch_of p157 rfl rfl
theorem s157_14 : zz_Run zz_prog d 157 (14, [l0, l1, l2, l3, l4], .ref a :: st, k, h) = zz_sl l3 (zz_Run zz_prog d 157 (16, [l0, l1, l2, l3, some (.ref a)], st, k, h)) := zz_k_st (j := 4) (u := .ref a) f157_14 rfl (fun q hq => by cases hq) rfl (show 4 < 5 by decide) (by cases l3 <;> rfl) rfl
theorem f157_16 : zz_fetch zz_prog 157 16 = some (.iconst 2, 1, [], []) := zz_fetch_of p157 rfl rfl
theorem s157_16 : zz_Run zz_prog d 157 (16, [l0, l1, l2, l3, l4], st, k, h) = zz_Run zz_prog d 157 (17, [l0, l1, l2, l3, l4], .int 2 :: st, k, h) := zz_k_num f157_16 rfl
theorem f157_17 : zz_fetch zz_prog 157 17 = some (.ireturn, 1, [0], []) := zz_fetch_of p157 rfl rfl
theorem s157_17 : zz_Run zz_prog d 157 (17, [l0, l1, l2, l3, l4], [.int v], k, h) = some (.inl (some (.int v)), k, h) := zz_k_stop f157_17 rfl rfl rfl
theorem f157_18 : zz_fetch zz_prog 157 18 = some (.iconst 0, 1, [], []) := zz_fetch_of p157 rfl rfl
theorem s157_18 : zz_Run zz_prog d 157 (18, [l0, l1, l2, l3, l4], st, k, h) = zz_Run zz_prog d 157 (19, [l0, l1, l2, l3, l4], .int 0 :: st, k, h) := zz_k_num f157_18 rfl
theorem f157_19 : zz_fetch zz_prog 157 19 = some (.ireturn, 1, [0], []) := zz_fetch_of p157 rfl rfl
theorem s157_19 : zz_Run zz_prog d 157 (19, [l0, l1, l2, l3, l4], [.int v], k, h) = some (.inl (some (.int v)), k, h) := zz_k_stop f157_19 rfl rfl rfl
end S157
section S158
variable {d n j : Nat} {l0 l1 l2 l3 l4 : Option Value} {st : List Value} {k : Bool} {h : zz_H} {v w v1 v2 : Int32} {y y1 : Int64} {a a1 a2 : Nat} {b0 b1 b2 b3 b4 b5 b6 b7 b8 : Value} {I : Nat → Nat → Int32} {J : Nat → Nat → Int64} {ex : List (Nat × Nat)}
theorem p158 : zz_prog 158 = some zz_m158 := rfl
theorem e158 (g0 : Nat) (g1 : Int32) (g2 : Int32) (g3 : Nat) : zz_Call zz_prog (d + 1) 158 [.ref g0, .int g1, .int g2, .ref g3] h = zz_Run zz_prog d 158 (0, [some (.ref g0), some (.int g1), some (.int g2), some (.ref g3), none], [], true, h) := rfl
theorem f158_0 : zz_fetch zz_prog 158 0 = some (.aload_n 3, 1, [], []) := zz_fetch_of p158 rfl rfl
theorem s158_0 : zz_Run zz_prog d 158 (0, [l0, l1, l2, some (.ref a), l4], st, k, h) = zz_Run zz_prog d 158 (1, [l0, l1, l2, some (.ref a), l4], .ref a :: st, k, h) := zz_k_num f158_0 rfl
theorem f158_1 : zz_fetch zz_prog 158 1 = some (.iconst 0, 1, [], []) := zz_fetch_of p158 rfl rfl
theorem s158_1 : zz_Run zz_prog d 158 (1, [l0, l1, l2, l3, l4], st, k, h) = zz_Run zz_prog d 158 (2, [l0, l1, l2, l3, l4], .int 0 :: st, k, h) := zz_k_num f158_1 rfl
theorem f158_2 : zz_fetch zz_prog 158 2 = some (.aload_n 0, 1, [], []) := zz_fetch_of p158 rfl rfl
theorem s158_2 : zz_Run zz_prog d 158 (2, [some (.ref a), l1, l2, l3, l4], st, k, h) = zz_Run zz_prog d 158 (3, [some (.ref a), l1, l2, l3, l4], .ref a :: st, k, h) := zz_k_num f158_2 rfl
theorem f158_3 : zz_fetch zz_prog 158 3 = some (.iload_n 1, 1, [], []) := zz_fetch_of p158 rfl rfl
theorem s158_3 : zz_Run zz_prog d 158 (3, [l0, some (.int v), l2, l3, l4], st, k, h) = zz_Run zz_prog d 158 (4, [l0, some (.int v), l2, l3, l4], .int v :: st, k, h) := zz_k_num f158_3 rfl
theorem f158_4 : zz_fetch zz_prog 158 4 = some (.iload_n 2, 1, [], []) := zz_fetch_of p158 rfl rfl
theorem s158_4 : zz_Run zz_prog d 158 (4, [l0, l1, some (.int v), l3, l4], st, k, h) = zz_Run zz_prog d 158 (5, [l0, l1, some (.int v), l3, l4], .int v :: st, k, h) := zz_k_num f158_4 rfl
theorem f158_5 : zz_fetch zz_prog 158 5 = some (.invokevirtual 17, 3, [0, 2, 3, 1], []) := zz_fetch_of p158 rfl rfl
theorem s158_5 : zz_Run zz_prog d 158 (5, [l0, l1, l2, l3, l4], [b0, b1, .ref 5, b3, b4], k, (zz_hp n I J ex)) = zz_ret (zz_Call zz_prog d 2 [.ref 5, b1, b0] (zz_hp n I J ex)) (fun v k' h' => zz_Run zz_prog d 158 (8, [l0, l1, l2, l3, l4], v.toList ++ [b3, b4], k && k', h')) (fun a k' h' => zz_th d 158 5 a [l0, l1, l2, l3, l4] (k && k') h') := zz_k_call f158_5 rfl rfl rfl
theorem f158_8 : zz_fetch zz_prog 158 8 = some (.i2l, 1, [], []) := zz_fetch_of p158 rfl rfl
theorem s158_8 : zz_Run zz_prog d 158 (8, [l0, l1, l2, l3, l4], .int v :: st, k, h) = zz_Run zz_prog d 158 (9, [l0, l1, l2, l3, l4], .long v.toInt64 :: st, k, h) := zz_k_num f158_8 rfl
theorem f158_9 : zz_fetch zz_prog 158 9 = some (.lastore, 1, [], []) := zz_fetch_of p158 rfl rfl
theorem s158_9 : zz_Run zz_prog d 158 (9, [l0, l1, l2, l3, l4], .long y :: .int 0 :: .ref 44 :: st, k, (zz_hp n I J ex)) = zz_Run zz_prog d 158 (10, [l0, l1, l2, l3, l4], st, false, (zz_hp n I (zz_up J 44 0 y) ex)) := zz_k_go f158_9 rfl rfl rfl
theorem f158_10 : zz_fetch zz_prog 158 10 = some (.goto 15, 3, [25], []) := zz_fetch_of p158 rfl rfl
theorem s158_10 : zz_Run zz_prog d 158 (10, [l0, l1, l2, l3, l4], st, k, h) = zz_Run zz_prog d 158 (25, [l0, l1, l2, l3, l4], st, k, h) := zz_k_num f158_10 rfl
theorem f158_13 : zz_fetch zz_prog 158 13 = some (.astore 4, 2, [], []) := zz_fetch_of p158 rfl rfl
theorem s158_13 : zz_Run zz_prog d 158 (13, [l0, l1, l2, l3, l4], .ref a :: st, k, h) = zz_sl l3 (zz_Run zz_prog d 158 (15, [l0, l1, l2, l3, some (.ref a)], st, k, h)) := zz_k_st (j := 4) (u := .ref a) f158_13 rfl (fun q hq => by cases hq) rfl (show 4 < 5 by decide) (by cases l3 <;> rfl) rfl
theorem f158_15 : zz_fetch zz_prog 158 15 = some (.iconst 1, 1, [], []) := zz_fetch_of p158 rfl rfl
theorem s158_15 : zz_Run zz_prog d 158 (15, [l0, l1, l2, l3, l4], st, k, h) = zz_Run zz_prog d 158 (16, [l0, l1, l2, l3, l4], .int 1 :: st, k, h) := zz_k_num f158_15 rfl
theorem f158_16 : zz_fetch zz_prog 158 16 = some (.ireturn, 1, [0], []) := zz_fetch_of p158 rfl rfl
theorem s158_16 : zz_Run zz_prog d 158 (16, [l0, l1, l2, l3, l4], [.int v], k, h) = some (.inl (some (.int v)), k, h) := zz_k_stop f158_16 rfl rfl rfl
theorem f158_17 : zz_fetch zz_prog 158 17 = some (.astore 4, 2, [], []) := zz_fetch_of p158 rfl rfl
theorem s158_17 : zz_Run zz_prog d 158 (17, [l0, l1, l2, l3, l4], .ref a :: st, k, h) = zz_sl l3 (zz_Run zz_prog d 158 (19, [l0, l1, l2, l3, some (.ref a)], st, k, h)) := zz_k_st (j := 4) (u := .ref a) f158_17 rfl (fun q hq => by cases hq) rfl (show 4 < 5 by decide) (by cases l3 <;> rfl) rfl
theorem f158_19 : zz_fetch zz_prog 158 19 = some (.iconst 2, 1, [], []) := zz_fetch_of p158 rfl rfl
theorem s158_19 : zz_Run zz_prog d 158 (19, [l0, l1, l2, l3, l4], st, k, h) = zz_Run zz_prog d 158 (20, [l0, l1, l2, l3, l4], .int 2 :: st, k, h) := zz_k_num f158_19 rfl
theorem f158_20 : zz_fetch zz_prog 158 20 = some (.ireturn, 1, [0], []) := zz_fetch_of p158 rfl rfl
theorem s158_20 : zz_Run zz_prog d 158 (20, [l0, l1, l2, l3, l4], [.int v], k, h) = some (.inl (some (.int v)), k, h) := zz_k_stop f158_20 rfl rfl rfl
theorem f158_21 : zz_fetch zz_prog 158 21 = some (.astore 4, 2, [], []) := zz_fetch_of p158 rfl rfl
theorem s158_21 : zz_Run zz_prog d 158 (21, [l0, l1, l2, l3, l4], .ref a :: st, k, h) = zz_sl l3 (zz_Run zz_prog d 158 (23, [l0, l1, l2, l3, some (.ref a)], st, k, h)) := zz_k_st (j := 4) (u := .ref a) f158_21 rfl (fun q hq => by cases hq) rfl (show 4 < 5 by decide) (by cases l3 <;> rfl) rfl
theorem f158_23 : zz_fetch zz_prog 158 23 = some (.iconst 3, 1, [], []) := zz_fetch_of p158 rfl rfl
theorem s158_23 : zz_Run zz_prog d 158 (23, [l0, l1, l2, l3, l4], st, k, h) = zz_Run zz_prog d 158 (24, [l0, l1, l2, l3, l4], .int 3 :: st, k, h) := zz_k_num f158_23 rfl
theorem f158_24 : zz_fetch zz_prog 158 24 = some (.ireturn, 1, [0], []) := zz_fetch_of p158 rfl rfl
theorem s158_24 : zz_Run zz_prog d 158 (24, [l0, l1, l2, l3, l4], [.int v], k, h) = some (.inl (some (.int v)), k, h) := zz_k_stop f158_24 rfl rfl rfl
theorem f158_25 : zz_fetch zz_prog 158 25 = some (.iconst 0, 1, [], []) := zz_fetch_of p158 rfl rfl
theorem s158_25 : zz_Run zz_prog d 158 (25, [l0, l1, l2, l3, l4], st, k, h) = zz_Run zz_prog d 158 (26, [l0, l1, l2, l3, l4], .int 0 :: st, k, h) := zz_k_num f158_25 rfl
theorem f158_26 : zz_fetch zz_prog 158 26 = some (.ireturn, 1, [0], []) := zz_fetch_of p158 rfl rfl
theorem s158_26 : zz_Run zz_prog d 158 (26, [l0, l1, l2, l3, l4], [.int v], k, h) = some (.inl (some (.int v)), k, h) := zz_k_stop f158_26 rfl rfl rfl
end S158
section S159
variable {d n j : Nat} {l0 l1 l2 l3 : Option Value} {st : List Value} {k : Bool} {h : zz_H} {v w v1 v2 : Int32} {y y1 : Int64} {a a1 a2 : Nat} {b0 b1 b2 b3 b4 b5 b6 b7 b8 : Value} {I : Nat → Nat → Int32} {J : Nat → Nat → Int64} {ex : List (Nat × Nat)}
theorem p159 : zz_prog 159 = some zz_m159 := rfl
theorem e159 (g0 : Nat) (g1 : Int64) : zz_Call zz_prog (d + 1) 159 [.ref g0, .long g1] h = zz_Run zz_prog d 159 (0, [some (.ref g0), some (.long g1), none, none], [], true, h) := rfl
theorem f159_0 : zz_fetch zz_prog 159 0 = some (.aload_n 0, 1, [], []) := zz_fetch_of p159 rfl rfl
theorem s159_0 : zz_Run zz_prog d 159 (0, [some (.ref a), l1, l2, l3], st, k, h) = zz_Run zz_prog d 159 (1, [some (.ref a), l1, l2, l3], .ref a :: st, k, h) := zz_k_num f159_0 rfl
theorem f159_1 : zz_fetch zz_prog 159 1 = some (.lload_n 1, 1, [], []) := zz_fetch_of p159 rfl rfl
theorem s159_1 : zz_Run zz_prog d 159 (1, [l0, some (.long y), l2, l3], st, k, h) = zz_Run zz_prog d 159 (2, [l0, some (.long y), l2, l3], .long y :: st, k, h) := zz_k_num f159_1 rfl
theorem f159_2 : zz_fetch zz_prog 159 2 = some (.invokevirtual 23, 3, [0, 3, 2, 1], []) := zz_fetch_of p159 rfl rfl
theorem s159_2 : zz_Run zz_prog d 159 (2, [l0, l1, l2, l3], [b0, .ref 5], k, (zz_hp n I J ex)) = zz_ret (zz_Call zz_prog d 3 [.ref 5, b0] (zz_hp n I J ex)) (fun v k' h' => zz_Run zz_prog d 159 (5, [l0, l1, l2, l3], v.toList ++ [], k && k', h')) (fun a k' h' => zz_th d 159 2 a [l0, l1, l2, l3] (k && k') h') := zz_k_call f159_2 rfl rfl rfl
theorem f159_5 : zz_fetch zz_prog 159 5 = some (.goto 6, 3, [11], []) := zz_fetch_of p159 rfl rfl
theorem s159_5 : zz_Run zz_prog d 159 (5, [l0, l1, l2, l3], st, k, h) = zz_Run zz_prog d 159 (11, [l0, l1, l2, l3], st, k, h) := zz_k_num f159_5 rfl
theorem f159_8 : zz_fetch zz_prog 159 8 = some (.astore_n 3, 1, [], []) := zz_fetch_of p159 rfl rfl
theorem s159_8 : zz_Run zz_prog d 159 (8, [l0, l1, l2, l3], .ref a :: st, k, h) = zz_sl l2 (zz_Run zz_prog d 159 (9, [l0, l1, l2, some (.ref a)], st, k, h)) := zz_k_st (j := 3) (u := .ref a) f159_8 rfl (fun q hq => by cases hq) rfl (show 3 < 4 by decide) (by cases l2 <;> rfl) rfl
theorem f159_9 : zz_fetch zz_prog 159 9 = some (.iconst 1, 1, [], []) := zz_fetch_of p159 rfl rfl
theorem s159_9 : zz_Run zz_prog d 159 (9, [l0, l1, l2, l3], st, k, h) = zz_Run zz_prog d 159 (10, [l0, l1, l2, l3], .int 1 :: st, k, h) := zz_k_num f159_9 rfl
theorem f159_10 : zz_fetch zz_prog 159 10 = some (.ireturn, 1, [0], []) := zz_fetch_of p159 rfl rfl
theorem s159_10 : zz_Run zz_prog d 159 (10, [l0, l1, l2, l3], [.int v], k, h) = some (.inl (some (.int v)), k, h) := zz_k_stop f159_10 rfl rfl rfl
theorem f159_11 : zz_fetch zz_prog 159 11 = some (.iconst 0, 1, [], []) := zz_fetch_of p159 rfl rfl
theorem s159_11 : zz_Run zz_prog d 159 (11, [l0, l1, l2, l3], st, k, h) = zz_Run zz_prog d 159 (12, [l0, l1, l2, l3], .int 0 :: st, k, h) := zz_k_num f159_11 rfl
theorem f159_12 : zz_fetch zz_prog 159 12 = some (.ireturn, 1, [0], []) := zz_fetch_of p159 rfl rfl
theorem s159_12 : zz_Run zz_prog d 159 (12, [l0, l1, l2, l3], [.int v], k, h) = some (.inl (some (.int v)), k, h) := zz_k_stop f159_12 rfl rfl rfl
end S159
section S160
variable {d n j : Nat} {l0 l1 l2 l3 : Option Value} {st : List Value} {k : Bool} {h : zz_H} {v w v1 v2 : Int32} {y y1 : Int64} {a a1 a2 : Nat} {b0 b1 b2 b3 b4 b5 b6 b7 b8 : Value} {I : Nat → Nat → Int32} {J : Nat → Nat → Int64} {ex : List (Nat × Nat)}
theorem p160 : zz_prog 160 = some zz_m160 := rfl
theorem e160 (g0 : Nat) (g1 : Int32) (g2 : Int32) : zz_Call zz_prog (d + 1) 160 [.ref g0, .int g1, .int g2] h = zz_Run zz_prog d 160 (0, [some (.ref g0), some (.int g1), some (.int g2), none], [], true, h) := rfl
theorem f160_0 : zz_fetch zz_prog 160 0 = some (.aload_n 0, 1, [], []) := zz_fetch_of p160 rfl rfl
theorem s160_0 : zz_Run zz_prog d 160 (0, [some (.ref a), l1, l2, l3], st, k, h) = zz_Run zz_prog d 160 (1, [some (.ref a), l1, l2, l3], .ref a :: st, k, h) := zz_k_num f160_0 rfl
theorem f160_1 : zz_fetch zz_prog 160 1 = some (.iload_n 1, 1, [], []) := zz_fetch_of p160 rfl rfl
theorem s160_1 : zz_Run zz_prog d 160 (1, [l0, some (.int v), l2, l3], st, k, h) = zz_Run zz_prog d 160 (2, [l0, some (.int v), l2, l3], .int v :: st, k, h) := zz_k_num f160_1 rfl
theorem f160_2 : zz_fetch zz_prog 160 2 = some (.iload_n 2, 1, [], []) := zz_fetch_of p160 rfl rfl
theorem s160_2 : zz_Run zz_prog d 160 (2, [l0, l1, some (.int v), l3], st, k, h) = zz_Run zz_prog d 160 (3, [l0, l1, some (.int v), l3], .int v :: st, k, h) := zz_k_num f160_2 rfl
theorem f160_3 : zz_fetch zz_prog 160 3 = some (.invokevirtual 27, 3, [0, 4, 3, 1], []) := zz_fetch_of p160 rfl rfl
theorem s160_3 : zz_Run zz_prog d 160 (3, [l0, l1, l2, l3], [b0, b1, .ref 5], k, (zz_hp n I J ex)) = zz_ret (zz_Call zz_prog d 4 [.ref 5, b1, b0] (zz_hp n I J ex)) (fun v k' h' => zz_Run zz_prog d 160 (6, [l0, l1, l2, l3], v.toList ++ [], k && k', h')) (fun a k' h' => zz_th d 160 3 a [l0, l1, l2, l3] (k && k') h') := zz_k_call f160_3 rfl rfl rfl
theorem f160_6 : zz_fetch zz_prog 160 6 = some (.goto 9, 3, [15], []) := zz_fetch_of p160 rfl rfl
theorem s160_6 : zz_Run zz_prog d 160 (6, [l0, l1, l2, l3], st, k, h) = zz_Run zz_prog d 160 (15, [l0, l1, l2, l3], st, k, h) := zz_k_num f160_6 rfl
theorem f160_9 : zz_fetch zz_prog 160 9 = some (.astore_n 3, 1, [], []) := zz_fetch_of p160 rfl rfl
theorem s160_9 : zz_Run zz_prog d 160 (9, [l0, l1, l2, l3], .ref a :: st, k, h) = zz_sl l2 (zz_Run zz_prog d 160 (10, [l0, l1, l2, some (.ref a)], st, k, h)) := zz_k_st (j := 3) (u := .ref a) f160_9 rfl (fun q hq => by cases hq) rfl (show 3 < 4 by decide) (by cases l2 <;> rfl) rfl
theorem f160_10 : zz_fetch zz_prog 160 10 = some (.iconst 1, 1, [], []) := zz_fetch_of p160 rfl rfl
theorem s160_10 : zz_Run zz_prog d 160 (10, [l0, l1, l2, l3], st, k, h) = zz_Run zz_prog d 160 (11, [l0, l1, l2, l3], .int 1 :: st, k, h) := zz_k_num f160_10 rfl
theorem f160_11 : zz_fetch zz_prog 160 11 = some (.ireturn, 1, [0], []) := zz_fetch_of p160 rfl rfl
theorem s160_11 : zz_Run zz_prog d 160 (11, [l0, l1, l2, l3], [.int v], k, h) = some (.inl (some (.int v)), k, h) := zz_k_stop f160_11 rfl rfl rfl
theorem f160_12 : zz_fetch zz_prog 160 12 = some (.astore_n 3, 1, [], []) := zz_fetch_of p160 rfl rfl
theorem s160_12 : zz_Run zz_prog d 160 (12, [l0, l1, l2, l3], .ref a :: st, k, h) = zz_sl l2 (zz_Run zz_prog d 160 (13, [l0, l1, l2, some (.ref a)], st, k, h)) := zz_k_st (j := 3) (u := .ref a) f160_12 rfl (fun q hq => by cases hq) rfl (show 3 < 4 by decide) (by cases l2 <;> rfl) rfl
theorem f160_13 : zz_fetch zz_prog 160 13 = some (.iconst 2, 1, [], []) := zz_fetch_of p160 rfl rfl
theorem s160_13 : zz_Run zz_prog d 160 (13, [l0, l1, l2, l3], st, k, h) = zz_Run zz_prog d 160 (14, [l0, l1, l2, l3], .int 2 :: st, k, h) := zz_k_num f160_13 rfl
theorem f160_14 : zz_fetch zz_prog 160 14 = some (.ireturn, 1, [0], []) := zz_fetch_of p160 rfl rfl
theorem s160_14 : zz_Run zz_prog d 160 (14, [l0, l1, l2, l3], [.int v], k, h) = some (.inl (some (.int v)), k, h) := zz_k_stop f160_14 rfl rfl rfl
theorem f160_15 : zz_fetch zz_prog 160 15 = some (.iconst 0, 1, [], []) := zz_fetch_of p160 rfl rfl
theorem s160_15 : zz_Run zz_prog d 160 (15, [l0, l1, l2, l3], st, k, h) = zz_Run zz_prog d 160 (16, [l0, l1, l2, l3], .int 0 :: st, k, h) := zz_k_num f160_15 rfl
theorem f160_16 : zz_fetch zz_prog 160 16 = some (.ireturn, 1, [0], []) := zz_fetch_of p160 rfl rfl
theorem s160_16 : zz_Run zz_prog d 160 (16, [l0, l1, l2, l3], [.int v], k, h) = some (.inl (some (.int v)), k, h) := zz_k_stop f160_16 rfl rfl rfl
end S160
section S161
variable {d n j : Nat} {l0 l1 l2 l3 l4 : Option Value} {st : List Value} {k : Bool} {h : zz_H} {v w v1 v2 : Int32} {y y1 : Int64} {a a1 a2 : Nat} {b0 b1 b2 b3 b4 b5 b6 b7 b8 : Value} {I : Nat → Nat → Int32} {J : Nat → Nat → Int64} {ex : List (Nat × Nat)}
theorem p161 : zz_prog 161 = some zz_m161 := rfl
theorem e161 (g0 : Nat) (g1 : Int32) (g2 : Int32) (g3 : Nat) : zz_Call zz_prog (d + 1) 161 [.ref g0, .int g1, .int g2, .ref g3] h = zz_Run zz_prog d 161 (0, [some (.ref g0), some (.int g1), some (.int g2), some (.ref g3), none], [], true, h) := rfl
theorem f161_0 : zz_fetch zz_prog 161 0 = some (.aload_n 3, 1, [], []) := zz_fetch_of p161 rfl rfl
theorem s161_0 : zz_Run zz_prog d 161 (0, [l0, l1, l2, some (.ref a), l4], st, k, h) = zz_Run zz_prog d 161 (1, [l0, l1, l2, some (.ref a), l4], .ref a :: st, k, h) := zz_k_num f161_0 rfl
theorem f161_1 : zz_fetch zz_prog 161 1 = some (.iconst 0, 1, [], []) := zz_fetch_of p161 rfl rfl
theorem s161_1 : zz_Run zz_prog d 161 (1, [l0, l1, l2, l3, l4], st, k, h) = zz_Run zz_prog d 161 (2, [l0, l1, l2, l3, l4], .int 0 :: st, k, h) := zz_k_num f161_1 rfl
theorem f161_2 : zz_fetch zz_prog 161 2 = some (.aload_n 0, 1, [], []) := zz_fetch_of p161 rfl rfl
theorem s161_2 : zz_Run zz_prog d 161 (2, [some (.ref a), l1, l2, l3, l4], st, k, h) = zz_Run zz_prog d 161 (3, [some (.ref a), l1, l2, l3, l4], .ref a :: st, k, h) := zz_k_num f161_2 rfl
theorem f161_3 : zz_fetch zz_prog 161 3 = some (.iload_n 1, 1, [], []) := zz_fetch_of p161 rfl rfl
theorem s161_3 : zz_Run zz_prog d 161 (3, [l0, some (.int v), l2, l3, l4], st, k, h) = zz_Run zz_prog d 161 (4, [l0, some (.int v), l2, l3, l4], .int v :: st, k, h) := zz_k_num f161_3 rfl
theorem f161_4 : zz_fetch zz_prog 161 4 = some (.iload_n 2, 1, [], []) := zz_fetch_of p161 rfl rfl
theorem s161_4 : zz_Run zz_prog d 161 (4, [l0, l1, some (.int v), l3, l4], st, k, h) = zz_Run zz_prog d 161 (5, [l0, l1, some (.int v), l3, l4], .int v :: st, k, h) := zz_k_num f161_4 rfl
theorem f161_5 : zz_fetch zz_prog 161 5 = some (.invokevirtual 31, 3, [0, 5, 3, 1], []) := zz_fetch_of p161 rfl rfl
theorem s161_5 : zz_Run zz_prog d 161 (5, [l0, l1, l2, l3, l4], [b0, b1, .ref 5, b3, b4], k, (zz_hp n I J ex)) = zz_ret (zz_Call zz_prog d 5 [.ref 5, b1, b0] (zz_hp n I J ex)) (fun v k' h' => zz_Run zz_prog d 161 (8, [l0, l1, l2, l3, l4], v.toList ++ [b3, b4], k && k', h')) (fun a k' h' => zz_th d 161 5 a [l0, l1, l2, l3, l4] (k && k') h') := zz_k_call f161_5 rfl rfl rfl
theorem f161_8 : zz_fetch zz_prog 161 8 = some (.i2l, 1, [], []) := zz_fetch_of p161 rfl rfl
theorem s161_8 : zz_Run zz_prog d 161 (8, [l0, l1, l2, l3, l4], .int v :: st, k, h) = zz_Run zz_prog d 161 (9, [l0, l1, l2, l3, l4], .long v.toInt64 :: st, k, h) := zz_k_num f161_8 rfl
theorem f161_9 : zz_fetch zz_prog 161 9 = some (.lastore, 1, [], []) := zz_fetch_of p161 rfl rfl
theorem s161_9 : zz_Run zz_prog d 161 (9, [l0, l1, l2, l3, l4], .long y :: .int 0 :: .ref 44 :: st, k, (zz_hp n I J ex)) = zz_Run zz_prog d 161 (10, [l0, l1, l2, l3, l4], st, false, (zz_hp n I (zz_up J 44 0 y) ex)) := zz_k_go f161_9 rfl rfl rfl
theorem f161_10 : zz_fetch zz_prog 161 10 = some (.goto 15, 3, [25], []) := zz_fetch_of p161 rfl rfl
theorem s161_10 : zz_Run zz_prog d 161 (10, [l0, l1, l2, l3, l4], st, k, h) = zz_Run zz_prog d 161 (25, [l0, l1, l2, l3, l4], st, k, h) := zz_k_num f161_10 rfl
theorem f161_13 : zz_fetch zz_prog 161 13 = some (.astore 4, 2, [], []) := zz_fetch_of p161 rfl rfl
theorem s161_13 : zz_Run zz_prog d 161 (13, [l0, l1, l2, l3, l4], .ref a :: st, k, h) = zz_sl l3 (zz_Run zz_prog d 161 (15, [l0, l1, l2, l3, some (.ref a)], st, k, h)) := zz_k_st (j := 4) (u := .ref a) f161_13 rfl (fun q hq => by cases hq) rfl (show 4 < 5 by decide) (by cases l3 <;> rfl) rfl
theorem f161_15 : zz_fetch zz_prog 161 15 = some (.iconst 1, 1, [], []) := zz_fetch_of p161 rfl rfl
theorem s161_15 : zz_Run zz_prog d 161 (15, [l0, l1, l2, l3, l4], st, k, h) = zz_Run zz_prog d 161 (16, [l0, l1, l2, l3, l4], .int 1 :: st, k, h) := zz_k_num f161_15 rfl
theorem f161_16 : zz_fetch zz_prog 161 16 = some (.ireturn, 1, [0], []) := zz_fetch_of p161 rfl rfl
theorem s161_16 : zz_Run zz_prog d 161 (16, [l0, l1, l2, l3, l4], [.int v], k, h) = some (.inl (some (.int v)), k, h) := zz_k_stop f161_16 rfl rfl rfl
theorem f161_17 : zz_fetch zz_prog 161 17 = some (.astore 4, 2, [], []) := zz_fetch_of p161 rfl rfl
theorem s161_17 : zz_Run zz_prog d 161 (17, [l0, l1, l2, l3, l4], .ref a :: st, k, h) = zz_sl l3 (zz_Run zz_prog d 161 (19, [l0, l1, l2, l3, some (.ref a)], st, k, h)) := zz_k_st (j := 4) (u := .ref a) f161_17 rfl (fun q hq => by cases hq) rfl (show 4 < 5 by decide) (by cases l3 <;> rfl) rfl
theorem f161_19 : zz_fetch zz_prog 161 19 = some (.iconst 2, 1, [], []) := zz_fetch_of p161 rfl rfl
theorem s161_19 : zz_Run zz_prog d 161 (19, [l0, l1, l2, l3, l4], st, k, h) = zz_Run zz_prog d 161 (20, [l0, l1, l2, l3, l4], .int 2 :: st, k, h) := zz_k_num f161_19 rfl
theorem f161_20 : zz_fetch zz_prog 161 20 = some (.ireturn, 1, [0], []) := zz_fetch_of p161 rfl rfl
theorem s161_20 : zz_Run zz_prog d 161 (20, [l0, l1, l2, l3, l4], [.int v], k, h) = some (.inl (some (.int v)), k, h) := zz_k_stop f161_20 rfl rfl rfl
theorem f161_21 : zz_fetch zz_prog 161 21 = some (.astore 4, 2, [], []) := zz_fetch_of p161 rfl rfl
theorem s161_21 : zz_Run zz_prog d 161 (21, [l0, l1, l2, l3, l4], .ref a :: st, k, h) = zz_sl l3 (zz_Run zz_prog d 161 (23, [l0, l1, l2, l3, some (.ref a)], st, k, h)) := zz_k_st (j := 4) (u := .ref a) f161_21 rfl (fun q hq => by cases hq) rfl (show 4 < 5 by decide) (by cases l3 <;> rfl) rfl
theorem f161_23 : zz_fetch zz_prog 161 23 = some (.iconst 3, 1, [], []) := zz_fetch_of p161 rfl rfl
theorem s161_23 : zz_Run zz_prog d 161 (23, [l0, l1, l2, l3, l4], st, k, h) = zz_Run zz_prog d 161 (24, [l0, l1, l2, l3, l4], .int 3 :: st, k, h) := zz_k_num f161_23 rfl
theorem f161_24 : zz_fetch zz_prog 161 24 = some (.ireturn, 1, [0], []) := zz_fetch_of p161 rfl rfl
theorem s161_24 : zz_Run zz_prog d 161 (24, [l0, l1, l2, l3, l4], [.int v], k, h) = some (.inl (some (.int v)), k, h) := zz_k_stop f161_24 rfl rfl rfl
theorem f161_25 : zz_fetch zz_prog 161 25 = some (.iconst 0, 1, [], []) := zz_fetch_of p161 rfl rfl
theorem s161_25 : zz_Run zz_prog d 161 (25, [l0, l1, l2, l3, l4], st, k, h) = zz_Run zz_prog d 161 (26, [l0, l1, l2, l3, l4], .int 0 :: st, k, h) := zz_k_num f161_25 rfl
theorem f161_26 : zz_fetch zz_prog 161 26 = some (.ireturn, 1, [0], []) := zz_fetch_of p161 rfl rfl
theorem s161_26 : zz_Run zz_prog d 161 (26, [l0, l1, l2, l3, l4], [.int v], k, h) = some (.inl (some (.int v)), k, h) := zz_k_stop f161_26 rfl rfl rfl
end S161
section S162
variable {d n j : Nat} {l0 l1 l2 l3 : Option Value} {st : List Value} {k : Bool} {h : zz_H} {v w v1 v2 : Int32} {y y1 : Int64} {a a1 a2 : Nat} {b0 b1 b2 b3 b4 b5 b6 b7 b8 : Value} {I : Nat → Nat → Int32} {J : Nat → Nat → Int64} {ex : List (Nat × Nat)}
theorem p162 : zz_prog 162 = some zz_m162 := rfl
theorem e162 (g0 : Nat) (g1 : Int32) (g2 : Nat) : zz_Call zz_prog (d + 1) 162 [.ref g0, .int g1, .ref g2] h = zz_Run zz_prog d 162 (0, [some (.ref g0), some (.int g1), some (.ref g2), none], [], true, h) := rfl
theorem f162_0 : zz_fetch zz_prog 162 0 = some (.aload_n 2, 1, [], []) := zz_fetch_of p162 rfl rfl
theorem s162_0 : zz_Run zz_prog d 162 (0, [l0, l1, some (.ref a), l3], st, k, h) = zz_Run zz_prog d 162 (1, [l0, l1, some (.ref a), l3], .ref a :: st, k, h) := zz_k_num f162_0 rfl
theorem f162_1 : zz_fetch zz_prog 162 1 = some (.iconst 0, 1, [], []) := zz_fetch_of p162 rfl rfl
theorem s162_1 : zz_Run zz_prog d 162 (1, [l0, l1, l2, l3], st, k, h) = zz_Run zz_prog d 162 (2, [l0, l1, l2, l3], .int 0 :: st, k, h) := zz_k_num f162_1 rfl
theorem f162_2 : zz_fetch zz_prog 162 2 = some (.aload_n 0, 1, [], []) := zz_fetch_of p162 rfl rfl
theorem s162_2 : zz_Run zz_prog d 162 (2, [some (.ref a), l1, l2, l3], st, k, h) = zz_Run zz_prog d 162 (3, [some (.ref a), l1, l2, l3], .ref a :: st, k, h) := zz_k_num f162_2 rfl
theorem f162_3 : zz_fetch zz_prog 162 3 = some (.iload_n 1, 1, [], []) := zz_fetch_of p162 rfl rfl
theorem s162_3 : zz_Run zz_prog d 162 (3, [l0, some (.int v), l2, l3], st, k, h) = zz_Run zz_prog d 162 (4, [l0, some (.int v), l2, l3], .int v :: st, k, h) := zz_k_num f162_3 rfl
theorem f162_4 : zz_fetch zz_prog 162 4 = some (.invokevirtual 34, 3, [0, 6, 2, 1], []) := zz_fetch_of p162 rfl rfl
theorem s162_4 : zz_Run zz_prog d 162 (4, [l0, l1, l2, l3], [b0, .ref 5, b2, b3], k, (zz_hp n I J ex)) = zz_ret (zz_Call zz_prog d 6 [.ref 5, b0] (zz_hp n I J ex)) (fun v k' h' => zz_Run zz_prog d 162 (7, [l0, l1, l2, l3], v.toList ++ [b2, b3], k && k', h')) (fun a k' h' => zz_th d 162 4 a [l0, l1, l2, l3] (k && k') h') := zz_k_call f162_4 rfl rfl rfl
theorem f162_7 : zz_fetch zz_prog 162 7 = some (.i2l, 1, [], []) := zz_fetch_of p162 rfl rfl
theorem s162_7 : zz_Run zz_prog d 162 (7, [l0, l1, l2, l3], .int v :: st, k, h) = zz_Run zz_prog d 162 (8, [l0, l1, l2, l3], .long v.toInt64 :: st, k, h) := zz_k_num f162_7 rfl
theorem f162_8 : zz_fetch zz_prog 162 8 = some (.lastore, 1, [], []) := zz_fetch_of p162 rfl rfl
theorem s162_8 : zz_Run zz_prog d 162 (8, [l0, l1, l2, l3], .long y :: .int 0 :: .ref 44 :: st, k, (zz_hp n I J ex)) = zz_Run zz_prog d 162 (9, [l0, l1, l2, l3], st, false, (zz_hp n I (zz_up J 44 0 y) ex)) := zz_k_go f162_8 rfl rfl rfl
theorem f162_9 : zz_fetch zz_prog 162 9 = some (.goto 9, 3, [18], []) := zz_fetch_of p162 rfl rfl
theorem s162_9 : zz_Run zz_prog d 162 (9, [l0, l1, l2, l3], st, k, h) = zz_Run zz_prog d 162 (18, [l0, l1, l2, l3], st, k, h) := zz_k_num f162_9 rfl
theorem f162_12 : zz_fetch zz_prog 162 12 = some (.astore_n 3, 1, [], []) := zz_fetch_of p162 rfl rfl
theorem s162_12 : zz_Run zz_prog d 162 (12, [l0, l1, l2, l3], .ref a :: st, k, h) = zz_sl l2 (zz_Run zz_prog d 162 (13, [l0, l1, l2, some (.ref a)], st, k, h)) := zz_k_st (j := 3) (u := .ref a) f162_12 rfl (fun q hq => by cases hq) rfl (show 3 < 4 by decide) (by cases l2 <;> rfl) rfl
theorem f162_13 : zz_fetch zz_prog 162 13 = some (.iconst 1, 1, [], []) := zz_fetch_of p162 rfl rfl
theorem s162_13 : zz_Run zz_prog d 162 (13, [l0, l1, l2, l3], st, k, h) = zz_Run zz_prog d 162 (14, [l0, l1, l2, l3], .int 1 :: st, k, h) := zz_k_num f162_13 rfl
theorem f162_14 : zz_fetch zz_prog 162 14 = some (.ireturn, 1, [0], []) := zz_fetch_of p162 rfl rfl
theorem s162_14 : zz_Run zz_prog d 162 (14, [l0, l1, l2, l3], [.int v], k, h) = some (.inl (some (.int v)), k, h) := zz_k_stop f162_14 rfl rfl rfl
theorem f162_15 : zz_fetch zz_prog 162 15 = some (.astore_n 3, 1, [], []) := zz_fetch_of p162 rfl rfl
theorem s162_15 : zz_Run zz_prog d 162 (15, [l0, l1, l2, l3], .ref a :: st, k, h) = zz_sl l2 (zz_Run zz_prog d 162 (16, [l0, l1, l2, some (.ref a)], st, k, h)) := zz_k_st (j := 3) (u := .ref a) f162_15 rfl (fun q hq => by cases hq) rfl (show 3 < 4 by decide) (by cases l2 <;> rfl) rfl
theorem f162_16 : zz_fetch zz_prog 162 16 = some (.iconst 2, 1, [], []) := zz_fetch_of p162 rfl rfl
theorem s162_16 : zz_Run zz_prog d 162 (16, [l0, l1, l2, l3], st, k, h) = zz_Run zz_prog d 162 (17, [l0, l1, l2, l3], .int 2 :: st, k, h) := zz_k_num f162_16 rfl
theorem f162_17 : zz_fetch zz_prog 162 17 = some (.ireturn, 1, [0], []) := zz_fetch_of p162 rfl rfl
theorem s162_17 : zz_Run zz_prog d 162 (17, [l0, l1, l2, l3], [.int v], k, h) = some (.inl (some (.int v)), k, h) := zz_k_stop f162_17 rfl rfl rfl
theorem f162_18 : zz_fetch zz_prog 162 18 = some (.iconst 0, 1, [], []) := zz_fetch_of p162 rfl rfl
theorem s162_18 : zz_Run zz_prog d 162 (18, [l0, l1, l2, l3], st, k, h) = zz_Run zz_prog d 162 (19, [l0, l1, l2, l3], .int 0 :: st, k, h) := zz_k_num f162_18 rfl
theorem f162_19 : zz_fetch zz_prog 162 19 = some (.ireturn, 1, [0], []) := zz_fetch_of p162 rfl rfl
theorem s162_19 : zz_Run zz_prog d 162 (19, [l0, l1, l2, l3], [.int v], k, h) = some (.inl (some (.int v)), k, h) := zz_k_stop f162_19 rfl rfl rfl
end S162
section S163
variable {d n j : Nat} {l0 l1 l2 l3 l4 : Option Value} {st : List Value} {k : Bool} {h : zz_H} {v w v1 v2 : Int32} {y y1 : Int64} {a a1 a2 : Nat} {b0 b1 b2 b3 b4 b5 b6 b7 b8 : Value} {I : Nat → Nat → Int32} {J : Nat → Nat → Int64} {ex : List (Nat × Nat)}
theorem p163 : zz_prog 163 = some zz_m163 := rfl
theorem e163 (g0 : Nat) (g1 : Int32) (g2 : Int32) (g3 : Nat) : zz_Call zz_prog (d + 1) 163 [.ref g0, .int g1, .int g2, .ref g3] h = zz_Run zz_prog d 163 (0, [some (.ref g0), some (.int g1), some (.int g2), some (.ref g3), none], [], true, h) := rfl
theorem f163_0 : zz_fetch zz_prog 163 0 = some (.aload_n 3, 1, [], []) := zz_fetch_of p163 rfl rfl
theorem s163_0 : zz_Run zz_prog d 163 (0, [l0, l1, l2, some (.ref a), l4], st, k, h) = zz_Run zz_prog d 163 (1, [l0, l1, l2, some (.ref a), l4], .ref a :: st, k, h) := zz_k_num f163_0 rfl
theorem f163_1 : zz_fetch zz_prog 163 1 = some (.iconst 0, 1, [], []) := zz_fetch_of p163 rfl rfl
theorem s163_1 : zz_Run zz_prog d 163 (1, [l0, l1, l2, l3, l4], st, k, h) = zz_Run zz_prog d 163 (2, [l0, l1, l2, l3, l4], .int 0 :: st, k, h) := zz_k_num f163_1 rfl
theorem f163_2 : zz_fetch zz_prog 163 2 = some (.aload_n 0, 1, [], []) := zz_fetch_of p163 rfl rfl
theorem s163_2 : zz_Run zz_prog d 163 (2, [some (.ref a), l1, l2, l3, l4], st, k, h) = zz_Run zz_prog d 163 (3, [some (.ref a), l1, l2, l3, l4], .ref a :: st, k, h) := zz_k_num f163_2 rfl
theorem f163_3 : zz_fetch zz_prog 163 3 = some (.iload_n 1, 1, [], []) := zz_fetch_of p163 rfl rfl
theorem s163_3 : zz_Run zz_prog d 163 (3, [l0, some (.int v), l2, l3, l4], st, k, h) = zz_Run zz_prog d 163 (4, [l0, some (.int v), l2, l3, l4], .int v :: st, k, h) := zz_k_num f163_3 rfl
theorem f163_4 : zz_fetch zz_prog 163 4 = some (.iload_n 2, 1, [], []) := zz_fetch_of p163 rfl rfl
theorem s163_4 : zz_Run zz_prog d 163 (4, [l0, l1, some (.int v), l3, l4], st, k, h) = zz_Run zz_prog d 163 (5, [l0, l1, some (.int v), l3, l4], .int v :: st, k, h) := zz_k_num f163_4 rfl
theorem f163_5 : zz_fetch zz_prog 163 5 = some (.invokevirtual 38, 3, [0, 7, 3, 1], []) := zz_fetch_of p163 rfl rfl
theorem s163_5 : zz_Run zz_prog d 163 (5, [l0, l1, l2, l3, l4], [b0, b1, .ref 5, b3, b4], k, (zz_hp n I J ex)) = zz_ret (zz_Call zz_prog d 7 [.ref 5, b1, b0] (zz_hp n I J ex)) (fun v k' h' => zz_Run zz_prog d 163 (8, [l0, l1, l2, l3, l4], v.toList ++ [b3, b4], k && k', h')) (fun a k' h' => zz_th d 163 5 a [l0, l1, l2, l3, l4] (k && k') h') := zz_k_call f163_5 rfl rfl rfl
theorem f163_8 : zz_fetch zz_prog 163 8 = some (.i2l, 1, [], []) := zz_fetch_of p163 rfl rfl
theorem s163_8 : zz_Run zz_prog d 163 (8, [l0, l1, l2, l3, l4], .int v :: st, k, h) = zz_Run zz_prog d 163 (9, [l0, l1, l2, l3, l4], .long v.toInt64 :: st, k, h) := zz_k_num f163_8 rfl
theorem f163_9 : zz_fetch zz_prog 163 9 = some (.lastore, 1, [], []) := zz_fetch_of p163 rfl rfl
theorem s163_9 : zz_Run zz_prog d 163 (9, [l0, l1, l2, l3, l4], .long y :: .int 0 :: .ref 44 :: st, k, (zz_hp n I J ex)) = zz_Run zz_prog d 163 (10, [l0, l1, l2, l3, l4], st, false, (zz_hp n I (zz_up J 44 0 y) ex)) := zz_k_go f163_9 rfl rfl rfl
theorem f163_10 : zz_fetch zz_prog 163 10 = some (.goto 11, 3, [21], []) := zz_fetch_of p163 rfl rfl
theorem s163_10 : zz_Run zz_prog d 163 (10, [l0, l1, l2, l3, l4], st, k, h) = zz_Run zz_prog d 163 (21, [l0, l1, l2, l3, l4], st, k, h) := zz_k_num f163_10 rfl
theorem f163_13 : zz_fetch zz_prog 163 13 = some (.astore 4, 2, [], []) := zz_fetch_of p163 rfl rfl
theorem s163_13 : zz_Run zz_prog d 163 (13, [l0, l1, l2, l3, l4], .ref a :: st, k, h) = zz_sl l3 (zz_Run zz_prog d 163 (15, [l0, l1, l2, l3, some (.ref a)], st, k, h)) := zz_k_st (j := 4) (u := .ref a) f163_13 rfl (fun q hq => by cases hq) rfl (show 4 < 5 by decide) (by cases l3 <;> rfl) rfl
theorem f163_15 : zz_fetch zz_prog 163 15 = some (.iconst 1, 1, [], []) := zz_fetch_of p163 rfl rfl
theorem s163_15 : zz_Run zz_prog d 163 (15, [l0, l1, l2, l3, l4], st, k, h) = zz_Run zz_prog d 163 (16, [l0, l1, l2, l3, l4], .int 1 :: st, k, h) := zz_k_num f163_15 rfl
theorem f163_16 : zz_fetch zz_prog 163 16 = some (.ireturn, 1, [0], []) := zz_fetch_of p163 rfl rfl
theorem s163_16 : zz_Run zz_prog d 163 (16, [l0, l1, l2, l3, l4], [.int v], k, h) = some (.inl (some (.int v)), k, h) := zz_k_stop f163_16 rfl rfl rfl
theorem f163_17 : zz_fetch zz_prog 163 17 = some (.astore 4, 2, [], []) := zz_fetch_of p163 rfl rfl
theorem s163_17 : zz_Run zz_prog d 163 (17, [l0, l1, l2, l3, l4], .ref a :: st, k, h) = zz_sl l3 (zz_Run zz_prog d 163 (19, [l0, l1, l2, l3, some (.ref a)], st, k, h)) := zz_k_st (j := 4) (u := .ref a) f163_17 rfl (fun q hq => by cases hq) rfl (show 4 < 5 by decide) (by cases l3 <;> rfl) rfl
theorem f163_19 : zz_fetch zz_prog 163 19 = some (.iconst 2, 1, [], []) := zz_fetch_of p163 rfl rfl
theorem s163_19 : zz_Run zz_prog d 163 (19, [l0, l1, l2, l3, l4], st, k, h) = zz_Run zz_prog d 163 (20, [l0, l1, l2, l3, l4], .int 2 :: st, k, h) := zz_k_num f163_19 rfl
theorem f163_20 : zz_fetch zz_prog 163 20 = some (.ireturn, 1, [0], []) := zz_fetch_of p163 rfl rfl
theorem s163_20 : zz_Run zz_prog d 163 (20, [l0, l1, l2, l3, l4], [.int v], k, h) = some (.inl (some (.int v)), k, h) := zz_k_stop f163_20 rfl rfl rfl
theorem f163_21 : zz_fetch zz_prog 163 21 = some (.iconst 0, 1, [], []) := zz_fetch_of p163 rfl rfl
theorem s163_21 : zz_Run zz_prog d 163 (21, [l0, l1, l2, l3, l4], st, k, h) = zz_Run zz_prog d 163 (22, [l0, l1, l2, l3, l4], .int 0 :: st, k, h) := zz_k_num f163_21 rfl
theorem f163_22 : zz_fetch zz_prog 163 22 = some (.ireturn, 1, [0], []) := zz_fetch_of p163 rfl rfl
theorem s163_22 : zz_Run zz_prog d 163 (22, [l0, l1, l2, l3, l4], [.int v], k, h) = some (.inl (some (.int v)), k, h) := zz_k_stop f163_22 rfl rfl rfl
end S163
section S164
variable {d n j : Nat} {l0 l1 l2 l3 l4 l5 : Option Value} {st : List Value} {k : Bool} {h : zz_H} {v w v1 v2 : Int32} {y y1 : Int64} {a a1 a2 : Nat} {b0 b1 b2 b3 b4 b5 b6 b7 b8 : Value} {I : Nat → Nat → Int32} {J : Nat → Nat → Int64} {ex : List (Nat × Nat)}
theorem p164 : zz_prog 164 = some zz_m164 := rfl
theorem e164 (g0 : Nat) (g1 : Int32) (g2 : Int32) (g3 : Int32) (g4 : Nat) : zz_Call zz_prog (d + 1) 164 [.ref g0, .int g1, .int g2, .int g3, .ref g4] h = zz_Run zz_prog d 164 (0, [some (.ref g0), some (.int g1), some (.int g2), some (.int g3), some (.ref g4), none], [], true, h) := rfl
theorem f164_0 : zz_fetch zz_prog 164 0 = some (.aload 4, 2, [], []) := zz_fetch_of p164 rfl rfl
theorem s164_0 : zz_Run zz_prog d 164 (0, [l0, l1, l2, l3, some (.ref a), l5], st, k, h) = zz_Run zz_prog d 164 (2, [l0, l1, l2, l3, some (.ref a), l5], .ref a :: st, k, h) := zz_k_num f164_0 rfl
theorem f164_2 : zz_fetch zz_prog 164 2 = some (.iconst 0, 1, [], []) := zz_fetch_of p164 rfl rfl
theorem s164_2 : zz_Run zz_prog d 164 (2, [l0, l1, l2, l3, l4, l5], st, k, h) = zz_Run zz_prog d 164 (3, [l0, l1, l2, l3, l4, l5], .int 0 :: st, k, h) := zz_k_num f164_2 rfl
theorem f164_3 : zz_fetch zz_prog 164 3 = some (.aload_n 0, 1, [], []) := zz_fetch_of p164 rfl rfl
theorem s164_3 : zz_Run zz_prog d 164 (3, [some (.ref a), l1, l2, l3, l4, l5], st, k, h) = zz_Run zz_prog d 164 (4, [some (.ref a), l1, l2, l3, l4, l5], .ref a :: st, k, h) := zz_k_num f164_3 rfl
theorem f164_4 : zz_fetch zz_prog 164 4 = some (.iload_n 1, 1, [], []) := zz_fetch_of p164 rfl rfl
theorem s164_4 : zz_Run zz_prog d 164 (4, [l0, some (.int v), l2, l3, l4, l5], st, k, h) = zz_Run zz_prog d 164 (5, [l0, some (.int v), l2, l3, l4, l5], .int v :: st, k, h) := zz_k_num f164_4 rfl
theorem f164_5 : zz_fetch zz_prog 164 5 = some (.iload_n 2, 1, [], []) := zz_fetch_of p164 rfl rfl
theorem s164_5 : zz_Run zz_prog d 164 (5, [l0, l1, some (.int v), l3, l4, l5], st, k, h) = zz_Run zz_prog d 164 (6, [l0, l1, some (.int v), l3, l4, l5], .int v :: st, k, h) := zz_k_num f164_5 rfl
theorem f164_6 : zz_fetch zz_prog 164 6 = some (.iload_n 3, 1, [], []) := zz_fetch_of p164 rfl rfl
theorem s164_6 : zz_Run zz_prog d 164 (6, [l0, l1, l2, some (.int v), l4, l5], st, k, h) = zz_Run zz_prog d 164 (7, [l0, l1, l2, some (.int v), l4, l5], .int v :: st, k, h) := zz_k_num f164_6 rfl
theorem f164_7 : zz_fetch zz_prog 164 7 = some (.invokevirtual 41, 3, [0, 8, 4, 1], []) := zz_fetch_of p164 rfl rfl
theorem s164_7 : zz_Run zz_prog d 164 (7, [l0, l1, l2, l3, l4, l5], [b0, b1, b2, .ref 5, b4, b5], k, (zz_hp n I J ex)) = zz_ret (zz_Call zz_prog d 8 [.ref 5, b2, b1, b0] (zz_hp n I J ex)) (fun v k' h' => zz_Run zz_prog d 164 (10, [l0, l1, l2, l3, l4, l5], v.toList ++ [b4, b5], k && k', h')) (fun a k' h' => zz_th d 164 7 a [l0, l1, l2, l3, l4, l5] (k && k') h') := zz_k_call f164_7 rfl rfl rfl
theorem f164_10 : zz_fetch zz_prog 164 10 = some (.i2l, 1, [], []) := zz_fetch_of p164 rfl rfl
theorem s164_10 : zz_Run zz_prog d 164 (10, [l0, l1, l2, l3, l4, l5], .int v :: st, k, h) = zz_Run zz_prog d 164 (11, [l0, l1, l2, l3, l4, l5], .long v.toInt64 :: st, k, h) := zz_k_num f164_10 rfl
theorem f164_11 : zz_fetch zz_prog 164 11 = some (.lastore, 1, [], []) := zz_fetch_of p164 rfl rfl
theorem s164_11 : zz_Run zz_prog d 164 (11, [l0, l1, l2, l3, l4, l5], .long y :: .int 0 :: .ref 44 :: st, k, (zz_hp n I J ex)) = zz_Run zz_prog d 164 (12, [l0, l1, l2, l3, l4, l5], st, false, (zz_hp n I (zz_up J 44 0 y) ex)) := zz_k_go f164_11 rfl rfl rfl
theorem f164_12 : zz_fetch zz_prog 164 12 = some (.goto 11, 3, [23], []) := zz_fetch_of p164 rfl rfl
theorem s164_12 : zz_Run zz_prog d 164 (12, [l0, l1, l2, l3, l4, l5], st, k, h) = zz_Run zz_prog d 164 (23, [l0, l1, l2, l3, l4, l5], st, k, h) := zz_k_num f164_12 rfl
theorem f164_15 : zz_fetch zz_prog 164 15 = some (.astore 5, 2, [], []) := zz_fetch_of p164 rfl rfl
theorem s164_15 : zz_Run zz_prog d 164 (15, [l0, l1, l2, l3, l4, l5], .ref a :: st, k, h) = zz_sl l4 (zz_Run zz_prog d 164 (17, [l0, l1, l2, l3, l4, some (.ref a)], st, k, h)) := zz_k_st (j := 5) (u := .ref a) f164_15 rfl (fun q hq => by cases hq) rfl (show 5 < 6 by decide) (by cases l4 <;> rfl) rfl
theorem f164_17 : zz_fetch zz_prog 164 17 = some (.iconst 1, 1, [], []) := zz_fetch_of p164 rfl rfl
theorem s164_17 : zz_Run zz_prog d 164 (17, [l0, l1, l2, l3, l4, l5], st, k, h) = zz_Run zz_prog d 164 (18, [l0, l1, l2, l3, l4, l5], .int 1 :: st, k, h) := zz_k_num f164_17 rfl
theorem f164_18 : zz_fetch zz_prog 164 18 = some (.ireturn, 1, [0], []) := zz_fetch_of p164 rfl rfl
theorem s164_18 : zz_Run zz_prog d 164 (18, [l0, l1, l2, l3, l4, l5], [.int v], k, h) = some (.inl (some (.int v)), k, h) := zz_k_stop f164_18 rfl rfl rfl
theorem f164_19 : zz_fetch zz_prog 164 19 = some (.astore 5, 2, [], []) := zz_fetch_of p164 rfl rfl
theorem s164_19 : zz_Run zz_prog d 164 (19, [l0, l1, l2, l3, l4, l5], .ref a :: st, k, h) = zz_sl l4 (zz_Run zz_prog d 164 (21, [l0, l1, l2, l3, l4, some (.ref a)], st, k, h)) := zz_k_st (j := 5) (u := .ref a) f164_19 rfl (fun q hq => by cases hq) rfl (show 5 < 6 by decide) (by cases l4 <;> rfl) rfl
theorem f164_21 : zz_fetch zz_prog 164 21 = some (.iconst 2, 1, [], []) := zz_fetch_of p164 rfl rfl
theorem s164_21 : zz_Run zz_prog d 164 (21, [l0, l1, l2, l3, l4, l5], st, k, h) = zz_Run zz_prog d 164 (22, [l0, l1, l2, l3, l4, l5], .int 2 :: st, k, h) := zz_k_num f164_21 rfl
theorem f164_22 : zz_fetch zz_prog 164 22 = some (.ireturn, 1, [0], []) := zz_fetch_of p164 rfl rfl
theorem s164_22 : zz_Run zz_prog d 164 (22, [l0, l1, l2, l3, l4, l5], [.int v], k, h) = some (.inl (some (.int v)), k, h) := zz_k_stop f164_22 rfl rfl rfl
theorem f164_23 : zz_fetch zz_prog 164 23 = some (.iconst 0, 1, [], []) := zz_fetch_of p164 rfl rfl
theorem s164_23 : zz_Run zz_prog d 164 (23, [l0, l1, l2, l3, l4, l5], st, k, h) = zz_Run zz_prog d 164 (24, [l0, l1, l2, l3, l4, l5], .int 0 :: st, k, h) := zz_k_num f164_23 rfl
theorem f164_24 : zz_fetch zz_prog 164 24 = some (.ireturn, 1, [0], []) := zz_fetch_of p164 rfl rfl
theorem s164_24 : zz_Run zz_prog d 164 (24, [l0, l1, l2, l3, l4, l5], [.int v], k, h) = some (.inl (some (.int v)), k, h) := zz_k_stop f164_24 rfl rfl rfl
end S164
section S165
variable {d n j : Nat} {l0 l1 l2 l3 l4 : Option Value} {st : List Value} {k : Bool} {h : zz_H} {v w v1 v2 : Int32} {y y1 : Int64} {a a1 a2 : Nat} {b0 b1 b2 b3 b4 b5 b6 b7 b8 : Value} {I : Nat → Nat → Int32} {J : Nat → Nat → Int64} {ex : List (Nat × Nat)}
theorem p165 : zz_prog 165 = some zz_m165 := rfl
theorem e165 (g0 : Nat) (g1 : Int32) (g2 : Int32) (g3 : Nat) : zz_Call zz_prog (d + 1) 165 [.ref g0, .int g1, .int g2, .ref g3] h = zz_Run zz_prog d 165 (0, [some (.ref g0), some (.int g1), some (.int g2), some (.ref g3), none], [], true, h) := rfl
theorem f165_0 : zz_fetch zz_prog 165 0 = some (.aload_n 3, 1, [], []) := zz_fetch_of p165 rfl rfl
theorem s165_0 : zz_Run zz_prog d 165 (0, [l0, l1, l2, some (.ref a), l4], st, k, h) = zz_Run zz_prog d 165 (1, [l0, l1, l2, some (.ref a), l4], .ref a :: st, k, h) := zz_k_num f165_0 rfl
theorem f165_1 : zz_fetch zz_prog 165 1 = some (.iconst 0, 1, [], []) := zz_fetch_of p165 rfl rfl
theorem s165_1 : zz_Run zz_prog d 165 (1, [l0, l1, l2, l3, l4], st, k, h) = zz_Run zz_prog d 165 (2, [l0, l1, l2, l3, l4], .int 0 :: st, k, h) := zz_k_num f165_1 rfl
theorem f165_2 : zz_fetch zz_prog 165 2 = some (.aload_n 0, 1, [], []) := zz_fetch_of p165 rfl rfl
theorem s165_2 : zz_Run zz_prog d 165 (2, [some (.ref a), l1, l2, l3, l4], st, k, h) = zz_Run zz_prog d 165 (3, [some (.ref a), l1, l2, l3, l4], .ref a :: st, k, h) := zz_k_num f165_2 rfl
theorem f165_3 : zz_fetch zz_prog 165 3 = some (.iload_n 1, 1, [], []) := zz_fetch_of p165 rfl rfl
theorem s165_3 : zz_Run zz_prog d 165 (3, [l0, some (.int v), l2, l3, l4], st, k, h) = zz_Run zz_prog d 165 (4, [l0, some (.int v), l2, l3, l4], .int v :: st, k, h) := zz_k_num f165_3 rfl
theorem f165_4 : zz_fetch zz_prog 165 4 = some (.iload_n 2, 1, [], []) := zz_fetch_of p165 rfl rfl
theorem s165_4 : zz_Run zz_prog d 165 (4, [l0, l1, some (.int v), l3, l4], st, k, h) = zz_Run zz_prog d 165 (5, [l0, l1, some (.int v), l3, l4], .int v :: st, k, h) := zz_k_num f165_4 rfl
theorem f165_5 : zz_fetch zz_prog 165 5 = some (.invokevirtual 45, 3, [0, 9, 3, 1], []) := zz_fetch_of p165 rfl rfl
theorem s165_5 : zz_Run zz_prog d 165 (5, [l0, l1, l2, l3, l4], [b0, b1, .ref 5, b3, b4], k, (zz_hp n I J ex)) = zz_ret (zz_Call zz_prog d 9 [.ref 5, b1, b0] (zz_hp n I J ex)) (fun v k' h' => zz_Run zz_prog d 165 (8, [l0, l1, l2, l3, l4], v.toList ++ [b3, b4], k && k', h')) (fun a k' h' => zz_th d 165 5 a [l0, l1, l2, l3, l4] (k && k') h') := zz_k_call f165_5 rfl rfl rfl
theorem f165_8 : zz_fetch zz_prog 165 8 = some (.i2l, 1, [], []) := zz_fetch_of p165 rfl rfl
theorem s165_8 : zz_Run zz_prog d 165 (8, [l0, l1, l2, l3, l4], .int v :: st, k, h) = zz_Run zz_prog d 165 (9, [l0, l1, l2, l3, l4], .long v.toInt64 :: st, k, h) := zz_k_num f165_8 rfl
theorem f165_9 : zz_fetch zz_prog 165 9 = some (.lastore, 1, [], []) := zz_fetch_of p165 rfl rfl
theorem s165_9 : zz_Run zz_prog d 165 (9, [l0, l1, l2, l3, l4], .long y :: .int 0 :: .ref 44 :: st, k, (zz_hp n I J ex)) = zz_Run zz_prog d 165 (10, [l0, l1, l2, l3, l4], st, false, (zz_hp n I (zz_up J 44 0 y) ex)) := zz_k_go f165_9 rfl rfl rfl
theorem f165_10 : zz_fetch zz_prog 165 10 = some (.goto 11, 3, [21], []) := zz_fetch_of p165 rfl rfl
theorem s165_10 : zz_Run zz_prog d 165 (10, [l0, l1, l2, l3, l4], st, k, h) = zz_Run zz_prog d 165 (21, [l0, l1, l2, l3, l4], st, k, h) := zz_k_num f165_10 rfl
theorem f165_13 : zz_fetch zz_prog 165 13 = some (.astore 4, 2, [], []) := zz_fetch_of p165 rfl rfl
theorem s165_13 : zz_Run zz_prog d 165 (13, [l0, l1, l2, l3, l4], .ref a :: st, k, h) = zz_sl l3 (zz_Run zz_prog d 165 (15, [l0, l1, l2, l3, some (.ref a)], st, k, h)) := zz_k_st (j := 4) (u := .ref a) f165_13 rfl (fun q hq => by cases hq) rfl (show 4 < 5 by decide) (by cases l3 <;> rfl) rfl
theorem f165_15 : zz_fetch zz_prog 165 15 = some (.iconst 1, 1, [], []) := zz_fetch_of p165 rfl rfl
theorem s165_15 : zz_Run zz_prog d 165 (15, [l0, l1, l2, l3, l4], st, k, h) = zz_Run zz_prog d 165 (16, [l0, l1, l2, l3, l4], .int 1 :: st, k, h) := zz_k_num f165_15 rfl
theorem f165_16 : zz_fetch zz_prog 165 16 = some (.ireturn, 1, [0], []) := zz_fetch_of p165 rfl rfl
theorem s165_16 : zz_Run zz_prog d 165 (16, [l0, l1, l2, l3, l4], [.int v], k, h) = some (.inl (some (.int v)), k, h) := zz_k_stop f165_16 rfl rfl rfl
theorem f165_17 : zz_fetch zz_prog 165 17 = some (.astore 4, 2, [], []) := zz_fetch_of p165 rfl rfl
theorem s165_17 : zz_Run zz_prog d 165 (17, [l0, l1, l2, l3, l4], .ref a :: st, k, h) = zz_sl l3 (zz_Run zz_prog d 165 (19, [l0, l1, l2, l3, some (.ref a)], st, k, h)) := zz_k_st (j := 4) (u := .ref a) f165_17 rfl (fun q hq => by cases hq) rfl (show 4 < 5 by decide) (by cases l3 <;> rfl) rfl
theorem f165_19 : zz_fetch zz_prog 165 19 = some (.iconst 2, 1, [], []) := zz_fetch_of p165 rfl rfl
theorem s165_19 : zz_Run zz_prog d 165 (19, [l0, l1, l2, l3, l4], st, k, h) = zz_Run zz_prog d 165 (20, [l0, l1, l2, l3, l4], .int 2 :: st, k, h) := zz_k_num f165_19 rfl
theorem f165_20 : zz_fetch zz_prog 165 20 = some (.ireturn, 1, [0], []) := zz_fetch_of p165 rfl rfl
theorem s165_20 : zz_Run zz_prog d 165 (20, [l0, l1, l2, l3, l4], [.int v], k, h) = some (.inl (some (.int v)), k, h) := zz_k_stop f165_20 rfl rfl rfl
theorem f165_21 : zz_fetch zz_prog 165 21 = some (.iconst 0, 1, [], []) := zz_fetch_of p165 rfl rfl
theorem s165_21 : zz_Run zz_prog d 165 (21, [l0, l1, l2, l3, l4], st, k, h) = zz_Run zz_prog d 165 (22, [l0, l1, l2, l3, l4], .int 0 :: st, k, h) := zz_k_num f165_21 rfl
theorem f165_22 : zz_fetch zz_prog 165 22 = some (.ireturn, 1, [0], []) := zz_fetch_of p165 rfl rfl
theorem s165_22 : zz_Run zz_prog d 165 (22, [l0, l1, l2, l3, l4], [.int v], k, h) = some (.inl (some (.int v)), k, h) := zz_k_stop f165_22 rfl rfl rfl
end S165
section S166
variable {d n j : Nat} {l0 l1 l2 l3 l4 : Option Value} {st : List Value} {k : Bool} {h : zz_H} {v w v1 v2 : Int32} {y y1 : Int64} {a a1 a2 : Nat} {b0 b1 b2 b3 b4 b5 b6 b7 b8 : Value} {I : Nat → Nat → Int32} {J : Nat → Nat → Int64} {ex : List (Nat × Nat)}
theorem p166 : zz_prog 166 = some zz_m166 := rfl
theorem e166 (g0 : Nat) (g1 : Int32) (g2 : Int32) (g3 : Int32) : zz_Call zz_prog (d + 1) 166 [.ref g0, .int g1, .int g2, .int g3] h = zz_Run zz_prog d 166 (0, [some (.ref g0), some (.int g1), some (.int g2), some (.int g3), none], [], true, h) := rfl
theorem f166_0 : zz_fetch zz_prog 166 0 = some (.aload_n 0, 1, [], []) := zz_fetch_of p166 rfl rfl
theorem s166_0 : zz_Run zz_prog d 166 (0, [some (.ref a), l1, l2, l3, l4], st, k, h) = zz_Run zz_prog d 166 (1, [some (.ref a), l1, l2, l3, l4], .ref a :: st, k, h) := zz_k_num f166_0 rfl
theorem f166_1 : zz_fetch zz_prog 166 1 = some (.iload_n 1, 1, [], []) := zz_fetch_of p166 rfl rfl
theorem s166_1 : zz_Run zz_prog d 166 (1, [l0, some (.int v), l2, l3, l4], st, k, h) = zz_Run zz_prog d 166 (2, [l0, some (.int v), l2, l3, l4], .int v :: st, k, h) := zz_k_num f166_1 rfl
theorem f166_2 : zz_fetch zz_prog 166 2 = some (.iload_n 2, 1, [], []) := zz_fetch_of p166 rfl rfl
theorem s166_2 : zz_Run zz_prog d 166 (2, [l0, l1, some (.int v), l3, l4], st, k, h) = zz_Run zz_prog d 166 (3, [l0, l1, some (.int v), l3, l4], .int v :: st, k, h) := zz_k_num f166_2 rfl
theorem f166_3 : zz_fetch zz_prog 166 3 = some (.iload_n 3, 1, [], []) := zz_fetch_of p166 rfl rfl
theorem s166_3 : zz_Run zz_prog d 166 (3, [l0, l1, l2, some (.int v), l4], st, k, h) = zz_Run zz_prog d 166 (4, [l0, l1, l2, some (.int v), l4], .int v :: st, k, h) := zz_k_num f166_3 rfl
theorem f166_4 : zz_fetch zz_prog 166 4 = some (.invokevirtual 48, 3, [0, 10, 4, 1], []) := zz_fetch_of p166 rfl rfl
theorem s166_4 : zz_Run zz_prog d 166 (4, [l0, l1, l2, l3, l4], [b0, b1, b2, .ref 5], k, (zz_hp n I J ex)) = zz_ret (zz_Call zz_prog d 10 [.ref 5, b2, b1, b0] (zz_hp n I J ex)) (fun v k' h' => zz_Run zz_prog d 166 (7, [l0, l1, l2, l3, l4], v.toList ++ [], k && k', h')) (fun a k' h' => zz_th d 166 4 a [l0, l1, l2, l3, l4] (k && k') h') := zz_k_call f166_4 rfl rfl rfl
theorem f166_7 : zz_fetch zz_prog 166 7 = some (.goto 11, 3, [18], []) := zz_fetch_of p166 rfl rfl
theorem s166_7 : zz_Run zz_prog d 166 (7, [l0, l1, l2, l3, l4], st, k, h) = zz_Run zz_prog d 166 (18, [l0, l1, l2, l3, l4], st, k, h) := zz_k_num f166_7 rfl
theorem f166_10 : zz_fetch zz_prog 166 10 = some (.astore 4, 2, [], []) := zz_fetch_of p166 rfl rfl
theorem s166_10 : zz_Run zz_prog d 166 (10, [l0, l1, l2, l3, l4], .ref a :: st, k, h) = zz_sl l3 (zz_Run zz_prog d 166 (12, [l0, l1, l2, l3, some (.ref a)], st, k, h)) := zz_k_st (j := 4) (u := .ref a) f166_10 rfl (fun q hq => by cases hq) rfl (show 4 < 5 by decide) (by cases l3 <;> rfl) rfl
theorem f166_12 : zz_fetch zz_prog 166 12 = some (.iconst 1, 1, [], []) := zz_fetch_of p166 rfl rfl
theorem s166_12 : zz_Run zz_prog d 166 (12, [l0, l1, l2, l3, l4], st, k, h) = zz_Run zz_prog d 166 (13, [l0, l1, l2, l3, l4], .int 1 :: st, k, h) := zz_k_num f166_12 rfl
theorem f166_13 : zz_fetch zz_prog 166 13 = some (.ireturn, 1, [0], []) := zz_fetch_of p166 rfl rfl
theorem s166_13 : zz_Run zz_prog d 166 (13, [l0, l1, l2, l3, l4], [.int v], k, h) = some (.inl (some (.int v)), k, h) := zz_k_stop f166_13 rfl rfl rfl
theorem f166_14 : zz_fetch zz_prog 166 14 = some (.astore 4, 2, [], []) := zz_fetch_of p166 rfl rfl
theorem s166_14 : zz_Run zz_prog d 166 (14, [l0, l1, l2, l3, l4], .ref a :: st, k, h) = zz_sl l3 (zz_Run zz_prog d 166 (16, [l0, l1, l2, l3, some (.ref a)], st, k, h)) := zz_k_st (j := 4) (u := .ref a) f166_14 rfl (fun q hq => by cases hq) rfl (show 4 < 5 by decide) (by cases l3 <;> rfl) rfl
theorem f166_16 : zz_fetch zz_prog 166 16 = some (.iconst 2, 1, [], []) := zz_fetch_of p166 rfl rfl
theorem s166_16 : zz_Run zz_prog d 166 (16, [l0, l1, l2, l3, l4], st, k, h) = zz_Run zz_prog d 166 (17, [l0, l1, l2, l3, l4], .int 2 :: st, k, h) := zz_k_num f166_16 rfl
theorem f166_17 : zz_fetch zz_prog 166 17 = some (.ireturn, 1, [0], []) := zz_fetch_of p166 rfl rfl
theorem s166_17 : zz_Run zz_prog d 166 (17, [l0, l1, l2, l3, l4], [.int v], k, h) = some (.inl (some (.int v)), k, h) := zz_k_stop f166_17 rfl rfl rfl
theorem f166_18 : zz_fetch zz_prog 166 18 = some (.iconst 0, 1, [], []) := zz_fetch_of p166 rfl rfl
theorem s166_18 : zz_Run zz_prog d 166 (18, [l0, l1, l2, l3, l4], st, k, h) = zz_Run zz_prog d 166 (19, [l0, l1, l2, l3, l4], .int 0 :: st, k, h) := zz_k_num f166_18 rfl
theorem f166_19 : zz_fetch zz_prog 166 19 = some (.ireturn, 1, [0], []) := zz_fetch_of p166 rfl rfl
theorem s166_19 : zz_Run zz_prog d 166 (19, [l0, l1, l2, l3, l4], [.int v], k, h) = some (.inl (some (.int v)), k, h) := zz_k_stop f166_19 rfl rfl rfl
end S166
section S167
variable {d n j : Nat} {l0 l1 l2 : Option Value} {st : List Value} {k : Bool} {h : zz_H} {v w v1 v2 : Int32} {y y1 : Int64} {a a1 a2 : Nat} {b0 b1 b2 b3 b4 b5 b6 b7 b8 : Value} {I : Nat → Nat → Int32} {J : Nat → Nat → Int64} {ex : List (Nat × Nat)}
theorem p167 : zz_prog 167 = some zz_m167 := rfl
theorem e167 (g0 : Nat) (g1 : Nat) : zz_Call zz_prog (d + 1) 167 [.ref g0, .ref g1] h = zz_Run zz_prog d 167 (0, [some (.ref g0), some (.ref g1), none], [], true, h) := rfl
theorem f167_0 : zz_fetch zz_prog 167 0 = some (.aload_n 1, 1, [], []) := zz_fetch_of p167 rfl rfl
theorem s167_0 : zz_Run zz_prog d 167 (0, [l0, some (.ref a), l2], st, k, h) = zz_Run zz_prog d 167 (1, [l0, some (.ref a), l2], .ref a :: st, k, h) := zz_k_num f167_0 rfl
theorem f167_1 : zz_fetch zz_prog 167 1 = some (.iconst 0, 1, [], []) := zz_fetch_of p167 rfl rfl
theorem s167_1 : zz_Run zz_prog d 167 (1, [l0, l1, l2], st, k, h) = zz_Run zz_prog d 167 (2, [l0, l1, l2], .int 0 :: st, k, h) := zz_k_num f167_1 rfl
theorem f167_2 : zz_fetch zz_prog 167 2 = some (.aload_n 0, 1, [], []) := zz_fetch_of p167 rfl rfl
theorem s167_2 : zz_Run zz_prog d 167 (2, [some (.ref a), l1, l2], st, k, h) = zz_Run zz_prog d 167 (3, [some (.ref a), l1, l2], .ref a :: st, k, h) := zz_k_num f167_2 rfl
theorem f167_3 : zz_fetch zz_prog 167 3 = some (.invokevirtual 51, 3, [0, 11, 1, 1], []) := zz_fetch_of p167 rfl rfl
theorem s167_3 : zz_Run zz_prog d 167 (3, [l0, l1, l2], [.ref 5, b1, b2], k, (zz_hp n I J ex)) = zz_ret (zz_Call zz_prog d 11 [.ref 5] (zz_hp n I J ex)) (fun v k' h' => zz_Run zz_prog d 167 (6, [l0, l1, l2], v.toList ++ [b1, b2], k && k', h')) (fun a k' h' => zz_th d 167 3 a [l0, l1, l2] (k && k') h') := zz_k_call f167_3 rfl rfl rfl
theorem f167_6 : zz_fetch zz_prog 167 6 = some (.i2l, 1, [], []) := zz_fetch_of p167 rfl rfl
theorem s167_6 : zz_Run zz_prog d 167 (6, [l0, l1, l2], .int v :: st, k, h) = zz_Run zz_prog d 167 (7, [l0, l1, l2], .long v.toInt64 :: st, k, h) := zz_k_num f167_6 rfl
theorem f167_7 : zz_fetch zz_prog 167 7 = some (.lastore, 1, [], []) := zz_fetch_of p167 rfl rfl
theorem s167_7 : zz_Run zz_prog d 167 (7, [l0, l1, l2], .long y :: .int 0 :: .ref 44 :: st, k, (zz_hp n I J ex)) = zz_Run zz_prog d 167 (8, [l0, l1, l2], st, false, (zz_hp n I (zz_up J 44 0 y) ex)) := zz_k_go f167_7 rfl rfl rfl
theorem f167_8 : zz_fetch zz_prog 167 8 = some (.goto 6, 3, [14], []) := zz_fetch_of p167 rfl rfl
theorem s167_8 : zz_Run zz_prog d 167 (8, [l0, l1, l2], st, k, h) = zz_Run zz_prog d 167 (14, [l0, l1, l2], st, k, h) := zz_k_num f167_8 rfl
theorem f167_11 : zz_fetch zz_prog 167 11 = some (.astore_n 2, 1, [], []) := zz_fetch_of p167 rfl rfl
theorem s167_11 : zz_Run zz_prog d 167 (11, [l0, l1, l2], .ref a :: st, k, h) = zz_sl l1 (zz_Run zz_prog d 167 (12, [l0, l1, some (.ref a)], st, k, h)) := zz_k_st (j := 2) (u := .ref a) f167_11 rfl (fun q hq => by cases hq) rfl (show 2 < 3 by decide) (by cases l1 <;> rfl) rfl
theorem f167_12 : zz_fetch zz_prog 167 12 = some (.iconst 1, 1, [], []) := zz_fetch_of p167 rfl rfl
theorem s167_12 : zz_Run zz_prog d 167 (12, [l0, l1, l2], st, k, h) = zz_Run zz_prog d 167 (13, [l0, l1, l2], .int 1 :: st, k, h) := zz_k_num f167_12 rfl
theorem f167_13 : zz_fetch zz_prog 167 13 = some (.ireturn, 1, [0], []) := zz_fetch_of p167 rfl rfl
theorem s167_13 : zz_Run zz_prog d 167 (13, [l0, l1, l2], [.int v], k, h) = some (.inl (some (.int v)), k, h) := zz_k_stop f167_13 rfl rfl rfl
theorem f167_14 : zz_fetch zz_prog 167 14 = some (.iconst 0, 1, [], []) := zz_fetch_of p167 rfl rfl
theorem s167_14 : zz_Run zz_prog d 167 (14, [l0, l1, l2], st, k, h) = zz_Run zz_prog d 167 (15, [l0, l1, l2], .int 0 :: st, k, h) := zz_k_num f167_14 rfl
theorem f167_15 : zz_fetch zz_prog 167 15 = some (.ireturn, 1, [0], []) := zz_fetch_of p167 rfl rfl
theorem s167_15 : zz_Run zz_prog d 167 (15, [l0, l1, l2], [.int v], k, h) = some (.inl (some (.int v)), k, h) := zz_k_stop f167_15 rfl rfl rfl
end S167
section S168
variable {d n j : Nat} {l0 l1 l2 : Option Value} {st : List Value} {k : Bool} {h : zz_H} {v w v1 v2 : Int32} {y y1 : Int64} {a a1 a2 : Nat} {b0 b1 b2 b3 b4 b5 b6 b7 b8 : Value} {I : Nat → Nat → Int32} {J : Nat → Nat → Int64} {ex : List (Nat × Nat)}
theorem p168 : zz_prog 168 = some zz_m168 := rfl
theorem e168 (g0 : Nat) (g1 : Nat) : zz_Call zz_prog (d + 1) 168 [.ref g0, .ref g1] h = zz_Run zz_prog d 168 (0, [some (.ref g0), some (.ref g1), none], [], true, h) := rfl
theorem f168_0 : zz_fetch zz_prog 168 0 = some (.aload_n 1, 1, [], []) := zz_fetch_of p168 rfl rfl
theorem s168_0 : zz_Run zz_prog d 168 (0, [l0, some (.ref a), l2], st, k, h) = zz_Run zz_prog d 168 (1, [l0, some (.ref a), l2], .ref a :: st, k, h) := zz_k_num f168_0 rfl
theorem f168_1 : zz_fetch zz_prog 168 1 = some (.iconst 0, 1, [], []) := zz_fetch_of p168 rfl rfl
theorem s168_1 : zz_Run zz_prog d 168 (1, [l0, l1, l2], st, k, h) = zz_Run zz_prog d 168 (2, [l0, l1, l2], .int 0 :: st, k, h) := zz_k_num f168_1 rfl
theorem f168_2 : zz_fetch zz_prog 168 2 = some (.aload_n 0, 1, [], []) := zz_fetch_of p168 rfl rfl
theorem s168_2 : zz_Run zz_prog d 168 (2, [some (.ref a), l1, l2], st, k, h) = zz_Run zz_prog d 168 (3, [some (.ref a), l1, l2], .ref a :: st, k, h) := zz_k_num f168_2 rfl
theorem f168_3 : zz_fetch zz_prog 168 3 = some (.invokevirtual 55, 3, [0, 12, 1, 1], []) := zz_fetch_of p168 rfl rfl
theorem s168_3 : zz_Run zz_prog d 168 (3, [l0, l1, l2], [.ref 5, b1, b2], k, (zz_hp n I J ex)) = zz_ret (zz_Call zz_prog d 12 [.ref 5] (zz_hp n I J ex)) (fun v k' h' => zz_Run zz_prog d 168 (6, [l0, l1, l2], v.toList ++ [b1, b2], k && k', h')) (fun a k' h' => zz_th d 168 3 a [l0, l1, l2] (k && k') h') := zz_k_call f168_3 rfl rfl rfl
theorem f168_6 : zz_fetch zz_prog 168 6 = some (.i2l, 1, [], []) := zz_fetch_of p168 rfl rfl
theorem s168_6 : zz_Run zz_prog d 168 (6, [l0, l1, l2], .int v :: st, k, h) = zz_Run zz_prog d 168 (7, [l0, l1, l2], .long v.toInt64 :: st, k, h) := zz_k_num f168_6 rfl
theorem f168_7 : zz_fetch zz_prog 168 7 = some (.lastore, 1, [], []) := zz_fetch_of p168 rfl rfl
theorem s168_7 : zz_Run zz_prog d 168 (7, [l0, l1, l2], .long y :: .int 0 :: .ref 44 :: st, k, (zz_hp n I J ex)) = zz_Run zz_prog d 168 (8, [l0, l1, l2], st, false, (zz_hp n I (zz_up J 44 0 y) ex)) := zz_k_go f168_7 rfl rfl rfl
theorem f168_8 : zz_fetch zz_prog 168 8 = some (.goto 6, 3, [14], []) := zz_fetch_of p168 rfl rfl
theorem s168_8 : zz_Run zz_prog d 168 (8, [l0, l1, l2], st, k, h) = zz_Run zz_prog d 168 (14, [l0, l1, l2], st, k, h) := zz_k_num f168_8 rfl
theorem f168_11 : zz_fetch zz_prog 168 11 = some (.astore_n 2, 1, [], []) := zz_fetch_of p168 rfl rfl
theorem s168_11 : zz_Run zz_prog d 168 (11, [l0, l1, l2], .ref a :: st, k, h) = zz_sl l1 (zz_Run zz_prog d 168 (12, [l0, l1, some (.ref a)], st, k, h)) := zz_k_st (j := 2) (u := .ref a) f168_11 rfl (fun q hq => by cases hq) rfl (show 2 < 3 by decide) (by cases l1 <;> rfl) rfl
theorem f168_12 : zz_fetch zz_prog 168 12 = some (.iconst 1, 1, [], []) := zz_fetch_of p168 rfl rfl
theorem s168_12 : zz_Run zz_prog d 168 (12, [l0, l1, l2], st, k, h) = zz_Run zz_prog d 168 (13, [l0, l1, l2], .int 1 :: st, k, h) := zz_k_num f168_12 rfl
theorem f168_13 : zz_fetch zz_prog 168 13 = some (.ireturn, 1, [0], []) := zz_fetch_of p168 rfl rfl
theorem s168_13 : zz_Run zz_prog d 168 (13, [l0, l1, l2], [.int v], k, h) = some (.inl (some (.int v)), k, h) := zz_k_stop f168_13 rfl rfl rfl
theorem f168_14 : zz_fetch zz_prog 168 14 = some (.iconst 0, 1, [], []) := zz_fetch_of p168 rfl rfl
theorem s168_14 : zz_Run zz_prog d 168 (14, [l0, l1, l2], st, k, h) = zz_Run zz_prog d 168 (15, [l0, l1, l2], .int 0 :: st, k, h) := zz_k_num f168_14 rfl
theorem f168_15 : zz_fetch zz_prog 168 15 = some (.ireturn, 1, [0], []) := zz_fetch_of p168 rfl rfl
theorem s168_15 : zz_Run zz_prog d 168 (15, [l0, l1, l2], [.int v], k, h) = some (.inl (some (.int v)), k, h) := zz_k_stop f168_15 rfl rfl rfl
end S168
section S169
variable {d n j : Nat} {l0 l1 l2 l3 l4 l5 : Option Value} {st : List Value} {k : Bool} {h : zz_H} {v w v1 v2 : Int32} {y y1 : Int64} {a a1 a2 : Nat} {b0 b1 b2 b3 b4 b5 b6 b7 b8 : Value} {I : Nat → Nat → Int32} {J : Nat → Nat → Int64} {ex : List (Nat × Nat)}
theorem p169 : zz_prog 169 = some zz_m169 := rfl
theorem e169 (g0 : Nat) (g1 : Int32) (g2 : Int32) (g3 : Int32) (g4 : Nat) : zz_Call zz_prog (d + 1) 169 [.ref g0, .int g1, .int g2, .int g3, .ref g4] h = zz_Run zz_prog d 169 (0, [some (.ref g0), some (.int g1), some (.int g2), some (.int g3), some (.ref g4), none], [], true, h) := rfl
theorem f169_0 : zz_fetch zz_prog 169 0 = some (.aload 4, 2, [], []) := zz_fetch_of p169 rfl rfl
theorem s169_0 : zz_Run zz_prog d 169 (0, [l0, l1, l2, l3, some (.ref a), l5], st, k, h) = zz_Run zz_prog d 169 (2, [l0, l1, l2, l3, some (.ref a), l5], .ref a :: st, k, h) := zz_k_num f169_0 rfl
theorem f169_2 : zz_fetch zz_prog 169 2 = some (.iconst 0, 1, [], []) := zz_fetch_of p169 rfl rfl
theorem s169_2 : zz_Run zz_prog d 169 (2, [l0, l1, l2, l3, l4, l5], st, k, h) = zz_Run zz_prog d 169 (3, [l0, l1, l2, l3, l4, l5], .int 0 :: st, k, h) := zz_k_num f169_2 rfl
theorem f169_3 : zz_fetch zz_prog 169 3 = some (.aload_n 0, 1, [], []) := zz_fetch_of p169 rfl rfl
theorem s169_3 : zz_Run zz_prog d 169 (3, [some (.ref a), l1, l2, l3, l4, l5], st, k, h) = zz_Run zz_prog d 169 (4, [some (.ref a), l1, l2, l3, l4, l5], .ref a :: st, k, h) := zz_k_num f169_3 rfl
theorem f169_4 : zz_fetch zz_prog 169 4 = some (.iload_n 1, 1, [], []) := zz_fetch_of p169 rfl rfl
theorem s169_4 : zz_Run zz_prog d 169 (4, [l0, some (.int v), l2, l3, l4, l5], st, k, h) = zz_Run zz_prog d 169 (5, [l0, some (.int v), l2, l3, l4, l5], .int v :: st, k, h) := zz_k_num f169_4 rfl
theorem f169_5 : zz_fetch zz_prog 169 5 = some (.iload_n 2, 1, [], []) := zz_fetch_of p169 rfl rfl
theorem s169_5 : zz_Run zz_prog d 169 (5, [l0, l1, some (.int v), l3, l4, l5], st, k, h) = zz_Run zz_prog d 169 (6, [l0, l1, some (.int v), l3, l4, l5], .int v :: st, k, h) := zz_k_num f169_5 rfl
theorem f169_6 : zz_fetch zz_prog 169 6 = some (.iload_n 3, 1, [], []) := zz_fetch_of p169 rfl rfl
theorem s169_6 : zz_Run zz_prog d 169 (6, [l0, l1, l2, some (.int v), l4, l5], st, k, h) = zz_Run zz_prog d 169 (7, [l0, l1, l2, some (.int v), l4, l5], .int v :: st, k, h) := zz_k_num f169_6 rfl
theorem f169_7 : zz_fetch zz_prog 169 7 = some (.invokevirtual 58, 3, [0, 13, 4, 1], []) := zz_fetch_of p169 rfl rfl
theorem s169_7 : zz_Run zz_prog d 169 (7, [l0, l1, l2, l3, l4, l5], [b0, b1, b2, .ref 5, b4, b5], k, (zz_hp n I J ex)) = zz_ret (zz_Call zz_prog d 13 [.ref 5, b2, b1, b0] (zz_hp n I J ex)) (fun v k' h' => zz_Run zz_prog d 169 (10, [l0, l1, l2, l3, l4, l5], v.toList ++ [b4, b5], k && k', h')) (fun a k' h' => zz_th d 169 7 a [l0, l1, l2, l3, l4, l5] (k && k') h') := zz_k_call f169_7 rfl rfl rfl
theorem f169_10 : zz_fetch zz_prog 169 10 = some (.i2l, 1, [], []) := zz_fetch_of p169 rfl rfl
theorem s169_10 : zz_Run zz_prog d 169 (10, [l0, l1, l2, l3, l4, l5], .int v :: st, k, h) = zz_Run zz_prog d 169 (11, [l0, l1, l2, l3, l4, l5], .long v.toInt64 :: st, k, h) := zz_k_num f169_10 rfl
theorem f169_11 : zz_fetch zz_prog 169 11 = some (.lastore, 1, [], []) := zz_fetch_of p169 rfl rfl
theorem s169_11 : zz_Run zz_prog d 169 (11, [l0, l1, l2, l3, l4, l5], .long y :: .int 0 :: .ref 44 :: st, k, (zz_hp n I J ex)) = zz_Run zz_prog d 169 (12, [l0, l1, l2, l3, l4, l5], st, false, (zz_hp n I (zz_up J 44 0 y) ex)) := zz_k_go f169_11 rfl rfl rfl
theorem f169_12 : zz_fetch zz_prog 169 12 = some (.goto 11, 3, [23], []) := zz_fetch_of p169 rfl rfl
theorem s169_12 : zz_Run zz_prog d 169 (12, [l0, l1, l2, l3, l4, l5], st, k, h) = zz_Run zz_prog d 169 (23, [l0, l1, l2, l3, l4, l5], st, k, h) := zz_k_num f169_12 rfl
theorem f169_15 : zz_fetch zz_prog 169 15 = some (.astore 5, 2, [], []) := zz_fetch_of p169 rfl rfl
theorem s169_15 : zz_Run zz_prog d 169 (15, [l0, l1, l2, l3, l4, l5], .ref a :: st, k, h) = zz_sl l4 (zz_Run zz_prog d 169 (17, [l0, l1, l2, l3, l4, some (.ref a)], st, k, h)) := zz_k_st (j := 5) (u := .ref a) f169_15 rfl (fun q hq => by cases hq) rfl (show 5 < 6 by decide) (by cases l4 <;> rfl) rfl
theorem f169_17 : zz_fetch zz_prog 169 17 = some (.iconst 1, 1, [], []) := zz_fetch_of p169 rfl rfl
theorem s169_17 : zz_Run zz_prog d 169 (17, [l0, l1, l2, l3, l4, l5], st, k, h) = zz_Run zz_prog d 169 (18, [l0, l1, l2, l3, l4, l5], .int 1 :: st, k, h) := zz_k_num f169_17 rfl
theorem f169_18 : zz_fetch zz_prog 169 18 = some (.ireturn, 1, [0], []) := zz_fetch_of p169 rfl rfl
theorem s169_18 : zz_Run zz_prog d 169 (18, [l0, l1, l2, l3, l4, l5], [.int v], k, h) = some (.inl (some (.int v)), k, h) := zz_k_stop f169_18 rfl rfl rfl
theorem f169_19 : zz_fetch zz_prog 169 19 = some (.astore 5, 2, [], []) := zz_fetch_of p169 rfl rfl
theorem s169_19 : zz_Run zz_prog d 169 (19, [l0, l1, l2, l3, l4, l5], .ref a :: st, k, h) = zz_sl l4 (zz_Run zz_prog d 169 (21, [l0, l1, l2, l3, l4, some (.ref a)], st, k, h)) := zz_k_st (j := 5) (u := .ref a) f169_19 rfl (fun q hq => by cases hq) rfl (show 5 < 6 by decide) (by cases l4 <;> rfl) rfl
theorem f169_21 : zz_fetch zz_prog 169 21 = some (.iconst 2, 1, [], []) := zz_fetch_of p169 rfl rfl
theorem s169_21 : zz_Run zz_prog d 169 (21, [l0, l1, l2, l3, l4, l5], st, k, h) = zz_Run zz_prog d 169 (22, [l0, l1, l2, l3, l4, l5], .int 2 :: st, k, h) := zz_k_num f169_21 rfl
theorem f169_22 : zz_fetch zz_prog 169 22 = some (.ireturn, 1, [0], []) := zz_fetch_of p169 rfl rfl
theorem s169_22 : zz_Run zz_prog d 169 (22, [l0, l1, l2, l3, l4, l5], [.int v], k, h) = some (.inl (some (.int v)), k, h) := zz_k_stop f169_22 rfl rfl rfl
theorem f169_23 : zz_fetch zz_prog 169 23 = some (.iconst 0, 1, [], []) := zz_fetch_of p169 rfl rfl
theorem s169_23 : zz_Run zz_prog d 169 (23, [l0, l1, l2, l3, l4, l5], st, k, h) = zz_Run zz_prog d 169 (24, [l0, l1, l2, l3, l4, l5], .int 0 :: st, k, h) := zz_k_num f169_23 rfl
theorem f169_24 : zz_fetch zz_prog 169 24 = some (.ireturn, 1, [0], []) := zz_fetch_of p169 rfl rfl
theorem s169_24 : zz_Run zz_prog d 169 (24, [l0, l1, l2, l3, l4, l5], [.int v], k, h) = some (.inl (some (.int v)), k, h) := zz_k_stop f169_24 rfl rfl rfl
end S169
section S170
variable {d n j : Nat} {l0 l1 l2 : Option Value} {st : List Value} {k : Bool} {h : zz_H} {v w v1 v2 : Int32} {y y1 : Int64} {a a1 a2 : Nat} {b0 b1 b2 b3 b4 b5 b6 b7 b8 : Value} {I : Nat → Nat → Int32} {J : Nat → Nat → Int64} {ex : List (Nat × Nat)}
theorem p170 : zz_prog 170 = some zz_m170 := rfl
theorem e170 (g0 : Nat) (g1 : Nat) : zz_Call zz_prog (d + 1) 170 [.ref g0, .ref g1] h = zz_Run zz_prog d 170 (0, [some (.ref g0), some (.ref g1), none], [], true, h) := rfl
theorem f170_0 : zz_fetch zz_prog 170 0 = some (.aload_n 1, 1, [], []) := zz_fetch_of p170 rfl rfl
theorem s170_0 : zz_Run zz_prog d 170 (0, [l0, some (.ref a), l2], st, k, h) = zz_Run zz_prog d 170 (1, [l0, some (.ref a), l2], .ref a :: st, k, h) := zz_k_num f170_0 rfl
theorem f170_1 : zz_fetch zz_prog 170 1 = some (.iconst 0, 1, [], []) := zz_fetch_of p170 rfl rfl
theorem s170_1 : zz_Run zz_prog d 170 (1, [l0, l1, l2], st, k, h) = zz_Run zz_prog d 170 (2, [l0, l1, l2], .int 0 :: st, k, h) := zz_k_num f170_1 rfl
theorem f170_2 : zz_fetch zz_prog 170 2 = some (.aload_n 0, 1, [], []) := zz_fetch_of p170 rfl rfl
theorem s170_2 : zz_Run zz_prog d 170 (2, [some (.ref a), l1, l2], st, k, h) = zz_Run zz_prog d 170 (3, [some (.ref a), l1, l2], .ref a :: st, k, h) := zz_k_num f170_2 rfl
theorem f170_3 : zz_fetch zz_prog 170 3 = some (.invokevirtual 61, 3, [0, 14, 1, 1], []) := zz_fetch_of p170 rfl rfl
theorem s170_3 : zz_Run zz_prog d 170 (3, [l0, l1, l2], [.ref 5, b1, b2], k, (zz_hp n I J ex)) = zz_ret (zz_Call zz_prog d 14 [.ref 5] (zz_hp n I J ex)) (fun v k' h' => zz_Run zz_prog d 170 (6, [l0, l1, l2], v.toList ++ [b1, b2], k && k', h')) (fun a k' h' => zz_th d 170 3 a [l0, l1, l2] (k && k') h') := zz_k_call f170_3 rfl rfl rfl
theorem f170_6 : zz_fetch zz_prog 170 6 = some (.i2l, 1, [], []) := zz_fetch_of p170 rfl rfl
theorem s170_6 : zz_Run zz_prog d 170 (6, [l0, l1, l2], .int v :: st, k, h) = zz_Run zz_prog d 170 (7, [l0, l1, l2], .long v.toInt64 :: st, k, h) := zz_k_num f170_6 rfl
theorem f170_7 : zz_fetch zz_prog 170 7 = some (.lastore, 1, [], []) := zz_fetch_of p170 rfl rfl
theorem s170_7 : zz_Run zz_prog d 170 (7, [l0, l1, l2], .long y :: .int 0 :: .ref 44 :: st, k, (zz_hp n I J ex)) = zz_Run zz_prog d 170 (8, [l0, l1, l2], st, false, (zz_hp n I (zz_up J 44 0 y) ex)) := zz_k_go f170_7 rfl rfl rfl
theorem f170_8 : zz_fetch zz_prog 170 8 = some (.goto 6, 3, [14], []) := zz_fetch_of p170 rfl rfl
theorem s170_8 : zz_Run zz_prog d 170 (8, [l0, l1, l2], st, k, h) = zz_Run zz_prog d 170 (14, [l0, l1, l2], st, k, h) := zz_k_num f170_8 rfl
theorem f170_11 : zz_fetch zz_prog 170 11 = some (.astore_n 2, 1, [], []) := zz_fetch_of p170 rfl rfl
theorem s170_11 : zz_Run zz_prog d 170 (11, [l0, l1, l2], .ref a :: st, k, h) = zz_sl l1 (zz_Run zz_prog d 170 (12, [l0, l1, some (.ref a)], st, k, h)) := zz_k_st (j := 2) (u := .ref a) f170_11 rfl (fun q hq => by cases hq) rfl (show 2 < 3 by decide) (by cases l1 <;> rfl) rfl
theorem f170_12 : zz_fetch zz_prog 170 12 = some (.iconst 1, 1, [], []) := zz_fetch_of p170 rfl rfl
theorem s170_12 : zz_Run zz_prog d 170 (12, [l0, l1, l2], st, k, h) = zz_Run zz_prog d 170 (13, [l0, l1, l2], .int 1 :: st, k, h) := zz_k_num f170_12 rfl
theorem f170_13 : zz_fetch zz_prog 170 13 = some (.ireturn, 1, [0], []) := zz_fetch_of p170 rfl rfl
theorem s170_13 : zz_Run zz_prog d 170 (13, [l0, l1, l2], [.int v], k, h) = some (.inl (some (.int v)), k, h) := zz_k_stop f170_13 rfl rfl rfl
theorem f170_14 : zz_fetch zz_prog 170 14 = some (.iconst 0, 1, [], []) := zz_fetch_of p170 rfl rfl
theorem s170_14 : zz_Run zz_prog d 170 (14, [l0, l1, l2], st, k, h) = zz_Run zz_prog d 170 (15, [l0, l1, l2], .int 0 :: st, k, h) := zz_k_num f170_14 rfl
theorem f170_15 : zz_fetch zz_prog 170 15 = some (.ireturn, 1, [0], []) := zz_fetch_of p170 rfl rfl
theorem s170_15 : zz_Run zz_prog d 170 (15, [l0, l1, l2], [.int v], k, h) = some (.inl (some (.int v)), k, h) := zz_k_stop f170_15 rfl rfl rfl
end S170
section S171
variable {d n j : Nat} {l0 l1 l2 : Option Value} {st : List Value} {k : Bool} {h : zz_H} {v w v1 v2 : Int32} {y y1 : Int64} {a a1 a2 : Nat} {b0 b1 b2 b3 b4 b5 b6 b7 b8 : Value} {I : Nat → Nat → Int32} {J : Nat → Nat → Int64} {ex : List (Nat × Nat)}
theorem p171 : zz_prog 171 = some zz_m171 := rfl
theorem e171 (g0 : Nat) (g1 : Nat) : zz_Call zz_prog (d + 1) 171 [.ref g0, .ref g1] h = zz_Run zz_prog d 171 (0, [some (.ref g0), some (.ref g1), none], [], true, h) := rfl
theorem f171_0 : zz_fetch zz_prog 171 0 = some (.aload_n 1, 1, [], []) := zz_fetch_of p171 rfl rfl
theorem s171_0 : zz_Run zz_prog d 171 (0, [l0, some (.ref a), l2], st, k, h) = zz_Run zz_prog d 171 (1, [l0, some (.ref a), l2], .ref a :: st, k, h) := zz_k_num f171_0 rfl
theorem f171_1 : zz_fetch zz_prog 171 1 = some (.iconst 0, 1, [], []) := zz_fetch_of p171 rfl rfl
theorem s171_1 : zz_Run zz_prog d 171 (1, [l0, l1, l2], st, k, h) = zz_Run zz_prog d 171 (2, [l0, l1, l2], .int 0 :: st, k, h) := zz_k_num f171_1 rfl
theorem f171_2 : zz_fetch zz_prog 171 2 = some (.aload_n 0, 1, [], []) := zz_fetch_of p171 rfl rfl
theorem s171_2 : zz_Run zz_prog d 171 (2, [some (.ref a), l1, l2], st, k, h) = zz_Run zz_prog d 171 (3, [some (.ref a), l1, l2], .ref a :: st, k, h) := zz_k_num f171_2 rfl
theorem f171_3 : zz_fetch zz_prog 171 3 = some (.invokevirtual 64, 3, [0, 15, 1, 1], []) := zz_fetch_of p171 rfl rfl
theorem s171_3 : zz_Run zz_prog d 171 (3, [l0, l1, l2], [.ref 5, b1, b2], k, (zz_hp n I J ex)) = zz_ret (zz_Call zz_prog d 15 [.ref 5] (zz_hp n I J ex)) (fun v k' h' => zz_Run zz_prog d 171 (6, [l0, l1, l2], v.toList ++ [b1, b2], k && k', h')) (fun a k' h' => zz_th d 171 3 a [l0, l1, l2] (k && k') h') := zz_k_call f171_3 rfl rfl rfl
theorem f171_6 : zz_fetch zz_prog 171 6 = some (.i2l, 1, [], []) := zz_fetch_of p171 rfl rfl
theorem s171_6 : zz_Run zz_prog d 171 (6, [l0, l1, l2], .int v :: st, k, h) = zz_Run zz_prog d 171 (7, [l0, l1, l2], .long v.toInt64 :: st, k, h) := zz_k_num f171_6 rfl
theorem f171_7 : zz_fetch zz_prog 171 7 = some (.lastore, 1, [], []) := zz_fetch_of p171 rfl rfl
theorem s171_7 : zz_Run zz_prog d 171 (7, [l0, l1, l2], .long y :: .int 0 :: .ref 44 :: st, k, (zz_hp n I J ex)) = zz_Run zz_prog d 171 (8, [l0, l1, l2], st, false, (zz_hp n I (zz_up J 44 0 y) ex)) := zz_k_go f171_7 rfl rfl rfl
theorem f171_8 : zz_fetch zz_prog 171 8 = some (.goto 6, 3, [14], []) := zz_fetch_of p171 rfl rfl
theorem s171_8 : zz_Run zz_prog d 171 (8, [l0, l1, l2], st, k, h) = zz_Run zz_prog d 171 (14, [l0, l1, l2], st, k, h) := zz_k_num f171_8 rfl
theorem f171_11 : zz_fetch zz_prog 171 11 = some (.astore_n 2, 1, [], []) := zz_fetch_of p171 rfl rfl
theorem s171_11 : zz_Run zz_prog d 171 (11, [l0, l1, l2], .ref a :: st, k, h) = zz_sl l1 (zz_Run zz_prog d 171 (12, [l0, l1, some (.ref a)], st, k, h)) := zz_k_st (j := 2) (u := .ref a) f171_11 rfl (fun q hq => by cases hq) rfl (show 2 < 3 by decide) (by cases l1 <;> rfl) rfl
theorem f171_12 : zz_fetch zz_prog 171 12 = some (.iconst 1, 1, [], []) := zz_fetch_of p171 rfl rfl
theorem s171_12 : zz_Run zz_prog d 171 (12, [l0, l1, l2], st, k, h) = zz_Run zz_prog d 171 (13, [l0, l1, l2], .int 1 :: st, k, h) := zz_k_num f171_12 rfl
theorem f171_13 : zz_fetch zz_prog 171 13 = some (.ireturn, 1, [0], []) := zz_fetch_of p171 rfl rfl
theorem s171_13 : zz_Run zz_prog d 171 (13, [l0, l1, l2], [.int v], k, h) = some (.inl (some (.int v)), k, h) := zz_k_stop f171_13 rfl rfl rfl
theorem f171_14 : zz_fetch zz_prog 171 14 = some (.iconst 0, 1, [], []) := zz_fetch_of p171 rfl rfl
theorem s171_14 : zz_Run zz_prog d 171 (14, [l0, l1, l2], st, k, h) = zz_Run zz_prog d 171 (15, [l0, l1, l2], .int 0 :: st, k, h) := zz_k_num f171_14 rfl
theorem f171_15 : zz_fetch zz_prog 171 15 = some (.ireturn, 1, [0], []) := zz_fetch_of p171 rfl rfl
theorem s171_15 : zz_Run zz_prog d 171 (15, [l0, l1, l2], [.int v], k, h) = some (.inl (some (.int v)), k, h) := zz_k_stop f171_15 rfl rfl rfl
end S171
section S172
variable {d n j : Nat} {l0 l1 l2 l3 l4 : Option Value} {st : List Value} {k : Bool} {h : zz_H} {v w v1 v2 : Int32} {y y1 : Int64} {a a1 a2 : Nat} {b0 b1 b2 b3 b4 b5 b6 b7 b8 : Value} {I : Nat → Nat → Int32} {J : Nat → Nat → Int64} {ex : List (Nat × Nat)}
theorem p172 : zz_prog 172 = some zz_m172 := rfl
theorem e172 (g0 : Nat) (g1 : Int32) (g2 : Int32) (g3 : Nat) : zz_Call zz_prog (d + 1) 172 [.ref g0, .int g1, .int g2, .ref g3] h = zz_Run zz_prog d 172 (0, [some (.ref g0), some (.int g1), some (.int g2), some (.ref g3), none], [], true, h) := rfl
theorem f172_0 : zz_fetch zz_prog 172 0 = some (.aload_n 3, 1, [], []) := zz_fetch_of p172 rfl rfl
theorem s172_0 : zz_Run zz_prog d 172 (0, [l0, l1, l2, some (.ref a), l4], st, k, h) = zz_Run zz_prog d 172 (1, [l0, l1, l2, some (.ref a), l4], .ref a :: st, k, h) := zz_k_num f172_0 rfl
theorem f172_1 : zz_fetch zz_prog 172 1 = some (.iconst 0, 1, [], []) := zz_fetch_of p172 rfl rfl
theorem s172_1 : zz_Run zz_prog d 172 (1, [l0, l1, l2, l3, l4], st, k, h) = zz_Run zz_prog d 172 (2, [l0, l1, l2, l3, l4], .int 0 :: st, k, h) := zz_k_num f172_1 rfl
theorem f172_2 : zz_fetch zz_prog 172 2 = some (.aload_n 0, 1, [], []) := zz_fetch_of p172 rfl rfl
theorem s172_2 : zz_Run zz_prog d 172 (2, [some (.ref a), l1, l2, l3, l4], st, k, h) = zz_Run zz_prog d 172 (3, [some (.ref a), l1, l2, l3, l4], .ref a :: st, k, h) := zz_k_num f172_2 rfl
theorem f172_3 : zz_fetch zz_prog 172 3 = some (.iload_n 1, 1, [], []) := zz_fetch_of p172 rfl rfl
theorem s172_3 : zz_Run zz_prog d 172 (3, [l0, some (.int v), l2, l3, l4], st, k, h) = zz_Run zz_prog d 172 (4, [l0, some (.int v), l2, l3, l4], .int v :: st, k, h) := zz_k_num f172_3 rfl
theorem f172_4 : zz_fetch zz_prog 172 4 = some (.iload_n 2, 1, [], []) := zz_fetch_of p172 rfl rfl
theorem s172_4 : zz_Run zz_prog d 172 (4, [l0, l1, some (.int v), l3, l4], st, k, h) = zz_Run zz_prog d 172 (5, [l0, l1, some (.int v), l3, l4], .int v :: st, k, h) := zz_k_num f172_4 rfl
theorem f172_5 : zz_fetch zz_prog 172 5 = some (.invokevirtual 67, 3, [0, 19, 3, 1], []) := zz_fetch_of p172 rfl rfl
theorem s172_5 : zz_Run zz_prog d 172 (5, [l0, l1, l2, l3, l4], [b0, b1, .ref 5, b3, b4], k, (zz_hp n I J ex)) = zz_ret (zz_Call zz_prog d 19 [.ref 5, b1, b0] (zz_hp n I J ex)) (fun v k' h' => zz_Run zz_prog d 172 (8, [l0, l1, l2, l3, l4], v.toList ++ [b3, b4], k && k', h')) (fun a k' h' => zz_th d 172 5 a [l0, l1, l2, l3, l4] (k && k') h') := zz_k_call f172_5 rfl rfl rfl
theorem f172_8 : zz_fetch zz_prog 172 8 = some (.i2l, 1, [], []) := zz_fetch_of p172 rfl rfl
theorem s172_8 : zz_Run zz_prog d 172 (8, [l0, l1, l2, l3, l4], .int v :: st, k, h) = zz_Run zz_prog d 172 (9, [l0, l1, l2, l3, l4], .long v.toInt64 :: st, k, h) := zz_k_num f172_8 rfl
theorem f172_9 : zz_fetch zz_prog 172 9 = some (.lastore, 1, [], []) := zz_fetch_of p172 rfl rfl
theorem s172_9 : zz_Run zz_prog d 172 (9, [l0, l1, l2, l3, l4], .long y :: .int 0 :: .ref 44 :: st, k, (zz_hp n I J ex)) = zz_Run zz_prog d 172 (10, [l0, l1, l2, l3, l4], st, false, (zz_hp n I (zz_up J 44 0 y) ex)) := zz_k_go f172_9 rfl rfl rfl
theorem f172_10 : zz_fetch zz_prog 172 10 = some (.goto 7, 3, [17], []) := zz_fetch_of p172 rfl rfl
theorem s172_10 : zz_Run zz_prog d 172 (10, [l0, l1, l2, l3, l4], st, k, h) = zz_Run zz_prog d 172 (17, [l0, l1, l2, l3, l4], st, k, h) := zz_k_num f172_10 rfl
theorem f172_13 : zz_fetch zz_prog 172 13 = some (.astore 4, 2, [], []) := zz_fetch_of p172 rfl rfl
theorem s172_13 : zz_Run zz_prog d 172 (13, [l0, l1, l2, l3, l4], .ref a :: st, k, h) = zz_sl l3 (zz_Run zz_prog d 172 (15, [l0, l1, l2, l3, some (.ref a)], st, k, h)) := zz_k_st (j := 4) (u := .ref a) f172_13 rfl (fun q hq => by cases hq) rfl (show 4 < 5 by decide) (by cases l3 <;> rfl) rfl
theorem f172_15 : zz_fetch zz_prog 172 15 = some (.iconst 1, 1, [], []) := zz_fetch_of p172 rfl rfl
theorem s172_15 : zz_Run zz_prog d 172 (15, [l0, l1, l2, l3, l4], st, k, h) = zz_Run zz_prog d 172 (16, [l0, l1, l2, l3, l4], .int 1 :: st, k, h) := zz_k_num f172_15 rfl
theorem f172_16 : zz_fetch zz_prog 172 16 = some (.ireturn, 1, [0], []) := zz_fetch_of p172 rfl rfl
theorem s172_16 : zz_Run zz_prog d 172 (16, [l0, l1, l2, l3, l4], [.int v], k, h) = some (.inl (some (.int v)), k, h) := zz_k_stop f172_16 rfl rfl rfl
theorem f172_17 : zz_fetch zz_prog 172 17 = some (.iconst 0, 1, [], []) := zz_fetch_of p172 rfl rfl
theorem s172_17 : zz_Run zz_prog d 172 (17, [l0, l1, l2, l3, l4], st, k, h) = zz_Run zz_prog d 172 (18, [l0, l1, l2, l3, l4], .int 0 :: st, k, h) := zz_k_num f172_17 rfl
theorem f172_18 : zz_fetch zz_prog 172 18 = some (.ireturn, 1, [0], []) := zz_fetch_of p172 rfl rfl
theorem s172_18 : zz_Run zz_prog d 172 (18, [l0, l1, l2, l3, l4], [.int v], k, h) = some (.inl (some (.int v)), k, h) := zz_k_stop f172_18 rfl rfl rfl
end S172
section S173
variable {d n j : Nat} {l0 l1 l2 l3 l4 : Option Value} {st : List Value} {k : Bool} {h : zz_H} {v w v1 v2 : Int32} {y y1 : Int64} {a a1 a2 : Nat} {b0 b1 b2 b3 b4 b5 b6 b7 b8 : Value} {I : Nat → Nat → Int32} {J : Nat → Nat → Int64} {ex : List (Nat × Nat)}
theorem p173 : zz_prog 173 = some zz_m173 := rfl
theorem e173 (g0 : Nat) (g1 : Int32) (g2 : Int32) (g3 : Nat) : zz_Call zz_prog (d + 1) 173 [.ref g0, .int g1, .int g2, .ref g3] h = zz_Run zz_prog d 173 (0, [some (.ref g0), some (.int g1), some (.int g2), some (.ref g3), none], [], true, h) := rfl
theorem f173_0 : zz_fetch zz_prog 173 0 = some (.aload_n 3, 1, [], []) := zz_fetch_of p173 rfl rfl
theorem s173_0 : zz_Run zz_prog d 173 (0, [l0, l1, l2, some (.ref a), l4], st, k, h) = zz_Run zz_prog d 173 (1, [l0, l1, l2, some (.ref a), l4], .ref a :: st, k, h) := zz_k_num f173_0 rfl
theorem f173_1 : zz_fetch zz_prog 173 1 = some (.iconst 0, 1, [], []) := zz_fetch_of p173 rfl rfl
theorem s173_1 : zz_Run zz_prog d 173 (1, [l0, l1, l2, l3, l4], st, k, h) = zz_Run zz_prog d 173 (2, [l0, l1, l2, l3, l4], .int 0 :: st, k, h) := zz_k_num f173_1 rfl
theorem f173_2 : zz_fetch zz_prog 173 2 = some (.aload_n 0, 1, [], []) := zz_fetch_of p173 rfl rfl
theorem s173_2 : zz_Run zz_prog d 173 (2, [some (.ref a), l1, l2, l3, l4], st, k, h) = zz_Run zz_prog d 173 (3, [some (.ref a), l1, l2, l3, l4], .ref a :: st, k, h) := zz_k_num f173_2 rfl
theorem f173_3 : zz_fetch zz_prog 173 3 = some (.iload_n 1, 1, [], []) := zz_fetch_of p173 rfl rfl
theorem s173_3 : zz_Run zz_prog d 173 (3, [l0, some (.int v), l2, l3, l4], st, k, h) = zz_Run zz_prog d 173 (4, [l0, some (.int v), l2, l3, l4], .int v :: st, k, h) := zz_k_num f173_3 rfl
theorem f173_4 : zz_fetch zz_prog 173 4 = some (.iload_n 2, 1, [], []) := zz_fetch_of p173 rfl rfl
theorem s173_4 : zz_Run zz_prog d 173 (4, [l0, l1, some (.int v), l3, l4], st, k, h) = zz_Run zz_prog d 173 (5, [l0, l1, some (.int v), l3, l4], .int v :: st, k, h) := zz_k_num f173_4 rfl
theorem f173_5 : zz_fetch zz_prog 173 5 = some (.invokevirtual 72, 3, [0, 20, 3, 1], []) := zz_fetch_of p173 rfl rfl
theorem s173_5 : zz_Run zz_prog d 173 (5, [l0, l1, l2, l3, l4], [b0, b1, .ref 5, b3, b4], k, (zz_hp n I J ex)) = zz_ret (zz_Call zz_prog d 20 [.ref 5, b1, b0] (zz_hp n I J ex)) (fun v k' h' => zz_Run zz_prog d 173 (8, [l0, l1, l2, l3, l4], v.toList ++ [b3, b4], k && k', h')) (fun a k' h' => zz_th d 173 5 a [l0, l1, l2, l3, l4] (k && k') h') := zz_k_call f173_5 rfl rfl rfl
theorem f173_8 : zz_fetch zz_prog 173 8 = some (.i2l, 1, [], []) := zz_fetch_of p173 rfl rfl
theorem s173_8 : zz_Run zz_prog d 173 (8, [l0, l1, l2, l3, l4], .int v :: st, k, h) = zz_Run zz_prog d 173 (9, [l0, l1, l2, l3, l4], .long v.toInt64 :: st, k, h) := zz_k_num f173_8 rfl
theorem f173_9 : zz_fetch zz_prog 173 9 = some (.lastore, 1, [], []) := zz_fetch_of p173 rfl rfl
theorem s173_9 : zz_Run zz_prog d 173 (9, [l0, l1, l2, l3, l4], .long y :: .int 0 :: .ref 44 :: st, k, (zz_hp n I J ex)) = zz_Run zz_prog d 173 (10, [l0, l1, l2, l3, l4], st, false, (zz_hp n I (zz_up J 44 0 y) ex)) := zz_k_go f173_9 rfl rfl rfl
theorem f173_10 : zz_fetch zz_prog 173 10 = some (.goto 7, 3, [17], []) := zz_fetch_of p173 rfl rfl
theorem s173_10 : zz_Run zz_prog d 173 (10, [l0, l1, l2, l3, l4], st, k, h) = zz_Run zz_prog d 173 (17, [l0, l1, l2, l3, l4], st, k, h) := zz_k_num f173_10 rfl
theorem f173_13 : zz_fetch zz_prog 173 13 = some (.astore 4, 2, [], []) := zz_fetch_of p173 rfl rfl
theorem s173_13 : zz_Run zz_prog d 173 (13, [l0, l1, l2, l3, l4], .ref a :: st, k, h) = zz_sl l3 (zz_Run zz_prog d 173 (15, [l0, l1, l2, l3, some (.ref a)], st, k, h)) := zz_k_st (j := 4) (u := .ref a) f173_13 rfl (fun q hq => by cases hq) rfl (show 4 < 5 by decide) (by cases l3 <;> rfl) rfl
theorem f173_15 : zz_fetch zz_prog 173 15 = some (.iconst 1, 1, [], []) := zz_fetch_of p173 rfl rfl
theorem s173_15 : zz_Run zz_prog d 173 (15, [l0, l1, l2, l3, l4], st, k, h) = zz_Run zz_prog d 173 (16, [l0, l1, l2, l3, l4], .int 1 :: st, k, h) := zz_k_num f173_15 rfl
theorem f173_16 : zz_fetch zz_prog 173 16 = some (.ireturn, 1, [0], []) := zz_fetch_of p173 rfl rfl
theorem s173_16 : zz_Run zz_prog d 173 (16, [l0, l1, l2, l3, l4], [.int v], k, h) = some (.inl (some (.int v)), k, h) := zz_k_stop f173_16 rfl rfl rfl
theorem f173_17 : zz_fetch zz_prog 173 17 = some (.iconst 0, 1, [], []) := zz_fetch_of p173 rfl rfl
theorem s173_17 : zz_Run zz_prog d 173 (17, [l0, l1, l2, l3, l4], st, k, h) = zz_Run zz_prog d 173 (18, [l0, l1, l2, l3, l4], .int 0 :: st, k, h) := zz_k_num f173_17 rfl
theorem f173_18 : zz_fetch zz_prog 173 18 = some (.ireturn, 1, [0], []) := zz_fetch_of p173 rfl rfl
theorem s173_18 : zz_Run zz_prog d 173 (18, [l0, l1, l2, l3, l4], [.int v], k, h) = some (.inl (some (.int v)), k, h) := zz_k_stop f173_18 rfl rfl rfl
end S173
section S174
variable {d n j : Nat} {l0 l1 l2 l3 : Option Value} {st : List Value} {k : Bool} {h : zz_H} {v w v1 v2 : Int32} {y y1 : Int64} {a a1 a2 : Nat} {b0 b1 b2 b3 b4 b5 b6 b7 b8 : Value} {I : Nat → Nat → Int32} {J : Nat → Nat → Int64} {ex : List (Nat × Nat)}
theorem p174 : zz_prog 174 = some zz_m174 := rfl
theorem e174 (g0 : Nat) (g1 : Int32) (g2 : Nat) : zz_Call zz_prog (d + 1) 174 [.ref g0, .int g1, .ref g2] h = zz_Run zz_prog d 174 (0, [some (.ref g0), some (.int g1), some (.ref g2), none], [], true, h) := rfl
theorem f174_0 : zz_fetch zz_prog 174 0 = some (.aload_n 2, 1, [], []) := zz_fetch_of p174 rfl rfl
theorem s174_0 : zz_Run zz_prog d 174 (0, [l0, l1, some (.ref a), l3], st, k, h) = zz_Run zz_prog d 174 (1, [l0, l1, some (.ref a), l3], .ref a :: st, k, h) := zz_k_num f174_0 rfl
theorem f174_1 : zz_fetch zz_prog 174 1 = some (.iconst 0, 1, [], []) := zz_fetch_of p174 rfl rfl
theorem s174_1 : zz_Run zz_prog d 174 (1, [l0, l1, l2, l3], st, k, h) = zz_Run zz_prog d 174 (2, [l0, l1, l2, l3], .int 0 :: st, k, h) := zz_k_num f174_1 rfl
theorem f174_2 : zz_fetch zz_prog 174 2 = some (.aload_n 0, 1, [], []) := zz_fetch_of p174 rfl rfl
theorem s174_2 : zz_Run zz_prog d 174 (2, [some (.ref a), l1, l2, l3], st, k, h) = zz_Run zz_prog d 174 (3, [some (.ref a), l1, l2, l3], .ref a :: st, k, h) := zz_k_num f174_2 rfl
theorem f174_3 : zz_fetch zz_prog 174 3 = some (.iload_n 1, 1, [], []) := zz_fetch_of p174 rfl rfl
theorem s174_3 : zz_Run zz_prog d 174 (3, [l0, some (.int v), l2, l3], st, k, h) = zz_Run zz_prog d 174 (4, [l0, some (.int v), l2, l3], .int v :: st, k, h) := zz_k_num f174_3 rfl
theorem f174_4 : zz_fetch zz_prog 174 4 = some (.invokevirtual 75, 3, [0, 21, 2, 1], []) := zz_fetch_of p174 rfl rfl
theorem s174_4 : zz_Run zz_prog d 174 (4, [l0, l1, l2, l3], [b0, .ref 5, b2, b3], k, (zz_hp n I J ex)) = zz_ret (zz_Call zz_prog d 21 [.ref 5, b0] (zz_hp n I J ex)) (fun v k' h' => zz_Run zz_prog d 174 (7, [l0, l1, l2, l3], v.toList ++ [b2, b3], k && k', h')) (fun a k' h' => zz_th d 174 4 a [l0, l1, l2, l3] (k && k') h') := zz_k_call f174_4 rfl rfl rfl
theorem f174_7 : zz_fetch zz_prog 174 7 = some (.i2l, 1, [], []) := zz_fetch_of p174 rfl rfl
theorem s174_7 : zz_Run zz_prog d 174 (7, [l0, l1, l2, l3], .int v :: st, k, h) = zz_Run zz_prog d 174 (8, [l0, l1, l2, l3], .long v.toInt64 :: st, k, h) := zz_k_num f174_7 rfl
theorem f174_8 : zz_fetch zz_prog 174 8 = some (.lastore, 1, [], []) := zz_fetch_of p174 rfl rfl
theorem s174_8 : zz_Run zz_prog d 174 (8, [l0, l1, l2, l3], .long y :: .int 0 :: .ref 44 :: st, k, (zz_hp n I J ex)) = zz_Run zz_prog d 174 (9, [l0, l1, l2, l3], st, false, (zz_hp n I (zz_up J 44 0 y) ex)) := zz_k_go f174_8 rfl rfl rfl
theorem f174_9 : zz_fetch zz_prog 174 9 = some (.goto 6, 3, [15], []) := zz_fetch_of p174 rfl rfl
theorem s174_9 : zz_Run zz_prog d 174 (9, [l0, l1, l2, l3], st, k, h) = zz_Run zz_prog d 174 (15, [l0, l1, l2, l3], st, k, h) := zz_k_num f174_9 rfl
theorem f174_12 : zz_fetch zz_prog 174 12 = some (.astore_n 3, 1, [], []) := zz_fetch_of p174 rfl rfl
theorem s174_12 : zz_Run zz_prog d 174 (12, [l0, l1, l2, l3], .ref a :: st, k, h) = zz_sl l2 (zz_Run zz_prog d 174 (13, [l0, l1, l2, some (.ref a)], st, k, h)) := zz_k_st (j := 3) (u := .ref a) f174_12 rfl (fun q hq => by cases hq) rfl (show 3 < 4 by decide) (by cases l2 <;> rfl) rfl
theorem f174_13 : zz_fetch zz_prog 174 13 = some (.iconst 1, 1, [], []) := zz_fetch_of p174 rfl rfl
theorem s174_13 : zz_Run zz_prog d 174 (13, [l0, l1, l2, l3], st, k, h) = zz_Run zz_prog d 174 (14, [l0, l1, l2, l3], .int 1 :: st, k, h) := zz_k_num f174_13 rfl
theorem f174_14 : zz_fetch zz_prog 174 14 = some (.ireturn, 1, [0], []) := zz_fetch_of p174 rfl rfl
theorem s174_14 : zz_Run zz_prog d 174 (14, [l0, l1, l2, l3], [.int v], k, h) = some (.inl (some (.int v)), k, h) := zz_k_stop f174_14 rfl rfl rfl
theorem f174_15 : zz_fetch zz_prog 174 15 = some (.iconst 0, 1, [], []) := zz_fetch_of p174 rfl rfl
theorem s174_15 : zz_Run zz_prog d 174 (15, [l0, l1, l2, l3], st, k, h) = zz_Run zz_prog d 174 (16, [l0, l1, l2, l3], .int 0 :: st, k, h) := zz_k_num f174_15 rfl
theorem f174_16 : zz_fetch zz_prog 174 16 = some (.ireturn, 1, [0], []) := zz_fetch_of p174 rfl rfl
theorem s174_16 : zz_Run zz_prog d 174 (16, [l0, l1, l2, l3], [.int v], k, h) = some (.inl (some (.int v)), k, h) := zz_k_stop f174_16 rfl rfl rfl
end S174
section S175
variable {d n j : Nat} {l0 l1 l2 l3 : Option Value} {st : List Value} {k : Bool} {h : zz_H} {v w v1 v2 : Int32} {y y1 : Int64} {a a1 a2 : Nat} {b0 b1 b2 b3 b4 b5 b6 b7 b8 : Value} {I : Nat → Nat → Int32} {J : Nat → Nat → Int64} {ex : List (Nat × Nat)}
theorem p175 : zz_prog 175 = some zz_m175 := rfl
theorem e175 (g0 : Nat) (g1 : Int32) (g2 : Nat) : zz_Call zz_prog (d + 1) 175 [.ref g0, .int g1, .ref g2] h = zz_Run zz_prog d 175 (0, [some (.ref g0), some (.int g1), some (.ref g2), none], [], true, h) := rfl
theorem f175_0 : zz_fetch zz_prog 175 0 = some (.aload_n 2, 1, [], []) := zz_fetch_of p175 rfl rfl
theorem s175_0 : zz_Run zz_prog d 175 (0, [l0, l1, some (.ref a), l3], st, k, h) = zz_Run zz_prog d 175 (1, [l0, l1, some (.ref a), l3], .ref a :: st, k, h) := zz_k_num f175_0 rfl
theorem f175_1 : zz_fetch zz_prog 175 1 = some (.iconst 0, 1, [], []) := zz_fetch_of p175 rfl rfl
theorem s175_1 : zz_Run zz_prog d 175 (1, [l0, l1, l2, l3], st, k, h) = zz_Run zz_prog d 175 (2, [l0, l1, l2, l3], .int 0 :: st, k, h) := zz_k_num f175_1 rfl
theorem f175_2 : zz_fetch zz_prog 175 2 = some (.aload_n 0, 1, [], []) := zz_fetch_of p175 rfl rfl
theorem s175_2 : zz_Run zz_prog d 175 (2, [some (.ref a), l1, l2, l3], st, k, h) = zz_Run zz_prog d 175 (3, [some (.ref a), l1, l2, l3], .ref a :: st, k, h) := zz_k_num f175_2 rfl
theorem f175_3 : zz_fetch zz_prog 175 3 = some (.iload_n 1, 1, [], []) := zz_fetch_of p175 rfl rfl
theorem s175_3 : zz_Run zz_prog d 175 (3, [l0, some (.int v), l2, l3], st, k, h) = zz_Run zz_prog d 175 (4, [l0, some (.int v), l2, l3], .int v :: st, k, h) := zz_k_num f175_3 rfl
theorem f175_4 : zz_fetch zz_prog 175 4 = some (.invokevirtual 78, 3, [0, 22, 2, 1], []) := zz_fetch_of p175 rfl rfl
theorem s175_4 : zz_Run zz_prog d 175 (4, [l0, l1, l2, l3], [b0, .ref 5, b2, b3], k, (zz_hp n I J ex)) = zz_ret (zz_Call zz_prog d 22 [.ref 5, b0] (zz_hp n I J ex)) (fun v k' h' => zz_Run zz_prog d 175 (7, [l0, l1, l2, l3], v.toList ++ [b2, b3], k && k', h')) (fun a k' h' => zz_th d 175 4 a [l0, l1, l2, l3] (k && k') h') := zz_k_call f175_4 rfl rfl rfl
theorem f175_7 : zz_fetch zz_prog 175 7 = some (.i2l, 1, [], []) := zz_fetch_of p175 rfl rfl
theorem s175_7 : zz_Run zz_prog d 175 (7, [l0, l1, l2, l3], .int v :: st, k, h) = zz_Run zz_prog d 175 (8, [l0, l1, l2, l3], .long v.toInt64 :: st, k, h) := zz_k_num f175_7 rfl
theorem f175_8 : zz_fetch zz_prog 175 8 = some (.lastore, 1, [], []) := zz_fetch_of p175 rfl rfl
theorem s175_8 : zz_Run zz_prog d 175 (8, [l0, l1, l2, l3], .long y :: .int 0 :: .ref 44 :: st, k, (zz_hp n I J ex)) = zz_Run zz_prog d 175 (9, [l0, l1, l2, l3], st, false, (zz_hp n I (zz_up J 44 0 y) ex)) := zz_k_go f175_8 rfl rfl rfl
theorem f175_9 : zz_fetch zz_prog 175 9 = some (.goto 6, 3, [15], []) := zz_fetch_of p175 rfl rfl
theorem s175_9 : zz_Run zz_prog d 175 (9, [l0, l1, l2, l3], st, k, h) = zz_Run zz_prog d 175 (15, [l0, l1, l2, l3], st, k, h) := zz_k_num f175_9 rfl
theorem f175_12 : zz_fetch zz_prog 175 12 = some (.astore_n 3, 1, [], []) := zz_fetch_of p175 rfl rfl
theorem s175_12 : zz_Run zz_prog d 175 (12, [l0, l1, l2, l3], .ref a :: st, k, h) = zz_sl l2 (zz_Run zz_prog d 175 (13, [l0, l1, l2, some (.ref a)], st, k, h)) := zz_k_st (j := 3) (u := .ref a) f175_12 rfl (fun q hq => by cases hq) rfl (show 3 < 4 by decide) (by cases l2 <;> rfl) rfl
theorem f175_13 : zz_fetch zz_prog 175 13 = some (.iconst 1, 1, [], []) := zz_fetch_of p175 rfl rfl
theorem s175_13 : zz_Run zz_prog d 175 (13, [l0, l1, l2, l3], st, k, h) = zz_Run zz_prog d 175 (14, [l0, l1, l2, l3], .int 1 :: st, k, h) := zz_k_num f175_13 rfl
theorem f175_14 : zz_fetch zz_prog 175 14 = some (.ireturn, 1, [0], []) := zz_fetch_of p175 rfl rfl
theorem s175_14 : zz_Run zz_prog d 175 (14, [l0, l1, l2, l3], [.int v], k, h) = some (.inl (some (.int v)), k, h) := zz_k_stop f175_14 rfl rfl rfl
theorem f175_15 : zz_fetch zz_prog 175 15 = some (.iconst 0, 1, [], []) := zz_fetch_of p175 rfl rfl
theorem s175_15 : zz_Run zz_prog d 175 (15, [l0, l1, l2, l3], st, k, h) = zz_Run zz_prog d 175 (16, [l0, l1, l2, l3], .int 0 :: st, k, h) := zz_k_num f175_15 rfl
theorem f175_16 : zz_fetch zz_prog 175 16 = some (.ireturn, 1, [0], []) := zz_fetch_of p175 rfl rfl
theorem s175_16 : zz_Run zz_prog d 175 (16, [l0, l1, l2, l3], [.int v], k, h) = some (.inl (some (.int v)), k, h) := zz_k_stop f175_16 rfl rfl rfl
end S175
section S176
variable {d n j : Nat} {l0 l1 l2 l3 l4 : Option Value} {st : List Value} {k : Bool} {h : zz_H} {v w v1 v2 : Int32} {y y1 : Int64} {a a1 a2 : Nat} {b0 b1 b2 b3 b4 b5 b6 b7 b8 : Value} {I : Nat → Nat → Int32} {J : Nat → Nat → Int64} {ex : List (Nat × Nat)}
theorem p176 : zz_prog 176 = some zz_m176 := rfl
theorem e176 (g0 : Nat) (g1 : Int32) (g2 : Int32) (g3 : Nat) : zz_Call zz_prog (d + 1) 176 [.ref g0, .int g1, .int g2, .ref g3] h = zz_Run zz_prog d 176 (0, [some (.ref g0), some (.int g1), some (.int g2), some (.ref g3), none], [], true, h) := rfl
theorem f176_0 : zz_fetch zz_prog 176 0 = some (.aload_n 3, 1, [], []) := zz_fetch_of p176 rfl rfl
theorem s176_0 : zz_Run zz_prog d 176 (0, [l0, l1, l2, some (.ref a), l4], st, k, h) = zz_Run zz_prog d 176 (1, [l0, l1, l2, some (.ref a), l4], .ref a :: st, k, h) := zz_k_num f176_0 rfl
theorem f176_1 : zz_fetch zz_prog 176 1 = some (.iconst 0, 1, [], []) := zz_fetch_of p176 rfl rfl
theorem s176_1 : zz_Run zz_prog d 176 (1, [l0, l1, l2, l3, l4], st, k, h) = zz_Run zz_prog d 176 (2, [l0, l1, l2, l3, l4], .int 0 :: st, k, h) := zz_k_num f176_1 rfl
theorem f176_2 : zz_fetch zz_prog 176 2 = some (.aload_n 0, 1, [], []) := zz_fetch_of p176 rfl rfl
theorem s176_2 : zz_Run zz_prog d 176 (2, [some (.ref a), l1, l2, l3, l4], st, k, h) = zz_Run zz_prog d 176 (3, [some (.ref a), l1, l2, l3, l4], .ref a :: st, k, h) := zz_k_num f176_2 rfl
theorem f176_3 : zz_fetch zz_prog 176 3 = some (.iload_n 1, 1, [], []) := zz_fetch_of p176 rfl rfl
theorem s176_3 : zz_Run zz_prog d 176 (3, [l0, some (.int v), l2, l3, l4], st, k, h) = zz_Run zz_prog d 176 (4, [l0, some (.int v), l2, l3, l4], .int v :: st, k, h) := zz_k_num f176_3 rfl
theorem f176_4 : zz_fetch zz_prog 176 4 = some (.iload_n 2, 1, [], []) := zz_fetch_of p176 rfl rfl
theorem s176_4 : zz_Run zz_prog d 176 (4, [l0, l1, some (.int v), l3, l4], st, k, h) = zz_Run zz_prog d 176 (5, [l0, l1, some (.int v), l3, l4], .int v :: st, k, h) := zz_k_num f176_4 rfl
theorem f176_5 : zz_fetch zz_prog 176 5 = some (.invokevirtual 81, 3, [0, 24, 3, 1], []) := zz_fetch_of p176 rfl rfl
theorem s176_5 : zz_Run zz_prog d 176 (5, [l0, l1, l2, l3, l4], [b0, b1, .ref 5, b3, b4], k, (zz_hp n I J ex)) = zz_ret (zz_Call zz_prog d 24 [.ref 5, b1, b0] (zz_hp n I J ex)) (fun v k' h' => zz_Run zz_prog d 176 (8, [l0, l1, l2, l3, l4], v.toList ++ [b3, b4], k && k', h')) (fun a k' h' => zz_th d 176 5 a [l0, l1, l2, l3, l4] (k && k') h') := zz_k_call f176_5 rfl rfl rfl
theorem f176_8 : zz_fetch zz_prog 176 8 = some (.i2l, 1, [], []) := zz_fetch_of p176 rfl rfl
theorem s176_8 : zz_Run zz_prog d 176 (8, [l0, l1, l2, l3, l4], .int v :: st, k, h) = zz_Run zz_prog d 176 (9, [l0, l1, l2, l3, l4], .long v.toInt64 :: st, k, h) := zz_k_num f176_8 rfl
theorem f176_9 : zz_fetch zz_prog 176 9 = some (.lastore, 1, [], []) := zz_fetch_of p176 rfl rfl
theorem s176_9 : zz_Run zz_prog d 176 (9, [l0, l1, l2, l3, l4], .long y :: .int 0 :: .ref 44 :: st, k, (zz_hp n I J ex)) = zz_Run zz_prog d 176 (10, [l0, l1, l2, l3, l4], st, false, (zz_hp n I (zz_up J 44 0 y) ex)) := zz_k_go f176_9 rfl rfl rfl
theorem f176_10 : zz_fetch zz_prog 176 10 = some (.goto 7, 3, [17], []) := zz_fetch_of p176 rfl rfl
theorem s176_10 : zz_Run zz_prog d 176 (10, [l0, l1, l2, l3, l4], st, k, h) = zz_Run zz_prog d 176 (17, [l0, l1, l2, l3, l4], st, k, h) := zz_k_num f176_10 rfl
theorem f176_13 : zz_fetch zz_prog 176 13 = some (.astore 4, 2, [], []) := zz_fetch_of p176 rfl rfl
theorem s176_13 : zz_Run zz_prog d 176 (13, [l0, l1, l2, l3, l4], .ref a :: st, k, h) = zz_sl l3 (zz_Run zz_prog d 176 (15, [l0, l1, l2, l3, some (.ref a)], st, k, h)) := zz_k_st (j := 4) (u := .ref a) f176_13 rfl (fun q hq => by cases hq) rfl (show 4 < 5 by decide) (by cases l3 <;> rfl) rfl
theorem f176_15 : zz_fetch zz_prog 176 15 = some (.iconst 1, 1, [], []) := zz_fetch_of p176 rfl rfl
theorem s176_15 : zz_Run zz_prog d 176 (15, [l0, l1, l2, l3, l4], st, k, h) = zz_Run zz_prog d 176 (16, [l0, l1, l2, l3, l4], .int 1 :: st, k, h) := zz_k_num f176_15 rfl
theorem f176_16 : zz_fetch zz_prog 176 16 = some (.ireturn, 1, [0], []) := zz_fetch_of p176 rfl rfl
theorem s176_16 : zz_Run zz_prog d 176 (16, [l0, l1, l2, l3, l4], [.int v], k, h) = some (.inl (some (.int v)), k, h) := zz_k_stop f176_16 rfl rfl rfl
theorem f176_17 : zz_fetch zz_prog 176 17 = some (.iconst 0, 1, [], []) := zz_fetch_of p176 rfl rfl
theorem s176_17 : zz_Run zz_prog d 176 (17, [l0, l1, l2, l3, l4], st, k, h) = zz_Run zz_prog d 176 (18, [l0, l1, l2, l3, l4], .int 0 :: st, k, h) := zz_k_num f176_17 rfl
theorem f176_18 : zz_fetch zz_prog 176 18 = some (.ireturn, 1, [0], []) := zz_fetch_of p176 rfl rfl
theorem s176_18 : zz_Run zz_prog d 176 (18, [l0, l1, l2, l3, l4], [.int v], k, h) = some (.inl (some (.int v)), k, h) := zz_k_stop f176_18 rfl rfl rfl
end S176
section S177
variable {d n j : Nat} {l0 l1 l2 l3 l4 l5 : Option Value} {st : List Value} {k : Bool} {h : zz_H} {v w v1 v2 : Int32} {y y1 : Int64} {a a1 a2 : Nat} {b0 b1 b2 b3 b4 b5 b6 b7 b8 : Value} {I : Nat → Nat → Int32} {J : Nat → Nat → Int64} {ex : List (Nat × Nat)}
theorem p177 : zz_prog 177 = some zz_m177 := rfl
theorem e177 (g0 : Nat) (g1 : Int32) (g2 : Int32) (g3 : Int32) (g4 : Nat) : zz_Call zz_prog (d + 1) 177 [.ref g0, .int g1, .int g2, .int g3, .ref g4] h = zz_Run zz_prog d 177 (0, [some (.ref g0), some (.int g1), some (.int g2), some (.int g3), some (.ref g4), none], [], true, h) := rfl
theorem f177_0 : zz_fetch zz_prog 177 0 = some (.aload 4, 2, [], []) := zz_fetch_of p177 rfl rfl
theorem s177_0 : zz_Run zz_prog d 177 (0, [l0, l1, l2, l3, some (.ref a), l5], st, k, h) = zz_Run zz_prog d 177 (2, [l0, l1, l2, l3, some (.ref a), l5], .ref a :: st, k, h) := zz_k_num f177_0 rfl
theorem f177_2 : zz_fetch zz_prog 177 2 = some (.iconst 0, 1, [], []) := zz_fetch_of p177 rfl rfl
theorem s177_2 : zz_Run zz_prog d 177 (2, [l0, l1, l2, l3, l4, l5], st, k, h) = zz_Run zz_prog d 177 (3, [l0, l1, l2, l3, l4, l5], .int 0 :: st, k, h) := zz_k_num f177_2 rfl
theorem f177_3 : zz_fetch zz_prog 177 3 = some (.aload_n 0, 1, [], []) := zz_fetch_of p177 rfl rfl
theorem s177_3 : zz_Run zz_prog d 177 (3, [some (.ref a), l1, l2, l3, l4, l5], st, k, h) = zz_Run zz_prog d 177 (4, [some (.ref a), l1, l2, l3, l4, l5], .ref a :: st, k, h) := zz_k_num f177_3 rfl
theorem f177_4 : zz_fetch zz_prog 177 4 = some (.iload_n 1, 1, [], []) := zz_fetch_of p177 rfl rfl
theorem s177_4 : zz_Run zz_prog d 177 (4, [l0, some (.int v), l2, l3, l4, l5], st, k, h) = zz_Run zz_prog d 177 (5, [l0, some (.int v), l2, l3, l4, l5], .int v :: st, k, h) := zz_k_num f177_4 rfl
theorem f177_5 : zz_fetch zz_prog 177 5 = some (.iload_n 2, 1, [], []) := zz_fetch_of p177 rfl rfl
theorem s177_5 : zz_Run zz_prog d 177 (5, [l0, l1, some (.int v), l3, l4, l5], st, k, h) = zz_Run zz_prog d 177 (6, [l0, l1, some (.int v), l3, l4, l5], .int v :: st, k, h) := zz_k_num f177_5 rfl
theorem f177_6 : zz_fetch zz_prog 177 6 = some (.iload_n 3, 1, [], []) := zz_fetch_of p177 rfl rfl
theorem s177_6 : zz_Run zz_prog d 177 (6, [l0, l1, l2, some (.int v), l4, l5], st, k, h) = zz_Run zz_prog d 177 (7, [l0, l1, l2, some (.int v), l4, l5], .int v :: st, k, h) := zz_k_num f177_6 rfl
theorem f177_7 : zz_fetch zz_prog 177 7 = some (.invokevirtual 84, 3, [0, 26, 4, 1], []) := zz_fetch_of p177 rfl rfl
theorem s177_7 : zz_Run zz_prog d 177 (7, [l0, l1, l2, l3, l4, l5], [b0, b1, b2, .ref 5, b4, b5], k, (zz_hp n I J ex)) = zz_ret (zz_Call zz_prog d 26 [.ref 5, b2, b1, b0] (zz_hp n I J ex)) (fun v k' h' => zz_Run zz_prog d 177 (10, [l0, l1, l2, l3, l4, l5], v.toList ++ [b4, b5], k && k', h')) (fun a k' h' => zz_th d 177 7 a [l0, l1, l2, l3, l4, l5] (k && k') h') := zz_k_call f177_7 rfl rfl rfl
theorem f177_10 : zz_fetch zz_prog 177 10 = some (.i2l, 1, [], []) := zz_fetch_of p177 rfl rfl
theorem s177_10 : zz_Run zz_prog d 177 (10, [l0, l1, l2, l3, l4, l5], .int v :: st, k, h) = zz_Run zz_prog d 177 (11, [l0, l1, l2, l3, l4, l5], .long v.toInt64 :: st, k, h) := zz_k_num f177_10 rfl
theorem f177_11 : zz_fetch zz_prog 177 11 = some (.lastore, 1, [], []) := zz_fetch_of p177 rfl rfl
theorem s177_11 : zz_Run zz_prog d 177 (11, [l0, l1, l2, l3, l4, l5], .long y :: .int 0 :: .ref 44 :: st, k, (zz_hp n I J ex)) = zz_Run zz_prog d 177 (12, [l0, l1, l2, l3, l4, l5], st, false, (zz_hp n I (zz_up J 44 0 y) ex)) := zz_k_go f177_11 rfl rfl rfl
theorem f177_12 : zz_fetch zz_prog 177 12 = some (.goto 11, 3, [23], []) := zz_fetch_of p177 rfl rfl
theorem s177_12 : zz_Run zz_prog d 177 (12, [l0, l1, l2, l3, l4, l5], st, k, h) = zz_Run zz_prog d 177 (23, [l0, l1, l2, l3, l4, l5], st, k, h) := zz_k_num f177_12 rfl
theorem f177_15 : zz_fetch zz_prog 177 15 = some (.astore 5, 2, [], []) := zz_fetch_of p177 rfl rfl
theorem s177_15 : zz_Run zz_prog d 177 (15, [l0, l1, l2, l3, l4, l5], .ref a :: st, k, h) = zz_sl l4 (zz_Run zz_prog d 177 (17, [l0, l1, l2, l3, l4, some (.ref a)], st, k, h)) := zz_k_st (j := 5) (u := .ref a) f177_15 rfl (fun q hq => by cases hq) rfl (show 5 < 6 by decide) (by cases l4 <;> rfl) rfl
theorem f177_17 : zz_fetch zz_prog 177 17 = some (.iconst 1, 1, [], []) := zz_fetch_of p177 rfl rfl
theorem s177_17 : zz_Run zz_prog d 177 (17, [l0, l1, l2, l3, l4, l5], st, k, h) = zz_Run zz_prog d 177 (18, [l0, l1, l2, l3, l4, l5], .int 1 :: st, k, h) := zz_k_num f177_17 rfl
theorem f177_18 : zz_fetch zz_prog 177 18 = some (.ireturn, 1, [0], []) := zz_fetch_of p177 rfl rfl
theorem s177_18 : zz_Run zz_prog d 177 (18, [l0, l1, l2, l3, l4, l5], [.int v], k, h) = some (.inl (some (.int v)), k, h) := zz_k_stop f177_18 rfl rfl rfl
theorem f177_19 : zz_fetch zz_prog 177 19 = some (.astore 5, 2, [], []) := zz_fetch_of p177 rfl rfl
theorem s177_19 : zz_Run zz_prog d 177 (19, [l0, l1, l2, l3, l4, l5], .ref a :: st, k, h) = zz_sl l4 (zz_Run zz_prog d 177 (21, [l0, l1, l2, l3, l4, some (.ref a)], st, k, h)) := zz_k_st (j := 5) (u := .ref a) f177_19 rfl (fun q hq => by cases hq) rfl (show 5 < 6 by decide) (by cases l4 <;> rfl) rfl
theorem f177_21 : zz_fetch zz_prog 177 21 = some (.iconst 2, 1, [], []) := zz_fetch_of p177 rfl rfl
theorem s177_21 : zz_Run zz_prog d 177 (21, [l0, l1, l2, l3, l4, l5], st, k, h) = zz_Run zz_prog d 177 (22, [l0, l1, l2, l3, l4, l5], .int 2 :: st, k, h) := zz_k_num f177_21 rfl
theorem f177_22 : zz_fetch zz_prog 177 22 = some (.ireturn, 1, [0], []) := zz_fetch_of p177 rfl rfl
theorem s177_22 : zz_Run zz_prog d 177 (22, [l0, l1, l2, l3, l4, l5], [.int v], k, h) = some (.inl (some (.int v)), k, h) := zz_k_stop f177_22 rfl rfl rfl
theorem f177_23 : zz_fetch zz_prog 177 23 = some (.iconst 0, 1, [], []) := zz_fetch_of p177 rfl rfl
theorem s177_23 : zz_Run zz_prog d 177 (23, [l0, l1, l2, l3, l4, l5], st, k, h) = zz_Run zz_prog d 177 (24, [l0, l1, l2, l3, l4, l5], .int 0 :: st, k, h) := zz_k_num f177_23 rfl
theorem f177_24 : zz_fetch zz_prog 177 24 = some (.ireturn, 1, [0], []) := zz_fetch_of p177 rfl rfl
theorem s177_24 : zz_Run zz_prog d 177 (24, [l0, l1, l2, l3, l4, l5], [.int v], k, h) = some (.inl (some (.int v)), k, h) := zz_k_stop f177_24 rfl rfl rfl
end S177
section S178
variable {d n j : Nat} {l0 l1 l2 l3 : Option Value} {st : List Value} {k : Bool} {h : zz_H} {v w v1 v2 : Int32} {y y1 : Int64} {a a1 a2 : Nat} {b0 b1 b2 b3 b4 b5 b6 b7 b8 : Value} {I : Nat → Nat → Int32} {J : Nat → Nat → Int64} {ex : List (Nat × Nat)}
theorem p178 : zz_prog 178 = some zz_m178 := rfl
theorem e178 (g0 : Nat) (g1 : Int32) : zz_Call zz_prog (d + 1) 178 [.ref g0, .int g1] h = zz_Run zz_prog d 178 (0, [some (.ref g0), some (.int g1), none, none], [], true, h) := rfl
theorem t178 (pc : Nat) (L : List (Option Value)) : zz_th d 178 pc a L k h = some (.inr a, k, h) := zz_th_out p178 rfl
theorem f178_0 : zz_fetch zz_prog 178 0 = some (.iconst 0, 1, [], []) := zz_fetch_of p178 rfl rfl
theorem s178_0 : zz_Run zz_prog d 178 (0, [l0, l1, l2, l3], st, k, h) = zz_Run zz_prog d 178 (1, [l0, l1, l2, l3], .int 0 :: st, k, h) := zz_k_num f178_0 rfl
theorem f178_1 : zz_fetch zz_prog 178 1 = some (.istore_n 2, 1, [], []) := zz_fetch_of p178 rfl rfl
theorem s178_1 : zz_Run zz_prog d 178 (1, [l0, l1, l2, l3], .int v :: st, k, h) = zz_sl l1 (zz_Run zz_prog d 178 (2, [l0, l1, some (.int v), l3], st, k, h)) := zz_k_st (j := 2) (u := .int v) f178_1 rfl (fun q hq => by cases hq) rfl (show 2 < 4 by decide) (by cases l1 <;> rfl) rfl
theorem f178_2 : zz_fetch zz_prog 178 2 = some (.aload_n 0, 1, [], []) := zz_fetch_of p178 rfl rfl
theorem s178_2 : zz_Run zz_prog d 178 (2, [some (.ref a), l1, l2, l3], st, k, h) = zz_Run zz_prog d 178 (3, [some (.ref a), l1, l2, l3], .ref a :: st, k, h) := zz_k_num f178_2 rfl
theorem f178_3 : zz_fetch zz_prog 178 3 = some (.arraylength, 1, [], []) := zz_fetch_of p178 rfl rfl
theorem s178_3 (ha : zz_isrd a = true) : zz_Run zz_prog d 178 (3, [l0, l1, l2, l3], .ref a :: st, k, (zz_hp n I J ex)) = zz_Run zz_prog d 178 (4, [l0, l1, l2, l3], .int (Int32.ofNat (zz_ary n a)) :: st, k, (zz_hp n I J ex)) := zz_k_alen f178_3 ha
theorem f178_4 : zz_fetch zz_prog 178 4 = some (.istore_n 3, 1, [], []) := zz_fetch_of p178 rfl rfl
theorem s178_4 : zz_Run zz_prog d 178 (4, [l0, l1, l2, l3], .int v :: st, k, h) = zz_sl l2 (zz_Run zz_prog d 178 (5, [l0, l1, l2, some (.int v)], st, k, h)) := zz_k_st (j := 3) (u := .int v) f178_4 rfl (fun q hq => by cases hq) rfl (show 3 < 4 by decide) (by cases l2 <;> rfl) rfl
theorem f178_5 : zz_fetch zz_prog 178 5 = some (.iload_n 2, 1, [], []) := zz_fetch_of p178 rfl rfl
theorem s178_5 : zz_Run zz_prog d 178 (5, [l0, l1, some (.int v), l3], st, k, h) = zz_Run zz_prog d 178 (6, [l0, l1, some (.int v), l3], .int v :: st, k, h) := zz_k_num f178_5 rfl
theorem f178_6 : zz_fetch zz_prog 178 6 = some (.iload_n 3, 1, [], []) := zz_fetch_of p178 rfl rfl
theorem s178_6 : zz_Run zz_prog d 178 (6, [l0, l1, l2, some (.int v)], st, k, h) = zz_Run zz_prog d 178 (7, [l0, l1, l2, some (.int v)], .int v :: st, k, h) := zz_k_num f178_6 rfl
theorem f178_7 : zz_fetch zz_prog 178 7 = some (.if_icmp .ge 13, 3, [20], []) := zz_fetch_of p178 rfl rfl
theorem s178_7 : zz_Run zz_prog d 178 (7, [l0, l1, l2, l3], .int w :: .int v :: st, k, h) = if w ≤ v then zz_Run zz_prog d 178 (20, [l0, l1, l2, l3], st, k, h) else zz_Run zz_prog d 178 (10, [l0, l1, l2, l3], st, k, h) := zz_k_br (w ≤ v) rfl (zz_k_num f178_7 rfl)
theorem f178_10 : zz_fetch zz_prog 178 10 = some (.aload_n 0, 1, [], []) := zz_fetch_of p178 rfl rfl
theorem s178_10 : zz_Run zz_prog d 178 (10, [some (.ref a), l1, l2, l3], st, k, h) = zz_Run zz_prog d 178 (11, [some (.ref a), l1, l2, l3], .ref a :: st, k, h) := zz_k_num f178_10 rfl
theorem f178_11 : zz_fetch zz_prog 178 11 = some (.iload_n 2, 1, [], []) := zz_fetch_of p178 rfl rfl
theorem s178_11 : zz_Run zz_prog d 178 (11, [l0, l1, some (.int v), l3], st, k, h) = zz_Run zz_prog d 178 (12, [l0, l1, some (.int v), l3], .int v :: st, k, h) := zz_k_num f178_11 rfl
theorem f178_12 : zz_fetch zz_prog 178 12 = some (.iload_n 1, 1, [], []) := zz_fetch_of p178 rfl rfl
theorem s178_12 : zz_Run zz_prog d 178 (12, [l0, some (.int v), l2, l3], st, k, h) = zz_Run zz_prog d 178 (13, [l0, some (.int v), l2, l3], .int v :: st, k, h) := zz_k_num f178_12 rfl
theorem f178_13 : zz_fetch zz_prog 178 13 = some (.iastore, 1, [], []) := zz_fetch_of p178 rfl rfl
theorem s178_13 (ha : zz_isar a = true) : zz_Run zz_prog d 178 (13, [l0, l1, l2, l3], .int w :: .int v :: .ref a :: st, k, (zz_hp n I J ex)) = zz_ck (zz_in v (zz_ary n a)) (zz_Run zz_prog d 178 (14, [l0, l1, l2, l3], st, false, (zz_hp n (zz_up I a v.toNatClampNeg w) J ex))) := zz_k_iast f178_13 ha
theorem f178_14 : zz_fetch zz_prog 178 14 = some (.iinc 2 1, 3, [], []) := zz_fetch_of p178 rfl rfl
theorem s178_14 : zz_Run zz_prog d 178 (14, [l0, l1, some (.int v), l3], st, k, h) = zz_sl l1 (zz_Run zz_prog d 178 (17, [l0, l1, some (.int (v + 1)), l3], st, k, h)) := zz_k_st (j := 2) (u := .int (v + 1)) f178_14 rfl (fun q hq => by cases hq) rfl (show 2 < 4 by decide) (by cases l1 <;> rfl) rfl
theorem f178_17 : zz_fetch zz_prog 178 17 = some (.goto (-12), 3, [5], []) := zz_fetch_of p178 rfl rfl
theorem s178_17 : zz_Run zz_prog d 178 (17, [l0, l1, l2, l3], st, k, h) = zz_Run zz_prog d 178 (5, [l0, l1, l2, l3], st, k, h) := zz_k_num f178_17 rfl
theorem f178_20 : zz_fetch zz_prog 178 20 = some (.return_, 1, [], []) := zz_fetch_of p178 rfl rfl
theorem s178_20 : zz_Run zz_prog d 178 (20, [l0, l1, l2, l3], [], k, h) = some (.inl none, k, h) := zz_k_stop f178_20 rfl rfl rfl
end S178
section S179
variable {d n j : Nat} {l0 l1 l2 l3 l4 l5 l6 : Option Value} {st : List Value} {k : Bool} {h : zz_H} {v w v1 v2 : Int32} {y y1 : Int64} {a a1 a2 : Nat} {b0 b1 b2 b3 b4 b5 b6 b7 b8 : Value} {I : Nat → Nat → Int32} {J : Nat → Nat → Int64} {ex : List (Nat × Nat)}
theorem p179 : zz_prog 179 = some zz_m179 := rfl
theorem e179 (g0 : Nat) : zz_Call zz_prog (d + 1) 179 [.ref g0] h = zz_Run zz_prog d 179 (0, [some (.ref g0), none, none, none, none, none, none], [], true, h) := rfl
theorem t179 (pc : Nat) (L : List (Option Value)) : zz_th d 179 pc a L k h = some (.inr a, k, h) := zz_th_out p179 rfl
theorem f179_0 : zz_fetch zz_prog 179 0 = some (.new 8, 3, [0, 1], []) := zz_fetch_of p179 rfl rfl
theorem f179_3 : zz_fetch zz_prog 179 3 = some (.dup, 1, [], []) := zz_fetch_of p179 rfl rfl
theorem s179_3 : zz_Run zz_prog d 179 (3, [l0, l1, l2, l3, l4, l5, l6], .ref a :: st, k, h) = zz_Run zz_prog d 179 (4, [l0, l1, l2, l3, l4, l5, l6], .ref a :: .ref a :: st, k, h) := zz_k_num f179_3 rfl
theorem f179_4 : zz_fetch zz_prog 179 4 = some (.invokespecial 87, 3, [0, 0, 1, 1], []) := zz_fetch_of p179 rfl rfl
theorem s179_4 : zz_Run zz_prog d 179 (4, [l0, l1, l2, l3, l4, l5, l6], [.ref 5, b1], k, (zz_hp n I J ex)) = zz_ret (zz_Call zz_prog d 0 [.ref 5] (zz_hp n I J ex)) (fun v k' h' => zz_Run zz_prog d 179 (7, [l0, l1, l2, l3, l4, l5, l6], v.toList ++ [b1], k && k', h')) (fun a k' h' => zz_th d 179 4 a [l0, l1, l2, l3, l4, l5, l6] (k && k') h') := zz_k_call f179_4 rfl rfl rfl
theorem f179_7 : zz_fetch zz_prog 179 7 = some (.astore_n 1, 1, [], []) := zz_fetch_of p179 rfl rfl
theorem s179_7 : zz_Run zz_prog d 179 (7, [l0, l1, l2, l3, l4, l5, l6], .ref a :: st, k, h) = zz_sl l0 (zz_Run zz_prog d 179 (8, [l0, some (.ref a), l2, l3, l4, l5, l6], st, k, h)) := zz_k_st (j := 1) (u := .ref a) f179_7 rfl (fun q hq => by cases hq) rfl (show 1 < 7 by decide) (by cases l0 <;> rfl) rfl
theorem f179_8 : zz_fetch zz_prog 179 8 = some (.new 88, 3, [0, 2], []) := zz_fetch_of p179 rfl rfl
theorem f179_11 : zz_fetch zz_prog 179 11 = some (.dup, 1, [], []) := zz_fetch_of p179 rfl rfl
theorem s179_11 : zz_Run zz_prog d 179 (11, [l0, l1, l2, l3, l4, l5, l6], .ref a :: st, k, h) = zz_Run zz_prog d 179 (12, [l0, l1, l2, l3, l4, l5, l6], .ref a :: .ref a :: st, k, h) := zz_k_num f179_11 rfl
theorem f179_12 : zz_fetch zz_prog 179 12 = some (.invokespecial 90, 3, [0, 88, 1, 2], []) := zz_fetch_of p179 rfl rfl
theorem s179_12 : zz_Run zz_prog d 179 (12, [l0, l1, l2, l3, l4, l5, l6], [.ref 23, b1], k, (zz_hp n I J ex)) = zz_ret (zz_Call zz_prog d 88 [.ref 23] (zz_hp n I J ex)) (fun v k' h' => zz_Run zz_prog d 179 (15, [l0, l1, l2, l3, l4, l5, l6], v.toList ++ [b1], k && k', h')) (fun a k' h' => zz_th d 179 12 a [l0, l1, l2, l3, l4, l5, l6] (k && k') h') := zz_k_call f179_12 rfl rfl rfl
theorem f179_15 : zz_fetch zz_prog 179 15 = some (.astore_n 2, 1, [], []) := zz_fetch_of p179 rfl rfl
theorem s179_15 : zz_Run zz_prog d 179 (15, [l0, l1, l2, l3, l4, l5, l6], .ref a :: st, k, h) = zz_sl l1 (zz_Run zz_prog d 179 (16, [l0, l1, some (.ref a), l3, l4, l5, l6], st, k, h)) := zz_k_st (j := 2) (u := .ref a) f179_15 rfl (fun q hq => by cases hq) rfl (show 2 < 7 by decide) (by cases l1 <;> rfl) rfl
theorem f179_16 : zz_fetch zz_prog 179 16 = some (.iconst 1, 1, [], []) := zz_fetch_of p179 rfl rfl
theorem s179_16 : zz_Run zz_prog d 179 (16, [l0, l1, l2, l3, l4, l5, l6], st, k, h) = zz_Run zz_prog d 179 (17, [l0, l1, l2, l3, l4, l5, l6], .int 1 :: st, k, h) := zz_k_num f179_16 rfl
theorem f179_17 : zz_fetch zz_prog 179 17 = some (.newarray .long, 2, [3], []) := zz_fetch_of p179 rfl rfl
theorem f179_19 : zz_fetch zz_prog 179 19 = some (.astore_n 3, 1, [], []) := zz_fetch_of p179 rfl rfl
theorem s179_19 : zz_Run zz_prog d 179 (19, [l0, l1, l2, l3, l4, l5, l6], .ref a :: st, k, h) = zz_sl l2 (zz_Run zz_prog d 179 (20, [l0, l1, l2, some (.ref a), l4, l5, l6], st, k, h)) := zz_k_st (j := 3) (u := .ref a) f179_19 rfl (fun q hq => by cases hq) rfl (show 3 < 7 by decide) (by cases l2 <;> rfl) rfl
theorem f179_20 : zz_fetch zz_prog 179 20 = some (.iconst 0, 1, [], []) := zz_fetch_of p179 rfl rfl
theorem s179_20 : zz_Run zz_prog d 179 (20, [l0, l1, l2, l3, l4, l5, l6], st, k, h) = zz_Run zz_prog d 179 (21, [l0, l1, l2, l3, l4, l5, l6], .int 0 :: st, k, h) := zz_k_num f179_20 rfl
theorem f179_21 : zz_fetch zz_prog 179 21 = some (.istore 4, 2, [], []) := zz_fetch_of p179 rfl rfl
theorem s179_21 : zz_Run zz_prog d 179 (21, [l0, l1, l2, l3, l4, l5, l6], .int v :: st, k, h) = zz_sl l3 (zz_Run zz_prog d 179 (23, [l0, l1, l2, l3, some (.int v), l5, l6], st, k, h)) := zz_k_st (j := 4) (u := .int v) f179_21 rfl (fun q hq => by cases hq) rfl (show 4 < 7 by decide) (by cases l3 <;> rfl) rfl
theorem f179_23 : zz_fetch zz_prog 179 23 = some (.iload 4, 2, [], []) := zz_fetch_of p179 rfl rfl
theorem s179_23 : zz_Run zz_prog d 179 (23, [l0, l1, l2, l3, some (.int v), l5, l6], st, k, h) = zz_Run zz_prog d 179 (25, [l0, l1, l2, l3, some (.int v), l5, l6], .int v :: st, k, h) := zz_k_num f179_23 rfl
theorem f179_25 : zz_fetch zz_prog 179 25 = some (.aload_n 0, 1, [], []) := zz_fetch_of p179 rfl rfl
theorem s179_25 : zz_Run zz_prog d 179 (25, [some (.ref a), l1, l2, l3, l4, l5, l6], st, k, h) = zz_Run zz_prog d 179 (26, [some (.ref a), l1, l2, l3, l4, l5, l6], .ref a :: st, k, h) := zz_k_num f179_25 rfl
theorem f179_26 : zz_fetch zz_prog 179 26 = some (.arraylength, 1, [], []) := zz_fetch_of p179 rfl rfl
theorem s179_26 (ha : zz_isrd a = true) : zz_Run zz_prog d 179 (26, [l0, l1, l2, l3, l4, l5, l6], .ref a :: st, k, (zz_hp n I J ex)) = zz_Run zz_prog d 179 (27, [l0, l1, l2, l3, l4, l5, l6], .int (Int32.ofNat (zz_ary n a)) :: st, k, (zz_hp n I J ex)) := zz_k_alen f179_26 ha
theorem f179_27 : zz_fetch zz_prog 179 27 = some (.iconst 4, 1, [], []) := zz_fetch_of p179 rfl rfl
theorem s179_27 : zz_Run zz_prog d 179 (27, [l0, l1, l2, l3, l4, l5, l6], st, k, h) = zz_Run zz_prog d 179 (28, [l0, l1, l2, l3, l4, l5, l6], .int 4 :: st, k, h) := zz_k_num f179_27 rfl
theorem f179_28 : zz_fetch zz_prog 179 28 = some (.isub, 1, [], []) := zz_fetch_of p179 rfl rfl
theorem s179_28 : zz_Run zz_prog d 179 (28, [l0, l1, l2, l3, l4, l5, l6], .int w :: .int v :: st, k, h) = zz_Run zz_prog d 179 (29, [l0, l1, l2, l3, l4, l5, l6], .int (v - w) :: st, k, h) := zz_k_num f179_28 rfl
theorem f179_29 : zz_fetch zz_prog 179 29 = some (.if_icmp .gt 1506, 3, [1535], []) := zz_fetch_of p179 rfl rfl
theorem s179_29 : zz_Run zz_prog d 179 (29, [l0, l1, l2, l3, l4, l5, l6], .int w :: .int v :: st, k, h) = if w < v then zz_Run zz_prog d 179 (1535, [l0, l1, l2, l3, l4, l5, l6], st, k, h) else zz_Run zz_prog d 179 (32, [l0, l1, l2, l3, l4, l5, l6], st, k, h) := zz_k_br (w < v) rfl (zz_k_num f179_29 rfl)
theorem f179_32 : zz_fetch zz_prog 179 32 = some (.aload_n 0, 1, [], []) := zz_fetch_of p179 rfl rfl
theorem s179_32 : zz_Run zz_prog d 179 (32, [some (.ref a), l1, l2, l3, l4, l5, l6], st, k, h) = zz_Run zz_prog d 179 (33, [some (.ref a), l1, l2, l3, l4, l5, l6], .ref a :: st, k, h) := zz_k_num f179_32 rfl
theorem f179_33 : zz_fetch zz_prog 179 33 = some (.iload 4, 2, [], []) := zz_fetch_of p179 rfl rfl
theorem s179_33 : zz_Run zz_prog d 179 (33, [l0, l1, l2, l3, some (.int v), l5, l6], st, k, h) = zz_Run zz_prog d 179 (35, [l0, l1, l2, l3, some (.int v), l5, l6], .int v :: st, k, h) := zz_k_num f179_33 rfl
theorem f179_35 : zz_fetch zz_prog 179 35 = some (.iaload, 1, [], []) := zz_fetch_of p179 rfl rfl
theorem s179_35 (ha : zz_isrd a = true) : zz_Run zz_prog d 179 (35, [l0, l1, l2, l3, l4, l5, l6], .int v :: .ref a :: st, k, (zz_hp n I J ex)) = zz_ck (zz_in v (zz_ary n a)) (zz_Run zz_prog d 179 (36, [l0, l1, l2, l3, l4, l5, l6], .int (I a v.toNatClampNeg) :: st, k, (zz_hp n I J ex))) := zz_k_iald f179_35 ha
theorem f179_36 : zz_fetch zz_prog 179 36 = some (.bipush 31, 2, [], []) := zz_fetch_of p179 rfl rfl
theorem s179_36 : zz_Run zz_prog d 179 (36, [l0, l1, l2, l3, l4, l5, l6], st, k, h) = zz_Run zz_prog d 179 (38, [l0, l1, l2, l3, l4, l5, l6], .int 31 :: st, k, h) := zz_k_num f179_36 (congrArg (fun u => some (38, [l0, l1, l2, l3, l4, l5, l6], Value.int u :: st)) (by decide : (Int8.ofInt 31).toInt32 = 31))
theorem f179_38 : zz_fetch zz_prog 179 38 = some (.iand, 1, [], []) := zz_fetch_of p179 rfl rfl
theorem s179_38 : zz_Run zz_prog d 179 (38, [l0, l1, l2, l3, l4, l5, l6], .int w :: .int v :: st, k, h) = zz_Run zz_prog d 179 (39, [l0, l1, l2, l3, l4, l5, l6], .int (v &&& w) :: st, k, h) := zz_k_num f179_38 rfl
theorem f179_39 : zz_fetch zz_prog 179 39 = some (.tableswitch 1490 0 25 #[117, 177, 245, 313, 361, 429, 485, 553, 633, 701, 761, 805, 849, 929, 973, 1017, 1030, 1043, 1056, 1124, 1192, 1248, 1304, 1317, 1385, 1410], 117, [1529], [(0, 156), (1, 216), (2, 284), (3, 352), (4, 400), (5, 468), (6, 524), (7, 592), (8, 672), (9, 740), (10, 800), (11, 844), (12, 888), (13, 968), (14, 1012), (15, 1056), (16, 1069), (17, 1082), (18, 1095), (19, 1163), (20, 1231), (21, 1287), (22, 1343), (23, 1356), (24, 1424), (25, 1449)]) := zz_fetch_of p179 rfl rfl
theorem s179_39 : zz_Run zz_prog d 179 (39, [l0, l1, l2, l3, l4, l5, l6], .int v :: st, k, h) = zz_Run zz_prog d 179 (zz_sw v 1529 [(0, 156), (1, 216), (2, 284), (3, 352), (4, 400), (5, 468), (6, 524), (7, 592), (8, 672), (9, 740), (10, 800), (11, 844), (12, 888), (13, 968), (14, 1012), (15, 1056), (16, 1069), (17, 1082), (18, 1095), (19, 1163), (20, 1231), (21, 1287), (22, 1343), (23, 1356), (24, 1424), (25, 1449)], [l0, l1, l2, l3, l4, l5, l6], st, k, h) := zz_k_num f179_39 rfl
theorem f179_156 : zz_fetch zz_prog 179 156 = some (.aload_n 1, 1, [], []) := zz_fetch_of p179 rfl rfl
theorem s179_156 : zz_Run zz_prog d 179 (156, [l0, some (.ref a), l2, l3, l4, l5, l6], st, k, h) = zz_Run zz_prog d 179 (157, [l0, some (.ref a), l2, l3, l4, l5, l6], .ref a :: st, k, h) := zz_k_num f179_156 rfl
theorem f179_157 : zz_fetch zz_prog 179 157 = some (.aload_n 0, 1, [], []) := zz_fetch_of p179 rfl rfl
theorem s179_157 : zz_Run zz_prog d 179 (157, [some (.ref a), l1, l2, l3, l4, l5, l6], st, k, h) = zz_Run zz_prog d 179 (158, [some (.ref a), l1, l2, l3, l4, l5, l6], .ref a :: st, k, h) := zz_k_num f179_157 rfl
theorem f179_158 : zz_fetch zz_prog 179 158 = some (.iload 4, 2, [], []) := zz_fetch_of p179 rfl rfl
theorem s179_158 : zz_Run zz_prog d 179 (158, [l0, l1, l2, l3, some (.int v), l5, l6], st, k, h) = zz_Run zz_prog d 179 (160, [l0, l1, l2, l3, some (.int v), l5, l6], .int v :: st, k, h) := zz_k_num f179_158 rfl
theorem f179_160 : zz_fetch zz_prog 179 160 = some (.iconst 1, 1, [], []) := zz_fetch_of p179 rfl rfl
theorem s179_160 : zz_Run zz_prog d 179 (160, [l0, l1, l2, l3, l4, l5, l6], st, k, h) = zz_Run zz_prog d 179 (161, [l0, l1, l2, l3, l4, l5, l6], .int 1 :: st, k, h) := zz_k_num f179_160 rfl
theorem f179_161 : zz_fetch zz_prog 179 161 = some (.iadd, 1, [], []) := zz_fetch_of p179 rfl rfl
theorem s179_161 : zz_Run zz_prog d 179 (161, [l0, l1, l2, l3, l4, l5, l6], .int w :: .int v :: st, k, h) = zz_Run zz_prog d 179 (162, [l0, l1, l2, l3, l4, l5, l6], .int (v + w) :: st, k, h) := zz_k_num f179_161 rfl
theorem f179_162 : zz_fetch zz_prog 179 162 = some (.iaload, 1, [], []) := zz_fetch_of p179 rfl rfl
theorem s179_162 (ha : zz_isrd a = true) : zz_Run zz_prog d 179 (162, [l0, l1, l2, l3, l4, l5, l6], .int v :: .ref a :: st, k, (zz_hp n I J ex)) = zz_ck (zz_in v (zz_ary n a)) (zz_Run zz_prog d 179 (163, [l0, l1, l2, l3, l4, l5, l6], .int (I a v.toNatClampNeg) :: st, k, (zz_hp n I J ex))) := zz_k_iald f179_162 ha
theorem f179_163 : zz_fetch zz_prog 179 163 = some (.aload_n 0, 1, [], []) := zz_fetch_of p179 rfl rfl
theorem s179_163 : zz_Run zz_prog d 179 (163, [some (.ref a), l1, l2, l3, l4, l5, l6], st, k, h) = zz_Run zz_prog d 179 (164, [some (.ref a), l1, l2, l3, l4, l5, l6], .ref a :: st, k, h) := zz_k_num f179_163 rfl
theorem f179_164 : zz_fetch zz_prog 179 164 = some (.iload 4, 2, [], []) := zz_fetch_of p179 rfl rfl
theorem s179_164 : zz_Run zz_prog d 179 (164, [l0, l1, l2, l3, some (.int v), l5, l6], st, k, h) = zz_Run zz_prog d 179 (166, [l0, l1, l2, l3, some (.int v), l5, l6], .int v :: st, k, h) := zz_k_num f179_164 rfl
theorem f179_166 : zz_fetch zz_prog 179 166 = some (.iconst 2, 1, [], []) := zz_fetch_of p179 rfl rfl
theorem s179_166 : zz_Run zz_prog d 179 (166, [l0, l1, l2, l3, l4, l5, l6], st, k, h) = zz_Run zz_prog d 179 (167, [l0, l1, l2, l3, l4, l5, l6], .int 2 :: st, k, h) := zz_k_num f179_166 rfl
theorem f179_167 : zz_fetch zz_prog 179 167 = some (.iadd, 1, [], []) := zz_fetch_of p179 rfl rfl
theorem s179_167 : zz_Run zz_prog d 179 (167, [l0, l1, l2, l3, l4, l5, l6], .int w :: .int v :: st, k, h) = zz_Run zz_prog d 179 (168, [l0, l1, l2, l3, l4, l5, l6], .int (v + w) :: st, k, h) := zz_k_num f179_167 rfl
theorem f179_168 : zz_fetch zz_prog 179 168 = some (.iaload, 1, [], []) := zz_fetch_of p179 rfl rfl
theorem s179_168 (ha : zz_isrd a = true) : zz_Run zz_prog d 179 (168, [l0, l1, l2, l3, l4, l5, l6], .int v :: .ref a :: st, k, (zz_hp n I J ex)) = zz_ck (zz_in v (zz_ary n a)) (zz_Run zz_prog d 179 (169, [l0, l1, l2, l3, l4, l5, l6], .int (I a v.toNatClampNeg) :: st, k, (zz_hp n I J ex))) := zz_k_iald f179_168 ha
theorem f179_169 : zz_fetch zz_prog 179 169 = some (.aload_n 0, 1, [], []) := zz_fetch_of p179 rfl rfl
theorem s179_169 : zz_Run zz_prog d 179 (169, [some (.ref a), l1, l2, l3, l4, l5, l6], st, k, h) = zz_Run zz_prog d 179 (170, [some (.ref a), l1, l2, l3, l4, l5, l6], .ref a :: st, k, h) := zz_k_num f179_169 rfl
theorem f179_170 : zz_fetch zz_prog 179 170 = some (.iload 4, 2, [], []) := zz_fetch_of p179 rfl rfl
theorem s179_170 : zz_Run zz_prog d 179 (170, [l0, l1, l2, l3, some (.int v), l5, l6], st, k, h) = zz_Run zz_prog d 179 (172, [l0, l1, l2, l3, some (.int v), l5, l6], .int v :: st, k, h) := zz_k_num f179_170 rfl
theorem f179_172 : zz_fetch zz_prog 179 172 = some (.iconst 3, 1, [], []) := zz_fetch_of p179 rfl rfl
theorem s179_172 : zz_Run zz_prog d 179 (172, [l0, l1, l2, l3, l4, l5, l6], st, k, h) = zz_Run zz_prog d 179 (173, [l0, l1, l2, l3, l4, l5, l6], .int 3 :: st, k, h) := zz_k_num f179_172 rfl
theorem f179_173 : zz_fetch zz_prog 179 173 = some (.iadd, 1, [], []) := zz_fetch_of p179 rfl rfl
theorem s179_173 : zz_Run zz_prog d 179 (173, [l0, l1, l2, l3, l4, l5, l6], .int w :: .int v :: st, k, h) = zz_Run zz_prog d 179 (174, [l0, l1, l2, l3, l4, l5, l6], .int (v + w) :: st, k, h) := zz_k_num f179_173 rfl
theorem f179_174 : zz_fetch zz_prog 179 174 = some (.iaload, 1, [], []) := zz_fetch_of p179 rfl rfl
theorem s179_174 (ha : zz_isrd a = true) : zz_Run zz_prog d 179 (174, [l0, l1, l2, l3, l4, l5, l6], .int v :: .ref a :: st, k, (zz_hp n I J ex)) = zz_ck (zz_in v (zz_ary n a)) (zz_Run zz_prog d 179 (175, [l0, l1, l2, l3, l4, l5, l6], .int (I a v.toNatClampNeg) :: st, k, (zz_hp n I J ex))) := zz_k_iald f179_174 ha
theorem f179_175 : zz_fetch zz_prog 179 175 = some (.invokestatic 91, 3, [0, 157, 4], []) := zz_fetch_of p179 rfl rfl
theorem s179_175 : zz_Run zz_prog d 179 (175, [l0, l1, l2, l3, l4, l5, l6], [b0, b1, b2, b3], k, h) = zz_ret (zz_Call zz_prog d 157 [b3, b2, b1, b0] h) (fun v k' h' => zz_Run zz_prog d 179 (178, [l0, l1, l2, l3, l4, l5, l6], v.toList ++ [], k && k', h')) (fun a k' h' => zz_th d 179 175 a [l0, l1, l2, l3, l4, l5, l6] (k && k') h') := zz_k_call f179_175 rfl rfl rfl
theorem f179_178 : zz_fetch zz_prog 179 178 = some (.istore 5, 2, [], []) := zz_fetch_of p179 rfl rfl
theorem s179_178 : zz_Run zz_prog d 179 (178, [l0, l1, l2, l3, l4, l5, l6], .int v :: st, k, h) = zz_sl l4 (zz_Run zz_prog d 179 (180, [l0, l1, l2, l3, l4, some (.int v), l6], st, k, h)) := zz_k_st (j := 5) (u := .int v) f179_178 rfl (fun q hq => by cases hq) rfl (show 5 < 7 by decide) (by cases l4 <;> rfl) rfl
theorem f179_180 : zz_fetch zz_prog 179 180 = some (.aload_n 2, 1, [], []) := zz_fetch_of p179 rfl rfl
theorem s179_180 : zz_Run zz_prog d 179 (180, [l0, l1, some (.ref a), l3, l4, l5, l6], st, k, h) = zz_Run zz_prog d 179 (181, [l0, l1, some (.ref a), l3, l4, l5, l6], .ref a :: st, k, h) := zz_k_num f179_180 rfl
theorem f179_181 : zz_fetch zz_prog 179 181 = some (.aload_n 0, 1, [], []) := zz_fetch_of p179 rfl rfl
theorem s179_181 : zz_Run zz_prog d 179 (181, [some (.ref a), l1, l2, l3, l4, l5, l6], st, k, h) = zz_Run zz_prog d 179 (182, [some (.ref a), l1, l2, l3, l4, l5, l6], .ref a :: st, k, h) := zz_k_num f179_181 rfl
theorem f179_182 : zz_fetch zz_prog 179 182 = some (.iload 4, 2, [], []) := zz_fetch_of p179 rfl rfl
theorem s179_182 : zz_Run zz_prog d 179 (182, [l0, l1, l2, l3, some (.int v), l5, l6], st, k, h) = zz_Run zz_prog d 179 (184, [l0, l1, l2, l3, some (.int v), l5, l6], .int v :: st, k, h) := zz_k_num f179_182 rfl
theorem f179_184 : zz_fetch zz_prog 179 184 = some (.iconst 1, 1, [], []) := zz_fetch_of p179 rfl rfl
theorem s179_184 : zz_Run zz_prog d 179 (184, [l0, l1, l2, l3, l4, l5, l6], st, k, h) = zz_Run zz_prog d 179 (185, [l0, l1, l2, l3, l4, l5, l6], .int 1 :: st, k, h) := zz_k_num f179_184 rfl
theorem f179_185 : zz_fetch zz_prog 179 185 = some (.iadd, 1, [], []) := zz_fetch_of p179 rfl rfl
theorem s179_185 : zz_Run zz_prog d 179 (185, [l0, l1, l2, l3, l4, l5, l6], .int w :: .int v :: st, k, h) = zz_Run zz_prog d 179 (186, [l0, l1, l2, l3, l4, l5, l6], .int (v + w) :: st, k, h) := zz_k_num f179_185 rfl
theorem f179_186 : zz_fetch zz_prog 179 186 = some (.iaload, 1, [], []) := zz_fetch_of p179 rfl rfl
theorem s179_186 (ha : zz_isrd a = true) : zz_Run zz_prog d 179 (186, [l0, l1, l2, l3, l4, l5, l6], .int v :: .ref a :: st, k, (zz_hp n I J ex)) = zz_ck (zz_in v (zz_ary n a)) (zz_Run zz_prog d 179 (187, [l0, l1, l2, l3, l4, l5, l6], .int (I a v.toNatClampNeg) :: st, k, (zz_hp n I J ex))) := zz_k_iald f179_186 ha
theorem f179_187 : zz_fetch zz_prog 179 187 = some (.aload_n 0, 1, [], []) := zz_fetch_of p179 rfl rfl
theorem s179_187 : zz_Run zz_prog d 179 (187, [some (.ref a), l1, l2, l3, l4, l5, l6], st, k, h) = zz_Run zz_prog d 179 (188, [some (.ref a), l1, l2, l3, l4, l5, l6], .ref a :: st, k, h) := zz_k_num f179_187 rfl
theorem f179_188 : zz_fetch zz_prog 179 188 = some (.iload 4, 2, [], []) := zz_fetch_of p179 rfl rfl
theorem s179_188 : zz_Run zz_prog d 179 (188, [l0, l1, l2, l3, some (.int v), l5, l6], st, k, h) = zz_Run zz_prog d 179 (190, [l0, l1, l2, l3, some (.int v), l5, l6], .int v :: st, k, h) := zz_k_num f179_188 rfl
theorem f179_190 : zz_fetch zz_prog 179 190 = some (.iconst 2, 1, [], []) := zz_fetch_of p179 rfl rfl
theorem s179_190 : zz_Run zz_prog d 179 (190, [l0, l1, l2, l3, l4, l5, l6], st, k, h) = zz_Run zz_prog d 179 (191, [l0, l1, l2, l3, l4, l5, l6], .int 2 :: st, k, h) := zz_k_num f179_190 rfl
theorem f179_191 : zz_fetch zz_prog 179 191 = some (.iadd, 1, [], []) := zz_fetch_of p179 rfl rfl
theorem s179_191 : zz_Run zz_prog d 179 (191, [l0, l1, l2, l3, l4, l5, l6], .int w :: .int v :: st, k, h) = zz_Run zz_prog d 179 (192, [l0, l1, l2, l3, l4, l5, l6], .int (v + w) :: st, k, h) := zz_k_num f179_191 rfl
theorem f179_192 : zz_fetch zz_prog 179 192 = some (.iaload, 1, [], []) := zz_fetch_of p179 rfl rfl
theorem s179_192 (ha : zz_isrd a = true) : zz_Run zz_prog d 179 (192, [l0, l1, l2, l3, l4, l5, l6], .int v :: .ref a :: st, k, (zz_hp n I J ex)) = zz_ck (zz_in v (zz_ary n a)) (zz_Run zz_prog d 179 (193, [l0, l1, l2, l3, l4, l5, l6], .int (I a v.toNatClampNeg) :: st, k, (zz_hp n I J ex))) := zz_k_iald f179_192 ha
theorem f179_193 : zz_fetch zz_prog 179 193 = some (.aload_n 0, 1, [], []) := zz_fetch_of p179 rfl rfl
theorem s179_193 : zz_Run zz_prog d 179 (193, [some (.ref a), l1, l2, l3, l4, l5, l6], st, k, h) = zz_Run zz_prog d 179 (194, [some (.ref a), l1, l2, l3, l4, l5, l6], .ref a :: st, k, h) := zz_k_num f179_193 rfl
theorem f179_194 : zz_fetch zz_prog 179 194 = some (.iload 4, 2, [], []) := zz_fetch_of p179 rfl rfl
theorem s179_194 : zz_Run zz_prog d 179 (194, [l0, l1, l2, l3, some (.int v), l5, l6], st, k, h) = zz_Run zz_prog d 179 (196, [l0, l1, l2, l3, some (.int v), l5, l6], .int v :: st, k, h) := zz_k_num f179_194 rfl
theorem f179_196 : zz_fetch zz_prog 179 196 = some (.iconst 3, 1, [], []) := zz_fetch_of p179 rfl rfl
theorem s179_196 : zz_Run zz_prog d 179 (196, [l0, l1, l2, l3, l4, l5, l6], st, k, h) = zz_Run zz_prog d 179 (197, [l0, l1, l2, l3, l4, l5, l6], .int 3 :: st, k, h) := zz_k_num f179_196 rfl
theorem f179_197 : zz_fetch zz_prog 179 197 = some (.iadd, 1, [], []) := zz_fetch_of p179 rfl rfl
theorem s179_197 : zz_Run zz_prog d 179 (197, [l0, l1, l2, l3, l4, l5, l6], .int w :: .int v :: st, k, h) = zz_Run zz_prog d 179 (198, [l0, l1, l2, l3, l4, l5, l6], .int (v + w) :: st, k, h) := zz_k_num f179_197 rfl
theorem f179_198 : zz_fetch zz_prog 179 198 = some (.iaload, 1, [], []) := zz_fetch_of p179 rfl rfl
theorem s179_198 (ha : zz_isrd a = true) : zz_Run zz_prog d 179 (198, [l0, l1, l2, l3, l4, l5, l6], .int v :: .ref a :: st, k, (zz_hp n I J ex)) = zz_ck (zz_in v (zz_ary n a)) (zz_Run zz_prog d 179 (199, [l0, l1, l2, l3, l4, l5, l6], .int (I a v.toNatClampNeg) :: st, k, (zz_hp n I J ex))) := zz_k_iald f179_198 ha
theorem f179_199 : zz_fetch zz_prog 179 199 = some (.invokevirtual 96, 3, [0, 96, 4, 2], []) := zz_fetch_of p179 rfl rfl
theorem s179_199 : zz_Run zz_prog d 179 (199, [l0, l1, l2, l3, l4, l5, l6], [b0, b1, b2, .ref 23], k, (zz_hp n I J ex)) = zz_ret (zz_Call zz_prog d 96 [.ref 23, b2, b1, b0] (zz_hp n I J ex)) (fun v k' h' => zz_Run zz_prog d 179 (202, [l0, l1, l2, l3, l4, l5, l6], v.toList ++ [], k && k', h')) (fun a k' h' => zz_th d 179 199 a [l0, l1, l2, l3, l4, l5, l6] (k && k') h') := zz_k_call f179_199 rfl rfl rfl
theorem f179_202 : zz_fetch zz_prog 179 202 = some (.aload_n 2, 1, [], []) := zz_fetch_of p179 rfl rfl
theorem s179_202 : zz_Run zz_prog d 179 (202, [l0, l1, some (.ref a), l3, l4, l5, l6], st, k, h) = zz_Run zz_prog d 179 (203, [l0, l1, some (.ref a), l3, l4, l5, l6], .ref a :: st, k, h) := zz_k_num f179_202 rfl
theorem f179_203 : zz_fetch zz_prog 179 203 = some (.invokevirtual 97, 3, [0, 89, 1, 2], []) := zz_fetch_of p179 rfl rfl
theorem s179_203 : zz_Run zz_prog d 179 (203, [l0, l1, l2, l3, l4, l5, l6], [.ref 23], k, (zz_hp n I J ex)) = zz_ret (zz_Call zz_prog d 89 [.ref 23] (zz_hp n I J ex)) (fun v k' h' => zz_Run zz_prog d 179 (206, [l0, l1, l2, l3, l4, l5, l6], v.toList ++ [], k && k', h')) (fun a k' h' => zz_th d 179 203 a [l0, l1, l2, l3, l4, l5, l6] (k && k') h') := zz_k_call f179_203 rfl rfl rfl
theorem f179_206 : zz_fetch zz_prog 179 206 = some (.iload 5, 2, [], []) := zz_fetch_of p179 rfl rfl
theorem s179_206 : zz_Run zz_prog d 179 (206, [l0, l1, l2, l3, l4, some (.int v), l6], st, k, h) = zz_Run zz_prog d 179 (208, [l0, l1, l2, l3, l4, some (.int v), l6], .int v :: st, k, h) := zz_k_num f179_206 rfl
theorem f179_208 : zz_fetch zz_prog 179 208 = some (.if_icmp .eq 5, 3, [213], []) := zz_fetch_of p179 rfl rfl
theorem s179_208 : zz_Run zz_prog d 179 (208, [l0, l1, l2, l3, l4, l5, l6], .int w :: .int v :: st, k, h) = if v = w then zz_Run zz_prog d 179 (213, [l0, l1, l2, l3, l4, l5, l6], st, k, h) else zz_Run zz_prog d 179 (211, [l0, l1, l2, l3, l4, l5, l6], st, k, h) := zz_k_br (v = w) rfl (zz_k_num f179_208 rfl)
theorem f179_211 : zz_fetch zz_prog 179 211 = some (.iconst 0, 1, [], []) := zz_fetch_of p179 rfl rfl
theorem s179_211 : zz_Run zz_prog d 179 (211, [l0, l1, l2, l3, l4, l5, l6], st, k, h) = zz_Run zz_prog d 179 (212, [l0, l1, l2, l3, l4, l5, l6], .int 0 :: st, k, h) := zz_k_num f179_211 rfl
theorem f179_212 : zz_fetch zz_prog 179 212 = some (.ireturn, 1, [1], []) := zz_fetch_of p179 rfl rfl
theorem s179_212 : zz_Run zz_prog d 179 (212, [l0, l1, l2, l3, l4, l5, l6], [.int v], k, h) = zz_ck (decide (v = 0 ∨ v = 1)) (some (.inl (some (.int v)), k, h)) := zz_k_retz f179_212
theorem f179_213 : zz_fetch zz_prog 179 213 = some (.goto 1316, 3, [1529], []) := zz_fetch_of p179 rfl rfl
theorem s179_213 : zz_Run zz_prog d 179 (213, [l0, l1, l2, l3, l4, l5, l6], st, k, h) = zz_Run zz_prog d 179 (1529, [l0, l1, l2, l3, l4, l5, l6], st, k, h) := zz_k_num f179_213 rfl
theorem f179_216 : zz_fetch zz_prog 179 216 = some (.aload_n 1, 1, [], []) := zz_fetch_of p179 rfl rfl
theorem s179_216 : zz_Run zz_prog d 179 (216, [l0, some (.ref a), l2, l3, l4, l5, l6], st, k, h) = zz_Run zz_prog d 179 (217, [l0, some (.ref a), l2, l3, l4, l5, l6], .ref a :: st, k, h) := zz_k_num f179_216 rfl
theorem f179_217 : zz_fetch zz_prog 179 217 = some (.aload_n 0, 1, [], []) := zz_fetch_of p179 rfl rfl
theorem s179_217 : zz_Run zz_prog d 179 (217, [some (.ref a), l1, l2, l3, l4, l5, l6], st, k, h) = zz_Run zz_prog d 179 (218, [some (.ref a), l1, l2, l3, l4, l5, l6], .ref a :: st, k, h) := zz_k_num f179_217 rfl
theorem f179_218 : zz_fetch zz_prog 179 218 = some (.iload 4, 2, [], []) := zz_fetch_of p179 rfl rfl
theorem s179_218 : zz_Run zz_prog d 179 (218, [l0, l1, l2, l3, some (.int v), l5, l6], st, k, h) = zz_Run zz_prog d 179 (220, [l0, l1, l2, l3, some (.int v), l5, l6], .int v :: st, k, h) := zz_k_num f179_218 rfl
theorem f179_220 : zz_fetch zz_prog 179 220 = some (.iconst 1, 1, [], []) := zz_fetch_of p179 rfl rfl
theorem s179_220 : zz_Run zz_prog d 179 (220, [l0, l1, l2, l3, l4, l5, l6], st, k, h) = zz_Run zz_prog d 179 (221, [l0, l1, l2, l3, l4, l5, l6], .int 1 :: st, k, h) := zz_k_num f179_220 rfl
theorem f179_221 : zz_fetch zz_prog 179 221 = some (.iadd, 1, [], []) := zz_fetch_of p179 rfl rfl
theorem s179_221 : zz_Run zz_prog d 179 (221, [l0, l1, l2, l3, l4, l5, l6], .int w :: .int v :: st, k, h) = zz_Run zz_prog d 179 (222, [l0, l1, l2, l3, l4, l5, l6], .int (v + w) :: st, k, h) := zz_k_num f179_221 rfl
theorem f179_222 : zz_fetch zz_prog 179 222 = some (.iaload, 1, [], []) := zz_fetch_of p179 rfl rfl
theorem s179_222 (ha : zz_isrd a = true) : zz_Run zz_prog d 179 (222, [l0, l1, l2, l3, l4, l5, l6], .int v :: .ref a :: st, k, (zz_hp n I J ex)) = zz_ck (zz_in v (zz_ary n a)) (zz_Run zz_prog d 179 (223, [l0, l1, l2, l3, l4, l5, l6], .int (I a v.toNatClampNeg) :: st, k, (zz_hp n I J ex))) := zz_k_iald f179_222 ha
theorem f179_223 : zz_fetch zz_prog 179 223 = some (.aload_n 0, 1, [], []) := zz_fetch_of p179 rfl rfl
theorem s179_223 : zz_Run zz_prog d 179 (223, [some (.ref a), l1, l2, l3, l4, l5, l6], st, k, h) = zz_Run zz_prog d 179 (224, [some (.ref a), l1, l2, l3, l4, l5, l6], .ref a :: st, k, h) := zz_k_num f179_223 rfl
theorem f179_224 : zz_fetch zz_prog 179 224 = some (.iload 4, 2, [], []) := zz_fetch_of p179 rfl rfl
theorem s179_224 : zz_Run zz_prog d 179 (224, [l0, l1, l2, l3, some (.int v), l5, l6], st, k, h) = zz_Run zz_prog d 179 (226, [l0, l1, l2, l3, some (.int v), l5, l6], .int v :: st, k, h) := zz_k_num f179_224 rfl
theorem f179_226 : zz_fetch zz_prog 179 226 = some (.iconst 2, 1, [], []) := zz_fetch_of p179 rfl rfl
theorem s179_226 : zz_Run zz_prog d 179 (226, [l0, l1, l2, l3, l4, l5, l6], st, k, h) = zz_Run zz_prog d 179 (227, [l0, l1, l2, l3, l4, l5, l6], .int 2 :: st, k, h) := zz_k_num f179_226 rfl
theorem f179_227 : zz_fetch zz_prog 179 227 = some (.iadd, 1, [], []) := zz_fetch_of p179 rfl rfl
theorem s179_227 : zz_Run zz_prog d 179 (227, [l0, l1, l2, l3, l4, l5, l6], .int w :: .int v :: st, k, h) = zz_Run zz_prog d 179 (228, [l0, l1, l2, l3, l4, l5, l6], .int (v + w) :: st, k, h) := zz_k_num f179_227 rfl
theorem f179_228 : zz_fetch zz_prog 179 228 = some (.iaload, 1, [], []) := zz_fetch_of p179 rfl rfl
theorem s179_228 (ha : zz_isrd a = true) : zz_Run zz_prog d 179 (228, [l0, l1, l2, l3, l4, l5, l6], .int v :: .ref a :: st, k, (zz_hp n I J ex)) = zz_ck (zz_in v (zz_ary n a)) (zz_Run zz_prog d 179 (229, [l0, l1, l2, l3, l4, l5, l6], .int (I a v.toNatClampNeg) :: st, k, (zz_hp n I J ex))) := zz_k_iald f179_228 ha
theorem f179_229 : zz_fetch zz_prog 179 229 = some (.aload_n 3, 1, [], []) := zz_fetch_of p179 rfl rfl
theorem s179_229 : zz_Run zz_prog d 179 (229, [l0, l1, l2, some (.ref a), l4, l5, l6], st, k, h) = zz_Run zz_prog d 179 (230, [l0, l1, l2, some (.ref a), l4, l5, l6], .ref a :: st, k, h) := zz_k_num f179_229 rfl
theorem f179_230 : zz_fetch zz_prog 179 230 = some (.invokestatic 100, 3, [0, 158, 4], []) := zz_fetch_of p179 rfl rfl
theorem s179_230 : zz_Run zz_prog d 179 (230, [l0, l1, l2, l3, l4, l5, l6], [b0, b1, b2, b3], k, h) = zz_ret (zz_Call zz_prog d 158 [b3, b2, b1, b0] h) (fun v k' h' => zz_Run zz_prog d 179 (233, [l0, l1, l2, l3, l4, l5, l6], v.toList ++ [], k && k', h')) (fun a k' h' => zz_th d 179 230 a [l0, l1, l2, l3, l4, l5, l6] (k && k') h') := zz_k_call f179_230 rfl rfl rfl
theorem f179_233 : zz_fetch zz_prog 179 233 = some (.istore 5, 2, [], []) := zz_fetch_of p179 rfl rfl
theorem s179_233 : zz_Run zz_prog d 179 (233, [l0, l1, l2, l3, l4, l5, l6], .int v :: st, k, h) = zz_sl l4 (zz_Run zz_prog d 179 (235, [l0, l1, l2, l3, l4, some (.int v), l6], st, k, h)) := zz_k_st (j := 5) (u := .int v) f179_233 rfl (fun q hq => by cases hq) rfl (show 5 < 7 by decide) (by cases l4 <;> rfl) rfl
theorem f179_235 : zz_fetch zz_prog 179 235 = some (.aload_n 2, 1, [], []) := zz_fetch_of p179 rfl rfl
theorem s179_235 : zz_Run zz_prog d 179 (235, [l0, l1, some (.ref a), l3, l4, l5, l6], st, k, h) = zz_Run zz_prog d 179 (236, [l0, l1, some (.ref a), l3, l4, l5, l6], .ref a :: st, k, h) := zz_k_num f179_235 rfl
theorem f179_236 : zz_fetch zz_prog 179 236 = some (.aload_n 0, 1, [], []) := zz_fetch_of p179 rfl rfl
theorem s179_236 : zz_Run zz_prog d 179 (236, [some (.ref a), l1, l2, l3, l4, l5, l6], st, k, h) = zz_Run zz_prog d 179 (237, [some (.ref a), l1, l2, l3, l4, l5, l6], .ref a :: st, k, h) := zz_k_num f179_236 rfl
theorem f179_237 : zz_fetch zz_prog 179 237 = some (.iload 4, 2, [], []) := zz_fetch_of p179 rfl rfl
theorem s179_237 : zz_Run zz_prog d 179 (237, [l0, l1, l2, l3, some (.int v), l5, l6], st, k, h) = zz_Run zz_prog d 179 (239, [l0, l1, l2, l3, some (.int v), l5, l6], .int v :: st, k, h) := zz_k_num f179_237 rfl
theorem f179_239 : zz_fetch zz_prog 179 239 = some (.iconst 1, 1, [], []) := zz_fetch_of p179 rfl rfl
theorem s179_239 : zz_Run zz_prog d 179 (239, [l0, l1, l2, l3, l4, l5, l6], st, k, h) = zz_Run zz_prog d 179 (240, [l0, l1, l2, l3, l4, l5, l6], .int 1 :: st, k, h) := zz_k_num f179_239 rfl
theorem f179_240 : zz_fetch zz_prog 179 240 = some (.iadd, 1, [], []) := zz_fetch_of p179 rfl rfl
theorem s179_240 : zz_Run zz_prog d 179 (240, [l0, l1, l2, l3, l4, l5, l6], .int w :: .int v :: st, k, h) = zz_Run zz_prog d 179 (241, [l0, l1, l2, l3, l4, l5, l6], .int (v + w) :: st, k, h) := zz_k_num f179_240 rfl
theorem f179_241 : zz_fetch zz_prog 179 241 = some (.iaload, 1, [], []) := zz_fetch_of p179 rfl rfl
theorem s179_241 (ha : zz_isrd a = true) : zz_Run zz_prog d 179 (241, [l0, l1, l2, l3, l4, l5, l6], .int v :: .ref a :: st, k, (zz_hp n I J ex)) = zz_ck (zz_in v (zz_ary n a)) (zz_Run zz_prog d 179 (242, [l0, l1, l2, l3, l4, l5, l6], .int (I a v.toNatClampNeg) :: st, k, (zz_hp n I J ex))) := zz_k_iald f179_241 ha
theorem f179_242 : zz_fetch zz_prog 179 242 = some (.aload_n 0, 1, [], []) := zz_fetch_of p179 rfl rfl
theorem s179_242 : zz_Run zz_prog d 179 (242, [some (.ref a), l1, l2, l3, l4, l5, l6], st, k, h) = zz_Run zz_prog d 179 (243, [some (.ref a), l1, l2, l3, l4, l5, l6], .ref a :: st, k, h) := zz_k_num f179_242 rfl
theorem f179_243 : zz_fetch zz_prog 179 243 = some (.iload 4, 2, [], []) := zz_fetch_of p179 rfl rfl
theorem s179_243 : zz_Run zz_prog d 179 (243, [l0, l1, l2, l3, some (.int v), l5, l6], st, k, h) = zz_Run zz_prog d 179 (245, [l0, l1, l2, l3, some (.int v), l5, l6], .int v :: st, k, h) := zz_k_num f179_243 rfl
theorem f179_245 : zz_fetch zz_prog 179 245 = some (.iconst 2, 1, [], []) := zz_fetch_of p179 rfl rfl
theorem s179_245 : zz_Run zz_prog d 179 (245, [l0, l1, l2, l3, l4, l5, l6], st, k, h) = zz_Run zz_prog d 179 (246, [l0, l1, l2, l3, l4, l5, l6], .int 2 :: st, k, h) := zz_k_num f179_245 rfl
theorem f179_246 : zz_fetch zz_prog 179 246 = some (.iadd, 1, [], []) := zz_fetch_of p179 rfl rfl
theorem s179_246 : zz_Run zz_prog d 179 (246, [l0, l1, l2, l3, l4, l5, l6], .int w :: .int v :: st, k, h) = zz_Run zz_prog d 179 (247, [l0, l1, l2, l3, l4, l5, l6], .int (v + w) :: st, k, h) := zz_k_num f179_246 rfl
theorem f179_247 : zz_fetch zz_prog 179 247 = some (.iaload, 1, [], []) := zz_fetch_of p179 rfl rfl
theorem s179_247 (ha : zz_isrd a = true) : zz_Run zz_prog d 179 (247, [l0, l1, l2, l3, l4, l5, l6], .int v :: .ref a :: st, k, (zz_hp n I J ex)) = zz_ck (zz_in v (zz_ary n a)) (zz_Run zz_prog d 179 (248, [l0, l1, l2, l3, l4, l5, l6], .int (I a v.toNatClampNeg) :: st, k, (zz_hp n I J ex))) := zz_k_iald f179_247 ha
theorem f179_248 : zz_fetch zz_prog 179 248 = some (.invokevirtual 103, 3, [0, 98, 3, 2], []) := zz_fetch_of p179 rfl rfl
theorem s179_248 : zz_Run zz_prog d 179 (248, [l0, l1, l2, l3, l4, l5, l6], [b0, b1, .ref 23], k, (zz_hp n I J ex)) = zz_ret (zz_Call zz_prog d 98 [.ref 23, b1, b0] (zz_hp n I J ex)) (fun v k' h' => zz_Run zz_prog d 179 (251, [l0, l1, l2, l3, l4, l5, l6], v.toList ++ [], k && k', h')) (fun a k' h' => zz_th d 179 248 a [l0, l1, l2, l3, l4, l5, l6] (k && k') h') := zz_k_call f179_248 rfl rfl rfl
theorem f179_251 : zz_fetch zz_prog 179 251 = some (.istore 6, 2, [], []) := zz_fetch_of p179 rfl rfl
theorem s179_251 : zz_Run zz_prog d 179 (251, [l0, l1, l2, l3, l4, l5, l6], .int v :: st, k, h) = zz_sl l5 (zz_Run zz_prog d 179 (253, [l0, l1, l2, l3, l4, l5, some (.int v)], st, k, h)) := zz_k_st (j := 6) (u := .int v) f179_251 rfl (fun q hq => by cases hq) rfl (show 6 < 7 by decide) (by cases l5 <;> rfl) rfl
theorem f179_253 : zz_fetch zz_prog 179 253 = some (.aload_n 2, 1, [], []) := zz_fetch_of p179 rfl rfl
theorem s179_253 : zz_Run zz_prog d 179 (253, [l0, l1, some (.ref a), l3, l4, l5, l6], st, k, h) = zz_Run zz_prog d 179 (254, [l0, l1, some (.ref a), l3, l4, l5, l6], .ref a :: st, k, h) := zz_k_num f179_253 rfl
theorem f179_254 : zz_fetch zz_prog 179 254 = some (.invokevirtual 97, 3, [0, 89, 1, 2], []) := zz_fetch_of p179 rfl rfl
theorem s179_254 : zz_Run zz_prog d 179 (254, [l0, l1, l2, l3, l4, l5, l6], [.ref 23], k, (zz_hp n I J ex)) = zz_ret (zz_Call zz_prog d 89 [.ref 23] (zz_hp n I J ex)) (fun v k' h' => zz_Run zz_prog d 179 (257, [l0, l1, l2, l3, l4, l5, l6], v.toList ++ [], k && k', h')) (fun a k' h' => zz_th d 179 254 a [l0, l1, l2, l3, l4, l5, l6] (k && k') h') := zz_k_call f179_254 rfl rfl rfl
theorem f179_257 : zz_fetch zz_prog 179 257 = some (.iload 5, 2, [], []) := zz_fetch_of p179 rfl rfl
theorem s179_257 : zz_Run zz_prog d 179 (257, [l0, l1, l2, l3, l4, some (.int v), l6], st, k, h) = zz_Run zz_prog d 179 (259, [l0, l1, l2, l3, l4, some (.int v), l6], .int v :: st, k, h) := zz_k_num f179_257 rfl
theorem f179_259 : zz_fetch zz_prog 179 259 = some (.if_icmp .eq 5, 3, [264], []) := zz_fetch_of p179 rfl rfl
theorem s179_259 : zz_Run zz_prog d 179 (259, [l0, l1, l2, l3, l4, l5, l6], .int w :: .int v :: st, k, h) = if v = w then zz_Run zz_prog d 179 (264, [l0, l1, l2, l3, l4, l5, l6], st, k, h) else zz_Run zz_prog d 179 (262, [l0, l1, l2, l3, l4, l5, l6], st, k, h) := zz_k_br (v = w) rfl (zz_k_num f179_259 rfl)
theorem f179_262 : zz_fetch zz_prog 179 262 = some (.iconst 0, 1, [], []) := zz_fetch_of p179 rfl rfl
theorem s179_262 : zz_Run zz_prog d 179 (262, [l0, l1, l2, l3, l4, l5, l6], st, k, h) = zz_Run zz_prog d 179 (263, [l0, l1, l2, l3, l4, l5, l6], .int 0 :: st, k, h) := zz_k_num f179_262 rfl
theorem f179_263 : zz_fetch zz_prog 179 263 = some (.ireturn, 1, [1], []) := zz_fetch_of p179 rfl rfl
theorem s179_263 : zz_Run zz_prog d 179 (263, [l0, l1, l2, l3, l4, l5, l6], [.int v], k, h) = zz_ck (decide (v = 0 ∨ v = 1)) (some (.inl (some (.int v)), k, h)) := zz_k_retz f179_263
theorem f179_264 : zz_fetch zz_prog 179 264 = some (.iload 5, 2, [], []) := zz_fetch_of p179 rfl rfl
theorem s179_264 : zz_Run zz_prog d 179 (264, [l0, l1, l2, l3, l4, some (.int v), l6], st, k, h) = zz_Run zz_prog d 179 (266, [l0, l1, l2, l3, l4, some (.int v), l6], .int v :: st, k, h) := zz_k_num f179_264 rfl
theorem f179_266 : zz_fetch zz_prog 179 266 = some (.ifCond .ne 15, 3, [281], []) := zz_fetch_of p179 rfl rfl
theorem s179_266 : zz_Run zz_prog d 179 (266, [l0, l1, l2, l3, l4, l5, l6], .int v :: st, k, h) = if ¬ v = 0 then zz_Run zz_prog d 179 (281, [l0, l1, l2, l3, l4, l5, l6], st, k, h) else zz_Run zz_prog d 179 (269, [l0, l1, l2, l3, l4, l5, l6], st, k, h) := zz_k_br (¬ v = 0) rfl (zz_k_num f179_266 rfl)
theorem f179_269 : zz_fetch zz_prog 179 269 = some (.aload_n 3, 1, [], []) := zz_fetch_of p179 rfl rfl
theorem s179_269 : zz_Run zz_prog d 179 (269, [l0, l1, l2, some (.ref a), l4, l5, l6], st, k, h) = zz_Run zz_prog d 179 (270, [l0, l1, l2, some (.ref a), l4, l5, l6], .ref a :: st, k, h) := zz_k_num f179_269 rfl
theorem f179_270 : zz_fetch zz_prog 179 270 = some (.iconst 0, 1, [], []) := zz_fetch_of p179 rfl rfl
theorem s179_270 : zz_Run zz_prog d 179 (270, [l0, l1, l2, l3, l4, l5, l6], st, k, h) = zz_Run zz_prog d 179 (271, [l0, l1, l2, l3, l4, l5, l6], .int 0 :: st, k, h) := zz_k_num f179_270 rfl
theorem f179_271 : zz_fetch zz_prog 179 271 = some (.laload, 1, [], []) := zz_fetch_of p179 rfl rfl
theorem s179_271 : zz_Run zz_prog d 179 (271, [l0, l1, l2, l3, l4, l5, l6], .int 0 :: .ref 44 :: st, k, (zz_hp n I J ex)) = zz_Run zz_prog d 179 (272, [l0, l1, l2, l3, l4, l5, l6], .long (J 44 0) :: st, k, (zz_hp n I J ex)) := zz_k_go f179_271 rfl rfl rfl
theorem f179_272 : zz_fetch zz_prog 179 272 = some (.iload 6, 2, [], []) := zz_fetch_of p179 rfl rfl
theorem s179_272 : zz_Run zz_prog d 179 (272, [l0, l1, l2, l3, l4, l5, some (.int v)], st, k, h) = zz_Run zz_prog d 179 (274, [l0, l1, l2, l3, l4, l5, some (.int v)], .int v :: st, k, h) := zz_k_num f179_272 rfl
theorem f179_274 : zz_fetch zz_prog 179 274 = some (.i2l, 1, [], []) := zz_fetch_of p179 rfl rfl
theorem s179_274 : zz_Run zz_prog d 179 (274, [l0, l1, l2, l3, l4, l5, l6], .int v :: st, k, h) = zz_Run zz_prog d 179 (275, [l0, l1, l2, l3, l4, l5, l6], .long v.toInt64 :: st, k, h) := zz_k_num f179_274 rfl
theorem f179_275 : zz_fetch zz_prog 179 275 = some (.lcmp, 1, [], []) := zz_fetch_of p179 rfl rfl
theorem s179_275 : zz_Run zz_prog d 179 (275, [l0, l1, l2, l3, l4, l5, l6], .long y1 :: .long y :: st, k, h) = zz_Run zz_prog d 179 (276, [l0, l1, l2, l3, l4, l5, l6], .int (lg_cmp y y1) :: st, k, h) := zz_k_num f179_275 rfl
theorem f179_276 : zz_fetch zz_prog 179 276 = some (.ifCond .eq 5, 3, [281], []) := zz_fetch_of p179 rfl rfl
theorem s179_276 : zz_Run zz_prog d 179 (276, [l0, l1, l2, l3, l4, l5, l6], .int v :: st, k, h) = if v = 0 then zz_Run zz_prog d 179 (281, [l0, l1, l2, l3, l4, l5, l6], st, k, h) else zz_Run zz_prog d 179 (279, [l0, l1, l2, l3, l4, l5, l6], st, k, h) := zz_k_br (v = 0) rfl (zz_k_num f179_276 rfl)
theorem f179_279 : zz_fetch zz_prog 179 279 = some (.iconst 0, 1, [], []) := zz_fetch_of p179 rfl rfl
theorem s179_279 : zz_Run zz_prog d 179 (279, [l0, l1, l2, l3, l4, l5, l6], st, k, h) = zz_Run zz_prog d 179 (280, [l0, l1, l2, l3, l4, l5, l6], .int 0 :: st, k, h) := zz_k_num f179_279 rfl
theorem f179_280 : zz_fetch zz_prog 179 280 = some (.ireturn, 1, [1], []) := zz_fetch_of p179 rfl rfl
theorem s179_280 : zz_Run zz_prog d 179 (280, [l0, l1, l2, l3, l4, l5, l6], [.int v], k, h) = zz_ck (decide (v = 0 ∨ v = 1)) (some (.inl (some (.int v)), k, h)) := zz_k_retz f179_280
theorem f179_281 : zz_fetch zz_prog 179 281 = some (.goto 1248, 3, [1529], []) := zz_fetch_of p179 rfl rfl
theorem s179_281 : zz_Run zz_prog d 179 (281, [l0, l1, l2, l3, l4, l5, l6], st, k, h) = zz_Run zz_prog d 179 (1529, [l0, l1, l2, l3, l4, l5, l6], st, k, h) := zz_k_num f179_281 rfl
theorem f179_284 : zz_fetch zz_prog 179 284 = some (.aload_n 1, 1, [], []) := zz_fetch_of p179 rfl rfl
theorem s179_284 : zz_Run zz_prog d 179 (284, [l0, some (.ref a), l2, l3, l4, l5, l6], st, k, h) = zz_Run zz_prog d 179 (285, [l0, some (.ref a), l2, l3, l4, l5, l6], .ref a :: st, k, h) := zz_k_num f179_284 rfl
theorem f179_285 : zz_fetch zz_prog 179 285 = some (.aload_n 0, 1, [], []) := zz_fetch_of p179 rfl rfl
theorem s179_285 : zz_Run zz_prog d 179 (285, [some (.ref a), l1, l2, l3, l4, l5, l6], st, k, h) = zz_Run zz_prog d 179 (286, [some (.ref a), l1, l2, l3, l4, l5, l6], .ref a :: st, k, h) := zz_k_num f179_285 rfl
theorem f179_286 : zz_fetch zz_prog 179 286 = some (.iload 4, 2, [], []) := zz_fetch_of p179 rfl rfl
theorem s179_286 : zz_Run zz_prog d 179 (286, [l0, l1, l2, l3, some (.int v), l5, l6], st, k, h) = zz_Run zz_prog d 179 (288, [l0, l1, l2, l3, some (.int v), l5, l6], .int v :: st, k, h) := zz_k_num f179_286 rfl
theorem f179_288 : zz_fetch zz_prog 179 288 = some (.iconst 1, 1, [], []) := zz_fetch_of p179 rfl rfl
theorem s179_288 : zz_Run zz_prog d 179 (288, [l0, l1, l2, l3, l4, l5, l6], st, k, h) = zz_Run zz_prog d 179 (289, [l0, l1, l2, l3, l4, l5, l6], .int 1 :: st, k, h) := zz_k_num f179_288 rfl
theorem f179_289 : zz_fetch zz_prog 179 289 = some (.iadd, 1, [], []) := zz_fetch_of p179 rfl rfl
theorem s179_289 : zz_Run zz_prog d 179 (289, [l0, l1, l2, l3, l4, l5, l6], .int w :: .int v :: st, k, h) = zz_Run zz_prog d 179 (290, [l0, l1, l2, l3, l4, l5, l6], .int (v + w) :: st, k, h) := zz_k_num f179_289 rfl
theorem f179_290 : zz_fetch zz_prog 179 290 = some (.iaload, 1, [], []) := zz_fetch_of p179 rfl rfl
theorem s179_290 (ha : zz_isrd a = true) : zz_Run zz_prog d 179 (290, [l0, l1, l2, l3, l4, l5, l6], .int v :: .ref a :: st, k, (zz_hp n I J ex)) = zz_ck (zz_in v (zz_ary n a)) (zz_Run zz_prog d 179 (291, [l0, l1, l2, l3, l4, l5, l6], .int (I a v.toNatClampNeg) :: st, k, (zz_hp n I J ex))) := zz_k_iald f179_290 ha
theorem f179_291 : zz_fetch zz_prog 179 291 = some (.i2l, 1, [], []) := zz_fetch_of p179 rfl rfl
theorem s179_291 : zz_Run zz_prog d 179 (291, [l0, l1, l2, l3, l4, l5, l6], .int v :: st, k, h) = zz_Run zz_prog d 179 (292, [l0, l1, l2, l3, l4, l5, l6], .long v.toInt64 :: st, k, h) := zz_k_num f179_291 rfl
theorem f179_292 : zz_fetch zz_prog 179 292 = some (.bipush 32, 2, [], []) := zz_fetch_of p179 rfl rfl
theorem s179_292 : zz_Run zz_prog d 179 (292, [l0, l1, l2, l3, l4, l5, l6], st, k, h) = zz_Run zz_prog d 179 (294, [l0, l1, l2, l3, l4, l5, l6], .int 32 :: st, k, h) := zz_k_num f179_292 (congrArg (fun u => some (294, [l0, l1, l2, l3, l4, l5, l6], Value.int u :: st)) (by decide : (Int8.ofInt 32).toInt32 = 32))
theorem f179_294 : zz_fetch zz_prog 179 294 = some (.lshl, 1, [], []) := zz_fetch_of p179 rfl rfl
theorem s179_294 : zz_Run zz_prog d 179 (294, [l0, l1, l2, l3, l4, l5, l6], .int v :: .long y :: st, k, h) = zz_Run zz_prog d 179 (295, [l0, l1, l2, l3, l4, l5, l6], .long (y <<< (v.toInt64 &&& 63)) :: st, k, h) := zz_k_num f179_294 rfl
theorem f179_295 : zz_fetch zz_prog 179 295 = some (.aload_n 0, 1, [], []) := zz_fetch_of p179 rfl rfl
theorem s179_295 : zz_Run zz_prog d 179 (295, [some (.ref a), l1, l2, l3, l4, l5, l6], st, k, h) = zz_Run zz_prog d 179 (296, [some (.ref a), l1, l2, l3, l4, l5, l6], .ref a :: st, k, h) := zz_k_num f179_295 rfl
theorem f179_296 : zz_fetch zz_prog 179 296 = some (.iload 4, 2, [], []) := zz_fetch_of p179 rfl rfl
theorem s179_296 : zz_Run zz_prog d 179 (296, [l0, l1, l2, l3, some (.int v), l5, l6], st, k, h) = zz_Run zz_prog d 179 (298, [l0, l1, l2, l3, some (.int v), l5, l6], .int v :: st, k, h) := zz_k_num f179_296 rfl
theorem f179_298 : zz_fetch zz_prog 179 298 = some (.iconst 2, 1, [], []) := zz_fetch_of p179 rfl rfl
theorem s179_298 : zz_Run zz_prog d 179 (298, [l0, l1, l2, l3, l4, l5, l6], st, k, h) = zz_Run zz_prog d 179 (299, [l0, l1, l2, l3, l4, l5, l6], .int 2 :: st, k, h) := zz_k_num f179_298 rfl
theorem f179_299 : zz_fetch zz_prog 179 299 = some (.iadd, 1, [], []) := zz_fetch_of p179 rfl rfl
theorem s179_299 : zz_Run zz_prog d 179 (299, [l0, l1, l2, l3, l4, l5, l6], .int w :: .int v :: st, k, h) = zz_Run zz_prog d 179 (300, [l0, l1, l2, l3, l4, l5, l6], .int (v + w) :: st, k, h) := zz_k_num f179_299 rfl
theorem f179_300 : zz_fetch zz_prog 179 300 = some (.iaload, 1, [], []) := zz_fetch_of p179 rfl rfl
theorem s179_300 (ha : zz_isrd a = true) : zz_Run zz_prog d 179 (300, [l0, l1, l2, l3, l4, l5, l6], .int v :: .ref a :: st, k, (zz_hp n I J ex)) = zz_ck (zz_in v (zz_ary n a)) (zz_Run zz_prog d 179 (301, [l0, l1, l2, l3, l4, l5, l6], .int (I a v.toNatClampNeg) :: st, k, (zz_hp n I J ex))) := zz_k_iald f179_300 ha
theorem f179_301 : zz_fetch zz_prog 179 301 = some (.i2l, 1, [], []) := zz_fetch_of p179 rfl rfl
theorem s179_301 : zz_Run zz_prog d 179 (301, [l0, l1, l2, l3, l4, l5, l6], .int v :: st, k, h) = zz_Run zz_prog d 179 (302, [l0, l1, l2, l3, l4, l5, l6], .long v.toInt64 :: st, k, h) := zz_k_num f179_301 rfl
theorem f179_302 : zz_fetch zz_prog 179 302 = some (.ldc2_w 104, 3, [4294967295], []) := zz_fetch_of p179 rfl rfl
theorem s179_302 : zz_Run zz_prog d 179 (302, [l0, l1, l2, l3, l4, l5, l6], st, k, h) = zz_Run zz_prog d 179 (305, [l0, l1, l2, l3, l4, l5, l6], .long (Int64.ofNat 4294967295) :: st, k, h) := zz_k_go f179_302 rfl rfl rfl
theorem f179_305 : zz_fetch zz_prog 179 305 = some (.land, 1, [], []) := zz_fetch_of p179 rfl rfl
theorem s179_305 : zz_Run zz_prog d 179 (305, [l0, l1, l2, l3, l4, l5, l6], .long y1 :: .long y :: st, k, h) = zz_Run zz_prog d 179 (306, [l0, l1, l2, l3, l4, l5, l6], .long (y &&& y1) :: st, k, h) := zz_k_num f179_305 rfl
theorem f179_306 : zz_fetch zz_prog 179 306 = some (.lor, 1, [], []) := zz_fetch_of p179 rfl rfl
theorem s179_306 : zz_Run zz_prog d 179 (306, [l0, l1, l2, l3, l4, l5, l6], .long y1 :: .long y :: st, k, h) = zz_Run zz_prog d 179 (307, [l0, l1, l2, l3, l4, l5, l6], .long (y ||| y1) :: st, k, h) := zz_k_num f179_306 rfl
theorem f179_307 : zz_fetch zz_prog 179 307 = some (.invokestatic 106, 3, [0, 159, 2], []) := zz_fetch_of p179 rfl rfl
theorem s179_307 : zz_Run zz_prog d 179 (307, [l0, l1, l2, l3, l4, l5, l6], [b0, b1], k, h) = zz_ret (zz_Call zz_prog d 159 [b1, b0] h) (fun v k' h' => zz_Run zz_prog d 179 (310, [l0, l1, l2, l3, l4, l5, l6], v.toList ++ [], k && k', h')) (fun a k' h' => zz_th d 179 307 a [l0, l1, l2, l3, l4, l5, l6] (k && k') h') := zz_k_call f179_307 rfl rfl rfl
theorem f179_310 : zz_fetch zz_prog 179 310 = some (.istore 5, 2, [], []) := zz_fetch_of p179 rfl rfl
theorem s179_310 : zz_Run zz_prog d 179 (310, [l0, l1, l2, l3, l4, l5, l6], .int v :: st, k, h) = zz_sl l4 (zz_Run zz_prog d 179 (312, [l0, l1, l2, l3, l4, some (.int v), l6], st, k, h)) := zz_k_st (j := 5) (u := .int v) f179_310 rfl (fun q hq => by cases hq) rfl (show 5 < 7 by decide) (by cases l4 <;> rfl) rfl
theorem f179_312 : zz_fetch zz_prog 179 312 = some (.aload_n 2, 1, [], []) := zz_fetch_of p179 rfl rfl
theorem s179_312 : zz_Run zz_prog d 179 (312, [l0, l1, some (.ref a), l3, l4, l5, l6], st, k, h) = zz_Run zz_prog d 179 (313, [l0, l1, some (.ref a), l3, l4, l5, l6], .ref a :: st, k, h) := zz_k_num f179_312 rfl
theorem f179_313 : zz_fetch zz_prog 179 313 = some (.aload_n 0, 1, [], []) := zz_fetch_of p179 rfl rfl
theorem s179_313 : zz_Run zz_prog d 179 (313, [some (.ref a), l1, l2, l3, l4, l5, l6], st, k, h) = zz_Run zz_prog d 179 (314, [some (.ref a), l1, l2, l3, l4, l5, l6], .ref a :: st, k, h) := zz_k_num f179_313 rfl
theorem f179_314 : zz_fetch zz_prog 179 314 = some (.iload 4, 2, [], []) := zz_fetch_of p179 rfl rfl
theorem s179_314 : zz_Run zz_prog d 179 (314, [l0, l1, l2, l3, some (.int v), l5, l6], st, k, h) = zz_Run zz_prog d 179 (316, [l0, l1, l2, l3, some (.int v), l5, l6], .int v :: st, k, h) := zz_k_num f179_314 rfl
theorem f179_316 : zz_fetch zz_prog 179 316 = some (.iconst 1, 1, [], []) := zz_fetch_of p179 rfl rfl
theorem s179_316 : zz_Run zz_prog d 179 (316, [l0, l1, l2, l3, l4, l5, l6], st, k, h) = zz_Run zz_prog d 179 (317, [l0, l1, l2, l3, l4, l5, l6], .int 1 :: st, k, h) := zz_k_num f179_316 rfl
theorem f179_317 : zz_fetch zz_prog 179 317 = some (.iadd, 1, [], []) := zz_fetch_of p179 rfl rfl
theorem s179_317 : zz_Run zz_prog d 179 (317, [l0, l1, l2, l3, l4, l5, l6], .int w :: .int v :: st, k, h) = zz_Run zz_prog d 179 (318, [l0, l1, l2, l3, l4, l5, l6], .int (v + w) :: st, k, h) := zz_k_num f179_317 rfl
theorem f179_318 : zz_fetch zz_prog 179 318 = some (.iaload, 1, [], []) := zz_fetch_of p179 rfl rfl
theorem s179_318 (ha : zz_isrd a = true) : zz_Run zz_prog d 179 (318, [l0, l1, l2, l3, l4, l5, l6], .int v :: .ref a :: st, k, (zz_hp n I J ex)) = zz_ck (zz_in v (zz_ary n a)) (zz_Run zz_prog d 179 (319, [l0, l1, l2, l3, l4, l5, l6], .int (I a v.toNatClampNeg) :: st, k, (zz_hp n I J ex))) := zz_k_iald f179_318 ha
theorem f179_319 : zz_fetch zz_prog 179 319 = some (.i2l, 1, [], []) := zz_fetch_of p179 rfl rfl
theorem s179_319 : zz_Run zz_prog d 179 (319, [l0, l1, l2, l3, l4, l5, l6], .int v :: st, k, h) = zz_Run zz_prog d 179 (320, [l0, l1, l2, l3, l4, l5, l6], .long v.toInt64 :: st, k, h) := zz_k_num f179_319 rfl
theorem f179_320 : zz_fetch zz_prog 179 320 = some (.bipush 32, 2, [], []) := zz_fetch_of p179 rfl rfl
theorem s179_320 : zz_Run zz_prog d 179 (320, [l0, l1, l2, l3, l4, l5, l6], st, k, h) = zz_Run zz_prog d 179 (322, [l0, l1, l2, l3, l4, l5, l6], .int 32 :: st, k, h) := zz_k_num f179_320 (congrArg (fun u => some (322, [l0, l1, l2, l3, l4, l5, l6], Value.int u :: st)) (by decide : (Int8.ofInt 32).toInt32 = 32))
theorem f179_322 : zz_fetch zz_prog 179 322 = some (.lshl, 1, [], []) := zz_fetch_of p179 rfl rfl
theorem s179_322 : zz_Run zz_prog d 179 (322, [l0, l1, l2, l3, l4, l5, l6], .int v :: .long y :: st, k, h) = zz_Run zz_prog d 179 (323, [l0, l1, l2, l3, l4, l5, l6], .long (y <<< (v.toInt64 &&& 63)) :: st, k, h) := zz_k_num f179_322 rfl
theorem f179_323 : zz_fetch zz_prog 179 323 = some (.aload_n 0, 1, [], []) := zz_fetch_of p179 rfl rfl
theorem s179_323 : zz_Run zz_prog d 179 (323, [some (.ref a), l1, l2, l3, l4, l5, l6], st, k, h) = zz_Run zz_prog d 179 (324, [some (.ref a), l1, l2, l3, l4, l5, l6], .ref a :: st, k, h) := zz_k_num f179_323 rfl
theorem f179_324 : zz_fetch zz_prog 179 324 = some (.iload 4, 2, [], []) := zz_fetch_of p179 rfl rfl
theorem s179_324 : zz_Run zz_prog d 179 (324, [l0, l1, l2, l3, some (.int v), l5, l6], st, k, h) = zz_Run zz_prog d 179 (326, [l0, l1, l2, l3, some (.int v), l5, l6], .int v :: st, k, h) := zz_k_num f179_324 rfl
theorem f179_326 : zz_fetch zz_prog 179 326 = some (.iconst 2, 1, [], []) := zz_fetch_of p179 rfl rfl
theorem s179_326 : zz_Run zz_prog d 179 (326, [l0, l1, l2, l3, l4, l5, l6], st, k, h) = zz_Run zz_prog d 179 (327, [l0, l1, l2, l3, l4, l5, l6], .int 2 :: st, k, h) := zz_k_num f179_326 rfl
theorem f179_327 : zz_fetch zz_prog 179 327 = some (.iadd, 1, [], []) := zz_fetch_of p179 rfl rfl
theorem s179_327 : zz_Run zz_prog d 179 (327, [l0, l1, l2, l3, l4, l5, l6], .int w :: .int v :: st, k, h) = zz_Run zz_prog d 179 (328, [l0, l1, l2, l3, l4, l5, l6], .int (v + w) :: st, k, h) := zz_k_num f179_327 rfl
theorem f179_328 : zz_fetch zz_prog 179 328 = some (.iaload, 1, [], []) := zz_fetch_of p179 rfl rfl
theorem s179_328 (ha : zz_isrd a = true) : zz_Run zz_prog d 179 (328, [l0, l1, l2, l3, l4, l5, l6], .int v :: .ref a :: st, k, (zz_hp n I J ex)) = zz_ck (zz_in v (zz_ary n a)) (zz_Run zz_prog d 179 (329, [l0, l1, l2, l3, l4, l5, l6], .int (I a v.toNatClampNeg) :: st, k, (zz_hp n I J ex))) := zz_k_iald f179_328 ha
theorem f179_329 : zz_fetch zz_prog 179 329 = some (.i2l, 1, [], []) := zz_fetch_of p179 rfl rfl
theorem s179_329 : zz_Run zz_prog d 179 (329, [l0, l1, l2, l3, l4, l5, l6], .int v :: st, k, h) = zz_Run zz_prog d 179 (330, [l0, l1, l2, l3, l4, l5, l6], .long v.toInt64 :: st, k, h) := zz_k_num f179_329 rfl
theorem f179_330 : zz_fetch zz_prog 179 330 = some (.ldc2_w 104, 3, [4294967295], []) := zz_fetch_of p179 rfl rfl
theorem s179_330 : zz_Run zz_prog d 179 (330, [l0, l1, l2, l3, l4, l5, l6], st, k, h) = zz_Run zz_prog d 179 (333, [l0, l1, l2, l3, l4, l5, l6], .long (Int64.ofNat 4294967295) :: st, k, h) := zz_k_go f179_330 rfl rfl rfl
theorem f179_333 : zz_fetch zz_prog 179 333 = some (.land, 1, [], []) := zz_fetch_of p179 rfl rfl
theorem s179_333 : zz_Run zz_prog d 179 (333, [l0, l1, l2, l3, l4, l5, l6], .long y1 :: .long y :: st, k, h) = zz_Run zz_prog d 179 (334, [l0, l1, l2, l3, l4, l5, l6], .long (y &&& y1) :: st, k, h) := zz_k_num f179_333 rfl
theorem f179_334 : zz_fetch zz_prog 179 334 = some (.lor, 1, [], []) := zz_fetch_of p179 rfl rfl
theorem s179_334 : zz_Run zz_prog d 179 (334, [l0, l1, l2, l3, l4, l5, l6], .long y1 :: .long y :: st, k, h) = zz_Run zz_prog d 179 (335, [l0, l1, l2, l3, l4, l5, l6], .long (y ||| y1) :: st, k, h) := zz_k_num f179_334 rfl
theorem f179_335 : zz_fetch zz_prog 179 335 = some (.invokevirtual 109, 3, [0, 99, 2, 2], []) := zz_fetch_of p179 rfl rfl
theorem s179_335 : zz_Run zz_prog d 179 (335, [l0, l1, l2, l3, l4, l5, l6], [b0, .ref 23], k, (zz_hp n I J ex)) = zz_ret (zz_Call zz_prog d 99 [.ref 23, b0] (zz_hp n I J ex)) (fun v k' h' => zz_Run zz_prog d 179 (338, [l0, l1, l2, l3, l4, l5, l6], v.toList ++ [], k && k', h')) (fun a k' h' => zz_th d 179 335 a [l0, l1, l2, l3, l4, l5, l6] (k && k') h') := zz_k_call f179_335 rfl rfl rfl
theorem f179_338 : zz_fetch zz_prog 179 338 = some (.aload_n 2, 1, [], []) := zz_fetch_of p179 rfl rfl
theorem s179_338 : zz_Run zz_prog d 179 (338, [l0, l1, some (.ref a), l3, l4, l5, l6], st, k, h) = zz_Run zz_prog d 179 (339, [l0, l1, some (.ref a), l3, l4, l5, l6], .ref a :: st, k, h) := zz_k_num f179_338 rfl
theorem f179_339 : zz_fetch zz_prog 179 339 = some (.invokevirtual 97, 3, [0, 89, 1, 2], []) := zz_fetch_of p179 rfl rfl
theorem s179_339 : zz_Run zz_prog d 179 (339, [l0, l1, l2, l3, l4, l5, l6], [.ref 23], k, (zz_hp n I J ex)) = zz_ret (zz_Call zz_prog d 89 [.ref 23] (zz_hp n I J ex)) (fun v k' h' => zz_Run zz_prog d 179 (342, [l0, l1, l2, l3, l4, l5, l6], v.toList ++ [], k && k', h')) (fun a k' h' => zz_th d 179 339 a [l0, l1, l2, l3, l4, l5, l6] (k && k') h') := zz_k_call f179_339 rfl rfl rfl
theorem f179_342 : zz_fetch zz_prog 179 342 = some (.iload 5, 2, [], []) := zz_fetch_of p179 rfl rfl
theorem s179_342 : zz_Run zz_prog d 179 (342, [l0, l1, l2, l3, l4, some (.int v), l6], st, k, h) = zz_Run zz_prog d 179 (344, [l0, l1, l2, l3, l4, some (.int v), l6], .int v :: st, k, h) := zz_k_num f179_342 rfl
theorem f179_344 : zz_fetch zz_prog 179 344 = some (.if_icmp .eq 5, 3, [349], []) := zz_fetch_of p179 rfl rfl
theorem s179_344 : zz_Run zz_prog d 179 (344, [l0, l1, l2, l3, l4, l5, l6], .int w :: .int v :: st, k, h) = if v = w then zz_Run zz_prog d 179 (349, [l0, l1, l2, l3, l4, l5, l6], st, k, h) else zz_Run zz_prog d 179 (347, [l0, l1, l2, l3, l4, l5, l6], st, k, h) := zz_k_br (v = w) rfl (zz_k_num f179_344 rfl)
theorem f179_347 : zz_fetch zz_prog 179 347 = some (.iconst 0, 1, [], []) := zz_fetch_of p179 rfl rfl
theorem s179_347 : zz_Run zz_prog d 179 (347, [l0, l1, l2, l3, l4, l5, l6], st, k, h) = zz_Run zz_prog d 179 (348, [l0, l1, l2, l3, l4, l5, l6], .int 0 :: st, k, h) := zz_k_num f179_347 rfl
theorem f179_348 : zz_fetch zz_prog 179 348 = some (.ireturn, 1, [1], []) := zz_fetch_of p179 rfl rfl
theorem s179_348 : zz_Run zz_prog d 179 (348, [l0, l1, l2, l3, l4, l5, l6], [.int v], k, h) = zz_ck (decide (v = 0 ∨ v = 1)) (some (.inl (some (.int v)), k, h)) := zz_k_retz f179_348
theorem f179_349 : zz_fetch zz_prog 179 349 = some (.goto 1180, 3, [1529], []) := zz_fetch_of p179 rfl rfl
theorem s179_349 : zz_Run zz_prog d 179 (349, [l0, l1, l2, l3, l4, l5, l6], st, k, h) = zz_Run zz_prog d 179 (1529, [l0, l1, l2, l3, l4, l5, l6], st, k, h) := zz_k_num f179_349 rfl
theorem f179_352 : zz_fetch zz_prog 179 352 = some (.aload_n 1, 1, [], []) := zz_fetch_of p179 rfl rfl
theorem s179_352 : zz_Run zz_prog d 179 (352, [l0, some (.ref a), l2, l3, l4, l5, l6], st, k, h) = zz_Run zz_prog d 179 (353, [l0, some (.ref a), l2, l3, l4, l5, l6], .ref a :: st, k, h) := zz_k_num f179_352 rfl
theorem f179_353 : zz_fetch zz_prog 179 353 = some (.aload_n 0, 1, [], []) := zz_fetch_of p179 rfl rfl
theorem s179_353 : zz_Run zz_prog d 179 (353, [some (.ref a), l1, l2, l3, l4, l5, l6], st, k, h) = zz_Run zz_prog d 179 (354, [some (.ref a), l1, l2, l3, l4, l5, l6], .ref a :: st, k, h) := zz_k_num f179_353 rfl
theorem f179_354 : zz_fetch zz_prog 179 354 = some (.iload 4, 2, [], []) := zz_fetch_of p179 rfl rfl
theorem s179_354 : zz_Run zz_prog d 179 (354, [l0, l1, l2, l3, some (.int v), l5, l6], st, k, h) = zz_Run zz_prog d 179 (356, [l0, l1, l2, l3, some (.int v), l5, l6], .int v :: st, k, h) := zz_k_num f179_354 rfl
theorem f179_356 : zz_fetch zz_prog 179 356 = some (.iconst 1, 1, [], []) := zz_fetch_of p179 rfl rfl
theorem s179_356 : zz_Run zz_prog d 179 (356, [l0, l1, l2, l3, l4, l5, l6], st, k, h) = zz_Run zz_prog d 179 (357, [l0, l1, l2, l3, l4, l5, l6], .int 1 :: st, k, h) := zz_k_num f179_356 rfl
theorem f179_357 : zz_fetch zz_prog 179 357 = some (.iadd, 1, [], []) := zz_fetch_of p179 rfl rfl
theorem s179_357 : zz_Run zz_prog d 179 (357, [l0, l1, l2, l3, l4, l5, l6], .int w :: .int v :: st, k, h) = zz_Run zz_prog d 179 (358, [l0, l1, l2, l3, l4, l5, l6], .int (v + w) :: st, k, h) := zz_k_num f179_357 rfl
theorem f179_358 : zz_fetch zz_prog 179 358 = some (.iaload, 1, [], []) := zz_fetch_of p179 rfl rfl
theorem s179_358 (ha : zz_isrd a = true) : zz_Run zz_prog d 179 (358, [l0, l1, l2, l3, l4, l5, l6], .int v :: .ref a :: st, k, (zz_hp n I J ex)) = zz_ck (zz_in v (zz_ary n a)) (zz_Run zz_prog d 179 (359, [l0, l1, l2, l3, l4, l5, l6], .int (I a v.toNatClampNeg) :: st, k, (zz_hp n I J ex))) := zz_k_iald f179_358 ha
theorem f179_359 : zz_fetch zz_prog 179 359 = some (.aload_n 0, 1, [], []) := zz_fetch_of p179 rfl rfl
theorem s179_359 : zz_Run zz_prog d 179 (359, [some (.ref a), l1, l2, l3, l4, l5, l6], st, k, h) = zz_Run zz_prog d 179 (360, [some (.ref a), l1, l2, l3, l4, l5, l6], .ref a :: st, k, h) := zz_k_num f179_359 rfl
theorem f179_360 : zz_fetch zz_prog 179 360 = some (.iload 4, 2, [], []) := zz_fetch_of p179 rfl rfl
theorem s179_360 : zz_Run zz_prog d 179 (360, [l0, l1, l2, l3, some (.int v), l5, l6], st, k, h) = zz_Run zz_prog d 179 (362, [l0, l1, l2, l3, some (.int v), l5, l6], .int v :: st, k, h) := zz_k_num f179_360 rfl
theorem f179_362 : zz_fetch zz_prog 179 362 = some (.iconst 2, 1, [], []) := zz_fetch_of p179 rfl rfl
theorem s179_362 : zz_Run zz_prog d 179 (362, [l0, l1, l2, l3, l4, l5, l6], st, k, h) = zz_Run zz_prog d 179 (363, [l0, l1, l2, l3, l4, l5, l6], .int 2 :: st, k, h) := zz_k_num f179_362 rfl
theorem f179_363 : zz_fetch zz_prog 179 363 = some (.iadd, 1, [], []) := zz_fetch_of p179 rfl rfl
theorem s179_363 : zz_Run zz_prog d 179 (363, [l0, l1, l2, l3, l4, l5, l6], .int w :: .int v :: st, k, h) = zz_Run zz_prog d 179 (364, [l0, l1, l2, l3, l4, l5, l6], .int (v + w) :: st, k, h) := zz_k_num f179_363 rfl
theorem f179_364 : zz_fetch zz_prog 179 364 = some (.iaload, 1, [], []) := zz_fetch_of p179 rfl rfl
theorem s179_364 (ha : zz_isrd a = true) : zz_Run zz_prog d 179 (364, [l0, l1, l2, l3, l4, l5, l6], .int v :: .ref a :: st, k, (zz_hp n I J ex)) = zz_ck (zz_in v (zz_ary n a)) (zz_Run zz_prog d 179 (365, [l0, l1, l2, l3, l4, l5, l6], .int (I a v.toNatClampNeg) :: st, k, (zz_hp n I J ex))) := zz_k_iald f179_364 ha
theorem f179_365 : zz_fetch zz_prog 179 365 = some (.invokestatic 110, 3, [0, 160, 3], []) := zz_fetch_of p179 rfl rfl
theorem s179_365 : zz_Run zz_prog d 179 (365, [l0, l1, l2, l3, l4, l5, l6], [b0, b1, b2], k, h) = zz_ret (zz_Call zz_prog d 160 [b2, b1, b0] h) (fun v k' h' => zz_Run zz_prog d 179 (368, [l0, l1, l2, l3, l4, l5, l6], v.toList ++ [], k && k', h')) (fun a k' h' => zz_th d 179 365 a [l0, l1, l2, l3, l4, l5, l6] (k && k') h') := zz_k_call f179_365 rfl rfl rfl
theorem f179_368 : zz_fetch zz_prog 179 368 = some (.istore 5, 2, [], []) := zz_fetch_of p179 rfl rfl
theorem s179_368 : zz_Run zz_prog d 179 (368, [l0, l1, l2, l3, l4, l5, l6], .int v :: st, k, h) = zz_sl l4 (zz_Run zz_prog d 179 (370, [l0, l1, l2, l3, l4, some (.int v), l6], st, k, h)) := zz_k_st (j := 5) (u := .int v) f179_368 rfl (fun q hq => by cases hq) rfl (show 5 < 7 by decide) (by cases l4 <;> rfl) rfl
theorem f179_370 : zz_fetch zz_prog 179 370 = some (.aload_n 2, 1, [], []) := zz_fetch_of p179 rfl rfl
theorem s179_370 : zz_Run zz_prog d 179 (370, [l0, l1, some (.ref a), l3, l4, l5, l6], st, k, h) = zz_Run zz_prog d 179 (371, [l0, l1, some (.ref a), l3, l4, l5, l6], .ref a :: st, k, h) := zz_k_num f179_370 rfl
theorem f179_371 : zz_fetch zz_prog 179 371 = some (.aload_n 0, 1, [], []) := zz_fetch_of p179 rfl rfl
theorem s179_371 : zz_Run zz_prog d 179 (371, [some (.ref a), l1, l2, l3, l4, l5, l6], st, k, h) = zz_Run zz_prog d 179 (372, [some (.ref a), l1, l2, l3, l4, l5, l6], .ref a :: st, k, h) := zz_k_num f179_371 rfl
theorem f179_372 : zz_fetch zz_prog 179 372 = some (.iload 4, 2, [], []) := zz_fetch_of p179 rfl rfl
theorem s179_372 : zz_Run zz_prog d 179 (372, [l0, l1, l2, l3, some (.int v), l5, l6], st, k, h) = zz_Run zz_prog d 179 (374, [l0, l1, l2, l3, some (.int v), l5, l6], .int v :: st, k, h) := zz_k_num f179_372 rfl
theorem f179_374 : zz_fetch zz_prog 179 374 = some (.iconst 1, 1, [], []) := zz_fetch_of p179 rfl rfl
theorem s179_374 : zz_Run zz_prog d 179 (374, [l0, l1, l2, l3, l4, l5, l6], st, k, h) = zz_Run zz_prog d 179 (375, [l0, l1, l2, l3, l4, l5, l6], .int 1 :: st, k, h) := zz_k_num f179_374 rfl
theorem f179_375 : zz_fetch zz_prog 179 375 = some (.iadd, 1, [], []) := zz_fetch_of p179 rfl rfl
theorem s179_375 : zz_Run zz_prog d 179 (375, [l0, l1, l2, l3, l4, l5, l6], .int w :: .int v :: st, k, h) = zz_Run zz_prog d 179 (376, [l0, l1, l2, l3, l4, l5, l6], .int (v + w) :: st, k, h) := zz_k_num f179_375 rfl
theorem f179_376 : zz_fetch zz_prog 179 376 = some (.iaload, 1, [], []) := zz_fetch_of p179 rfl rfl
theorem s179_376 (ha : zz_isrd a = true) : zz_Run zz_prog d 179 (376, [l0, l1, l2, l3, l4, l5, l6], .int v :: .ref a :: st, k, (zz_hp n I J ex)) = zz_ck (zz_in v (zz_ary n a)) (zz_Run zz_prog d 179 (377, [l0, l1, l2, l3, l4, l5, l6], .int (I a v.toNatClampNeg) :: st, k, (zz_hp n I J ex))) := zz_k_iald f179_376 ha
theorem f179_377 : zz_fetch zz_prog 179 377 = some (.aload_n 0, 1, [], []) := zz_fetch_of p179 rfl rfl
theorem s179_377 : zz_Run zz_prog d 179 (377, [some (.ref a), l1, l2, l3, l4, l5, l6], st, k, h) = zz_Run zz_prog d 179 (378, [some (.ref a), l1, l2, l3, l4, l5, l6], .ref a :: st, k, h) := zz_k_num f179_377 rfl
theorem f179_378 : zz_fetch zz_prog 179 378 = some (.iload 4, 2, [], []) := zz_fetch_of p179 rfl rfl
theorem s179_378 : zz_Run zz_prog d 179 (378, [l0, l1, l2, l3, some (.int v), l5, l6], st, k, h) = zz_Run zz_prog d 179 (380, [l0, l1, l2, l3, some (.int v), l5, l6], .int v :: st, k, h) := zz_k_num f179_378 rfl
theorem f179_380 : zz_fetch zz_prog 179 380 = some (.iconst 2, 1, [], []) := zz_fetch_of p179 rfl rfl
theorem s179_380 : zz_Run zz_prog d 179 (380, [l0, l1, l2, l3, l4, l5, l6], st, k, h) = zz_Run zz_prog d 179 (381, [l0, l1, l2, l3, l4, l5, l6], .int 2 :: st, k, h) := zz_k_num f179_380 rfl
theorem f179_381 : zz_fetch zz_prog 179 381 = some (.iadd, 1, [], []) := zz_fetch_of p179 rfl rfl
theorem s179_381 : zz_Run zz_prog d 179 (381, [l0, l1, l2, l3, l4, l5, l6], .int w :: .int v :: st, k, h) = zz_Run zz_prog d 179 (382, [l0, l1, l2, l3, l4, l5, l6], .int (v + w) :: st, k, h) := zz_k_num f179_381 rfl
theorem f179_382 : zz_fetch zz_prog 179 382 = some (.iaload, 1, [], []) := zz_fetch_of p179 rfl rfl
theorem s179_382 (ha : zz_isrd a = true) : zz_Run zz_prog d 179 (382, [l0, l1, l2, l3, l4, l5, l6], .int v :: .ref a :: st, k, (zz_hp n I J ex)) = zz_ck (zz_in v (zz_ary n a)) (zz_Run zz_prog d 179 (383, [l0, l1, l2, l3, l4, l5, l6], .int (I a v.toNatClampNeg) :: st, k, (zz_hp n I J ex))) := zz_k_iald f179_382 ha
theorem f179_383 : zz_fetch zz_prog 179 383 = some (.invokevirtual 113, 3, [0, 100, 3, 2], []) := zz_fetch_of p179 rfl rfl
theorem s179_383 : zz_Run zz_prog d 179 (383, [l0, l1, l2, l3, l4, l5, l6], [b0, b1, .ref 23], k, (zz_hp n I J ex)) = zz_ret (zz_Call zz_prog d 100 [.ref 23, b1, b0] (zz_hp n I J ex)) (fun v k' h' => zz_Run zz_prog d 179 (386, [l0, l1, l2, l3, l4, l5, l6], v.toList ++ [], k && k', h')) (fun a k' h' => zz_th d 179 383 a [l0, l1, l2, l3, l4, l5, l6] (k && k') h') := zz_k_call f179_383 rfl rfl rfl
theorem f179_386 : zz_fetch zz_prog 179 386 = some (.aload_n 2, 1, [], []) := zz_fetch_of p179 rfl rfl
theorem s179_386 : zz_Run zz_prog d 179 (386, [l0, l1, some (.ref a), l3, l4, l5, l6], st, k, h) = zz_Run zz_prog d 179 (387, [l0, l1, some (.ref a), l3, l4, l5, l6], .ref a :: st, k, h) := zz_k_num f179_386 rfl
theorem f179_387 : zz_fetch zz_prog 179 387 = some (.invokevirtual 97, 3, [0, 89, 1, 2], []) := zz_fetch_of p179 rfl rfl
theorem s179_387 : zz_Run zz_prog d 179 (387, [l0, l1, l2, l3, l4, l5, l6], [.ref 23], k, (zz_hp n I J ex)) = zz_ret (zz_Call zz_prog d 89 [.ref 23] (zz_hp n I J ex)) (fun v k' h' => zz_Run zz_prog d 179 (390, [l0, l1, l2, l3, l4, l5, l6], v.toList ++ [], k && k', h')) (fun a k' h' => zz_th d 179 387 a [l0, l1, l2, l3, l4, l5, l6] (k && k') h') := zz_k_call f179_387 rfl rfl rfl
theorem f179_390 : zz_fetch zz_prog 179 390 = some (.iload 5, 2, [], []) := zz_fetch_of p179 rfl rfl
theorem s179_390 : zz_Run zz_prog d 179 (390, [l0, l1, l2, l3, l4, some (.int v), l6], st, k, h) = zz_Run zz_prog d 179 (392, [l0, l1, l2, l3, l4, some (.int v), l6], .int v :: st, k, h) := zz_k_num f179_390 rfl
theorem f179_392 : zz_fetch zz_prog 179 392 = some (.if_icmp .eq 5, 3, [397], []) := zz_fetch_of p179 rfl rfl
theorem s179_392 : zz_Run zz_prog d 179 (392, [l0, l1, l2, l3, l4, l5, l6], .int w :: .int v :: st, k, h) = if v = w then zz_Run zz_prog d 179 (397, [l0, l1, l2, l3, l4, l5, l6], st, k, h) else zz_Run zz_prog d 179 (395, [l0, l1, l2, l3, l4, l5, l6], st, k, h) := zz_k_br (v = w) rfl (zz_k_num f179_392 rfl)
theorem f179_395 : zz_fetch zz_prog 179 395 = some (.iconst 0, 1, [], []) := zz_fetch_of p179 rfl rfl
theorem s179_395 : zz_Run zz_prog d 179 (395, [l0, l1, l2, l3, l4, l5, l6], st, k, h) = zz_Run zz_prog d 179 (396, [l0, l1, l2, l3, l4, l5, l6], .int 0 :: st, k, h) := zz_k_num f179_395 rfl
theorem f179_396 : zz_fetch zz_prog 179 396 = some (.ireturn, 1, [1], []) := zz_fetch_of p179 rfl rfl
theorem s179_396 : zz_Run zz_prog d 179 (396, [l0, l1, l2, l3, l4, l5, l6], [.int v], k, h) = zz_ck (decide (v = 0 ∨ v = 1)) (some (.inl (some (.int v)), k, h)) := zz_k_retz f179_396
theorem f179_397 : zz_fetch zz_prog 179 397 = some (.goto 1132, 3, [1529], []) := zz_fetch_of p179 rfl rfl
theorem s179_397 : zz_Run zz_prog d 179 (397, [l0, l1, l2, l3, l4, l5, l6], st, k, h) = zz_Run zz_prog d 179 (1529, [l0, l1, l2, l3, l4, l5, l6], st, k, h) := zz_k_num f179_397 rfl
theorem f179_400 : zz_fetch zz_prog 179 400 = some (.aload_n 1, 1, [], []) := zz_fetch_of p179 rfl rfl
theorem s179_400 : zz_Run zz_prog d 179 (400, [l0, some (.ref a), l2, l3, l4, l5, l6], st, k, h) = zz_Run zz_prog d 179 (401, [l0, some (.ref a), l2, l3, l4, l5, l6], .ref a :: st, k, h) := zz_k_num f179_400 rfl
theorem f179_401 : zz_fetch zz_prog 179 401 = some (.aload_n 0, 1, [], []) := zz_fetch_of p179 rfl rfl
theorem s179_401 : zz_Run zz_prog d 179 (401, [some (.ref a), l1, l2, l3, l4, l5, l6], st, k, h) = zz_Run zz_prog d 179 (402, [some (.ref a), l1, l2, l3, l4, l5, l6], .ref a :: st, k, h) := zz_k_num f179_401 rfl
theorem f179_402 : zz_fetch zz_prog 179 402 = some (.iload 4, 2, [], []) := zz_fetch_of p179 rfl rfl
theorem s179_402 : zz_Run zz_prog d 179 (402, [l0, l1, l2, l3, some (.int v), l5, l6], st, k, h) = zz_Run zz_prog d 179 (404, [l0, l1, l2, l3, some (.int v), l5, l6], .int v :: st, k, h) := zz_k_num f179_402 rfl
theorem f179_404 : zz_fetch zz_prog 179 404 = some (.iconst 1, 1, [], []) := zz_fetch_of p179 rfl rfl
theorem s179_404 : zz_Run zz_prog d 179 (404, [l0, l1, l2, l3, l4, l5, l6], st, k, h) = zz_Run zz_prog d 179 (405, [l0, l1, l2, l3, l4, l5, l6], .int 1 :: st, k, h) := zz_k_num f179_404 rfl
theorem f179_405 : zz_fetch zz_prog 179 405 = some (.iadd, 1, [], []) := zz_fetch_of p179 rfl rfl
theorem s179_405 : zz_Run zz_prog d 179 (405, [l0, l1, l2, l3, l4, l5, l6], .int w :: .int v :: st, k, h) = zz_Run zz_prog d 179 (406, [l0, l1, l2, l3, l4, l5, l6], .int (v + w) :: st, k, h) := zz_k_num f179_405 rfl
theorem f179_406 : zz_fetch zz_prog 179 406 = some (.iaload, 1, [], []) := zz_fetch_of p179 rfl rfl
theorem s179_406 (ha : zz_isrd a = true) : zz_Run zz_prog d 179 (406, [l0, l1, l2, l3, l4, l5, l6], .int v :: .ref a :: st, k, (zz_hp n I J ex)) = zz_ck (zz_in v (zz_ary n a)) (zz_Run zz_prog d 179 (407, [l0, l1, l2, l3, l4, l5, l6], .int (I a v.toNatClampNeg) :: st, k, (zz_hp n I J ex))) := zz_k_iald f179_406 ha
theorem f179_407 : zz_fetch zz_prog 179 407 = some (.aload_n 0, 1, [], []) := zz_fetch_of p179 rfl rfl
theorem s179_407 : zz_Run zz_prog d 179 (407, [some (.ref a), l1, l2, l3, l4, l5, l6], st, k, h) = zz_Run zz_prog d 179 (408, [some (.ref a), l1, l2, l3, l4, l5, l6], .ref a :: st, k, h) := zz_k_num f179_407 rfl
theorem f179_408 : zz_fetch zz_prog 179 408 = some (.iload 4, 2, [], []) := zz_fetch_of p179 rfl rfl
theorem s179_408 : zz_Run zz_prog d 179 (408, [l0, l1, l2, l3, some (.int v), l5, l6], st, k, h) = zz_Run zz_prog d 179 (410, [l0, l1, l2, l3, some (.int v), l5, l6], .int v :: st, k, h) := zz_k_num f179_408 rfl
theorem f179_410 : zz_fetch zz_prog 179 410 = some (.iconst 2, 1, [], []) := zz_fetch_of p179 rfl rfl
theorem s179_410 : zz_Run zz_prog d 179 (410, [l0, l1, l2, l3, l4, l5, l6], st, k, h) = zz_Run zz_prog d 179 (411, [l0, l1, l2, l3, l4, l5, l6], .int 2 :: st, k, h) := zz_k_num f179_410 rfl
theorem f179_411 : zz_fetch zz_prog 179 411 = some (.iadd, 1, [], []) := zz_fetch_of p179 rfl rfl
theorem s179_411 : zz_Run zz_prog d 179 (411, [l0, l1, l2, l3, l4, l5, l6], .int w :: .int v :: st, k, h) = zz_Run zz_prog d 179 (412, [l0, l1, l2, l3, l4, l5, l6], .int (v + w) :: st, k, h) := zz_k_num f179_411 rfl
theorem f179_412 : zz_fetch zz_prog 179 412 = some (.iaload, 1, [], []) := zz_fetch_of p179 rfl rfl
theorem s179_412 (ha : zz_isrd a = true) : zz_Run zz_prog d 179 (412, [l0, l1, l2, l3, l4, l5, l6], .int v :: .ref a :: st, k, (zz_hp n I J ex)) = zz_ck (zz_in v (zz_ary n a)) (zz_Run zz_prog d 179 (413, [l0, l1, l2, l3, l4, l5, l6], .int (I a v.toNatClampNeg) :: st, k, (zz_hp n I J ex))) := zz_k_iald f179_412 ha
theorem f179_413 : zz_fetch zz_prog 179 413 = some (.aload_n 3, 1, [], []) := zz_fetch_of p179 rfl rfl
theorem s179_413 : zz_Run zz_prog d 179 (413, [l0, l1, l2, some (.ref a), l4, l5, l6], st, k, h) = zz_Run zz_prog d 179 (414, [l0, l1, l2, some (.ref a), l4, l5, l6], .ref a :: st, k, h) := zz_k_num f179_413 rfl
theorem f179_414 : zz_fetch zz_prog 179 414 = some (.invokestatic 114, 3, [0, 161, 4], []) := zz_fetch_of p179 rfl rfl
theorem s179_414 : zz_Run zz_prog d 179 (414, [l0, l1, l2, l3, l4, l5, l6], [b0, b1, b2, b3], k, h) = zz_ret (zz_Call zz_prog d 161 [b3, b2, b1, b0] h) (fun v k' h' => zz_Run zz_prog d 179 (417, [l0, l1, l2, l3, l4, l5, l6], v.toList ++ [], k && k', h')) (fun a k' h' => zz_th d 179 414 a [l0, l1, l2, l3, l4, l5, l6] (k && k') h') := zz_k_call f179_414 rfl rfl rfl
theorem f179_417 : zz_fetch zz_prog 179 417 = some (.istore 5, 2, [], []) := zz_fetch_of p179 rfl rfl
theorem s179_417 : zz_Run zz_prog d 179 (417, [l0, l1, l2, l3, l4, l5, l6], .int v :: st, k, h) = zz_sl l4 (zz_Run zz_prog d 179 (419, [l0, l1, l2, l3, l4, some (.int v), l6], st, k, h)) := zz_k_st (j := 5) (u := .int v) f179_417 rfl (fun q hq => by cases hq) rfl (show 5 < 7 by decide) (by cases l4 <;> rfl) rfl
theorem f179_419 : zz_fetch zz_prog 179 419 = some (.aload_n 2, 1, [], []) := zz_fetch_of p179 rfl rfl
theorem s179_419 : zz_Run zz_prog d 179 (419, [l0, l1, some (.ref a), l3, l4, l5, l6], st, k, h) = zz_Run zz_prog d 179 (420, [l0, l1, some (.ref a), l3, l4, l5, l6], .ref a :: st, k, h) := zz_k_num f179_419 rfl
theorem f179_420 : zz_fetch zz_prog 179 420 = some (.aload_n 0, 1, [], []) := zz_fetch_of p179 rfl rfl
theorem s179_420 : zz_Run zz_prog d 179 (420, [some (.ref a), l1, l2, l3, l4, l5, l6], st, k, h) = zz_Run zz_prog d 179 (421, [some (.ref a), l1, l2, l3, l4, l5, l6], .ref a :: st, k, h) := zz_k_num f179_420 rfl
theorem f179_421 : zz_fetch zz_prog 179 421 = some (.iload 4, 2, [], []) := zz_fetch_of p179 rfl rfl
theorem s179_421 : zz_Run zz_prog d 179 (421, [l0, l1, l2, l3, some (.int v), l5, l6], st, k, h) = zz_Run zz_prog d 179 (423, [l0, l1, l2, l3, some (.int v), l5, l6], .int v :: st, k, h) := zz_k_num f179_421 rfl
theorem f179_423 : zz_fetch zz_prog 179 423 = some (.iconst 1, 1, [], []) := zz_fetch_of p179 rfl rfl
theorem s179_423 : zz_Run zz_prog d 179 (423, [l0, l1, l2, l3, l4, l5, l6], st, k, h) = zz_Run zz_prog d 179 (424, [l0, l1, l2, l3, l4, l5, l6], .int 1 :: st, k, h) := zz_k_num f179_423 rfl
theorem f179_424 : zz_fetch zz_prog 179 424 = some (.iadd, 1, [], []) := zz_fetch_of p179 rfl rfl
theorem s179_424 : zz_Run zz_prog d 179 (424, [l0, l1, l2, l3, l4, l5, l6], .int w :: .int v :: st, k, h) = zz_Run zz_prog d 179 (425, [l0, l1, l2, l3, l4, l5, l6], .int (v + w) :: st, k, h) := zz_k_num f179_424 rfl
theorem f179_425 : zz_fetch zz_prog 179 425 = some (.iaload, 1, [], []) := zz_fetch_of p179 rfl rfl
theorem s179_425 (ha : zz_isrd a = true) : zz_Run zz_prog d 179 (425, [l0, l1, l2, l3, l4, l5, l6], .int v :: .ref a :: st, k, (zz_hp n I J ex)) = zz_ck (zz_in v (zz_ary n a)) (zz_Run zz_prog d 179 (426, [l0, l1, l2, l3, l4, l5, l6], .int (I a v.toNatClampNeg) :: st, k, (zz_hp n I J ex))) := zz_k_iald f179_425 ha
theorem f179_426 : zz_fetch zz_prog 179 426 = some (.aload_n 0, 1, [], []) := zz_fetch_of p179 rfl rfl
theorem s179_426 : zz_Run zz_prog d 179 (426, [some (.ref a), l1, l2, l3, l4, l5, l6], st, k, h) = zz_Run zz_prog d 179 (427, [some (.ref a), l1, l2, l3, l4, l5, l6], .ref a :: st, k, h) := zz_k_num f179_426 rfl
theorem f179_427 : zz_fetch zz_prog 179 427 = some (.iload 4, 2, [], []) := zz_fetch_of p179 rfl rfl
theorem s179_427 : zz_Run zz_prog d 179 (427, [l0, l1, l2, l3, some (.int v), l5, l6], st, k, h) = zz_Run zz_prog d 179 (429, [l0, l1, l2, l3, some (.int v), l5, l6], .int v :: st, k, h) := zz_k_num f179_427 rfl
theorem f179_429 : zz_fetch zz_prog 179 429 = some (.iconst 2, 1, [], []) := zz_fetch_of p179 rfl rfl
theorem s179_429 : zz_Run zz_prog d 179 (429, [l0, l1, l2, l3, l4, l5, l6], st, k, h) = zz_Run zz_prog d 179 (430, [l0, l1, l2, l3, l4, l5, l6], .int 2 :: st, k, h) := zz_k_num f179_429 rfl
theorem f179_430 : zz_fetch zz_prog 179 430 = some (.iadd, 1, [], []) := zz_fetch_of p179 rfl rfl
theorem s179_430 : zz_Run zz_prog d 179 (430, [l0, l1, l2, l3, l4, l5, l6], .int w :: .int v :: st, k, h) = zz_Run zz_prog d 179 (431, [l0, l1, l2, l3, l4, l5, l6], .int (v + w) :: st, k, h) := zz_k_num f179_430 rfl
theorem f179_431 : zz_fetch zz_prog 179 431 = some (.iaload, 1, [], []) := zz_fetch_of p179 rfl rfl
theorem s179_431 (ha : zz_isrd a = true) : zz_Run zz_prog d 179 (431, [l0, l1, l2, l3, l4, l5, l6], .int v :: .ref a :: st, k, (zz_hp n I J ex)) = zz_ck (zz_in v (zz_ary n a)) (zz_Run zz_prog d 179 (432, [l0, l1, l2, l3, l4, l5, l6], .int (I a v.toNatClampNeg) :: st, k, (zz_hp n I J ex))) := zz_k_iald f179_431 ha
theorem f179_432 : zz_fetch zz_prog 179 432 = some (.invokevirtual 116, 3, [0, 121, 3, 2], []) := zz_fetch_of p179 rfl rfl
theorem s179_432 : zz_Run zz_prog d 179 (432, [l0, l1, l2, l3, l4, l5, l6], [b0, b1, .ref 23], k, (zz_hp n I J ex)) = zz_ret (zz_Call zz_prog d 121 [.ref 23, b1, b0] (zz_hp n I J ex)) (fun v k' h' => zz_Run zz_prog d 179 (435, [l0, l1, l2, l3, l4, l5, l6], v.toList ++ [], k && k', h')) (fun a k' h' => zz_th d 179 432 a [l0, l1, l2, l3, l4, l5, l6] (k && k') h') := zz_k_call f179_432 rfl rfl rfl
theorem f179_435 : zz_fetch zz_prog 179 435 = some (.istore 6, 2, [], []) := zz_fetch_of p179 rfl rfl
theorem s179_435 : zz_Run zz_prog d 179 (435, [l0, l1, l2, l3, l4, l5, l6], .int v :: st, k, h) = zz_sl l5 (zz_Run zz_prog d 179 (437, [l0, l1, l2, l3, l4, l5, some (.int v)], st, k, h)) := zz_k_st (j := 6) (u := .int v) f179_435 rfl (fun q hq => by cases hq) rfl (show 6 < 7 by decide) (by cases l5 <;> rfl) rfl
theorem f179_437 : zz_fetch zz_prog 179 437 = some (.aload_n 2, 1, [], []) := zz_fetch_of p179 rfl rfl
theorem s179_437 : zz_Run zz_prog d 179 (437, [l0, l1, some (.ref a), l3, l4, l5, l6], st, k, h) = zz_Run zz_prog d 179 (438, [l0, l1, some (.ref a), l3, l4, l5, l6], .ref a :: st, k, h) := zz_k_num f179_437 rfl
theorem f179_438 : zz_fetch zz_prog 179 438 = some (.invokevirtual 97, 3, [0, 89, 1, 2], []) := zz_fetch_of p179 rfl rfl
theorem s179_438 : zz_Run zz_prog d 179 (438, [l0, l1, l2, l3, l4, l5, l6], [.ref 23], k, (zz_hp n I J ex)) = zz_ret (zz_Call zz_prog d 89 [.ref 23] (zz_hp n I J ex)) (fun v k' h' => zz_Run zz_prog d 179 (441, [l0, l1, l2, l3, l4, l5, l6], v.toList ++ [], k && k', h')) (fun a k' h' => zz_th d 179 438 a [l0, l1, l2, l3, l4, l5, l6] (k && k') h') := zz_k_call f179_438 rfl rfl rfl
theorem f179_441 : zz_fetch zz_prog 179 441 = some (.iload 5, 2, [], []) := zz_fetch_of p179 rfl rfl
theorem s179_441 : zz_Run zz_prog d 179 (441, [l0, l1, l2, l3, l4, some (.int v), l6], st, k, h) = zz_Run zz_prog d 179 (443, [l0, l1, l2, l3, l4, some (.int v), l6], .int v :: st, k, h) := zz_k_num f179_441 rfl
theorem f179_443 : zz_fetch zz_prog 179 443 = some (.if_icmp .eq 5, 3, [448], []) := zz_fetch_of p179 rfl rfl
theorem s179_443 : zz_Run zz_prog d 179 (443, [l0, l1, l2, l3, l4, l5, l6], .int w :: .int v :: st, k, h) = if v = w then zz_Run zz_prog d 179 (448, [l0, l1, l2, l3, l4, l5, l6], st, k, h) else zz_Run zz_prog d 179 (446, [l0, l1, l2, l3, l4, l5, l6], st, k, h) := zz_k_br (v = w) rfl (zz_k_num f179_443 rfl)
theorem f179_446 : zz_fetch zz_prog 179 446 = some (.iconst 0, 1, [], []) := zz_fetch_of p179 rfl rfl
theorem s179_446 : zz_Run zz_prog d 179 (446, [l0, l1, l2, l3, l4, l5, l6], st, k, h) = zz_Run zz_prog d 179 (447, [l0, l1, l2, l3, l4, l5, l6], .int 0 :: st, k, h) := zz_k_num f179_446 rfl
theorem f179_447 : zz_fetch zz_prog 179 447 = some (.ireturn, 1, [1], []) := zz_fetch_of p179 rfl rfl
theorem s179_447 : zz_Run zz_prog d 179 (447, [l0, l1, l2, l3, l4, l5, l6], [.int v], k, h) = zz_ck (decide (v = 0 ∨ v = 1)) (some (.inl (some (.int v)), k, h)) := zz_k_retz f179_447
theorem f179_448 : zz_fetch zz_prog 179 448 = some (.iload 5, 2, [], []) := zz_fetch_of p179 rfl rfl
theorem s179_448 : zz_Run zz_prog d 179 (448, [l0, l1, l2, l3, l4, some (.int v), l6], st, k, h) = zz_Run zz_prog d 179 (450, [l0, l1, l2, l3, l4, some (.int v), l6], .int v :: st, k, h) := zz_k_num f179_448 rfl
theorem f179_450 : zz_fetch zz_prog 179 450 = some (.ifCond .ne 15, 3, [465], []) := zz_fetch_of p179 rfl rfl
theorem s179_450 : zz_Run zz_prog d 179 (450, [l0, l1, l2, l3, l4, l5, l6], .int v :: st, k, h) = if ¬ v = 0 then zz_Run zz_prog d 179 (465, [l0, l1, l2, l3, l4, l5, l6], st, k, h) else zz_Run zz_prog d 179 (453, [l0, l1, l2, l3, l4, l5, l6], st, k, h) := zz_k_br (¬ v = 0) rfl (zz_k_num f179_450 rfl)
theorem f179_453 : zz_fetch zz_prog 179 453 = some (.aload_n 3, 1, [], []) := zz_fetch_of p179 rfl rfl
theorem s179_453 : zz_Run zz_prog d 179 (453, [l0, l1, l2, some (.ref a), l4, l5, l6], st, k, h) = zz_Run zz_prog d 179 (454, [l0, l1, l2, some (.ref a), l4, l5, l6], .ref a :: st, k, h) := zz_k_num f179_453 rfl
theorem f179_454 : zz_fetch zz_prog 179 454 = some (.iconst 0, 1, [], []) := zz_fetch_of p179 rfl rfl
theorem s179_454 : zz_Run zz_prog d 179 (454, [l0, l1, l2, l3, l4, l5, l6], st, k, h) = zz_Run zz_prog d 179 (455, [l0, l1, l2, l3, l4, l5, l6], .int 0 :: st, k, h) := zz_k_num f179_454 rfl
theorem f179_455 : zz_fetch zz_prog 179 455 = some (.laload, 1, [], []) := zz_fetch_of p179 rfl rfl
theorem s179_455 : zz_Run zz_prog d 179 (455, [l0, l1, l2, l3, l4, l5, l6], .int 0 :: .ref 44 :: st, k, (zz_hp n I J ex)) = zz_Run zz_prog d 179 (456, [l0, l1, l2, l3, l4, l5, l6], .long (J 44 0) :: st, k, (zz_hp n I J ex)) := zz_k_go f179_455 rfl rfl rfl
theorem f179_456 : zz_fetch zz_prog 179 456 = some (.iload 6, 2, [], []) := zz_fetch_of p179 rfl rfl
theorem s179_456 : zz_Run zz_prog d 179 (456, [l0, l1, l2, l3, l4, l5, some (.int v)], st, k, h) = zz_Run zz_prog d 179 (458, [l0, l1, l2, l3, l4, l5, some (.int v)], .int v :: st, k, h) := zz_k_num f179_456 rfl
theorem f179_458 : zz_fetch zz_prog 179 458 = some (.i2l, 1, [], []) := zz_fetch_of p179 rfl rfl
theorem s179_458 : zz_Run zz_prog d 179 (458, [l0, l1, l2, l3, l4, l5, l6], .int v :: st, k, h) = zz_Run zz_prog d 179 (459, [l0, l1, l2, l3, l4, l5, l6], .long v.toInt64 :: st, k, h) := zz_k_num f179_458 rfl
theorem f179_459 : zz_fetch zz_prog 179 459 = some (.lcmp, 1, [], []) := zz_fetch_of p179 rfl rfl
theorem s179_459 : zz_Run zz_prog d 179 (459, [l0, l1, l2, l3, l4, l5, l6], .long y1 :: .long y :: st, k, h) = zz_Run zz_prog d 179 (460, [l0, l1, l2, l3, l4, l5, l6], .int (lg_cmp y y1) :: st, k, h) := zz_k_num f179_459 rfl
theorem f179_460 : zz_fetch zz_prog 179 460 = some (.ifCond .eq 5, 3, [465], []) := zz_fetch_of p179 rfl rfl
theorem s179_460 : zz_Run zz_prog d 179 (460, [l0, l1, l2, l3, l4, l5, l6], .int v :: st, k, h) = if v = 0 then zz_Run zz_prog d 179 (465, [l0, l1, l2, l3, l4, l5, l6], st, k, h) else zz_Run zz_prog d 179 (463, [l0, l1, l2, l3, l4, l5, l6], st, k, h) := zz_k_br (v = 0) rfl (zz_k_num f179_460 rfl)
theorem f179_463 : zz_fetch zz_prog 179 463 = some (.iconst 0, 1, [], []) := zz_fetch_of p179 rfl rfl
theorem s179_463 : zz_Run zz_prog d 179 (463, [l0, l1, l2, l3, l4, l5, l6], st, k, h) = zz_Run zz_prog d 179 (464, [l0, l1, l2, l3, l4, l5, l6], .int 0 :: st, k, h) := zz_k_num f179_463 rfl
theorem f179_464 : zz_fetch zz_prog 179 464 = some (.ireturn, 1, [1], []) := zz_fetch_of p179 rfl rfl
theorem s179_464 : zz_Run zz_prog d 179 (464, [l0, l1, l2, l3, l4, l5, l6], [.int v], k, h) = zz_ck (decide (v = 0 ∨ v = 1)) (some (.inl (some (.int v)), k, h)) := zz_k_retz f179_464
theorem f179_465 : zz_fetch zz_prog 179 465 = some (.goto 1064, 3, [1529], []) := zz_fetch_of p179 rfl rfl
theorem s179_465 : zz_Run zz_prog d 179 (465, [l0, l1, l2, l3, l4, l5, l6], st, k, h) = zz_Run zz_prog d 179 (1529, [l0, l1, l2, l3, l4, l5, l6], st, k, h) := zz_k_num f179_465 rfl
theorem f179_468 : zz_fetch zz_prog 179 468 = some (.aload_n 1, 1, [], []) := zz_fetch_of p179 rfl rfl
theorem s179_468 : zz_Run zz_prog d 179 (468, [l0, some (.ref a), l2, l3, l4, l5, l6], st, k, h) = zz_Run zz_prog d 179 (469, [l0, some (.ref a), l2, l3, l4, l5, l6], .ref a :: st, k, h) := zz_k_num f179_468 rfl
theorem f179_469 : zz_fetch zz_prog 179 469 = some (.aload_n 0, 1, [], []) := zz_fetch_of p179 rfl rfl
theorem s179_469 : zz_Run zz_prog d 179 (469, [some (.ref a), l1, l2, l3, l4, l5, l6], st, k, h) = zz_Run zz_prog d 179 (470, [some (.ref a), l1, l2, l3, l4, l5, l6], .ref a :: st, k, h) := zz_k_num f179_469 rfl
theorem f179_470 : zz_fetch zz_prog 179 470 = some (.iload 4, 2, [], []) := zz_fetch_of p179 rfl rfl
theorem s179_470 : zz_Run zz_prog d 179 (470, [l0, l1, l2, l3, some (.int v), l5, l6], st, k, h) = zz_Run zz_prog d 179 (472, [l0, l1, l2, l3, some (.int v), l5, l6], .int v :: st, k, h) := zz_k_num f179_470 rfl
theorem f179_472 : zz_fetch zz_prog 179 472 = some (.iconst 1, 1, [], []) := zz_fetch_of p179 rfl rfl
theorem s179_472 : zz_Run zz_prog d 179 (472, [l0, l1, l2, l3, l4, l5, l6], st, k, h) = zz_Run zz_prog d 179 (473, [l0, l1, l2, l3, l4, l5, l6], .int 1 :: st, k, h) := zz_k_num f179_472 rfl
theorem f179_473 : zz_fetch zz_prog 179 473 = some (.iadd, 1, [], []) := zz_fetch_of p179 rfl rfl
theorem s179_473 : zz_Run zz_prog d 179 (473, [l0, l1, l2, l3, l4, l5, l6], .int w :: .int v :: st, k, h) = zz_Run zz_prog d 179 (474, [l0, l1, l2, l3, l4, l5, l6], .int (v + w) :: st, k, h) := zz_k_num f179_473 rfl
theorem f179_474 : zz_fetch zz_prog 179 474 = some (.iaload, 1, [], []) := zz_fetch_of p179 rfl rfl
theorem s179_474 (ha : zz_isrd a = true) : zz_Run zz_prog d 179 (474, [l0, l1, l2, l3, l4, l5, l6], .int v :: .ref a :: st, k, (zz_hp n I J ex)) = zz_ck (zz_in v (zz_ary n a)) (zz_Run zz_prog d 179 (475, [l0, l1, l2, l3, l4, l5, l6], .int (I a v.toNatClampNeg) :: st, k, (zz_hp n I J ex))) := zz_k_iald f179_474 ha
theorem f179_475 : zz_fetch zz_prog 179 475 = some (.aload_n 3, 1, [], []) := zz_fetch_of p179 rfl rfl
theorem s179_475 : zz_Run zz_prog d 179 (475, [l0, l1, l2, some (.ref a), l4, l5, l6], st, k, h) = zz_Run zz_prog d 179 (476, [l0, l1, l2, some (.ref a), l4, l5, l6], .ref a :: st, k, h) := zz_k_num f179_475 rfl
theorem f179_476 : zz_fetch zz_prog 179 476 = some (.invokestatic 117, 3, [0, 162, 3], []) := zz_fetch_of p179 rfl rfl
theorem s179_476 : zz_Run zz_prog d 179 (476, [l0, l1, l2, l3, l4, l5, l6], [b0, b1, b2], k, h) = zz_ret (zz_Call zz_prog d 162 [b2, b1, b0] h) (fun v k' h' => zz_Run zz_prog d 179 (479, [l0, l1, l2, l3, l4, l5, l6], v.toList ++ [], k && k', h')) (fun a k' h' => zz_th d 179 476 a [l0, l1, l2, l3, l4, l5, l6] (k && k') h') := zz_k_call f179_476 rfl rfl rfl
theorem f179_479 : zz_fetch zz_prog 179 479 = some (.istore 5, 2, [], []) := zz_fetch_of p179 rfl rfl
theorem s179_479 : zz_Run zz_prog d 179 (479, [l0, l1, l2, l3, l4, l5, l6], .int v :: st, k, h) = zz_sl l4 (zz_Run zz_prog d 179 (481, [l0, l1, l2, l3, l4, some (.int v), l6], st, k, h)) := zz_k_st (j := 5) (u := .int v) f179_479 rfl (fun q hq => by cases hq) rfl (show 5 < 7 by decide) (by cases l4 <;> rfl) rfl
theorem f179_481 : zz_fetch zz_prog 179 481 = some (.aload_n 2, 1, [], []) := zz_fetch_of p179 rfl rfl
theorem s179_481 : zz_Run zz_prog d 179 (481, [l0, l1, some (.ref a), l3, l4, l5, l6], st, k, h) = zz_Run zz_prog d 179 (482, [l0, l1, some (.ref a), l3, l4, l5, l6], .ref a :: st, k, h) := zz_k_num f179_481 rfl
theorem f179_482 : zz_fetch zz_prog 179 482 = some (.aload_n 0, 1, [], []) := zz_fetch_of p179 rfl rfl
theorem s179_482 : zz_Run zz_prog d 179 (482, [some (.ref a), l1, l2, l3, l4, l5, l6], st, k, h) = zz_Run zz_prog d 179 (483, [some (.ref a), l1, l2, l3, l4, l5, l6], .ref a :: st, k, h) := zz_k_num f179_482 rfl
theorem f179_483 : zz_fetch zz_prog 179 483 = some (.iload 4, 2, [], []) := zz_fetch_of p179 rfl rfl
theorem s179_483 : zz_Run zz_prog d 179 (483, [l0, l1, l2, l3, some (.int v), l5, l6], st, k, h) = zz_Run zz_prog d 179 (485, [l0, l1, l2, l3, some (.int v), l5, l6], .int v :: st, k, h) := zz_k_num f179_483 rfl
theorem f179_485 : zz_fetch zz_prog 179 485 = some (.iconst 1, 1, [], []) := zz_fetch_of p179 rfl rfl
theorem s179_485 : zz_Run zz_prog d 179 (485, [l0, l1, l2, l3, l4, l5, l6], st, k, h) = zz_Run zz_prog d 179 (486, [l0, l1, l2, l3, l4, l5, l6], .int 1 :: st, k, h) := zz_k_num f179_485 rfl
theorem f179_486 : zz_fetch zz_prog 179 486 = some (.iadd, 1, [], []) := zz_fetch_of p179 rfl rfl
theorem s179_486 : zz_Run zz_prog d 179 (486, [l0, l1, l2, l3, l4, l5, l6], .int w :: .int v :: st, k, h) = zz_Run zz_prog d 179 (487, [l0, l1, l2, l3, l4, l5, l6], .int (v + w) :: st, k, h) := zz_k_num f179_486 rfl
theorem f179_487 : zz_fetch zz_prog 179 487 = some (.iaload, 1, [], []) := zz_fetch_of p179 rfl rfl
theorem s179_487 (ha : zz_isrd a = true) : zz_Run zz_prog d 179 (487, [l0, l1, l2, l3, l4, l5, l6], .int v :: .ref a :: st, k, (zz_hp n I J ex)) = zz_ck (zz_in v (zz_ary n a)) (zz_Run zz_prog d 179 (488, [l0, l1, l2, l3, l4, l5, l6], .int (I a v.toNatClampNeg) :: st, k, (zz_hp n I J ex))) := zz_k_iald f179_487 ha
theorem f179_488 : zz_fetch zz_prog 179 488 = some (.invokevirtual 120, 3, [0, 126, 2, 2], []) := zz_fetch_of p179 rfl rfl
theorem s179_488 : zz_Run zz_prog d 179 (488, [l0, l1, l2, l3, l4, l5, l6], [b0, .ref 23], k, (zz_hp n I J ex)) = zz_ret (zz_Call zz_prog d 126 [.ref 23, b0] (zz_hp n I J ex)) (fun v k' h' => zz_Run zz_prog d 179 (491, [l0, l1, l2, l3, l4, l5, l6], v.toList ++ [], k && k', h')) (fun a k' h' => zz_th d 179 488 a [l0, l1, l2, l3, l4, l5, l6] (k && k') h') := zz_k_call f179_488 rfl rfl rfl
theorem f179_491 : zz_fetch zz_prog 179 491 = some (.istore 6, 2, [], []) := zz_fetch_of p179 rfl rfl
theorem s179_491 : zz_Run zz_prog d 179 (491, [l0, l1, l2, l3, l4, l5, l6], .int v :: st, k, h) = zz_sl l5 (zz_Run zz_prog d 179 (493, [l0, l1, l2, l3, l4, l5, some (.int v)], st, k, h)) := zz_k_st (j := 6) (u := .int v) f179_491 rfl (fun q hq => by cases hq) rfl (show 6 < 7 by decide) (by cases l5 <;> rfl) rfl
theorem f179_493 : zz_fetch zz_prog 179 493 = some (.aload_n 2, 1, [], []) := zz_fetch_of p179 rfl rfl
theorem s179_493 : zz_Run zz_prog d 179 (493, [l0, l1, some (.ref a), l3, l4, l5, l6], st, k, h) = zz_Run zz_prog d 179 (494, [l0, l1, some (.ref a), l3, l4, l5, l6], .ref a :: st, k, h) := zz_k_num f179_493 rfl
theorem f179_494 : zz_fetch zz_prog 179 494 = some (.invokevirtual 97, 3, [0, 89, 1, 2], []) := zz_fetch_of p179 rfl rfl
theorem s179_494 : zz_Run zz_prog d 179 (494, [l0, l1, l2, l3, l4, l5, l6], [.ref 23], k, (zz_hp n I J ex)) = zz_ret (zz_Call zz_prog d 89 [.ref 23] (zz_hp n I J ex)) (fun v k' h' => zz_Run zz_prog d 179 (497, [l0, l1, l2, l3, l4, l5, l6], v.toList ++ [], k && k', h')) (fun a k' h' => zz_th d 179 494 a [l0, l1, l2, l3, l4, l5, l6] (k && k') h') := zz_k_call f179_494 rfl rfl rfl
theorem f179_497 : zz_fetch zz_prog 179 497 = some (.iload 5, 2, [], []) := zz_fetch_of p179 rfl rfl
theorem s179_497 : zz_Run zz_prog d 179 (497, [l0, l1, l2, l3, l4, some (.int v), l6], st, k, h) = zz_Run zz_prog d 179 (499, [l0, l1, l2, l3, l4, some (.int v), l6], .int v :: st, k, h) := zz_k_num f179_497 rfl
theorem f179_499 : zz_fetch zz_prog 179 499 = some (.if_icmp .eq 5, 3, [504], []) := zz_fetch_of p179 rfl rfl
theorem s179_499 : zz_Run zz_prog d 179 (499, [l0, l1, l2, l3, l4, l5, l6], .int w :: .int v :: st, k, h) = if v = w then zz_Run zz_prog d 179 (504, [l0, l1, l2, l3, l4, l5, l6], st, k, h) else zz_Run zz_prog d 179 (502, [l0, l1, l2, l3, l4, l5, l6], st, k, h) := zz_k_br (v = w) rfl (zz_k_num f179_499 rfl)
theorem f179_502 : zz_fetch zz_prog 179 502 = some (.iconst 0, 1, [], []) := zz_fetch_of p179 rfl rfl
theorem s179_502 : zz_Run zz_prog d 179 (502, [l0, l1, l2, l3, l4, l5, l6], st, k, h) = zz_Run zz_prog d 179 (503, [l0, l1, l2, l3, l4, l5, l6], .int 0 :: st, k, h) := zz_k_num f179_502 rfl
theorem f179_503 : zz_fetch zz_prog 179 503 = some (.ireturn, 1, [1], []) := zz_fetch_of p179 rfl rfl
theorem s179_503 : zz_Run zz_prog d 179 (503, [l0, l1, l2, l3, l4, l5, l6], [.int v], k, h) = zz_ck (decide (v = 0 ∨ v = 1)) (some (.inl (some (.int v)), k, h)) := zz_k_retz f179_503
theorem f179_504 : zz_fetch zz_prog 179 504 = some (.iload 5, 2, [], []) := zz_fetch_of p179 rfl rfl
theorem s179_504 : zz_Run zz_prog d 179 (504, [l0, l1, l2, l3, l4, some (.int v), l6], st, k, h) = zz_Run zz_prog d 179 (506, [l0, l1, l2, l3, l4, some (.int v), l6], .int v :: st, k, h) := zz_k_num f179_504 rfl
theorem f179_506 : zz_fetch zz_prog 179 506 = some (.ifCond .ne 15, 3, [521], []) := zz_fetch_of p179 rfl rfl
theorem s179_506 : zz_Run zz_prog d 179 (506, [l0, l1, l2, l3, l4, l5, l6], .int v :: st, k, h) = if ¬ v = 0 then zz_Run zz_prog d 179 (521, [l0, l1, l2, l3, l4, l5, l6], st, k, h) else zz_Run zz_prog d 179 (509, [l0, l1, l2, l3, l4, l5, l6], st, k, h) := zz_k_br (¬ v = 0) rfl (zz_k_num f179_506 rfl)
theorem f179_509 : zz_fetch zz_prog 179 509 = some (.aload_n 3, 1, [], []) := zz_fetch_of p179 rfl rfl
theorem s179_509 : zz_Run zz_prog d 179 (509, [l0, l1, l2, some (.ref a), l4, l5, l6], st, k, h) = zz_Run zz_prog d 179 (510, [l0, l1, l2, some (.ref a), l4, l5, l6], .ref a :: st, k, h) := zz_k_num f179_509 rfl
theorem f179_510 : zz_fetch zz_prog 179 510 = some (.iconst 0, 1, [], []) := zz_fetch_of p179 rfl rfl
theorem s179_510 : zz_Run zz_prog d 179 (510, [l0, l1, l2, l3, l4, l5, l6], st, k, h) = zz_Run zz_prog d 179 (511, [l0, l1, l2, l3, l4, l5, l6], .int 0 :: st, k, h) := zz_k_num f179_510 rfl
theorem f179_511 : zz_fetch zz_prog 179 511 = some (.laload, 1, [], []) := zz_fetch_of p179 rfl rfl
theorem s179_511 : zz_Run zz_prog d 179 (511, [l0, l1, l2, l3, l4, l5, l6], .int 0 :: .ref 44 :: st, k, (zz_hp n I J ex)) = zz_Run zz_prog d 179 (512, [l0, l1, l2, l3, l4, l5, l6], .long (J 44 0) :: st, k, (zz_hp n I J ex)) := zz_k_go f179_511 rfl rfl rfl
theorem f179_512 : zz_fetch zz_prog 179 512 = some (.iload 6, 2, [], []) := zz_fetch_of p179 rfl rfl
theorem s179_512 : zz_Run zz_prog d 179 (512, [l0, l1, l2, l3, l4, l5, some (.int v)], st, k, h) = zz_Run zz_prog d 179 (514, [l0, l1, l2, l3, l4, l5, some (.int v)], .int v :: st, k, h) := zz_k_num f179_512 rfl
theorem f179_514 : zz_fetch zz_prog 179 514 = some (.i2l, 1, [], []) := zz_fetch_of p179 rfl rfl
theorem s179_514 : zz_Run zz_prog d 179 (514, [l0, l1, l2, l3, l4, l5, l6], .int v :: st, k, h) = zz_Run zz_prog d 179 (515, [l0, l1, l2, l3, l4, l5, l6], .long v.toInt64 :: st, k, h) := zz_k_num f179_514 rfl
theorem f179_515 : zz_fetch zz_prog 179 515 = some (.lcmp, 1, [], []) := zz_fetch_of p179 rfl rfl
theorem s179_515 : zz_Run zz_prog d 179 (515, [l0, l1, l2, l3, l4, l5, l6], .long y1 :: .long y :: st, k, h) = zz_Run zz_prog d 179 (516, [l0, l1, l2, l3, l4, l5, l6], .int (lg_cmp y y1) :: st, k, h) := zz_k_num f179_515 rfl
theorem f179_516 : zz_fetch zz_prog 179 516 = some (.ifCond .eq 5, 3, [521], []) := zz_fetch_of p179 rfl rfl
theorem s179_516 : zz_Run zz_prog d 179 (516, [l0, l1, l2, l3, l4, l5, l6], .int v :: st, k, h) = if v = 0 then zz_Run zz_prog d 179 (521, [l0, l1, l2, l3, l4, l5, l6], st, k, h) else zz_Run zz_prog d 179 (519, [l0, l1, l2, l3, l4, l5, l6], st, k, h) := zz_k_br (v = 0) rfl (zz_k_num f179_516 rfl)
theorem f179_519 : zz_fetch zz_prog 179 519 = some (.iconst 0, 1, [], []) := zz_fetch_of p179 rfl rfl
theorem s179_519 : zz_Run zz_prog d 179 (519, [l0, l1, l2, l3, l4, l5, l6], st, k, h) = zz_Run zz_prog d 179 (520, [l0, l1, l2, l3, l4, l5, l6], .int 0 :: st, k, h) := zz_k_num f179_519 rfl
theorem f179_520 : zz_fetch zz_prog 179 520 = some (.ireturn, 1, [1], []) := zz_fetch_of p179 rfl rfl
theorem s179_520 : zz_Run zz_prog d 179 (520, [l0, l1, l2, l3, l4, l5, l6], [.int v], k, h) = zz_ck (decide (v = 0 ∨ v = 1)) (some (.inl (some (.int v)), k, h)) := zz_k_retz f179_520
theorem f179_521 : zz_fetch zz_prog 179 521 = some (.goto 1008, 3, [1529], []) := zz_fetch_of p179 rfl rfl
theorem s179_521 : zz_Run zz_prog d 179 (521, [l0, l1, l2, l3, l4, l5, l6], st, k, h) = zz_Run zz_prog d 179 (1529, [l0, l1, l2, l3, l4, l5, l6], st, k, h) := zz_k_num f179_521 rfl
theorem f179_524 : zz_fetch zz_prog 179 524 = some (.aload_n 1, 1, [], []) := zz_fetch_of p179 rfl rfl
theorem s179_524 : zz_Run zz_prog d 179 (524, [l0, some (.ref a), l2, l3, l4, l5, l6], st, k, h) = zz_Run zz_prog d 179 (525, [l0, some (.ref a), l2, l3, l4, l5, l6], .ref a :: st, k, h) := zz_k_num f179_524 rfl
theorem f179_525 : zz_fetch zz_prog 179 525 = some (.aload_n 0, 1, [], []) := zz_fetch_of p179 rfl rfl
theorem s179_525 : zz_Run zz_prog d 179 (525, [some (.ref a), l1, l2, l3, l4, l5, l6], st, k, h) = zz_Run zz_prog d 179 (526, [some (.ref a), l1, l2, l3, l4, l5, l6], .ref a :: st, k, h) := zz_k_num f179_525 rfl
theorem f179_526 : zz_fetch zz_prog 179 526 = some (.iload 4, 2, [], []) := zz_fetch_of p179 rfl rfl
theorem s179_526 : zz_Run zz_prog d 179 (526, [l0, l1, l2, l3, some (.int v), l5, l6], st, k, h) = zz_Run zz_prog d 179 (528, [l0, l1, l2, l3, some (.int v), l5, l6], .int v :: st, k, h) := zz_k_num f179_526 rfl
theorem f179_528 : zz_fetch zz_prog 179 528 = some (.iconst 1, 1, [], []) := zz_fetch_of p179 rfl rfl
theorem s179_528 : zz_Run zz_prog d 179 (528, [l0, l1, l2, l3, l4, l5, l6], st, k, h) = zz_Run zz_prog d 179 (529, [l0, l1, l2, l3, l4, l5, l6], .int 1 :: st, k, h) := zz_k_num f179_528 rfl
theorem f179_529 : zz_fetch zz_prog 179 529 = some (.iadd, 1, [], []) := zz_fetch_of p179 rfl rfl
theorem s179_529 : zz_Run zz_prog d 179 (529, [l0, l1, l2, l3, l4, l5, l6], .int w :: .int v :: st, k, h) = zz_Run zz_prog d 179 (530, [l0, l1, l2, l3, l4, l5, l6], .int (v + w) :: st, k, h) := zz_k_num f179_529 rfl
theorem f179_530 : zz_fetch zz_prog 179 530 = some (.iaload, 1, [], []) := zz_fetch_of p179 rfl rfl
theorem s179_530 (ha : zz_isrd a = true) : zz_Run zz_prog d 179 (530, [l0, l1, l2, l3, l4, l5, l6], .int v :: .ref a :: st, k, (zz_hp n I J ex)) = zz_ck (zz_in v (zz_ary n a)) (zz_Run zz_prog d 179 (531, [l0, l1, l2, l3, l4, l5, l6], .int (I a v.toNatClampNeg) :: st, k, (zz_hp n I J ex))) := zz_k_iald f179_530 ha
theorem f179_531 : zz_fetch zz_prog 179 531 = some (.aload_n 0, 1, [], []) := zz_fetch_of p179 rfl rfl
theorem s179_531 : zz_Run zz_prog d 179 (531, [some (.ref a), l1, l2, l3, l4, l5, l6], st, k, h) = zz_Run zz_prog d 179 (532, [some (.ref a), l1, l2, l3, l4, l5, l6], .ref a :: st, k, h) := zz_k_num f179_531 rfl
theorem f179_532 : zz_fetch zz_prog 179 532 = some (.iload 4, 2, [], []) := zz_fetch_of p179 rfl rfl
theorem s179_532 : zz_Run zz_prog d 179 (532, [l0, l1, l2, l3, some (.int v), l5, l6], st, k, h) = zz_Run zz_prog d 179 (534, [l0, l1, l2, l3, some (.int v), l5, l6], .int v :: st, k, h) := zz_k_num f179_532 rfl
theorem f179_534 : zz_fetch zz_prog 179 534 = some (.iconst 2, 1, [], []) := zz_fetch_of p179 rfl rfl
theorem s179_534 : zz_Run zz_prog d 179 (534, [l0, l1, l2, l3, l4, l5, l6], st, k, h) = zz_Run zz_prog d 179 (535, [l0, l1, l2, l3, l4, l5, l6], .int 2 :: st, k, h) := zz_k_num f179_534 rfl
theorem f179_535 : zz_fetch zz_prog 179 535 = some (.iadd, 1, [], []) := zz_fetch_of p179 rfl rfl
theorem s179_535 : zz_Run zz_prog d 179 (535, [l0, l1, l2, l3, l4, l5, l6], .int w :: .int v :: st, k, h) = zz_Run zz_prog d 179 (536, [l0, l1, l2, l3, l4, l5, l6], .int (v + w) :: st, k, h) := zz_k_num f179_535 rfl
theorem f179_536 : zz_fetch zz_prog 179 536 = some (.iaload, 1, [], []) := zz_fetch_of p179 rfl rfl
theorem s179_536 (ha : zz_isrd a = true) : zz_Run zz_prog d 179 (536, [l0, l1, l2, l3, l4, l5, l6], .int v :: .ref a :: st, k, (zz_hp n I J ex)) = zz_ck (zz_in v (zz_ary n a)) (zz_Run zz_prog d 179 (537, [l0, l1, l2, l3, l4, l5, l6], .int (I a v.toNatClampNeg) :: st, k, (zz_hp n I J ex))) := zz_k_iald f179_536 ha
theorem f179_537 : zz_fetch zz_prog 179 537 = some (.aload_n 3, 1, [], []) := zz_fetch_of p179 rfl rfl
theorem s179_537 : zz_Run zz_prog d 179 (537, [l0, l1, l2, some (.ref a), l4, l5, l6], st, k, h) = zz_Run zz_prog d 179 (538, [l0, l1, l2, some (.ref a), l4, l5, l6], .ref a :: st, k, h) := zz_k_num f179_537 rfl
theorem f179_538 : zz_fetch zz_prog 179 538 = some (.invokestatic 121, 3, [0, 163, 4], []) := zz_fetch_of p179 rfl rfl
theorem s179_538 : zz_Run zz_prog d 179 (538, [l0, l1, l2, l3, l4, l5, l6], [b0, b1, b2, b3], k, h) = zz_ret (zz_Call zz_prog d 163 [b3, b2, b1, b0] h) (fun v k' h' => zz_Run zz_prog d 179 (541, [l0, l1, l2, l3, l4, l5, l6], v.toList ++ [], k && k', h')) (fun a k' h' => zz_th d 179 538 a [l0, l1, l2, l3, l4, l5, l6] (k && k') h') := zz_k_call f179_538 rfl rfl rfl
theorem f179_541 : zz_fetch zz_prog 179 541 = some (.istore 5, 2, [], []) := zz_fetch_of p179 rfl rfl
theorem s179_541 : zz_Run zz_prog d 179 (541, [l0, l1, l2, l3, l4, l5, l6], .int v :: st, k, h) = zz_sl l4 (zz_Run zz_prog d 179 (543, [l0, l1, l2, l3, l4, some (.int v), l6], st, k, h)) := zz_k_st (j := 5) (u := .int v) f179_541 rfl (fun q hq => by cases hq) rfl (show 5 < 7 by decide) (by cases l4 <;> rfl) rfl
theorem f179_543 : zz_fetch zz_prog 179 543 = some (.aload_n 2, 1, [], []) := zz_fetch_of p179 rfl rfl
theorem s179_543 : zz_Run zz_prog d 179 (543, [l0, l1, some (.ref a), l3, l4, l5, l6], st, k, h) = zz_Run zz_prog d 179 (544, [l0, l1, some (.ref a), l3, l4, l5, l6], .ref a :: st, k, h) := zz_k_num f179_543 rfl
theorem f179_544 : zz_fetch zz_prog 179 544 = some (.aload_n 0, 1, [], []) := zz_fetch_of p179 rfl rfl
theorem s179_544 : zz_Run zz_prog d 179 (544, [some (.ref a), l1, l2, l3, l4, l5, l6], st, k, h) = zz_Run zz_prog d 179 (545, [some (.ref a), l1, l2, l3, l4, l5, l6], .ref a :: st, k, h) := zz_k_num f179_544 rfl
theorem f179_545 : zz_fetch zz_prog 179 545 = some (.iload 4, 2, [], []) := zz_fetch_of p179 rfl rfl
theorem s179_545 : zz_Run zz_prog d 179 (545, [l0, l1, l2, l3, some (.int v), l5, l6], st, k, h) = zz_Run zz_prog d 179 (547, [l0, l1, l2, l3, some (.int v), l5, l6], .int v :: st, k, h) := zz_k_num f179_545 rfl
theorem f179_547 : zz_fetch zz_prog 179 547 = some (.iconst 1, 1, [], []) := zz_fetch_of p179 rfl rfl
theorem s179_547 : zz_Run zz_prog d 179 (547, [l0, l1, l2, l3, l4, l5, l6], st, k, h) = zz_Run zz_prog d 179 (548, [l0, l1, l2, l3, l4, l5, l6], .int 1 :: st, k, h) := zz_k_num f179_547 rfl
theorem f179_548 : zz_fetch zz_prog 179 548 = some (.iadd, 1, [], []) := zz_fetch_of p179 rfl rfl
theorem s179_548 : zz_Run zz_prog d 179 (548, [l0, l1, l2, l3, l4, l5, l6], .int w :: .int v :: st, k, h) = zz_Run zz_prog d 179 (549, [l0, l1, l2, l3, l4, l5, l6], .int (v + w) :: st, k, h) := zz_k_num f179_548 rfl
theorem f179_549 : zz_fetch zz_prog 179 549 = some (.iaload, 1, [], []) := zz_fetch_of p179 rfl rfl
theorem s179_549 (ha : zz_isrd a = true) : zz_Run zz_prog d 179 (549, [l0, l1, l2, l3, l4, l5, l6], .int v :: .ref a :: st, k, (zz_hp n I J ex)) = zz_ck (zz_in v (zz_ary n a)) (zz_Run zz_prog d 179 (550, [l0, l1, l2, l3, l4, l5, l6], .int (I a v.toNatClampNeg) :: st, k, (zz_hp n I J ex))) := zz_k_iald f179_549 ha
theorem f179_550 : zz_fetch zz_prog 179 550 = some (.aload_n 0, 1, [], []) := zz_fetch_of p179 rfl rfl
theorem s179_550 : zz_Run zz_prog d 179 (550, [some (.ref a), l1, l2, l3, l4, l5, l6], st, k, h) = zz_Run zz_prog d 179 (551, [some (.ref a), l1, l2, l3, l4, l5, l6], .ref a :: st, k, h) := zz_k_num f179_550 rfl
theorem f179_551 : zz_fetch zz_prog 179 551 = some (.iload 4, 2, [], []) := zz_fetch_of p179 rfl rfl
theorem s179_551 : zz_Run zz_prog d 179 (551, [l0, l1, l2, l3, some (.int v), l5, l6], st, k, h) = zz_Run zz_prog d 179 (553, [l0, l1, l2, l3, some (.int v), l5, l6], .int v :: st, k, h) := zz_k_num f179_551 rfl
theorem f179_553 : zz_fetch zz_prog 179 553 = some (.iconst 2, 1, [], []) := zz_fetch_of p179 rfl rfl
theorem s179_553 : zz_Run zz_prog d 179 (553, [l0, l1, l2, l3, l4, l5, l6], st, k, h) = zz_Run zz_prog d 179 (554, [l0, l1, l2, l3, l4, l5, l6], .int 2 :: st, k, h) := zz_k_num f179_553 rfl
theorem f179_554 : zz_fetch zz_prog 179 554 = some (.iadd, 1, [], []) := zz_fetch_of p179 rfl rfl
theorem s179_554 : zz_Run zz_prog d 179 (554, [l0, l1, l2, l3, l4, l5, l6], .int w :: .int v :: st, k, h) = zz_Run zz_prog d 179 (555, [l0, l1, l2, l3, l4, l5, l6], .int (v + w) :: st, k, h) := zz_k_num f179_554 rfl
theorem f179_555 : zz_fetch zz_prog 179 555 = some (.iaload, 1, [], []) := zz_fetch_of p179 rfl rfl
theorem s179_555 (ha : zz_isrd a = true) : zz_Run zz_prog d 179 (555, [l0, l1, l2, l3, l4, l5, l6], .int v :: .ref a :: st, k, (zz_hp n I J ex)) = zz_ck (zz_in v (zz_ary n a)) (zz_Run zz_prog d 179 (556, [l0, l1, l2, l3, l4, l5, l6], .int (I a v.toNatClampNeg) :: st, k, (zz_hp n I J ex))) := zz_k_iald f179_555 ha
theorem f179_556 : zz_fetch zz_prog 179 556 = some (.invokevirtual 123, 3, [0, 129, 3, 2], []) := zz_fetch_of p179 rfl rfl
theorem s179_556 : zz_Run zz_prog d 179 (556, [l0, l1, l2, l3, l4, l5, l6], [b0, b1, .ref 23], k, (zz_hp n I J ex)) = zz_ret (zz_Call zz_prog d 129 [.ref 23, b1, b0] (zz_hp n I J ex)) (fun v k' h' => zz_Run zz_prog d 179 (559, [l0, l1, l2, l3, l4, l5, l6], v.toList ++ [], k && k', h')) (fun a k' h' => zz_th d 179 556 a [l0, l1, l2, l3, l4, l5, l6] (k && k') h') := zz_k_call f179_556 rfl rfl rfl
theorem f179_559 : zz_fetch zz_prog 179 559 = some (.istore 6, 2, [], []) := zz_fetch_of p179 rfl rfl
theorem s179_559 : zz_Run zz_prog d 179 (559, [l0, l1, l2, l3, l4, l5, l6], .int v :: st, k, h) = zz_sl l5 (zz_Run zz_prog d 179 (561, [l0, l1, l2, l3, l4, l5, some (.int v)], st, k, h)) := zz_k_st (j := 6) (u := .int v) f179_559 rfl (fun q hq => by cases hq) rfl (show 6 < 7 by decide) (by cases l5 <;> rfl) rfl
theorem f179_561 : zz_fetch zz_prog 179 561 = some (.aload_n 2, 1, [], []) := zz_fetch_of p179 rfl rfl
theorem s179_561 : zz_Run zz_prog d 179 (561, [l0, l1, some (.ref a), l3, l4, l5, l6], st, k, h) = zz_Run zz_prog d 179 (562, [l0, l1, some (.ref a), l3, l4, l5, l6], .ref a :: st, k, h) := zz_k_num f179_561 rfl
theorem f179_562 : zz_fetch zz_prog 179 562 = some (.invokevirtual 97, 3, [0, 89, 1, 2], []) := zz_fetch_of p179 rfl rfl
theorem s179_562 : zz_Run zz_prog d 179 (562, [l0, l1, l2, l3, l4, l5, l6], [.ref 23], k, (zz_hp n I J ex)) = zz_ret (zz_Call zz_prog d 89 [.ref 23] (zz_hp n I J ex)) (fun v k' h' => zz_Run zz_prog d 179 (565, [l0, l1, l2, l3, l4, l5, l6], v.toList ++ [], k && k', h')) (fun a k' h' => zz_th d 179 562 a [l0, l1, l2, l3, l4, l5, l6] (k && k') h') := zz_k_call f179_562 rfl rfl rfl
theorem f179_565 : zz_fetch zz_prog 179 565 = some (.iload 5, 2, [], []) := zz_fetch_of p179 rfl rfl
theorem s179_565 : zz_Run zz_prog d 179 (565, [l0, l1, l2, l3, l4, some (.int v), l6], st, k, h) = zz_Run zz_prog d 179 (567, [l0, l1, l2, l3, l4, some (.int v), l6], .int v :: st, k, h) := zz_k_num f179_565 rfl
theorem f179_567 : zz_fetch zz_prog 179 567 = some (.if_icmp .eq 5, 3, [572], []) := zz_fetch_of p179 rfl rfl
theorem s179_567 : zz_Run zz_prog d 179 (567, [l0, l1, l2, l3, l4, l5, l6], .int w :: .int v :: st, k, h) = if v = w then zz_Run zz_prog d 179 (572, [l0, l1, l2, l3, l4, l5, l6], st, k, h) else zz_Run zz_prog d 179 (570, [l0, l1, l2, l3, l4, l5, l6], st, k, h) := zz_k_br (v = w) rfl (zz_k_num f179_567 rfl)
theorem f179_570 : zz_fetch zz_prog 179 570 = some (.iconst 0, 1, [], []) := zz_fetch_of p179 rfl rfl
theorem s179_570 : zz_Run zz_prog d 179 (570, [l0, l1, l2, l3, l4, l5, l6], st, k, h) = zz_Run zz_prog d 179 (571, [l0, l1, l2, l3, l4, l5, l6], .int 0 :: st, k, h) := zz_k_num f179_570 rfl
theorem f179_571 : zz_fetch zz_prog 179 571 = some (.ireturn, 1, [1], []) := zz_fetch_of p179 rfl rfl
theorem s179_571 : zz_Run zz_prog d 179 (571, [l0, l1, l2, l3, l4, l5, l6], [.int v], k, h) = zz_ck (decide (v = 0 ∨ v = 1)) (some (.inl (some (.int v)), k, h)) := zz_k_retz f179_571
theorem f179_572 : zz_fetch zz_prog 179 572 = some (.iload 5, 2, [], []) := zz_fetch_of p179 rfl rfl
theorem s179_572 : zz_Run zz_prog d 179 (572, [l0, l1, l2, l3, l4, some (.int v), l6], st, k, h) = zz_Run zz_prog d 179 (574, [l0, l1, l2, l3, l4, some (.int v), l6], .int v :: st, k, h) := zz_k_num f179_572 rfl
theorem f179_574 : zz_fetch zz_prog 179 574 = some (.ifCond .ne 15, 3, [589], []) := zz_fetch_of p179 rfl rfl
theorem s179_574 : zz_Run zz_prog d 179 (574, [l0, l1, l2, l3, l4, l5, l6], .int v :: st, k, h) = if ¬ v = 0 then zz_Run zz_prog d 179 (589, [l0, l1, l2, l3, l4, l5, l6], st, k, h) else zz_Run zz_prog d 179 (577, [l0, l1, l2, l3, l4, l5, l6], st, k, h) := zz_k_br (¬ v = 0) rfl (zz_k_num f179_574 rfl)
theorem f179_577 : zz_fetch zz_prog 179 577 = some (.aload_n 3, 1, [], []) := zz_fetch_of p179 rfl rfl
theorem s179_577 : zz_Run zz_prog d 179 (577, [l0, l1, l2, some (.ref a), l4, l5, l6], st, k, h) = zz_Run zz_prog d 179 (578, [l0, l1, l2, some (.ref a), l4, l5, l6], .ref a :: st, k, h) := zz_k_num f179_577 rfl
theorem f179_578 : zz_fetch zz_prog 179 578 = some (.iconst 0, 1, [], []) := zz_fetch_of p179 rfl rfl
theorem s179_578 : zz_Run zz_prog d 179 (578, [l0, l1, l2, l3, l4, l5, l6], st, k, h) = zz_Run zz_prog d 179 (579, [l0, l1, l2, l3, l4, l5, l6], .int 0 :: st, k, h) := zz_k_num f179_578 rfl
theorem f179_579 : zz_fetch zz_prog 179 579 = some (.laload, 1, [], []) := zz_fetch_of p179 rfl rfl
theorem s179_579 : zz_Run zz_prog d 179 (579, [l0, l1, l2, l3, l4, l5, l6], .int 0 :: .ref 44 :: st, k, (zz_hp n I J ex)) = zz_Run zz_prog d 179 (580, [l0, l1, l2, l3, l4, l5, l6], .long (J 44 0) :: st, k, (zz_hp n I J ex)) := zz_k_go f179_579 rfl rfl rfl
theorem f179_580 : zz_fetch zz_prog 179 580 = some (.iload 6, 2, [], []) := zz_fetch_of p179 rfl rfl
theorem s179_580 : zz_Run zz_prog d 179 (580, [l0, l1, l2, l3, l4, l5, some (.int v)], st, k, h) = zz_Run zz_prog d 179 (582, [l0, l1, l2, l3, l4, l5, some (.int v)], .int v :: st, k, h) := zz_k_num f179_580 rfl
theorem f179_582 : zz_fetch zz_prog 179 582 = some (.i2l, 1, [], []) := zz_fetch_of p179 rfl rfl
theorem s179_582 : zz_Run zz_prog d 179 (582, [l0, l1, l2, l3, l4, l5, l6], .int v :: st, k, h) = zz_Run zz_prog d 179 (583, [l0, l1, l2, l3, l4, l5, l6], .long v.toInt64 :: st, k, h) := zz_k_num f179_582 rfl
theorem f179_583 : zz_fetch zz_prog 179 583 = some (.lcmp, 1, [], []) := zz_fetch_of p179 rfl rfl
theorem s179_583 : zz_Run zz_prog d 179 (583, [l0, l1, l2, l3, l4, l5, l6], .long y1 :: .long y :: st, k, h) = zz_Run zz_prog d 179 (584, [l0, l1, l2, l3, l4, l5, l6], .int (lg_cmp y y1) :: st, k, h) := zz_k_num f179_583 rfl
theorem f179_584 : zz_fetch zz_prog 179 584 = some (.ifCond .eq 5, 3, [589], []) := zz_fetch_of p179 rfl rfl
theorem s179_584 : zz_Run zz_prog d 179 (584, [l0, l1, l2, l3, l4, l5, l6], .int v :: st, k, h) = if v = 0 then zz_Run zz_prog d 179 (589, [l0, l1, l2, l3, l4, l5, l6], st, k, h) else zz_Run zz_prog d 179 (587, [l0, l1, l2, l3, l4, l5, l6], st, k, h) := zz_k_br (v = 0) rfl (zz_k_num f179_584 rfl)
theorem f179_587 : zz_fetch zz_prog 179 587 = some (.iconst 0, 1, [], []) := zz_fetch_of p179 rfl rfl
theorem s179_587 : zz_Run zz_prog d 179 (587, [l0, l1, l2, l3, l4, l5, l6], st, k, h) = zz_Run zz_prog d 179 (588, [l0, l1, l2, l3, l4, l5, l6], .int 0 :: st, k, h) := zz_k_num f179_587 rfl
theorem f179_588 : zz_fetch zz_prog 179 588 = some (.ireturn, 1, [1], []) := zz_fetch_of p179 rfl rfl
theorem s179_588 : zz_Run zz_prog d 179 (588, [l0, l1, l2, l3, l4, l5, l6], [.int v], k, h) = zz_ck (decide (v = 0 ∨ v = 1)) (some (.inl (some (.int v)), k, h)) := zz_k_retz f179_588
theorem f179_589 : zz_fetch zz_prog 179 589 = some (.goto 940, 3, [1529], []) := zz_fetch_of p179 rfl rfl
theorem s179_589 : zz_Run zz_prog d 179 (589, [l0, l1, l2, l3, l4, l5, l6], st, k, h) = zz_Run zz_prog d 179 (1529, [l0, l1, l2, l3, l4, l5, l6], st, k, h) := zz_k_num f179_589 rfl
theorem f179_592 : zz_fetch zz_prog 179 592 = some (.aload_n 1, 1, [], []) := zz_fetch_of p179 rfl rfl
theorem s179_592 : zz_Run zz_prog d 179 (592, [l0, some (.ref a), l2, l3, l4, l5, l6], st, k, h) = zz_Run zz_prog d 179 (593, [l0, some (.ref a), l2, l3, l4, l5, l6], .ref a :: st, k, h) := zz_k_num f179_592 rfl
theorem f179_593 : zz_fetch zz_prog 179 593 = some (.aload_n 0, 1, [], []) := zz_fetch_of p179 rfl rfl
theorem s179_593 : zz_Run zz_prog d 179 (593, [some (.ref a), l1, l2, l3, l4, l5, l6], st, k, h) = zz_Run zz_prog d 179 (594, [some (.ref a), l1, l2, l3, l4, l5, l6], .ref a :: st, k, h) := zz_k_num f179_593 rfl
theorem f179_594 : zz_fetch zz_prog 179 594 = some (.iload 4, 2, [], []) := zz_fetch_of p179 rfl rfl
theorem s179_594 : zz_Run zz_prog d 179 (594, [l0, l1, l2, l3, some (.int v), l5, l6], st, k, h) = zz_Run zz_prog d 179 (596, [l0, l1, l2, l3, some (.int v), l5, l6], .int v :: st, k, h) := zz_k_num f179_594 rfl
theorem f179_596 : zz_fetch zz_prog 179 596 = some (.iconst 1, 1, [], []) := zz_fetch_of p179 rfl rfl
theorem s179_596 : zz_Run zz_prog d 179 (596, [l0, l1, l2, l3, l4, l5, l6], st, k, h) = zz_Run zz_prog d 179 (597, [l0, l1, l2, l3, l4, l5, l6], .int 1 :: st, k, h) := zz_k_num f179_596 rfl
theorem f179_597 : zz_fetch zz_prog 179 597 = some (.iadd, 1, [], []) := zz_fetch_of p179 rfl rfl
theorem s179_597 : zz_Run zz_prog d 179 (597, [l0, l1, l2, l3, l4, l5, l6], .int w :: .int v :: st, k, h) = zz_Run zz_prog d 179 (598, [l0, l1, l2, l3, l4, l5, l6], .int (v + w) :: st, k, h) := zz_k_num f179_597 rfl
theorem f179_598 : zz_fetch zz_prog 179 598 = some (.iaload, 1, [], []) := zz_fetch_of p179 rfl rfl
theorem s179_598 (ha : zz_isrd a = true) : zz_Run zz_prog d 179 (598, [l0, l1, l2, l3, l4, l5, l6], .int v :: .ref a :: st, k, (zz_hp n I J ex)) = zz_ck (zz_in v (zz_ary n a)) (zz_Run zz_prog d 179 (599, [l0, l1, l2, l3, l4, l5, l6], .int (I a v.toNatClampNeg) :: st, k, (zz_hp n I J ex))) := zz_k_iald f179_598 ha
theorem f179_599 : zz_fetch zz_prog 179 599 = some (.aload_n 0, 1, [], []) := zz_fetch_of p179 rfl rfl
theorem s179_599 : zz_Run zz_prog d 179 (599, [some (.ref a), l1, l2, l3, l4, l5, l6], st, k, h) = zz_Run zz_prog d 179 (600, [some (.ref a), l1, l2, l3, l4, l5, l6], .ref a :: st, k, h) := zz_k_num f179_599 rfl
theorem f179_600 : zz_fetch zz_prog 179 600 = some (.iload 4, 2, [], []) := zz_fetch_of p179 rfl rfl
theorem s179_600 : zz_Run zz_prog d 179 (600, [l0, l1, l2, l3, some (.int v), l5, l6], st, k, h) = zz_Run zz_prog d 179 (602, [l0, l1, l2, l3, some (.int v), l5, l6], .int v :: st, k, h) := zz_k_num f179_600 rfl
theorem f179_602 : zz_fetch zz_prog 179 602 = some (.iconst 2, 1, [], []) := zz_fetch_of p179 rfl rfl
theorem s179_602 : zz_Run zz_prog d 179 (602, [l0, l1, l2, l3, l4, l5, l6], st, k, h) = zz_Run zz_prog d 179 (603, [l0, l1, l2, l3, l4, l5, l6], .int 2 :: st, k, h) := zz_k_num f179_602 rfl
theorem f179_603 : zz_fetch zz_prog 179 603 = some (.iadd, 1, [], []) := zz_fetch_of p179 rfl rfl
theorem s179_603 : zz_Run zz_prog d 179 (603, [l0, l1, l2, l3, l4, l5, l6], .int w :: .int v :: st, k, h) = zz_Run zz_prog d 179 (604, [l0, l1, l2, l3, l4, l5, l6], .int (v + w) :: st, k, h) := zz_k_num f179_603 rfl
theorem f179_604 : zz_fetch zz_prog 179 604 = some (.iaload, 1, [], []) := zz_fetch_of p179 rfl rfl
theorem s179_604 (ha : zz_isrd a = true) : zz_Run zz_prog d 179 (604, [l0, l1, l2, l3, l4, l5, l6], .int v :: .ref a :: st, k, (zz_hp n I J ex)) = zz_ck (zz_in v (zz_ary n a)) (zz_Run zz_prog d 179 (605, [l0, l1, l2, l3, l4, l5, l6], .int (I a v.toNatClampNeg) :: st, k, (zz_hp n I J ex))) := zz_k_iald f179_604 ha
theorem f179_605 : zz_fetch zz_prog 179 605 = some (.aload_n 0, 1, [], []) := zz_fetch_of p179 rfl rfl
theorem s179_605 : zz_Run zz_prog d 179 (605, [some (.ref a), l1, l2, l3, l4, l5, l6], st, k, h) = zz_Run zz_prog d 179 (606, [some (.ref a), l1, l2, l3, l4, l5, l6], .ref a :: st, k, h) := zz_k_num f179_605 rfl
theorem f179_606 : zz_fetch zz_prog 179 606 = some (.iload 4, 2, [], []) := zz_fetch_of p179 rfl rfl
theorem s179_606 : zz_Run zz_prog d 179 (606, [l0, l1, l2, l3, some (.int v), l5, l6], st, k, h) = zz_Run zz_prog d 179 (608, [l0, l1, l2, l3, some (.int v), l5, l6], .int v :: st, k, h) := zz_k_num f179_606 rfl
theorem f179_608 : zz_fetch zz_prog 179 608 = some (.iconst 3, 1, [], []) := zz_fetch_of p179 rfl rfl
theorem s179_608 : zz_Run zz_prog d 179 (608, [l0, l1, l2, l3, l4, l5, l6], st, k, h) = zz_Run zz_prog d 179 (609, [l0, l1, l2, l3, l4, l5, l6], .int 3 :: st, k, h) := zz_k_num f179_608 rfl
theorem f179_609 : zz_fetch zz_prog 179 609 = some (.iadd, 1, [], []) := zz_fetch_of p179 rfl rfl
theorem s179_609 : zz_Run zz_prog d 179 (609, [l0, l1, l2, l3, l4, l5, l6], .int w :: .int v :: st, k, h) = zz_Run zz_prog d 179 (610, [l0, l1, l2, l3, l4, l5, l6], .int (v + w) :: st, k, h) := zz_k_num f179_609 rfl
theorem f179_610 : zz_fetch zz_prog 179 610 = some (.iaload, 1, [], []) := zz_fetch_of p179 rfl rfl
theorem s179_610 (ha : zz_isrd a = true) : zz_Run zz_prog d 179 (610, [l0, l1, l2, l3, l4, l5, l6], .int v :: .ref a :: st, k, (zz_hp n I J ex)) = zz_ck (zz_in v (zz_ary n a)) (zz_Run zz_prog d 179 (611, [l0, l1, l2, l3, l4, l5, l6], .int (I a v.toNatClampNeg) :: st, k, (zz_hp n I J ex))) := zz_k_iald f179_610 ha
theorem f179_611 : zz_fetch zz_prog 179 611 = some (.aload_n 3, 1, [], []) := zz_fetch_of p179 rfl rfl
theorem s179_611 : zz_Run zz_prog d 179 (611, [l0, l1, l2, some (.ref a), l4, l5, l6], st, k, h) = zz_Run zz_prog d 179 (612, [l0, l1, l2, some (.ref a), l4, l5, l6], .ref a :: st, k, h) := zz_k_num f179_611 rfl
theorem f179_612 : zz_fetch zz_prog 179 612 = some (.invokestatic 124, 3, [0, 164, 5], []) := zz_fetch_of p179 rfl rfl
theorem s179_612 : zz_Run zz_prog d 179 (612, [l0, l1, l2, l3, l4, l5, l6], [b0, b1, b2, b3, b4], k, h) = zz_ret (zz_Call zz_prog d 164 [b4, b3, b2, b1, b0] h) (fun v k' h' => zz_Run zz_prog d 179 (615, [l0, l1, l2, l3, l4, l5, l6], v.toList ++ [], k && k', h')) (fun a k' h' => zz_th d 179 612 a [l0, l1, l2, l3, l4, l5, l6] (k && k') h') := zz_k_call f179_612 rfl rfl rfl
theorem f179_615 : zz_fetch zz_prog 179 615 = some (.istore 5, 2, [], []) := zz_fetch_of p179 rfl rfl
theorem s179_615 : zz_Run zz_prog d 179 (615, [l0, l1, l2, l3, l4, l5, l6], .int v :: st, k, h) = zz_sl l4 (zz_Run zz_prog d 179 (617, [l0, l1, l2, l3, l4, some (.int v), l6], st, k, h)) := zz_k_st (j := 5) (u := .int v) f179_615 rfl (fun q hq => by cases hq) rfl (show 5 < 7 by decide) (by cases l4 <;> rfl) rfl
theorem f179_617 : zz_fetch zz_prog 179 617 = some (.aload_n 2, 1, [], []) := zz_fetch_of p179 rfl rfl
theorem s179_617 : zz_Run zz_prog d 179 (617, [l0, l1, some (.ref a), l3, l4, l5, l6], st, k, h) = zz_Run zz_prog d 179 (618, [l0, l1, some (.ref a), l3, l4, l5, l6], .ref a :: st, k, h) := zz_k_num f179_617 rfl
theorem f179_618 : zz_fetch zz_prog 179 618 = some (.aload_n 0, 1, [], []) := zz_fetch_of p179 rfl rfl
theorem s179_618 : zz_Run zz_prog d 179 (618, [some (.ref a), l1, l2, l3, l4, l5, l6], st, k, h) = zz_Run zz_prog d 179 (619, [some (.ref a), l1, l2, l3, l4, l5, l6], .ref a :: st, k, h) := zz_k_num f179_618 rfl
theorem f179_619 : zz_fetch zz_prog 179 619 = some (.iload 4, 2, [], []) := zz_fetch_of p179 rfl rfl
theorem s179_619 : zz_Run zz_prog d 179 (619, [l0, l1, l2, l3, some (.int v), l5, l6], st, k, h) = zz_Run zz_prog d 179 (621, [l0, l1, l2, l3, some (.int v), l5, l6], .int v :: st, k, h) := zz_k_num f179_619 rfl
theorem f179_621 : zz_fetch zz_prog 179 621 = some (.iconst 1, 1, [], []) := zz_fetch_of p179 rfl rfl
theorem s179_621 : zz_Run zz_prog d 179 (621, [l0, l1, l2, l3, l4, l5, l6], st, k, h) = zz_Run zz_prog d 179 (622, [l0, l1, l2, l3, l4, l5, l6], .int 1 :: st, k, h) := zz_k_num f179_621 rfl
theorem f179_622 : zz_fetch zz_prog 179 622 = some (.iadd, 1, [], []) := zz_fetch_of p179 rfl rfl
theorem s179_622 : zz_Run zz_prog d 179 (622, [l0, l1, l2, l3, l4, l5, l6], .int w :: .int v :: st, k, h) = zz_Run zz_prog d 179 (623, [l0, l1, l2, l3, l4, l5, l6], .int (v + w) :: st, k, h) := zz_k_num f179_622 rfl
theorem f179_623 : zz_fetch zz_prog 179 623 = some (.iaload, 1, [], []) := zz_fetch_of p179 rfl rfl
theorem s179_623 (ha : zz_isrd a = true) : zz_Run zz_prog d 179 (623, [l0, l1, l2, l3, l4, l5, l6], .int v :: .ref a :: st, k, (zz_hp n I J ex)) = zz_ck (zz_in v (zz_ary n a)) (zz_Run zz_prog d 179 (624, [l0, l1, l2, l3, l4, l5, l6], .int (I a v.toNatClampNeg) :: st, k, (zz_hp n I J ex))) := zz_k_iald f179_623 ha
theorem f179_624 : zz_fetch zz_prog 179 624 = some (.aload_n 0, 1, [], []) := zz_fetch_of p179 rfl rfl
theorem s179_624 : zz_Run zz_prog d 179 (624, [some (.ref a), l1, l2, l3, l4, l5, l6], st, k, h) = zz_Run zz_prog d 179 (625, [some (.ref a), l1, l2, l3, l4, l5, l6], .ref a :: st, k, h) := zz_k_num f179_624 rfl
theorem f179_625 : zz_fetch zz_prog 179 625 = some (.iload 4, 2, [], []) := zz_fetch_of p179 rfl rfl
theorem s179_625 : zz_Run zz_prog d 179 (625, [l0, l1, l2, l3, some (.int v), l5, l6], st, k, h) = zz_Run zz_prog d 179 (627, [l0, l1, l2, l3, some (.int v), l5, l6], .int v :: st, k, h) := zz_k_num f179_625 rfl
theorem f179_627 : zz_fetch zz_prog 179 627 = some (.iconst 2, 1, [], []) := zz_fetch_of p179 rfl rfl
theorem s179_627 : zz_Run zz_prog d 179 (627, [l0, l1, l2, l3, l4, l5, l6], st, k, h) = zz_Run zz_prog d 179 (628, [l0, l1, l2, l3, l4, l5, l6], .int 2 :: st, k, h) := zz_k_num f179_627 rfl
theorem f179_628 : zz_fetch zz_prog 179 628 = some (.iadd, 1, [], []) := zz_fetch_of p179 rfl rfl
theorem s179_628 : zz_Run zz_prog d 179 (628, [l0, l1, l2, l3, l4, l5, l6], .int w :: .int v :: st, k, h) = zz_Run zz_prog d 179 (629, [l0, l1, l2, l3, l4, l5, l6], .int (v + w) :: st, k, h) := zz_k_num f179_628 rfl
theorem f179_629 : zz_fetch zz_prog 179 629 = some (.iaload, 1, [], []) := zz_fetch_of p179 rfl rfl
theorem s179_629 (ha : zz_isrd a = true) : zz_Run zz_prog d 179 (629, [l0, l1, l2, l3, l4, l5, l6], .int v :: .ref a :: st, k, (zz_hp n I J ex)) = zz_ck (zz_in v (zz_ary n a)) (zz_Run zz_prog d 179 (630, [l0, l1, l2, l3, l4, l5, l6], .int (I a v.toNatClampNeg) :: st, k, (zz_hp n I J ex))) := zz_k_iald f179_629 ha
theorem f179_630 : zz_fetch zz_prog 179 630 = some (.aload_n 0, 1, [], []) := zz_fetch_of p179 rfl rfl
theorem s179_630 : zz_Run zz_prog d 179 (630, [some (.ref a), l1, l2, l3, l4, l5, l6], st, k, h) = zz_Run zz_prog d 179 (631, [some (.ref a), l1, l2, l3, l4, l5, l6], .ref a :: st, k, h) := zz_k_num f179_630 rfl
theorem f179_631 : zz_fetch zz_prog 179 631 = some (.iload 4, 2, [], []) := zz_fetch_of p179 rfl rfl
theorem s179_631 : zz_Run zz_prog d 179 (631, [l0, l1, l2, l3, some (.int v), l5, l6], st, k, h) = zz_Run zz_prog d 179 (633, [l0, l1, l2, l3, some (.int v), l5, l6], .int v :: st, k, h) := zz_k_num f179_631 rfl
theorem f179_633 : zz_fetch zz_prog 179 633 = some (.iconst 3, 1, [], []) := zz_fetch_of p179 rfl rfl
theorem s179_633 : zz_Run zz_prog d 179 (633, [l0, l1, l2, l3, l4, l5, l6], st, k, h) = zz_Run zz_prog d 179 (634, [l0, l1, l2, l3, l4, l5, l6], .int 3 :: st, k, h) := zz_k_num f179_633 rfl
theorem f179_634 : zz_fetch zz_prog 179 634 = some (.iadd, 1, [], []) := zz_fetch_of p179 rfl rfl
theorem s179_634 : zz_Run zz_prog d 179 (634, [l0, l1, l2, l3, l4, l5, l6], .int w :: .int v :: st, k, h) = zz_Run zz_prog d 179 (635, [l0, l1, l2, l3, l4, l5, l6], .int (v + w) :: st, k, h) := zz_k_num f179_634 rfl
theorem f179_635 : zz_fetch zz_prog 179 635 = some (.iaload, 1, [], []) := zz_fetch_of p179 rfl rfl
theorem s179_635 (ha : zz_isrd a = true) : zz_Run zz_prog d 179 (635, [l0, l1, l2, l3, l4, l5, l6], .int v :: .ref a :: st, k, (zz_hp n I J ex)) = zz_ck (zz_in v (zz_ary n a)) (zz_Run zz_prog d 179 (636, [l0, l1, l2, l3, l4, l5, l6], .int (I a v.toNatClampNeg) :: st, k, (zz_hp n I J ex))) := zz_k_iald f179_635 ha
theorem f179_636 : zz_fetch zz_prog 179 636 = some (.invokevirtual 127, 3, [0, 132, 4, 2], []) := zz_fetch_of p179 rfl rfl
theorem s179_636 : zz_Run zz_prog d 179 (636, [l0, l1, l2, l3, l4, l5, l6], [b0, b1, b2, .ref 23], k, (zz_hp n I J ex)) = zz_ret (zz_Call zz_prog d 132 [.ref 23, b2, b1, b0] (zz_hp n I J ex)) (fun v k' h' => zz_Run zz_prog d 179 (639, [l0, l1, l2, l3, l4, l5, l6], v.toList ++ [], k && k', h')) (fun a k' h' => zz_th d 179 636 a [l0, l1, l2, l3, l4, l5, l6] (k && k') h') := zz_k_call f179_636 rfl rfl rfl
theorem f179_639 : zz_fetch zz_prog 179 639 = some (.istore 6, 2, [], []) := zz_fetch_of p179 rfl rfl
theorem s179_639 : zz_Run zz_prog d 179 (639, [l0, l1, l2, l3, l4, l5, l6], .int v :: st, k, h) = zz_sl l5 (zz_Run zz_prog d 179 (641, [l0, l1, l2, l3, l4, l5, some (.int v)], st, k, h)) := zz_k_st (j := 6) (u := .int v) f179_639 rfl (fun q hq => by cases hq) rfl (show 6 < 7 by decide) (by cases l5 <;> rfl) rfl
theorem f179_641 : zz_fetch zz_prog 179 641 = some (.aload_n 2, 1, [], []) := zz_fetch_of p179 rfl rfl
theorem s179_641 : zz_Run zz_prog d 179 (641, [l0, l1, some (.ref a), l3, l4, l5, l6], st, k, h) = zz_Run zz_prog d 179 (642, [l0, l1, some (.ref a), l3, l4, l5, l6], .ref a :: st, k, h) := zz_k_num f179_641 rfl
theorem f179_642 : zz_fetch zz_prog 179 642 = some (.invokevirtual 97, 3, [0, 89, 1, 2], []) := zz_fetch_of p179 rfl rfl
theorem s179_642 : zz_Run zz_prog d 179 (642, [l0, l1, l2, l3, l4, l5, l6], [.ref 23], k, (zz_hp n I J ex)) = zz_ret (zz_Call zz_prog d 89 [.ref 23] (zz_hp n I J ex)) (fun v k' h' => zz_Run zz_prog d 179 (645, [l0, l1, l2, l3, l4, l5, l6], v.toList ++ [], k && k', h')) (fun a k' h' => zz_th d 179 642 a [l0, l1, l2, l3, l4, l5, l6] (k && k') h') := zz_k_call f179_642 rfl rfl rfl
theorem f179_645 : zz_fetch zz_prog 179 645 = some (.iload 5, 2, [], []) := zz_fetch_of p179 rfl rfl
theorem s179_645 : zz_Run zz_prog d 179 (645, [l0, l1, l2, l3, l4, some (.int v), l6], st, k, h) = zz_Run zz_prog d 179 (647, [l0, l1, l2, l3, l4, some (.int v), l6], .int v :: st, k, h) := zz_k_num f179_645 rfl
theorem f179_647 : zz_fetch zz_prog 179 647 = some (.if_icmp .eq 5, 3, [652], []) := zz_fetch_of p179 rfl rfl
theorem s179_647 : zz_Run zz_prog d 179 (647, [l0, l1, l2, l3, l4, l5, l6], .int w :: .int v :: st, k, h) = if v = w then zz_Run zz_prog d 179 (652, [l0, l1, l2, l3, l4, l5, l6], st, k, h) else zz_Run zz_prog d 179 (650, [l0, l1, l2, l3, l4, l5, l6], st, k, h) := zz_k_br (v = w) rfl (zz_k_num f179_647 rfl)
theorem f179_650 : zz_fetch zz_prog 179 650 = some (.iconst 0, 1, [], []) := zz_fetch_of p179 rfl rfl
theorem s179_650 : zz_Run zz_prog d 179 (650, [l0, l1, l2, l3, l4, l5, l6], st, k, h) = zz_Run zz_prog d 179 (651, [l0, l1, l2, l3, l4, l5, l6], .int 0 :: st, k, h) := zz_k_num f179_650 rfl
theorem f179_651 : zz_fetch zz_prog 179 651 = some (.ireturn, 1, [1], []) := zz_fetch_of p179 rfl rfl
theorem s179_651 : zz_Run zz_prog d 179 (651, [l0, l1, l2, l3, l4, l5, l6], [.int v], k, h) = zz_ck (decide (v = 0 ∨ v = 1)) (some (.inl (some (.int v)), k, h)) := zz_k_retz f179_651
theorem f179_652 : zz_fetch zz_prog 179 652 = some (.iload 5, 2, [], []) := zz_fetch_of p179 rfl rfl
theorem s179_652 : zz_Run zz_prog d 179 (652, [l0, l1, l2, l3, l4, some (.int v), l6], st, k, h) = zz_Run zz_prog d 179 (654, [l0, l1, l2, l3, l4, some (.int v), l6], .int v :: st, k, h) := zz_k_num f179_652 rfl
theorem f179_654 : zz_fetch zz_prog 179 654 = some (.ifCond .ne 15, 3, [669], []) := zz_fetch_of p179 rfl rfl
theorem s179_654 : zz_Run zz_prog d 179 (654, [l0, l1, l2, l3, l4, l5, l6], .int v :: st, k, h) = if ¬ v = 0 then zz_Run zz_prog d 179 (669, [l0, l1, l2, l3, l4, l5, l6], st, k, h) else zz_Run zz_prog d 179 (657, [l0, l1, l2, l3, l4, l5, l6], st, k, h) := zz_k_br (¬ v = 0) rfl (zz_k_num f179_654 rfl)
theorem f179_657 : zz_fetch zz_prog 179 657 = some (.aload_n 3, 1, [], []) := zz_fetch_of p179 rfl rfl
theorem s179_657 : zz_Run zz_prog d 179 (657, [l0, l1, l2, some (.ref a), l4, l5, l6], st, k, h) = zz_Run zz_prog d 179 (658, [l0, l1, l2, some (.ref a), l4, l5, l6], .ref a :: st, k, h) := zz_k_num f179_657 rfl
theorem f179_658 : zz_fetch zz_prog 179 658 = some (.iconst 0, 1, [], []) := zz_fetch_of p179 rfl rfl
theorem s179_658 : zz_Run zz_prog d 179 (658, [l0, l1, l2, l3, l4, l5, l6], st, k, h) = zz_Run zz_prog d 179 (659, [l0, l1, l2, l3, l4, l5, l6], .int 0 :: st, k, h) := zz_k_num f179_658 rfl
theorem f179_659 : zz_fetch zz_prog 179 659 = some (.laload, 1, [], []) := zz_fetch_of p179 rfl rfl
theorem s179_659 : zz_Run zz_prog d 179 (659, [l0, l1, l2, l3, l4, l5, l6], .int 0 :: .ref 44 :: st, k, (zz_hp n I J ex)) = zz_Run zz_prog d 179 (660, [l0, l1, l2, l3, l4, l5, l6], .long (J 44 0) :: st, k, (zz_hp n I J ex)) := zz_k_go f179_659 rfl rfl rfl
theorem f179_660 : zz_fetch zz_prog 179 660 = some (.iload 6, 2, [], []) := zz_fetch_of p179 rfl rfl
theorem s179_660 : zz_Run zz_prog d 179 (660, [l0, l1, l2, l3, l4, l5, some (.int v)], st, k, h) = zz_Run zz_prog d 179 (662, [l0, l1, l2, l3, l4, l5, some (.int v)], .int v :: st, k, h) := zz_k_num f179_660 rfl
theorem f179_662 : zz_fetch zz_prog 179 662 = some (.i2l, 1, [], []) := zz_fetch_of p179 rfl rfl
theorem s179_662 : zz_Run zz_prog d 179 (662, [l0, l1, l2, l3, l4, l5, l6], .int v :: st, k, h) = zz_Run zz_prog d 179 (663, [l0, l1, l2, l3, l4, l5, l6], .long v.toInt64 :: st, k, h) := zz_k_num f179_662 rfl
theorem f179_663 : zz_fetch zz_prog 179 663 = some (.lcmp, 1, [], []) := zz_fetch_of p179 rfl rfl
theorem s179_663 : zz_Run zz_prog d 179 (663, [l0, l1, l2, l3, l4, l5, l6], .long y1 :: .long y :: st, k, h) = zz_Run zz_prog d 179 (664, [l0, l1, l2, l3, l4, l5, l6], .int (lg_cmp y y1) :: st, k, h) := zz_k_num f179_663 rfl
theorem f179_664 : zz_fetch zz_prog 179 664 = some (.ifCond .eq 5, 3, [669], []) := zz_fetch_of p179 rfl rfl
theorem s179_664 : zz_Run zz_prog d 179 (664, [l0, l1, l2, l3, l4, l5, l6], .int v :: st, k, h) = if v = 0 then zz_Run zz_prog d 179 (669, [l0, l1, l2, l3, l4, l5, l6], st, k, h) else zz_Run zz_prog d 179 (667, [l0, l1, l2, l3, l4, l5, l6], st, k, h) := zz_k_br (v = 0) rfl (zz_k_num f179_664 rfl)
theorem f179_667 : zz_fetch zz_prog 179 667 = some (.iconst 0, 1, [], []) := zz_fetch_of p179 rfl rfl
theorem s179_667 : zz_Run zz_prog d 179 (667, [l0, l1, l2, l3, l4, l5, l6], st, k, h) = zz_Run zz_prog d 179 (668, [l0, l1, l2, l3, l4, l5, l6], .int 0 :: st, k, h) := zz_k_num f179_667 rfl
theorem f179_668 : zz_fetch zz_prog 179 668 = some (.ireturn, 1, [1], []) := zz_fetch_of p179 rfl rfl
theorem s179_668 : zz_Run zz_prog d 179 (668, [l0, l1, l2, l3, l4, l5, l6], [.int v], k, h) = zz_ck (decide (v = 0 ∨ v = 1)) (some (.inl (some (.int v)), k, h)) := zz_k_retz f179_668
theorem f179_669 : zz_fetch zz_prog 179 669 = some (.goto 860, 3, [1529], []) := zz_fetch_of p179 rfl rfl
theorem s179_669 : zz_Run zz_prog d 179 (669, [l0, l1, l2, l3, l4, l5, l6], st, k, h) = zz_Run zz_prog d 179 (1529, [l0, l1, l2, l3, l4, l5, l6], st, k, h) := zz_k_num f179_669 rfl
theorem f179_672 : zz_fetch zz_prog 179 672 = some (.aload_n 1, 1, [], []) := zz_fetch_of p179 rfl rfl
theorem s179_672 : zz_Run zz_prog d 179 (672, [l0, some (.ref a), l2, l3, l4, l5, l6], st, k, h) = zz_Run zz_prog d 179 (673, [l0, some (.ref a), l2, l3, l4, l5, l6], .ref a :: st, k, h) := zz_k_num f179_672 rfl
theorem f179_673 : zz_fetch zz_prog 179 673 = some (.aload_n 0, 1, [], []) := zz_fetch_of p179 rfl rfl
theorem s179_673 : zz_Run zz_prog d 179 (673, [some (.ref a), l1, l2, l3, l4, l5, l6], st, k, h) = zz_Run zz_prog d 179 (674, [some (.ref a), l1, l2, l3, l4, l5, l6], .ref a :: st, k, h) := zz_k_num f179_673 rfl
theorem f179_674 : zz_fetch zz_prog 179 674 = some (.iload 4, 2, [], []) := zz_fetch_of p179 rfl rfl
theorem s179_674 : zz_Run zz_prog d 179 (674, [l0, l1, l2, l3, some (.int v), l5, l6], st, k, h) = zz_Run zz_prog d 179 (676, [l0, l1, l2, l3, some (.int v), l5, l6], .int v :: st, k, h) := zz_k_num f179_674 rfl
theorem f179_676 : zz_fetch zz_prog 179 676 = some (.iconst 1, 1, [], []) := zz_fetch_of p179 rfl rfl
theorem s179_676 : zz_Run zz_prog d 179 (676, [l0, l1, l2, l3, l4, l5, l6], st, k, h) = zz_Run zz_prog d 179 (677, [l0, l1, l2, l3, l4, l5, l6], .int 1 :: st, k, h) := zz_k_num f179_676 rfl
theorem f179_677 : zz_fetch zz_prog 179 677 = some (.iadd, 1, [], []) := zz_fetch_of p179 rfl rfl
theorem s179_677 : zz_Run zz_prog d 179 (677, [l0, l1, l2, l3, l4, l5, l6], .int w :: .int v :: st, k, h) = zz_Run zz_prog d 179 (678, [l0, l1, l2, l3, l4, l5, l6], .int (v + w) :: st, k, h) := zz_k_num f179_677 rfl
theorem f179_678 : zz_fetch zz_prog 179 678 = some (.iaload, 1, [], []) := zz_fetch_of p179 rfl rfl
theorem s179_678 (ha : zz_isrd a = true) : zz_Run zz_prog d 179 (678, [l0, l1, l2, l3, l4, l5, l6], .int v :: .ref a :: st, k, (zz_hp n I J ex)) = zz_ck (zz_in v (zz_ary n a)) (zz_Run zz_prog d 179 (679, [l0, l1, l2, l3, l4, l5, l6], .int (I a v.toNatClampNeg) :: st, k, (zz_hp n I J ex))) := zz_k_iald f179_678 ha
theorem f179_679 : zz_fetch zz_prog 179 679 = some (.aload_n 0, 1, [], []) := zz_fetch_of p179 rfl rfl
theorem s179_679 : zz_Run zz_prog d 179 (679, [some (.ref a), l1, l2, l3, l4, l5, l6], st, k, h) = zz_Run zz_prog d 179 (680, [some (.ref a), l1, l2, l3, l4, l5, l6], .ref a :: st, k, h) := zz_k_num f179_679 rfl
theorem f179_680 : zz_fetch zz_prog 179 680 = some (.iload 4, 2, [], []) := zz_fetch_of p179 rfl rfl
theorem s179_680 : zz_Run zz_prog d 179 (680, [l0, l1, l2, l3, some (.int v), l5, l6], st, k, h) = zz_Run zz_prog d 179 (682, [l0, l1, l2, l3, some (.int v), l5, l6], .int v :: st, k, h) := zz_k_num f179_680 rfl
theorem f179_682 : zz_fetch zz_prog 179 682 = some (.iconst 2, 1, [], []) := zz_fetch_of p179 rfl rfl
theorem s179_682 : zz_Run zz_prog d 179 (682, [l0, l1, l2, l3, l4, l5, l6], st, k, h) = zz_Run zz_prog d 179 (683, [l0, l1, l2, l3, l4, l5, l6], .int 2 :: st, k, h) := zz_k_num f179_682 rfl
theorem f179_683 : zz_fetch zz_prog 179 683 = some (.iadd, 1, [], []) := zz_fetch_of p179 rfl rfl
theorem s179_683 : zz_Run zz_prog d 179 (683, [l0, l1, l2, l3, l4, l5, l6], .int w :: .int v :: st, k, h) = zz_Run zz_prog d 179 (684, [l0, l1, l2, l3, l4, l5, l6], .int (v + w) :: st, k, h) := zz_k_num f179_683 rfl
theorem f179_684 : zz_fetch zz_prog 179 684 = some (.iaload, 1, [], []) := zz_fetch_of p179 rfl rfl
theorem s179_684 (ha : zz_isrd a = true) : zz_Run zz_prog d 179 (684, [l0, l1, l2, l3, l4, l5, l6], .int v :: .ref a :: st, k, (zz_hp n I J ex)) = zz_ck (zz_in v (zz_ary n a)) (zz_Run zz_prog d 179 (685, [l0, l1, l2, l3, l4, l5, l6], .int (I a v.toNatClampNeg) :: st, k, (zz_hp n I J ex))) := zz_k_iald f179_684 ha
theorem f179_685 : zz_fetch zz_prog 179 685 = some (.aload_n 3, 1, [], []) := zz_fetch_of p179 rfl rfl
theorem s179_685 : zz_Run zz_prog d 179 (685, [l0, l1, l2, some (.ref a), l4, l5, l6], st, k, h) = zz_Run zz_prog d 179 (686, [l0, l1, l2, some (.ref a), l4, l5, l6], .ref a :: st, k, h) := zz_k_num f179_685 rfl
theorem f179_686 : zz_fetch zz_prog 179 686 = some (.invokestatic 128, 3, [0, 165, 4], []) := zz_fetch_of p179 rfl rfl
theorem s179_686 : zz_Run zz_prog d 179 (686, [l0, l1, l2, l3, l4, l5, l6], [b0, b1, b2, b3], k, h) = zz_ret (zz_Call zz_prog d 165 [b3, b2, b1, b0] h) (fun v k' h' => zz_Run zz_prog d 179 (689, [l0, l1, l2, l3, l4, l5, l6], v.toList ++ [], k && k', h')) (fun a k' h' => zz_th d 179 686 a [l0, l1, l2, l3, l4, l5, l6] (k && k') h') := zz_k_call f179_686 rfl rfl rfl
theorem f179_689 : zz_fetch zz_prog 179 689 = some (.istore 5, 2, [], []) := zz_fetch_of p179 rfl rfl
theorem s179_689 : zz_Run zz_prog d 179 (689, [l0, l1, l2, l3, l4, l5, l6], .int v :: st, k, h) = zz_sl l4 (zz_Run zz_prog d 179 (691, [l0, l1, l2, l3, l4, some (.int v), l6], st, k, h)) := zz_k_st (j := 5) (u := .int v) f179_689 rfl (fun q hq => by cases hq) rfl (show 5 < 7 by decide) (by cases l4 <;> rfl) rfl
theorem f179_691 : zz_fetch zz_prog 179 691 = some (.aload_n 2, 1, [], []) := zz_fetch_of p179 rfl rfl
theorem s179_691 : zz_Run zz_prog d 179 (691, [l0, l1, some (.ref a), l3, l4, l5, l6], st, k, h) = zz_Run zz_prog d 179 (692, [l0, l1, some (.ref a), l3, l4, l5, l6], .ref a :: st, k, h) := zz_k_num f179_691 rfl
theorem f179_692 : zz_fetch zz_prog 179 692 = some (.aload_n 0, 1, [], []) := zz_fetch_of p179 rfl rfl
theorem s179_692 : zz_Run zz_prog d 179 (692, [some (.ref a), l1, l2, l3, l4, l5, l6], st, k, h) = zz_Run zz_prog d 179 (693, [some (.ref a), l1, l2, l3, l4, l5, l6], .ref a :: st, k, h) := zz_k_num f179_692 rfl
theorem f179_693 : zz_fetch zz_prog 179 693 = some (.iload 4, 2, [], []) := zz_fetch_of p179 rfl rfl
theorem s179_693 : zz_Run zz_prog d 179 (693, [l0, l1, l2, l3, some (.int v), l5, l6], st, k, h) = zz_Run zz_prog d 179 (695, [l0, l1, l2, l3, some (.int v), l5, l6], .int v :: st, k, h) := zz_k_num f179_693 rfl
theorem f179_695 : zz_fetch zz_prog 179 695 = some (.iconst 1, 1, [], []) := zz_fetch_of p179 rfl rfl
theorem s179_695 : zz_Run zz_prog d 179 (695, [l0, l1, l2, l3, l4, l5, l6], st, k, h) = zz_Run zz_prog d 179 (696, [l0, l1, l2, l3, l4, l5, l6], .int 1 :: st, k, h) := zz_k_num f179_695 rfl
theorem f179_696 : zz_fetch zz_prog 179 696 = some (.iadd, 1, [], []) := zz_fetch_of p179 rfl rfl
theorem s179_696 : zz_Run zz_prog d 179 (696, [l0, l1, l2, l3, l4, l5, l6], .int w :: .int v :: st, k, h) = zz_Run zz_prog d 179 (697, [l0, l1, l2, l3, l4, l5, l6], .int (v + w) :: st, k, h) := zz_k_num f179_696 rfl
theorem f179_697 : zz_fetch zz_prog 179 697 = some (.iaload, 1, [], []) := zz_fetch_of p179 rfl rfl
theorem s179_697 (ha : zz_isrd a = true) : zz_Run zz_prog d 179 (697, [l0, l1, l2, l3, l4, l5, l6], .int v :: .ref a :: st, k, (zz_hp n I J ex)) = zz_ck (zz_in v (zz_ary n a)) (zz_Run zz_prog d 179 (698, [l0, l1, l2, l3, l4, l5, l6], .int (I a v.toNatClampNeg) :: st, k, (zz_hp n I J ex))) := zz_k_iald f179_697 ha
theorem f179_698 : zz_fetch zz_prog 179 698 = some (.aload_n 0, 1, [], []) := zz_fetch_of p179 rfl rfl
theorem s179_698 : zz_Run zz_prog d 179 (698, [some (.ref a), l1, l2, l3, l4, l5, l6], st, k, h) = zz_Run zz_prog d 179 (699, [some (.ref a), l1, l2, l3, l4, l5, l6], .ref a :: st, k, h) := zz_k_num f179_698 rfl
theorem f179_699 : zz_fetch zz_prog 179 699 = some (.iload 4, 2, [], []) := zz_fetch_of p179 rfl rfl
theorem s179_699 : zz_Run zz_prog d 179 (699, [l0, l1, l2, l3, some (.int v), l5, l6], st, k, h) = zz_Run zz_prog d 179 (701, [l0, l1, l2, l3, some (.int v), l5, l6], .int v :: st, k, h) := zz_k_num f179_699 rfl
theorem f179_701 : zz_fetch zz_prog 179 701 = some (.iconst 2, 1, [], []) := zz_fetch_of p179 rfl rfl
theorem s179_701 : zz_Run zz_prog d 179 (701, [l0, l1, l2, l3, l4, l5, l6], st, k, h) = zz_Run zz_prog d 179 (702, [l0, l1, l2, l3, l4, l5, l6], .int 2 :: st, k, h) := zz_k_num f179_701 rfl
theorem f179_702 : zz_fetch zz_prog 179 702 = some (.iadd, 1, [], []) := zz_fetch_of p179 rfl rfl
theorem s179_702 : zz_Run zz_prog d 179 (702, [l0, l1, l2, l3, l4, l5, l6], .int w :: .int v :: st, k, h) = zz_Run zz_prog d 179 (703, [l0, l1, l2, l3, l4, l5, l6], .int (v + w) :: st, k, h) := zz_k_num f179_702 rfl
theorem f179_703 : zz_fetch zz_prog 179 703 = some (.iaload, 1, [], []) := zz_fetch_of p179 rfl rfl
theorem s179_703 (ha : zz_isrd a = true) : zz_Run zz_prog d 179 (703, [l0, l1, l2, l3, l4, l5, l6], .int v :: .ref a :: st, k, (zz_hp n I J ex)) = zz_ck (zz_in v (zz_ary n a)) (zz_Run zz_prog d 179 (704, [l0, l1, l2, l3, l4, l5, l6], .int (I a v.toNatClampNeg) :: st, k, (zz_hp n I J ex))) := zz_k_iald f179_703 ha
theorem f179_704 : zz_fetch zz_prog 179 704 = some (.invokevirtual 130, 3, [0, 134, 3, 2], []) := zz_fetch_of p179 rfl rfl
theorem s179_704 : zz_Run zz_prog d 179 (704, [l0, l1, l2, l3, l4, l5, l6], [b0, b1, .ref 23], k, (zz_hp n I J ex)) = zz_ret (zz_Call zz_prog d 134 [.ref 23, b1, b0] (zz_hp n I J ex)) (fun v k' h' => zz_Run zz_prog d 179 (707, [l0, l1, l2, l3, l4, l5, l6], v.toList ++ [], k && k', h')) (fun a k' h' => zz_th d 179 704 a [l0, l1, l2, l3, l4, l5, l6] (k && k') h') := zz_k_call f179_704 rfl rfl rfl
theorem f179_707 : zz_fetch zz_prog 179 707 = some (.istore 6, 2, [], []) := zz_fetch_of p179 rfl rfl
theorem s179_707 : zz_Run zz_prog d 179 (707, [l0, l1, l2, l3, l4, l5, l6], .int v :: st, k, h) = zz_sl l5 (zz_Run zz_prog d 179 (709, [l0, l1, l2, l3, l4, l5, some (.int v)], st, k, h)) := zz_k_st (j := 6) (u := .int v) f179_707 rfl (fun q hq => by cases hq) rfl (show 6 < 7 by decide) (by cases l5 <;> rfl) rfl
theorem f179_709 : zz_fetch zz_prog 179 709 = some (.aload_n 2, 1, [], []) := zz_fetch_of p179 rfl rfl
theorem s179_709 : zz_Run zz_prog d 179 (709, [l0, l1, some (.ref a), l3, l4, l5, l6], st, k, h) = zz_Run zz_prog d 179 (710, [l0, l1, some (.ref a), l3, l4, l5, l6], .ref a :: st, k, h) := zz_k_num f179_709 rfl
theorem f179_710 : zz_fetch zz_prog 179 710 = some (.invokevirtual 97, 3, [0, 89, 1, 2], []) := zz_fetch_of p179 rfl rfl
theorem s179_710 : zz_Run zz_prog d 179 (710, [l0, l1, l2, l3, l4, l5, l6], [.ref 23], k, (zz_hp n I J ex)) = zz_ret (zz_Call zz_prog d 89 [.ref 23] (zz_hp n I J ex)) (fun v k' h' => zz_Run zz_prog d 179 (713, [l0, l1, l2, l3, l4, l5, l6], v.toList ++ [], k && k', h')) (fun a k' h' => zz_th d 179 710 a [l0, l1, l2, l3, l4, l5, l6] (k && k') h') := zz_k_call f179_710 rfl rfl rfl
theorem f179_713 : zz_fetch zz_prog 179 713 = some (.iload 5, 2, [], []) := zz_fetch_of p179 rfl rfl
theorem s179_713 : zz_Run zz_prog d 179 (713, [l0, l1, l2, l3, l4, some (.int v), l6], st, k, h) = zz_Run zz_prog d 179 (715, [l0, l1, l2, l3, l4, some (.int v), l6], .int v :: st, k, h) := zz_k_num f179_713 rfl
theorem f179_715 : zz_fetch zz_prog 179 715 = some (.if_icmp .eq 5, 3, [720], []) := zz_fetch_of p179 rfl rfl
theorem s179_715 : zz_Run zz_prog d 179 (715, [l0, l1, l2, l3, l4, l5, l6], .int w :: .int v :: st, k, h) = if v = w then zz_Run zz_prog d 179 (720, [l0, l1, l2, l3, l4, l5, l6], st, k, h) else zz_Run zz_prog d 179 (718, [l0, l1, l2, l3, l4, l5, l6], st, k, h) := zz_k_br (v = w) rfl (zz_k_num f179_715 rfl)
theorem f179_718 : zz_fetch zz_prog 179 718 = some (.iconst 0, 1, [], []) := zz_fetch_of p179 rfl rfl
theorem s179_718 : zz_Run zz_prog d 179 (718, [l0, l1, l2, l3, l4, l5, l6], st, k, h) = zz_Run zz_prog d 179 (719, [l0, l1, l2, l3, l4, l5, l6], .int 0 :: st, k, h) := zz_k_num f179_718 rfl
theorem f179_719 : zz_fetch zz_prog 179 719 = some (.ireturn, 1, [1], []) := zz_fetch_of p179 rfl rfl
theorem s179_719 : zz_Run zz_prog d 179 (719, [l0, l1, l2, l3, l4, l5, l6], [.int v], k, h) = zz_ck (decide (v = 0 ∨ v = 1)) (some (.inl (some (.int v)), k, h)) := zz_k_retz f179_719
theorem f179_720 : zz_fetch zz_prog 179 720 = some (.iload 5, 2, [], []) := zz_fetch_of p179 rfl rfl
theorem s179_720 : zz_Run zz_prog d 179 (720, [l0, l1, l2, l3, l4, some (.int v), l6], st, k, h) = zz_Run zz_prog d 179 (722, [l0, l1, l2, l3, l4, some (.int v), l6], .int v :: st, k, h) := zz_k_num f179_720 rfl
theorem f179_722 : zz_fetch zz_prog 179 722 = some (.ifCond .ne 15, 3, [737], []) := zz_fetch_of p179 rfl rfl
theorem s179_722 : zz_Run zz_prog d 179 (722, [l0, l1, l2, l3, l4, l5, l6], .int v :: st, k, h) = if ¬ v = 0 then zz_Run zz_prog d 179 (737, [l0, l1, l2, l3, l4, l5, l6], st, k, h) else zz_Run zz_prog d 179 (725, [l0, l1, l2, l3, l4, l5, l6], st, k, h) := zz_k_br (¬ v = 0) rfl (zz_k_num f179_722 rfl)
theorem f179_725 : zz_fetch zz_prog 179 725 = some (.aload_n 3, 1, [], []) := zz_fetch_of p179 rfl rfl
theorem s179_725 : zz_Run zz_prog d 179 (725, [l0, l1, l2, some (.ref a), l4, l5, l6], st, k, h) = zz_Run zz_prog d 179 (726, [l0, l1, l2, some (.ref a), l4, l5, l6], .ref a :: st, k, h) := zz_k_num f179_725 rfl
theorem f179_726 : zz_fetch zz_prog 179 726 = some (.iconst 0, 1, [], []) := zz_fetch_of p179 rfl rfl
theorem s179_726 : zz_Run zz_prog d 179 (726, [l0, l1, l2, l3, l4, l5, l6], st, k, h) = zz_Run zz_prog d 179 (727, [l0, l1, l2, l3, l4, l5, l6], .int 0 :: st, k, h) := zz_k_num f179_726 rfl
theorem f179_727 : zz_fetch zz_prog 179 727 = some (.laload, 1, [], []) := zz_fetch_of p179 rfl rfl
theorem s179_727 : zz_Run zz_prog d 179 (727, [l0, l1, l2, l3, l4, l5, l6], .int 0 :: .ref 44 :: st, k, (zz_hp n I J ex)) = zz_Run zz_prog d 179 (728, [l0, l1, l2, l3, l4, l5, l6], .long (J 44 0) :: st, k, (zz_hp n I J ex)) := zz_k_go f179_727 rfl rfl rfl
theorem f179_728 : zz_fetch zz_prog 179 728 = some (.iload 6, 2, [], []) := zz_fetch_of p179 rfl rfl
theorem s179_728 : zz_Run zz_prog d 179 (728, [l0, l1, l2, l3, l4, l5, some (.int v)], st, k, h) = zz_Run zz_prog d 179 (730, [l0, l1, l2, l3, l4, l5, some (.int v)], .int v :: st, k, h) := zz_k_num f179_728 rfl
theorem f179_730 : zz_fetch zz_prog 179 730 = some (.i2l, 1, [], []) := zz_fetch_of p179 rfl rfl
theorem s179_730 : zz_Run zz_prog d 179 (730, [l0, l1, l2, l3, l4, l5, l6], .int v :: st, k, h) = zz_Run zz_prog d 179 (731, [l0, l1, l2, l3, l4, l5, l6], .long v.toInt64 :: st, k, h) := zz_k_num f179_730 rfl
theorem f179_731 : zz_fetch zz_prog 179 731 = some (.lcmp, 1, [], []) := zz_fetch_of p179 rfl rfl
theorem s179_731 : zz_Run zz_prog d 179 (731, [l0, l1, l2, l3, l4, l5, l6], .long y1 :: .long y :: st, k, h) = zz_Run zz_prog d 179 (732, [l0, l1, l2, l3, l4, l5, l6], .int (lg_cmp y y1) :: st, k, h) := zz_k_num f179_731 rfl
theorem f179_732 : zz_fetch zz_prog 179 732 = some (.ifCond .eq 5, 3, [737], []) := zz_fetch_of p179 rfl rfl
theorem s179_732 : zz_Run zz_prog d 179 (732, [l0, l1, l2, l3, l4, l5, l6], .int v :: st, k, h) = if v = 0 then zz_Run zz_prog d 179 (737, [l0, l1, l2, l3, l4, l5, l6], st, k, h) else zz_Run zz_prog d 179 (735, [l0, l1, l2, l3, l4, l5, l6], st, k, h) := zz_k_br (v = 0) rfl (zz_k_num f179_732 rfl)
theorem f179_735 : zz_fetch zz_prog 179 735 = some (.iconst 0, 1, [], []) := zz_fetch_of p179 rfl rfl
theorem s179_735 : zz_Run zz_prog d 179 (735, [l0, l1, l2, l3, l4, l5, l6], st, k, h) = zz_Run zz_prog d 179 (736, [l0, l1, l2, l3, l4, l5, l6], .int 0 :: st, k, h) := zz_k_num f179_735 rfl
theorem f179_736 : zz_fetch zz_prog 179 736 = some (.ireturn, 1, [1], []) := zz_fetch_of p179 rfl rfl
theorem s179_736 : zz_Run zz_prog d 179 (736, [l0, l1, l2, l3, l4, l5, l6], [.int v], k, h) = zz_ck (decide (v = 0 ∨ v = 1)) (some (.inl (some (.int v)), k, h)) := zz_k_retz f179_736
theorem f179_737 : zz_fetch zz_prog 179 737 = some (.goto 792, 3, [1529], []) := zz_fetch_of p179 rfl rfl
theorem s179_737 : zz_Run zz_prog d 179 (737, [l0, l1, l2, l3, l4, l5, l6], st, k, h) = zz_Run zz_prog d 179 (1529, [l0, l1, l2, l3, l4, l5, l6], st, k, h) := zz_k_num f179_737 rfl
theorem f179_740 : zz_fetch zz_prog 179 740 = some (.aload_n 1, 1, [], []) := zz_fetch_of p179 rfl rfl
theorem s179_740 : zz_Run zz_prog d 179 (740, [l0, some (.ref a), l2, l3, l4, l5, l6], st, k, h) = zz_Run zz_prog d 179 (741, [l0, some (.ref a), l2, l3, l4, l5, l6], .ref a :: st, k, h) := zz_k_num f179_740 rfl
theorem f179_741 : zz_fetch zz_prog 179 741 = some (.aload_n 0, 1, [], []) := zz_fetch_of p179 rfl rfl
theorem s179_741 : zz_Run zz_prog d 179 (741, [some (.ref a), l1, l2, l3, l4, l5, l6], st, k, h) = zz_Run zz_prog d 179 (742, [some (.ref a), l1, l2, l3, l4, l5, l6], .ref a :: st, k, h) := zz_k_num f179_741 rfl
theorem f179_742 : zz_fetch zz_prog 179 742 = some (.iload 4, 2, [], []) := zz_fetch_of p179 rfl rfl
theorem s179_742 : zz_Run zz_prog d 179 (742, [l0, l1, l2, l3, some (.int v), l5, l6], st, k, h) = zz_Run zz_prog d 179 (744, [l0, l1, l2, l3, some (.int v), l5, l6], .int v :: st, k, h) := zz_k_num f179_742 rfl
theorem f179_744 : zz_fetch zz_prog 179 744 = some (.iconst 1, 1, [], []) := zz_fetch_of p179 rfl rfl
theorem s179_744 : zz_Run zz_prog d 179 (744, [l0, l1, l2, l3, l4, l5, l6], st, k, h) = zz_Run zz_prog d 179 (745, [l0, l1, l2, l3, l4, l5, l6], .int 1 :: st, k, h) := zz_k_num f179_744 rfl
theorem f179_745 : zz_fetch zz_prog 179 745 = some (.iadd, 1, [], []) := zz_fetch_of p179 rfl rfl
theorem s179_745 : zz_Run zz_prog d 179 (745, [l0, l1, l2, l3, l4, l5, l6], .int w :: .int v :: st, k, h) = zz_Run zz_prog d 179 (746, [l0, l1, l2, l3, l4, l5, l6], .int (v + w) :: st, k, h) := zz_k_num f179_745 rfl
theorem f179_746 : zz_fetch zz_prog 179 746 = some (.iaload, 1, [], []) := zz_fetch_of p179 rfl rfl
theorem s179_746 (ha : zz_isrd a = true) : zz_Run zz_prog d 179 (746, [l0, l1, l2, l3, l4, l5, l6], .int v :: .ref a :: st, k, (zz_hp n I J ex)) = zz_ck (zz_in v (zz_ary n a)) (zz_Run zz_prog d 179 (747, [l0, l1, l2, l3, l4, l5, l6], .int (I a v.toNatClampNeg) :: st, k, (zz_hp n I J ex))) := zz_k_iald f179_746 ha
theorem f179_747 : zz_fetch zz_prog 179 747 = some (.aload_n 0, 1, [], []) := zz_fetch_of p179 rfl rfl
theorem s179_747 : zz_Run zz_prog d 179 (747, [some (.ref a), l1, l2, l3, l4, l5, l6], st, k, h) = zz_Run zz_prog d 179 (748, [some (.ref a), l1, l2, l3, l4, l5, l6], .ref a :: st, k, h) := zz_k_num f179_747 rfl
theorem f179_748 : zz_fetch zz_prog 179 748 = some (.iload 4, 2, [], []) := zz_fetch_of p179 rfl rfl
theorem s179_748 : zz_Run zz_prog d 179 (748, [l0, l1, l2, l3, some (.int v), l5, l6], st, k, h) = zz_Run zz_prog d 179 (750, [l0, l1, l2, l3, some (.int v), l5, l6], .int v :: st, k, h) := zz_k_num f179_748 rfl
theorem f179_750 : zz_fetch zz_prog 179 750 = some (.iconst 2, 1, [], []) := zz_fetch_of p179 rfl rfl
theorem s179_750 : zz_Run zz_prog d 179 (750, [l0, l1, l2, l3, l4, l5, l6], st, k, h) = zz_Run zz_prog d 179 (751, [l0, l1, l2, l3, l4, l5, l6], .int 2 :: st, k, h) := zz_k_num f179_750 rfl
theorem f179_751 : zz_fetch zz_prog 179 751 = some (.iadd, 1, [], []) := zz_fetch_of p179 rfl rfl
theorem s179_751 : zz_Run zz_prog d 179 (751, [l0, l1, l2, l3, l4, l5, l6], .int w :: .int v :: st, k, h) = zz_Run zz_prog d 179 (752, [l0, l1, l2, l3, l4, l5, l6], .int (v + w) :: st, k, h) := zz_k_num f179_751 rfl
theorem f179_752 : zz_fetch zz_prog 179 752 = some (.iaload, 1, [], []) := zz_fetch_of p179 rfl rfl
theorem s179_752 (ha : zz_isrd a = true) : zz_Run zz_prog d 179 (752, [l0, l1, l2, l3, l4, l5, l6], .int v :: .ref a :: st, k, (zz_hp n I J ex)) = zz_ck (zz_in v (zz_ary n a)) (zz_Run zz_prog d 179 (753, [l0, l1, l2, l3, l4, l5, l6], .int (I a v.toNatClampNeg) :: st, k, (zz_hp n I J ex))) := zz_k_iald f179_752 ha
theorem f179_753 : zz_fetch zz_prog 179 753 = some (.aload_n 0, 1, [], []) := zz_fetch_of p179 rfl rfl
theorem s179_753 : zz_Run zz_prog d 179 (753, [some (.ref a), l1, l2, l3, l4, l5, l6], st, k, h) = zz_Run zz_prog d 179 (754, [some (.ref a), l1, l2, l3, l4, l5, l6], .ref a :: st, k, h) := zz_k_num f179_753 rfl
theorem f179_754 : zz_fetch zz_prog 179 754 = some (.iload 4, 2, [], []) := zz_fetch_of p179 rfl rfl
theorem s179_754 : zz_Run zz_prog d 179 (754, [l0, l1, l2, l3, some (.int v), l5, l6], st, k, h) = zz_Run zz_prog d 179 (756, [l0, l1, l2, l3, some (.int v), l5, l6], .int v :: st, k, h) := zz_k_num f179_754 rfl
theorem f179_756 : zz_fetch zz_prog 179 756 = some (.iconst 3, 1, [], []) := zz_fetch_of p179 rfl rfl
theorem s179_756 : zz_Run zz_prog d 179 (756, [l0, l1, l2, l3, l4, l5, l6], st, k, h) = zz_Run zz_prog d 179 (757, [l0, l1, l2, l3, l4, l5, l6], .int 3 :: st, k, h) := zz_k_num f179_756 rfl
theorem f179_757 : zz_fetch zz_prog 179 757 = some (.iadd, 1, [], []) := zz_fetch_of p179 rfl rfl
theorem s179_757 : zz_Run zz_prog d 179 (757, [l0, l1, l2, l3, l4, l5, l6], .int w :: .int v :: st, k, h) = zz_Run zz_prog d 179 (758, [l0, l1, l2, l3, l4, l5, l6], .int (v + w) :: st, k, h) := zz_k_num f179_757 rfl
theorem f179_758 : zz_fetch zz_prog 179 758 = some (.iaload, 1, [], []) := zz_fetch_of p179 rfl rfl
theorem s179_758 (ha : zz_isrd a = true) : zz_Run zz_prog d 179 (758, [l0, l1, l2, l3, l4, l5, l6], .int v :: .ref a :: st, k, (zz_hp n I J ex)) = zz_ck (zz_in v (zz_ary n a)) (zz_Run zz_prog d 179 (759, [l0, l1, l2, l3, l4, l5, l6], .int (I a v.toNatClampNeg) :: st, k, (zz_hp n I J ex))) := zz_k_iald f179_758 ha
theorem f179_759 : zz_fetch zz_prog 179 759 = some (.invokestatic 131, 3, [0, 166, 4], []) := zz_fetch_of p179 rfl rfl
theorem s179_759 : zz_Run zz_prog d 179 (759, [l0, l1, l2, l3, l4, l5, l6], [b0, b1, b2, b3], k, h) = zz_ret (zz_Call zz_prog d 166 [b3, b2, b1, b0] h) (fun v k' h' => zz_Run zz_prog d 179 (762, [l0, l1, l2, l3, l4, l5, l6], v.toList ++ [], k && k', h')) (fun a k' h' => zz_th d 179 759 a [l0, l1, l2, l3, l4, l5, l6] (k && k') h') := zz_k_call f179_759 rfl rfl rfl
theorem f179_762 : zz_fetch zz_prog 179 762 = some (.istore 5, 2, [], []) := zz_fetch_of p179 rfl rfl
theorem s179_762 : zz_Run zz_prog d 179 (762, [l0, l1, l2, l3, l4, l5, l6], .int v :: st, k, h) = zz_sl l4 (zz_Run zz_prog d 179 (764, [l0, l1, l2, l3, l4, some (.int v), l6], st, k, h)) := zz_k_st (j := 5) (u := .int v) f179_762 rfl (fun q hq => by cases hq) rfl (show 5 < 7 by decide) (by cases l4 <;> rfl) rfl
theorem f179_764 : zz_fetch zz_prog 179 764 = some (.aload_n 2, 1, [], []) := zz_fetch_of p179 rfl rfl
theorem s179_764 : zz_Run zz_prog d 179 (764, [l0, l1, some (.ref a), l3, l4, l5, l6], st, k, h) = zz_Run zz_prog d 179 (765, [l0, l1, some (.ref a), l3, l4, l5, l6], .ref a :: st, k, h) := zz_k_num f179_764 rfl
theorem f179_765 : zz_fetch zz_prog 179 765 = some (.aload_n 0, 1, [], []) := zz_fetch_of p179 rfl rfl
theorem s179_765 : zz_Run zz_prog d 179 (765, [some (.ref a), l1, l2, l3, l4, l5, l6], st, k, h) = zz_Run zz_prog d 179 (766, [some (.ref a), l1, l2, l3, l4, l5, l6], .ref a :: st, k, h) := zz_k_num f179_765 rfl
theorem f179_766 : zz_fetch zz_prog 179 766 = some (.iload 4, 2, [], []) := zz_fetch_of p179 rfl rfl
theorem s179_766 : zz_Run zz_prog d 179 (766, [l0, l1, l2, l3, some (.int v), l5, l6], st, k, h) = zz_Run zz_prog d 179 (768, [l0, l1, l2, l3, some (.int v), l5, l6], .int v :: st, k, h) := zz_k_num f179_766 rfl
theorem f179_768 : zz_fetch zz_prog 179 768 = some (.iconst 1, 1, [], []) := zz_fetch_of p179 rfl rfl
theorem s179_768 : zz_Run zz_prog d 179 (768, [l0, l1, l2, l3, l4, l5, l6], st, k, h) = zz_Run zz_prog d 179 (769, [l0, l1, l2, l3, l4, l5, l6], .int 1 :: st, k, h) := zz_k_num f179_768 rfl
theorem f179_769 : zz_fetch zz_prog 179 769 = some (.iadd, 1, [], []) := zz_fetch_of p179 rfl rfl
theorem s179_769 : zz_Run zz_prog d 179 (769, [l0, l1, l2, l3, l4, l5, l6], .int w :: .int v :: st, k, h) = zz_Run zz_prog d 179 (770, [l0, l1, l2, l3, l4, l5, l6], .int (v + w) :: st, k, h) := zz_k_num f179_769 rfl
theorem f179_770 : zz_fetch zz_prog 179 770 = some (.iaload, 1, [], []) := zz_fetch_of p179 rfl rfl
theorem s179_770 (ha : zz_isrd a = true) : zz_Run zz_prog d 179 (770, [l0, l1, l2, l3, l4, l5, l6], .int v :: .ref a :: st, k, (zz_hp n I J ex)) = zz_ck (zz_in v (zz_ary n a)) (zz_Run zz_prog d 179 (771, [l0, l1, l2, l3, l4, l5, l6], .int (I a v.toNatClampNeg) :: st, k, (zz_hp n I J ex))) := zz_k_iald f179_770 ha
theorem f179_771 : zz_fetch zz_prog 179 771 = some (.aload_n 0, 1, [], []) := zz_fetch_of p179 rfl rfl
theorem s179_771 : zz_Run zz_prog d 179 (771, [some (.ref a), l1, l2, l3, l4, l5, l6], st, k, h) = zz_Run zz_prog d 179 (772, [some (.ref a), l1, l2, l3, l4, l5, l6], .ref a :: st, k, h) := zz_k_num f179_771 rfl
theorem f179_772 : zz_fetch zz_prog 179 772 = some (.iload 4, 2, [], []) := zz_fetch_of p179 rfl rfl
theorem s179_772 : zz_Run zz_prog d 179 (772, [l0, l1, l2, l3, some (.int v), l5, l6], st, k, h) = zz_Run zz_prog d 179 (774, [l0, l1, l2, l3, some (.int v), l5, l6], .int v :: st, k, h) := zz_k_num f179_772 rfl
theorem f179_774 : zz_fetch zz_prog 179 774 = some (.iconst 2, 1, [], []) := zz_fetch_of p179 rfl rfl
theorem s179_774 : zz_Run zz_prog d 179 (774, [l0, l1, l2, l3, l4, l5, l6], st, k, h) = zz_Run zz_prog d 179 (775, [l0, l1, l2, l3, l4, l5, l6], .int 2 :: st, k, h) := zz_k_num f179_774 rfl
theorem f179_775 : zz_fetch zz_prog 179 775 = some (.iadd, 1, [], []) := zz_fetch_of p179 rfl rfl
theorem s179_775 : zz_Run zz_prog d 179 (775, [l0, l1, l2, l3, l4, l5, l6], .int w :: .int v :: st, k, h) = zz_Run zz_prog d 179 (776, [l0, l1, l2, l3, l4, l5, l6], .int (v + w) :: st, k, h) := zz_k_num f179_775 rfl
theorem f179_776 : zz_fetch zz_prog 179 776 = some (.iaload, 1, [], []) := zz_fetch_of p179 rfl rfl
theorem s179_776 (ha : zz_isrd a = true) : zz_Run zz_prog d 179 (776, [l0, l1, l2, l3, l4, l5, l6], .int v :: .ref a :: st, k, (zz_hp n I J ex)) = zz_ck (zz_in v (zz_ary n a)) (zz_Run zz_prog d 179 (777, [l0, l1, l2, l3, l4, l5, l6], .int (I a v.toNatClampNeg) :: st, k, (zz_hp n I J ex))) := zz_k_iald f179_776 ha
theorem f179_777 : zz_fetch zz_prog 179 777 = some (.aload_n 0, 1, [], []) := zz_fetch_of p179 rfl rfl
theorem s179_777 : zz_Run zz_prog d 179 (777, [some (.ref a), l1, l2, l3, l4, l5, l6], st, k, h) = zz_Run zz_prog d 179 (778, [some (.ref a), l1, l2, l3, l4, l5, l6], .ref a :: st, k, h) := zz_k_num f179_777 rfl
theorem f179_778 : zz_fetch zz_prog 179 778 = some (.iload 4, 2, [], []) := zz_fetch_of p179 rfl rfl
theorem s179_778 : zz_Run zz_prog d 179 (778, [l0, l1, l2, l3, some (.int v), l5, l6], st, k, h) = zz_Run zz_prog d 179 (780, [l0, l1, l2, l3, some (.int v), l5, l6], .int v :: st, k, h) := zz_k_num f179_778 rfl
theorem f179_780 : zz_fetch zz_prog 179 780 = some (.iconst 3, 1, [], []) := zz_fetch_of p179 rfl rfl
theorem s179_780 : zz_Run zz_prog d 179 (780, [l0, l1, l2, l3, l4, l5, l6], st, k, h) = zz_Run zz_prog d 179 (781, [l0, l1, l2, l3, l4, l5, l6], .int 3 :: st, k, h) := zz_k_num f179_780 rfl
theorem f179_781 : zz_fetch zz_prog 179 781 = some (.iadd, 1, [], []) := zz_fetch_of p179 rfl rfl
theorem s179_781 : zz_Run zz_prog d 179 (781, [l0, l1, l2, l3, l4, l5, l6], .int w :: .int v :: st, k, h) = zz_Run zz_prog d 179 (782, [l0, l1, l2, l3, l4, l5, l6], .int (v + w) :: st, k, h) := zz_k_num f179_781 rfl
theorem f179_782 : zz_fetch zz_prog 179 782 = some (.iaload, 1, [], []) := zz_fetch_of p179 rfl rfl
theorem s179_782 (ha : zz_isrd a = true) : zz_Run zz_prog d 179 (782, [l0, l1, l2, l3, l4, l5, l6], .int v :: .ref a :: st, k, (zz_hp n I J ex)) = zz_ck (zz_in v (zz_ary n a)) (zz_Run zz_prog d 179 (783, [l0, l1, l2, l3, l4, l5, l6], .int (I a v.toNatClampNeg) :: st, k, (zz_hp n I J ex))) := zz_k_iald f179_782 ha
theorem f179_783 : zz_fetch zz_prog 179 783 = some (.invokevirtual 133, 3, [0, 136, 4, 2], []) := zz_fetch_of p179 rfl rfl
theorem s179_783 : zz_Run zz_prog d 179 (783, [l0, l1, l2, l3, l4, l5, l6], [b0, b1, b2, .ref 23], k, (zz_hp n I J ex)) = zz_ret (zz_Call zz_prog d 136 [.ref 23, b2, b1, b0] (zz_hp n I J ex)) (fun v k' h' => zz_Run zz_prog d 179 (786, [l0, l1, l2, l3, l4, l5, l6], v.toList ++ [], k && k', h')) (fun a k' h' => zz_th d 179 783 a [l0, l1, l2, l3, l4, l5, l6] (k && k') h') := zz_k_call f179_783 rfl rfl rfl
theorem f179_786 : zz_fetch zz_prog 179 786 = some (.aload_n 2, 1, [], []) := zz_fetch_of p179 rfl rfl
theorem s179_786 : zz_Run zz_prog d 179 (786, [l0, l1, some (.ref a), l3, l4, l5, l6], st, k, h) = zz_Run zz_prog d 179 (787, [l0, l1, some (.ref a), l3, l4, l5, l6], .ref a :: st, k, h) := zz_k_num f179_786 rfl
theorem f179_787 : zz_fetch zz_prog 179 787 = some (.invokevirtual 97, 3, [0, 89, 1, 2], []) := zz_fetch_of p179 rfl rfl
theorem s179_787 : zz_Run zz_prog d 179 (787, [l0, l1, l2, l3, l4, l5, l6], [.ref 23], k, (zz_hp n I J ex)) = zz_ret (zz_Call zz_prog d 89 [.ref 23] (zz_hp n I J ex)) (fun v k' h' => zz_Run zz_prog d 179 (790, [l0, l1, l2, l3, l4, l5, l6], v.toList ++ [], k && k', h')) (fun a k' h' => zz_th d 179 787 a [l0, l1, l2, l3, l4, l5, l6] (k && k') h') := zz_k_call f179_787 rfl rfl rfl
theorem f179_790 : zz_fetch zz_prog 179 790 = some (.iload 5, 2, [], []) := zz_fetch_of p179 rfl rfl
theorem s179_790 : zz_Run zz_prog d 179 (790, [l0, l1, l2, l3, l4, some (.int v), l6], st, k, h) = zz_Run zz_prog d 179 (792, [l0, l1, l2, l3, l4, some (.int v), l6], .int v :: st, k, h) := zz_k_num f179_790 rfl
theorem f179_792 : zz_fetch zz_prog 179 792 = some (.if_icmp .eq 5, 3, [797], []) := zz_fetch_of p179 rfl rfl
theorem s179_792 : zz_Run zz_prog d 179 (792, [l0, l1, l2, l3, l4, l5, l6], .int w :: .int v :: st, k, h) = if v = w then zz_Run zz_prog d 179 (797, [l0, l1, l2, l3, l4, l5, l6], st, k, h) else zz_Run zz_prog d 179 (795, [l0, l1, l2, l3, l4, l5, l6], st, k, h) := zz_k_br (v = w) rfl (zz_k_num f179_792 rfl)
theorem f179_795 : zz_fetch zz_prog 179 795 = some (.iconst 0, 1, [], []) := zz_fetch_of p179 rfl rfl
theorem s179_795 : zz_Run zz_prog d 179 (795, [l0, l1, l2, l3, l4, l5, l6], st, k, h) = zz_Run zz_prog d 179 (796, [l0, l1, l2, l3, l4, l5, l6], .int 0 :: st, k, h) := zz_k_num f179_795 rfl
theorem f179_796 : zz_fetch zz_prog 179 796 = some (.ireturn, 1, [1], []) := zz_fetch_of p179 rfl rfl
theorem s179_796 : zz_Run zz_prog d 179 (796, [l0, l1, l2, l3, l4, l5, l6], [.int v], k, h) = zz_ck (decide (v = 0 ∨ v = 1)) (some (.inl (some (.int v)), k, h)) := zz_k_retz f179_796
theorem f179_797 : zz_fetch zz_prog 179 797 = some (.goto 732, 3, [1529], []) := zz_fetch_of p179 rfl rfl
theorem s179_797 : zz_Run zz_prog d 179 (797, [l0, l1, l2, l3, l4, l5, l6], st, k, h) = zz_Run zz_prog d 179 (1529, [l0, l1, l2, l3, l4, l5, l6], st, k, h) := zz_k_num f179_797 rfl
theorem f179_800 : zz_fetch zz_prog 179 800 = some (.aload_n 1, 1, [], []) := zz_fetch_of p179 rfl rfl
theorem s179_800 : zz_Run zz_prog d 179 (800, [l0, some (.ref a), l2, l3, l4, l5, l6], st, k, h) = zz_Run zz_prog d 179 (801, [l0, some (.ref a), l2, l3, l4, l5, l6], .ref a :: st, k, h) := zz_k_num f179_800 rfl
theorem f179_801 : zz_fetch zz_prog 179 801 = some (.aload_n 3, 1, [], []) := zz_fetch_of p179 rfl rfl
theorem s179_801 : zz_Run zz_prog d 179 (801, [l0, l1, l2, some (.ref a), l4, l5, l6], st, k, h) = zz_Run zz_prog d 179 (802, [l0, l1, l2, some (.ref a), l4, l5, l6], .ref a :: st, k, h) := zz_k_num f179_801 rfl
theorem f179_802 : zz_fetch zz_prog 179 802 = some (.invokestatic 134, 3, [0, 167, 2], []) := zz_fetch_of p179 rfl rfl
theorem s179_802 : zz_Run zz_prog d 179 (802, [l0, l1, l2, l3, l4, l5, l6], [b0, b1], k, h) = zz_ret (zz_Call zz_prog d 167 [b1, b0] h) (fun v k' h' => zz_Run zz_prog d 179 (805, [l0, l1, l2, l3, l4, l5, l6], v.toList ++ [], k && k', h')) (fun a k' h' => zz_th d 179 802 a [l0, l1, l2, l3, l4, l5, l6] (k && k') h') := zz_k_call f179_802 rfl rfl rfl
theorem f179_805 : zz_fetch zz_prog 179 805 = some (.istore 5, 2, [], []) := zz_fetch_of p179 rfl rfl
theorem s179_805 : zz_Run zz_prog d 179 (805, [l0, l1, l2, l3, l4, l5, l6], .int v :: st, k, h) = zz_sl l4 (zz_Run zz_prog d 179 (807, [l0, l1, l2, l3, l4, some (.int v), l6], st, k, h)) := zz_k_st (j := 5) (u := .int v) f179_805 rfl (fun q hq => by cases hq) rfl (show 5 < 7 by decide) (by cases l4 <;> rfl) rfl
theorem f179_807 : zz_fetch zz_prog 179 807 = some (.aload_n 2, 1, [], []) := zz_fetch_of p179 rfl rfl
theorem s179_807 : zz_Run zz_prog d 179 (807, [l0, l1, some (.ref a), l3, l4, l5, l6], st, k, h) = zz_Run zz_prog d 179 (808, [l0, l1, some (.ref a), l3, l4, l5, l6], .ref a :: st, k, h) := zz_k_num f179_807 rfl
theorem f179_808 : zz_fetch zz_prog 179 808 = some (.invokevirtual 137, 3, [0, 137, 1, 2], []) := zz_fetch_of p179 rfl rfl
theorem s179_808 : zz_Run zz_prog d 179 (808, [l0, l1, l2, l3, l4, l5, l6], [.ref 23], k, (zz_hp n I J ex)) = zz_ret (zz_Call zz_prog d 137 [.ref 23] (zz_hp n I J ex)) (fun v k' h' => zz_Run zz_prog d 179 (811, [l0, l1, l2, l3, l4, l5, l6], v.toList ++ [], k && k', h')) (fun a k' h' => zz_th d 179 808 a [l0, l1, l2, l3, l4, l5, l6] (k && k') h') := zz_k_call f179_808 rfl rfl rfl
theorem f179_811 : zz_fetch zz_prog 179 811 = some (.istore 6, 2, [], []) := zz_fetch_of p179 rfl rfl
theorem s179_811 : zz_Run zz_prog d 179 (811, [l0, l1, l2, l3, l4, l5, l6], .int v :: st, k, h) = zz_sl l5 (zz_Run zz_prog d 179 (813, [l0, l1, l2, l3, l4, l5, some (.int v)], st, k, h)) := zz_k_st (j := 6) (u := .int v) f179_811 rfl (fun q hq => by cases hq) rfl (show 6 < 7 by decide) (by cases l5 <;> rfl) rfl
theorem f179_813 : zz_fetch zz_prog 179 813 = some (.aload_n 2, 1, [], []) := zz_fetch_of p179 rfl rfl
theorem s179_813 : zz_Run zz_prog d 179 (813, [l0, l1, some (.ref a), l3, l4, l5, l6], st, k, h) = zz_Run zz_prog d 179 (814, [l0, l1, some (.ref a), l3, l4, l5, l6], .ref a :: st, k, h) := zz_k_num f179_813 rfl
theorem f179_814 : zz_fetch zz_prog 179 814 = some (.invokevirtual 97, 3, [0, 89, 1, 2], []) := zz_fetch_of p179 rfl rfl
theorem s179_814 : zz_Run zz_prog d 179 (814, [l0, l1, l2, l3, l4, l5, l6], [.ref 23], k, (zz_hp n I J ex)) = zz_ret (zz_Call zz_prog d 89 [.ref 23] (zz_hp n I J ex)) (fun v k' h' => zz_Run zz_prog d 179 (817, [l0, l1, l2, l3, l4, l5, l6], v.toList ++ [], k && k', h')) (fun a k' h' => zz_th d 179 814 a [l0, l1, l2, l3, l4, l5, l6] (k && k') h') := zz_k_call f179_814 rfl rfl rfl
theorem f179_817 : zz_fetch zz_prog 179 817 = some (.iload 5, 2, [], []) := zz_fetch_of p179 rfl rfl
theorem s179_817 : zz_Run zz_prog d 179 (817, [l0, l1, l2, l3, l4, some (.int v), l6], st, k, h) = zz_Run zz_prog d 179 (819, [l0, l1, l2, l3, l4, some (.int v), l6], .int v :: st, k, h) := zz_k_num f179_817 rfl
theorem f179_819 : zz_fetch zz_prog 179 819 = some (.if_icmp .eq 5, 3, [824], []) := zz_fetch_of p179 rfl rfl
theorem s179_819 : zz_Run zz_prog d 179 (819, [l0, l1, l2, l3, l4, l5, l6], .int w :: .int v :: st, k, h) = if v = w then zz_Run zz_prog d 179 (824, [l0, l1, l2, l3, l4, l5, l6], st, k, h) else zz_Run zz_prog d 179 (822, [l0, l1, l2, l3, l4, l5, l6], st, k, h) := zz_k_br (v = w) rfl (zz_k_num f179_819 rfl)
theorem f179_822 : zz_fetch zz_prog 179 822 = some (.iconst 0, 1, [], []) := zz_fetch_of p179 rfl rfl
theorem s179_822 : zz_Run zz_prog d 179 (822, [l0, l1, l2, l3, l4, l5, l6], st, k, h) = zz_Run zz_prog d 179 (823, [l0, l1, l2, l3, l4, l5, l6], .int 0 :: st, k, h) := zz_k_num f179_822 rfl
theorem f179_823 : zz_fetch zz_prog 179 823 = some (.ireturn, 1, [1], []) := zz_fetch_of p179 rfl rfl
theorem s179_823 : zz_Run zz_prog d 179 (823, [l0, l1, l2, l3, l4, l5, l6], [.int v], k, h) = zz_ck (decide (v = 0 ∨ v = 1)) (some (.inl (some (.int v)), k, h)) := zz_k_retz f179_823
theorem f179_824 : zz_fetch zz_prog 179 824 = some (.iload 5, 2, [], []) := zz_fetch_of p179 rfl rfl
theorem s179_824 : zz_Run zz_prog d 179 (824, [l0, l1, l2, l3, l4, some (.int v), l6], st, k, h) = zz_Run zz_prog d 179 (826, [l0, l1, l2, l3, l4, some (.int v), l6], .int v :: st, k, h) := zz_k_num f179_824 rfl
theorem f179_826 : zz_fetch zz_prog 179 826 = some (.ifCond .ne 15, 3, [841], []) := zz_fetch_of p179 rfl rfl
theorem s179_826 : zz_Run zz_prog d 179 (826, [l0, l1, l2, l3, l4, l5, l6], .int v :: st, k, h) = if ¬ v = 0 then zz_Run zz_prog d 179 (841, [l0, l1, l2, l3, l4, l5, l6], st, k, h) else zz_Run zz_prog d 179 (829, [l0, l1, l2, l3, l4, l5, l6], st, k, h) := zz_k_br (¬ v = 0) rfl (zz_k_num f179_826 rfl)
theorem f179_829 : zz_fetch zz_prog 179 829 = some (.aload_n 3, 1, [], []) := zz_fetch_of p179 rfl rfl
theorem s179_829 : zz_Run zz_prog d 179 (829, [l0, l1, l2, some (.ref a), l4, l5, l6], st, k, h) = zz_Run zz_prog d 179 (830, [l0, l1, l2, some (.ref a), l4, l5, l6], .ref a :: st, k, h) := zz_k_num f179_829 rfl
theorem f179_830 : zz_fetch zz_prog 179 830 = some (.iconst 0, 1, [], []) := zz_fetch_of p179 rfl rfl
theorem s179_830 : zz_Run zz_prog d 179 (830, [l0, l1, l2, l3, l4, l5, l6], st, k, h) = zz_Run zz_prog d 179 (831, [l0, l1, l2, l3, l4, l5, l6], .int 0 :: st, k, h) := zz_k_num f179_830 rfl
theorem f179_831 : zz_fetch zz_prog 179 831 = some (.laload, 1, [], []) := zz_fetch_of p179 rfl rfl
theorem s179_831 : zz_Run zz_prog d 179 (831, [l0, l1, l2, l3, l4, l5, l6], .int 0 :: .ref 44 :: st, k, (zz_hp n I J ex)) = zz_Run zz_prog d 179 (832, [l0, l1, l2, l3, l4, l5, l6], .long (J 44 0) :: st, k, (zz_hp n I J ex)) := zz_k_go f179_831 rfl rfl rfl
theorem f179_832 : zz_fetch zz_prog 179 832 = some (.iload 6, 2, [], []) := zz_fetch_of p179 rfl rfl
theorem s179_832 : zz_Run zz_prog d 179 (832, [l0, l1, l2, l3, l4, l5, some (.int v)], st, k, h) = zz_Run zz_prog d 179 (834, [l0, l1, l2, l3, l4, l5, some (.int v)], .int v :: st, k, h) := zz_k_num f179_832 rfl
theorem f179_834 : zz_fetch zz_prog 179 834 = some (.i2l, 1, [], []) := zz_fetch_of p179 rfl rfl
theorem s179_834 : zz_Run zz_prog d 179 (834, [l0, l1, l2, l3, l4, l5, l6], .int v :: st, k, h) = zz_Run zz_prog d 179 (835, [l0, l1, l2, l3, l4, l5, l6], .long v.toInt64 :: st, k, h) := zz_k_num f179_834 rfl
theorem f179_835 : zz_fetch zz_prog 179 835 = some (.lcmp, 1, [], []) := zz_fetch_of p179 rfl rfl
theorem s179_835 : zz_Run zz_prog d 179 (835, [l0, l1, l2, l3, l4, l5, l6], .long y1 :: .long y :: st, k, h) = zz_Run zz_prog d 179 (836, [l0, l1, l2, l3, l4, l5, l6], .int (lg_cmp y y1) :: st, k, h) := zz_k_num f179_835 rfl
theorem f179_836 : zz_fetch zz_prog 179 836 = some (.ifCond .eq 5, 3, [841], []) := zz_fetch_of p179 rfl rfl
theorem s179_836 : zz_Run zz_prog d 179 (836, [l0, l1, l2, l3, l4, l5, l6], .int v :: st, k, h) = if v = 0 then zz_Run zz_prog d 179 (841, [l0, l1, l2, l3, l4, l5, l6], st, k, h) else zz_Run zz_prog d 179 (839, [l0, l1, l2, l3, l4, l5, l6], st, k, h) := zz_k_br (v = 0) rfl (zz_k_num f179_836 rfl)
theorem f179_839 : zz_fetch zz_prog 179 839 = some (.iconst 0, 1, [], []) := zz_fetch_of p179 rfl rfl
theorem s179_839 : zz_Run zz_prog d 179 (839, [l0, l1, l2, l3, l4, l5, l6], st, k, h) = zz_Run zz_prog d 179 (840, [l0, l1, l2, l3, l4, l5, l6], .int 0 :: st, k, h) := zz_k_num f179_839 rfl
theorem f179_840 : zz_fetch zz_prog 179 840 = some (.ireturn, 1, [1], []) := zz_fetch_of p179 rfl rfl
theorem s179_840 : zz_Run zz_prog d 179 (840, [l0, l1, l2, l3, l4, l5, l6], [.int v], k, h) = zz_ck (decide (v = 0 ∨ v = 1)) (some (.inl (some (.int v)), k, h)) := zz_k_retz f179_840
theorem f179_841 : zz_fetch zz_prog 179 841 = some (.goto 688, 3, [1529], []) := zz_fetch_of p179 rfl rfl
theorem s179_841 : zz_Run zz_prog d 179 (841, [l0, l1, l2, l3, l4, l5, l6], st, k, h) = zz_Run zz_prog d 179 (1529, [l0, l1, l2, l3, l4, l5, l6], st, k, h) := zz_k_num f179_841 rfl
theorem f179_844 : zz_fetch zz_prog 179 844 = some (.aload_n 1, 1, [], []) := zz_fetch_of p179 rfl rfl
theorem s179_844 : zz_Run zz_prog d 179 (844, [l0, some (.ref a), l2, l3, l4, l5, l6], st, k, h) = zz_Run zz_prog d 179 (845, [l0, some (.ref a), l2, l3, l4, l5, l6], .ref a :: st, k, h) := zz_k_num f179_844 rfl
theorem f179_845 : zz_fetch zz_prog 179 845 = some (.aload_n 3, 1, [], []) := zz_fetch_of p179 rfl rfl
theorem s179_845 : zz_Run zz_prog d 179 (845, [l0, l1, l2, some (.ref a), l4, l5, l6], st, k, h) = zz_Run zz_prog d 179 (846, [l0, l1, l2, some (.ref a), l4, l5, l6], .ref a :: st, k, h) := zz_k_num f179_845 rfl
theorem f179_846 : zz_fetch zz_prog 179 846 = some (.invokestatic 138, 3, [0, 168, 2], []) := zz_fetch_of p179 rfl rfl
theorem s179_846 : zz_Run zz_prog d 179 (846, [l0, l1, l2, l3, l4, l5, l6], [b0, b1], k, h) = zz_ret (zz_Call zz_prog d 168 [b1, b0] h) (fun v k' h' => zz_Run zz_prog d 179 (849, [l0, l1, l2, l3, l4, l5, l6], v.toList ++ [], k && k', h')) (fun a k' h' => zz_th d 179 846 a [l0, l1, l2, l3, l4, l5, l6] (k && k') h') := zz_k_call f179_846 rfl rfl rfl
theorem f179_849 : zz_fetch zz_prog 179 849 = some (.istore 5, 2, [], []) := zz_fetch_of p179 rfl rfl
theorem s179_849 : zz_Run zz_prog d 179 (849, [l0, l1, l2, l3, l4, l5, l6], .int v :: st, k, h) = zz_sl l4 (zz_Run zz_prog d 179 (851, [l0, l1, l2, l3, l4, some (.int v), l6], st, k, h)) := zz_k_st (j := 5) (u := .int v) f179_849 rfl (fun q hq => by cases hq) rfl (show 5 < 7 by decide) (by cases l4 <;> rfl) rfl
theorem f179_851 : zz_fetch zz_prog 179 851 = some (.aload_n 2, 1, [], []) := zz_fetch_of p179 rfl rfl
theorem s179_851 : zz_Run zz_prog d 179 (851, [l0, l1, some (.ref a), l3, l4, l5, l6], st, k, h) = zz_Run zz_prog d 179 (852, [l0, l1, some (.ref a), l3, l4, l5, l6], .ref a :: st, k, h) := zz_k_num f179_851 rfl
theorem f179_852 : zz_fetch zz_prog 179 852 = some (.invokevirtual 140, 3, [0, 138, 1, 2], []) := zz_fetch_of p179 rfl rfl
theorem s179_852 : zz_Run zz_prog d 179 (852, [l0, l1, l2, l3, l4, l5, l6], [.ref 23], k, (zz_hp n I J ex)) = zz_ret (zz_Call zz_prog d 138 [.ref 23] (zz_hp n I J ex)) (fun v k' h' => zz_Run zz_prog d 179 (855, [l0, l1, l2, l3, l4, l5, l6], v.toList ++ [], k && k', h')) (fun a k' h' => zz_th d 179 852 a [l0, l1, l2, l3, l4, l5, l6] (k && k') h') := zz_k_call f179_852 rfl rfl rfl
theorem f179_855 : zz_fetch zz_prog 179 855 = some (.istore 6, 2, [], []) := zz_fetch_of p179 rfl rfl
theorem s179_855 : zz_Run zz_prog d 179 (855, [l0, l1, l2, l3, l4, l5, l6], .int v :: st, k, h) = zz_sl l5 (zz_Run zz_prog d 179 (857, [l0, l1, l2, l3, l4, l5, some (.int v)], st, k, h)) := zz_k_st (j := 6) (u := .int v) f179_855 rfl (fun q hq => by cases hq) rfl (show 6 < 7 by decide) (by cases l5 <;> rfl) rfl
theorem f179_857 : zz_fetch zz_prog 179 857 = some (.aload_n 2, 1, [], []) := zz_fetch_of p179 rfl rfl
theorem s179_857 : zz_Run zz_prog d 179 (857, [l0, l1, some (.ref a), l3, l4, l5, l6], st, k, h) = zz_Run zz_prog d 179 (858, [l0, l1, some (.ref a), l3, l4, l5, l6], .ref a :: st, k, h) := zz_k_num f179_857 rfl
theorem f179_858 : zz_fetch zz_prog 179 858 = some (.invokevirtual 97, 3, [0, 89, 1, 2], []) := zz_fetch_of p179 rfl rfl
theorem s179_858 : zz_Run zz_prog d 179 (858, [l0, l1, l2, l3, l4, l5, l6], [.ref 23], k, (zz_hp n I J ex)) = zz_ret (zz_Call zz_prog d 89 [.ref 23] (zz_hp n I J ex)) (fun v k' h' => zz_Run zz_prog d 179 (861, [l0, l1, l2, l3, l4, l5, l6], v.toList ++ [], k && k', h')) (fun a k' h' => zz_th d 179 858 a [l0, l1, l2, l3, l4, l5, l6] (k && k') h') := zz_k_call f179_858 rfl rfl rfl
theorem f179_861 : zz_fetch zz_prog 179 861 = some (.iload 5, 2, [], []) := zz_fetch_of p179 rfl rfl
theorem s179_861 : zz_Run zz_prog d 179 (861, [l0, l1, l2, l3, l4, some (.int v), l6], st, k, h) = zz_Run zz_prog d 179 (863, [l0, l1, l2, l3, l4, some (.int v), l6], .int v :: st, k, h) := zz_k_num f179_861 rfl
theorem f179_863 : zz_fetch zz_prog 179 863 = some (.if_icmp .eq 5, 3, [868], []) := zz_fetch_of p179 rfl rfl
theorem s179_863 : zz_Run zz_prog d 179 (863, [l0, l1, l2, l3, l4, l5, l6], .int w :: .int v :: st, k, h) = if v = w then zz_Run zz_prog d 179 (868, [l0, l1, l2, l3, l4, l5, l6], st, k, h) else zz_Run zz_prog d 179 (866, [l0, l1, l2, l3, l4, l5, l6], st, k, h) := zz_k_br (v = w) rfl (zz_k_num f179_863 rfl)
theorem f179_866 : zz_fetch zz_prog 179 866 = some (.iconst 0, 1, [], []) := zz_fetch_of p179 rfl rfl
theorem s179_866 : zz_Run zz_prog d 179 (866, [l0, l1, l2, l3, l4, l5, l6], st, k, h) = zz_Run zz_prog d 179 (867, [l0, l1, l2, l3, l4, l5, l6], .int 0 :: st, k, h) := zz_k_num f179_866 rfl
theorem f179_867 : zz_fetch zz_prog 179 867 = some (.ireturn, 1, [1], []) := zz_fetch_of p179 rfl rfl
theorem s179_867 : zz_Run zz_prog d 179 (867, [l0, l1, l2, l3, l4, l5, l6], [.int v], k, h) = zz_ck (decide (v = 0 ∨ v = 1)) (some (.inl (some (.int v)), k, h)) := zz_k_retz f179_867
theorem f179_868 : zz_fetch zz_prog 179 868 = some (.iload 5, 2, [], []) := zz_fetch_of p179 rfl rfl
theorem s179_868 : zz_Run zz_prog d 179 (868, [l0, l1, l2, l3, l4, some (.int v), l6], st, k, h) = zz_Run zz_prog d 179 (870, [l0, l1, l2, l3, l4, some (.int v), l6], .int v :: st, k, h) := zz_k_num f179_868 rfl
theorem f179_870 : zz_fetch zz_prog 179 870 = some (.ifCond .ne 15, 3, [885], []) := zz_fetch_of p179 rfl rfl
theorem s179_870 : zz_Run zz_prog d 179 (870, [l0, l1, l2, l3, l4, l5, l6], .int v :: st, k, h) = if ¬ v = 0 then zz_Run zz_prog d 179 (885, [l0, l1, l2, l3, l4, l5, l6], st, k, h) else zz_Run zz_prog d 179 (873, [l0, l1, l2, l3, l4, l5, l6], st, k, h) := zz_k_br (¬ v = 0) rfl (zz_k_num f179_870 rfl)
theorem f179_873 : zz_fetch zz_prog 179 873 = some (.aload_n 3, 1, [], []) := zz_fetch_of p179 rfl rfl
theorem s179_873 : zz_Run zz_prog d 179 (873, [l0, l1, l2, some (.ref a), l4, l5, l6], st, k, h) = zz_Run zz_prog d 179 (874, [l0, l1, l2, some (.ref a), l4, l5, l6], .ref a :: st, k, h) := zz_k_num f179_873 rfl
theorem f179_874 : zz_fetch zz_prog 179 874 = some (.iconst 0, 1, [], []) := zz_fetch_of p179 rfl rfl
theorem s179_874 : zz_Run zz_prog d 179 (874, [l0, l1, l2, l3, l4, l5, l6], st, k, h) = zz_Run zz_prog d 179 (875, [l0, l1, l2, l3, l4, l5, l6], .int 0 :: st, k, h) := zz_k_num f179_874 rfl
theorem f179_875 : zz_fetch zz_prog 179 875 = some (.laload, 1, [], []) := zz_fetch_of p179 rfl rfl
theorem s179_875 : zz_Run zz_prog d 179 (875, [l0, l1, l2, l3, l4, l5, l6], .int 0 :: .ref 44 :: st, k, (zz_hp n I J ex)) = zz_Run zz_prog d 179 (876, [l0, l1, l2, l3, l4, l5, l6], .long (J 44 0) :: st, k, (zz_hp n I J ex)) := zz_k_go f179_875 rfl rfl rfl
theorem f179_876 : zz_fetch zz_prog 179 876 = some (.iload 6, 2, [], []) := zz_fetch_of p179 rfl rfl
theorem s179_876 : zz_Run zz_prog d 179 (876, [l0, l1, l2, l3, l4, l5, some (.int v)], st, k, h) = zz_Run zz_prog d 179 (878, [l0, l1, l2, l3, l4, l5, some (.int v)], .int v :: st, k, h) := zz_k_num f179_876 rfl
theorem f179_878 : zz_fetch zz_prog 179 878 = some (.i2l, 1, [], []) := zz_fetch_of p179 rfl rfl
theorem s179_878 : zz_Run zz_prog d 179 (878, [l0, l1, l2, l3, l4, l5, l6], .int v :: st, k, h) = zz_Run zz_prog d 179 (879, [l0, l1, l2, l3, l4, l5, l6], .long v.toInt64 :: st, k, h) := zz_k_num f179_878 rfl
theorem f179_879 : zz_fetch zz_prog 179 879 = some (.lcmp, 1, [], []) := zz_fetch_of p179 rfl rfl
theorem s179_879 : zz_Run zz_prog d 179 (879, [l0, l1, l2, l3, l4, l5, l6], .long y1 :: .long y :: st, k, h) = zz_Run zz_prog d 179 (880, [l0, l1, l2, l3, l4, l5, l6], .int (lg_cmp y y1) :: st, k, h) := zz_k_num f179_879 rfl
theorem f179_880 : zz_fetch zz_prog 179 880 = some (.ifCond .eq 5, 3, [885], []) := zz_fetch_of p179 rfl rfl
theorem s179_880 : zz_Run zz_prog d 179 (880, [l0, l1, l2, l3, l4, l5, l6], .int v :: st, k, h) = if v = 0 then zz_Run zz_prog d 179 (885, [l0, l1, l2, l3, l4, l5, l6], st, k, h) else zz_Run zz_prog d 179 (883, [l0, l1, l2, l3, l4, l5, l6], st, k, h) := zz_k_br (v = 0) rfl (zz_k_num f179_880 rfl)
theorem f179_883 : zz_fetch zz_prog 179 883 = some (.iconst 0, 1, [], []) := zz_fetch_of p179 rfl rfl
theorem s179_883 : zz_Run zz_prog d 179 (883, [l0, l1, l2, l3, l4, l5, l6], st, k, h) = zz_Run zz_prog d 179 (884, [l0, l1, l2, l3, l4, l5, l6], .int 0 :: st, k, h) := zz_k_num f179_883 rfl
theorem f179_884 : zz_fetch zz_prog 179 884 = some (.ireturn, 1, [1], []) := zz_fetch_of p179 rfl rfl
theorem s179_884 : zz_Run zz_prog d 179 (884, [l0, l1, l2, l3, l4, l5, l6], [.int v], k, h) = zz_ck (decide (v = 0 ∨ v = 1)) (some (.inl (some (.int v)), k, h)) := zz_k_retz f179_884
theorem f179_885 : zz_fetch zz_prog 179 885 = some (.goto 644, 3, [1529], []) := zz_fetch_of p179 rfl rfl
theorem s179_885 : zz_Run zz_prog d 179 (885, [l0, l1, l2, l3, l4, l5, l6], st, k, h) = zz_Run zz_prog d 179 (1529, [l0, l1, l2, l3, l4, l5, l6], st, k, h) := zz_k_num f179_885 rfl
theorem f179_888 : zz_fetch zz_prog 179 888 = some (.aload_n 1, 1, [], []) := zz_fetch_of p179 rfl rfl
theorem s179_888 : zz_Run zz_prog d 179 (888, [l0, some (.ref a), l2, l3, l4, l5, l6], st, k, h) = zz_Run zz_prog d 179 (889, [l0, some (.ref a), l2, l3, l4, l5, l6], .ref a :: st, k, h) := zz_k_num f179_888 rfl
theorem f179_889 : zz_fetch zz_prog 179 889 = some (.aload_n 0, 1, [], []) := zz_fetch_of p179 rfl rfl
theorem s179_889 : zz_Run zz_prog d 179 (889, [some (.ref a), l1, l2, l3, l4, l5, l6], st, k, h) = zz_Run zz_prog d 179 (890, [some (.ref a), l1, l2, l3, l4, l5, l6], .ref a :: st, k, h) := zz_k_num f179_889 rfl
theorem f179_890 : zz_fetch zz_prog 179 890 = some (.iload 4, 2, [], []) := zz_fetch_of p179 rfl rfl
theorem s179_890 : zz_Run zz_prog d 179 (890, [l0, l1, l2, l3, some (.int v), l5, l6], st, k, h) = zz_Run zz_prog d 179 (892, [l0, l1, l2, l3, some (.int v), l5, l6], .int v :: st, k, h) := zz_k_num f179_890 rfl
theorem f179_892 : zz_fetch zz_prog 179 892 = some (.iconst 1, 1, [], []) := zz_fetch_of p179 rfl rfl
theorem s179_892 : zz_Run zz_prog d 179 (892, [l0, l1, l2, l3, l4, l5, l6], st, k, h) = zz_Run zz_prog d 179 (893, [l0, l1, l2, l3, l4, l5, l6], .int 1 :: st, k, h) := zz_k_num f179_892 rfl
theorem f179_893 : zz_fetch zz_prog 179 893 = some (.iadd, 1, [], []) := zz_fetch_of p179 rfl rfl
theorem s179_893 : zz_Run zz_prog d 179 (893, [l0, l1, l2, l3, l4, l5, l6], .int w :: .int v :: st, k, h) = zz_Run zz_prog d 179 (894, [l0, l1, l2, l3, l4, l5, l6], .int (v + w) :: st, k, h) := zz_k_num f179_893 rfl
theorem f179_894 : zz_fetch zz_prog 179 894 = some (.iaload, 1, [], []) := zz_fetch_of p179 rfl rfl
theorem s179_894 (ha : zz_isrd a = true) : zz_Run zz_prog d 179 (894, [l0, l1, l2, l3, l4, l5, l6], .int v :: .ref a :: st, k, (zz_hp n I J ex)) = zz_ck (zz_in v (zz_ary n a)) (zz_Run zz_prog d 179 (895, [l0, l1, l2, l3, l4, l5, l6], .int (I a v.toNatClampNeg) :: st, k, (zz_hp n I J ex))) := zz_k_iald f179_894 ha
theorem f179_895 : zz_fetch zz_prog 179 895 = some (.aload_n 0, 1, [], []) := zz_fetch_of p179 rfl rfl
theorem s179_895 : zz_Run zz_prog d 179 (895, [some (.ref a), l1, l2, l3, l4, l5, l6], st, k, h) = zz_Run zz_prog d 179 (896, [some (.ref a), l1, l2, l3, l4, l5, l6], .ref a :: st, k, h) := zz_k_num f179_895 rfl
theorem f179_896 : zz_fetch zz_prog 179 896 = some (.iload 4, 2, [], []) := zz_fetch_of p179 rfl rfl
theorem s179_896 : zz_Run zz_prog d 179 (896, [l0, l1, l2, l3, some (.int v), l5, l6], st, k, h) = zz_Run zz_prog d 179 (898, [l0, l1, l2, l3, some (.int v), l5, l6], .int v :: st, k, h) := zz_k_num f179_896 rfl
theorem f179_898 : zz_fetch zz_prog 179 898 = some (.iconst 2, 1, [], []) := zz_fetch_of p179 rfl rfl
theorem s179_898 : zz_Run zz_prog d 179 (898, [l0, l1, l2, l3, l4, l5, l6], st, k, h) = zz_Run zz_prog d 179 (899, [l0, l1, l2, l3, l4, l5, l6], .int 2 :: st, k, h) := zz_k_num f179_898 rfl
theorem f179_899 : zz_fetch zz_prog 179 899 = some (.iadd, 1, [], []) := zz_fetch_of p179 rfl rfl
theorem s179_899 : zz_Run zz_prog d 179 (899, [l0, l1, l2, l3, l4, l5, l6], .int w :: .int v :: st, k, h) = zz_Run zz_prog d 179 (900, [l0, l1, l2, l3, l4, l5, l6], .int (v + w) :: st, k, h) := zz_k_num f179_899 rfl
theorem f179_900 : zz_fetch zz_prog 179 900 = some (.iaload, 1, [], []) := zz_fetch_of p179 rfl rfl
theorem s179_900 (ha : zz_isrd a = true) : zz_Run zz_prog d 179 (900, [l0, l1, l2, l3, l4, l5, l6], .int v :: .ref a :: st, k, (zz_hp n I J ex)) = zz_ck (zz_in v (zz_ary n a)) (zz_Run zz_prog d 179 (901, [l0, l1, l2, l3, l4, l5, l6], .int (I a v.toNatClampNeg) :: st, k, (zz_hp n I J ex))) := zz_k_iald f179_900 ha
theorem f179_901 : zz_fetch zz_prog 179 901 = some (.aload_n 0, 1, [], []) := zz_fetch_of p179 rfl rfl
theorem s179_901 : zz_Run zz_prog d 179 (901, [some (.ref a), l1, l2, l3, l4, l5, l6], st, k, h) = zz_Run zz_prog d 179 (902, [some (.ref a), l1, l2, l3, l4, l5, l6], .ref a :: st, k, h) := zz_k_num f179_901 rfl
theorem f179_902 : zz_fetch zz_prog 179 902 = some (.iload 4, 2, [], []) := zz_fetch_of p179 rfl rfl
theorem s179_902 : zz_Run zz_prog d 179 (902, [l0, l1, l2, l3, some (.int v), l5, l6], st, k, h) = zz_Run zz_prog d 179 (904, [l0, l1, l2, l3, some (.int v), l5, l6], .int v :: st, k, h) := zz_k_num f179_902 rfl
theorem f179_904 : zz_fetch zz_prog 179 904 = some (.iconst 3, 1, [], []) := zz_fetch_of p179 rfl rfl
theorem s179_904 : zz_Run zz_prog d 179 (904, [l0, l1, l2, l3, l4, l5, l6], st, k, h) = zz_Run zz_prog d 179 (905, [l0, l1, l2, l3, l4, l5, l6], .int 3 :: st, k, h) := zz_k_num f179_904 rfl
theorem f179_905 : zz_fetch zz_prog 179 905 = some (.iadd, 1, [], []) := zz_fetch_of p179 rfl rfl
theorem s179_905 : zz_Run zz_prog d 179 (905, [l0, l1, l2, l3, l4, l5, l6], .int w :: .int v :: st, k, h) = zz_Run zz_prog d 179 (906, [l0, l1, l2, l3, l4, l5, l6], .int (v + w) :: st, k, h) := zz_k_num f179_905 rfl
theorem f179_906 : zz_fetch zz_prog 179 906 = some (.iaload, 1, [], []) := zz_fetch_of p179 rfl rfl
theorem s179_906 (ha : zz_isrd a = true) : zz_Run zz_prog d 179 (906, [l0, l1, l2, l3, l4, l5, l6], .int v :: .ref a :: st, k, (zz_hp n I J ex)) = zz_ck (zz_in v (zz_ary n a)) (zz_Run zz_prog d 179 (907, [l0, l1, l2, l3, l4, l5, l6], .int (I a v.toNatClampNeg) :: st, k, (zz_hp n I J ex))) := zz_k_iald f179_906 ha
theorem f179_907 : zz_fetch zz_prog 179 907 = some (.aload_n 3, 1, [], []) := zz_fetch_of p179 rfl rfl
theorem s179_907 : zz_Run zz_prog d 179 (907, [l0, l1, l2, some (.ref a), l4, l5, l6], st, k, h) = zz_Run zz_prog d 179 (908, [l0, l1, l2, some (.ref a), l4, l5, l6], .ref a :: st, k, h) := zz_k_num f179_907 rfl
theorem f179_908 : zz_fetch zz_prog 179 908 = some (.invokestatic 141, 3, [0, 169, 5], []) := zz_fetch_of p179 rfl rfl
theorem s179_908 : zz_Run zz_prog d 179 (908, [l0, l1, l2, l3, l4, l5, l6], [b0, b1, b2, b3, b4], k, h) = zz_ret (zz_Call zz_prog d 169 [b4, b3, b2, b1, b0] h) (fun v k' h' => zz_Run zz_prog d 179 (911, [l0, l1, l2, l3, l4, l5, l6], v.toList ++ [], k && k', h')) (fun a k' h' => zz_th d 179 908 a [l0, l1, l2, l3, l4, l5, l6] (k && k') h') := zz_k_call f179_908 rfl rfl rfl
theorem f179_911 : zz_fetch zz_prog 179 911 = some (.istore 5, 2, [], []) := zz_fetch_of p179 rfl rfl
theorem s179_911 : zz_Run zz_prog d 179 (911, [l0, l1, l2, l3, l4, l5, l6], .int v :: st, k, h) = zz_sl l4 (zz_Run zz_prog d 179 (913, [l0, l1, l2, l3, l4, some (.int v), l6], st, k, h)) := zz_k_st (j := 5) (u := .int v) f179_911 rfl (fun q hq => by cases hq) rfl (show 5 < 7 by decide) (by cases l4 <;> rfl) rfl
theorem f179_913 : zz_fetch zz_prog 179 913 = some (.aload_n 2, 1, [], []) := zz_fetch_of p179 rfl rfl
theorem s179_913 : zz_Run zz_prog d 179 (913, [l0, l1, some (.ref a), l3, l4, l5, l6], st, k, h) = zz_Run zz_prog d 179 (914, [l0, l1, some (.ref a), l3, l4, l5, l6], .ref a :: st, k, h) := zz_k_num f179_913 rfl
theorem f179_914 : zz_fetch zz_prog 179 914 = some (.aload_n 0, 1, [], []) := zz_fetch_of p179 rfl rfl
theorem s179_914 : zz_Run zz_prog d 179 (914, [some (.ref a), l1, l2, l3, l4, l5, l6], st, k, h) = zz_Run zz_prog d 179 (915, [some (.ref a), l1, l2, l3, l4, l5, l6], .ref a :: st, k, h) := zz_k_num f179_914 rfl
theorem f179_915 : zz_fetch zz_prog 179 915 = some (.iload 4, 2, [], []) := zz_fetch_of p179 rfl rfl
theorem s179_915 : zz_Run zz_prog d 179 (915, [l0, l1, l2, l3, some (.int v), l5, l6], st, k, h) = zz_Run zz_prog d 179 (917, [l0, l1, l2, l3, some (.int v), l5, l6], .int v :: st, k, h) := zz_k_num f179_915 rfl
theorem f179_917 : zz_fetch zz_prog 179 917 = some (.iconst 1, 1, [], []) := zz_fetch_of p179 rfl rfl
theorem s179_917 : zz_Run zz_prog d 179 (917, [l0, l1, l2, l3, l4, l5, l6], st, k, h) = zz_Run zz_prog d 179 (918, [l0, l1, l2, l3, l4, l5, l6], .int 1 :: st, k, h) := zz_k_num f179_917 rfl
theorem f179_918 : zz_fetch zz_prog 179 918 = some (.iadd, 1, [], []) := zz_fetch_of p179 rfl rfl
theorem s179_918 : zz_Run zz_prog d 179 (918, [l0, l1, l2, l3, l4, l5, l6], .int w :: .int v :: st, k, h) = zz_Run zz_prog d 179 (919, [l0, l1, l2, l3, l4, l5, l6], .int (v + w) :: st, k, h) := zz_k_num f179_918 rfl
theorem f179_919 : zz_fetch zz_prog 179 919 = some (.iaload, 1, [], []) := zz_fetch_of p179 rfl rfl
theorem s179_919 (ha : zz_isrd a = true) : zz_Run zz_prog d 179 (919, [l0, l1, l2, l3, l4, l5, l6], .int v :: .ref a :: st, k, (zz_hp n I J ex)) = zz_ck (zz_in v (zz_ary n a)) (zz_Run zz_prog d 179 (920, [l0, l1, l2, l3, l4, l5, l6], .int (I a v.toNatClampNeg) :: st, k, (zz_hp n I J ex))) := zz_k_iald f179_919 ha
theorem f179_920 : zz_fetch zz_prog 179 920 = some (.aload_n 0, 1, [], []) := zz_fetch_of p179 rfl rfl
theorem s179_920 : zz_Run zz_prog d 179 (920, [some (.ref a), l1, l2, l3, l4, l5, l6], st, k, h) = zz_Run zz_prog d 179 (921, [some (.ref a), l1, l2, l3, l4, l5, l6], .ref a :: st, k, h) := zz_k_num f179_920 rfl
theorem f179_921 : zz_fetch zz_prog 179 921 = some (.iload 4, 2, [], []) := zz_fetch_of p179 rfl rfl
theorem s179_921 : zz_Run zz_prog d 179 (921, [l0, l1, l2, l3, some (.int v), l5, l6], st, k, h) = zz_Run zz_prog d 179 (923, [l0, l1, l2, l3, some (.int v), l5, l6], .int v :: st, k, h) := zz_k_num f179_921 rfl
theorem f179_923 : zz_fetch zz_prog 179 923 = some (.iconst 2, 1, [], []) := zz_fetch_of p179 rfl rfl
theorem s179_923 : zz_Run zz_prog d 179 (923, [l0, l1, l2, l3, l4, l5, l6], st, k, h) = zz_Run zz_prog d 179 (924, [l0, l1, l2, l3, l4, l5, l6], .int 2 :: st, k, h) := zz_k_num f179_923 rfl
theorem f179_924 : zz_fetch zz_prog 179 924 = some (.iadd, 1, [], []) := zz_fetch_of p179 rfl rfl
theorem s179_924 : zz_Run zz_prog d 179 (924, [l0, l1, l2, l3, l4, l5, l6], .int w :: .int v :: st, k, h) = zz_Run zz_prog d 179 (925, [l0, l1, l2, l3, l4, l5, l6], .int (v + w) :: st, k, h) := zz_k_num f179_924 rfl
theorem f179_925 : zz_fetch zz_prog 179 925 = some (.iaload, 1, [], []) := zz_fetch_of p179 rfl rfl
theorem s179_925 (ha : zz_isrd a = true) : zz_Run zz_prog d 179 (925, [l0, l1, l2, l3, l4, l5, l6], .int v :: .ref a :: st, k, (zz_hp n I J ex)) = zz_ck (zz_in v (zz_ary n a)) (zz_Run zz_prog d 179 (926, [l0, l1, l2, l3, l4, l5, l6], .int (I a v.toNatClampNeg) :: st, k, (zz_hp n I J ex))) := zz_k_iald f179_925 ha
theorem f179_926 : zz_fetch zz_prog 179 926 = some (.aload_n 0, 1, [], []) := zz_fetch_of p179 rfl rfl
theorem s179_926 : zz_Run zz_prog d 179 (926, [some (.ref a), l1, l2, l3, l4, l5, l6], st, k, h) = zz_Run zz_prog d 179 (927, [some (.ref a), l1, l2, l3, l4, l5, l6], .ref a :: st, k, h) := zz_k_num f179_926 rfl
theorem f179_927 : zz_fetch zz_prog 179 927 = some (.iload 4, 2, [], []) := zz_fetch_of p179 rfl rfl
theorem s179_927 : zz_Run zz_prog d 179 (927, [l0, l1, l2, l3, some (.int v), l5, l6], st, k, h) = zz_Run zz_prog d 179 (929, [l0, l1, l2, l3, some (.int v), l5, l6], .int v :: st, k, h) := zz_k_num f179_927 rfl
theorem f179_929 : zz_fetch zz_prog 179 929 = some (.iconst 3, 1, [], []) := zz_fetch_of p179 rfl rfl
theorem s179_929 : zz_Run zz_prog d 179 (929, [l0, l1, l2, l3, l4, l5, l6], st, k, h) = zz_Run zz_prog d 179 (930, [l0, l1, l2, l3, l4, l5, l6], .int 3 :: st, k, h) := zz_k_num f179_929 rfl
theorem f179_930 : zz_fetch zz_prog 179 930 = some (.iadd, 1, [], []) := zz_fetch_of p179 rfl rfl
theorem s179_930 : zz_Run zz_prog d 179 (930, [l0, l1, l2, l3, l4, l5, l6], .int w :: .int v :: st, k, h) = zz_Run zz_prog d 179 (931, [l0, l1, l2, l3, l4, l5, l6], .int (v + w) :: st, k, h) := zz_k_num f179_930 rfl
theorem f179_931 : zz_fetch zz_prog 179 931 = some (.iaload, 1, [], []) := zz_fetch_of p179 rfl rfl
theorem s179_931 (ha : zz_isrd a = true) : zz_Run zz_prog d 179 (931, [l0, l1, l2, l3, l4, l5, l6], .int v :: .ref a :: st, k, (zz_hp n I J ex)) = zz_ck (zz_in v (zz_ary n a)) (zz_Run zz_prog d 179 (932, [l0, l1, l2, l3, l4, l5, l6], .int (I a v.toNatClampNeg) :: st, k, (zz_hp n I J ex))) := zz_k_iald f179_931 ha
theorem f179_932 : zz_fetch zz_prog 179 932 = some (.invokevirtual 143, 3, [0, 141, 4, 2], []) := zz_fetch_of p179 rfl rfl
theorem s179_932 : zz_Run zz_prog d 179 (932, [l0, l1, l2, l3, l4, l5, l6], [b0, b1, b2, .ref 23], k, (zz_hp n I J ex)) = zz_ret (zz_Call zz_prog d 141 [.ref 23, b2, b1, b0] (zz_hp n I J ex)) (fun v k' h' => zz_Run zz_prog d 179 (935, [l0, l1, l2, l3, l4, l5, l6], v.toList ++ [], k && k', h')) (fun a k' h' => zz_th d 179 932 a [l0, l1, l2, l3, l4, l5, l6] (k && k') h') := zz_k_call f179_932 rfl rfl rfl
theorem f179_935 : zz_fetch zz_prog 179 935 = some (.istore 6, 2, [], []) := zz_fetch_of p179 rfl rfl
theorem s179_935 : zz_Run zz_prog d 179 (935, [l0, l1, l2, l3, l4, l5, l6], .int v :: st, k, h) = zz_sl l5 (zz_Run zz_prog d 179 (937, [l0, l1, l2, l3, l4, l5, some (.int v)], st, k, h)) := zz_k_st (j := 6) (u := .int v) f179_935 rfl (fun q hq => by cases hq) rfl (show 6 < 7 by decide) (by cases l5 <;> rfl) rfl
theorem f179_937 : zz_fetch zz_prog 179 937 = some (.aload_n 2, 1, [], []) := zz_fetch_of p179 rfl rfl
theorem s179_937 : zz_Run zz_prog d 179 (937, [l0, l1, some (.ref a), l3, l4, l5, l6], st, k, h) = zz_Run zz_prog d 179 (938, [l0, l1, some (.ref a), l3, l4, l5, l6], .ref a :: st, k, h) := zz_k_num f179_937 rfl
theorem f179_938 : zz_fetch zz_prog 179 938 = some (.invokevirtual 97, 3, [0, 89, 1, 2], []) := zz_fetch_of p179 rfl rfl
theorem s179_938 : zz_Run zz_prog d 179 (938, [l0, l1, l2, l3, l4, l5, l6], [.ref 23], k, (zz_hp n I J ex)) = zz_ret (zz_Call zz_prog d 89 [.ref 23] (zz_hp n I J ex)) (fun v k' h' => zz_Run zz_prog d 179 (941, [l0, l1, l2, l3, l4, l5, l6], v.toList ++ [], k && k', h')) (fun a k' h' => zz_th d 179 938 a [l0, l1, l2, l3, l4, l5, l6] (k && k') h') := zz_k_call f179_938 rfl rfl rfl
theorem f179_941 : zz_fetch zz_prog 179 941 = some (.iload 5, 2, [], []) := zz_fetch_of p179 rfl rfl
theorem s179_941 : zz_Run zz_prog d 179 (941, [l0, l1, l2, l3, l4, some (.int v), l6], st, k, h) = zz_Run zz_prog d 179 (943, [l0, l1, l2, l3, l4, some (.int v), l6], .int v :: st, k, h) := zz_k_num f179_941 rfl
theorem f179_943 : zz_fetch zz_prog 179 943 = some (.if_icmp .eq 5, 3, [948], []) := zz_fetch_of p179 rfl rfl
theorem s179_943 : zz_Run zz_prog d 179 (943, [l0, l1, l2, l3, l4, l5, l6], .int w :: .int v :: st, k, h) = if v = w then zz_Run zz_prog d 179 (948, [l0, l1, l2, l3, l4, l5, l6], st, k, h) else zz_Run zz_prog d 179 (946, [l0, l1, l2, l3, l4, l5, l6], st, k, h) := zz_k_br (v = w) rfl (zz_k_num f179_943 rfl)
theorem f179_946 : zz_fetch zz_prog 179 946 = some (.iconst 0, 1, [], []) := zz_fetch_of p179 rfl rfl
theorem s179_946 : zz_Run zz_prog d 179 (946, [l0, l1, l2, l3, l4, l5, l6], st, k, h) = zz_Run zz_prog d 179 (947, [l0, l1, l2, l3, l4, l5, l6], .int 0 :: st, k, h) := zz_k_num f179_946 rfl
theorem f179_947 : zz_fetch zz_prog 179 947 = some (.ireturn, 1, [1], []) := zz_fetch_of p179 rfl rfl
theorem s179_947 : zz_Run zz_prog d 179 (947, [l0, l1, l2, l3, l4, l5, l6], [.int v], k, h) = zz_ck (decide (v = 0 ∨ v = 1)) (some (.inl (some (.int v)), k, h)) := zz_k_retz f179_947
theorem f179_948 : zz_fetch zz_prog 179 948 = some (.iload 5, 2, [], []) := zz_fetch_of p179 rfl rfl
theorem s179_948 : zz_Run zz_prog d 179 (948, [l0, l1, l2, l3, l4, some (.int v), l6], st, k, h) = zz_Run zz_prog d 179 (950, [l0, l1, l2, l3, l4, some (.int v), l6], .int v :: st, k, h) := zz_k_num f179_948 rfl
theorem f179_950 : zz_fetch zz_prog 179 950 = some (.ifCond .ne 15, 3, [965], []) := zz_fetch_of p179 rfl rfl
theorem s179_950 : zz_Run zz_prog d 179 (950, [l0, l1, l2, l3, l4, l5, l6], .int v :: st, k, h) = if ¬ v = 0 then zz_Run zz_prog d 179 (965, [l0, l1, l2, l3, l4, l5, l6], st, k, h) else zz_Run zz_prog d 179 (953, [l0, l1, l2, l3, l4, l5, l6], st, k, h) := zz_k_br (¬ v = 0) rfl (zz_k_num f179_950 rfl)
theorem f179_953 : zz_fetch zz_prog 179 953 = some (.aload_n 3, 1, [], []) := zz_fetch_of p179 rfl rfl
theorem s179_953 : zz_Run zz_prog d 179 (953, [l0, l1, l2, some (.ref a), l4, l5, l6], st, k, h) = zz_Run zz_prog d 179 (954, [l0, l1, l2, some (.ref a), l4, l5, l6], .ref a :: st, k, h) := zz_k_num f179_953 rfl
theorem f179_954 : zz_fetch zz_prog 179 954 = some (.iconst 0, 1, [], []) := zz_fetch_of p179 rfl rfl
theorem s179_954 : zz_Run zz_prog d 179 (954, [l0, l1, l2, l3, l4, l5, l6], st, k, h) = zz_Run zz_prog d 179 (955, [l0, l1, l2, l3, l4, l5, l6], .int 0 :: st, k, h) := zz_k_num f179_954 rfl
theorem f179_955 : zz_fetch zz_prog 179 955 = some (.laload, 1, [], []) := zz_fetch_of p179 rfl rfl
theorem s179_955 : zz_Run zz_prog d 179 (955, [l0, l1, l2, l3, l4, l5, l6], .int 0 :: .ref 44 :: st, k, (zz_hp n I J ex)) = zz_Run zz_prog d 179 (956, [l0, l1, l2, l3, l4, l5, l6], .long (J 44 0) :: st, k, (zz_hp n I J ex)) := zz_k_go f179_955 rfl rfl rfl
theorem f179_956 : zz_fetch zz_prog 179 956 = some (.iload 6, 2, [], []) := zz_fetch_of p179 rfl rfl
theorem s179_956 : zz_Run zz_prog d 179 (956, [l0, l1, l2, l3, l4, l5, some (.int v)], st, k, h) = zz_Run zz_prog d 179 (958, [l0, l1, l2, l3, l4, l5, some (.int v)], .int v :: st, k, h) := zz_k_num f179_956 rfl
theorem f179_958 : zz_fetch zz_prog 179 958 = some (.i2l, 1, [], []) := zz_fetch_of p179 rfl rfl
theorem s179_958 : zz_Run zz_prog d 179 (958, [l0, l1, l2, l3, l4, l5, l6], .int v :: st, k, h) = zz_Run zz_prog d 179 (959, [l0, l1, l2, l3, l4, l5, l6], .long v.toInt64 :: st, k, h) := zz_k_num f179_958 rfl
theorem f179_959 : zz_fetch zz_prog 179 959 = some (.lcmp, 1, [], []) := zz_fetch_of p179 rfl rfl
theorem s179_959 : zz_Run zz_prog d 179 (959, [l0, l1, l2, l3, l4, l5, l6], .long y1 :: .long y :: st, k, h) = zz_Run zz_prog d 179 (960, [l0, l1, l2, l3, l4, l5, l6], .int (lg_cmp y y1) :: st, k, h) := zz_k_num f179_959 rfl
theorem f179_960 : zz_fetch zz_prog 179 960 = some (.ifCond .eq 5, 3, [965], []) := zz_fetch_of p179 rfl rfl
theorem s179_960 : zz_Run zz_prog d 179 (960, [l0, l1, l2, l3, l4, l5, l6], .int v :: st, k, h) = if v = 0 then zz_Run zz_prog d 179 (965, [l0, l1, l2, l3, l4, l5, l6], st, k, h) else zz_Run zz_prog d 179 (963, [l0, l1, l2, l3, l4, l5, l6], st, k, h) := zz_k_br (v = 0) rfl (zz_k_num f179_960 rfl)
theorem f179_963 : zz_fetch zz_prog 179 963 = some (.iconst 0, 1, [], []) := zz_fetch_of p179 rfl rfl
theorem s179_963 : zz_Run zz_prog d 179 (963, [l0, l1, l2, l3, l4, l5, l6], st, k, h) = zz_Run zz_prog d 179 (964, [l0, l1, l2, l3, l4, l5, l6], .int 0 :: st, k, h) := zz_k_num f179_963 rfl
theorem f179_964 : zz_fetch zz_prog 179 964 = some (.ireturn, 1, [1], []) := zz_fetch_of p179 rfl rfl
theorem s179_964 : zz_Run zz_prog d 179 (964, [l0, l1, l2, l3, l4, l5, l6], [.int v], k, h) = zz_ck (decide (v = 0 ∨ v = 1)) (some (.inl (some (.int v)), k, h)) := zz_k_retz f179_964
theorem f179_965 : zz_fetch zz_prog 179 965 = some (.goto 564, 3, [1529], []) := zz_fetch_of p179 rfl rfl
theorem s179_965 : zz_Run zz_prog d 179 (965, [l0, l1, l2, l3, l4, l5, l6], st, k, h) = zz_Run zz_prog d 179 (1529, [l0, l1, l2, l3, l4, l5, l6], st, k, h) := zz_k_num f179_965 rfl
theorem f179_968 : zz_fetch zz_prog 179 968 = some (.aload_n 1, 1, [], []) := zz_fetch_of p179 rfl rfl
theorem s179_968 : zz_Run zz_prog d 179 (968, [l0, some (.ref a), l2, l3, l4, l5, l6], st, k, h) = zz_Run zz_prog d 179 (969, [l0, some (.ref a), l2, l3, l4, l5, l6], .ref a :: st, k, h) := zz_k_num f179_968 rfl
theorem f179_969 : zz_fetch zz_prog 179 969 = some (.aload_n 3, 1, [], []) := zz_fetch_of p179 rfl rfl
theorem s179_969 : zz_Run zz_prog d 179 (969, [l0, l1, l2, some (.ref a), l4, l5, l6], st, k, h) = zz_Run zz_prog d 179 (970, [l0, l1, l2, some (.ref a), l4, l5, l6], .ref a :: st, k, h) := zz_k_num f179_969 rfl
theorem f179_970 : zz_fetch zz_prog 179 970 = some (.invokestatic 144, 3, [0, 170, 2], []) := zz_fetch_of p179 rfl rfl
theorem s179_970 : zz_Run zz_prog d 179 (970, [l0, l1, l2, l3, l4, l5, l6], [b0, b1], k, h) = zz_ret (zz_Call zz_prog d 170 [b1, b0] h) (fun v k' h' => zz_Run zz_prog d 179 (973, [l0, l1, l2, l3, l4, l5, l6], v.toList ++ [], k && k', h')) (fun a k' h' => zz_th d 179 970 a [l0, l1, l2, l3, l4, l5, l6] (k && k') h') := zz_k_call f179_970 rfl rfl rfl
theorem f179_973 : zz_fetch zz_prog 179 973 = some (.istore 5, 2, [], []) := zz_fetch_of p179 rfl rfl
theorem s179_973 : zz_Run zz_prog d 179 (973, [l0, l1, l2, l3, l4, l5, l6], .int v :: st, k, h) = zz_sl l4 (zz_Run zz_prog d 179 (975, [l0, l1, l2, l3, l4, some (.int v), l6], st, k, h)) := zz_k_st (j := 5) (u := .int v) f179_973 rfl (fun q hq => by cases hq) rfl (show 5 < 7 by decide) (by cases l4 <;> rfl) rfl
theorem f179_975 : zz_fetch zz_prog 179 975 = some (.aload_n 2, 1, [], []) := zz_fetch_of p179 rfl rfl
theorem s179_975 : zz_Run zz_prog d 179 (975, [l0, l1, some (.ref a), l3, l4, l5, l6], st, k, h) = zz_Run zz_prog d 179 (976, [l0, l1, some (.ref a), l3, l4, l5, l6], .ref a :: st, k, h) := zz_k_num f179_975 rfl
theorem f179_976 : zz_fetch zz_prog 179 976 = some (.invokevirtual 146, 3, [0, 142, 1, 2], []) := zz_fetch_of p179 rfl rfl
theorem s179_976 : zz_Run zz_prog d 179 (976, [l0, l1, l2, l3, l4, l5, l6], [.ref 23], k, (zz_hp n I J ex)) = zz_ret (zz_Call zz_prog d 142 [.ref 23] (zz_hp n I J ex)) (fun v k' h' => zz_Run zz_prog d 179 (979, [l0, l1, l2, l3, l4, l5, l6], v.toList ++ [], k && k', h')) (fun a k' h' => zz_th d 179 976 a [l0, l1, l2, l3, l4, l5, l6] (k && k') h') := zz_k_call f179_976 rfl rfl rfl
theorem f179_979 : zz_fetch zz_prog 179 979 = some (.istore 6, 2, [], []) := zz_fetch_of p179 rfl rfl
theorem s179_979 : zz_Run zz_prog d 179 (979, [l0, l1, l2, l3, l4, l5, l6], .int v :: st, k, h) = zz_sl l5 (zz_Run zz_prog d 179 (981, [l0, l1, l2, l3, l4, l5, some (.int v)], st, k, h)) := zz_k_st (j := 6) (u := .int v) f179_979 rfl (fun q hq => by cases hq) rfl (show 6 < 7 by decide) (by cases l5 <;> rfl) rfl
theorem f179_981 : zz_fetch zz_prog 179 981 = some (.aload_n 2, 1, [], []) := zz_fetch_of p179 rfl rfl
theorem s179_981 : zz_Run zz_prog d 179 (981, [l0, l1, some (.ref a), l3, l4, l5, l6], st, k, h) = zz_Run zz_prog d 179 (982, [l0, l1, some (.ref a), l3, l4, l5, l6], .ref a :: st, k, h) := zz_k_num f179_981 rfl
theorem f179_982 : zz_fetch zz_prog 179 982 = some (.invokevirtual 97, 3, [0, 89, 1, 2], []) := zz_fetch_of p179 rfl rfl
theorem s179_982 : zz_Run zz_prog d 179 (982, [l0, l1, l2, l3, l4, l5, l6], [.ref 23], k, (zz_hp n I J ex)) = zz_ret (zz_Call zz_prog d 89 [.ref 23] (zz_hp n I J ex)) (fun v k' h' => zz_Run zz_prog d 179 (985, [l0, l1, l2, l3, l4, l5, l6], v.toList ++ [], k && k', h')) (fun a k' h' => zz_th d 179 982 a [l0, l1, l2, l3, l4, l5, l6] (k && k') h') := zz_k_call f179_982 rfl rfl rfl
theorem f179_985 : zz_fetch zz_prog 179 985 = some (.iload 5, 2, [], []) := zz_fetch_of p179 rfl rfl
theorem s179_985 : zz_Run zz_prog d 179 (985, [l0, l1, l2, l3, l4, some (.int v), l6], st, k, h) = zz_Run zz_prog d 179 (987, [l0, l1, l2, l3, l4, some (.int v), l6], .int v :: st, k, h) := zz_k_num f179_985 rfl
theorem f179_987 : zz_fetch zz_prog 179 987 = some (.if_icmp .eq 5, 3, [992], []) := zz_fetch_of p179 rfl rfl
theorem s179_987 : zz_Run zz_prog d 179 (987, [l0, l1, l2, l3, l4, l5, l6], .int w :: .int v :: st, k, h) = if v = w then zz_Run zz_prog d 179 (992, [l0, l1, l2, l3, l4, l5, l6], st, k, h) else zz_Run zz_prog d 179 (990, [l0, l1, l2, l3, l4, l5, l6], st, k, h) := zz_k_br (v = w) rfl (zz_k_num f179_987 rfl)
theorem f179_990 : zz_fetch zz_prog 179 990 = some (.iconst 0, 1, [], []) := zz_fetch_of p179 rfl rfl
theorem s179_990 : zz_Run zz_prog d 179 (990, [l0, l1, l2, l3, l4, l5, l6], st, k, h) = zz_Run zz_prog d 179 (991, [l0, l1, l2, l3, l4, l5, l6], .int 0 :: st, k, h) := zz_k_num f179_990 rfl
theorem f179_991 : zz_fetch zz_prog 179 991 = some (.ireturn, 1, [1], []) := zz_fetch_of p179 rfl rfl
theorem s179_991 : zz_Run zz_prog d 179 (991, [l0, l1, l2, l3, l4, l5, l6], [.int v], k, h) = zz_ck (decide (v = 0 ∨ v = 1)) (some (.inl (some (.int v)), k, h)) := zz_k_retz f179_991
theorem f179_992 : zz_fetch zz_prog 179 992 = some (.iload 5, 2, [], []) := zz_fetch_of p179 rfl rfl
theorem s179_992 : zz_Run zz_prog d 179 (992, [l0, l1, l2, l3, l4, some (.int v), l6], st, k, h) = zz_Run zz_prog d 179 (994, [l0, l1, l2, l3, l4, some (.int v), l6], .int v :: st, k, h) := zz_k_num f179_992 rfl
theorem f179_994 : zz_fetch zz_prog 179 994 = some (.ifCond .ne 15, 3, [1009], []) := zz_fetch_of p179 rfl rfl
theorem s179_994 : zz_Run zz_prog d 179 (994, [l0, l1, l2, l3, l4, l5, l6], .int v :: st, k, h) = if ¬ v = 0 then zz_Run zz_prog d 179 (1009, [l0, l1, l2, l3, l4, l5, l6], st, k, h) else zz_Run zz_prog d 179 (997, [l0, l1, l2, l3, l4, l5, l6], st, k, h) := zz_k_br (¬ v = 0) rfl (zz_k_num f179_994 rfl)
theorem f179_997 : zz_fetch zz_prog 179 997 = some (.aload_n 3, 1, [], []) := zz_fetch_of p179 rfl rfl
theorem s179_997 : zz_Run zz_prog d 179 (997, [l0, l1, l2, some (.ref a), l4, l5, l6], st, k, h) = zz_Run zz_prog d 179 (998, [l0, l1, l2, some (.ref a), l4, l5, l6], .ref a :: st, k, h) := zz_k_num f179_997 rfl
theorem f179_998 : zz_fetch zz_prog 179 998 = some (.iconst 0, 1, [], []) := zz_fetch_of p179 rfl rfl
theorem s179_998 : zz_Run zz_prog d 179 (998, [l0, l1, l2, l3, l4, l5, l6], st, k, h) = zz_Run zz_prog d 179 (999, [l0, l1, l2, l3, l4, l5, l6], .int 0 :: st, k, h) := zz_k_num f179_998 rfl
theorem f179_999 : zz_fetch zz_prog 179 999 = some (.laload, 1, [], []) := zz_fetch_of p179 rfl rfl
theorem s179_999 : zz_Run zz_prog d 179 (999, [l0, l1, l2, l3, l4, l5, l6], .int 0 :: .ref 44 :: st, k, (zz_hp n I J ex)) = zz_Run zz_prog d 179 (1000, [l0, l1, l2, l3, l4, l5, l6], .long (J 44 0) :: st, k, (zz_hp n I J ex)) := zz_k_go f179_999 rfl rfl rfl
theorem f179_1000 : zz_fetch zz_prog 179 1000 = some (.iload 6, 2, [], []) := zz_fetch_of p179 rfl rfl
theorem s179_1000 : zz_Run zz_prog d 179 (1000, [l0, l1, l2, l3, l4, l5, some (.int v)], st, k, h) = zz_Run zz_prog d 179 (1002, [l0, l1, l2, l3, l4, l5, some (.int v)], .int v :: st, k, h) := zz_k_num f179_1000 rfl
theorem f179_1002 : zz_fetch zz_prog 179 1002 = some (.i2l, 1, [], []) := zz_fetch_of p179 rfl rfl
theorem s179_1002 : zz_Run zz_prog d 179 (1002, [l0, l1, l2, l3, l4, l5, l6], .int v :: st, k, h) = zz_Run zz_prog d 179 (1003, [l0, l1, l2, l3, l4, l5, l6], .long v.toInt64 :: st, k, h) := zz_k_num f179_1002 rfl
theorem f179_1003 : zz_fetch zz_prog 179 1003 = some (.lcmp, 1, [], []) := zz_fetch_of p179 rfl rfl
theorem s179_1003 : zz_Run zz_prog d 179 (1003, [l0, l1, l2, l3, l4, l5, l6], .long y1 :: .long y :: st, k, h) = zz_Run zz_prog d 179 (1004, [l0, l1, l2, l3, l4, l5, l6], .int (lg_cmp y y1) :: st, k, h) := zz_k_num f179_1003 rfl
theorem f179_1004 : zz_fetch zz_prog 179 1004 = some (.ifCond .eq 5, 3, [1009], []) := zz_fetch_of p179 rfl rfl
theorem s179_1004 : zz_Run zz_prog d 179 (1004, [l0, l1, l2, l3, l4, l5, l6], .int v :: st, k, h) = if v = 0 then zz_Run zz_prog d 179 (1009, [l0, l1, l2, l3, l4, l5, l6], st, k, h) else zz_Run zz_prog d 179 (1007, [l0, l1, l2, l3, l4, l5, l6], st, k, h) := zz_k_br (v = 0) rfl (zz_k_num f179_1004 rfl)
theorem f179_1007 : zz_fetch zz_prog 179 1007 = some (.iconst 0, 1, [], []) := zz_fetch_of p179 rfl rfl
theorem s179_1007 : zz_Run zz_prog d 179 (1007, [l0, l1, l2, l3, l4, l5, l6], st, k, h) = zz_Run zz_prog d 179 (1008, [l0, l1, l2, l3, l4, l5, l6], .int 0 :: st, k, h) := zz_k_num f179_1007 rfl
theorem f179_1008 : zz_fetch zz_prog 179 1008 = some (.ireturn, 1, [1], []) := zz_fetch_of p179 rfl rfl
theorem s179_1008 : zz_Run zz_prog d 179 (1008, [l0, l1, l2, l3, l4, l5, l6], [.int v], k, h) = zz_ck (decide (v = 0 ∨ v = 1)) (some (.inl (some (.int v)), k, h)) := zz_k_retz f179_1008
theorem f179_1009 : zz_fetch zz_prog 179 1009 = some (.goto 520, 3, [1529], []) := zz_fetch_of p179 rfl rfl
theorem s179_1009 : zz_Run zz_prog d 179 (1009, [l0, l1, l2, l3, l4, l5, l6], st, k, h) = zz_Run zz_prog d 179 (1529, [l0, l1, l2, l3, l4, l5, l6], st, k, h) := zz_k_num f179_1009 rfl
theorem f179_1012 : zz_fetch zz_prog 179 1012 = some (.aload_n 1, 1, [], []) := zz_fetch_of p179 rfl rfl
theorem s179_1012 : zz_Run zz_prog d 179 (1012, [l0, some (.ref a), l2, l3, l4, l5, l6], st, k, h) = zz_Run zz_prog d 179 (1013, [l0, some (.ref a), l2, l3, l4, l5, l6], .ref a :: st, k, h) := zz_k_num f179_1012 rfl
theorem f179_1013 : zz_fetch zz_prog 179 1013 = some (.aload_n 3, 1, [], []) := zz_fetch_of p179 rfl rfl
theorem s179_1013 : zz_Run zz_prog d 179 (1013, [l0, l1, l2, some (.ref a), l4, l5, l6], st, k, h) = zz_Run zz_prog d 179 (1014, [l0, l1, l2, some (.ref a), l4, l5, l6], .ref a :: st, k, h) := zz_k_num f179_1013 rfl
theorem f179_1014 : zz_fetch zz_prog 179 1014 = some (.invokestatic 147, 3, [0, 171, 2], []) := zz_fetch_of p179 rfl rfl
theorem s179_1014 : zz_Run zz_prog d 179 (1014, [l0, l1, l2, l3, l4, l5, l6], [b0, b1], k, h) = zz_ret (zz_Call zz_prog d 171 [b1, b0] h) (fun v k' h' => zz_Run zz_prog d 179 (1017, [l0, l1, l2, l3, l4, l5, l6], v.toList ++ [], k && k', h')) (fun a k' h' => zz_th d 179 1014 a [l0, l1, l2, l3, l4, l5, l6] (k && k') h') := zz_k_call f179_1014 rfl rfl rfl
theorem f179_1017 : zz_fetch zz_prog 179 1017 = some (.istore 5, 2, [], []) := zz_fetch_of p179 rfl rfl
theorem s179_1017 : zz_Run zz_prog d 179 (1017, [l0, l1, l2, l3, l4, l5, l6], .int v :: st, k, h) = zz_sl l4 (zz_Run zz_prog d 179 (1019, [l0, l1, l2, l3, l4, some (.int v), l6], st, k, h)) := zz_k_st (j := 5) (u := .int v) f179_1017 rfl (fun q hq => by cases hq) rfl (show 5 < 7 by decide) (by cases l4 <;> rfl) rfl
theorem f179_1019 : zz_fetch zz_prog 179 1019 = some (.aload_n 2, 1, [], []) := zz_fetch_of p179 rfl rfl
theorem s179_1019 : zz_Run zz_prog d 179 (1019, [l0, l1, some (.ref a), l3, l4, l5, l6], st, k, h) = zz_Run zz_prog d 179 (1020, [l0, l1, some (.ref a), l3, l4, l5, l6], .ref a :: st, k, h) := zz_k_num f179_1019 rfl
theorem f179_1020 : zz_fetch zz_prog 179 1020 = some (.invokevirtual 149, 3, [0, 143, 1, 2], []) := zz_fetch_of p179 rfl rfl
theorem s179_1020 : zz_Run zz_prog d 179 (1020, [l0, l1, l2, l3, l4, l5, l6], [.ref 23], k, (zz_hp n I J ex)) = zz_ret (zz_Call zz_prog d 143 [.ref 23] (zz_hp n I J ex)) (fun v k' h' => zz_Run zz_prog d 179 (1023, [l0, l1, l2, l3, l4, l5, l6], v.toList ++ [], k && k', h')) (fun a k' h' => zz_th d 179 1020 a [l0, l1, l2, l3, l4, l5, l6] (k && k') h') := zz_k_call f179_1020 rfl rfl rfl
theorem f179_1023 : zz_fetch zz_prog 179 1023 = some (.istore 6, 2, [], []) := zz_fetch_of p179 rfl rfl
theorem s179_1023 : zz_Run zz_prog d 179 (1023, [l0, l1, l2, l3, l4, l5, l6], .int v :: st, k, h) = zz_sl l5 (zz_Run zz_prog d 179 (1025, [l0, l1, l2, l3, l4, l5, some (.int v)], st, k, h)) := zz_k_st (j := 6) (u := .int v) f179_1023 rfl (fun q hq => by cases hq) rfl (show 6 < 7 by decide) (by cases l5 <;> rfl) rfl
theorem f179_1025 : zz_fetch zz_prog 179 1025 = some (.aload_n 2, 1, [], []) := zz_fetch_of p179 rfl rfl
theorem s179_1025 : zz_Run zz_prog d 179 (1025, [l0, l1, some (.ref a), l3, l4, l5, l6], st, k, h) = zz_Run zz_prog d 179 (1026, [l0, l1, some (.ref a), l3, l4, l5, l6], .ref a :: st, k, h) := zz_k_num f179_1025 rfl
theorem f179_1026 : zz_fetch zz_prog 179 1026 = some (.invokevirtual 97, 3, [0, 89, 1, 2], []) := zz_fetch_of p179 rfl rfl
theorem s179_1026 : zz_Run zz_prog d 179 (1026, [l0, l1, l2, l3, l4, l5, l6], [.ref 23], k, (zz_hp n I J ex)) = zz_ret (zz_Call zz_prog d 89 [.ref 23] (zz_hp n I J ex)) (fun v k' h' => zz_Run zz_prog d 179 (1029, [l0, l1, l2, l3, l4, l5, l6], v.toList ++ [], k && k', h')) (fun a k' h' => zz_th d 179 1026 a [l0, l1, l2, l3, l4, l5, l6] (k && k') h') := zz_k_call f179_1026 rfl rfl rfl
theorem f179_1029 : zz_fetch zz_prog 179 1029 = some (.iload 5, 2, [], []) := zz_fetch_of p179 rfl rfl
theorem s179_1029 : zz_Run zz_prog d 179 (1029, [l0, l1, l2, l3, l4, some (.int v), l6], st, k, h) = zz_Run zz_prog d 179 (1031, [l0, l1, l2, l3, l4, some (.int v), l6], .int v :: st, k, h) := zz_k_num f179_1029 rfl
theorem f179_1031 : zz_fetch zz_prog 179 1031 = some (.if_icmp .eq 5, 3, [1036], []) := zz_fetch_of p179 rfl rfl
theorem s179_1031 : zz_Run zz_prog d 179 (1031, [l0, l1, l2, l3, l4, l5, l6], .int w :: .int v :: st, k, h) = if v = w then zz_Run zz_prog d 179 (1036, [l0, l1, l2, l3, l4, l5, l6], st, k, h) else zz_Run zz_prog d 179 (1034, [l0, l1, l2, l3, l4, l5, l6], st, k, h) := zz_k_br (v = w) rfl (zz_k_num f179_1031 rfl)
theorem f179_1034 : zz_fetch zz_prog 179 1034 = some (.iconst 0, 1, [], []) := zz_fetch_of p179 rfl rfl
theorem s179_1034 : zz_Run zz_prog d 179 (1034, [l0, l1, l2, l3, l4, l5, l6], st, k, h) = zz_Run zz_prog d 179 (1035, [l0, l1, l2, l3, l4, l5, l6], .int 0 :: st, k, h) := zz_k_num f179_1034 rfl
theorem f179_1035 : zz_fetch zz_prog 179 1035 = some (.ireturn, 1, [1], []) := zz_fetch_of p179 rfl rfl
theorem s179_1035 : zz_Run zz_prog d 179 (1035, [l0, l1, l2, l3, l4, l5, l6], [.int v], k, h) = zz_ck (decide (v = 0 ∨ v = 1)) (some (.inl (some (.int v)), k, h)) := zz_k_retz f179_1035
theorem f179_1036 : zz_fetch zz_prog 179 1036 = some (.iload 5, 2, [], []) := zz_fetch_of p179 rfl rfl
theorem s179_1036 : zz_Run zz_prog d 179 (1036, [l0, l1, l2, l3, l4, some (.int v), l6], st, k, h) = zz_Run zz_prog d 179 (1038, [l0, l1, l2, l3, l4, some (.int v), l6], .int v :: st, k, h) := zz_k_num f179_1036 rfl
theorem f179_1038 : zz_fetch zz_prog 179 1038 = some (.ifCond .ne 15, 3, [1053], []) := zz_fetch_of p179 rfl rfl
theorem s179_1038 : zz_Run zz_prog d 179 (1038, [l0, l1, l2, l3, l4, l5, l6], .int v :: st, k, h) = if ¬ v = 0 then zz_Run zz_prog d 179 (1053, [l0, l1, l2, l3, l4, l5, l6], st, k, h) else zz_Run zz_prog d 179 (1041, [l0, l1, l2, l3, l4, l5, l6], st, k, h) := zz_k_br (¬ v = 0) rfl (zz_k_num f179_1038 rfl)
theorem f179_1041 : zz_fetch zz_prog 179 1041 = some (.aload_n 3, 1, [], []) := zz_fetch_of p179 rfl rfl
theorem s179_1041 : zz_Run zz_prog d 179 (1041, [l0, l1, l2, some (.ref a), l4, l5, l6], st, k, h) = zz_Run zz_prog d 179 (1042, [l0, l1, l2, some (.ref a), l4, l5, l6], .ref a :: st, k, h) := zz_k_num f179_1041 rfl
theorem f179_1042 : zz_fetch zz_prog 179 1042 = some (.iconst 0, 1, [], []) := zz_fetch_of p179 rfl rfl
theorem s179_1042 : zz_Run zz_prog d 179 (1042, [l0, l1, l2, l3, l4, l5, l6], st, k, h) = zz_Run zz_prog d 179 (1043, [l0, l1, l2, l3, l4, l5, l6], .int 0 :: st, k, h) := zz_k_num f179_1042 rfl
theorem f179_1043 : zz_fetch zz_prog 179 1043 = some (.laload, 1, [], []) := zz_fetch_of p179 rfl rfl
theorem s179_1043 : zz_Run zz_prog d 179 (1043, [l0, l1, l2, l3, l4, l5, l6], .int 0 :: .ref 44 :: st, k, (zz_hp n I J ex)) = zz_Run zz_prog d 179 (1044, [l0, l1, l2, l3, l4, l5, l6], .long (J 44 0) :: st, k, (zz_hp n I J ex)) := zz_k_go f179_1043 rfl rfl rfl
theorem f179_1044 : zz_fetch zz_prog 179 1044 = some (.iload 6, 2, [], []) := zz_fetch_of p179 rfl rfl
theorem s179_1044 : zz_Run zz_prog d 179 (1044, [l0, l1, l2, l3, l4, l5, some (.int v)], st, k, h) = zz_Run zz_prog d 179 (1046, [l0, l1, l2, l3, l4, l5, some (.int v)], .int v :: st, k, h) := zz_k_num f179_1044 rfl
theorem f179_1046 : zz_fetch zz_prog 179 1046 = some (.i2l, 1, [], []) := zz_fetch_of p179 rfl rfl
theorem s179_1046 : zz_Run zz_prog d 179 (1046, [l0, l1, l2, l3, l4, l5, l6], .int v :: st, k, h) = zz_Run zz_prog d 179 (1047, [l0, l1, l2, l3, l4, l5, l6], .long v.toInt64 :: st, k, h) := zz_k_num f179_1046 rfl
theorem f179_1047 : zz_fetch zz_prog 179 1047 = some (.lcmp, 1, [], []) := zz_fetch_of p179 rfl rfl
theorem s179_1047 : zz_Run zz_prog d 179 (1047, [l0, l1, l2, l3, l4, l5, l6], .long y1 :: .long y :: st, k, h) = zz_Run zz_prog d 179 (1048, [l0, l1, l2, l3, l4, l5, l6], .int (lg_cmp y y1) :: st, k, h) := zz_k_num f179_1047 rfl
theorem f179_1048 : zz_fetch zz_prog 179 1048 = some (.ifCond .eq 5, 3, [1053], []) := zz_fetch_of p179 rfl rfl
theorem s179_1048 : zz_Run zz_prog d 179 (1048, [l0, l1, l2, l3, l4, l5, l6], .int v :: st, k, h) = if v = 0 then zz_Run zz_prog d 179 (1053, [l0, l1, l2, l3, l4, l5, l6], st, k, h) else zz_Run zz_prog d 179 (1051, [l0, l1, l2, l3, l4, l5, l6], st, k, h) := zz_k_br (v = 0) rfl (zz_k_num f179_1048 rfl)
theorem f179_1051 : zz_fetch zz_prog 179 1051 = some (.iconst 0, 1, [], []) := zz_fetch_of p179 rfl rfl
theorem s179_1051 : zz_Run zz_prog d 179 (1051, [l0, l1, l2, l3, l4, l5, l6], st, k, h) = zz_Run zz_prog d 179 (1052, [l0, l1, l2, l3, l4, l5, l6], .int 0 :: st, k, h) := zz_k_num f179_1051 rfl
theorem f179_1052 : zz_fetch zz_prog 179 1052 = some (.ireturn, 1, [1], []) := zz_fetch_of p179 rfl rfl
theorem s179_1052 : zz_Run zz_prog d 179 (1052, [l0, l1, l2, l3, l4, l5, l6], [.int v], k, h) = zz_ck (decide (v = 0 ∨ v = 1)) (some (.inl (some (.int v)), k, h)) := zz_k_retz f179_1052
theorem f179_1053 : zz_fetch zz_prog 179 1053 = some (.goto 476, 3, [1529], []) := zz_fetch_of p179 rfl rfl
theorem s179_1053 : zz_Run zz_prog d 179 (1053, [l0, l1, l2, l3, l4, l5, l6], st, k, h) = zz_Run zz_prog d 179 (1529, [l0, l1, l2, l3, l4, l5, l6], st, k, h) := zz_k_num f179_1053 rfl
theorem f179_1056 : zz_fetch zz_prog 179 1056 = some (.aload_n 1, 1, [], []) := zz_fetch_of p179 rfl rfl
theorem s179_1056 : zz_Run zz_prog d 179 (1056, [l0, some (.ref a), l2, l3, l4, l5, l6], st, k, h) = zz_Run zz_prog d 179 (1057, [l0, some (.ref a), l2, l3, l4, l5, l6], .ref a :: st, k, h) := zz_k_num f179_1056 rfl
theorem f179_1057 : zz_fetch zz_prog 179 1057 = some (.invokevirtual 150, 3, [0, 16, 1, 1], []) := zz_fetch_of p179 rfl rfl
theorem s179_1057 : zz_Run zz_prog d 179 (1057, [l0, l1, l2, l3, l4, l5, l6], [.ref 5], k, (zz_hp n I J ex)) = zz_ret (zz_Call zz_prog d 16 [.ref 5] (zz_hp n I J ex)) (fun v k' h' => zz_Run zz_prog d 179 (1060, [l0, l1, l2, l3, l4, l5, l6], v.toList ++ [], k && k', h')) (fun a k' h' => zz_th d 179 1057 a [l0, l1, l2, l3, l4, l5, l6] (k && k') h') := zz_k_call f179_1057 rfl rfl rfl
theorem f179_1060 : zz_fetch zz_prog 179 1060 = some (.aload_n 2, 1, [], []) := zz_fetch_of p179 rfl rfl
theorem s179_1060 : zz_Run zz_prog d 179 (1060, [l0, l1, some (.ref a), l3, l4, l5, l6], st, k, h) = zz_Run zz_prog d 179 (1061, [l0, l1, some (.ref a), l3, l4, l5, l6], .ref a :: st, k, h) := zz_k_num f179_1060 rfl
theorem f179_1061 : zz_fetch zz_prog 179 1061 = some (.invokevirtual 153, 3, [0, 144, 1, 2], []) := zz_fetch_of p179 rfl rfl
theorem s179_1061 : zz_Run zz_prog d 179 (1061, [l0, l1, l2, l3, l4, l5, l6], [.ref 23, b1], k, (zz_hp n I J ex)) = zz_ret (zz_Call zz_prog d 144 [.ref 23] (zz_hp n I J ex)) (fun v k' h' => zz_Run zz_prog d 179 (1064, [l0, l1, l2, l3, l4, l5, l6], v.toList ++ [b1], k && k', h')) (fun a k' h' => zz_th d 179 1061 a [l0, l1, l2, l3, l4, l5, l6] (k && k') h') := zz_k_call f179_1061 rfl rfl rfl
theorem f179_1064 : zz_fetch zz_prog 179 1064 = some (.if_icmp .eq 465, 3, [1529], []) := zz_fetch_of p179 rfl rfl
theorem s179_1064 : zz_Run zz_prog d 179 (1064, [l0, l1, l2, l3, l4, l5, l6], .int w :: .int v :: st, k, h) = if v = w then zz_Run zz_prog d 179 (1529, [l0, l1, l2, l3, l4, l5, l6], st, k, h) else zz_Run zz_prog d 179 (1067, [l0, l1, l2, l3, l4, l5, l6], st, k, h) := zz_k_br (v = w) rfl (zz_k_num f179_1064 rfl)
theorem f179_1067 : zz_fetch zz_prog 179 1067 = some (.iconst 0, 1, [], []) := zz_fetch_of p179 rfl rfl
theorem s179_1067 : zz_Run zz_prog d 179 (1067, [l0, l1, l2, l3, l4, l5, l6], st, k, h) = zz_Run zz_prog d 179 (1068, [l0, l1, l2, l3, l4, l5, l6], .int 0 :: st, k, h) := zz_k_num f179_1067 rfl
theorem f179_1068 : zz_fetch zz_prog 179 1068 = some (.ireturn, 1, [1], []) := zz_fetch_of p179 rfl rfl
theorem s179_1068 : zz_Run zz_prog d 179 (1068, [l0, l1, l2, l3, l4, l5, l6], [.int v], k, h) = zz_ck (decide (v = 0 ∨ v = 1)) (some (.inl (some (.int v)), k, h)) := zz_k_retz f179_1068
theorem f179_1069 : zz_fetch zz_prog 179 1069 = some (.aload_n 1, 1, [], []) := zz_fetch_of p179 rfl rfl
theorem s179_1069 : zz_Run zz_prog d 179 (1069, [l0, some (.ref a), l2, l3, l4, l5, l6], st, k, h) = zz_Run zz_prog d 179 (1070, [l0, some (.ref a), l2, l3, l4, l5, l6], .ref a :: st, k, h) := zz_k_num f179_1069 rfl
theorem f179_1070 : zz_fetch zz_prog 179 1070 = some (.invokevirtual 154, 3, [0, 17, 1, 1], []) := zz_fetch_of p179 rfl rfl
theorem s179_1070 : zz_Run zz_prog d 179 (1070, [l0, l1, l2, l3, l4, l5, l6], [.ref 5], k, (zz_hp n I J ex)) = zz_ret (zz_Call zz_prog d 17 [.ref 5] (zz_hp n I J ex)) (fun v k' h' => zz_Run zz_prog d 179 (1073, [l0, l1, l2, l3, l4, l5, l6], v.toList ++ [], k && k', h')) (fun a k' h' => zz_th d 179 1070 a [l0, l1, l2, l3, l4, l5, l6] (k && k') h') := zz_k_call f179_1070 rfl rfl rfl
theorem f179_1073 : zz_fetch zz_prog 179 1073 = some (.aload_n 2, 1, [], []) := zz_fetch_of p179 rfl rfl
theorem s179_1073 : zz_Run zz_prog d 179 (1073, [l0, l1, some (.ref a), l3, l4, l5, l6], st, k, h) = zz_Run zz_prog d 179 (1074, [l0, l1, some (.ref a), l3, l4, l5, l6], .ref a :: st, k, h) := zz_k_num f179_1073 rfl
theorem f179_1074 : zz_fetch zz_prog 179 1074 = some (.invokevirtual 157, 3, [0, 145, 1, 2], []) := zz_fetch_of p179 rfl rfl
theorem s179_1074 : zz_Run zz_prog d 179 (1074, [l0, l1, l2, l3, l4, l5, l6], [.ref 23, b1], k, (zz_hp n I J ex)) = zz_ret (zz_Call zz_prog d 145 [.ref 23] (zz_hp n I J ex)) (fun v k' h' => zz_Run zz_prog d 179 (1077, [l0, l1, l2, l3, l4, l5, l6], v.toList ++ [b1], k && k', h')) (fun a k' h' => zz_th d 179 1074 a [l0, l1, l2, l3, l4, l5, l6] (k && k') h') := zz_k_call f179_1074 rfl rfl rfl
theorem f179_1077 : zz_fetch zz_prog 179 1077 = some (.if_icmp .eq 452, 3, [1529], []) := zz_fetch_of p179 rfl rfl
theorem s179_1077 : zz_Run zz_prog d 179 (1077, [l0, l1, l2, l3, l4, l5, l6], .int w :: .int v :: st, k, h) = if v = w then zz_Run zz_prog d 179 (1529, [l0, l1, l2, l3, l4, l5, l6], st, k, h) else zz_Run zz_prog d 179 (1080, [l0, l1, l2, l3, l4, l5, l6], st, k, h) := zz_k_br (v = w) rfl (zz_k_num f179_1077 rfl)
theorem f179_1080 : zz_fetch zz_prog 179 1080 = some (.iconst 0, 1, [], []) := zz_fetch_of p179 rfl rfl
theorem s179_1080 : zz_Run zz_prog d 179 (1080, [l0, l1, l2, l3, l4, l5, l6], st, k, h) = zz_Run zz_prog d 179 (1081, [l0, l1, l2, l3, l4, l5, l6], .int 0 :: st, k, h) := zz_k_num f179_1080 rfl
theorem f179_1081 : zz_fetch zz_prog 179 1081 = some (.ireturn, 1, [1], []) := zz_fetch_of p179 rfl rfl
theorem s179_1081 : zz_Run zz_prog d 179 (1081, [l0, l1, l2, l3, l4, l5, l6], [.int v], k, h) = zz_ck (decide (v = 0 ∨ v = 1)) (some (.inl (some (.int v)), k, h)) := zz_k_retz f179_1081
theorem f179_1082 : zz_fetch zz_prog 179 1082 = some (.aload_n 1, 1, [], []) := zz_fetch_of p179 rfl rfl
theorem s179_1082 : zz_Run zz_prog d 179 (1082, [l0, some (.ref a), l2, l3, l4, l5, l6], st, k, h) = zz_Run zz_prog d 179 (1083, [l0, some (.ref a), l2, l3, l4, l5, l6], .ref a :: st, k, h) := zz_k_num f179_1082 rfl
theorem f179_1083 : zz_fetch zz_prog 179 1083 = some (.invokevirtual 158, 3, [0, 18, 1, 1], []) := zz_fetch_of p179 rfl rfl
theorem s179_1083 : zz_Run zz_prog d 179 (1083, [l0, l1, l2, l3, l4, l5, l6], [.ref 5], k, (zz_hp n I J ex)) = zz_ret (zz_Call zz_prog d 18 [.ref 5] (zz_hp n I J ex)) (fun v k' h' => zz_Run zz_prog d 179 (1086, [l0, l1, l2, l3, l4, l5, l6], v.toList ++ [], k && k', h')) (fun a k' h' => zz_th d 179 1083 a [l0, l1, l2, l3, l4, l5, l6] (k && k') h') := zz_k_call f179_1083 rfl rfl rfl
theorem f179_1086 : zz_fetch zz_prog 179 1086 = some (.aload_n 2, 1, [], []) := zz_fetch_of p179 rfl rfl
theorem s179_1086 : zz_Run zz_prog d 179 (1086, [l0, l1, some (.ref a), l3, l4, l5, l6], st, k, h) = zz_Run zz_prog d 179 (1087, [l0, l1, some (.ref a), l3, l4, l5, l6], .ref a :: st, k, h) := zz_k_num f179_1086 rfl
theorem f179_1087 : zz_fetch zz_prog 179 1087 = some (.invokevirtual 161, 3, [0, 146, 1, 2], []) := zz_fetch_of p179 rfl rfl
theorem s179_1087 : zz_Run zz_prog d 179 (1087, [l0, l1, l2, l3, l4, l5, l6], [.ref 23, b1], k, (zz_hp n I J ex)) = zz_ret (zz_Call zz_prog d 146 [.ref 23] (zz_hp n I J ex)) (fun v k' h' => zz_Run zz_prog d 179 (1090, [l0, l1, l2, l3, l4, l5, l6], v.toList ++ [b1], k && k', h')) (fun a k' h' => zz_th d 179 1087 a [l0, l1, l2, l3, l4, l5, l6] (k && k') h') := zz_k_call f179_1087 rfl rfl rfl
theorem f179_1090 : zz_fetch zz_prog 179 1090 = some (.if_icmp .eq 439, 3, [1529], []) := zz_fetch_of p179 rfl rfl
theorem s179_1090 : zz_Run zz_prog d 179 (1090, [l0, l1, l2, l3, l4, l5, l6], .int w :: .int v :: st, k, h) = if v = w then zz_Run zz_prog d 179 (1529, [l0, l1, l2, l3, l4, l5, l6], st, k, h) else zz_Run zz_prog d 179 (1093, [l0, l1, l2, l3, l4, l5, l6], st, k, h) := zz_k_br (v = w) rfl (zz_k_num f179_1090 rfl)
theorem f179_1093 : zz_fetch zz_prog 179 1093 = some (.iconst 0, 1, [], []) := zz_fetch_of p179 rfl rfl
theorem s179_1093 : zz_Run zz_prog d 179 (1093, [l0, l1, l2, l3, l4, l5, l6], st, k, h) = zz_Run zz_prog d 179 (1094, [l0, l1, l2, l3, l4, l5, l6], .int 0 :: st, k, h) := zz_k_num f179_1093 rfl
theorem f179_1094 : zz_fetch zz_prog 179 1094 = some (.ireturn, 1, [1], []) := zz_fetch_of p179 rfl rfl
theorem s179_1094 : zz_Run zz_prog d 179 (1094, [l0, l1, l2, l3, l4, l5, l6], [.int v], k, h) = zz_ck (decide (v = 0 ∨ v = 1)) (some (.inl (some (.int v)), k, h)) := zz_k_retz f179_1094
theorem f179_1095 : zz_fetch zz_prog 179 1095 = some (.aload_n 1, 1, [], []) := zz_fetch_of p179 rfl rfl
theorem s179_1095 : zz_Run zz_prog d 179 (1095, [l0, some (.ref a), l2, l3, l4, l5, l6], st, k, h) = zz_Run zz_prog d 179 (1096, [l0, some (.ref a), l2, l3, l4, l5, l6], .ref a :: st, k, h) := zz_k_num f179_1095 rfl
theorem f179_1096 : zz_fetch zz_prog 179 1096 = some (.aload_n 0, 1, [], []) := zz_fetch_of p179 rfl rfl
theorem s179_1096 : zz_Run zz_prog d 179 (1096, [some (.ref a), l1, l2, l3, l4, l5, l6], st, k, h) = zz_Run zz_prog d 179 (1097, [some (.ref a), l1, l2, l3, l4, l5, l6], .ref a :: st, k, h) := zz_k_num f179_1096 rfl
theorem f179_1097 : zz_fetch zz_prog 179 1097 = some (.iload 4, 2, [], []) := zz_fetch_of p179 rfl rfl
theorem s179_1097 : zz_Run zz_prog d 179 (1097, [l0, l1, l2, l3, some (.int v), l5, l6], st, k, h) = zz_Run zz_prog d 179 (1099, [l0, l1, l2, l3, some (.int v), l5, l6], .int v :: st, k, h) := zz_k_num f179_1097 rfl
theorem f179_1099 : zz_fetch zz_prog 179 1099 = some (.iconst 1, 1, [], []) := zz_fetch_of p179 rfl rfl
theorem s179_1099 : zz_Run zz_prog d 179 (1099, [l0, l1, l2, l3, l4, l5, l6], st, k, h) = zz_Run zz_prog d 179 (1100, [l0, l1, l2, l3, l4, l5, l6], .int 1 :: st, k, h) := zz_k_num f179_1099 rfl
theorem f179_1100 : zz_fetch zz_prog 179 1100 = some (.iadd, 1, [], []) := zz_fetch_of p179 rfl rfl
theorem s179_1100 : zz_Run zz_prog d 179 (1100, [l0, l1, l2, l3, l4, l5, l6], .int w :: .int v :: st, k, h) = zz_Run zz_prog d 179 (1101, [l0, l1, l2, l3, l4, l5, l6], .int (v + w) :: st, k, h) := zz_k_num f179_1100 rfl
theorem f179_1101 : zz_fetch zz_prog 179 1101 = some (.iaload, 1, [], []) := zz_fetch_of p179 rfl rfl
theorem s179_1101 (ha : zz_isrd a = true) : zz_Run zz_prog d 179 (1101, [l0, l1, l2, l3, l4, l5, l6], .int v :: .ref a :: st, k, (zz_hp n I J ex)) = zz_ck (zz_in v (zz_ary n a)) (zz_Run zz_prog d 179 (1102, [l0, l1, l2, l3, l4, l5, l6], .int (I a v.toNatClampNeg) :: st, k, (zz_hp n I J ex))) := zz_k_iald f179_1101 ha
theorem f179_1102 : zz_fetch zz_prog 179 1102 = some (.aload_n 0, 1, [], []) := zz_fetch_of p179 rfl rfl
theorem s179_1102 : zz_Run zz_prog d 179 (1102, [some (.ref a), l1, l2, l3, l4, l5, l6], st, k, h) = zz_Run zz_prog d 179 (1103, [some (.ref a), l1, l2, l3, l4, l5, l6], .ref a :: st, k, h) := zz_k_num f179_1102 rfl
theorem f179_1103 : zz_fetch zz_prog 179 1103 = some (.iload 4, 2, [], []) := zz_fetch_of p179 rfl rfl
theorem s179_1103 : zz_Run zz_prog d 179 (1103, [l0, l1, l2, l3, some (.int v), l5, l6], st, k, h) = zz_Run zz_prog d 179 (1105, [l0, l1, l2, l3, some (.int v), l5, l6], .int v :: st, k, h) := zz_k_num f179_1103 rfl
theorem f179_1105 : zz_fetch zz_prog 179 1105 = some (.iconst 2, 1, [], []) := zz_fetch_of p179 rfl rfl
theorem s179_1105 : zz_Run zz_prog d 179 (1105, [l0, l1, l2, l3, l4, l5, l6], st, k, h) = zz_Run zz_prog d 179 (1106, [l0, l1, l2, l3, l4, l5, l6], .int 2 :: st, k, h) := zz_k_num f179_1105 rfl
theorem f179_1106 : zz_fetch zz_prog 179 1106 = some (.iadd, 1, [], []) := zz_fetch_of p179 rfl rfl
theorem s179_1106 : zz_Run zz_prog d 179 (1106, [l0, l1, l2, l3, l4, l5, l6], .int w :: .int v :: st, k, h) = zz_Run zz_prog d 179 (1107, [l0, l1, l2, l3, l4, l5, l6], .int (v + w) :: st, k, h) := zz_k_num f179_1106 rfl
theorem f179_1107 : zz_fetch zz_prog 179 1107 = some (.iaload, 1, [], []) := zz_fetch_of p179 rfl rfl
theorem s179_1107 (ha : zz_isrd a = true) : zz_Run zz_prog d 179 (1107, [l0, l1, l2, l3, l4, l5, l6], .int v :: .ref a :: st, k, (zz_hp n I J ex)) = zz_ck (zz_in v (zz_ary n a)) (zz_Run zz_prog d 179 (1108, [l0, l1, l2, l3, l4, l5, l6], .int (I a v.toNatClampNeg) :: st, k, (zz_hp n I J ex))) := zz_k_iald f179_1107 ha
theorem f179_1108 : zz_fetch zz_prog 179 1108 = some (.aload_n 3, 1, [], []) := zz_fetch_of p179 rfl rfl
theorem s179_1108 : zz_Run zz_prog d 179 (1108, [l0, l1, l2, some (.ref a), l4, l5, l6], st, k, h) = zz_Run zz_prog d 179 (1109, [l0, l1, l2, some (.ref a), l4, l5, l6], .ref a :: st, k, h) := zz_k_num f179_1108 rfl
theorem f179_1109 : zz_fetch zz_prog 179 1109 = some (.invokestatic 162, 3, [0, 172, 4], []) := zz_fetch_of p179 rfl rfl
theorem s179_1109 : zz_Run zz_prog d 179 (1109, [l0, l1, l2, l3, l4, l5, l6], [b0, b1, b2, b3], k, h) = zz_ret (zz_Call zz_prog d 172 [b3, b2, b1, b0] h) (fun v k' h' => zz_Run zz_prog d 179 (1112, [l0, l1, l2, l3, l4, l5, l6], v.toList ++ [], k && k', h')) (fun a k' h' => zz_th d 179 1109 a [l0, l1, l2, l3, l4, l5, l6] (k && k') h') := zz_k_call f179_1109 rfl rfl rfl
theorem f179_1112 : zz_fetch zz_prog 179 1112 = some (.istore 5, 2, [], []) := zz_fetch_of p179 rfl rfl
theorem s179_1112 : zz_Run zz_prog d 179 (1112, [l0, l1, l2, l3, l4, l5, l6], .int v :: st, k, h) = zz_sl l4 (zz_Run zz_prog d 179 (1114, [l0, l1, l2, l3, l4, some (.int v), l6], st, k, h)) := zz_k_st (j := 5) (u := .int v) f179_1112 rfl (fun q hq => by cases hq) rfl (show 5 < 7 by decide) (by cases l4 <;> rfl) rfl
theorem f179_1114 : zz_fetch zz_prog 179 1114 = some (.aload_n 2, 1, [], []) := zz_fetch_of p179 rfl rfl
theorem s179_1114 : zz_Run zz_prog d 179 (1114, [l0, l1, some (.ref a), l3, l4, l5, l6], st, k, h) = zz_Run zz_prog d 179 (1115, [l0, l1, some (.ref a), l3, l4, l5, l6], .ref a :: st, k, h) := zz_k_num f179_1114 rfl
theorem f179_1115 : zz_fetch zz_prog 179 1115 = some (.aload_n 0, 1, [], []) := zz_fetch_of p179 rfl rfl
theorem s179_1115 : zz_Run zz_prog d 179 (1115, [some (.ref a), l1, l2, l3, l4, l5, l6], st, k, h) = zz_Run zz_prog d 179 (1116, [some (.ref a), l1, l2, l3, l4, l5, l6], .ref a :: st, k, h) := zz_k_num f179_1115 rfl
theorem f179_1116 : zz_fetch zz_prog 179 1116 = some (.iload 4, 2, [], []) := zz_fetch_of p179 rfl rfl
theorem s179_1116 : zz_Run zz_prog d 179 (1116, [l0, l1, l2, l3, some (.int v), l5, l6], st, k, h) = zz_Run zz_prog d 179 (1118, [l0, l1, l2, l3, some (.int v), l5, l6], .int v :: st, k, h) := zz_k_num f179_1116 rfl
theorem f179_1118 : zz_fetch zz_prog 179 1118 = some (.iconst 1, 1, [], []) := zz_fetch_of p179 rfl rfl
theorem s179_1118 : zz_Run zz_prog d 179 (1118, [l0, l1, l2, l3, l4, l5, l6], st, k, h) = zz_Run zz_prog d 179 (1119, [l0, l1, l2, l3, l4, l5, l6], .int 1 :: st, k, h) := zz_k_num f179_1118 rfl
theorem f179_1119 : zz_fetch zz_prog 179 1119 = some (.iadd, 1, [], []) := zz_fetch_of p179 rfl rfl
theorem s179_1119 : zz_Run zz_prog d 179 (1119, [l0, l1, l2, l3, l4, l5, l6], .int w :: .int v :: st, k, h) = zz_Run zz_prog d 179 (1120, [l0, l1, l2, l3, l4, l5, l6], .int (v + w) :: st, k, h) := zz_k_num f179_1119 rfl
theorem f179_1120 : zz_fetch zz_prog 179 1120 = some (.iaload, 1, [], []) := zz_fetch_of p179 rfl rfl
theorem s179_1120 (ha : zz_isrd a = true) : zz_Run zz_prog d 179 (1120, [l0, l1, l2, l3, l4, l5, l6], .int v :: .ref a :: st, k, (zz_hp n I J ex)) = zz_ck (zz_in v (zz_ary n a)) (zz_Run zz_prog d 179 (1121, [l0, l1, l2, l3, l4, l5, l6], .int (I a v.toNatClampNeg) :: st, k, (zz_hp n I J ex))) := zz_k_iald f179_1120 ha
theorem f179_1121 : zz_fetch zz_prog 179 1121 = some (.aload_n 0, 1, [], []) := zz_fetch_of p179 rfl rfl
theorem s179_1121 : zz_Run zz_prog d 179 (1121, [some (.ref a), l1, l2, l3, l4, l5, l6], st, k, h) = zz_Run zz_prog d 179 (1122, [some (.ref a), l1, l2, l3, l4, l5, l6], .ref a :: st, k, h) := zz_k_num f179_1121 rfl
theorem f179_1122 : zz_fetch zz_prog 179 1122 = some (.iload 4, 2, [], []) := zz_fetch_of p179 rfl rfl
theorem s179_1122 : zz_Run zz_prog d 179 (1122, [l0, l1, l2, l3, some (.int v), l5, l6], st, k, h) = zz_Run zz_prog d 179 (1124, [l0, l1, l2, l3, some (.int v), l5, l6], .int v :: st, k, h) := zz_k_num f179_1122 rfl
theorem f179_1124 : zz_fetch zz_prog 179 1124 = some (.iconst 2, 1, [], []) := zz_fetch_of p179 rfl rfl
theorem s179_1124 : zz_Run zz_prog d 179 (1124, [l0, l1, l2, l3, l4, l5, l6], st, k, h) = zz_Run zz_prog d 179 (1125, [l0, l1, l2, l3, l4, l5, l6], .int 2 :: st, k, h) := zz_k_num f179_1124 rfl
theorem f179_1125 : zz_fetch zz_prog 179 1125 = some (.iadd, 1, [], []) := zz_fetch_of p179 rfl rfl
theorem s179_1125 : zz_Run zz_prog d 179 (1125, [l0, l1, l2, l3, l4, l5, l6], .int w :: .int v :: st, k, h) = zz_Run zz_prog d 179 (1126, [l0, l1, l2, l3, l4, l5, l6], .int (v + w) :: st, k, h) := zz_k_num f179_1125 rfl
theorem f179_1126 : zz_fetch zz_prog 179 1126 = some (.iaload, 1, [], []) := zz_fetch_of p179 rfl rfl
theorem s179_1126 (ha : zz_isrd a = true) : zz_Run zz_prog d 179 (1126, [l0, l1, l2, l3, l4, l5, l6], .int v :: .ref a :: st, k, (zz_hp n I J ex)) = zz_ck (zz_in v (zz_ary n a)) (zz_Run zz_prog d 179 (1127, [l0, l1, l2, l3, l4, l5, l6], .int (I a v.toNatClampNeg) :: st, k, (zz_hp n I J ex))) := zz_k_iald f179_1126 ha
theorem f179_1127 : zz_fetch zz_prog 179 1127 = some (.invokevirtual 164, 3, [0, 147, 3, 2], []) := zz_fetch_of p179 rfl rfl
theorem s179_1127 : zz_Run zz_prog d 179 (1127, [l0, l1, l2, l3, l4, l5, l6], [b0, b1, .ref 23], k, (zz_hp n I J ex)) = zz_ret (zz_Call zz_prog d 147 [.ref 23, b1, b0] (zz_hp n I J ex)) (fun v k' h' => zz_Run zz_prog d 179 (1130, [l0, l1, l2, l3, l4, l5, l6], v.toList ++ [], k && k', h')) (fun a k' h' => zz_th d 179 1127 a [l0, l1, l2, l3, l4, l5, l6] (k && k') h') := zz_k_call f179_1127 rfl rfl rfl
theorem f179_1130 : zz_fetch zz_prog 179 1130 = some (.istore 6, 2, [], []) := zz_fetch_of p179 rfl rfl
theorem s179_1130 : zz_Run zz_prog d 179 (1130, [l0, l1, l2, l3, l4, l5, l6], .int v :: st, k, h) = zz_sl l5 (zz_Run zz_prog d 179 (1132, [l0, l1, l2, l3, l4, l5, some (.int v)], st, k, h)) := zz_k_st (j := 6) (u := .int v) f179_1130 rfl (fun q hq => by cases hq) rfl (show 6 < 7 by decide) (by cases l5 <;> rfl) rfl
theorem f179_1132 : zz_fetch zz_prog 179 1132 = some (.aload_n 2, 1, [], []) := zz_fetch_of p179 rfl rfl
theorem s179_1132 : zz_Run zz_prog d 179 (1132, [l0, l1, some (.ref a), l3, l4, l5, l6], st, k, h) = zz_Run zz_prog d 179 (1133, [l0, l1, some (.ref a), l3, l4, l5, l6], .ref a :: st, k, h) := zz_k_num f179_1132 rfl
theorem f179_1133 : zz_fetch zz_prog 179 1133 = some (.invokevirtual 97, 3, [0, 89, 1, 2], []) := zz_fetch_of p179 rfl rfl
theorem s179_1133 : zz_Run zz_prog d 179 (1133, [l0, l1, l2, l3, l4, l5, l6], [.ref 23], k, (zz_hp n I J ex)) = zz_ret (zz_Call zz_prog d 89 [.ref 23] (zz_hp n I J ex)) (fun v k' h' => zz_Run zz_prog d 179 (1136, [l0, l1, l2, l3, l4, l5, l6], v.toList ++ [], k && k', h')) (fun a k' h' => zz_th d 179 1133 a [l0, l1, l2, l3, l4, l5, l6] (k && k') h') := zz_k_call f179_1133 rfl rfl rfl
theorem f179_1136 : zz_fetch zz_prog 179 1136 = some (.iload 5, 2, [], []) := zz_fetch_of p179 rfl rfl
theorem s179_1136 : zz_Run zz_prog d 179 (1136, [l0, l1, l2, l3, l4, some (.int v), l6], st, k, h) = zz_Run zz_prog d 179 (1138, [l0, l1, l2, l3, l4, some (.int v), l6], .int v :: st, k, h) := zz_k_num f179_1136 rfl
theorem f179_1138 : zz_fetch zz_prog 179 1138 = some (.if_icmp .eq 5, 3, [1143], []) := zz_fetch_of p179 rfl rfl
theorem s179_1138 : zz_Run zz_prog d 179 (1138, [l0, l1, l2, l3, l4, l5, l6], .int w :: .int v :: st, k, h) = if v = w then zz_Run zz_prog d 179 (1143, [l0, l1, l2, l3, l4, l5, l6], st, k, h) else zz_Run zz_prog d 179 (1141, [l0, l1, l2, l3, l4, l5, l6], st, k, h) := zz_k_br (v = w) rfl (zz_k_num f179_1138 rfl)
theorem f179_1141 : zz_fetch zz_prog 179 1141 = some (.iconst 0, 1, [], []) := zz_fetch_of p179 rfl rfl
theorem s179_1141 : zz_Run zz_prog d 179 (1141, [l0, l1, l2, l3, l4, l5, l6], st, k, h) = zz_Run zz_prog d 179 (1142, [l0, l1, l2, l3, l4, l5, l6], .int 0 :: st, k, h) := zz_k_num f179_1141 rfl
theorem f179_1142 : zz_fetch zz_prog 179 1142 = some (.ireturn, 1, [1], []) := zz_fetch_of p179 rfl rfl
theorem s179_1142 : zz_Run zz_prog d 179 (1142, [l0, l1, l2, l3, l4, l5, l6], [.int v], k, h) = zz_ck (decide (v = 0 ∨ v = 1)) (some (.inl (some (.int v)), k, h)) := zz_k_retz f179_1142
theorem f179_1143 : zz_fetch zz_prog 179 1143 = some (.iload 5, 2, [], []) := zz_fetch_of p179 rfl rfl
theorem s179_1143 : zz_Run zz_prog d 179 (1143, [l0, l1, l2, l3, l4, some (.int v), l6], st, k, h) = zz_Run zz_prog d 179 (1145, [l0, l1, l2, l3, l4, some (.int v), l6], .int v :: st, k, h) := zz_k_num f179_1143 rfl
theorem f179_1145 : zz_fetch zz_prog 179 1145 = some (.ifCond .ne 15, 3, [1160], []) := zz_fetch_of p179 rfl rfl
theorem s179_1145 : zz_Run zz_prog d 179 (1145, [l0, l1, l2, l3, l4, l5, l6], .int v :: st, k, h) = if ¬ v = 0 then zz_Run zz_prog d 179 (1160, [l0, l1, l2, l3, l4, l5, l6], st, k, h) else zz_Run zz_prog d 179 (1148, [l0, l1, l2, l3, l4, l5, l6], st, k, h) := zz_k_br (¬ v = 0) rfl (zz_k_num f179_1145 rfl)
theorem f179_1148 : zz_fetch zz_prog 179 1148 = some (.aload_n 3, 1, [], []) := zz_fetch_of p179 rfl rfl
theorem s179_1148 : zz_Run zz_prog d 179 (1148, [l0, l1, l2, some (.ref a), l4, l5, l6], st, k, h) = zz_Run zz_prog d 179 (1149, [l0, l1, l2, some (.ref a), l4, l5, l6], .ref a :: st, k, h) := zz_k_num f179_1148 rfl
theorem f179_1149 : zz_fetch zz_prog 179 1149 = some (.iconst 0, 1, [], []) := zz_fetch_of p179 rfl rfl
theorem s179_1149 : zz_Run zz_prog d 179 (1149, [l0, l1, l2, l3, l4, l5, l6], st, k, h) = zz_Run zz_prog d 179 (1150, [l0, l1, l2, l3, l4, l5, l6], .int 0 :: st, k, h) := zz_k_num f179_1149 rfl
theorem f179_1150 : zz_fetch zz_prog 179 1150 = some (.laload, 1, [], []) := zz_fetch_of p179 rfl rfl
theorem s179_1150 : zz_Run zz_prog d 179 (1150, [l0, l1, l2, l3, l4, l5, l6], .int 0 :: .ref 44 :: st, k, (zz_hp n I J ex)) = zz_Run zz_prog d 179 (1151, [l0, l1, l2, l3, l4, l5, l6], .long (J 44 0) :: st, k, (zz_hp n I J ex)) := zz_k_go f179_1150 rfl rfl rfl
theorem f179_1151 : zz_fetch zz_prog 179 1151 = some (.iload 6, 2, [], []) := zz_fetch_of p179 rfl rfl
theorem s179_1151 : zz_Run zz_prog d 179 (1151, [l0, l1, l2, l3, l4, l5, some (.int v)], st, k, h) = zz_Run zz_prog d 179 (1153, [l0, l1, l2, l3, l4, l5, some (.int v)], .int v :: st, k, h) := zz_k_num f179_1151 rfl
theorem f179_1153 : zz_fetch zz_prog 179 1153 = some (.i2l, 1, [], []) := zz_fetch_of p179 rfl rfl
theorem s179_1153 : zz_Run zz_prog d 179 (1153, [l0, l1, l2, l3, l4, l5, l6], .int v :: st, k, h) = zz_Run zz_prog d 179 (1154, [l0, l1, l2, l3, l4, l5, l6], .long v.toInt64 :: st, k, h) := zz_k_num f179_1153 rfl
theorem f179_1154 : zz_fetch zz_prog 179 1154 = some (.lcmp, 1, [], []) := zz_fetch_of p179 rfl rfl
theorem s179_1154 : zz_Run zz_prog d 179 (1154, [l0, l1, l2, l3, l4, l5, l6], .long y1 :: .long y :: st, k, h) = zz_Run zz_prog d 179 (1155, [l0, l1, l2, l3, l4, l5, l6], .int (lg_cmp y y1) :: st, k, h) := zz_k_num f179_1154 rfl
theorem f179_1155 : zz_fetch zz_prog 179 1155 = some (.ifCond .eq 5, 3, [1160], []) := zz_fetch_of p179 rfl rfl
theorem s179_1155 : zz_Run zz_prog d 179 (1155, [l0, l1, l2, l3, l4, l5, l6], .int v :: st, k, h) = if v = 0 then zz_Run zz_prog d 179 (1160, [l0, l1, l2, l3, l4, l5, l6], st, k, h) else zz_Run zz_prog d 179 (1158, [l0, l1, l2, l3, l4, l5, l6], st, k, h) := zz_k_br (v = 0) rfl (zz_k_num f179_1155 rfl)
theorem f179_1158 : zz_fetch zz_prog 179 1158 = some (.iconst 0, 1, [], []) := zz_fetch_of p179 rfl rfl
theorem s179_1158 : zz_Run zz_prog d 179 (1158, [l0, l1, l2, l3, l4, l5, l6], st, k, h) = zz_Run zz_prog d 179 (1159, [l0, l1, l2, l3, l4, l5, l6], .int 0 :: st, k, h) := zz_k_num f179_1158 rfl
theorem f179_1159 : zz_fetch zz_prog 179 1159 = some (.ireturn, 1, [1], []) := zz_fetch_of p179 rfl rfl
theorem s179_1159 : zz_Run zz_prog d 179 (1159, [l0, l1, l2, l3, l4, l5, l6], [.int v], k, h) = zz_ck (decide (v = 0 ∨ v = 1)) (some (.inl (some (.int v)), k, h)) := zz_k_retz f179_1159
theorem f179_1160 : zz_fetch zz_prog 179 1160 = some (.goto 369, 3, [1529], []) := zz_fetch_of p179 rfl rfl
theorem s179_1160 : zz_Run zz_prog d 179 (1160, [l0, l1, l2, l3, l4, l5, l6], st, k, h) = zz_Run zz_prog d 179 (1529, [l0, l1, l2, l3, l4, l5, l6], st, k, h) := zz_k_num f179_1160 rfl
theorem f179_1163 : zz_fetch zz_prog 179 1163 = some (.aload_n 1, 1, [], []) := zz_fetch_of p179 rfl rfl
theorem s179_1163 : zz_Run zz_prog d 179 (1163, [l0, some (.ref a), l2, l3, l4, l5, l6], st, k, h) = zz_Run zz_prog d 179 (1164, [l0, some (.ref a), l2, l3, l4, l5, l6], .ref a :: st, k, h) := zz_k_num f179_1163 rfl
theorem f179_1164 : zz_fetch zz_prog 179 1164 = some (.aload_n 0, 1, [], []) := zz_fetch_of p179 rfl rfl
theorem s179_1164 : zz_Run zz_prog d 179 (1164, [some (.ref a), l1, l2, l3, l4, l5, l6], st, k, h) = zz_Run zz_prog d 179 (1165, [some (.ref a), l1, l2, l3, l4, l5, l6], .ref a :: st, k, h) := zz_k_num f179_1164 rfl
theorem f179_1165 : zz_fetch zz_prog 179 1165 = some (.iload 4, 2, [], []) := zz_fetch_of p179 rfl rfl
theorem s179_1165 : zz_Run zz_prog d 179 (1165, [l0, l1, l2, l3, some (.int v), l5, l6], st, k, h) = zz_Run zz_prog d 179 (1167, [l0, l1, l2, l3, some (.int v), l5, l6], .int v :: st, k, h) := zz_k_num f179_1165 rfl
theorem f179_1167 : zz_fetch zz_prog 179 1167 = some (.iconst 1, 1, [], []) := zz_fetch_of p179 rfl rfl
theorem s179_1167 : zz_Run zz_prog d 179 (1167, [l0, l1, l2, l3, l4, l5, l6], st, k, h) = zz_Run zz_prog d 179 (1168, [l0, l1, l2, l3, l4, l5, l6], .int 1 :: st, k, h) := zz_k_num f179_1167 rfl
theorem f179_1168 : zz_fetch zz_prog 179 1168 = some (.iadd, 1, [], []) := zz_fetch_of p179 rfl rfl
theorem s179_1168 : zz_Run zz_prog d 179 (1168, [l0, l1, l2, l3, l4, l5, l6], .int w :: .int v :: st, k, h) = zz_Run zz_prog d 179 (1169, [l0, l1, l2, l3, l4, l5, l6], .int (v + w) :: st, k, h) := zz_k_num f179_1168 rfl
theorem f179_1169 : zz_fetch zz_prog 179 1169 = some (.iaload, 1, [], []) := zz_fetch_of p179 rfl rfl
theorem s179_1169 (ha : zz_isrd a = true) : zz_Run zz_prog d 179 (1169, [l0, l1, l2, l3, l4, l5, l6], .int v :: .ref a :: st, k, (zz_hp n I J ex)) = zz_ck (zz_in v (zz_ary n a)) (zz_Run zz_prog d 179 (1170, [l0, l1, l2, l3, l4, l5, l6], .int (I a v.toNatClampNeg) :: st, k, (zz_hp n I J ex))) := zz_k_iald f179_1169 ha
theorem f179_1170 : zz_fetch zz_prog 179 1170 = some (.aload_n 0, 1, [], []) := zz_fetch_of p179 rfl rfl
theorem s179_1170 : zz_Run zz_prog d 179 (1170, [some (.ref a), l1, l2, l3, l4, l5, l6], st, k, h) = zz_Run zz_prog d 179 (1171, [some (.ref a), l1, l2, l3, l4, l5, l6], .ref a :: st, k, h) := zz_k_num f179_1170 rfl
theorem f179_1171 : zz_fetch zz_prog 179 1171 = some (.iload 4, 2, [], []) := zz_fetch_of p179 rfl rfl
theorem s179_1171 : zz_Run zz_prog d 179 (1171, [l0, l1, l2, l3, some (.int v), l5, l6], st, k, h) = zz_Run zz_prog d 179 (1173, [l0, l1, l2, l3, some (.int v), l5, l6], .int v :: st, k, h) := zz_k_num f179_1171 rfl
theorem f179_1173 : zz_fetch zz_prog 179 1173 = some (.iconst 2, 1, [], []) := zz_fetch_of p179 rfl rfl
theorem s179_1173 : zz_Run zz_prog d 179 (1173, [l0, l1, l2, l3, l4, l5, l6], st, k, h) = zz_Run zz_prog d 179 (1174, [l0, l1, l2, l3, l4, l5, l6], .int 2 :: st, k, h) := zz_k_num f179_1173 rfl
theorem f179_1174 : zz_fetch zz_prog 179 1174 = some (.iadd, 1, [], []) := zz_fetch_of p179 rfl rfl
theorem s179_1174 : zz_Run zz_prog d 179 (1174, [l0, l1, l2, l3, l4, l5, l6], .int w :: .int v :: st, k, h) = zz_Run zz_prog d 179 (1175, [l0, l1, l2, l3, l4, l5, l6], .int (v + w) :: st, k, h) := zz_k_num f179_1174 rfl
theorem f179_1175 : zz_fetch zz_prog 179 1175 = some (.iaload, 1, [], []) := zz_fetch_of p179 rfl rfl
theorem s179_1175 (ha : zz_isrd a = true) : zz_Run zz_prog d 179 (1175, [l0, l1, l2, l3, l4, l5, l6], .int v :: .ref a :: st, k, (zz_hp n I J ex)) = zz_ck (zz_in v (zz_ary n a)) (zz_Run zz_prog d 179 (1176, [l0, l1, l2, l3, l4, l5, l6], .int (I a v.toNatClampNeg) :: st, k, (zz_hp n I J ex))) := zz_k_iald f179_1175 ha
theorem f179_1176 : zz_fetch zz_prog 179 1176 = some (.aload_n 3, 1, [], []) := zz_fetch_of p179 rfl rfl
theorem s179_1176 : zz_Run zz_prog d 179 (1176, [l0, l1, l2, some (.ref a), l4, l5, l6], st, k, h) = zz_Run zz_prog d 179 (1177, [l0, l1, l2, some (.ref a), l4, l5, l6], .ref a :: st, k, h) := zz_k_num f179_1176 rfl
theorem f179_1177 : zz_fetch zz_prog 179 1177 = some (.invokestatic 165, 3, [0, 173, 4], []) := zz_fetch_of p179 rfl rfl
theorem s179_1177 : zz_Run zz_prog d 179 (1177, [l0, l1, l2, l3, l4, l5, l6], [b0, b1, b2, b3], k, h) = zz_ret (zz_Call zz_prog d 173 [b3, b2, b1, b0] h) (fun v k' h' => zz_Run zz_prog d 179 (1180, [l0, l1, l2, l3, l4, l5, l6], v.toList ++ [], k && k', h')) (fun a k' h' => zz_th d 179 1177 a [l0, l1, l2, l3, l4, l5, l6] (k && k') h') := zz_k_call f179_1177 rfl rfl rfl
theorem f179_1180 : zz_fetch zz_prog 179 1180 = some (.istore 5, 2, [], []) := zz_fetch_of p179 rfl rfl
theorem s179_1180 : zz_Run zz_prog d 179 (1180, [l0, l1, l2, l3, l4, l5, l6], .int v :: st, k, h) = zz_sl l4 (zz_Run zz_prog d 179 (1182, [l0, l1, l2, l3, l4, some (.int v), l6], st, k, h)) := zz_k_st (j := 5) (u := .int v) f179_1180 rfl (fun q hq => by cases hq) rfl (show 5 < 7 by decide) (by cases l4 <;> rfl) rfl
theorem f179_1182 : zz_fetch zz_prog 179 1182 = some (.aload_n 2, 1, [], []) := zz_fetch_of p179 rfl rfl
theorem s179_1182 : zz_Run zz_prog d 179 (1182, [l0, l1, some (.ref a), l3, l4, l5, l6], st, k, h) = zz_Run zz_prog d 179 (1183, [l0, l1, some (.ref a), l3, l4, l5, l6], .ref a :: st, k, h) := zz_k_num f179_1182 rfl
theorem f179_1183 : zz_fetch zz_prog 179 1183 = some (.aload_n 0, 1, [], []) := zz_fetch_of p179 rfl rfl
theorem s179_1183 : zz_Run zz_prog d 179 (1183, [some (.ref a), l1, l2, l3, l4, l5, l6], st, k, h) = zz_Run zz_prog d 179 (1184, [some (.ref a), l1, l2, l3, l4, l5, l6], .ref a :: st, k, h) := zz_k_num f179_1183 rfl
theorem f179_1184 : zz_fetch zz_prog 179 1184 = some (.iload 4, 2, [], []) := zz_fetch_of p179 rfl rfl
theorem s179_1184 : zz_Run zz_prog d 179 (1184, [l0, l1, l2, l3, some (.int v), l5, l6], st, k, h) = zz_Run zz_prog d 179 (1186, [l0, l1, l2, l3, some (.int v), l5, l6], .int v :: st, k, h) := zz_k_num f179_1184 rfl
theorem f179_1186 : zz_fetch zz_prog 179 1186 = some (.iconst 1, 1, [], []) := zz_fetch_of p179 rfl rfl
theorem s179_1186 : zz_Run zz_prog d 179 (1186, [l0, l1, l2, l3, l4, l5, l6], st, k, h) = zz_Run zz_prog d 179 (1187, [l0, l1, l2, l3, l4, l5, l6], .int 1 :: st, k, h) := zz_k_num f179_1186 rfl
theorem f179_1187 : zz_fetch zz_prog 179 1187 = some (.iadd, 1, [], []) := zz_fetch_of p179 rfl rfl
theorem s179_1187 : zz_Run zz_prog d 179 (1187, [l0, l1, l2, l3, l4, l5, l6], .int w :: .int v :: st, k, h) = zz_Run zz_prog d 179 (1188, [l0, l1, l2, l3, l4, l5, l6], .int (v + w) :: st, k, h) := zz_k_num f179_1187 rfl
theorem f179_1188 : zz_fetch zz_prog 179 1188 = some (.iaload, 1, [], []) := zz_fetch_of p179 rfl rfl
theorem s179_1188 (ha : zz_isrd a = true) : zz_Run zz_prog d 179 (1188, [l0, l1, l2, l3, l4, l5, l6], .int v :: .ref a :: st, k, (zz_hp n I J ex)) = zz_ck (zz_in v (zz_ary n a)) (zz_Run zz_prog d 179 (1189, [l0, l1, l2, l3, l4, l5, l6], .int (I a v.toNatClampNeg) :: st, k, (zz_hp n I J ex))) := zz_k_iald f179_1188 ha
theorem f179_1189 : zz_fetch zz_prog 179 1189 = some (.aload_n 0, 1, [], []) := zz_fetch_of p179 rfl rfl
theorem s179_1189 : zz_Run zz_prog d 179 (1189, [some (.ref a), l1, l2, l3, l4, l5, l6], st, k, h) = zz_Run zz_prog d 179 (1190, [some (.ref a), l1, l2, l3, l4, l5, l6], .ref a :: st, k, h) := zz_k_num f179_1189 rfl
theorem f179_1190 : zz_fetch zz_prog 179 1190 = some (.iload 4, 2, [], []) := zz_fetch_of p179 rfl rfl
theorem s179_1190 : zz_Run zz_prog d 179 (1190, [l0, l1, l2, l3, some (.int v), l5, l6], st, k, h) = zz_Run zz_prog d 179 (1192, [l0, l1, l2, l3, some (.int v), l5, l6], .int v :: st, k, h) := zz_k_num f179_1190 rfl
theorem f179_1192 : zz_fetch zz_prog 179 1192 = some (.iconst 2, 1, [], []) := zz_fetch_of p179 rfl rfl
theorem s179_1192 : zz_Run zz_prog d 179 (1192, [l0, l1, l2, l3, l4, l5, l6], st, k, h) = zz_Run zz_prog d 179 (1193, [l0, l1, l2, l3, l4, l5, l6], .int 2 :: st, k, h) := zz_k_num f179_1192 rfl
theorem f179_1193 : zz_fetch zz_prog 179 1193 = some (.iadd, 1, [], []) := zz_fetch_of p179 rfl rfl
theorem s179_1193 : zz_Run zz_prog d 179 (1193, [l0, l1, l2, l3, l4, l5, l6], .int w :: .int v :: st, k, h) = zz_Run zz_prog d 179 (1194, [l0, l1, l2, l3, l4, l5, l6], .int (v + w) :: st, k, h) := zz_k_num f179_1193 rfl
theorem f179_1194 : zz_fetch zz_prog 179 1194 = some (.iaload, 1, [], []) := zz_fetch_of p179 rfl rfl
theorem s179_1194 (ha : zz_isrd a = true) : zz_Run zz_prog d 179 (1194, [l0, l1, l2, l3, l4, l5, l6], .int v :: .ref a :: st, k, (zz_hp n I J ex)) = zz_ck (zz_in v (zz_ary n a)) (zz_Run zz_prog d 179 (1195, [l0, l1, l2, l3, l4, l5, l6], .int (I a v.toNatClampNeg) :: st, k, (zz_hp n I J ex))) := zz_k_iald f179_1194 ha
theorem f179_1195 : zz_fetch zz_prog 179 1195 = some (.invokevirtual 167, 3, [0, 148, 3, 2], []) := zz_fetch_of p179 rfl rfl
theorem s179_1195 : zz_Run zz_prog d 179 (1195, [l0, l1, l2, l3, l4, l5, l6], [b0, b1, .ref 23], k, (zz_hp n I J ex)) = zz_ret (zz_Call zz_prog d 148 [.ref 23, b1, b0] (zz_hp n I J ex)) (fun v k' h' => zz_Run zz_prog d 179 (1198, [l0, l1, l2, l3, l4, l5, l6], v.toList ++ [], k && k', h')) (fun a k' h' => zz_th d 179 1195 a [l0, l1, l2, l3, l4, l5, l6] (k && k') h') := zz_k_call f179_1195 rfl rfl rfl
theorem f179_1198 : zz_fetch zz_prog 179 1198 = some (.istore 6, 2, [], []) := zz_fetch_of p179 rfl rfl
theorem s179_1198 : zz_Run zz_prog d 179 (1198, [l0, l1, l2, l3, l4, l5, l6], .int v :: st, k, h) = zz_sl l5 (zz_Run zz_prog d 179 (1200, [l0, l1, l2, l3, l4, l5, some (.int v)], st, k, h)) := zz_k_st (j := 6) (u := .int v) f179_1198 rfl (fun q hq => by cases hq) rfl (show 6 < 7 by decide) (by cases l5 <;> rfl) rfl
theorem f179_1200 : zz_fetch zz_prog 179 1200 = some (.aload_n 2, 1, [], []) := zz_fetch_of p179 rfl rfl
theorem s179_1200 : zz_Run zz_prog d 179 (1200, [l0, l1, some (.ref a), l3, l4, l5, l6], st, k, h) = zz_Run zz_prog d 179 (1201, [l0, l1, some (.ref a), l3, l4, l5, l6], .ref a :: st, k, h) := zz_k_num f179_1200 rfl
theorem f179_1201 : zz_fetch zz_prog 179 1201 = some (.invokevirtual 97, 3, [0, 89, 1, 2], []) := zz_fetch_of p179 rfl rfl
theorem s179_1201 : zz_Run zz_prog d 179 (1201, [l0, l1, l2, l3, l4, l5, l6], [.ref 23], k, (zz_hp n I J ex)) = zz_ret (zz_Call zz_prog d 89 [.ref 23] (zz_hp n I J ex)) (fun v k' h' => zz_Run zz_prog d 179 (1204, [l0, l1, l2, l3, l4, l5, l6], v.toList ++ [], k && k', h')) (fun a k' h' => zz_th d 179 1201 a [l0, l1, l2, l3, l4, l5, l6] (k && k') h') := zz_k_call f179_1201 rfl rfl rfl
theorem f179_1204 : zz_fetch zz_prog 179 1204 = some (.iload 5, 2, [], []) := zz_fetch_of p179 rfl rfl
theorem s179_1204 : zz_Run zz_prog d 179 (1204, [l0, l1, l2, l3, l4, some (.int v), l6], st, k, h) = zz_Run zz_prog d 179 (1206, [l0, l1, l2, l3, l4, some (.int v), l6], .int v :: st, k, h) := zz_k_num f179_1204 rfl
theorem f179_1206 : zz_fetch zz_prog 179 1206 = some (.if_icmp .eq 5, 3, [1211], []) := zz_fetch_of p179 rfl rfl
theorem s179_1206 : zz_Run zz_prog d 179 (1206, [l0, l1, l2, l3, l4, l5, l6], .int w :: .int v :: st, k, h) = if v = w then zz_Run zz_prog d 179 (1211, [l0, l1, l2, l3, l4, l5, l6], st, k, h) else zz_Run zz_prog d 179 (1209, [l0, l1, l2, l3, l4, l5, l6], st, k, h) := zz_k_br (v = w) rfl (zz_k_num f179_1206 rfl)
theorem f179_1209 : zz_fetch zz_prog 179 1209 = some (.iconst 0, 1, [], []) := zz_fetch_of p179 rfl rfl
theorem s179_1209 : zz_Run zz_prog d 179 (1209, [l0, l1, l2, l3, l4, l5, l6], st, k, h) = zz_Run zz_prog d 179 (1210, [l0, l1, l2, l3, l4, l5, l6], .int 0 :: st, k, h) := zz_k_num f179_1209 rfl
theorem f179_1210 : zz_fetch zz_prog 179 1210 = some (.ireturn, 1, [1], []) := zz_fetch_of p179 rfl rfl
theorem s179_1210 : zz_Run zz_prog d 179 (1210, [l0, l1, l2, l3, l4, l5, l6], [.int v], k, h) = zz_ck (decide (v = 0 ∨ v = 1)) (some (.inl (some (.int v)), k, h)) := zz_k_retz f179_1210
theorem f179_1211 : zz_fetch zz_prog 179 1211 = some (.iload 5, 2, [], []) := zz_fetch_of p179 rfl rfl
theorem s179_1211 : zz_Run zz_prog d 179 (1211, [l0, l1, l2, l3, l4, some (.int v), l6], st, k, h) = zz_Run zz_prog d 179 (1213, [l0, l1, l2, l3, l4, some (.int v), l6], .int v :: st, k, h) := zz_k_num f179_1211 rfl
theorem f179_1213 : zz_fetch zz_prog 179 1213 = some (.ifCond .ne 15, 3, [1228], []) := zz_fetch_of p179 rfl rfl
theorem s179_1213 : zz_Run zz_prog d 179 (1213, [l0, l1, l2, l3, l4, l5, l6], .int v :: st, k, h) = if ¬ v = 0 then zz_Run zz_prog d 179 (1228, [l0, l1, l2, l3, l4, l5, l6], st, k, h) else zz_Run zz_prog d 179 (1216, [l0, l1, l2, l3, l4, l5, l6], st, k, h) := zz_k_br (¬ v = 0) rfl (zz_k_num f179_1213 rfl)
theorem f179_1216 : zz_fetch zz_prog 179 1216 = some (.aload_n 3, 1, [], []) := zz_fetch_of p179 rfl rfl
theorem s179_1216 : zz_Run zz_prog d 179 (1216, [l0, l1, l2, some (.ref a), l4, l5, l6], st, k, h) = zz_Run zz_prog d 179 (1217, [l0, l1, l2, some (.ref a), l4, l5, l6], .ref a :: st, k, h) := zz_k_num f179_1216 rfl
theorem f179_1217 : zz_fetch zz_prog 179 1217 = some (.iconst 0, 1, [], []) := zz_fetch_of p179 rfl rfl
theorem s179_1217 : zz_Run zz_prog d 179 (1217, [l0, l1, l2, l3, l4, l5, l6], st, k, h) = zz_Run zz_prog d 179 (1218, [l0, l1, l2, l3, l4, l5, l6], .int 0 :: st, k, h) := zz_k_num f179_1217 rfl
theorem f179_1218 : zz_fetch zz_prog 179 1218 = some (.laload, 1, [], []) := zz_fetch_of p179 rfl rfl
theorem s179_1218 : zz_Run zz_prog d 179 (1218, [l0, l1, l2, l3, l4, l5, l6], .int 0 :: .ref 44 :: st, k, (zz_hp n I J ex)) = zz_Run zz_prog d 179 (1219, [l0, l1, l2, l3, l4, l5, l6], .long (J 44 0) :: st, k, (zz_hp n I J ex)) := zz_k_go f179_1218 rfl rfl rfl
theorem f179_1219 : zz_fetch zz_prog 179 1219 = some (.iload 6, 2, [], []) := zz_fetch_of p179 rfl rfl
theorem s179_1219 : zz_Run zz_prog d 179 (1219, [l0, l1, l2, l3, l4, l5, some (.int v)], st, k, h) = zz_Run zz_prog d 179 (1221, [l0, l1, l2, l3, l4, l5, some (.int v)], .int v :: st, k, h) := zz_k_num f179_1219 rfl
theorem f179_1221 : zz_fetch zz_prog 179 1221 = some (.i2l, 1, [], []) := zz_fetch_of p179 rfl rfl
theorem s179_1221 : zz_Run zz_prog d 179 (1221, [l0, l1, l2, l3, l4, l5, l6], .int v :: st, k, h) = zz_Run zz_prog d 179 (1222, [l0, l1, l2, l3, l4, l5, l6], .long v.toInt64 :: st, k, h) := zz_k_num f179_1221 rfl
theorem f179_1222 : zz_fetch zz_prog 179 1222 = some (.lcmp, 1, [], []) := zz_fetch_of p179 rfl rfl
theorem s179_1222 : zz_Run zz_prog d 179 (1222, [l0, l1, l2, l3, l4, l5, l6], .long y1 :: .long y :: st, k, h) = zz_Run zz_prog d 179 (1223, [l0, l1, l2, l3, l4, l5, l6], .int (lg_cmp y y1) :: st, k, h) := zz_k_num f179_1222 rfl
theorem f179_1223 : zz_fetch zz_prog 179 1223 = some (.ifCond .eq 5, 3, [1228], []) := zz_fetch_of p179 rfl rfl
theorem s179_1223 : zz_Run zz_prog d 179 (1223, [l0, l1, l2, l3, l4, l5, l6], .int v :: st, k, h) = if v = 0 then zz_Run zz_prog d 179 (1228, [l0, l1, l2, l3, l4, l5, l6], st, k, h) else zz_Run zz_prog d 179 (1226, [l0, l1, l2, l3, l4, l5, l6], st, k, h) := zz_k_br (v = 0) rfl (zz_k_num f179_1223 rfl)
theorem f179_1226 : zz_fetch zz_prog 179 1226 = some (.iconst 0, 1, [], []) := zz_fetch_of p179 rfl rfl
theorem s179_1226 : zz_Run zz_prog d 179 (1226, [l0, l1, l2, l3, l4, l5, l6], st, k, h) = zz_Run zz_prog d 179 (1227, [l0, l1, l2, l3, l4, l5, l6], .int 0 :: st, k, h) := zz_k_num f179_1226 rfl
theorem f179_1227 : zz_fetch zz_prog 179 1227 = some (.ireturn, 1, [1], []) := zz_fetch_of p179 rfl rfl
theorem s179_1227 : zz_Run zz_prog d 179 (1227, [l0, l1, l2, l3, l4, l5, l6], [.int v], k, h) = zz_ck (decide (v = 0 ∨ v = 1)) (some (.inl (some (.int v)), k, h)) := zz_k_retz f179_1227
theorem f179_1228 : zz_fetch zz_prog 179 1228 = some (.goto 301, 3, [1529], []) := zz_fetch_of p179 rfl rfl
theorem s179_1228 : zz_Run zz_prog d 179 (1228, [l0, l1, l2, l3, l4, l5, l6], st, k, h) = zz_Run zz_prog d 179 (1529, [l0, l1, l2, l3, l4, l5, l6], st, k, h) := zz_k_num f179_1228 rfl
theorem f179_1231 : zz_fetch zz_prog 179 1231 = some (.aload_n 1, 1, [], []) := zz_fetch_of p179 rfl rfl
theorem s179_1231 : zz_Run zz_prog d 179 (1231, [l0, some (.ref a), l2, l3, l4, l5, l6], st, k, h) = zz_Run zz_prog d 179 (1232, [l0, some (.ref a), l2, l3, l4, l5, l6], .ref a :: st, k, h) := zz_k_num f179_1231 rfl
theorem f179_1232 : zz_fetch zz_prog 179 1232 = some (.aload_n 0, 1, [], []) := zz_fetch_of p179 rfl rfl
theorem s179_1232 : zz_Run zz_prog d 179 (1232, [some (.ref a), l1, l2, l3, l4, l5, l6], st, k, h) = zz_Run zz_prog d 179 (1233, [some (.ref a), l1, l2, l3, l4, l5, l6], .ref a :: st, k, h) := zz_k_num f179_1232 rfl
theorem f179_1233 : zz_fetch zz_prog 179 1233 = some (.iload 4, 2, [], []) := zz_fetch_of p179 rfl rfl
theorem s179_1233 : zz_Run zz_prog d 179 (1233, [l0, l1, l2, l3, some (.int v), l5, l6], st, k, h) = zz_Run zz_prog d 179 (1235, [l0, l1, l2, l3, some (.int v), l5, l6], .int v :: st, k, h) := zz_k_num f179_1233 rfl
theorem f179_1235 : zz_fetch zz_prog 179 1235 = some (.iconst 1, 1, [], []) := zz_fetch_of p179 rfl rfl
theorem s179_1235 : zz_Run zz_prog d 179 (1235, [l0, l1, l2, l3, l4, l5, l6], st, k, h) = zz_Run zz_prog d 179 (1236, [l0, l1, l2, l3, l4, l5, l6], .int 1 :: st, k, h) := zz_k_num f179_1235 rfl
theorem f179_1236 : zz_fetch zz_prog 179 1236 = some (.iadd, 1, [], []) := zz_fetch_of p179 rfl rfl
theorem s179_1236 : zz_Run zz_prog d 179 (1236, [l0, l1, l2, l3, l4, l5, l6], .int w :: .int v :: st, k, h) = zz_Run zz_prog d 179 (1237, [l0, l1, l2, l3, l4, l5, l6], .int (v + w) :: st, k, h) := zz_k_num f179_1236 rfl
theorem f179_1237 : zz_fetch zz_prog 179 1237 = some (.iaload, 1, [], []) := zz_fetch_of p179 rfl rfl
theorem s179_1237 (ha : zz_isrd a = true) : zz_Run zz_prog d 179 (1237, [l0, l1, l2, l3, l4, l5, l6], .int v :: .ref a :: st, k, (zz_hp n I J ex)) = zz_ck (zz_in v (zz_ary n a)) (zz_Run zz_prog d 179 (1238, [l0, l1, l2, l3, l4, l5, l6], .int (I a v.toNatClampNeg) :: st, k, (zz_hp n I J ex))) := zz_k_iald f179_1237 ha
theorem f179_1238 : zz_fetch zz_prog 179 1238 = some (.aload_n 3, 1, [], []) := zz_fetch_of p179 rfl rfl
theorem s179_1238 : zz_Run zz_prog d 179 (1238, [l0, l1, l2, some (.ref a), l4, l5, l6], st, k, h) = zz_Run zz_prog d 179 (1239, [l0, l1, l2, some (.ref a), l4, l5, l6], .ref a :: st, k, h) := zz_k_num f179_1238 rfl
theorem f179_1239 : zz_fetch zz_prog 179 1239 = some (.invokestatic 168, 3, [0, 174, 3], []) := zz_fetch_of p179 rfl rfl
theorem s179_1239 : zz_Run zz_prog d 179 (1239, [l0, l1, l2, l3, l4, l5, l6], [b0, b1, b2], k, h) = zz_ret (zz_Call zz_prog d 174 [b2, b1, b0] h) (fun v k' h' => zz_Run zz_prog d 179 (1242, [l0, l1, l2, l3, l4, l5, l6], v.toList ++ [], k && k', h')) (fun a k' h' => zz_th d 179 1239 a [l0, l1, l2, l3, l4, l5, l6] (k && k') h') := zz_k_call f179_1239 rfl rfl rfl
theorem f179_1242 : zz_fetch zz_prog 179 1242 = some (.istore 5, 2, [], []) := zz_fetch_of p179 rfl rfl
theorem s179_1242 : zz_Run zz_prog d 179 (1242, [l0, l1, l2, l3, l4, l5, l6], .int v :: st, k, h) = zz_sl l4 (zz_Run zz_prog d 179 (1244, [l0, l1, l2, l3, l4, some (.int v), l6], st, k, h)) := zz_k_st (j := 5) (u := .int v) f179_1242 rfl (fun q hq => by cases hq) rfl (show 5 < 7 by decide) (by cases l4 <;> rfl) rfl
theorem f179_1244 : zz_fetch zz_prog 179 1244 = some (.aload_n 2, 1, [], []) := zz_fetch_of p179 rfl rfl
theorem s179_1244 : zz_Run zz_prog d 179 (1244, [l0, l1, some (.ref a), l3, l4, l5, l6], st, k, h) = zz_Run zz_prog d 179 (1245, [l0, l1, some (.ref a), l3, l4, l5, l6], .ref a :: st, k, h) := zz_k_num f179_1244 rfl
theorem f179_1245 : zz_fetch zz_prog 179 1245 = some (.aload_n 0, 1, [], []) := zz_fetch_of p179 rfl rfl
theorem s179_1245 : zz_Run zz_prog d 179 (1245, [some (.ref a), l1, l2, l3, l4, l5, l6], st, k, h) = zz_Run zz_prog d 179 (1246, [some (.ref a), l1, l2, l3, l4, l5, l6], .ref a :: st, k, h) := zz_k_num f179_1245 rfl
theorem f179_1246 : zz_fetch zz_prog 179 1246 = some (.iload 4, 2, [], []) := zz_fetch_of p179 rfl rfl
theorem s179_1246 : zz_Run zz_prog d 179 (1246, [l0, l1, l2, l3, some (.int v), l5, l6], st, k, h) = zz_Run zz_prog d 179 (1248, [l0, l1, l2, l3, some (.int v), l5, l6], .int v :: st, k, h) := zz_k_num f179_1246 rfl
theorem f179_1248 : zz_fetch zz_prog 179 1248 = some (.iconst 1, 1, [], []) := zz_fetch_of p179 rfl rfl
theorem s179_1248 : zz_Run zz_prog d 179 (1248, [l0, l1, l2, l3, l4, l5, l6], st, k, h) = zz_Run zz_prog d 179 (1249, [l0, l1, l2, l3, l4, l5, l6], .int 1 :: st, k, h) := zz_k_num f179_1248 rfl
theorem f179_1249 : zz_fetch zz_prog 179 1249 = some (.iadd, 1, [], []) := zz_fetch_of p179 rfl rfl
theorem s179_1249 : zz_Run zz_prog d 179 (1249, [l0, l1, l2, l3, l4, l5, l6], .int w :: .int v :: st, k, h) = zz_Run zz_prog d 179 (1250, [l0, l1, l2, l3, l4, l5, l6], .int (v + w) :: st, k, h) := zz_k_num f179_1249 rfl
theorem f179_1250 : zz_fetch zz_prog 179 1250 = some (.iaload, 1, [], []) := zz_fetch_of p179 rfl rfl
theorem s179_1250 (ha : zz_isrd a = true) : zz_Run zz_prog d 179 (1250, [l0, l1, l2, l3, l4, l5, l6], .int v :: .ref a :: st, k, (zz_hp n I J ex)) = zz_ck (zz_in v (zz_ary n a)) (zz_Run zz_prog d 179 (1251, [l0, l1, l2, l3, l4, l5, l6], .int (I a v.toNatClampNeg) :: st, k, (zz_hp n I J ex))) := zz_k_iald f179_1250 ha
theorem f179_1251 : zz_fetch zz_prog 179 1251 = some (.invokevirtual 170, 3, [0, 149, 2, 2], []) := zz_fetch_of p179 rfl rfl
theorem s179_1251 : zz_Run zz_prog d 179 (1251, [l0, l1, l2, l3, l4, l5, l6], [b0, .ref 23], k, (zz_hp n I J ex)) = zz_ret (zz_Call zz_prog d 149 [.ref 23, b0] (zz_hp n I J ex)) (fun v k' h' => zz_Run zz_prog d 179 (1254, [l0, l1, l2, l3, l4, l5, l6], v.toList ++ [], k && k', h')) (fun a k' h' => zz_th d 179 1251 a [l0, l1, l2, l3, l4, l5, l6] (k && k') h') := zz_k_call f179_1251 rfl rfl rfl
theorem f179_1254 : zz_fetch zz_prog 179 1254 = some (.istore 6, 2, [], []) := zz_fetch_of p179 rfl rfl
theorem s179_1254 : zz_Run zz_prog d 179 (1254, [l0, l1, l2, l3, l4, l5, l6], .int v :: st, k, h) = zz_sl l5 (zz_Run zz_prog d 179 (1256, [l0, l1, l2, l3, l4, l5, some (.int v)], st, k, h)) := zz_k_st (j := 6) (u := .int v) f179_1254 rfl (fun q hq => by cases hq) rfl (show 6 < 7 by decide) (by cases l5 <;> rfl) rfl
theorem f179_1256 : zz_fetch zz_prog 179 1256 = some (.aload_n 2, 1, [], []) := zz_fetch_of p179 rfl rfl
theorem s179_1256 : zz_Run zz_prog d 179 (1256, [l0, l1, some (.ref a), l3, l4, l5, l6], st, k, h) = zz_Run zz_prog d 179 (1257, [l0, l1, some (.ref a), l3, l4, l5, l6], .ref a :: st, k, h) := zz_k_num f179_1256 rfl
theorem f179_1257 : zz_fetch zz_prog 179 1257 = some (.invokevirtual 97, 3, [0, 89, 1, 2], []) := zz_fetch_of p179 rfl rfl
theorem s179_1257 : zz_Run zz_prog d 179 (1257, [l0, l1, l2, l3, l4, l5, l6], [.ref 23], k, (zz_hp n I J ex)) = zz_ret (zz_Call zz_prog d 89 [.ref 23] (zz_hp n I J ex)) (fun v k' h' => zz_Run zz_prog d 179 (1260, [l0, l1, l2, l3, l4, l5, l6], v.toList ++ [], k && k', h')) (fun a k' h' => zz_th d 179 1257 a [l0, l1, l2, l3, l4, l5, l6] (k && k') h') := zz_k_call f179_1257 rfl rfl rfl
theorem f179_1260 : zz_fetch zz_prog 179 1260 = some (.iload 5, 2, [], []) := zz_fetch_of p179 rfl rfl
theorem s179_1260 : zz_Run zz_prog d 179 (1260, [l0, l1, l2, l3, l4, some (.int v), l6], st, k, h) = zz_Run zz_prog d 179 (1262, [l0, l1, l2, l3, l4, some (.int v), l6], .int v :: st, k, h) := zz_k_num f179_1260 rfl
theorem f179_1262 : zz_fetch zz_prog 179 1262 = some (.if_icmp .eq 5, 3, [1267], []) := zz_fetch_of p179 rfl rfl
theorem s179_1262 : zz_Run zz_prog d 179 (1262, [l0, l1, l2, l3, l4, l5, l6], .int w :: .int v :: st, k, h) = if v = w then zz_Run zz_prog d 179 (1267, [l0, l1, l2, l3, l4, l5, l6], st, k, h) else zz_Run zz_prog d 179 (1265, [l0, l1, l2, l3, l4, l5, l6], st, k, h) := zz_k_br (v = w) rfl (zz_k_num f179_1262 rfl)
theorem f179_1265 : zz_fetch zz_prog 179 1265 = some (.iconst 0, 1, [], []) := zz_fetch_of p179 rfl rfl
theorem s179_1265 : zz_Run zz_prog d 179 (1265, [l0, l1, l2, l3, l4, l5, l6], st, k, h) = zz_Run zz_prog d 179 (1266, [l0, l1, l2, l3, l4, l5, l6], .int 0 :: st, k, h) := zz_k_num f179_1265 rfl
theorem f179_1266 : zz_fetch zz_prog 179 1266 = some (.ireturn, 1, [1], []) := zz_fetch_of p179 rfl rfl
theorem s179_1266 : zz_Run zz_prog d 179 (1266, [l0, l1, l2, l3, l4, l5, l6], [.int v], k, h) = zz_ck (decide (v = 0 ∨ v = 1)) (some (.inl (some (.int v)), k, h)) := zz_k_retz f179_1266
theorem f179_1267 : zz_fetch zz_prog 179 1267 = some (.iload 5, 2, [], []) := zz_fetch_of p179 rfl rfl
theorem s179_1267 : zz_Run zz_prog d 179 (1267, [l0, l1, l2, l3, l4, some (.int v), l6], st, k, h) = zz_Run zz_prog d 179 (1269, [l0, l1, l2, l3, l4, some (.int v), l6], .int v :: st, k, h) := zz_k_num f179_1267 rfl
theorem f179_1269 : zz_fetch zz_prog 179 1269 = some (.ifCond .ne 15, 3, [1284], []) := zz_fetch_of p179 rfl rfl
theorem s179_1269 : zz_Run zz_prog d 179 (1269, [l0, l1, l2, l3, l4, l5, l6], .int v :: st, k, h) = if ¬ v = 0 then zz_Run zz_prog d 179 (1284, [l0, l1, l2, l3, l4, l5, l6], st, k, h) else zz_Run zz_prog d 179 (1272, [l0, l1, l2, l3, l4, l5, l6], st, k, h) := zz_k_br (¬ v = 0) rfl (zz_k_num f179_1269 rfl)
theorem f179_1272 : zz_fetch zz_prog 179 1272 = some (.aload_n 3, 1, [], []) := zz_fetch_of p179 rfl rfl
theorem s179_1272 : zz_Run zz_prog d 179 (1272, [l0, l1, l2, some (.ref a), l4, l5, l6], st, k, h) = zz_Run zz_prog d 179 (1273, [l0, l1, l2, some (.ref a), l4, l5, l6], .ref a :: st, k, h) := zz_k_num f179_1272 rfl
theorem f179_1273 : zz_fetch zz_prog 179 1273 = some (.iconst 0, 1, [], []) := zz_fetch_of p179 rfl rfl
theorem s179_1273 : zz_Run zz_prog d 179 (1273, [l0, l1, l2, l3, l4, l5, l6], st, k, h) = zz_Run zz_prog d 179 (1274, [l0, l1, l2, l3, l4, l5, l6], .int 0 :: st, k, h) := zz_k_num f179_1273 rfl
theorem f179_1274 : zz_fetch zz_prog 179 1274 = some (.laload, 1, [], []) := zz_fetch_of p179 rfl rfl
theorem s179_1274 : zz_Run zz_prog d 179 (1274, [l0, l1, l2, l3, l4, l5, l6], .int 0 :: .ref 44 :: st, k, (zz_hp n I J ex)) = zz_Run zz_prog d 179 (1275, [l0, l1, l2, l3, l4, l5, l6], .long (J 44 0) :: st, k, (zz_hp n I J ex)) := zz_k_go f179_1274 rfl rfl rfl
theorem f179_1275 : zz_fetch zz_prog 179 1275 = some (.iload 6, 2, [], []) := zz_fetch_of p179 rfl rfl
theorem s179_1275 : zz_Run zz_prog d 179 (1275, [l0, l1, l2, l3, l4, l5, some (.int v)], st, k, h) = zz_Run zz_prog d 179 (1277, [l0, l1, l2, l3, l4, l5, some (.int v)], .int v :: st, k, h) := zz_k_num f179_1275 rfl
theorem f179_1277 : zz_fetch zz_prog 179 1277 = some (.i2l, 1, [], []) := zz_fetch_of p179 rfl rfl
theorem s179_1277 : zz_Run zz_prog d 179 (1277, [l0, l1, l2, l3, l4, l5, l6], .int v :: st, k, h) = zz_Run zz_prog d 179 (1278, [l0, l1, l2, l3, l4, l5, l6], .long v.toInt64 :: st, k, h) := zz_k_num f179_1277 rfl
theorem f179_1278 : zz_fetch zz_prog 179 1278 = some (.lcmp, 1, [], []) := zz_fetch_of p179 rfl rfl
theorem s179_1278 : zz_Run zz_prog d 179 (1278, [l0, l1, l2, l3, l4, l5, l6], .long y1 :: .long y :: st, k, h) = zz_Run zz_prog d 179 (1279, [l0, l1, l2, l3, l4, l5, l6], .int (lg_cmp y y1) :: st, k, h) := zz_k_num f179_1278 rfl
theorem f179_1279 : zz_fetch zz_prog 179 1279 = some (.ifCond .eq 5, 3, [1284], []) := zz_fetch_of p179 rfl rfl
theorem s179_1279 : zz_Run zz_prog d 179 (1279, [l0, l1, l2, l3, l4, l5, l6], .int v :: st, k, h) = if v = 0 then zz_Run zz_prog d 179 (1284, [l0, l1, l2, l3, l4, l5, l6], st, k, h) else zz_Run zz_prog d 179 (1282, [l0, l1, l2, l3, l4, l5, l6], st, k, h) := zz_k_br (v = 0) rfl (zz_k_num f179_1279 rfl)
theorem f179_1282 : zz_fetch zz_prog 179 1282 = some (.iconst 0, 1, [], []) := zz_fetch_of p179 rfl rfl
theorem s179_1282 : zz_Run zz_prog d 179 (1282, [l0, l1, l2, l3, l4, l5, l6], st, k, h) = zz_Run zz_prog d 179 (1283, [l0, l1, l2, l3, l4, l5, l6], .int 0 :: st, k, h) := zz_k_num f179_1282 rfl
theorem f179_1283 : zz_fetch zz_prog 179 1283 = some (.ireturn, 1, [1], []) := zz_fetch_of p179 rfl rfl
theorem s179_1283 : zz_Run zz_prog d 179 (1283, [l0, l1, l2, l3, l4, l5, l6], [.int v], k, h) = zz_ck (decide (v = 0 ∨ v = 1)) (some (.inl (some (.int v)), k, h)) := zz_k_retz f179_1283
theorem f179_1284 : zz_fetch zz_prog 179 1284 = some (.goto 245, 3, [1529], []) := zz_fetch_of p179 rfl rfl
theorem s179_1284 : zz_Run zz_prog d 179 (1284, [l0, l1, l2, l3, l4, l5, l6], st, k, h) = zz_Run zz_prog d 179 (1529, [l0, l1, l2, l3, l4, l5, l6], st, k, h) := zz_k_num f179_1284 rfl
theorem f179_1287 : zz_fetch zz_prog 179 1287 = some (.aload_n 1, 1, [], []) := zz_fetch_of p179 rfl rfl
theorem s179_1287 : zz_Run zz_prog d 179 (1287, [l0, some (.ref a), l2, l3, l4, l5, l6], st, k, h) = zz_Run zz_prog d 179 (1288, [l0, some (.ref a), l2, l3, l4, l5, l6], .ref a :: st, k, h) := zz_k_num f179_1287 rfl
theorem f179_1288 : zz_fetch zz_prog 179 1288 = some (.aload_n 0, 1, [], []) := zz_fetch_of p179 rfl rfl
theorem s179_1288 : zz_Run zz_prog d 179 (1288, [some (.ref a), l1, l2, l3, l4, l5, l6], st, k, h) = zz_Run zz_prog d 179 (1289, [some (.ref a), l1, l2, l3, l4, l5, l6], .ref a :: st, k, h) := zz_k_num f179_1288 rfl
theorem f179_1289 : zz_fetch zz_prog 179 1289 = some (.iload 4, 2, [], []) := zz_fetch_of p179 rfl rfl
theorem s179_1289 : zz_Run zz_prog d 179 (1289, [l0, l1, l2, l3, some (.int v), l5, l6], st, k, h) = zz_Run zz_prog d 179 (1291, [l0, l1, l2, l3, some (.int v), l5, l6], .int v :: st, k, h) := zz_k_num f179_1289 rfl
theorem f179_1291 : zz_fetch zz_prog 179 1291 = some (.iconst 1, 1, [], []) := zz_fetch_of p179 rfl rfl
theorem s179_1291 : zz_Run zz_prog d 179 (1291, [l0, l1, l2, l3, l4, l5, l6], st, k, h) = zz_Run zz_prog d 179 (1292, [l0, l1, l2, l3, l4, l5, l6], .int 1 :: st, k, h) := zz_k_num f179_1291 rfl
theorem f179_1292 : zz_fetch zz_prog 179 1292 = some (.iadd, 1, [], []) := zz_fetch_of p179 rfl rfl
theorem s179_1292 : zz_Run zz_prog d 179 (1292, [l0, l1, l2, l3, l4, l5, l6], .int w :: .int v :: st, k, h) = zz_Run zz_prog d 179 (1293, [l0, l1, l2, l3, l4, l5, l6], .int (v + w) :: st, k, h) := zz_k_num f179_1292 rfl
theorem f179_1293 : zz_fetch zz_prog 179 1293 = some (.iaload, 1, [], []) := zz_fetch_of p179 rfl rfl
theorem s179_1293 (ha : zz_isrd a = true) : zz_Run zz_prog d 179 (1293, [l0, l1, l2, l3, l4, l5, l6], .int v :: .ref a :: st, k, (zz_hp n I J ex)) = zz_ck (zz_in v (zz_ary n a)) (zz_Run zz_prog d 179 (1294, [l0, l1, l2, l3, l4, l5, l6], .int (I a v.toNatClampNeg) :: st, k, (zz_hp n I J ex))) := zz_k_iald f179_1293 ha
theorem f179_1294 : zz_fetch zz_prog 179 1294 = some (.aload_n 3, 1, [], []) := zz_fetch_of p179 rfl rfl
theorem s179_1294 : zz_Run zz_prog d 179 (1294, [l0, l1, l2, some (.ref a), l4, l5, l6], st, k, h) = zz_Run zz_prog d 179 (1295, [l0, l1, l2, some (.ref a), l4, l5, l6], .ref a :: st, k, h) := zz_k_num f179_1294 rfl
theorem f179_1295 : zz_fetch zz_prog 179 1295 = some (.invokestatic 171, 3, [0, 175, 3], []) := zz_fetch_of p179 rfl rfl
theorem s179_1295 : zz_Run zz_prog d 179 (1295, [l0, l1, l2, l3, l4, l5, l6], [b0, b1, b2], k, h) = zz_ret (zz_Call zz_prog d 175 [b2, b1, b0] h) (fun v k' h' => zz_Run zz_prog d 179 (1298, [l0, l1, l2, l3, l4, l5, l6], v.toList ++ [], k && k', h')) (fun a k' h' => zz_th d 179 1295 a [l0, l1, l2, l3, l4, l5, l6] (k && k') h') := zz_k_call f179_1295 rfl rfl rfl
theorem f179_1298 : zz_fetch zz_prog 179 1298 = some (.istore 5, 2, [], []) := zz_fetch_of p179 rfl rfl
theorem s179_1298 : zz_Run zz_prog d 179 (1298, [l0, l1, l2, l3, l4, l5, l6], .int v :: st, k, h) = zz_sl l4 (zz_Run zz_prog d 179 (1300, [l0, l1, l2, l3, l4, some (.int v), l6], st, k, h)) := zz_k_st (j := 5) (u := .int v) f179_1298 rfl (fun q hq => by cases hq) rfl (show 5 < 7 by decide) (by cases l4 <;> rfl) rfl
theorem f179_1300 : zz_fetch zz_prog 179 1300 = some (.aload_n 2, 1, [], []) := zz_fetch_of p179 rfl rfl
theorem s179_1300 : zz_Run zz_prog d 179 (1300, [l0, l1, some (.ref a), l3, l4, l5, l6], st, k, h) = zz_Run zz_prog d 179 (1301, [l0, l1, some (.ref a), l3, l4, l5, l6], .ref a :: st, k, h) := zz_k_num f179_1300 rfl
theorem f179_1301 : zz_fetch zz_prog 179 1301 = some (.aload_n 0, 1, [], []) := zz_fetch_of p179 rfl rfl
theorem s179_1301 : zz_Run zz_prog d 179 (1301, [some (.ref a), l1, l2, l3, l4, l5, l6], st, k, h) = zz_Run zz_prog d 179 (1302, [some (.ref a), l1, l2, l3, l4, l5, l6], .ref a :: st, k, h) := zz_k_num f179_1301 rfl
theorem f179_1302 : zz_fetch zz_prog 179 1302 = some (.iload 4, 2, [], []) := zz_fetch_of p179 rfl rfl
theorem s179_1302 : zz_Run zz_prog d 179 (1302, [l0, l1, l2, l3, some (.int v), l5, l6], st, k, h) = zz_Run zz_prog d 179 (1304, [l0, l1, l2, l3, some (.int v), l5, l6], .int v :: st, k, h) := zz_k_num f179_1302 rfl
theorem f179_1304 : zz_fetch zz_prog 179 1304 = some (.iconst 1, 1, [], []) := zz_fetch_of p179 rfl rfl
theorem s179_1304 : zz_Run zz_prog d 179 (1304, [l0, l1, l2, l3, l4, l5, l6], st, k, h) = zz_Run zz_prog d 179 (1305, [l0, l1, l2, l3, l4, l5, l6], .int 1 :: st, k, h) := zz_k_num f179_1304 rfl
theorem f179_1305 : zz_fetch zz_prog 179 1305 = some (.iadd, 1, [], []) := zz_fetch_of p179 rfl rfl
theorem s179_1305 : zz_Run zz_prog d 179 (1305, [l0, l1, l2, l3, l4, l5, l6], .int w :: .int v :: st, k, h) = zz_Run zz_prog d 179 (1306, [l0, l1, l2, l3, l4, l5, l6], .int (v + w) :: st, k, h) := zz_k_num f179_1305 rfl
theorem f179_1306 : zz_fetch zz_prog 179 1306 = some (.iaload, 1, [], []) := zz_fetch_of p179 rfl rfl
theorem s179_1306 (ha : zz_isrd a = true) : zz_Run zz_prog d 179 (1306, [l0, l1, l2, l3, l4, l5, l6], .int v :: .ref a :: st, k, (zz_hp n I J ex)) = zz_ck (zz_in v (zz_ary n a)) (zz_Run zz_prog d 179 (1307, [l0, l1, l2, l3, l4, l5, l6], .int (I a v.toNatClampNeg) :: st, k, (zz_hp n I J ex))) := zz_k_iald f179_1306 ha
theorem f179_1307 : zz_fetch zz_prog 179 1307 = some (.invokevirtual 173, 3, [0, 150, 2, 2], []) := zz_fetch_of p179 rfl rfl
theorem s179_1307 : zz_Run zz_prog d 179 (1307, [l0, l1, l2, l3, l4, l5, l6], [b0, .ref 23], k, (zz_hp n I J ex)) = zz_ret (zz_Call zz_prog d 150 [.ref 23, b0] (zz_hp n I J ex)) (fun v k' h' => zz_Run zz_prog d 179 (1310, [l0, l1, l2, l3, l4, l5, l6], v.toList ++ [], k && k', h')) (fun a k' h' => zz_th d 179 1307 a [l0, l1, l2, l3, l4, l5, l6] (k && k') h') := zz_k_call f179_1307 rfl rfl rfl
theorem f179_1310 : zz_fetch zz_prog 179 1310 = some (.istore 6, 2, [], []) := zz_fetch_of p179 rfl rfl
theorem s179_1310 : zz_Run zz_prog d 179 (1310, [l0, l1, l2, l3, l4, l5, l6], .int v :: st, k, h) = zz_sl l5 (zz_Run zz_prog d 179 (1312, [l0, l1, l2, l3, l4, l5, some (.int v)], st, k, h)) := zz_k_st (j := 6) (u := .int v) f179_1310 rfl (fun q hq => by cases hq) rfl (show 6 < 7 by decide) (by cases l5 <;> rfl) rfl
theorem f179_1312 : zz_fetch zz_prog 179 1312 = some (.aload_n 2, 1, [], []) := zz_fetch_of p179 rfl rfl
theorem s179_1312 : zz_Run zz_prog d 179 (1312, [l0, l1, some (.ref a), l3, l4, l5, l6], st, k, h) = zz_Run zz_prog d 179 (1313, [l0, l1, some (.ref a), l3, l4, l5, l6], .ref a :: st, k, h) := zz_k_num f179_1312 rfl
theorem f179_1313 : zz_fetch zz_prog 179 1313 = some (.invokevirtual 97, 3, [0, 89, 1, 2], []) := zz_fetch_of p179 rfl rfl
theorem s179_1313 : zz_Run zz_prog d 179 (1313, [l0, l1, l2, l3, l4, l5, l6], [.ref 23], k, (zz_hp n I J ex)) = zz_ret (zz_Call zz_prog d 89 [.ref 23] (zz_hp n I J ex)) (fun v k' h' => zz_Run zz_prog d 179 (1316, [l0, l1, l2, l3, l4, l5, l6], v.toList ++ [], k && k', h')) (fun a k' h' => zz_th d 179 1313 a [l0, l1, l2, l3, l4, l5, l6] (k && k') h') := zz_k_call f179_1313 rfl rfl rfl
theorem f179_1316 : zz_fetch zz_prog 179 1316 = some (.iload 5, 2, [], []) := zz_fetch_of p179 rfl rfl
theorem s179_1316 : zz_Run zz_prog d 179 (1316, [l0, l1, l2, l3, l4, some (.int v), l6], st, k, h) = zz_Run zz_prog d 179 (1318, [l0, l1, l2, l3, l4, some (.int v), l6], .int v :: st, k, h) := zz_k_num f179_1316 rfl
theorem f179_1318 : zz_fetch zz_prog 179 1318 = some (.if_icmp .eq 5, 3, [1323], []) := zz_fetch_of p179 rfl rfl
theorem s179_1318 : zz_Run zz_prog d 179 (1318, [l0, l1, l2, l3, l4, l5, l6], .int w :: .int v :: st, k, h) = if v = w then zz_Run zz_prog d 179 (1323, [l0, l1, l2, l3, l4, l5, l6], st, k, h) else zz_Run zz_prog d 179 (1321, [l0, l1, l2, l3, l4, l5, l6], st, k, h) := zz_k_br (v = w) rfl (zz_k_num f179_1318 rfl)
theorem f179_1321 : zz_fetch zz_prog 179 1321 = some (.iconst 0, 1, [], []) := zz_fetch_of p179 rfl rfl
theorem s179_1321 : zz_Run zz_prog d 179 (1321, [l0, l1, l2, l3, l4, l5, l6], st, k, h) = zz_Run zz_prog d 179 (1322, [l0, l1, l2, l3, l4, l5, l6], .int 0 :: st, k, h) := zz_k_num f179_1321 rfl
theorem f179_1322 : zz_fetch zz_prog 179 1322 = some (.ireturn, 1, [1], []) := zz_fetch_of p179 rfl rfl
theorem s179_1322 : zz_Run zz_prog d 179 (1322, [l0, l1, l2, l3, l4, l5, l6], [.int v], k, h) = zz_ck (decide (v = 0 ∨ v = 1)) (some (.inl (some (.int v)), k, h)) := zz_k_retz f179_1322
theorem f179_1323 : zz_fetch zz_prog 179 1323 = some (.iload 5, 2, [], []) := zz_fetch_of p179 rfl rfl
theorem s179_1323 : zz_Run zz_prog d 179 (1323, [l0, l1, l2, l3, l4, some (.int v), l6], st, k, h) = zz_Run zz_prog d 179 (1325, [l0, l1, l2, l3, l4, some (.int v), l6], .int v :: st, k, h) := zz_k_num f179_1323 rfl
theorem f179_1325 : zz_fetch zz_prog 179 1325 = some (.ifCond .ne 15, 3, [1340], []) := zz_fetch_of p179 rfl rfl
theorem s179_1325 : zz_Run zz_prog d 179 (1325, [l0, l1, l2, l3, l4, l5, l6], .int v :: st, k, h) = if ¬ v = 0 then zz_Run zz_prog d 179 (1340, [l0, l1, l2, l3, l4, l5, l6], st, k, h) else zz_Run zz_prog d 179 (1328, [l0, l1, l2, l3, l4, l5, l6], st, k, h) := zz_k_br (¬ v = 0) rfl (zz_k_num f179_1325 rfl)
theorem f179_1328 : zz_fetch zz_prog 179 1328 = some (.aload_n 3, 1, [], []) := zz_fetch_of p179 rfl rfl
theorem s179_1328 : zz_Run zz_prog d 179 (1328, [l0, l1, l2, some (.ref a), l4, l5, l6], st, k, h) = zz_Run zz_prog d 179 (1329, [l0, l1, l2, some (.ref a), l4, l5, l6], .ref a :: st, k, h) := zz_k_num f179_1328 rfl
theorem f179_1329 : zz_fetch zz_prog 179 1329 = some (.iconst 0, 1, [], []) := zz_fetch_of p179 rfl rfl
theorem s179_1329 : zz_Run zz_prog d 179 (1329, [l0, l1, l2, l3, l4, l5, l6], st, k, h) = zz_Run zz_prog d 179 (1330, [l0, l1, l2, l3, l4, l5, l6], .int 0 :: st, k, h) := zz_k_num f179_1329 rfl
theorem f179_1330 : zz_fetch zz_prog 179 1330 = some (.laload, 1, [], []) := zz_fetch_of p179 rfl rfl
theorem s179_1330 : zz_Run zz_prog d 179 (1330, [l0, l1, l2, l3, l4, l5, l6], .int 0 :: .ref 44 :: st, k, (zz_hp n I J ex)) = zz_Run zz_prog d 179 (1331, [l0, l1, l2, l3, l4, l5, l6], .long (J 44 0) :: st, k, (zz_hp n I J ex)) := zz_k_go f179_1330 rfl rfl rfl
theorem f179_1331 : zz_fetch zz_prog 179 1331 = some (.iload 6, 2, [], []) := zz_fetch_of p179 rfl rfl
theorem s179_1331 : zz_Run zz_prog d 179 (1331, [l0, l1, l2, l3, l4, l5, some (.int v)], st, k, h) = zz_Run zz_prog d 179 (1333, [l0, l1, l2, l3, l4, l5, some (.int v)], .int v :: st, k, h) := zz_k_num f179_1331 rfl
theorem f179_1333 : zz_fetch zz_prog 179 1333 = some (.i2l, 1, [], []) := zz_fetch_of p179 rfl rfl
theorem s179_1333 : zz_Run zz_prog d 179 (1333, [l0, l1, l2, l3, l4, l5, l6], .int v :: st, k, h) = zz_Run zz_prog d 179 (1334, [l0, l1, l2, l3, l4, l5, l6], .long v.toInt64 :: st, k, h) := zz_k_num f179_1333 rfl
theorem f179_1334 : zz_fetch zz_prog 179 1334 = some (.lcmp, 1, [], []) := zz_fetch_of p179 rfl rfl
theorem s179_1334 : zz_Run zz_prog d 179 (1334, [l0, l1, l2, l3, l4, l5, l6], .long y1 :: .long y :: st, k, h) = zz_Run zz_prog d 179 (1335, [l0, l1, l2, l3, l4, l5, l6], .int (lg_cmp y y1) :: st, k, h) := zz_k_num f179_1334 rfl
theorem f179_1335 : zz_fetch zz_prog 179 1335 = some (.ifCond .eq 5, 3, [1340], []) := zz_fetch_of p179 rfl rfl
theorem s179_1335 : zz_Run zz_prog d 179 (1335, [l0, l1, l2, l3, l4, l5, l6], .int v :: st, k, h) = if v = 0 then zz_Run zz_prog d 179 (1340, [l0, l1, l2, l3, l4, l5, l6], st, k, h) else zz_Run zz_prog d 179 (1338, [l0, l1, l2, l3, l4, l5, l6], st, k, h) := zz_k_br (v = 0) rfl (zz_k_num f179_1335 rfl)
theorem f179_1338 : zz_fetch zz_prog 179 1338 = some (.iconst 0, 1, [], []) := zz_fetch_of p179 rfl rfl
theorem s179_1338 : zz_Run zz_prog d 179 (1338, [l0, l1, l2, l3, l4, l5, l6], st, k, h) = zz_Run zz_prog d 179 (1339, [l0, l1, l2, l3, l4, l5, l6], .int 0 :: st, k, h) := zz_k_num f179_1338 rfl
theorem f179_1339 : zz_fetch zz_prog 179 1339 = some (.ireturn, 1, [1], []) := zz_fetch_of p179 rfl rfl
theorem s179_1339 : zz_Run zz_prog d 179 (1339, [l0, l1, l2, l3, l4, l5, l6], [.int v], k, h) = zz_ck (decide (v = 0 ∨ v = 1)) (some (.inl (some (.int v)), k, h)) := zz_k_retz f179_1339
theorem f179_1340 : zz_fetch zz_prog 179 1340 = some (.goto 189, 3, [1529], []) := zz_fetch_of p179 rfl rfl
theorem s179_1340 : zz_Run zz_prog d 179 (1340, [l0, l1, l2, l3, l4, l5, l6], st, k, h) = zz_Run zz_prog d 179 (1529, [l0, l1, l2, l3, l4, l5, l6], st, k, h) := zz_k_num f179_1340 rfl
theorem f179_1343 : zz_fetch zz_prog 179 1343 = some (.aload_n 1, 1, [], []) := zz_fetch_of p179 rfl rfl
theorem s179_1343 : zz_Run zz_prog d 179 (1343, [l0, some (.ref a), l2, l3, l4, l5, l6], st, k, h) = zz_Run zz_prog d 179 (1344, [l0, some (.ref a), l2, l3, l4, l5, l6], .ref a :: st, k, h) := zz_k_num f179_1343 rfl
theorem f179_1344 : zz_fetch zz_prog 179 1344 = some (.invokevirtual 174, 3, [0, 23, 1, 1], []) := zz_fetch_of p179 rfl rfl
theorem s179_1344 : zz_Run zz_prog d 179 (1344, [l0, l1, l2, l3, l4, l5, l6], [.ref 5], k, (zz_hp n I J ex)) = zz_ret (zz_Call zz_prog d 23 [.ref 5] (zz_hp n I J ex)) (fun v k' h' => zz_Run zz_prog d 179 (1347, [l0, l1, l2, l3, l4, l5, l6], v.toList ++ [], k && k', h')) (fun a k' h' => zz_th d 179 1344 a [l0, l1, l2, l3, l4, l5, l6] (k && k') h') := zz_k_call f179_1344 rfl rfl rfl
theorem f179_1347 : zz_fetch zz_prog 179 1347 = some (.aload_n 2, 1, [], []) := zz_fetch_of p179 rfl rfl
theorem s179_1347 : zz_Run zz_prog d 179 (1347, [l0, l1, some (.ref a), l3, l4, l5, l6], st, k, h) = zz_Run zz_prog d 179 (1348, [l0, l1, some (.ref a), l3, l4, l5, l6], .ref a :: st, k, h) := zz_k_num f179_1347 rfl
theorem f179_1348 : zz_fetch zz_prog 179 1348 = some (.invokevirtual 177, 3, [0, 151, 1, 2], []) := zz_fetch_of p179 rfl rfl
theorem s179_1348 : zz_Run zz_prog d 179 (1348, [l0, l1, l2, l3, l4, l5, l6], [.ref 23, b1], k, (zz_hp n I J ex)) = zz_ret (zz_Call zz_prog d 151 [.ref 23] (zz_hp n I J ex)) (fun v k' h' => zz_Run zz_prog d 179 (1351, [l0, l1, l2, l3, l4, l5, l6], v.toList ++ [b1], k && k', h')) (fun a k' h' => zz_th d 179 1348 a [l0, l1, l2, l3, l4, l5, l6] (k && k') h') := zz_k_call f179_1348 rfl rfl rfl
theorem f179_1351 : zz_fetch zz_prog 179 1351 = some (.if_icmp .eq 178, 3, [1529], []) := zz_fetch_of p179 rfl rfl
theorem s179_1351 : zz_Run zz_prog d 179 (1351, [l0, l1, l2, l3, l4, l5, l6], .int w :: .int v :: st, k, h) = if v = w then zz_Run zz_prog d 179 (1529, [l0, l1, l2, l3, l4, l5, l6], st, k, h) else zz_Run zz_prog d 179 (1354, [l0, l1, l2, l3, l4, l5, l6], st, k, h) := zz_k_br (v = w) rfl (zz_k_num f179_1351 rfl)
theorem f179_1354 : zz_fetch zz_prog 179 1354 = some (.iconst 0, 1, [], []) := zz_fetch_of p179 rfl rfl
theorem s179_1354 : zz_Run zz_prog d 179 (1354, [l0, l1, l2, l3, l4, l5, l6], st, k, h) = zz_Run zz_prog d 179 (1355, [l0, l1, l2, l3, l4, l5, l6], .int 0 :: st, k, h) := zz_k_num f179_1354 rfl
theorem f179_1355 : zz_fetch zz_prog 179 1355 = some (.ireturn, 1, [1], []) := zz_fetch_of p179 rfl rfl
theorem s179_1355 : zz_Run zz_prog d 179 (1355, [l0, l1, l2, l3, l4, l5, l6], [.int v], k, h) = zz_ck (decide (v = 0 ∨ v = 1)) (some (.inl (some (.int v)), k, h)) := zz_k_retz f179_1355
theorem f179_1356 : zz_fetch zz_prog 179 1356 = some (.aload_n 1, 1, [], []) := zz_fetch_of p179 rfl rfl
theorem s179_1356 : zz_Run zz_prog d 179 (1356, [l0, some (.ref a), l2, l3, l4, l5, l6], st, k, h) = zz_Run zz_prog d 179 (1357, [l0, some (.ref a), l2, l3, l4, l5, l6], .ref a :: st, k, h) := zz_k_num f179_1356 rfl
theorem f179_1357 : zz_fetch zz_prog 179 1357 = some (.aload_n 0, 1, [], []) := zz_fetch_of p179 rfl rfl
theorem s179_1357 : zz_Run zz_prog d 179 (1357, [some (.ref a), l1, l2, l3, l4, l5, l6], st, k, h) = zz_Run zz_prog d 179 (1358, [some (.ref a), l1, l2, l3, l4, l5, l6], .ref a :: st, k, h) := zz_k_num f179_1357 rfl
theorem f179_1358 : zz_fetch zz_prog 179 1358 = some (.iload 4, 2, [], []) := zz_fetch_of p179 rfl rfl
theorem s179_1358 : zz_Run zz_prog d 179 (1358, [l0, l1, l2, l3, some (.int v), l5, l6], st, k, h) = zz_Run zz_prog d 179 (1360, [l0, l1, l2, l3, some (.int v), l5, l6], .int v :: st, k, h) := zz_k_num f179_1358 rfl
theorem f179_1360 : zz_fetch zz_prog 179 1360 = some (.iconst 1, 1, [], []) := zz_fetch_of p179 rfl rfl
theorem s179_1360 : zz_Run zz_prog d 179 (1360, [l0, l1, l2, l3, l4, l5, l6], st, k, h) = zz_Run zz_prog d 179 (1361, [l0, l1, l2, l3, l4, l5, l6], .int 1 :: st, k, h) := zz_k_num f179_1360 rfl
theorem f179_1361 : zz_fetch zz_prog 179 1361 = some (.iadd, 1, [], []) := zz_fetch_of p179 rfl rfl
theorem s179_1361 : zz_Run zz_prog d 179 (1361, [l0, l1, l2, l3, l4, l5, l6], .int w :: .int v :: st, k, h) = zz_Run zz_prog d 179 (1362, [l0, l1, l2, l3, l4, l5, l6], .int (v + w) :: st, k, h) := zz_k_num f179_1361 rfl
theorem f179_1362 : zz_fetch zz_prog 179 1362 = some (.iaload, 1, [], []) := zz_fetch_of p179 rfl rfl
theorem s179_1362 (ha : zz_isrd a = true) : zz_Run zz_prog d 179 (1362, [l0, l1, l2, l3, l4, l5, l6], .int v :: .ref a :: st, k, (zz_hp n I J ex)) = zz_ck (zz_in v (zz_ary n a)) (zz_Run zz_prog d 179 (1363, [l0, l1, l2, l3, l4, l5, l6], .int (I a v.toNatClampNeg) :: st, k, (zz_hp n I J ex))) := zz_k_iald f179_1362 ha
theorem f179_1363 : zz_fetch zz_prog 179 1363 = some (.aload_n 0, 1, [], []) := zz_fetch_of p179 rfl rfl
theorem s179_1363 : zz_Run zz_prog d 179 (1363, [some (.ref a), l1, l2, l3, l4, l5, l6], st, k, h) = zz_Run zz_prog d 179 (1364, [some (.ref a), l1, l2, l3, l4, l5, l6], .ref a :: st, k, h) := zz_k_num f179_1363 rfl
theorem f179_1364 : zz_fetch zz_prog 179 1364 = some (.iload 4, 2, [], []) := zz_fetch_of p179 rfl rfl
theorem s179_1364 : zz_Run zz_prog d 179 (1364, [l0, l1, l2, l3, some (.int v), l5, l6], st, k, h) = zz_Run zz_prog d 179 (1366, [l0, l1, l2, l3, some (.int v), l5, l6], .int v :: st, k, h) := zz_k_num f179_1364 rfl
theorem f179_1366 : zz_fetch zz_prog 179 1366 = some (.iconst 2, 1, [], []) := zz_fetch_of p179 rfl rfl
theorem s179_1366 : zz_Run zz_prog d 179 (1366, [l0, l1, l2, l3, l4, l5, l6], st, k, h) = zz_Run zz_prog d 179 (1367, [l0, l1, l2, l3, l4, l5, l6], .int 2 :: st, k, h) := zz_k_num f179_1366 rfl
theorem f179_1367 : zz_fetch zz_prog 179 1367 = some (.iadd, 1, [], []) := zz_fetch_of p179 rfl rfl
theorem s179_1367 : zz_Run zz_prog d 179 (1367, [l0, l1, l2, l3, l4, l5, l6], .int w :: .int v :: st, k, h) = zz_Run zz_prog d 179 (1368, [l0, l1, l2, l3, l4, l5, l6], .int (v + w) :: st, k, h) := zz_k_num f179_1367 rfl
theorem f179_1368 : zz_fetch zz_prog 179 1368 = some (.iaload, 1, [], []) := zz_fetch_of p179 rfl rfl
theorem s179_1368 (ha : zz_isrd a = true) : zz_Run zz_prog d 179 (1368, [l0, l1, l2, l3, l4, l5, l6], .int v :: .ref a :: st, k, (zz_hp n I J ex)) = zz_ck (zz_in v (zz_ary n a)) (zz_Run zz_prog d 179 (1369, [l0, l1, l2, l3, l4, l5, l6], .int (I a v.toNatClampNeg) :: st, k, (zz_hp n I J ex))) := zz_k_iald f179_1368 ha
theorem f179_1369 : zz_fetch zz_prog 179 1369 = some (.aload_n 3, 1, [], []) := zz_fetch_of p179 rfl rfl
theorem s179_1369 : zz_Run zz_prog d 179 (1369, [l0, l1, l2, some (.ref a), l4, l5, l6], st, k, h) = zz_Run zz_prog d 179 (1370, [l0, l1, l2, some (.ref a), l4, l5, l6], .ref a :: st, k, h) := zz_k_num f179_1369 rfl
theorem f179_1370 : zz_fetch zz_prog 179 1370 = some (.invokestatic 178, 3, [0, 176, 4], []) := zz_fetch_of p179 rfl rfl
theorem s179_1370 : zz_Run zz_prog d 179 (1370, [l0, l1, l2, l3, l4, l5, l6], [b0, b1, b2, b3], k, h) = zz_ret (zz_Call zz_prog d 176 [b3, b2, b1, b0] h) (fun v k' h' => zz_Run zz_prog d 179 (1373, [l0, l1, l2, l3, l4, l5, l6], v.toList ++ [], k && k', h')) (fun a k' h' => zz_th d 179 1370 a [l0, l1, l2, l3, l4, l5, l6] (k && k') h') := zz_k_call f179_1370 rfl rfl rfl
theorem f179_1373 : zz_fetch zz_prog 179 1373 = some (.istore 5, 2, [], []) := zz_fetch_of p179 rfl rfl
theorem s179_1373 : zz_Run zz_prog d 179 (1373, [l0, l1, l2, l3, l4, l5, l6], .int v :: st, k, h) = zz_sl l4 (zz_Run zz_prog d 179 (1375, [l0, l1, l2, l3, l4, some (.int v), l6], st, k, h)) := zz_k_st (j := 5) (u := .int v) f179_1373 rfl (fun q hq => by cases hq) rfl (show 5 < 7 by decide) (by cases l4 <;> rfl) rfl
theorem f179_1375 : zz_fetch zz_prog 179 1375 = some (.aload_n 2, 1, [], []) := zz_fetch_of p179 rfl rfl
theorem s179_1375 : zz_Run zz_prog d 179 (1375, [l0, l1, some (.ref a), l3, l4, l5, l6], st, k, h) = zz_Run zz_prog d 179 (1376, [l0, l1, some (.ref a), l3, l4, l5, l6], .ref a :: st, k, h) := zz_k_num f179_1375 rfl
theorem f179_1376 : zz_fetch zz_prog 179 1376 = some (.aload_n 0, 1, [], []) := zz_fetch_of p179 rfl rfl
theorem s179_1376 : zz_Run zz_prog d 179 (1376, [some (.ref a), l1, l2, l3, l4, l5, l6], st, k, h) = zz_Run zz_prog d 179 (1377, [some (.ref a), l1, l2, l3, l4, l5, l6], .ref a :: st, k, h) := zz_k_num f179_1376 rfl
theorem f179_1377 : zz_fetch zz_prog 179 1377 = some (.iload 4, 2, [], []) := zz_fetch_of p179 rfl rfl
theorem s179_1377 : zz_Run zz_prog d 179 (1377, [l0, l1, l2, l3, some (.int v), l5, l6], st, k, h) = zz_Run zz_prog d 179 (1379, [l0, l1, l2, l3, some (.int v), l5, l6], .int v :: st, k, h) := zz_k_num f179_1377 rfl
theorem f179_1379 : zz_fetch zz_prog 179 1379 = some (.iconst 1, 1, [], []) := zz_fetch_of p179 rfl rfl
theorem s179_1379 : zz_Run zz_prog d 179 (1379, [l0, l1, l2, l3, l4, l5, l6], st, k, h) = zz_Run zz_prog d 179 (1380, [l0, l1, l2, l3, l4, l5, l6], .int 1 :: st, k, h) := zz_k_num f179_1379 rfl
theorem f179_1380 : zz_fetch zz_prog 179 1380 = some (.iadd, 1, [], []) := zz_fetch_of p179 rfl rfl
theorem s179_1380 : zz_Run zz_prog d 179 (1380, [l0, l1, l2, l3, l4, l5, l6], .int w :: .int v :: st, k, h) = zz_Run zz_prog d 179 (1381, [l0, l1, l2, l3, l4, l5, l6], .int (v + w) :: st, k, h) := zz_k_num f179_1380 rfl
theorem f179_1381 : zz_fetch zz_prog 179 1381 = some (.iaload, 1, [], []) := zz_fetch_of p179 rfl rfl
theorem s179_1381 (ha : zz_isrd a = true) : zz_Run zz_prog d 179 (1381, [l0, l1, l2, l3, l4, l5, l6], .int v :: .ref a :: st, k, (zz_hp n I J ex)) = zz_ck (zz_in v (zz_ary n a)) (zz_Run zz_prog d 179 (1382, [l0, l1, l2, l3, l4, l5, l6], .int (I a v.toNatClampNeg) :: st, k, (zz_hp n I J ex))) := zz_k_iald f179_1381 ha
theorem f179_1382 : zz_fetch zz_prog 179 1382 = some (.aload_n 0, 1, [], []) := zz_fetch_of p179 rfl rfl
theorem s179_1382 : zz_Run zz_prog d 179 (1382, [some (.ref a), l1, l2, l3, l4, l5, l6], st, k, h) = zz_Run zz_prog d 179 (1383, [some (.ref a), l1, l2, l3, l4, l5, l6], .ref a :: st, k, h) := zz_k_num f179_1382 rfl
theorem f179_1383 : zz_fetch zz_prog 179 1383 = some (.iload 4, 2, [], []) := zz_fetch_of p179 rfl rfl
theorem s179_1383 : zz_Run zz_prog d 179 (1383, [l0, l1, l2, l3, some (.int v), l5, l6], st, k, h) = zz_Run zz_prog d 179 (1385, [l0, l1, l2, l3, some (.int v), l5, l6], .int v :: st, k, h) := zz_k_num f179_1383 rfl
theorem f179_1385 : zz_fetch zz_prog 179 1385 = some (.iconst 2, 1, [], []) := zz_fetch_of p179 rfl rfl
theorem s179_1385 : zz_Run zz_prog d 179 (1385, [l0, l1, l2, l3, l4, l5, l6], st, k, h) = zz_Run zz_prog d 179 (1386, [l0, l1, l2, l3, l4, l5, l6], .int 2 :: st, k, h) := zz_k_num f179_1385 rfl
theorem f179_1386 : zz_fetch zz_prog 179 1386 = some (.iadd, 1, [], []) := zz_fetch_of p179 rfl rfl
theorem s179_1386 : zz_Run zz_prog d 179 (1386, [l0, l1, l2, l3, l4, l5, l6], .int w :: .int v :: st, k, h) = zz_Run zz_prog d 179 (1387, [l0, l1, l2, l3, l4, l5, l6], .int (v + w) :: st, k, h) := zz_k_num f179_1386 rfl
theorem f179_1387 : zz_fetch zz_prog 179 1387 = some (.iaload, 1, [], []) := zz_fetch_of p179 rfl rfl
theorem s179_1387 (ha : zz_isrd a = true) : zz_Run zz_prog d 179 (1387, [l0, l1, l2, l3, l4, l5, l6], .int v :: .ref a :: st, k, (zz_hp n I J ex)) = zz_ck (zz_in v (zz_ary n a)) (zz_Run zz_prog d 179 (1388, [l0, l1, l2, l3, l4, l5, l6], .int (I a v.toNatClampNeg) :: st, k, (zz_hp n I J ex))) := zz_k_iald f179_1387 ha
theorem f179_1388 : zz_fetch zz_prog 179 1388 = some (.invokevirtual 180, 3, [0, 152, 3, 2], []) := zz_fetch_of p179 rfl rfl
theorem s179_1388 : zz_Run zz_prog d 179 (1388, [l0, l1, l2, l3, l4, l5, l6], [b0, b1, .ref 23], k, (zz_hp n I J ex)) = zz_ret (zz_Call zz_prog d 152 [.ref 23, b1, b0] (zz_hp n I J ex)) (fun v k' h' => zz_Run zz_prog d 179 (1391, [l0, l1, l2, l3, l4, l5, l6], v.toList ++ [], k && k', h')) (fun a k' h' => zz_th d 179 1388 a [l0, l1, l2, l3, l4, l5, l6] (k && k') h') := zz_k_call f179_1388 rfl rfl rfl
theorem f179_1391 : zz_fetch zz_prog 179 1391 = some (.istore 6, 2, [], []) := zz_fetch_of p179 rfl rfl
theorem s179_1391 : zz_Run zz_prog d 179 (1391, [l0, l1, l2, l3, l4, l5, l6], .int v :: st, k, h) = zz_sl l5 (zz_Run zz_prog d 179 (1393, [l0, l1, l2, l3, l4, l5, some (.int v)], st, k, h)) := zz_k_st (j := 6) (u := .int v) f179_1391 rfl (fun q hq => by cases hq) rfl (show 6 < 7 by decide) (by cases l5 <;> rfl) rfl
theorem f179_1393 : zz_fetch zz_prog 179 1393 = some (.aload_n 2, 1, [], []) := zz_fetch_of p179 rfl rfl
theorem s179_1393 : zz_Run zz_prog d 179 (1393, [l0, l1, some (.ref a), l3, l4, l5, l6], st, k, h) = zz_Run zz_prog d 179 (1394, [l0, l1, some (.ref a), l3, l4, l5, l6], .ref a :: st, k, h) := zz_k_num f179_1393 rfl
theorem f179_1394 : zz_fetch zz_prog 179 1394 = some (.invokevirtual 97, 3, [0, 89, 1, 2], []) := zz_fetch_of p179 rfl rfl
theorem s179_1394 : zz_Run zz_prog d 179 (1394, [l0, l1, l2, l3, l4, l5, l6], [.ref 23], k, (zz_hp n I J ex)) = zz_ret (zz_Call zz_prog d 89 [.ref 23] (zz_hp n I J ex)) (fun v k' h' => zz_Run zz_prog d 179 (1397, [l0, l1, l2, l3, l4, l5, l6], v.toList ++ [], k && k', h')) (fun a k' h' => zz_th d 179 1394 a [l0, l1, l2, l3, l4, l5, l6] (k && k') h') := zz_k_call f179_1394 rfl rfl rfl
theorem f179_1397 : zz_fetch zz_prog 179 1397 = some (.iload 5, 2, [], []) := zz_fetch_of p179 rfl rfl
theorem s179_1397 : zz_Run zz_prog d 179 (1397, [l0, l1, l2, l3, l4, some (.int v), l6], st, k, h) = zz_Run zz_prog d 179 (1399, [l0, l1, l2, l3, l4, some (.int v), l6], .int v :: st, k, h) := zz_k_num f179_1397 rfl
theorem f179_1399 : zz_fetch zz_prog 179 1399 = some (.if_icmp .eq 5, 3, [1404], []) := zz_fetch_of p179 rfl rfl
theorem s179_1399 : zz_Run zz_prog d 179 (1399, [l0, l1, l2, l3, l4, l5, l6], .int w :: .int v :: st, k, h) = if v = w then zz_Run zz_prog d 179 (1404, [l0, l1, l2, l3, l4, l5, l6], st, k, h) else zz_Run zz_prog d 179 (1402, [l0, l1, l2, l3, l4, l5, l6], st, k, h) := zz_k_br (v = w) rfl (zz_k_num f179_1399 rfl)
theorem f179_1402 : zz_fetch zz_prog 179 1402 = some (.iconst 0, 1, [], []) := zz_fetch_of p179 rfl rfl
theorem s179_1402 : zz_Run zz_prog d 179 (1402, [l0, l1, l2, l3, l4, l5, l6], st, k, h) = zz_Run zz_prog d 179 (1403, [l0, l1, l2, l3, l4, l5, l6], .int 0 :: st, k, h) := zz_k_num f179_1402 rfl
theorem f179_1403 : zz_fetch zz_prog 179 1403 = some (.ireturn, 1, [1], []) := zz_fetch_of p179 rfl rfl
theorem s179_1403 : zz_Run zz_prog d 179 (1403, [l0, l1, l2, l3, l4, l5, l6], [.int v], k, h) = zz_ck (decide (v = 0 ∨ v = 1)) (some (.inl (some (.int v)), k, h)) := zz_k_retz f179_1403
theorem f179_1404 : zz_fetch zz_prog 179 1404 = some (.iload 5, 2, [], []) := zz_fetch_of p179 rfl rfl
theorem s179_1404 : zz_Run zz_prog d 179 (1404, [l0, l1, l2, l3, l4, some (.int v), l6], st, k, h) = zz_Run zz_prog d 179 (1406, [l0, l1, l2, l3, l4, some (.int v), l6], .int v :: st, k, h) := zz_k_num f179_1404 rfl
theorem f179_1406 : zz_fetch zz_prog 179 1406 = some (.ifCond .ne 15, 3, [1421], []) := zz_fetch_of p179 rfl rfl
theorem s179_1406 : zz_Run zz_prog d 179 (1406, [l0, l1, l2, l3, l4, l5, l6], .int v :: st, k, h) = if ¬ v = 0 then zz_Run zz_prog d 179 (1421, [l0, l1, l2, l3, l4, l5, l6], st, k, h) else zz_Run zz_prog d 179 (1409, [l0, l1, l2, l3, l4, l5, l6], st, k, h) := zz_k_br (¬ v = 0) rfl (zz_k_num f179_1406 rfl)
theorem f179_1409 : zz_fetch zz_prog 179 1409 = some (.aload_n 3, 1, [], []) := zz_fetch_of p179 rfl rfl
theorem s179_1409 : zz_Run zz_prog d 179 (1409, [l0, l1, l2, some (.ref a), l4, l5, l6], st, k, h) = zz_Run zz_prog d 179 (1410, [l0, l1, l2, some (.ref a), l4, l5, l6], .ref a :: st, k, h) := zz_k_num f179_1409 rfl
theorem f179_1410 : zz_fetch zz_prog 179 1410 = some (.iconst 0, 1, [], []) := zz_fetch_of p179 rfl rfl
theorem s179_1410 : zz_Run zz_prog d 179 (1410, [l0, l1, l2, l3, l4, l5, l6], st, k, h) = zz_Run zz_prog d 179 (1411, [l0, l1, l2, l3, l4, l5, l6], .int 0 :: st, k, h) := zz_k_num f179_1410 rfl
theorem f179_1411 : zz_fetch zz_prog 179 1411 = some (.laload, 1, [], []) := zz_fetch_of p179 rfl rfl
theorem s179_1411 : zz_Run zz_prog d 179 (1411, [l0, l1, l2, l3, l4, l5, l6], .int 0 :: .ref 44 :: st, k, (zz_hp n I J ex)) = zz_Run zz_prog d 179 (1412, [l0, l1, l2, l3, l4, l5, l6], .long (J 44 0) :: st, k, (zz_hp n I J ex)) := zz_k_go f179_1411 rfl rfl rfl
theorem f179_1412 : zz_fetch zz_prog 179 1412 = some (.iload 6, 2, [], []) := zz_fetch_of p179 rfl rfl
theorem s179_1412 : zz_Run zz_prog d 179 (1412, [l0, l1, l2, l3, l4, l5, some (.int v)], st, k, h) = zz_Run zz_prog d 179 (1414, [l0, l1, l2, l3, l4, l5, some (.int v)], .int v :: st, k, h) := zz_k_num f179_1412 rfl
theorem f179_1414 : zz_fetch zz_prog 179 1414 = some (.i2l, 1, [], []) := zz_fetch_of p179 rfl rfl
theorem s179_1414 : zz_Run zz_prog d 179 (1414, [l0, l1, l2, l3, l4, l5, l6], .int v :: st, k, h) = zz_Run zz_prog d 179 (1415, [l0, l1, l2, l3, l4, l5, l6], .long v.toInt64 :: st, k, h) := zz_k_num f179_1414 rfl
theorem f179_1415 : zz_fetch zz_prog 179 1415 = some (.lcmp, 1, [], []) := zz_fetch_of p179 rfl rfl
theorem s179_1415 : zz_Run zz_prog d 179 (1415, [l0, l1, l2, l3, l4, l5, l6], .long y1 :: .long y :: st, k, h) = zz_Run zz_prog d 179 (1416, [l0, l1, l2, l3, l4, l5, l6], .int (lg_cmp y y1) :: st, k, h) := zz_k_num f179_1415 rfl
theorem f179_1416 : zz_fetch zz_prog 179 1416 = some (.ifCond .eq 5, 3, [1421], []) := zz_fetch_of p179 rfl rfl
theorem s179_1416 : zz_Run zz_prog d 179 (1416, [l0, l1, l2, l3, l4, l5, l6], .int v :: st, k, h) = if v = 0 then zz_Run zz_prog d 179 (1421, [l0, l1, l2, l3, l4, l5, l6], st, k, h) else zz_Run zz_prog d 179 (1419, [l0, l1, l2, l3, l4, l5, l6], st, k, h) := zz_k_br (v = 0) rfl (zz_k_num f179_1416 rfl)
theorem f179_1419 : zz_fetch zz_prog 179 1419 = some (.iconst 0, 1, [], []) := zz_fetch_of p179 rfl rfl
theorem s179_1419 : zz_Run zz_prog d 179 (1419, [l0, l1, l2, l3, l4, l5, l6], st, k, h) = zz_Run zz_prog d 179 (1420, [l0, l1, l2, l3, l4, l5, l6], .int 0 :: st, k, h) := zz_k_num f179_1419 rfl
theorem f179_1420 : zz_fetch zz_prog 179 1420 = some (.ireturn, 1, [1], []) := zz_fetch_of p179 rfl rfl
theorem s179_1420 : zz_Run zz_prog d 179 (1420, [l0, l1, l2, l3, l4, l5, l6], [.int v], k, h) = zz_ck (decide (v = 0 ∨ v = 1)) (some (.inl (some (.int v)), k, h)) := zz_k_retz f179_1420
theorem f179_1421 : zz_fetch zz_prog 179 1421 = some (.goto 108, 3, [1529], []) := zz_fetch_of p179 rfl rfl
theorem s179_1421 : zz_Run zz_prog d 179 (1421, [l0, l1, l2, l3, l4, l5, l6], st, k, h) = zz_Run zz_prog d 179 (1529, [l0, l1, l2, l3, l4, l5, l6], st, k, h) := zz_k_num f179_1421 rfl
theorem f179_1424 : zz_fetch zz_prog 179 1424 = some (.aload_n 1, 1, [], []) := zz_fetch_of p179 rfl rfl
theorem s179_1424 : zz_Run zz_prog d 179 (1424, [l0, some (.ref a), l2, l3, l4, l5, l6], st, k, h) = zz_Run zz_prog d 179 (1425, [l0, some (.ref a), l2, l3, l4, l5, l6], .ref a :: st, k, h) := zz_k_num f179_1424 rfl
theorem f179_1425 : zz_fetch zz_prog 179 1425 = some (.aload_n 0, 1, [], []) := zz_fetch_of p179 rfl rfl
theorem s179_1425 : zz_Run zz_prog d 179 (1425, [some (.ref a), l1, l2, l3, l4, l5, l6], st, k, h) = zz_Run zz_prog d 179 (1426, [some (.ref a), l1, l2, l3, l4, l5, l6], .ref a :: st, k, h) := zz_k_num f179_1425 rfl
theorem f179_1426 : zz_fetch zz_prog 179 1426 = some (.iload 4, 2, [], []) := zz_fetch_of p179 rfl rfl
theorem s179_1426 : zz_Run zz_prog d 179 (1426, [l0, l1, l2, l3, some (.int v), l5, l6], st, k, h) = zz_Run zz_prog d 179 (1428, [l0, l1, l2, l3, some (.int v), l5, l6], .int v :: st, k, h) := zz_k_num f179_1426 rfl
theorem f179_1428 : zz_fetch zz_prog 179 1428 = some (.iconst 1, 1, [], []) := zz_fetch_of p179 rfl rfl
theorem s179_1428 : zz_Run zz_prog d 179 (1428, [l0, l1, l2, l3, l4, l5, l6], st, k, h) = zz_Run zz_prog d 179 (1429, [l0, l1, l2, l3, l4, l5, l6], .int 1 :: st, k, h) := zz_k_num f179_1428 rfl
theorem f179_1429 : zz_fetch zz_prog 179 1429 = some (.iadd, 1, [], []) := zz_fetch_of p179 rfl rfl
theorem s179_1429 : zz_Run zz_prog d 179 (1429, [l0, l1, l2, l3, l4, l5, l6], .int w :: .int v :: st, k, h) = zz_Run zz_prog d 179 (1430, [l0, l1, l2, l3, l4, l5, l6], .int (v + w) :: st, k, h) := zz_k_num f179_1429 rfl
theorem f179_1430 : zz_fetch zz_prog 179 1430 = some (.iaload, 1, [], []) := zz_fetch_of p179 rfl rfl
theorem s179_1430 (ha : zz_isrd a = true) : zz_Run zz_prog d 179 (1430, [l0, l1, l2, l3, l4, l5, l6], .int v :: .ref a :: st, k, (zz_hp n I J ex)) = zz_ck (zz_in v (zz_ary n a)) (zz_Run zz_prog d 179 (1431, [l0, l1, l2, l3, l4, l5, l6], .int (I a v.toNatClampNeg) :: st, k, (zz_hp n I J ex))) := zz_k_iald f179_1430 ha
theorem f179_1431 : zz_fetch zz_prog 179 1431 = some (.invokevirtual 181, 3, [0, 25, 2, 1], []) := zz_fetch_of p179 rfl rfl
theorem s179_1431 : zz_Run zz_prog d 179 (1431, [l0, l1, l2, l3, l4, l5, l6], [b0, .ref 5], k, (zz_hp n I J ex)) = zz_ret (zz_Call zz_prog d 25 [.ref 5, b0] (zz_hp n I J ex)) (fun v k' h' => zz_Run zz_prog d 179 (1434, [l0, l1, l2, l3, l4, l5, l6], v.toList ++ [], k && k', h')) (fun a k' h' => zz_th d 179 1431 a [l0, l1, l2, l3, l4, l5, l6] (k && k') h') := zz_k_call f179_1431 rfl rfl rfl
theorem f179_1434 : zz_fetch zz_prog 179 1434 = some (.aload_n 2, 1, [], []) := zz_fetch_of p179 rfl rfl
theorem s179_1434 : zz_Run zz_prog d 179 (1434, [l0, l1, some (.ref a), l3, l4, l5, l6], st, k, h) = zz_Run zz_prog d 179 (1435, [l0, l1, some (.ref a), l3, l4, l5, l6], .ref a :: st, k, h) := zz_k_num f179_1434 rfl
theorem f179_1435 : zz_fetch zz_prog 179 1435 = some (.aload_n 0, 1, [], []) := zz_fetch_of p179 rfl rfl
theorem s179_1435 : zz_Run zz_prog d 179 (1435, [some (.ref a), l1, l2, l3, l4, l5, l6], st, k, h) = zz_Run zz_prog d 179 (1436, [some (.ref a), l1, l2, l3, l4, l5, l6], .ref a :: st, k, h) := zz_k_num f179_1435 rfl
theorem f179_1436 : zz_fetch zz_prog 179 1436 = some (.iload 4, 2, [], []) := zz_fetch_of p179 rfl rfl
theorem s179_1436 : zz_Run zz_prog d 179 (1436, [l0, l1, l2, l3, some (.int v), l5, l6], st, k, h) = zz_Run zz_prog d 179 (1438, [l0, l1, l2, l3, some (.int v), l5, l6], .int v :: st, k, h) := zz_k_num f179_1436 rfl
theorem f179_1438 : zz_fetch zz_prog 179 1438 = some (.iconst 1, 1, [], []) := zz_fetch_of p179 rfl rfl
theorem s179_1438 : zz_Run zz_prog d 179 (1438, [l0, l1, l2, l3, l4, l5, l6], st, k, h) = zz_Run zz_prog d 179 (1439, [l0, l1, l2, l3, l4, l5, l6], .int 1 :: st, k, h) := zz_k_num f179_1438 rfl
theorem f179_1439 : zz_fetch zz_prog 179 1439 = some (.iadd, 1, [], []) := zz_fetch_of p179 rfl rfl
theorem s179_1439 : zz_Run zz_prog d 179 (1439, [l0, l1, l2, l3, l4, l5, l6], .int w :: .int v :: st, k, h) = zz_Run zz_prog d 179 (1440, [l0, l1, l2, l3, l4, l5, l6], .int (v + w) :: st, k, h) := zz_k_num f179_1439 rfl
theorem f179_1440 : zz_fetch zz_prog 179 1440 = some (.iaload, 1, [], []) := zz_fetch_of p179 rfl rfl
theorem s179_1440 (ha : zz_isrd a = true) : zz_Run zz_prog d 179 (1440, [l0, l1, l2, l3, l4, l5, l6], .int v :: .ref a :: st, k, (zz_hp n I J ex)) = zz_ck (zz_in v (zz_ary n a)) (zz_Run zz_prog d 179 (1441, [l0, l1, l2, l3, l4, l5, l6], .int (I a v.toNatClampNeg) :: st, k, (zz_hp n I J ex))) := zz_k_iald f179_1440 ha
theorem f179_1441 : zz_fetch zz_prog 179 1441 = some (.invokevirtual 184, 3, [0, 153, 2, 2], []) := zz_fetch_of p179 rfl rfl
theorem s179_1441 : zz_Run zz_prog d 179 (1441, [l0, l1, l2, l3, l4, l5, l6], [b0, .ref 23, b2], k, (zz_hp n I J ex)) = zz_ret (zz_Call zz_prog d 153 [.ref 23, b0] (zz_hp n I J ex)) (fun v k' h' => zz_Run zz_prog d 179 (1444, [l0, l1, l2, l3, l4, l5, l6], v.toList ++ [b2], k && k', h')) (fun a k' h' => zz_th d 179 1441 a [l0, l1, l2, l3, l4, l5, l6] (k && k') h') := zz_k_call f179_1441 rfl rfl rfl
theorem f179_1444 : zz_fetch zz_prog 179 1444 = some (.if_icmp .eq 85, 3, [1529], []) := zz_fetch_of p179 rfl rfl
theorem s179_1444 : zz_Run zz_prog d 179 (1444, [l0, l1, l2, l3, l4, l5, l6], .int w :: .int v :: st, k, h) = if v = w then zz_Run zz_prog d 179 (1529, [l0, l1, l2, l3, l4, l5, l6], st, k, h) else zz_Run zz_prog d 179 (1447, [l0, l1, l2, l3, l4, l5, l6], st, k, h) := zz_k_br (v = w) rfl (zz_k_num f179_1444 rfl)
theorem f179_1447 : zz_fetch zz_prog 179 1447 = some (.iconst 0, 1, [], []) := zz_fetch_of p179 rfl rfl
theorem s179_1447 : zz_Run zz_prog d 179 (1447, [l0, l1, l2, l3, l4, l5, l6], st, k, h) = zz_Run zz_prog d 179 (1448, [l0, l1, l2, l3, l4, l5, l6], .int 0 :: st, k, h) := zz_k_num f179_1447 rfl
theorem f179_1448 : zz_fetch zz_prog 179 1448 = some (.ireturn, 1, [1], []) := zz_fetch_of p179 rfl rfl
theorem s179_1448 : zz_Run zz_prog d 179 (1448, [l0, l1, l2, l3, l4, l5, l6], [.int v], k, h) = zz_ck (decide (v = 0 ∨ v = 1)) (some (.inl (some (.int v)), k, h)) := zz_k_retz f179_1448
theorem f179_1449 : zz_fetch zz_prog 179 1449 = some (.aload_n 1, 1, [], []) := zz_fetch_of p179 rfl rfl
theorem s179_1449 : zz_Run zz_prog d 179 (1449, [l0, some (.ref a), l2, l3, l4, l5, l6], st, k, h) = zz_Run zz_prog d 179 (1450, [l0, some (.ref a), l2, l3, l4, l5, l6], .ref a :: st, k, h) := zz_k_num f179_1449 rfl
theorem f179_1450 : zz_fetch zz_prog 179 1450 = some (.aload_n 0, 1, [], []) := zz_fetch_of p179 rfl rfl
theorem s179_1450 : zz_Run zz_prog d 179 (1450, [some (.ref a), l1, l2, l3, l4, l5, l6], st, k, h) = zz_Run zz_prog d 179 (1451, [some (.ref a), l1, l2, l3, l4, l5, l6], .ref a :: st, k, h) := zz_k_num f179_1450 rfl
theorem f179_1451 : zz_fetch zz_prog 179 1451 = some (.iload 4, 2, [], []) := zz_fetch_of p179 rfl rfl
theorem s179_1451 : zz_Run zz_prog d 179 (1451, [l0, l1, l2, l3, some (.int v), l5, l6], st, k, h) = zz_Run zz_prog d 179 (1453, [l0, l1, l2, l3, some (.int v), l5, l6], .int v :: st, k, h) := zz_k_num f179_1451 rfl
theorem f179_1453 : zz_fetch zz_prog 179 1453 = some (.iconst 1, 1, [], []) := zz_fetch_of p179 rfl rfl
theorem s179_1453 : zz_Run zz_prog d 179 (1453, [l0, l1, l2, l3, l4, l5, l6], st, k, h) = zz_Run zz_prog d 179 (1454, [l0, l1, l2, l3, l4, l5, l6], .int 1 :: st, k, h) := zz_k_num f179_1453 rfl
theorem f179_1454 : zz_fetch zz_prog 179 1454 = some (.iadd, 1, [], []) := zz_fetch_of p179 rfl rfl
theorem s179_1454 : zz_Run zz_prog d 179 (1454, [l0, l1, l2, l3, l4, l5, l6], .int w :: .int v :: st, k, h) = zz_Run zz_prog d 179 (1455, [l0, l1, l2, l3, l4, l5, l6], .int (v + w) :: st, k, h) := zz_k_num f179_1454 rfl
theorem f179_1455 : zz_fetch zz_prog 179 1455 = some (.iaload, 1, [], []) := zz_fetch_of p179 rfl rfl
theorem s179_1455 (ha : zz_isrd a = true) : zz_Run zz_prog d 179 (1455, [l0, l1, l2, l3, l4, l5, l6], .int v :: .ref a :: st, k, (zz_hp n I J ex)) = zz_ck (zz_in v (zz_ary n a)) (zz_Run zz_prog d 179 (1456, [l0, l1, l2, l3, l4, l5, l6], .int (I a v.toNatClampNeg) :: st, k, (zz_hp n I J ex))) := zz_k_iald f179_1455 ha
theorem f179_1456 : zz_fetch zz_prog 179 1456 = some (.aload_n 0, 1, [], []) := zz_fetch_of p179 rfl rfl
theorem s179_1456 : zz_Run zz_prog d 179 (1456, [some (.ref a), l1, l2, l3, l4, l5, l6], st, k, h) = zz_Run zz_prog d 179 (1457, [some (.ref a), l1, l2, l3, l4, l5, l6], .ref a :: st, k, h) := zz_k_num f179_1456 rfl
theorem f179_1457 : zz_fetch zz_prog 179 1457 = some (.iload 4, 2, [], []) := zz_fetch_of p179 rfl rfl
theorem s179_1457 : zz_Run zz_prog d 179 (1457, [l0, l1, l2, l3, some (.int v), l5, l6], st, k, h) = zz_Run zz_prog d 179 (1459, [l0, l1, l2, l3, some (.int v), l5, l6], .int v :: st, k, h) := zz_k_num f179_1457 rfl
theorem f179_1459 : zz_fetch zz_prog 179 1459 = some (.iconst 2, 1, [], []) := zz_fetch_of p179 rfl rfl
theorem s179_1459 : zz_Run zz_prog d 179 (1459, [l0, l1, l2, l3, l4, l5, l6], st, k, h) = zz_Run zz_prog d 179 (1460, [l0, l1, l2, l3, l4, l5, l6], .int 2 :: st, k, h) := zz_k_num f179_1459 rfl
theorem f179_1460 : zz_fetch zz_prog 179 1460 = some (.iadd, 1, [], []) := zz_fetch_of p179 rfl rfl
theorem s179_1460 : zz_Run zz_prog d 179 (1460, [l0, l1, l2, l3, l4, l5, l6], .int w :: .int v :: st, k, h) = zz_Run zz_prog d 179 (1461, [l0, l1, l2, l3, l4, l5, l6], .int (v + w) :: st, k, h) := zz_k_num f179_1460 rfl
theorem f179_1461 : zz_fetch zz_prog 179 1461 = some (.iaload, 1, [], []) := zz_fetch_of p179 rfl rfl
theorem s179_1461 (ha : zz_isrd a = true) : zz_Run zz_prog d 179 (1461, [l0, l1, l2, l3, l4, l5, l6], .int v :: .ref a :: st, k, (zz_hp n I J ex)) = zz_ck (zz_in v (zz_ary n a)) (zz_Run zz_prog d 179 (1462, [l0, l1, l2, l3, l4, l5, l6], .int (I a v.toNatClampNeg) :: st, k, (zz_hp n I J ex))) := zz_k_iald f179_1461 ha
theorem f179_1462 : zz_fetch zz_prog 179 1462 = some (.aload_n 0, 1, [], []) := zz_fetch_of p179 rfl rfl
theorem s179_1462 : zz_Run zz_prog d 179 (1462, [some (.ref a), l1, l2, l3, l4, l5, l6], st, k, h) = zz_Run zz_prog d 179 (1463, [some (.ref a), l1, l2, l3, l4, l5, l6], .ref a :: st, k, h) := zz_k_num f179_1462 rfl
theorem f179_1463 : zz_fetch zz_prog 179 1463 = some (.iload 4, 2, [], []) := zz_fetch_of p179 rfl rfl
theorem s179_1463 : zz_Run zz_prog d 179 (1463, [l0, l1, l2, l3, some (.int v), l5, l6], st, k, h) = zz_Run zz_prog d 179 (1465, [l0, l1, l2, l3, some (.int v), l5, l6], .int v :: st, k, h) := zz_k_num f179_1463 rfl
theorem f179_1465 : zz_fetch zz_prog 179 1465 = some (.iconst 3, 1, [], []) := zz_fetch_of p179 rfl rfl
theorem s179_1465 : zz_Run zz_prog d 179 (1465, [l0, l1, l2, l3, l4, l5, l6], st, k, h) = zz_Run zz_prog d 179 (1466, [l0, l1, l2, l3, l4, l5, l6], .int 3 :: st, k, h) := zz_k_num f179_1465 rfl
theorem f179_1466 : zz_fetch zz_prog 179 1466 = some (.iadd, 1, [], []) := zz_fetch_of p179 rfl rfl
theorem s179_1466 : zz_Run zz_prog d 179 (1466, [l0, l1, l2, l3, l4, l5, l6], .int w :: .int v :: st, k, h) = zz_Run zz_prog d 179 (1467, [l0, l1, l2, l3, l4, l5, l6], .int (v + w) :: st, k, h) := zz_k_num f179_1466 rfl
theorem f179_1467 : zz_fetch zz_prog 179 1467 = some (.iaload, 1, [], []) := zz_fetch_of p179 rfl rfl
theorem s179_1467 (ha : zz_isrd a = true) : zz_Run zz_prog d 179 (1467, [l0, l1, l2, l3, l4, l5, l6], .int v :: .ref a :: st, k, (zz_hp n I J ex)) = zz_ck (zz_in v (zz_ary n a)) (zz_Run zz_prog d 179 (1468, [l0, l1, l2, l3, l4, l5, l6], .int (I a v.toNatClampNeg) :: st, k, (zz_hp n I J ex))) := zz_k_iald f179_1467 ha
theorem f179_1468 : zz_fetch zz_prog 179 1468 = some (.aload_n 3, 1, [], []) := zz_fetch_of p179 rfl rfl
theorem s179_1468 : zz_Run zz_prog d 179 (1468, [l0, l1, l2, some (.ref a), l4, l5, l6], st, k, h) = zz_Run zz_prog d 179 (1469, [l0, l1, l2, some (.ref a), l4, l5, l6], .ref a :: st, k, h) := zz_k_num f179_1468 rfl
theorem f179_1469 : zz_fetch zz_prog 179 1469 = some (.invokestatic 185, 3, [0, 177, 5], []) := zz_fetch_of p179 rfl rfl
theorem s179_1469 : zz_Run zz_prog d 179 (1469, [l0, l1, l2, l3, l4, l5, l6], [b0, b1, b2, b3, b4], k, h) = zz_ret (zz_Call zz_prog d 177 [b4, b3, b2, b1, b0] h) (fun v k' h' => zz_Run zz_prog d 179 (1472, [l0, l1, l2, l3, l4, l5, l6], v.toList ++ [], k && k', h')) (fun a k' h' => zz_th d 179 1469 a [l0, l1, l2, l3, l4, l5, l6] (k && k') h') := zz_k_call f179_1469 rfl rfl rfl
theorem f179_1472 : zz_fetch zz_prog 179 1472 = some (.istore 5, 2, [], []) := zz_fetch_of p179 rfl rfl
theorem s179_1472 : zz_Run zz_prog d 179 (1472, [l0, l1, l2, l3, l4, l5, l6], .int v :: st, k, h) = zz_sl l4 (zz_Run zz_prog d 179 (1474, [l0, l1, l2, l3, l4, some (.int v), l6], st, k, h)) := zz_k_st (j := 5) (u := .int v) f179_1472 rfl (fun q hq => by cases hq) rfl (show 5 < 7 by decide) (by cases l4 <;> rfl) rfl
theorem f179_1474 : zz_fetch zz_prog 179 1474 = some (.aload_n 2, 1, [], []) := zz_fetch_of p179 rfl rfl
theorem s179_1474 : zz_Run zz_prog d 179 (1474, [l0, l1, some (.ref a), l3, l4, l5, l6], st, k, h) = zz_Run zz_prog d 179 (1475, [l0, l1, some (.ref a), l3, l4, l5, l6], .ref a :: st, k, h) := zz_k_num f179_1474 rfl
theorem f179_1475 : zz_fetch zz_prog 179 1475 = some (.aload_n 0, 1, [], []) := zz_fetch_of p179 rfl rfl
theorem s179_1475 : zz_Run zz_prog d 179 (1475, [some (.ref a), l1, l2, l3, l4, l5, l6], st, k, h) = zz_Run zz_prog d 179 (1476, [some (.ref a), l1, l2, l3, l4, l5, l6], .ref a :: st, k, h) := zz_k_num f179_1475 rfl
theorem f179_1476 : zz_fetch zz_prog 179 1476 = some (.iload 4, 2, [], []) := zz_fetch_of p179 rfl rfl
theorem s179_1476 : zz_Run zz_prog d 179 (1476, [l0, l1, l2, l3, some (.int v), l5, l6], st, k, h) = zz_Run zz_prog d 179 (1478, [l0, l1, l2, l3, some (.int v), l5, l6], .int v :: st, k, h) := zz_k_num f179_1476 rfl
theorem f179_1478 : zz_fetch zz_prog 179 1478 = some (.iconst 1, 1, [], []) := zz_fetch_of p179 rfl rfl
theorem s179_1478 : zz_Run zz_prog d 179 (1478, [l0, l1, l2, l3, l4, l5, l6], st, k, h) = zz_Run zz_prog d 179 (1479, [l0, l1, l2, l3, l4, l5, l6], .int 1 :: st, k, h) := zz_k_num f179_1478 rfl
theorem f179_1479 : zz_fetch zz_prog 179 1479 = some (.iadd, 1, [], []) := zz_fetch_of p179 rfl rfl
theorem s179_1479 : zz_Run zz_prog d 179 (1479, [l0, l1, l2, l3, l4, l5, l6], .int w :: .int v :: st, k, h) = zz_Run zz_prog d 179 (1480, [l0, l1, l2, l3, l4, l5, l6], .int (v + w) :: st, k, h) := zz_k_num f179_1479 rfl
theorem f179_1480 : zz_fetch zz_prog 179 1480 = some (.iaload, 1, [], []) := zz_fetch_of p179 rfl rfl
theorem s179_1480 (ha : zz_isrd a = true) : zz_Run zz_prog d 179 (1480, [l0, l1, l2, l3, l4, l5, l6], .int v :: .ref a :: st, k, (zz_hp n I J ex)) = zz_ck (zz_in v (zz_ary n a)) (zz_Run zz_prog d 179 (1481, [l0, l1, l2, l3, l4, l5, l6], .int (I a v.toNatClampNeg) :: st, k, (zz_hp n I J ex))) := zz_k_iald f179_1480 ha
theorem f179_1481 : zz_fetch zz_prog 179 1481 = some (.aload_n 0, 1, [], []) := zz_fetch_of p179 rfl rfl
theorem s179_1481 : zz_Run zz_prog d 179 (1481, [some (.ref a), l1, l2, l3, l4, l5, l6], st, k, h) = zz_Run zz_prog d 179 (1482, [some (.ref a), l1, l2, l3, l4, l5, l6], .ref a :: st, k, h) := zz_k_num f179_1481 rfl
theorem f179_1482 : zz_fetch zz_prog 179 1482 = some (.iload 4, 2, [], []) := zz_fetch_of p179 rfl rfl
theorem s179_1482 : zz_Run zz_prog d 179 (1482, [l0, l1, l2, l3, some (.int v), l5, l6], st, k, h) = zz_Run zz_prog d 179 (1484, [l0, l1, l2, l3, some (.int v), l5, l6], .int v :: st, k, h) := zz_k_num f179_1482 rfl
theorem f179_1484 : zz_fetch zz_prog 179 1484 = some (.iconst 2, 1, [], []) := zz_fetch_of p179 rfl rfl
theorem s179_1484 : zz_Run zz_prog d 179 (1484, [l0, l1, l2, l3, l4, l5, l6], st, k, h) = zz_Run zz_prog d 179 (1485, [l0, l1, l2, l3, l4, l5, l6], .int 2 :: st, k, h) := zz_k_num f179_1484 rfl
theorem f179_1485 : zz_fetch zz_prog 179 1485 = some (.iadd, 1, [], []) := zz_fetch_of p179 rfl rfl
theorem s179_1485 : zz_Run zz_prog d 179 (1485, [l0, l1, l2, l3, l4, l5, l6], .int w :: .int v :: st, k, h) = zz_Run zz_prog d 179 (1486, [l0, l1, l2, l3, l4, l5, l6], .int (v + w) :: st, k, h) := zz_k_num f179_1485 rfl
theorem f179_1486 : zz_fetch zz_prog 179 1486 = some (.iaload, 1, [], []) := zz_fetch_of p179 rfl rfl
theorem s179_1486 (ha : zz_isrd a = true) : zz_Run zz_prog d 179 (1486, [l0, l1, l2, l3, l4, l5, l6], .int v :: .ref a :: st, k, (zz_hp n I J ex)) = zz_ck (zz_in v (zz_ary n a)) (zz_Run zz_prog d 179 (1487, [l0, l1, l2, l3, l4, l5, l6], .int (I a v.toNatClampNeg) :: st, k, (zz_hp n I J ex))) := zz_k_iald f179_1486 ha
theorem f179_1487 : zz_fetch zz_prog 179 1487 = some (.aload_n 0, 1, [], []) := zz_fetch_of p179 rfl rfl
theorem s179_1487 : zz_Run zz_prog d 179 (1487, [some (.ref a), l1, l2, l3, l4, l5, l6], st, k, h) = zz_Run zz_prog d 179 (1488, [some (.ref a), l1, l2, l3, l4, l5, l6], .ref a :: st, k, h) := zz_k_num f179_1487 rfl
theorem f179_1488 : zz_fetch zz_prog 179 1488 = some (.iload 4, 2, [], []) := zz_fetch_of p179 rfl rfl
theorem s179_1488 : zz_Run zz_prog d 179 (1488, [l0, l1, l2, l3, some (.int v), l5, l6], st, k, h) = zz_Run zz_prog d 179 (1490, [l0, l1, l2, l3, some (.int v), l5, l6], .int v :: st, k, h) := zz_k_num f179_1488 rfl
theorem f179_1490 : zz_fetch zz_prog 179 1490 = some (.iconst 3, 1, [], []) := zz_fetch_of p179 rfl rfl
theorem s179_1490 : zz_Run zz_prog d 179 (1490, [l0, l1, l2, l3, l4, l5, l6], st, k, h) = zz_Run zz_prog d 179 (1491, [l0, l1, l2, l3, l4, l5, l6], .int 3 :: st, k, h) := zz_k_num f179_1490 rfl
theorem f179_1491 : zz_fetch zz_prog 179 1491 = some (.iadd, 1, [], []) := zz_fetch_of p179 rfl rfl
theorem s179_1491 : zz_Run zz_prog d 179 (1491, [l0, l1, l2, l3, l4, l5, l6], .int w :: .int v :: st, k, h) = zz_Run zz_prog d 179 (1492, [l0, l1, l2, l3, l4, l5, l6], .int (v + w) :: st, k, h) := zz_k_num f179_1491 rfl
theorem f179_1492 : zz_fetch zz_prog 179 1492 = some (.iaload, 1, [], []) := zz_fetch_of p179 rfl rfl
theorem s179_1492 (ha : zz_isrd a = true) : zz_Run zz_prog d 179 (1492, [l0, l1, l2, l3, l4, l5, l6], .int v :: .ref a :: st, k, (zz_hp n I J ex)) = zz_ck (zz_in v (zz_ary n a)) (zz_Run zz_prog d 179 (1493, [l0, l1, l2, l3, l4, l5, l6], .int (I a v.toNatClampNeg) :: st, k, (zz_hp n I J ex))) := zz_k_iald f179_1492 ha
theorem f179_1493 : zz_fetch zz_prog 179 1493 = some (.invokevirtual 187, 3, [0, 154, 4, 2], []) := zz_fetch_of p179 rfl rfl
theorem s179_1493 : zz_Run zz_prog d 179 (1493, [l0, l1, l2, l3, l4, l5, l6], [b0, b1, b2, .ref 23], k, (zz_hp n I J ex)) = zz_ret (zz_Call zz_prog d 154 [.ref 23, b2, b1, b0] (zz_hp n I J ex)) (fun v k' h' => zz_Run zz_prog d 179 (1496, [l0, l1, l2, l3, l4, l5, l6], v.toList ++ [], k && k', h')) (fun a k' h' => zz_th d 179 1493 a [l0, l1, l2, l3, l4, l5, l6] (k && k') h') := zz_k_call f179_1493 rfl rfl rfl
theorem f179_1496 : zz_fetch zz_prog 179 1496 = some (.istore 6, 2, [], []) := zz_fetch_of p179 rfl rfl
theorem s179_1496 : zz_Run zz_prog d 179 (1496, [l0, l1, l2, l3, l4, l5, l6], .int v :: st, k, h) = zz_sl l5 (zz_Run zz_prog d 179 (1498, [l0, l1, l2, l3, l4, l5, some (.int v)], st, k, h)) := zz_k_st (j := 6) (u := .int v) f179_1496 rfl (fun q hq => by cases hq) rfl (show 6 < 7 by decide) (by cases l5 <;> rfl) rfl
theorem f179_1498 : zz_fetch zz_prog 179 1498 = some (.aload_n 2, 1, [], []) := zz_fetch_of p179 rfl rfl
theorem s179_1498 : zz_Run zz_prog d 179 (1498, [l0, l1, some (.ref a), l3, l4, l5, l6], st, k, h) = zz_Run zz_prog d 179 (1499, [l0, l1, some (.ref a), l3, l4, l5, l6], .ref a :: st, k, h) := zz_k_num f179_1498 rfl
theorem f179_1499 : zz_fetch zz_prog 179 1499 = some (.invokevirtual 97, 3, [0, 89, 1, 2], []) := zz_fetch_of p179 rfl rfl
theorem s179_1499 : zz_Run zz_prog d 179 (1499, [l0, l1, l2, l3, l4, l5, l6], [.ref 23], k, (zz_hp n I J ex)) = zz_ret (zz_Call zz_prog d 89 [.ref 23] (zz_hp n I J ex)) (fun v k' h' => zz_Run zz_prog d 179 (1502, [l0, l1, l2, l3, l4, l5, l6], v.toList ++ [], k && k', h')) (fun a k' h' => zz_th d 179 1499 a [l0, l1, l2, l3, l4, l5, l6] (k && k') h') := zz_k_call f179_1499 rfl rfl rfl
theorem f179_1502 : zz_fetch zz_prog 179 1502 = some (.iload 5, 2, [], []) := zz_fetch_of p179 rfl rfl
theorem s179_1502 : zz_Run zz_prog d 179 (1502, [l0, l1, l2, l3, l4, some (.int v), l6], st, k, h) = zz_Run zz_prog d 179 (1504, [l0, l1, l2, l3, l4, some (.int v), l6], .int v :: st, k, h) := zz_k_num f179_1502 rfl
theorem f179_1504 : zz_fetch zz_prog 179 1504 = some (.if_icmp .eq 5, 3, [1509], []) := zz_fetch_of p179 rfl rfl
theorem s179_1504 : zz_Run zz_prog d 179 (1504, [l0, l1, l2, l3, l4, l5, l6], .int w :: .int v :: st, k, h) = if v = w then zz_Run zz_prog d 179 (1509, [l0, l1, l2, l3, l4, l5, l6], st, k, h) else zz_Run zz_prog d 179 (1507, [l0, l1, l2, l3, l4, l5, l6], st, k, h) := zz_k_br (v = w) rfl (zz_k_num f179_1504 rfl)
theorem f179_1507 : zz_fetch zz_prog 179 1507 = some (.iconst 0, 1, [], []) := zz_fetch_of p179 rfl rfl
theorem s179_1507 : zz_Run zz_prog d 179 (1507, [l0, l1, l2, l3, l4, l5, l6], st, k, h) = zz_Run zz_prog d 179 (1508, [l0, l1, l2, l3, l4, l5, l6], .int 0 :: st, k, h) := zz_k_num f179_1507 rfl
theorem f179_1508 : zz_fetch zz_prog 179 1508 = some (.ireturn, 1, [1], []) := zz_fetch_of p179 rfl rfl
theorem s179_1508 : zz_Run zz_prog d 179 (1508, [l0, l1, l2, l3, l4, l5, l6], [.int v], k, h) = zz_ck (decide (v = 0 ∨ v = 1)) (some (.inl (some (.int v)), k, h)) := zz_k_retz f179_1508
theorem f179_1509 : zz_fetch zz_prog 179 1509 = some (.iload 5, 2, [], []) := zz_fetch_of p179 rfl rfl
theorem s179_1509 : zz_Run zz_prog d 179 (1509, [l0, l1, l2, l3, l4, some (.int v), l6], st, k, h) = zz_Run zz_prog d 179 (1511, [l0, l1, l2, l3, l4, some (.int v), l6], .int v :: st, k, h) := zz_k_num f179_1509 rfl
theorem f179_1511 : zz_fetch zz_prog 179 1511 = some (.ifCond .ne 15, 3, [1526], []) := zz_fetch_of p179 rfl rfl
theorem s179_1511 : zz_Run zz_prog d 179 (1511, [l0, l1, l2, l3, l4, l5, l6], .int v :: st, k, h) = if ¬ v = 0 then zz_Run zz_prog d 179 (1526, [l0, l1, l2, l3, l4, l5, l6], st, k, h) else zz_Run zz_prog d 179 (1514, [l0, l1, l2, l3, l4, l5, l6], st, k, h) := zz_k_br (¬ v = 0) rfl (zz_k_num f179_1511 rfl)
theorem f179_1514 : zz_fetch zz_prog 179 1514 = some (.aload_n 3, 1, [], []) := zz_fetch_of p179 rfl rfl
theorem s179_1514 : zz_Run zz_prog d 179 (1514, [l0, l1, l2, some (.ref a), l4, l5, l6], st, k, h) = zz_Run zz_prog d 179 (1515, [l0, l1, l2, some (.ref a), l4, l5, l6], .ref a :: st, k, h) := zz_k_num f179_1514 rfl
theorem f179_1515 : zz_fetch zz_prog 179 1515 = some (.iconst 0, 1, [], []) := zz_fetch_of p179 rfl rfl
theorem s179_1515 : zz_Run zz_prog d 179 (1515, [l0, l1, l2, l3, l4, l5, l6], st, k, h) = zz_Run zz_prog d 179 (1516, [l0, l1, l2, l3, l4, l5, l6], .int 0 :: st, k, h) := zz_k_num f179_1515 rfl
theorem f179_1516 : zz_fetch zz_prog 179 1516 = some (.laload, 1, [], []) := zz_fetch_of p179 rfl rfl
theorem s179_1516 : zz_Run zz_prog d 179 (1516, [l0, l1, l2, l3, l4, l5, l6], .int 0 :: .ref 44 :: st, k, (zz_hp n I J ex)) = zz_Run zz_prog d 179 (1517, [l0, l1, l2, l3, l4, l5, l6], .long (J 44 0) :: st, k, (zz_hp n I J ex)) := zz_k_go f179_1516 rfl rfl rfl
theorem f179_1517 : zz_fetch zz_prog 179 1517 = some (.iload 6, 2, [], []) := zz_fetch_of p179 rfl rfl
theorem s179_1517 : zz_Run zz_prog d 179 (1517, [l0, l1, l2, l3, l4, l5, some (.int v)], st, k, h) = zz_Run zz_prog d 179 (1519, [l0, l1, l2, l3, l4, l5, some (.int v)], .int v :: st, k, h) := zz_k_num f179_1517 rfl
theorem f179_1519 : zz_fetch zz_prog 179 1519 = some (.i2l, 1, [], []) := zz_fetch_of p179 rfl rfl
theorem s179_1519 : zz_Run zz_prog d 179 (1519, [l0, l1, l2, l3, l4, l5, l6], .int v :: st, k, h) = zz_Run zz_prog d 179 (1520, [l0, l1, l2, l3, l4, l5, l6], .long v.toInt64 :: st, k, h) := zz_k_num f179_1519 rfl
theorem f179_1520 : zz_fetch zz_prog 179 1520 = some (.lcmp, 1, [], []) := zz_fetch_of p179 rfl rfl
theorem s179_1520 : zz_Run zz_prog d 179 (1520, [l0, l1, l2, l3, l4, l5, l6], .long y1 :: .long y :: st, k, h) = zz_Run zz_prog d 179 (1521, [l0, l1, l2, l3, l4, l5, l6], .int (lg_cmp y y1) :: st, k, h) := zz_k_num f179_1520 rfl
theorem f179_1521 : zz_fetch zz_prog 179 1521 = some (.ifCond .eq 5, 3, [1526], []) := zz_fetch_of p179 rfl rfl
theorem s179_1521 : zz_Run zz_prog d 179 (1521, [l0, l1, l2, l3, l4, l5, l6], .int v :: st, k, h) = if v = 0 then zz_Run zz_prog d 179 (1526, [l0, l1, l2, l3, l4, l5, l6], st, k, h) else zz_Run zz_prog d 179 (1524, [l0, l1, l2, l3, l4, l5, l6], st, k, h) := zz_k_br (v = 0) rfl (zz_k_num f179_1521 rfl)
theorem f179_1524 : zz_fetch zz_prog 179 1524 = some (.iconst 0, 1, [], []) := zz_fetch_of p179 rfl rfl
theorem s179_1524 : zz_Run zz_prog d 179 (1524, [l0, l1, l2, l3, l4, l5, l6], st, k, h) = zz_Run zz_prog d 179 (1525, [l0, l1, l2, l3, l4, l5, l6], .int 0 :: st, k, h) := zz_k_num f179_1524 rfl
theorem f179_1525 : zz_fetch zz_prog 179 1525 = some (.ireturn, 1, [1], []) := zz_fetch_of p179 rfl rfl
theorem s179_1525 : zz_Run zz_prog d 179 (1525, [l0, l1, l2, l3, l4, l5, l6], [.int v], k, h) = zz_ck (decide (v = 0 ∨ v = 1)) (some (.inl (some (.int v)), k, h)) := zz_k_retz f179_1525
theorem f179_1526 : zz_fetch zz_prog 179 1526 = some (.goto 3, 3, [1529], []) := zz_fetch_of p179 rfl rfl
theorem s179_1526 : zz_Run zz_prog d 179 (1526, [l0, l1, l2, l3, l4, l5, l6], st, k, h) = zz_Run zz_prog d 179 (1529, [l0, l1, l2, l3, l4, l5, l6], st, k, h) := zz_k_num f179_1526 rfl
theorem f179_1529 : zz_fetch zz_prog 179 1529 = some (.iinc 4 4, 3, [], []) := zz_fetch_of p179 rfl rfl
theorem s179_1529 : zz_Run zz_prog d 179 (1529, [l0, l1, l2, l3, some (.int v), l5, l6], st, k, h) = zz_sl l3 (zz_Run zz_prog d 179 (1532, [l0, l1, l2, l3, some (.int (v + 4)), l5, l6], st, k, h)) := zz_k_st (j := 4) (u := .int (v + 4)) f179_1529 rfl (fun q hq => by cases hq) rfl (show 4 < 7 by decide) (by cases l3 <;> rfl) rfl
theorem f179_1532 : zz_fetch zz_prog 179 1532 = some (.goto (-1509), 3, [23], []) := zz_fetch_of p179 rfl rfl
theorem s179_1532 : zz_Run zz_prog d 179 (1532, [l0, l1, l2, l3, l4, l5, l6], st, k, h) = zz_Run zz_prog d 179 (23, [l0, l1, l2, l3, l4, l5, l6], st, k, h) := zz_k_num f179_1532 rfl
theorem f179_1535 : zz_fetch zz_prog 179 1535 = some (.iconst 1, 1, [], []) := zz_fetch_of p179 rfl rfl
theorem s179_1535 : zz_Run zz_prog d 179 (1535, [l0, l1, l2, l3, l4, l5, l6], st, k, h) = zz_Run zz_prog d 179 (1536, [l0, l1, l2, l3, l4, l5, l6], .int 1 :: st, k, h) := zz_k_num f179_1535 rfl
theorem f179_1536 : zz_fetch zz_prog 179 1536 = some (.ireturn, 1, [1], []) := zz_fetch_of p179 rfl rfl
theorem s179_1536 : zz_Run zz_prog d 179 (1536, [l0, l1, l2, l3, l4, l5, l6], [.int v], k, h) = zz_ck (decide (v = 0 ∨ v = 1)) (some (.inl (some (.int v)), k, h)) := zz_k_retz f179_1536
end S179
