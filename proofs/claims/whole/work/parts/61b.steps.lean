section S34
variable {d n j : Nat} {l0 : Option Value} {st : List Value} {k : Bool} {h : zz_H} {v w v1 v2 : Int32} {y y1 : Int64} {a a1 a2 : Nat} {b0 b1 b2 b3 b4 b5 b6 b7 b8 : Value} {I : Nat → Nat → Int32} {J : Nat → Nat → Int64} {ex : List (Nat × Nat)}
theorem p34 : zz_prog 34 = some zz_m34 := rfl
theorem e34 (g0 : Int32) : zz_Call zz_prog (d + 1) 34 [.int g0] h = zz_Run zz_prog d 34 (0, [some (.int g0)], [], true, h) := rfl
theorem t34 (pc : Nat) (L : List (Option Value)) : zz_th d 34 pc a L k h = some (.inr a, k, h) := zz_th_out p34 rfl
theorem f34_0 : zz_fetch zz_prog 34 0 = some (.iload_n 0, 1, [], []) := zz_fetch_of p34 rfl rfl
theorem s34_0 : zz_Run zz_prog d 34 (0, [some (.int v)], st, k, h) = zz_Run zz_prog d 34 (1, [some (.int v)], .int v :: st, k, h) := zz_k_num f34_0 rfl
theorem f34_1 : zz_fetch zz_prog 34 1 = some (.tableswitch 33 0 2 #[27, 30, 30], 27, [34], [(0, 28), (1, 31), (2, 31)]) := zz_fetch_of p34 rfl rfl
theorem s34_1 : zz_Run zz_prog d 34 (1, [l0], .int v :: st, k, h) = zz_Run zz_prog d 34 (zz_sw v 34 [(0, 28), (1, 31), (2, 31)], [l0], st, k, h) := zz_k_num f34_1 rfl
theorem f34_28 : zz_fetch zz_prog 34 28 = some (.bipush 72, 2, [], []) := zz_fetch_of p34 rfl rfl
theorem s34_28 : zz_Run zz_prog d 34 (28, [l0], st, k, h) = zz_Run zz_prog d 34 (30, [l0], .int 72 :: st, k, h) := zz_k_num f34_28 (congrArg (fun u => some (30, [l0], Value.int u :: st)) (by decide : (Int8.ofInt 72).toInt32 = 72))
theorem f34_30 : zz_fetch zz_prog 34 30 = some (.ireturn, 1, [0], []) := zz_fetch_of p34 rfl rfl
theorem s34_30 : zz_Run zz_prog d 34 (30, [l0], [.int v], k, h) = some (.inl (some (.int v)), k, h) := zz_k_stop f34_30 rfl rfl rfl
theorem f34_31 : zz_fetch zz_prog 34 31 = some (.bipush 54, 2, [], []) := zz_fetch_of p34 rfl rfl
theorem s34_31 : zz_Run zz_prog d 34 (31, [l0], st, k, h) = zz_Run zz_prog d 34 (33, [l0], .int 54 :: st, k, h) := zz_k_num f34_31 (congrArg (fun u => some (33, [l0], Value.int u :: st)) (by decide : (Int8.ofInt 54).toInt32 = 54))
theorem f34_33 : zz_fetch zz_prog 34 33 = some (.ireturn, 1, [0], []) := zz_fetch_of p34 rfl rfl
theorem s34_33 : zz_Run zz_prog d 34 (33, [l0], [.int v], k, h) = some (.inl (some (.int v)), k, h) := zz_k_stop f34_33 rfl rfl rfl
theorem f34_34 : zz_fetch zz_prog 34 34 = some (.iconst 0, 1, [], []) := zz_fetch_of p34 rfl rfl
theorem s34_34 : zz_Run zz_prog d 34 (34, [l0], st, k, h) = zz_Run zz_prog d 34 (35, [l0], .int 0 :: st, k, h) := zz_k_num f34_34 rfl
theorem f34_35 : zz_fetch zz_prog 34 35 = some (.ireturn, 1, [0], []) := zz_fetch_of p34 rfl rfl
theorem s34_35 : zz_Run zz_prog d 34 (35, [l0], [.int v], k, h) = some (.inl (some (.int v)), k, h) := zz_k_stop f34_35 rfl rfl rfl
end S34
section S35
variable {d n j : Nat} {l0 : Option Value} {st : List Value} {k : Bool} {h : zz_H} {v w v1 v2 : Int32} {y y1 : Int64} {a a1 a2 : Nat} {b0 b1 b2 b3 b4 b5 b6 b7 b8 : Value} {I : Nat → Nat → Int32} {J : Nat → Nat → Int64} {ex : List (Nat × Nat)}
theorem p35 : zz_prog 35 = some zz_m35 := rfl
theorem e35 (g0 : Int32) : zz_Call zz_prog (d + 1) 35 [.int g0] h = zz_Run zz_prog d 35 (0, [some (.int g0)], [], true, h) := rfl
theorem t35 (pc : Nat) (L : List (Option Value)) : zz_th d 35 pc a L k h = some (.inr a, k, h) := zz_th_out p35 rfl
theorem f35_0 : zz_fetch zz_prog 35 0 = some (.iload_n 0, 1, [], []) := zz_fetch_of p35 rfl rfl
theorem s35_0 : zz_Run zz_prog d 35 (0, [some (.int v)], st, k, h) = zz_Run zz_prog d 35 (1, [some (.int v)], .int v :: st, k, h) := zz_k_num f35_0 rfl
theorem f35_1 : zz_fetch zz_prog 35 1 = some (.bipush 20, 2, [], []) := zz_fetch_of p35 rfl rfl
theorem s35_1 : zz_Run zz_prog d 35 (1, [l0], st, k, h) = zz_Run zz_prog d 35 (3, [l0], .int 20 :: st, k, h) := zz_k_num f35_1 (congrArg (fun u => some (3, [l0], Value.int u :: st)) (by decide : (Int8.ofInt 20).toInt32 = 20))
theorem f35_3 : zz_fetch zz_prog 35 3 = some (.ishr, 1, [], []) := zz_fetch_of p35 rfl rfl
theorem s35_3 : zz_Run zz_prog d 35 (3, [l0], .int w :: .int v :: st, k, h) = zz_Run zz_prog d 35 (4, [l0], .int (v >>> (w &&& 31)) :: st, k, h) := zz_k_num f35_3 rfl
theorem f35_4 : zz_fetch zz_prog 35 4 = some (.ifCond .ne 7, 3, [11], []) := zz_fetch_of p35 rfl rfl
theorem s35_4 : zz_Run zz_prog d 35 (4, [l0], .int v :: st, k, h) = if ¬ v = 0 then zz_Run zz_prog d 35 (11, [l0], st, k, h) else zz_Run zz_prog d 35 (7, [l0], st, k, h) := zz_k_br (¬ v = 0) rfl (zz_k_num f35_4 rfl)
theorem f35_7 : zz_fetch zz_prog 35 7 = some (.iconst 1, 1, [], []) := zz_fetch_of p35 rfl rfl
theorem s35_7 : zz_Run zz_prog d 35 (7, [l0], st, k, h) = zz_Run zz_prog d 35 (8, [l0], .int 1 :: st, k, h) := zz_k_num f35_7 rfl
theorem f35_8 : zz_fetch zz_prog 35 8 = some (.goto 4, 3, [12], []) := zz_fetch_of p35 rfl rfl
theorem s35_8 : zz_Run zz_prog d 35 (8, [l0], st, k, h) = zz_Run zz_prog d 35 (12, [l0], st, k, h) := zz_k_num f35_8 rfl
theorem f35_11 : zz_fetch zz_prog 35 11 = some (.iconst 0, 1, [], []) := zz_fetch_of p35 rfl rfl
theorem s35_11 : zz_Run zz_prog d 35 (11, [l0], st, k, h) = zz_Run zz_prog d 35 (12, [l0], .int 0 :: st, k, h) := zz_k_num f35_11 rfl
theorem f35_12 : zz_fetch zz_prog 35 12 = some (.ireturn, 1, [1], []) := zz_fetch_of p35 rfl rfl
theorem s35_12 : zz_Run zz_prog d 35 (12, [l0], [.int v], k, h) = zz_ck (decide (v = 0 ∨ v = 1)) (some (.inl (some (.int v)), k, h)) := zz_k_retz f35_12
end S35
section S36
variable {d n j : Nat} {l0 l1 l2 : Option Value} {st : List Value} {k : Bool} {h : zz_H} {v w v1 v2 : Int32} {y y1 : Int64} {a a1 a2 : Nat} {b0 b1 b2 b3 b4 b5 b6 b7 b8 : Value} {I : Nat → Nat → Int32} {J : Nat → Nat → Int64} {ex : List (Nat × Nat)}
theorem p36 : zz_prog 36 = some zz_m36 := rfl
theorem e36 (g0 : Int32) (g1 : Int32) (g2 : Int32) : zz_Call zz_prog (d + 1) 36 [.int g0, .int g1, .int g2] h = zz_Run zz_prog d 36 (0, [some (.int g0), some (.int g1), some (.int g2)], [], true, h) := rfl
theorem t36 (pc : Nat) (L : List (Option Value)) : zz_th d 36 pc a L k h = some (.inr a, k, h) := zz_th_out p36 rfl
theorem f36_0 : zz_fetch zz_prog 36 0 = some (.iload_n 0, 1, [], []) := zz_fetch_of p36 rfl rfl
theorem s36_0 : zz_Run zz_prog d 36 (0, [some (.int v), l1, l2], st, k, h) = zz_Run zz_prog d 36 (1, [some (.int v), l1, l2], .int v :: st, k, h) := zz_k_num f36_0 rfl
theorem f36_1 : zz_fetch zz_prog 36 1 = some (.tableswitch 58 0 3 #[31, 31, 33, 53], 31, [59], [(0, 32), (1, 32), (2, 34), (3, 54)]) := zz_fetch_of p36 rfl rfl
theorem s36_1 : zz_Run zz_prog d 36 (1, [l0, l1, l2], .int v :: st, k, h) = zz_Run zz_prog d 36 (zz_sw v 59 [(0, 32), (1, 32), (2, 34), (3, 54)], [l0, l1, l2], st, k, h) := zz_k_num f36_1 rfl
theorem f36_32 : zz_fetch zz_prog 36 32 = some (.iconst 1, 1, [], []) := zz_fetch_of p36 rfl rfl
theorem s36_32 : zz_Run zz_prog d 36 (32, [l0, l1, l2], st, k, h) = zz_Run zz_prog d 36 (33, [l0, l1, l2], .int 1 :: st, k, h) := zz_k_num f36_32 rfl
theorem f36_33 : zz_fetch zz_prog 36 33 = some (.ireturn, 1, [1], []) := zz_fetch_of p36 rfl rfl
theorem s36_33 : zz_Run zz_prog d 36 (33, [l0, l1, l2], [.int v], k, h) = zz_ck (decide (v = 0 ∨ v = 1)) (some (.inl (some (.int v)), k, h)) := zz_k_retz f36_33
theorem f36_34 : zz_fetch zz_prog 36 34 = some (.iload_n 1, 1, [], []) := zz_fetch_of p36 rfl rfl
theorem s36_34 : zz_Run zz_prog d 36 (34, [l0, some (.int v), l2], st, k, h) = zz_Run zz_prog d 36 (35, [l0, some (.int v), l2], .int v :: st, k, h) := zz_k_num f36_34 rfl
theorem f36_35 : zz_fetch zz_prog 36 35 = some (.invokestatic 129, 3, [0, 31, 1], []) := zz_fetch_of p36 rfl rfl
theorem s36_35 : zz_Run zz_prog d 36 (35, [l0, l1, l2], [b0], k, h) = zz_ret (zz_Call zz_prog d 31 [b0] h) (fun v k' h' => zz_Run zz_prog d 36 (38, [l0, l1, l2], v.toList ++ [], k && k', h')) (fun a k' h' => zz_th d 36 35 a [l0, l1, l2] (k && k') h') := zz_k_call f36_35 rfl rfl rfl
theorem f36_38 : zz_fetch zz_prog 36 38 = some (.ifCond .eq 14, 3, [52], []) := zz_fetch_of p36 rfl rfl
theorem s36_38 : zz_Run zz_prog d 36 (38, [l0, l1, l2], .int v :: st, k, h) = if v = 0 then zz_Run zz_prog d 36 (52, [l0, l1, l2], st, k, h) else zz_Run zz_prog d 36 (41, [l0, l1, l2], st, k, h) := zz_k_br (v = 0) rfl (zz_k_num f36_38 rfl)
theorem f36_41 : zz_fetch zz_prog 36 41 = some (.iload_n 2, 1, [], []) := zz_fetch_of p36 rfl rfl
theorem s36_41 : zz_Run zz_prog d 36 (41, [l0, l1, some (.int v)], st, k, h) = zz_Run zz_prog d 36 (42, [l0, l1, some (.int v)], .int v :: st, k, h) := zz_k_num f36_41 rfl
theorem f36_42 : zz_fetch zz_prog 36 42 = some (.invokestatic 129, 3, [0, 31, 1], []) := zz_fetch_of p36 rfl rfl
theorem s36_42 : zz_Run zz_prog d 36 (42, [l0, l1, l2], [b0], k, h) = zz_ret (zz_Call zz_prog d 31 [b0] h) (fun v k' h' => zz_Run zz_prog d 36 (45, [l0, l1, l2], v.toList ++ [], k && k', h')) (fun a k' h' => zz_th d 36 42 a [l0, l1, l2] (k && k') h') := zz_k_call f36_42 rfl rfl rfl
theorem f36_45 : zz_fetch zz_prog 36 45 = some (.ifCond .eq 7, 3, [52], []) := zz_fetch_of p36 rfl rfl
theorem s36_45 : zz_Run zz_prog d 36 (45, [l0, l1, l2], .int v :: st, k, h) = if v = 0 then zz_Run zz_prog d 36 (52, [l0, l1, l2], st, k, h) else zz_Run zz_prog d 36 (48, [l0, l1, l2], st, k, h) := zz_k_br (v = 0) rfl (zz_k_num f36_45 rfl)
theorem f36_48 : zz_fetch zz_prog 36 48 = some (.iconst 1, 1, [], []) := zz_fetch_of p36 rfl rfl
theorem s36_48 : zz_Run zz_prog d 36 (48, [l0, l1, l2], st, k, h) = zz_Run zz_prog d 36 (49, [l0, l1, l2], .int 1 :: st, k, h) := zz_k_num f36_48 rfl
theorem f36_49 : zz_fetch zz_prog 36 49 = some (.goto 4, 3, [53], []) := zz_fetch_of p36 rfl rfl
theorem s36_49 : zz_Run zz_prog d 36 (49, [l0, l1, l2], st, k, h) = zz_Run zz_prog d 36 (53, [l0, l1, l2], st, k, h) := zz_k_num f36_49 rfl
theorem f36_52 : zz_fetch zz_prog 36 52 = some (.iconst 0, 1, [], []) := zz_fetch_of p36 rfl rfl
theorem s36_52 : zz_Run zz_prog d 36 (52, [l0, l1, l2], st, k, h) = zz_Run zz_prog d 36 (53, [l0, l1, l2], .int 0 :: st, k, h) := zz_k_num f36_52 rfl
theorem f36_53 : zz_fetch zz_prog 36 53 = some (.ireturn, 1, [1], []) := zz_fetch_of p36 rfl rfl
theorem s36_53 : zz_Run zz_prog d 36 (53, [l0, l1, l2], [.int v], k, h) = zz_ck (decide (v = 0 ∨ v = 1)) (some (.inl (some (.int v)), k, h)) := zz_k_retz f36_53
theorem f36_54 : zz_fetch zz_prog 36 54 = some (.iload_n 1, 1, [], []) := zz_fetch_of p36 rfl rfl
theorem s36_54 : zz_Run zz_prog d 36 (54, [l0, some (.int v), l2], st, k, h) = zz_Run zz_prog d 36 (55, [l0, some (.int v), l2], .int v :: st, k, h) := zz_k_num f36_54 rfl
theorem f36_55 : zz_fetch zz_prog 36 55 = some (.invokestatic 129, 3, [0, 31, 1], []) := zz_fetch_of p36 rfl rfl
theorem s36_55 : zz_Run zz_prog d 36 (55, [l0, l1, l2], [b0], k, h) = zz_ret (zz_Call zz_prog d 31 [b0] h) (fun v k' h' => zz_Run zz_prog d 36 (58, [l0, l1, l2], v.toList ++ [], k && k', h')) (fun a k' h' => zz_th d 36 55 a [l0, l1, l2] (k && k') h') := zz_k_call f36_55 rfl rfl rfl
theorem f36_58 : zz_fetch zz_prog 36 58 = some (.ireturn, 1, [1], []) := zz_fetch_of p36 rfl rfl
theorem s36_58 : zz_Run zz_prog d 36 (58, [l0, l1, l2], [.int v], k, h) = zz_ck (decide (v = 0 ∨ v = 1)) (some (.inl (some (.int v)), k, h)) := zz_k_retz f36_58
theorem f36_59 : zz_fetch zz_prog 36 59 = some (.iconst 0, 1, [], []) := zz_fetch_of p36 rfl rfl
theorem s36_59 : zz_Run zz_prog d 36 (59, [l0, l1, l2], st, k, h) = zz_Run zz_prog d 36 (60, [l0, l1, l2], .int 0 :: st, k, h) := zz_k_num f36_59 rfl
theorem f36_60 : zz_fetch zz_prog 36 60 = some (.ireturn, 1, [1], []) := zz_fetch_of p36 rfl rfl
theorem s36_60 : zz_Run zz_prog d 36 (60, [l0, l1, l2], [.int v], k, h) = zz_ck (decide (v = 0 ∨ v = 1)) (some (.inl (some (.int v)), k, h)) := zz_k_retz f36_60
end S36
section S37
variable {d n j : Nat} {l0 l1 l2 l3 : Option Value} {st : List Value} {k : Bool} {h : zz_H} {v w v1 v2 : Int32} {y y1 : Int64} {a a1 a2 : Nat} {b0 b1 b2 b3 b4 b5 b6 b7 b8 : Value} {I : Nat → Nat → Int32} {J : Nat → Nat → Int64} {ex : List (Nat × Nat)}
theorem p37 : zz_prog 37 = some zz_m37 := rfl
theorem e37 (g0 : Int32) (g1 : Int32) : zz_Call zz_prog (d + 1) 37 [.int g0, .int g1] h = zz_Run zz_prog d 37 (0, [some (.int g0), some (.int g1), none, none], [], true, h) := rfl
theorem t37 (pc : Nat) (L : List (Option Value)) : zz_th d 37 pc a L k h = some (.inr a, k, h) := zz_th_out p37 rfl
theorem f37_0 : zz_fetch zz_prog 37 0 = some (.iconst 0, 1, [], []) := zz_fetch_of p37 rfl rfl
theorem s37_0 : zz_Run zz_prog d 37 (0, [l0, l1, l2, l3], st, k, h) = zz_Run zz_prog d 37 (1, [l0, l1, l2, l3], .int 0 :: st, k, h) := zz_k_num f37_0 rfl
theorem f37_1 : zz_fetch zz_prog 37 1 = some (.istore_n 2, 1, [], []) := zz_fetch_of p37 rfl rfl
theorem s37_1 : zz_Run zz_prog d 37 (1, [l0, l1, l2, l3], .int v :: st, k, h) = zz_sl l1 (zz_Run zz_prog d 37 (2, [l0, l1, some (.int v), l3], st, k, h)) := zz_k_st (j := 2) (u := .int v) f37_1 rfl (fun q hq => by cases hq) rfl (show 2 < 4 by decide) (by cases l1 <;> rfl) rfl
theorem f37_2 : zz_fetch zz_prog 37 2 = some (.iconst 0, 1, [], []) := zz_fetch_of p37 rfl rfl
theorem s37_2 : zz_Run zz_prog d 37 (2, [l0, l1, l2, l3], st, k, h) = zz_Run zz_prog d 37 (3, [l0, l1, l2, l3], .int 0 :: st, k, h) := zz_k_num f37_2 rfl
theorem f37_3 : zz_fetch zz_prog 37 3 = some (.istore_n 3, 1, [], []) := zz_fetch_of p37 rfl rfl
theorem s37_3 : zz_Run zz_prog d 37 (3, [l0, l1, l2, l3], .int v :: st, k, h) = zz_sl l2 (zz_Run zz_prog d 37 (4, [l0, l1, l2, some (.int v)], st, k, h)) := zz_k_st (j := 3) (u := .int v) f37_3 rfl (fun q hq => by cases hq) rfl (show 3 < 4 by decide) (by cases l2 <;> rfl) rfl
theorem f37_4 : zz_fetch zz_prog 37 4 = some (.iload_n 3, 1, [], []) := zz_fetch_of p37 rfl rfl
theorem s37_4 : zz_Run zz_prog d 37 (4, [l0, l1, l2, some (.int v)], st, k, h) = zz_Run zz_prog d 37 (5, [l0, l1, l2, some (.int v)], .int v :: st, k, h) := zz_k_num f37_4 rfl
theorem f37_5 : zz_fetch zz_prog 37 5 = some (.bipush 19, 2, [], []) := zz_fetch_of p37 rfl rfl
theorem s37_5 : zz_Run zz_prog d 37 (5, [l0, l1, l2, l3], st, k, h) = zz_Run zz_prog d 37 (7, [l0, l1, l2, l3], .int 19 :: st, k, h) := zz_k_num f37_5 (congrArg (fun u => some (7, [l0, l1, l2, l3], Value.int u :: st)) (by decide : (Int8.ofInt 19).toInt32 = 19))
theorem f37_7 : zz_fetch zz_prog 37 7 = some (.if_icmp .ge 28, 3, [35], []) := zz_fetch_of p37 rfl rfl
theorem s37_7 : zz_Run zz_prog d 37 (7, [l0, l1, l2, l3], .int w :: .int v :: st, k, h) = if w ≤ v then zz_Run zz_prog d 37 (35, [l0, l1, l2, l3], st, k, h) else zz_Run zz_prog d 37 (10, [l0, l1, l2, l3], st, k, h) := zz_k_br (w ≤ v) rfl (zz_k_num f37_7 rfl)
theorem f37_10 : zz_fetch zz_prog 37 10 = some (.iload_n 0, 1, [], []) := zz_fetch_of p37 rfl rfl
theorem s37_10 : zz_Run zz_prog d 37 (10, [some (.int v), l1, l2, l3], st, k, h) = zz_Run zz_prog d 37 (11, [some (.int v), l1, l2, l3], .int v :: st, k, h) := zz_k_num f37_10 rfl
theorem f37_11 : zz_fetch zz_prog 37 11 = some (.iload_n 3, 1, [], []) := zz_fetch_of p37 rfl rfl
theorem s37_11 : zz_Run zz_prog d 37 (11, [l0, l1, l2, some (.int v)], st, k, h) = zz_Run zz_prog d 37 (12, [l0, l1, l2, some (.int v)], .int v :: st, k, h) := zz_k_num f37_11 rfl
theorem f37_12 : zz_fetch zz_prog 37 12 = some (.invokestatic 245, 3, [0, 38, 2], []) := zz_fetch_of p37 rfl rfl
theorem s37_12 : zz_Run zz_prog d 37 (12, [l0, l1, l2, l3], [b0, b1], k, h) = zz_ret (zz_Call zz_prog d 38 [b1, b0] h) (fun v k' h' => zz_Run zz_prog d 37 (15, [l0, l1, l2, l3], v.toList ++ [], k && k', h')) (fun a k' h' => zz_th d 37 12 a [l0, l1, l2, l3] (k && k') h') := zz_k_call f37_12 rfl rfl rfl
theorem f37_15 : zz_fetch zz_prog 37 15 = some (.ifCond .eq 14, 3, [29], []) := zz_fetch_of p37 rfl rfl
theorem s37_15 : zz_Run zz_prog d 37 (15, [l0, l1, l2, l3], .int v :: st, k, h) = if v = 0 then zz_Run zz_prog d 37 (29, [l0, l1, l2, l3], st, k, h) else zz_Run zz_prog d 37 (18, [l0, l1, l2, l3], st, k, h) := zz_k_br (v = 0) rfl (zz_k_num f37_15 rfl)
theorem f37_18 : zz_fetch zz_prog 37 18 = some (.iload_n 1, 1, [], []) := zz_fetch_of p37 rfl rfl
theorem s37_18 : zz_Run zz_prog d 37 (18, [l0, some (.int v), l2, l3], st, k, h) = zz_Run zz_prog d 37 (19, [l0, some (.int v), l2, l3], .int v :: st, k, h) := zz_k_num f37_18 rfl
theorem f37_19 : zz_fetch zz_prog 37 19 = some (.iload_n 3, 1, [], []) := zz_fetch_of p37 rfl rfl
theorem s37_19 : zz_Run zz_prog d 37 (19, [l0, l1, l2, some (.int v)], st, k, h) = zz_Run zz_prog d 37 (20, [l0, l1, l2, some (.int v)], .int v :: st, k, h) := zz_k_num f37_19 rfl
theorem f37_20 : zz_fetch zz_prog 37 20 = some (.invokestatic 245, 3, [0, 38, 2], []) := zz_fetch_of p37 rfl rfl
theorem s37_20 : zz_Run zz_prog d 37 (20, [l0, l1, l2, l3], [b0, b1], k, h) = zz_ret (zz_Call zz_prog d 38 [b1, b0] h) (fun v k' h' => zz_Run zz_prog d 37 (23, [l0, l1, l2, l3], v.toList ++ [], k && k', h')) (fun a k' h' => zz_th d 37 20 a [l0, l1, l2, l3] (k && k') h') := zz_k_call f37_20 rfl rfl rfl
theorem f37_23 : zz_fetch zz_prog 37 23 = some (.ifCond .eq 6, 3, [29], []) := zz_fetch_of p37 rfl rfl
theorem s37_23 : zz_Run zz_prog d 37 (23, [l0, l1, l2, l3], .int v :: st, k, h) = if v = 0 then zz_Run zz_prog d 37 (29, [l0, l1, l2, l3], st, k, h) else zz_Run zz_prog d 37 (26, [l0, l1, l2, l3], st, k, h) := zz_k_br (v = 0) rfl (zz_k_num f37_23 rfl)
theorem f37_26 : zz_fetch zz_prog 37 26 = some (.iinc 2 1, 3, [], []) := zz_fetch_of p37 rfl rfl
theorem s37_26 : zz_Run zz_prog d 37 (26, [l0, l1, some (.int v), l3], st, k, h) = zz_sl l1 (zz_Run zz_prog d 37 (29, [l0, l1, some (.int (v + 1)), l3], st, k, h)) := zz_k_st (j := 2) (u := .int (v + 1)) f37_26 rfl (fun q hq => by cases hq) rfl (show 2 < 4 by decide) (by cases l1 <;> rfl) rfl
theorem f37_29 : zz_fetch zz_prog 37 29 = some (.iinc 3 1, 3, [], []) := zz_fetch_of p37 rfl rfl
theorem s37_29 : zz_Run zz_prog d 37 (29, [l0, l1, l2, some (.int v)], st, k, h) = zz_sl l2 (zz_Run zz_prog d 37 (32, [l0, l1, l2, some (.int (v + 1))], st, k, h)) := zz_k_st (j := 3) (u := .int (v + 1)) f37_29 rfl (fun q hq => by cases hq) rfl (show 3 < 4 by decide) (by cases l2 <;> rfl) rfl
theorem f37_32 : zz_fetch zz_prog 37 32 = some (.goto (-28), 3, [4], []) := zz_fetch_of p37 rfl rfl
theorem s37_32 : zz_Run zz_prog d 37 (32, [l0, l1, l2, l3], st, k, h) = zz_Run zz_prog d 37 (4, [l0, l1, l2, l3], st, k, h) := zz_k_num f37_32 rfl
theorem f37_35 : zz_fetch zz_prog 37 35 = some (.iload_n 2, 1, [], []) := zz_fetch_of p37 rfl rfl
theorem s37_35 : zz_Run zz_prog d 37 (35, [l0, l1, some (.int v), l3], st, k, h) = zz_Run zz_prog d 37 (36, [l0, l1, some (.int v), l3], .int v :: st, k, h) := zz_k_num f37_35 rfl
theorem f37_36 : zz_fetch zz_prog 37 36 = some (.iconst 1, 1, [], []) := zz_fetch_of p37 rfl rfl
theorem s37_36 : zz_Run zz_prog d 37 (36, [l0, l1, l2, l3], st, k, h) = zz_Run zz_prog d 37 (37, [l0, l1, l2, l3], .int 1 :: st, k, h) := zz_k_num f37_36 rfl
theorem f37_37 : zz_fetch zz_prog 37 37 = some (.if_icmp .ne 7, 3, [44], []) := zz_fetch_of p37 rfl rfl
theorem s37_37 : zz_Run zz_prog d 37 (37, [l0, l1, l2, l3], .int w :: .int v :: st, k, h) = if ¬ v = w then zz_Run zz_prog d 37 (44, [l0, l1, l2, l3], st, k, h) else zz_Run zz_prog d 37 (40, [l0, l1, l2, l3], st, k, h) := zz_k_br (¬ v = w) rfl (zz_k_num f37_37 rfl)
theorem f37_40 : zz_fetch zz_prog 37 40 = some (.iconst 1, 1, [], []) := zz_fetch_of p37 rfl rfl
theorem s37_40 : zz_Run zz_prog d 37 (40, [l0, l1, l2, l3], st, k, h) = zz_Run zz_prog d 37 (41, [l0, l1, l2, l3], .int 1 :: st, k, h) := zz_k_num f37_40 rfl
theorem f37_41 : zz_fetch zz_prog 37 41 = some (.goto 4, 3, [45], []) := zz_fetch_of p37 rfl rfl
theorem s37_41 : zz_Run zz_prog d 37 (41, [l0, l1, l2, l3], st, k, h) = zz_Run zz_prog d 37 (45, [l0, l1, l2, l3], st, k, h) := zz_k_num f37_41 rfl
theorem f37_44 : zz_fetch zz_prog 37 44 = some (.iconst 0, 1, [], []) := zz_fetch_of p37 rfl rfl
theorem s37_44 : zz_Run zz_prog d 37 (44, [l0, l1, l2, l3], st, k, h) = zz_Run zz_prog d 37 (45, [l0, l1, l2, l3], .int 0 :: st, k, h) := zz_k_num f37_44 rfl
theorem f37_45 : zz_fetch zz_prog 37 45 = some (.ireturn, 1, [1], []) := zz_fetch_of p37 rfl rfl
theorem s37_45 : zz_Run zz_prog d 37 (45, [l0, l1, l2, l3], [.int v], k, h) = zz_ck (decide (v = 0 ∨ v = 1)) (some (.inl (some (.int v)), k, h)) := zz_k_retz f37_45
end S37
section S38
variable {d n j : Nat} {l0 l1 l2 : Option Value} {st : List Value} {k : Bool} {h : zz_H} {v w v1 v2 : Int32} {y y1 : Int64} {a a1 a2 : Nat} {b0 b1 b2 b3 b4 b5 b6 b7 b8 : Value} {I : Nat → Nat → Int32} {J : Nat → Nat → Int64} {ex : List (Nat × Nat)}
theorem p38 : zz_prog 38 = some zz_m38 := rfl
theorem e38 (g0 : Int32) (g1 : Int32) : zz_Call zz_prog (d + 1) 38 [.int g0, .int g1] h = zz_Run zz_prog d 38 (0, [some (.int g0), some (.int g1), none], [], true, h) := rfl
theorem t38 (pc : Nat) (L : List (Option Value)) : zz_th d 38 pc a L k h = some (.inr a, k, h) := zz_th_out p38 rfl
theorem f38_0 : zz_fetch zz_prog 38 0 = some (.iconst 0, 1, [], []) := zz_fetch_of p38 rfl rfl
theorem s38_0 : zz_Run zz_prog d 38 (0, [l0, l1, l2], st, k, h) = zz_Run zz_prog d 38 (1, [l0, l1, l2], .int 0 :: st, k, h) := zz_k_num f38_0 rfl
theorem f38_1 : zz_fetch zz_prog 38 1 = some (.istore_n 2, 1, [], []) := zz_fetch_of p38 rfl rfl
theorem s38_1 : zz_Run zz_prog d 38 (1, [l0, l1, l2], .int v :: st, k, h) = zz_sl l1 (zz_Run zz_prog d 38 (2, [l0, l1, some (.int v)], st, k, h)) := zz_k_st (j := 2) (u := .int v) f38_1 rfl (fun q hq => by cases hq) rfl (show 2 < 3 by decide) (by cases l1 <;> rfl) rfl
theorem f38_2 : zz_fetch zz_prog 38 2 = some (.iload_n 2, 1, [], []) := zz_fetch_of p38 rfl rfl
theorem s38_2 : zz_Run zz_prog d 38 (2, [l0, l1, some (.int v)], st, k, h) = zz_Run zz_prog d 38 (3, [l0, l1, some (.int v)], .int v :: st, k, h) := zz_k_num f38_2 rfl
theorem f38_3 : zz_fetch zz_prog 38 3 = some (.bipush 6, 2, [], []) := zz_fetch_of p38 rfl rfl
theorem s38_3 : zz_Run zz_prog d 38 (3, [l0, l1, l2], st, k, h) = zz_Run zz_prog d 38 (5, [l0, l1, l2], .int 6 :: st, k, h) := zz_k_num f38_3 (congrArg (fun u => some (5, [l0, l1, l2], Value.int u :: st)) (by decide : (Int8.ofInt 6).toInt32 = 6))
theorem f38_5 : zz_fetch zz_prog 38 5 = some (.if_icmp .ge 25, 3, [30], []) := zz_fetch_of p38 rfl rfl
theorem s38_5 : zz_Run zz_prog d 38 (5, [l0, l1, l2], .int w :: .int v :: st, k, h) = if w ≤ v then zz_Run zz_prog d 38 (30, [l0, l1, l2], st, k, h) else zz_Run zz_prog d 38 (8, [l0, l1, l2], st, k, h) := zz_k_br (w ≤ v) rfl (zz_k_num f38_5 rfl)
theorem f38_8 : zz_fetch zz_prog 38 8 = some (.getstatic 248, 3, [2], []) := zz_fetch_of p38 rfl rfl
theorem s38_8 : zz_Run zz_prog d 38 (8, [l0, l1, l2], st, k, (zz_hp n I J ex)) = zz_Run zz_prog d 38 (11, [l0, l1, l2], .ref 2 :: st, k, (zz_hp n I J ex)) := zz_k_go f38_8 rfl rfl rfl
theorem f38_11 : zz_fetch zz_prog 38 11 = some (.iload_n 1, 1, [], []) := zz_fetch_of p38 rfl rfl
theorem s38_11 : zz_Run zz_prog d 38 (11, [l0, some (.int v), l2], st, k, h) = zz_Run zz_prog d 38 (12, [l0, some (.int v), l2], .int v :: st, k, h) := zz_k_num f38_11 rfl
theorem f38_12 : zz_fetch zz_prog 38 12 = some (.bipush 6, 2, [], []) := zz_fetch_of p38 rfl rfl
theorem s38_12 : zz_Run zz_prog d 38 (12, [l0, l1, l2], st, k, h) = zz_Run zz_prog d 38 (14, [l0, l1, l2], .int 6 :: st, k, h) := zz_k_num f38_12 (congrArg (fun u => some (14, [l0, l1, l2], Value.int u :: st)) (by decide : (Int8.ofInt 6).toInt32 = 6))
theorem f38_14 : zz_fetch zz_prog 38 14 = some (.imul, 1, [], []) := zz_fetch_of p38 rfl rfl
theorem s38_14 : zz_Run zz_prog d 38 (14, [l0, l1, l2], .int w :: .int v :: st, k, h) = zz_Run zz_prog d 38 (15, [l0, l1, l2], .int (v * w) :: st, k, h) := zz_k_num f38_14 rfl
theorem f38_15 : zz_fetch zz_prog 38 15 = some (.iload_n 2, 1, [], []) := zz_fetch_of p38 rfl rfl
theorem s38_15 : zz_Run zz_prog d 38 (15, [l0, l1, some (.int v)], st, k, h) = zz_Run zz_prog d 38 (16, [l0, l1, some (.int v)], .int v :: st, k, h) := zz_k_num f38_15 rfl
theorem f38_16 : zz_fetch zz_prog 38 16 = some (.iadd, 1, [], []) := zz_fetch_of p38 rfl rfl
theorem s38_16 : zz_Run zz_prog d 38 (16, [l0, l1, l2], .int w :: .int v :: st, k, h) = zz_Run zz_prog d 38 (17, [l0, l1, l2], .int (v + w) :: st, k, h) := zz_k_num f38_16 rfl
theorem f38_17 : zz_fetch zz_prog 38 17 = some (.iaload, 1, [], []) := zz_fetch_of p38 rfl rfl
theorem s38_17 (ha : zz_isrd a = true) : zz_Run zz_prog d 38 (17, [l0, l1, l2], .int v :: .ref a :: st, k, (zz_hp n I J ex)) = zz_ck (zz_in v (zz_ary n a)) (zz_Run zz_prog d 38 (18, [l0, l1, l2], .int (I a v.toNatClampNeg) :: st, k, (zz_hp n I J ex))) := zz_k_iald f38_17 ha
theorem f38_18 : zz_fetch zz_prog 38 18 = some (.iload_n 0, 1, [], []) := zz_fetch_of p38 rfl rfl
theorem s38_18 : zz_Run zz_prog d 38 (18, [some (.int v), l1, l2], st, k, h) = zz_Run zz_prog d 38 (19, [some (.int v), l1, l2], .int v :: st, k, h) := zz_k_num f38_18 rfl
theorem f38_19 : zz_fetch zz_prog 38 19 = some (.if_icmp .ne 5, 3, [24], []) := zz_fetch_of p38 rfl rfl
theorem s38_19 : zz_Run zz_prog d 38 (19, [l0, l1, l2], .int w :: .int v :: st, k, h) = if ¬ v = w then zz_Run zz_prog d 38 (24, [l0, l1, l2], st, k, h) else zz_Run zz_prog d 38 (22, [l0, l1, l2], st, k, h) := zz_k_br (¬ v = w) rfl (zz_k_num f38_19 rfl)
theorem f38_22 : zz_fetch zz_prog 38 22 = some (.iconst 1, 1, [], []) := zz_fetch_of p38 rfl rfl
theorem s38_22 : zz_Run zz_prog d 38 (22, [l0, l1, l2], st, k, h) = zz_Run zz_prog d 38 (23, [l0, l1, l2], .int 1 :: st, k, h) := zz_k_num f38_22 rfl
theorem f38_23 : zz_fetch zz_prog 38 23 = some (.ireturn, 1, [1], []) := zz_fetch_of p38 rfl rfl
theorem s38_23 : zz_Run zz_prog d 38 (23, [l0, l1, l2], [.int v], k, h) = zz_ck (decide (v = 0 ∨ v = 1)) (some (.inl (some (.int v)), k, h)) := zz_k_retz f38_23
theorem f38_24 : zz_fetch zz_prog 38 24 = some (.iinc 2 1, 3, [], []) := zz_fetch_of p38 rfl rfl
theorem s38_24 : zz_Run zz_prog d 38 (24, [l0, l1, some (.int v)], st, k, h) = zz_sl l1 (zz_Run zz_prog d 38 (27, [l0, l1, some (.int (v + 1))], st, k, h)) := zz_k_st (j := 2) (u := .int (v + 1)) f38_24 rfl (fun q hq => by cases hq) rfl (show 2 < 3 by decide) (by cases l1 <;> rfl) rfl
theorem f38_27 : zz_fetch zz_prog 38 27 = some (.goto (-25), 3, [2], []) := zz_fetch_of p38 rfl rfl
theorem s38_27 : zz_Run zz_prog d 38 (27, [l0, l1, l2], st, k, h) = zz_Run zz_prog d 38 (2, [l0, l1, l2], st, k, h) := zz_k_num f38_27 rfl
theorem f38_30 : zz_fetch zz_prog 38 30 = some (.iconst 0, 1, [], []) := zz_fetch_of p38 rfl rfl
theorem s38_30 : zz_Run zz_prog d 38 (30, [l0, l1, l2], st, k, h) = zz_Run zz_prog d 38 (31, [l0, l1, l2], .int 0 :: st, k, h) := zz_k_num f38_30 rfl
theorem f38_31 : zz_fetch zz_prog 38 31 = some (.ireturn, 1, [1], []) := zz_fetch_of p38 rfl rfl
theorem s38_31 : zz_Run zz_prog d 38 (31, [l0, l1, l2], [.int v], k, h) = zz_ck (decide (v = 0 ∨ v = 1)) (some (.inl (some (.int v)), k, h)) := zz_k_retz f38_31
end S38
section S39
variable {d n j : Nat} {l0 l1 : Option Value} {st : List Value} {k : Bool} {h : zz_H} {v w v1 v2 : Int32} {y y1 : Int64} {a a1 a2 : Nat} {b0 b1 b2 b3 b4 b5 b6 b7 b8 : Value} {I : Nat → Nat → Int32} {J : Nat → Nat → Int64} {ex : List (Nat × Nat)}
theorem p39 : zz_prog 39 = some zz_m39 := rfl
theorem e39 (g0 : Int32) (g1 : Int32) : zz_Call zz_prog (d + 1) 39 [.int g0, .int g1] h = zz_Run zz_prog d 39 (0, [some (.int g0), some (.int g1)], [], true, h) := rfl
theorem t39 (pc : Nat) (L : List (Option Value)) : zz_th d 39 pc a L k h = some (.inr a, k, h) := zz_th_out p39 rfl
theorem f39_0 : zz_fetch zz_prog 39 0 = some (.getstatic 60, 3, [3], []) := zz_fetch_of p39 rfl rfl
theorem s39_0 : zz_Run zz_prog d 39 (0, [l0, l1], st, k, (zz_hp n I J ex)) = zz_Run zz_prog d 39 (3, [l0, l1], .ref 3 :: st, k, (zz_hp n I J ex)) := zz_k_go f39_0 rfl rfl rfl
theorem f39_3 : zz_fetch zz_prog 39 3 = some (.iconst 2, 1, [], []) := zz_fetch_of p39 rfl rfl
theorem s39_3 : zz_Run zz_prog d 39 (3, [l0, l1], st, k, h) = zz_Run zz_prog d 39 (4, [l0, l1], .int 2 :: st, k, h) := zz_k_num f39_3 rfl
theorem f39_4 : zz_fetch zz_prog 39 4 = some (.iload_n 0, 1, [], []) := zz_fetch_of p39 rfl rfl
theorem s39_4 : zz_Run zz_prog d 39 (4, [some (.int v), l1], st, k, h) = zz_Run zz_prog d 39 (5, [some (.int v), l1], .int v :: st, k, h) := zz_k_num f39_4 rfl
theorem f39_5 : zz_fetch zz_prog 39 5 = some (.imul, 1, [], []) := zz_fetch_of p39 rfl rfl
theorem s39_5 : zz_Run zz_prog d 39 (5, [l0, l1], .int w :: .int v :: st, k, h) = zz_Run zz_prog d 39 (6, [l0, l1], .int (v * w) :: st, k, h) := zz_k_num f39_5 rfl
theorem f39_6 : zz_fetch zz_prog 39 6 = some (.iaload, 1, [], []) := zz_fetch_of p39 rfl rfl
theorem s39_6 (ha : zz_isrd a = true) : zz_Run zz_prog d 39 (6, [l0, l1], .int v :: .ref a :: st, k, (zz_hp n I J ex)) = zz_ck (zz_in v (zz_ary n a)) (zz_Run zz_prog d 39 (7, [l0, l1], .int (I a v.toNatClampNeg) :: st, k, (zz_hp n I J ex))) := zz_k_iald f39_6 ha
theorem f39_7 : zz_fetch zz_prog 39 7 = some (.iload_n 1, 1, [], []) := zz_fetch_of p39 rfl rfl
theorem s39_7 : zz_Run zz_prog d 39 (7, [l0, some (.int v)], st, k, h) = zz_Run zz_prog d 39 (8, [l0, some (.int v)], .int v :: st, k, h) := zz_k_num f39_7 rfl
theorem f39_8 : zz_fetch zz_prog 39 8 = some (.if_icmp .eq 16, 3, [24], []) := zz_fetch_of p39 rfl rfl
theorem s39_8 : zz_Run zz_prog d 39 (8, [l0, l1], .int w :: .int v :: st, k, h) = if v = w then zz_Run zz_prog d 39 (24, [l0, l1], st, k, h) else zz_Run zz_prog d 39 (11, [l0, l1], st, k, h) := zz_k_br (v = w) rfl (zz_k_num f39_8 rfl)
theorem f39_11 : zz_fetch zz_prog 39 11 = some (.getstatic 60, 3, [3], []) := zz_fetch_of p39 rfl rfl
theorem s39_11 : zz_Run zz_prog d 39 (11, [l0, l1], st, k, (zz_hp n I J ex)) = zz_Run zz_prog d 39 (14, [l0, l1], .ref 3 :: st, k, (zz_hp n I J ex)) := zz_k_go f39_11 rfl rfl rfl
theorem f39_14 : zz_fetch zz_prog 39 14 = some (.iconst 2, 1, [], []) := zz_fetch_of p39 rfl rfl
theorem s39_14 : zz_Run zz_prog d 39 (14, [l0, l1], st, k, h) = zz_Run zz_prog d 39 (15, [l0, l1], .int 2 :: st, k, h) := zz_k_num f39_14 rfl
theorem f39_15 : zz_fetch zz_prog 39 15 = some (.iload_n 0, 1, [], []) := zz_fetch_of p39 rfl rfl
theorem s39_15 : zz_Run zz_prog d 39 (15, [some (.int v), l1], st, k, h) = zz_Run zz_prog d 39 (16, [some (.int v), l1], .int v :: st, k, h) := zz_k_num f39_15 rfl
theorem f39_16 : zz_fetch zz_prog 39 16 = some (.imul, 1, [], []) := zz_fetch_of p39 rfl rfl
theorem s39_16 : zz_Run zz_prog d 39 (16, [l0, l1], .int w :: .int v :: st, k, h) = zz_Run zz_prog d 39 (17, [l0, l1], .int (v * w) :: st, k, h) := zz_k_num f39_16 rfl
theorem f39_17 : zz_fetch zz_prog 39 17 = some (.iconst 1, 1, [], []) := zz_fetch_of p39 rfl rfl
theorem s39_17 : zz_Run zz_prog d 39 (17, [l0, l1], st, k, h) = zz_Run zz_prog d 39 (18, [l0, l1], .int 1 :: st, k, h) := zz_k_num f39_17 rfl
theorem f39_18 : zz_fetch zz_prog 39 18 = some (.iadd, 1, [], []) := zz_fetch_of p39 rfl rfl
theorem s39_18 : zz_Run zz_prog d 39 (18, [l0, l1], .int w :: .int v :: st, k, h) = zz_Run zz_prog d 39 (19, [l0, l1], .int (v + w) :: st, k, h) := zz_k_num f39_18 rfl
theorem f39_19 : zz_fetch zz_prog 39 19 = some (.iaload, 1, [], []) := zz_fetch_of p39 rfl rfl
theorem s39_19 (ha : zz_isrd a = true) : zz_Run zz_prog d 39 (19, [l0, l1], .int v :: .ref a :: st, k, (zz_hp n I J ex)) = zz_ck (zz_in v (zz_ary n a)) (zz_Run zz_prog d 39 (20, [l0, l1], .int (I a v.toNatClampNeg) :: st, k, (zz_hp n I J ex))) := zz_k_iald f39_19 ha
theorem f39_20 : zz_fetch zz_prog 39 20 = some (.iload_n 1, 1, [], []) := zz_fetch_of p39 rfl rfl
theorem s39_20 : zz_Run zz_prog d 39 (20, [l0, some (.int v)], st, k, h) = zz_Run zz_prog d 39 (21, [l0, some (.int v)], .int v :: st, k, h) := zz_k_num f39_20 rfl
theorem f39_21 : zz_fetch zz_prog 39 21 = some (.if_icmp .ne 7, 3, [28], []) := zz_fetch_of p39 rfl rfl
theorem s39_21 : zz_Run zz_prog d 39 (21, [l0, l1], .int w :: .int v :: st, k, h) = if ¬ v = w then zz_Run zz_prog d 39 (28, [l0, l1], st, k, h) else zz_Run zz_prog d 39 (24, [l0, l1], st, k, h) := zz_k_br (¬ v = w) rfl (zz_k_num f39_21 rfl)
theorem f39_24 : zz_fetch zz_prog 39 24 = some (.iconst 1, 1, [], []) := zz_fetch_of p39 rfl rfl
theorem s39_24 : zz_Run zz_prog d 39 (24, [l0, l1], st, k, h) = zz_Run zz_prog d 39 (25, [l0, l1], .int 1 :: st, k, h) := zz_k_num f39_24 rfl
theorem f39_25 : zz_fetch zz_prog 39 25 = some (.goto 4, 3, [29], []) := zz_fetch_of p39 rfl rfl
theorem s39_25 : zz_Run zz_prog d 39 (25, [l0, l1], st, k, h) = zz_Run zz_prog d 39 (29, [l0, l1], st, k, h) := zz_k_num f39_25 rfl
theorem f39_28 : zz_fetch zz_prog 39 28 = some (.iconst 0, 1, [], []) := zz_fetch_of p39 rfl rfl
theorem s39_28 : zz_Run zz_prog d 39 (28, [l0, l1], st, k, h) = zz_Run zz_prog d 39 (29, [l0, l1], .int 0 :: st, k, h) := zz_k_num f39_28 rfl
theorem f39_29 : zz_fetch zz_prog 39 29 = some (.ireturn, 1, [1], []) := zz_fetch_of p39 rfl rfl
theorem s39_29 : zz_Run zz_prog d 39 (29, [l0, l1], [.int v], k, h) = zz_ck (decide (v = 0 ∨ v = 1)) (some (.inl (some (.int v)), k, h)) := zz_k_retz f39_29
end S39
section S40
variable {d n j : Nat} {l0 l1 l2 : Option Value} {st : List Value} {k : Bool} {h : zz_H} {v w v1 v2 : Int32} {y y1 : Int64} {a a1 a2 : Nat} {b0 b1 b2 b3 b4 b5 b6 b7 b8 : Value} {I : Nat → Nat → Int32} {J : Nat → Nat → Int64} {ex : List (Nat × Nat)}
theorem p40 : zz_prog 40 = some zz_m40 := rfl
theorem e40 (g0 : Int32) (g1 : Int32) : zz_Call zz_prog (d + 1) 40 [.int g0, .int g1] h = zz_Run zz_prog d 40 (0, [some (.int g0), some (.int g1), none], [], true, h) := rfl
theorem t40 (pc : Nat) (L : List (Option Value)) : zz_th d 40 pc a L k h = some (.inr a, k, h) := zz_th_out p40 rfl
theorem f40_0 : zz_fetch zz_prog 40 0 = some (.getstatic 60, 3, [3], []) := zz_fetch_of p40 rfl rfl
theorem s40_0 : zz_Run zz_prog d 40 (0, [l0, l1, l2], st, k, (zz_hp n I J ex)) = zz_Run zz_prog d 40 (3, [l0, l1, l2], .ref 3 :: st, k, (zz_hp n I J ex)) := zz_k_go f40_0 rfl rfl rfl
theorem f40_3 : zz_fetch zz_prog 40 3 = some (.iconst 2, 1, [], []) := zz_fetch_of p40 rfl rfl
theorem s40_3 : zz_Run zz_prog d 40 (3, [l0, l1, l2], st, k, h) = zz_Run zz_prog d 40 (4, [l0, l1, l2], .int 2 :: st, k, h) := zz_k_num f40_3 rfl
theorem f40_4 : zz_fetch zz_prog 40 4 = some (.iload_n 0, 1, [], []) := zz_fetch_of p40 rfl rfl
theorem s40_4 : zz_Run zz_prog d 40 (4, [some (.int v), l1, l2], st, k, h) = zz_Run zz_prog d 40 (5, [some (.int v), l1, l2], .int v :: st, k, h) := zz_k_num f40_4 rfl
theorem f40_5 : zz_fetch zz_prog 40 5 = some (.imul, 1, [], []) := zz_fetch_of p40 rfl rfl
theorem s40_5 : zz_Run zz_prog d 40 (5, [l0, l1, l2], .int w :: .int v :: st, k, h) = zz_Run zz_prog d 40 (6, [l0, l1, l2], .int (v * w) :: st, k, h) := zz_k_num f40_5 rfl
theorem f40_6 : zz_fetch zz_prog 40 6 = some (.iaload, 1, [], []) := zz_fetch_of p40 rfl rfl
theorem s40_6 (ha : zz_isrd a = true) : zz_Run zz_prog d 40 (6, [l0, l1, l2], .int v :: .ref a :: st, k, (zz_hp n I J ex)) = zz_ck (zz_in v (zz_ary n a)) (zz_Run zz_prog d 40 (7, [l0, l1, l2], .int (I a v.toNatClampNeg) :: st, k, (zz_hp n I J ex))) := zz_k_iald f40_6 ha
theorem f40_7 : zz_fetch zz_prog 40 7 = some (.istore_n 2, 1, [], []) := zz_fetch_of p40 rfl rfl
theorem s40_7 : zz_Run zz_prog d 40 (7, [l0, l1, l2], .int v :: st, k, h) = zz_sl l1 (zz_Run zz_prog d 40 (8, [l0, l1, some (.int v)], st, k, h)) := zz_k_st (j := 2) (u := .int v) f40_7 rfl (fun q hq => by cases hq) rfl (show 2 < 3 by decide) (by cases l1 <;> rfl) rfl
theorem f40_8 : zz_fetch zz_prog 40 8 = some (.iload_n 2, 1, [], []) := zz_fetch_of p40 rfl rfl
theorem s40_8 : zz_Run zz_prog d 40 (8, [l0, l1, some (.int v)], st, k, h) = zz_Run zz_prog d 40 (9, [l0, l1, some (.int v)], .int v :: st, k, h) := zz_k_num f40_8 rfl
theorem f40_9 : zz_fetch zz_prog 40 9 = some (.iload_n 1, 1, [], []) := zz_fetch_of p40 rfl rfl
theorem s40_9 : zz_Run zz_prog d 40 (9, [l0, some (.int v), l2], st, k, h) = zz_Run zz_prog d 40 (10, [l0, some (.int v), l2], .int v :: st, k, h) := zz_k_num f40_9 rfl
theorem f40_10 : zz_fetch zz_prog 40 10 = some (.if_icmp .ne 15, 3, [25], []) := zz_fetch_of p40 rfl rfl
theorem s40_10 : zz_Run zz_prog d 40 (10, [l0, l1, l2], .int w :: .int v :: st, k, h) = if ¬ v = w then zz_Run zz_prog d 40 (25, [l0, l1, l2], st, k, h) else zz_Run zz_prog d 40 (13, [l0, l1, l2], st, k, h) := zz_k_br (¬ v = w) rfl (zz_k_num f40_10 rfl)
theorem f40_13 : zz_fetch zz_prog 40 13 = some (.getstatic 60, 3, [3], []) := zz_fetch_of p40 rfl rfl
theorem s40_13 : zz_Run zz_prog d 40 (13, [l0, l1, l2], st, k, (zz_hp n I J ex)) = zz_Run zz_prog d 40 (16, [l0, l1, l2], .ref 3 :: st, k, (zz_hp n I J ex)) := zz_k_go f40_13 rfl rfl rfl
theorem f40_16 : zz_fetch zz_prog 40 16 = some (.iconst 2, 1, [], []) := zz_fetch_of p40 rfl rfl
theorem s40_16 : zz_Run zz_prog d 40 (16, [l0, l1, l2], st, k, h) = zz_Run zz_prog d 40 (17, [l0, l1, l2], .int 2 :: st, k, h) := zz_k_num f40_16 rfl
theorem f40_17 : zz_fetch zz_prog 40 17 = some (.iload_n 0, 1, [], []) := zz_fetch_of p40 rfl rfl
theorem s40_17 : zz_Run zz_prog d 40 (17, [some (.int v), l1, l2], st, k, h) = zz_Run zz_prog d 40 (18, [some (.int v), l1, l2], .int v :: st, k, h) := zz_k_num f40_17 rfl
theorem f40_18 : zz_fetch zz_prog 40 18 = some (.imul, 1, [], []) := zz_fetch_of p40 rfl rfl
theorem s40_18 : zz_Run zz_prog d 40 (18, [l0, l1, l2], .int w :: .int v :: st, k, h) = zz_Run zz_prog d 40 (19, [l0, l1, l2], .int (v * w) :: st, k, h) := zz_k_num f40_18 rfl
theorem f40_19 : zz_fetch zz_prog 40 19 = some (.iconst 1, 1, [], []) := zz_fetch_of p40 rfl rfl
theorem s40_19 : zz_Run zz_prog d 40 (19, [l0, l1, l2], st, k, h) = zz_Run zz_prog d 40 (20, [l0, l1, l2], .int 1 :: st, k, h) := zz_k_num f40_19 rfl
theorem f40_20 : zz_fetch zz_prog 40 20 = some (.iadd, 1, [], []) := zz_fetch_of p40 rfl rfl
theorem s40_20 : zz_Run zz_prog d 40 (20, [l0, l1, l2], .int w :: .int v :: st, k, h) = zz_Run zz_prog d 40 (21, [l0, l1, l2], .int (v + w) :: st, k, h) := zz_k_num f40_20 rfl
theorem f40_21 : zz_fetch zz_prog 40 21 = some (.iaload, 1, [], []) := zz_fetch_of p40 rfl rfl
theorem s40_21 (ha : zz_isrd a = true) : zz_Run zz_prog d 40 (21, [l0, l1, l2], .int v :: .ref a :: st, k, (zz_hp n I J ex)) = zz_ck (zz_in v (zz_ary n a)) (zz_Run zz_prog d 40 (22, [l0, l1, l2], .int (I a v.toNatClampNeg) :: st, k, (zz_hp n I J ex))) := zz_k_iald f40_21 ha
theorem f40_22 : zz_fetch zz_prog 40 22 = some (.goto 4, 3, [26], []) := zz_fetch_of p40 rfl rfl
theorem s40_22 : zz_Run zz_prog d 40 (22, [l0, l1, l2], st, k, h) = zz_Run zz_prog d 40 (26, [l0, l1, l2], st, k, h) := zz_k_num f40_22 rfl
theorem f40_25 : zz_fetch zz_prog 40 25 = some (.iload_n 2, 1, [], []) := zz_fetch_of p40 rfl rfl
theorem s40_25 : zz_Run zz_prog d 40 (25, [l0, l1, some (.int v)], st, k, h) = zz_Run zz_prog d 40 (26, [l0, l1, some (.int v)], .int v :: st, k, h) := zz_k_num f40_25 rfl
theorem f40_26 : zz_fetch zz_prog 40 26 = some (.ireturn, 1, [0], []) := zz_fetch_of p40 rfl rfl
theorem s40_26 : zz_Run zz_prog d 40 (26, [l0, l1, l2], [.int v], k, h) = some (.inl (some (.int v)), k, h) := zz_k_stop f40_26 rfl rfl rfl
end S40
section S41
variable {d n j : Nat} {l0 l1 : Option Value} {st : List Value} {k : Bool} {h : zz_H} {v w v1 v2 : Int32} {y y1 : Int64} {a a1 a2 : Nat} {b0 b1 b2 b3 b4 b5 b6 b7 b8 : Value} {I : Nat → Nat → Int32} {J : Nat → Nat → Int64} {ex : List (Nat × Nat)}
theorem p41 : zz_prog 41 = some zz_m41 := rfl
theorem e41 (g0 : Nat) : zz_Call zz_prog (d + 1) 41 [.ref g0] h = zz_Run zz_prog d 41 (0, [some (.ref g0), none], [], true, h) := rfl
theorem t41 (pc : Nat) (L : List (Option Value)) : zz_th d 41 pc a L k h = some (.inr a, k, h) := zz_th_out p41 rfl
theorem f41_0 : zz_fetch zz_prog 41 0 = some (.iconst 0, 1, [], []) := zz_fetch_of p41 rfl rfl
theorem s41_0 : zz_Run zz_prog d 41 (0, [l0, l1], st, k, h) = zz_Run zz_prog d 41 (1, [l0, l1], .int 0 :: st, k, h) := zz_k_num f41_0 rfl
theorem f41_1 : zz_fetch zz_prog 41 1 = some (.istore_n 1, 1, [], []) := zz_fetch_of p41 rfl rfl
theorem s41_1 : zz_Run zz_prog d 41 (1, [l0, l1], .int v :: st, k, h) = zz_sl l0 (zz_Run zz_prog d 41 (2, [l0, some (.int v)], st, k, h)) := zz_k_st (j := 1) (u := .int v) f41_1 rfl (fun q hq => by cases hq) rfl (show 1 < 2 by decide) (by cases l0 <;> rfl) rfl
theorem f41_2 : zz_fetch zz_prog 41 2 = some (.iload_n 1, 1, [], []) := zz_fetch_of p41 rfl rfl
theorem s41_2 : zz_Run zz_prog d 41 (2, [l0, some (.int v)], st, k, h) = zz_Run zz_prog d 41 (3, [l0, some (.int v)], .int v :: st, k, h) := zz_k_num f41_2 rfl
theorem f41_3 : zz_fetch zz_prog 41 3 = some (.bipush 19, 2, [], []) := zz_fetch_of p41 rfl rfl
theorem s41_3 : zz_Run zz_prog d 41 (3, [l0, l1], st, k, h) = zz_Run zz_prog d 41 (5, [l0, l1], .int 19 :: st, k, h) := zz_k_num f41_3 (congrArg (fun u => some (5, [l0, l1], Value.int u :: st)) (by decide : (Int8.ofInt 19).toInt32 = 19))
theorem f41_5 : zz_fetch zz_prog 41 5 = some (.if_icmp .ge 21, 3, [26], []) := zz_fetch_of p41 rfl rfl
theorem s41_5 : zz_Run zz_prog d 41 (5, [l0, l1], .int w :: .int v :: st, k, h) = if w ≤ v then zz_Run zz_prog d 41 (26, [l0, l1], st, k, h) else zz_Run zz_prog d 41 (8, [l0, l1], st, k, h) := zz_k_br (w ≤ v) rfl (zz_k_num f41_5 rfl)
theorem f41_8 : zz_fetch zz_prog 41 8 = some (.aload_n 0, 1, [], []) := zz_fetch_of p41 rfl rfl
theorem s41_8 : zz_Run zz_prog d 41 (8, [some (.ref a), l1], st, k, h) = zz_Run zz_prog d 41 (9, [some (.ref a), l1], .ref a :: st, k, h) := zz_k_num f41_8 rfl
theorem f41_9 : zz_fetch zz_prog 41 9 = some (.getfield 9, 3, [1, 0, 3], []) := zz_fetch_of p41 rfl rfl
theorem s41_9 : zz_Run zz_prog d 41 (9, [l0, l1], .ref 5 :: st, k, (zz_hp n I J ex)) = zz_Run zz_prog d 41 (12, [l0, l1], .ref 6 :: st, k, (zz_hp n I J ex)) := zz_k_go f41_9 rfl rfl rfl
theorem f41_12 : zz_fetch zz_prog 41 12 = some (.iload_n 1, 1, [], []) := zz_fetch_of p41 rfl rfl
theorem s41_12 : zz_Run zz_prog d 41 (12, [l0, some (.int v)], st, k, h) = zz_Run zz_prog d 41 (13, [l0, some (.int v)], .int v :: st, k, h) := zz_k_num f41_12 rfl
theorem f41_13 : zz_fetch zz_prog 41 13 = some (.iaload, 1, [], []) := zz_fetch_of p41 rfl rfl
theorem s41_13 (ha : zz_isrd a = true) : zz_Run zz_prog d 41 (13, [l0, l1], .int v :: .ref a :: st, k, (zz_hp n I J ex)) = zz_ck (zz_in v (zz_ary n a)) (zz_Run zz_prog d 41 (14, [l0, l1], .int (I a v.toNatClampNeg) :: st, k, (zz_hp n I J ex))) := zz_k_iald f41_13 ha
theorem f41_14 : zz_fetch zz_prog 41 14 = some (.iconst 5, 1, [], []) := zz_fetch_of p41 rfl rfl
theorem s41_14 : zz_Run zz_prog d 41 (14, [l0, l1], st, k, h) = zz_Run zz_prog d 41 (15, [l0, l1], .int 5 :: st, k, h) := zz_k_num f41_14 rfl
theorem f41_15 : zz_fetch zz_prog 41 15 = some (.if_icmp .ne 5, 3, [20], []) := zz_fetch_of p41 rfl rfl
theorem s41_15 : zz_Run zz_prog d 41 (15, [l0, l1], .int w :: .int v :: st, k, h) = if ¬ v = w then zz_Run zz_prog d 41 (20, [l0, l1], st, k, h) else zz_Run zz_prog d 41 (18, [l0, l1], st, k, h) := zz_k_br (¬ v = w) rfl (zz_k_num f41_15 rfl)
theorem f41_18 : zz_fetch zz_prog 41 18 = some (.iload_n 1, 1, [], []) := zz_fetch_of p41 rfl rfl
theorem s41_18 : zz_Run zz_prog d 41 (18, [l0, some (.int v)], st, k, h) = zz_Run zz_prog d 41 (19, [l0, some (.int v)], .int v :: st, k, h) := zz_k_num f41_18 rfl
theorem f41_19 : zz_fetch zz_prog 41 19 = some (.ireturn, 1, [0], []) := zz_fetch_of p41 rfl rfl
theorem s41_19 : zz_Run zz_prog d 41 (19, [l0, l1], [.int v], k, h) = some (.inl (some (.int v)), k, h) := zz_k_stop f41_19 rfl rfl rfl
theorem f41_20 : zz_fetch zz_prog 41 20 = some (.iinc 1 1, 3, [], []) := zz_fetch_of p41 rfl rfl
theorem s41_20 : zz_Run zz_prog d 41 (20, [l0, some (.int v)], st, k, h) = zz_sl l0 (zz_Run zz_prog d 41 (23, [l0, some (.int (v + 1))], st, k, h)) := zz_k_st (j := 1) (u := .int (v + 1)) f41_20 rfl (fun q hq => by cases hq) rfl (show 1 < 2 by decide) (by cases l0 <;> rfl) rfl
theorem f41_23 : zz_fetch zz_prog 41 23 = some (.goto (-21), 3, [2], []) := zz_fetch_of p41 rfl rfl
theorem s41_23 : zz_Run zz_prog d 41 (23, [l0, l1], st, k, h) = zz_Run zz_prog d 41 (2, [l0, l1], st, k, h) := zz_k_num f41_23 rfl
theorem f41_26 : zz_fetch zz_prog 41 26 = some (.iconst (-1), 1, [], []) := zz_fetch_of p41 rfl rfl
theorem s41_26 : zz_Run zz_prog d 41 (26, [l0, l1], st, k, h) = zz_Run zz_prog d 41 (27, [l0, l1], .int (-1) :: st, k, h) := zz_k_num f41_26 rfl
theorem f41_27 : zz_fetch zz_prog 41 27 = some (.ireturn, 1, [0], []) := zz_fetch_of p41 rfl rfl
theorem s41_27 : zz_Run zz_prog d 41 (27, [l0, l1], [.int v], k, h) = some (.inl (some (.int v)), k, h) := zz_k_stop f41_27 rfl rfl rfl
end S41
section S42
variable {d n j : Nat} {l0 l1 l2 : Option Value} {st : List Value} {k : Bool} {h : zz_H} {v w v1 v2 : Int32} {y y1 : Int64} {a a1 a2 : Nat} {b0 b1 b2 b3 b4 b5 b6 b7 b8 : Value} {I : Nat → Nat → Int32} {J : Nat → Nat → Int64} {ex : List (Nat × Nat)}
theorem p42 : zz_prog 42 = some zz_m42 := rfl
theorem e42 (g0 : Nat) (g1 : Int32) (g2 : Int32) : zz_Call zz_prog (d + 1) 42 [.ref g0, .int g1, .int g2] h = zz_Run zz_prog d 42 (0, [some (.ref g0), some (.int g1), some (.int g2)], [], true, h) := rfl
theorem t42 (pc : Nat) (L : List (Option Value)) : zz_th d 42 pc a L k h = some (.inr a, k, h) := zz_th_out p42 rfl
theorem f42_0 : zz_fetch zz_prog 42 0 = some (.aload_n 0, 1, [], []) := zz_fetch_of p42 rfl rfl
theorem s42_0 : zz_Run zz_prog d 42 (0, [some (.ref a), l1, l2], st, k, h) = zz_Run zz_prog d 42 (1, [some (.ref a), l1, l2], .ref a :: st, k, h) := zz_k_num f42_0 rfl
theorem f42_1 : zz_fetch zz_prog 42 1 = some (.getfield 28, 3, [1, 7, 3], []) := zz_fetch_of p42 rfl rfl
theorem s42_1 : zz_Run zz_prog d 42 (1, [l0, l1, l2], .ref 5 :: st, k, (zz_hp n I J ex)) = zz_Run zz_prog d 42 (4, [l0, l1, l2], .ref 9 :: st, k, (zz_hp n I J ex)) := zz_k_go f42_1 rfl rfl rfl
theorem f42_4 : zz_fetch zz_prog 42 4 = some (.getfield 251, 3, [0, 14, 3], []) := zz_fetch_of p42 rfl rfl
theorem s42_4 : zz_Run zz_prog d 42 (4, [l0, l1, l2], .ref 9 :: st, k, (zz_hp n I J ex)) = zz_Run zz_prog d 42 (7, [l0, l1, l2], .ref 12 :: st, k, (zz_hp n I J ex)) := zz_k_go f42_4 rfl rfl rfl
theorem s42_4b : zz_Run zz_prog d 42 (4, [l0, l1, l2], .ref 16 :: st, k, (zz_hp n I J ex)) = zz_Run zz_prog d 42 (7, [l0, l1, l2], .ref 19 :: st, k, (zz_hp n I J ex)) := zz_k_go f42_4 rfl rfl rfl
theorem f42_7 : zz_fetch zz_prog 42 7 = some (.iload_n 1, 1, [], []) := zz_fetch_of p42 rfl rfl
theorem s42_7 : zz_Run zz_prog d 42 (7, [l0, some (.int v), l2], st, k, h) = zz_Run zz_prog d 42 (8, [l0, some (.int v), l2], .int v :: st, k, h) := zz_k_num f42_7 rfl
theorem f42_8 : zz_fetch zz_prog 42 8 = some (.iconst 5, 1, [], []) := zz_fetch_of p42 rfl rfl
theorem s42_8 : zz_Run zz_prog d 42 (8, [l0, l1, l2], st, k, h) = zz_Run zz_prog d 42 (9, [l0, l1, l2], .int 5 :: st, k, h) := zz_k_num f42_8 rfl
theorem f42_9 : zz_fetch zz_prog 42 9 = some (.imul, 1, [], []) := zz_fetch_of p42 rfl rfl
theorem s42_9 : zz_Run zz_prog d 42 (9, [l0, l1, l2], .int w :: .int v :: st, k, h) = zz_Run zz_prog d 42 (10, [l0, l1, l2], .int (v * w) :: st, k, h) := zz_k_num f42_9 rfl
theorem f42_10 : zz_fetch zz_prog 42 10 = some (.iload_n 2, 1, [], []) := zz_fetch_of p42 rfl rfl
theorem s42_10 : zz_Run zz_prog d 42 (10, [l0, l1, some (.int v)], st, k, h) = zz_Run zz_prog d 42 (11, [l0, l1, some (.int v)], .int v :: st, k, h) := zz_k_num f42_10 rfl
theorem f42_11 : zz_fetch zz_prog 42 11 = some (.iadd, 1, [], []) := zz_fetch_of p42 rfl rfl
theorem s42_11 : zz_Run zz_prog d 42 (11, [l0, l1, l2], .int w :: .int v :: st, k, h) = zz_Run zz_prog d 42 (12, [l0, l1, l2], .int (v + w) :: st, k, h) := zz_k_num f42_11 rfl
theorem f42_12 : zz_fetch zz_prog 42 12 = some (.iaload, 1, [], []) := zz_fetch_of p42 rfl rfl
theorem s42_12 (ha : zz_isrd a = true) : zz_Run zz_prog d 42 (12, [l0, l1, l2], .int v :: .ref a :: st, k, (zz_hp n I J ex)) = zz_ck (zz_in v (zz_ary n a)) (zz_Run zz_prog d 42 (13, [l0, l1, l2], .int (I a v.toNatClampNeg) :: st, k, (zz_hp n I J ex))) := zz_k_iald f42_12 ha
theorem f42_13 : zz_fetch zz_prog 42 13 = some (.ireturn, 1, [0], []) := zz_fetch_of p42 rfl rfl
theorem s42_13 : zz_Run zz_prog d 42 (13, [l0, l1, l2], [.int v], k, h) = some (.inl (some (.int v)), k, h) := zz_k_stop f42_13 rfl rfl rfl
end S42
section S43
variable {d n j : Nat} {l0 l1 l2 l3 : Option Value} {st : List Value} {k : Bool} {h : zz_H} {v w v1 v2 : Int32} {y y1 : Int64} {a a1 a2 : Nat} {b0 b1 b2 b3 b4 b5 b6 b7 b8 : Value} {I : Nat → Nat → Int32} {J : Nat → Nat → Int64} {ex : List (Nat × Nat)}
theorem p43 : zz_prog 43 = some zz_m43 := rfl
theorem e43 (g0 : Nat) (g1 : Int32) : zz_Call zz_prog (d + 1) 43 [.ref g0, .int g1] h = zz_Run zz_prog d 43 (0, [some (.ref g0), some (.int g1), none, none], [], true, h) := rfl
theorem t43 (pc : Nat) (L : List (Option Value)) : zz_th d 43 pc a L k h = some (.inr a, k, h) := zz_th_out p43 rfl
theorem f43_0 : zz_fetch zz_prog 43 0 = some (.iconst 0, 1, [], []) := zz_fetch_of p43 rfl rfl
theorem s43_0 : zz_Run zz_prog d 43 (0, [l0, l1, l2, l3], st, k, h) = zz_Run zz_prog d 43 (1, [l0, l1, l2, l3], .int 0 :: st, k, h) := zz_k_num f43_0 rfl
theorem f43_1 : zz_fetch zz_prog 43 1 = some (.istore_n 2, 1, [], []) := zz_fetch_of p43 rfl rfl
theorem s43_1 : zz_Run zz_prog d 43 (1, [l0, l1, l2, l3], .int v :: st, k, h) = zz_sl l1 (zz_Run zz_prog d 43 (2, [l0, l1, some (.int v), l3], st, k, h)) := zz_k_st (j := 2) (u := .int v) f43_1 rfl (fun q hq => by cases hq) rfl (show 2 < 4 by decide) (by cases l1 <;> rfl) rfl
theorem f43_2 : zz_fetch zz_prog 43 2 = some (.iconst 0, 1, [], []) := zz_fetch_of p43 rfl rfl
theorem s43_2 : zz_Run zz_prog d 43 (2, [l0, l1, l2, l3], st, k, h) = zz_Run zz_prog d 43 (3, [l0, l1, l2, l3], .int 0 :: st, k, h) := zz_k_num f43_2 rfl
theorem f43_3 : zz_fetch zz_prog 43 3 = some (.istore_n 3, 1, [], []) := zz_fetch_of p43 rfl rfl
theorem s43_3 : zz_Run zz_prog d 43 (3, [l0, l1, l2, l3], .int v :: st, k, h) = zz_sl l2 (zz_Run zz_prog d 43 (4, [l0, l1, l2, some (.int v)], st, k, h)) := zz_k_st (j := 3) (u := .int v) f43_3 rfl (fun q hq => by cases hq) rfl (show 3 < 4 by decide) (by cases l2 <;> rfl) rfl
theorem f43_4 : zz_fetch zz_prog 43 4 = some (.iload_n 3, 1, [], []) := zz_fetch_of p43 rfl rfl
theorem s43_4 : zz_Run zz_prog d 43 (4, [l0, l1, l2, some (.int v)], st, k, h) = zz_Run zz_prog d 43 (5, [l0, l1, l2, some (.int v)], .int v :: st, k, h) := zz_k_num f43_4 rfl
theorem f43_5 : zz_fetch zz_prog 43 5 = some (.iconst 5, 1, [], []) := zz_fetch_of p43 rfl rfl
theorem s43_5 : zz_Run zz_prog d 43 (5, [l0, l1, l2, l3], st, k, h) = zz_Run zz_prog d 43 (6, [l0, l1, l2, l3], .int 5 :: st, k, h) := zz_k_num f43_5 rfl
theorem f43_6 : zz_fetch zz_prog 43 6 = some (.if_icmp .ge 18, 3, [24], []) := zz_fetch_of p43 rfl rfl
theorem s43_6 : zz_Run zz_prog d 43 (6, [l0, l1, l2, l3], .int w :: .int v :: st, k, h) = if w ≤ v then zz_Run zz_prog d 43 (24, [l0, l1, l2, l3], st, k, h) else zz_Run zz_prog d 43 (9, [l0, l1, l2, l3], st, k, h) := zz_k_br (w ≤ v) rfl (zz_k_num f43_6 rfl)
theorem f43_9 : zz_fetch zz_prog 43 9 = some (.iload_n 2, 1, [], []) := zz_fetch_of p43 rfl rfl
theorem s43_9 : zz_Run zz_prog d 43 (9, [l0, l1, some (.int v), l3], st, k, h) = zz_Run zz_prog d 43 (10, [l0, l1, some (.int v), l3], .int v :: st, k, h) := zz_k_num f43_9 rfl
theorem f43_10 : zz_fetch zz_prog 43 10 = some (.aload_n 0, 1, [], []) := zz_fetch_of p43 rfl rfl
theorem s43_10 : zz_Run zz_prog d 43 (10, [some (.ref a), l1, l2, l3], st, k, h) = zz_Run zz_prog d 43 (11, [some (.ref a), l1, l2, l3], .ref a :: st, k, h) := zz_k_num f43_10 rfl
theorem f43_11 : zz_fetch zz_prog 43 11 = some (.iload_n 1, 1, [], []) := zz_fetch_of p43 rfl rfl
theorem s43_11 : zz_Run zz_prog d 43 (11, [l0, some (.int v), l2, l3], st, k, h) = zz_Run zz_prog d 43 (12, [l0, some (.int v), l2, l3], .int v :: st, k, h) := zz_k_num f43_11 rfl
theorem f43_12 : zz_fetch zz_prog 43 12 = some (.iload_n 3, 1, [], []) := zz_fetch_of p43 rfl rfl
theorem s43_12 : zz_Run zz_prog d 43 (12, [l0, l1, l2, some (.int v)], st, k, h) = zz_Run zz_prog d 43 (13, [l0, l1, l2, some (.int v)], .int v :: st, k, h) := zz_k_num f43_12 rfl
theorem f43_13 : zz_fetch zz_prog 43 13 = some (.invokevirtual 135, 3, [0, 42, 3, 1], []) := zz_fetch_of p43 rfl rfl
theorem s43_13 : zz_Run zz_prog d 43 (13, [l0, l1, l2, l3], [b0, b1, .ref 5, b3], k, (zz_hp n I J ex)) = zz_ret (zz_Call zz_prog d 42 [.ref 5, b1, b0] (zz_hp n I J ex)) (fun v k' h' => zz_Run zz_prog d 43 (16, [l0, l1, l2, l3], v.toList ++ [b3], k && k', h')) (fun a k' h' => zz_th d 43 13 a [l0, l1, l2, l3] (k && k') h') := zz_k_call f43_13 rfl rfl rfl
theorem f43_16 : zz_fetch zz_prog 43 16 = some (.iadd, 1, [], []) := zz_fetch_of p43 rfl rfl
theorem s43_16 : zz_Run zz_prog d 43 (16, [l0, l1, l2, l3], .int w :: .int v :: st, k, h) = zz_Run zz_prog d 43 (17, [l0, l1, l2, l3], .int (v + w) :: st, k, h) := zz_k_num f43_16 rfl
theorem f43_17 : zz_fetch zz_prog 43 17 = some (.istore_n 2, 1, [], []) := zz_fetch_of p43 rfl rfl
theorem s43_17 : zz_Run zz_prog d 43 (17, [l0, l1, l2, l3], .int v :: st, k, h) = zz_sl l1 (zz_Run zz_prog d 43 (18, [l0, l1, some (.int v), l3], st, k, h)) := zz_k_st (j := 2) (u := .int v) f43_17 rfl (fun q hq => by cases hq) rfl (show 2 < 4 by decide) (by cases l1 <;> rfl) rfl
theorem f43_18 : zz_fetch zz_prog 43 18 = some (.iinc 3 1, 3, [], []) := zz_fetch_of p43 rfl rfl
theorem s43_18 : zz_Run zz_prog d 43 (18, [l0, l1, l2, some (.int v)], st, k, h) = zz_sl l2 (zz_Run zz_prog d 43 (21, [l0, l1, l2, some (.int (v + 1))], st, k, h)) := zz_k_st (j := 3) (u := .int (v + 1)) f43_18 rfl (fun q hq => by cases hq) rfl (show 3 < 4 by decide) (by cases l2 <;> rfl) rfl
theorem f43_21 : zz_fetch zz_prog 43 21 = some (.goto (-17), 3, [4], []) := zz_fetch_of p43 rfl rfl
theorem s43_21 : zz_Run zz_prog d 43 (21, [l0, l1, l2, l3], st, k, h) = zz_Run zz_prog d 43 (4, [l0, l1, l2, l3], st, k, h) := zz_k_num f43_21 rfl
theorem f43_24 : zz_fetch zz_prog 43 24 = some (.iload_n 2, 1, [], []) := zz_fetch_of p43 rfl rfl
theorem s43_24 : zz_Run zz_prog d 43 (24, [l0, l1, some (.int v), l3], st, k, h) = zz_Run zz_prog d 43 (25, [l0, l1, some (.int v), l3], .int v :: st, k, h) := zz_k_num f43_24 rfl
theorem f43_25 : zz_fetch zz_prog 43 25 = some (.ireturn, 1, [0], []) := zz_fetch_of p43 rfl rfl
theorem s43_25 : zz_Run zz_prog d 43 (25, [l0, l1, l2, l3], [.int v], k, h) = some (.inl (some (.int v)), k, h) := zz_k_stop f43_25 rfl rfl rfl
end S43
section S44
variable {d n j : Nat} {l0 l1 l2 l3 l4 : Option Value} {st : List Value} {k : Bool} {h : zz_H} {v w v1 v2 : Int32} {y y1 : Int64} {a a1 a2 : Nat} {b0 b1 b2 b3 b4 b5 b6 b7 b8 : Value} {I : Nat → Nat → Int32} {J : Nat → Nat → Int64} {ex : List (Nat × Nat)}
theorem p44 : zz_prog 44 = some zz_m44 := rfl
theorem e44 (g0 : Nat) (g1 : Int32) (g2 : Int32) (g3 : Int32) (g4 : Int32) : zz_Call zz_prog (d + 1) 44 [.ref g0, .int g1, .int g2, .int g3, .int g4] h = zz_Run zz_prog d 44 (0, [some (.ref g0), some (.int g1), some (.int g2), some (.int g3), some (.int g4)], [], true, h) := rfl
theorem t44 (pc : Nat) (L : List (Option Value)) : zz_th d 44 pc a L k h = some (.inr a, k, h) := zz_th_out p44 rfl
theorem f44_0 : zz_fetch zz_prog 44 0 = some (.aload_n 0, 1, [], []) := zz_fetch_of p44 rfl rfl
theorem s44_0 : zz_Run zz_prog d 44 (0, [some (.ref a), l1, l2, l3, l4], st, k, h) = zz_Run zz_prog d 44 (1, [some (.ref a), l1, l2, l3, l4], .ref a :: st, k, h) := zz_k_num f44_0 rfl
theorem f44_1 : zz_fetch zz_prog 44 1 = some (.getfield 28, 3, [1, 7, 3], []) := zz_fetch_of p44 rfl rfl
theorem s44_1 : zz_Run zz_prog d 44 (1, [l0, l1, l2, l3, l4], .ref 5 :: st, k, (zz_hp n I J ex)) = zz_Run zz_prog d 44 (4, [l0, l1, l2, l3, l4], .ref 9 :: st, k, (zz_hp n I J ex)) := zz_k_go f44_1 rfl rfl rfl
theorem f44_4 : zz_fetch zz_prog 44 4 = some (.getfield 251, 3, [0, 14, 3], []) := zz_fetch_of p44 rfl rfl
theorem s44_4 : zz_Run zz_prog d 44 (4, [l0, l1, l2, l3, l4], .ref 9 :: st, k, (zz_hp n I J ex)) = zz_Run zz_prog d 44 (7, [l0, l1, l2, l3, l4], .ref 12 :: st, k, (zz_hp n I J ex)) := zz_k_go f44_4 rfl rfl rfl
theorem s44_4b : zz_Run zz_prog d 44 (4, [l0, l1, l2, l3, l4], .ref 16 :: st, k, (zz_hp n I J ex)) = zz_Run zz_prog d 44 (7, [l0, l1, l2, l3, l4], .ref 19 :: st, k, (zz_hp n I J ex)) := zz_k_go f44_4 rfl rfl rfl
theorem f44_7 : zz_fetch zz_prog 44 7 = some (.iload_n 1, 1, [], []) := zz_fetch_of p44 rfl rfl
theorem s44_7 : zz_Run zz_prog d 44 (7, [l0, some (.int v), l2, l3, l4], st, k, h) = zz_Run zz_prog d 44 (8, [l0, some (.int v), l2, l3, l4], .int v :: st, k, h) := zz_k_num f44_7 rfl
theorem f44_8 : zz_fetch zz_prog 44 8 = some (.iconst 5, 1, [], []) := zz_fetch_of p44 rfl rfl
theorem s44_8 : zz_Run zz_prog d 44 (8, [l0, l1, l2, l3, l4], st, k, h) = zz_Run zz_prog d 44 (9, [l0, l1, l2, l3, l4], .int 5 :: st, k, h) := zz_k_num f44_8 rfl
theorem f44_9 : zz_fetch zz_prog 44 9 = some (.imul, 1, [], []) := zz_fetch_of p44 rfl rfl
theorem s44_9 : zz_Run zz_prog d 44 (9, [l0, l1, l2, l3, l4], .int w :: .int v :: st, k, h) = zz_Run zz_prog d 44 (10, [l0, l1, l2, l3, l4], .int (v * w) :: st, k, h) := zz_k_num f44_9 rfl
theorem f44_10 : zz_fetch zz_prog 44 10 = some (.iload_n 3, 1, [], []) := zz_fetch_of p44 rfl rfl
theorem s44_10 : zz_Run zz_prog d 44 (10, [l0, l1, l2, some (.int v), l4], st, k, h) = zz_Run zz_prog d 44 (11, [l0, l1, l2, some (.int v), l4], .int v :: st, k, h) := zz_k_num f44_10 rfl
theorem f44_11 : zz_fetch zz_prog 44 11 = some (.iadd, 1, [], []) := zz_fetch_of p44 rfl rfl
theorem s44_11 : zz_Run zz_prog d 44 (11, [l0, l1, l2, l3, l4], .int w :: .int v :: st, k, h) = zz_Run zz_prog d 44 (12, [l0, l1, l2, l3, l4], .int (v + w) :: st, k, h) := zz_k_num f44_11 rfl
theorem f44_12 : zz_fetch zz_prog 44 12 = some (.dup2, 1, [], []) := zz_fetch_of p44 rfl rfl
theorem s44_12 : zz_Run zz_prog d 44 (12, [l0, l1, l2, l3, l4], .int v :: .ref a1 :: st, k, h) = zz_Run zz_prog d 44 (13, [l0, l1, l2, l3, l4], .int v :: .ref a1 :: .int v :: .ref a1 :: st, k, h) := zz_k_num f44_12 rfl
theorem f44_13 : zz_fetch zz_prog 44 13 = some (.iaload, 1, [], []) := zz_fetch_of p44 rfl rfl
theorem s44_13 (ha : zz_isrd a = true) : zz_Run zz_prog d 44 (13, [l0, l1, l2, l3, l4], .int v :: .ref a :: st, k, (zz_hp n I J ex)) = zz_ck (zz_in v (zz_ary n a)) (zz_Run zz_prog d 44 (14, [l0, l1, l2, l3, l4], .int (I a v.toNatClampNeg) :: st, k, (zz_hp n I J ex))) := zz_k_iald f44_13 ha
theorem f44_14 : zz_fetch zz_prog 44 14 = some (.iload 4, 2, [], []) := zz_fetch_of p44 rfl rfl
theorem s44_14 : zz_Run zz_prog d 44 (14, [l0, l1, l2, l3, some (.int v)], st, k, h) = zz_Run zz_prog d 44 (16, [l0, l1, l2, l3, some (.int v)], .int v :: st, k, h) := zz_k_num f44_14 rfl
theorem f44_16 : zz_fetch zz_prog 44 16 = some (.isub, 1, [], []) := zz_fetch_of p44 rfl rfl
theorem s44_16 : zz_Run zz_prog d 44 (16, [l0, l1, l2, l3, l4], .int w :: .int v :: st, k, h) = zz_Run zz_prog d 44 (17, [l0, l1, l2, l3, l4], .int (v - w) :: st, k, h) := zz_k_num f44_16 rfl
theorem f44_17 : zz_fetch zz_prog 44 17 = some (.iastore, 1, [], []) := zz_fetch_of p44 rfl rfl
theorem s44_17 (ha : zz_isar a = true) : zz_Run zz_prog d 44 (17, [l0, l1, l2, l3, l4], .int w :: .int v :: .ref a :: st, k, (zz_hp n I J ex)) = zz_ck (zz_in v (zz_ary n a)) (zz_Run zz_prog d 44 (18, [l0, l1, l2, l3, l4], st, false, (zz_hp n (zz_up I a v.toNatClampNeg w) J ex))) := zz_k_iast f44_17 ha
theorem f44_18 : zz_fetch zz_prog 44 18 = some (.aload_n 0, 1, [], []) := zz_fetch_of p44 rfl rfl
theorem s44_18 : zz_Run zz_prog d 44 (18, [some (.ref a), l1, l2, l3, l4], st, k, h) = zz_Run zz_prog d 44 (19, [some (.ref a), l1, l2, l3, l4], .ref a :: st, k, h) := zz_k_num f44_18 rfl
theorem f44_19 : zz_fetch zz_prog 44 19 = some (.getfield 28, 3, [1, 7, 3], []) := zz_fetch_of p44 rfl rfl
theorem s44_19 : zz_Run zz_prog d 44 (19, [l0, l1, l2, l3, l4], .ref 5 :: st, k, (zz_hp n I J ex)) = zz_Run zz_prog d 44 (22, [l0, l1, l2, l3, l4], .ref 9 :: st, k, (zz_hp n I J ex)) := zz_k_go f44_19 rfl rfl rfl
theorem f44_22 : zz_fetch zz_prog 44 22 = some (.getfield 251, 3, [0, 14, 3], []) := zz_fetch_of p44 rfl rfl
theorem s44_22 : zz_Run zz_prog d 44 (22, [l0, l1, l2, l3, l4], .ref 9 :: st, k, (zz_hp n I J ex)) = zz_Run zz_prog d 44 (25, [l0, l1, l2, l3, l4], .ref 12 :: st, k, (zz_hp n I J ex)) := zz_k_go f44_22 rfl rfl rfl
theorem s44_22b : zz_Run zz_prog d 44 (22, [l0, l1, l2, l3, l4], .ref 16 :: st, k, (zz_hp n I J ex)) = zz_Run zz_prog d 44 (25, [l0, l1, l2, l3, l4], .ref 19 :: st, k, (zz_hp n I J ex)) := zz_k_go f44_22 rfl rfl rfl
theorem f44_25 : zz_fetch zz_prog 44 25 = some (.iload_n 2, 1, [], []) := zz_fetch_of p44 rfl rfl
theorem s44_25 : zz_Run zz_prog d 44 (25, [l0, l1, some (.int v), l3, l4], st, k, h) = zz_Run zz_prog d 44 (26, [l0, l1, some (.int v), l3, l4], .int v :: st, k, h) := zz_k_num f44_25 rfl
theorem f44_26 : zz_fetch zz_prog 44 26 = some (.iconst 5, 1, [], []) := zz_fetch_of p44 rfl rfl
theorem s44_26 : zz_Run zz_prog d 44 (26, [l0, l1, l2, l3, l4], st, k, h) = zz_Run zz_prog d 44 (27, [l0, l1, l2, l3, l4], .int 5 :: st, k, h) := zz_k_num f44_26 rfl
theorem f44_27 : zz_fetch zz_prog 44 27 = some (.imul, 1, [], []) := zz_fetch_of p44 rfl rfl
theorem s44_27 : zz_Run zz_prog d 44 (27, [l0, l1, l2, l3, l4], .int w :: .int v :: st, k, h) = zz_Run zz_prog d 44 (28, [l0, l1, l2, l3, l4], .int (v * w) :: st, k, h) := zz_k_num f44_27 rfl
theorem f44_28 : zz_fetch zz_prog 44 28 = some (.iload_n 3, 1, [], []) := zz_fetch_of p44 rfl rfl
theorem s44_28 : zz_Run zz_prog d 44 (28, [l0, l1, l2, some (.int v), l4], st, k, h) = zz_Run zz_prog d 44 (29, [l0, l1, l2, some (.int v), l4], .int v :: st, k, h) := zz_k_num f44_28 rfl
theorem f44_29 : zz_fetch zz_prog 44 29 = some (.iadd, 1, [], []) := zz_fetch_of p44 rfl rfl
theorem s44_29 : zz_Run zz_prog d 44 (29, [l0, l1, l2, l3, l4], .int w :: .int v :: st, k, h) = zz_Run zz_prog d 44 (30, [l0, l1, l2, l3, l4], .int (v + w) :: st, k, h) := zz_k_num f44_29 rfl
theorem f44_30 : zz_fetch zz_prog 44 30 = some (.dup2, 1, [], []) := zz_fetch_of p44 rfl rfl
theorem s44_30 : zz_Run zz_prog d 44 (30, [l0, l1, l2, l3, l4], .int v :: .ref a1 :: st, k, h) = zz_Run zz_prog d 44 (31, [l0, l1, l2, l3, l4], .int v :: .ref a1 :: .int v :: .ref a1 :: st, k, h) := zz_k_num f44_30 rfl
theorem f44_31 : zz_fetch zz_prog 44 31 = some (.iaload, 1, [], []) := zz_fetch_of p44 rfl rfl
theorem s44_31 (ha : zz_isrd a = true) : zz_Run zz_prog d 44 (31, [l0, l1, l2, l3, l4], .int v :: .ref a :: st, k, (zz_hp n I J ex)) = zz_ck (zz_in v (zz_ary n a)) (zz_Run zz_prog d 44 (32, [l0, l1, l2, l3, l4], .int (I a v.toNatClampNeg) :: st, k, (zz_hp n I J ex))) := zz_k_iald f44_31 ha
theorem f44_32 : zz_fetch zz_prog 44 32 = some (.iload 4, 2, [], []) := zz_fetch_of p44 rfl rfl
theorem s44_32 : zz_Run zz_prog d 44 (32, [l0, l1, l2, l3, some (.int v)], st, k, h) = zz_Run zz_prog d 44 (34, [l0, l1, l2, l3, some (.int v)], .int v :: st, k, h) := zz_k_num f44_32 rfl
theorem f44_34 : zz_fetch zz_prog 44 34 = some (.iadd, 1, [], []) := zz_fetch_of p44 rfl rfl
theorem s44_34 : zz_Run zz_prog d 44 (34, [l0, l1, l2, l3, l4], .int w :: .int v :: st, k, h) = zz_Run zz_prog d 44 (35, [l0, l1, l2, l3, l4], .int (v + w) :: st, k, h) := zz_k_num f44_34 rfl
theorem f44_35 : zz_fetch zz_prog 44 35 = some (.iastore, 1, [], []) := zz_fetch_of p44 rfl rfl
theorem s44_35 (ha : zz_isar a = true) : zz_Run zz_prog d 44 (35, [l0, l1, l2, l3, l4], .int w :: .int v :: .ref a :: st, k, (zz_hp n I J ex)) = zz_ck (zz_in v (zz_ary n a)) (zz_Run zz_prog d 44 (36, [l0, l1, l2, l3, l4], st, false, (zz_hp n (zz_up I a v.toNatClampNeg w) J ex))) := zz_k_iast f44_35 ha
theorem f44_36 : zz_fetch zz_prog 44 36 = some (.return_, 1, [], []) := zz_fetch_of p44 rfl rfl
theorem s44_36 : zz_Run zz_prog d 44 (36, [l0, l1, l2, l3, l4], [], k, h) = some (.inl none, k, h) := zz_k_stop f44_36 rfl rfl rfl
end S44
section S45
variable {d n j : Nat} {l0 l1 l2 : Option Value} {st : List Value} {k : Bool} {h : zz_H} {v w v1 v2 : Int32} {y y1 : Int64} {a a1 a2 : Nat} {b0 b1 b2 b3 b4 b5 b6 b7 b8 : Value} {I : Nat → Nat → Int32} {J : Nat → Nat → Int64} {ex : List (Nat × Nat)}
theorem p45 : zz_prog 45 = some zz_m45 := rfl
theorem e45 (g0 : Nat) (g1 : Int32) : zz_Call zz_prog (d + 1) 45 [.ref g0, .int g1] h = zz_Run zz_prog d 45 (0, [some (.ref g0), some (.int g1), none], [], true, h) := rfl
theorem t45 (pc : Nat) (L : List (Option Value)) : zz_th d 45 pc a L k h = some (.inr a, k, h) := zz_th_out p45 rfl
theorem f45_0 : zz_fetch zz_prog 45 0 = some (.iconst 0, 1, [], []) := zz_fetch_of p45 rfl rfl
theorem s45_0 : zz_Run zz_prog d 45 (0, [l0, l1, l2], st, k, h) = zz_Run zz_prog d 45 (1, [l0, l1, l2], .int 0 :: st, k, h) := zz_k_num f45_0 rfl
theorem f45_1 : zz_fetch zz_prog 45 1 = some (.istore_n 2, 1, [], []) := zz_fetch_of p45 rfl rfl
theorem s45_1 : zz_Run zz_prog d 45 (1, [l0, l1, l2], .int v :: st, k, h) = zz_sl l1 (zz_Run zz_prog d 45 (2, [l0, l1, some (.int v)], st, k, h)) := zz_k_st (j := 2) (u := .int v) f45_1 rfl (fun q hq => by cases hq) rfl (show 2 < 3 by decide) (by cases l1 <;> rfl) rfl
theorem f45_2 : zz_fetch zz_prog 45 2 = some (.iload_n 2, 1, [], []) := zz_fetch_of p45 rfl rfl
theorem s45_2 : zz_Run zz_prog d 45 (2, [l0, l1, some (.int v)], st, k, h) = zz_Run zz_prog d 45 (3, [l0, l1, some (.int v)], .int v :: st, k, h) := zz_k_num f45_2 rfl
theorem f45_3 : zz_fetch zz_prog 45 3 = some (.iconst 5, 1, [], []) := zz_fetch_of p45 rfl rfl
theorem s45_3 : zz_Run zz_prog d 45 (3, [l0, l1, l2], st, k, h) = zz_Run zz_prog d 45 (4, [l0, l1, l2], .int 5 :: st, k, h) := zz_k_num f45_3 rfl
theorem f45_4 : zz_fetch zz_prog 45 4 = some (.if_icmp .ge 35, 3, [39], []) := zz_fetch_of p45 rfl rfl
theorem s45_4 : zz_Run zz_prog d 45 (4, [l0, l1, l2], .int w :: .int v :: st, k, h) = if w ≤ v then zz_Run zz_prog d 45 (39, [l0, l1, l2], st, k, h) else zz_Run zz_prog d 45 (7, [l0, l1, l2], st, k, h) := zz_k_br (w ≤ v) rfl (zz_k_num f45_4 rfl)
theorem f45_7 : zz_fetch zz_prog 45 7 = some (.aload_n 0, 1, [], []) := zz_fetch_of p45 rfl rfl
theorem s45_7 : zz_Run zz_prog d 45 (7, [some (.ref a), l1, l2], st, k, h) = zz_Run zz_prog d 45 (8, [some (.ref a), l1, l2], .ref a :: st, k, h) := zz_k_num f45_7 rfl
theorem f45_8 : zz_fetch zz_prog 45 8 = some (.aload_n 0, 1, [], []) := zz_fetch_of p45 rfl rfl
theorem s45_8 : zz_Run zz_prog d 45 (8, [some (.ref a), l1, l2], st, k, h) = zz_Run zz_prog d 45 (9, [some (.ref a), l1, l2], .ref a :: st, k, h) := zz_k_num f45_8 rfl
theorem f45_9 : zz_fetch zz_prog 45 9 = some (.getfield 28, 3, [1, 7, 3], []) := zz_fetch_of p45 rfl rfl
theorem s45_9 : zz_Run zz_prog d 45 (9, [l0, l1, l2], .ref 5 :: st, k, (zz_hp n I J ex)) = zz_Run zz_prog d 45 (12, [l0, l1, l2], .ref 9 :: st, k, (zz_hp n I J ex)) := zz_k_go f45_9 rfl rfl rfl
theorem f45_12 : zz_fetch zz_prog 45 12 = some (.getfield 86, 3, [0, 1, 0], []) := zz_fetch_of p45 rfl rfl
theorem s45_12 : zz_Run zz_prog d 45 (12, [l0, l1, l2], .ref 9 :: st, k, (zz_hp n I J ex)) = zz_Run zz_prog d 45 (15, [l0, l1, l2], .int (I 9 1) :: st, k, (zz_hp n I J ex)) := zz_k_go f45_12 rfl rfl rfl
theorem s45_12b : zz_Run zz_prog d 45 (12, [l0, l1, l2], .ref 16 :: st, k, (zz_hp n I J ex)) = zz_Run zz_prog d 45 (15, [l0, l1, l2], .int (I 16 1) :: st, k, (zz_hp n I J ex)) := zz_k_go f45_12 rfl rfl rfl
theorem f45_15 : zz_fetch zz_prog 45 15 = some (.iload_n 2, 1, [], []) := zz_fetch_of p45 rfl rfl
theorem s45_15 : zz_Run zz_prog d 45 (15, [l0, l1, some (.int v)], st, k, h) = zz_Run zz_prog d 45 (16, [l0, l1, some (.int v)], .int v :: st, k, h) := zz_k_num f45_15 rfl
theorem f45_16 : zz_fetch zz_prog 45 16 = some (.invokevirtual 135, 3, [0, 42, 3, 1], []) := zz_fetch_of p45 rfl rfl
theorem s45_16 : zz_Run zz_prog d 45 (16, [l0, l1, l2], [b0, b1, .ref 5], k, (zz_hp n I J ex)) = zz_ret (zz_Call zz_prog d 42 [.ref 5, b1, b0] (zz_hp n I J ex)) (fun v k' h' => zz_Run zz_prog d 45 (19, [l0, l1, l2], v.toList ++ [], k && k', h')) (fun a k' h' => zz_th d 45 16 a [l0, l1, l2] (k && k') h') := zz_k_call f45_16 rfl rfl rfl
theorem f45_19 : zz_fetch zz_prog 45 19 = some (.getstatic 254, 3, [1], []) := zz_fetch_of p45 rfl rfl
theorem s45_19 : zz_Run zz_prog d 45 (19, [l0, l1, l2], st, k, (zz_hp n I J ex)) = zz_Run zz_prog d 45 (22, [l0, l1, l2], .ref 1 :: st, k, (zz_hp n I J ex)) := zz_k_go f45_19 rfl rfl rfl
theorem f45_22 : zz_fetch zz_prog 45 22 = some (.iload_n 1, 1, [], []) := zz_fetch_of p45 rfl rfl
theorem s45_22 : zz_Run zz_prog d 45 (22, [l0, some (.int v), l2], st, k, h) = zz_Run zz_prog d 45 (23, [l0, some (.int v), l2], .int v :: st, k, h) := zz_k_num f45_22 rfl
theorem f45_23 : zz_fetch zz_prog 45 23 = some (.iconst 5, 1, [], []) := zz_fetch_of p45 rfl rfl
theorem s45_23 : zz_Run zz_prog d 45 (23, [l0, l1, l2], st, k, h) = zz_Run zz_prog d 45 (24, [l0, l1, l2], .int 5 :: st, k, h) := zz_k_num f45_23 rfl
theorem f45_24 : zz_fetch zz_prog 45 24 = some (.imul, 1, [], []) := zz_fetch_of p45 rfl rfl
theorem s45_24 : zz_Run zz_prog d 45 (24, [l0, l1, l2], .int w :: .int v :: st, k, h) = zz_Run zz_prog d 45 (25, [l0, l1, l2], .int (v * w) :: st, k, h) := zz_k_num f45_24 rfl
theorem f45_25 : zz_fetch zz_prog 45 25 = some (.iload_n 2, 1, [], []) := zz_fetch_of p45 rfl rfl
theorem s45_25 : zz_Run zz_prog d 45 (25, [l0, l1, some (.int v)], st, k, h) = zz_Run zz_prog d 45 (26, [l0, l1, some (.int v)], .int v :: st, k, h) := zz_k_num f45_25 rfl
theorem f45_26 : zz_fetch zz_prog 45 26 = some (.iadd, 1, [], []) := zz_fetch_of p45 rfl rfl
theorem s45_26 : zz_Run zz_prog d 45 (26, [l0, l1, l2], .int w :: .int v :: st, k, h) = zz_Run zz_prog d 45 (27, [l0, l1, l2], .int (v + w) :: st, k, h) := zz_k_num f45_26 rfl
theorem f45_27 : zz_fetch zz_prog 45 27 = some (.iaload, 1, [], []) := zz_fetch_of p45 rfl rfl
theorem s45_27 (ha : zz_isrd a = true) : zz_Run zz_prog d 45 (27, [l0, l1, l2], .int v :: .ref a :: st, k, (zz_hp n I J ex)) = zz_ck (zz_in v (zz_ary n a)) (zz_Run zz_prog d 45 (28, [l0, l1, l2], .int (I a v.toNatClampNeg) :: st, k, (zz_hp n I J ex))) := zz_k_iald f45_27 ha
theorem f45_28 : zz_fetch zz_prog 45 28 = some (.if_icmp .ge 5, 3, [33], []) := zz_fetch_of p45 rfl rfl
theorem s45_28 : zz_Run zz_prog d 45 (28, [l0, l1, l2], .int w :: .int v :: st, k, h) = if w ≤ v then zz_Run zz_prog d 45 (33, [l0, l1, l2], st, k, h) else zz_Run zz_prog d 45 (31, [l0, l1, l2], st, k, h) := zz_k_br (w ≤ v) rfl (zz_k_num f45_28 rfl)
theorem f45_31 : zz_fetch zz_prog 45 31 = some (.iconst 0, 1, [], []) := zz_fetch_of p45 rfl rfl
theorem s45_31 : zz_Run zz_prog d 45 (31, [l0, l1, l2], st, k, h) = zz_Run zz_prog d 45 (32, [l0, l1, l2], .int 0 :: st, k, h) := zz_k_num f45_31 rfl
theorem f45_32 : zz_fetch zz_prog 45 32 = some (.ireturn, 1, [1], []) := zz_fetch_of p45 rfl rfl
theorem s45_32 : zz_Run zz_prog d 45 (32, [l0, l1, l2], [.int v], k, h) = zz_ck (decide (v = 0 ∨ v = 1)) (some (.inl (some (.int v)), k, h)) := zz_k_retz f45_32
theorem f45_33 : zz_fetch zz_prog 45 33 = some (.iinc 2 1, 3, [], []) := zz_fetch_of p45 rfl rfl
theorem s45_33 : zz_Run zz_prog d 45 (33, [l0, l1, some (.int v)], st, k, h) = zz_sl l1 (zz_Run zz_prog d 45 (36, [l0, l1, some (.int (v + 1))], st, k, h)) := zz_k_st (j := 2) (u := .int (v + 1)) f45_33 rfl (fun q hq => by cases hq) rfl (show 2 < 3 by decide) (by cases l1 <;> rfl) rfl
theorem f45_36 : zz_fetch zz_prog 45 36 = some (.goto (-34), 3, [2], []) := zz_fetch_of p45 rfl rfl
theorem s45_36 : zz_Run zz_prog d 45 (36, [l0, l1, l2], st, k, h) = zz_Run zz_prog d 45 (2, [l0, l1, l2], st, k, h) := zz_k_num f45_36 rfl
theorem f45_39 : zz_fetch zz_prog 45 39 = some (.iconst 1, 1, [], []) := zz_fetch_of p45 rfl rfl
theorem s45_39 : zz_Run zz_prog d 45 (39, [l0, l1, l2], st, k, h) = zz_Run zz_prog d 45 (40, [l0, l1, l2], .int 1 :: st, k, h) := zz_k_num f45_39 rfl
theorem f45_40 : zz_fetch zz_prog 45 40 = some (.ireturn, 1, [1], []) := zz_fetch_of p45 rfl rfl
theorem s45_40 : zz_Run zz_prog d 45 (40, [l0, l1, l2], [.int v], k, h) = zz_ck (decide (v = 0 ∨ v = 1)) (some (.inl (some (.int v)), k, h)) := zz_k_retz f45_40
end S45
section S46
variable {d n j : Nat} {l0 l1 l2 : Option Value} {st : List Value} {k : Bool} {h : zz_H} {v w v1 v2 : Int32} {y y1 : Int64} {a a1 a2 : Nat} {b0 b1 b2 b3 b4 b5 b6 b7 b8 : Value} {I : Nat → Nat → Int32} {J : Nat → Nat → Int64} {ex : List (Nat × Nat)}
theorem p46 : zz_prog 46 = some zz_m46 := rfl
theorem e46 (g0 : Nat) (g1 : Int32) : zz_Call zz_prog (d + 1) 46 [.ref g0, .int g1] h = zz_Run zz_prog d 46 (0, [some (.ref g0), some (.int g1), none], [], true, h) := rfl
theorem t46 (pc : Nat) (L : List (Option Value)) : zz_th d 46 pc a L k h = some (.inr a, k, h) := zz_th_out p46 rfl
theorem f46_0 : zz_fetch zz_prog 46 0 = some (.iconst 0, 1, [], []) := zz_fetch_of p46 rfl rfl
theorem s46_0 : zz_Run zz_prog d 46 (0, [l0, l1, l2], st, k, h) = zz_Run zz_prog d 46 (1, [l0, l1, l2], .int 0 :: st, k, h) := zz_k_num f46_0 rfl
theorem f46_1 : zz_fetch zz_prog 46 1 = some (.istore_n 2, 1, [], []) := zz_fetch_of p46 rfl rfl
theorem s46_1 : zz_Run zz_prog d 46 (1, [l0, l1, l2], .int v :: st, k, h) = zz_sl l1 (zz_Run zz_prog d 46 (2, [l0, l1, some (.int v)], st, k, h)) := zz_k_st (j := 2) (u := .int v) f46_1 rfl (fun q hq => by cases hq) rfl (show 2 < 3 by decide) (by cases l1 <;> rfl) rfl
theorem f46_2 : zz_fetch zz_prog 46 2 = some (.iload_n 2, 1, [], []) := zz_fetch_of p46 rfl rfl
theorem s46_2 : zz_Run zz_prog d 46 (2, [l0, l1, some (.int v)], st, k, h) = zz_Run zz_prog d 46 (3, [l0, l1, some (.int v)], .int v :: st, k, h) := zz_k_num f46_2 rfl
theorem f46_3 : zz_fetch zz_prog 46 3 = some (.iconst 5, 1, [], []) := zz_fetch_of p46 rfl rfl
theorem s46_3 : zz_Run zz_prog d 46 (3, [l0, l1, l2], st, k, h) = zz_Run zz_prog d 46 (4, [l0, l1, l2], .int 5 :: st, k, h) := zz_k_num f46_3 rfl
theorem f46_4 : zz_fetch zz_prog 46 4 = some (.if_icmp .ge 31, 3, [35], []) := zz_fetch_of p46 rfl rfl
theorem s46_4 : zz_Run zz_prog d 46 (4, [l0, l1, l2], .int w :: .int v :: st, k, h) = if w ≤ v then zz_Run zz_prog d 46 (35, [l0, l1, l2], st, k, h) else zz_Run zz_prog d 46 (7, [l0, l1, l2], st, k, h) := zz_k_br (w ≤ v) rfl (zz_k_num f46_4 rfl)
theorem f46_7 : zz_fetch zz_prog 46 7 = some (.aload_n 0, 1, [], []) := zz_fetch_of p46 rfl rfl
theorem s46_7 : zz_Run zz_prog d 46 (7, [some (.ref a), l1, l2], st, k, h) = zz_Run zz_prog d 46 (8, [some (.ref a), l1, l2], .ref a :: st, k, h) := zz_k_num f46_7 rfl
theorem f46_8 : zz_fetch zz_prog 46 8 = some (.aload_n 0, 1, [], []) := zz_fetch_of p46 rfl rfl
theorem s46_8 : zz_Run zz_prog d 46 (8, [some (.ref a), l1, l2], st, k, h) = zz_Run zz_prog d 46 (9, [some (.ref a), l1, l2], .ref a :: st, k, h) := zz_k_num f46_8 rfl
theorem f46_9 : zz_fetch zz_prog 46 9 = some (.getfield 28, 3, [1, 7, 3], []) := zz_fetch_of p46 rfl rfl
theorem s46_9 : zz_Run zz_prog d 46 (9, [l0, l1, l2], .ref 5 :: st, k, (zz_hp n I J ex)) = zz_Run zz_prog d 46 (12, [l0, l1, l2], .ref 9 :: st, k, (zz_hp n I J ex)) := zz_k_go f46_9 rfl rfl rfl
theorem f46_12 : zz_fetch zz_prog 46 12 = some (.getfield 86, 3, [0, 1, 0], []) := zz_fetch_of p46 rfl rfl
theorem s46_12 : zz_Run zz_prog d 46 (12, [l0, l1, l2], .ref 9 :: st, k, (zz_hp n I J ex)) = zz_Run zz_prog d 46 (15, [l0, l1, l2], .int (I 9 1) :: st, k, (zz_hp n I J ex)) := zz_k_go f46_12 rfl rfl rfl
theorem s46_12b : zz_Run zz_prog d 46 (12, [l0, l1, l2], .ref 16 :: st, k, (zz_hp n I J ex)) = zz_Run zz_prog d 46 (15, [l0, l1, l2], .int (I 16 1) :: st, k, (zz_hp n I J ex)) := zz_k_go f46_12 rfl rfl rfl
theorem f46_15 : zz_fetch zz_prog 46 15 = some (.iconst 4, 1, [], []) := zz_fetch_of p46 rfl rfl
theorem s46_15 : zz_Run zz_prog d 46 (15, [l0, l1, l2], st, k, h) = zz_Run zz_prog d 46 (16, [l0, l1, l2], .int 4 :: st, k, h) := zz_k_num f46_15 rfl
theorem f46_16 : zz_fetch zz_prog 46 16 = some (.iload_n 2, 1, [], []) := zz_fetch_of p46 rfl rfl
theorem s46_16 : zz_Run zz_prog d 46 (16, [l0, l1, some (.int v)], st, k, h) = zz_Run zz_prog d 46 (17, [l0, l1, some (.int v)], .int v :: st, k, h) := zz_k_num f46_16 rfl
theorem f46_17 : zz_fetch zz_prog 46 17 = some (.getstatic 254, 3, [1], []) := zz_fetch_of p46 rfl rfl
theorem s46_17 : zz_Run zz_prog d 46 (17, [l0, l1, l2], st, k, (zz_hp n I J ex)) = zz_Run zz_prog d 46 (20, [l0, l1, l2], .ref 1 :: st, k, (zz_hp n I J ex)) := zz_k_go f46_17 rfl rfl rfl
theorem f46_20 : zz_fetch zz_prog 46 20 = some (.iload_n 1, 1, [], []) := zz_fetch_of p46 rfl rfl
theorem s46_20 : zz_Run zz_prog d 46 (20, [l0, some (.int v), l2], st, k, h) = zz_Run zz_prog d 46 (21, [l0, some (.int v), l2], .int v :: st, k, h) := zz_k_num f46_20 rfl
theorem f46_21 : zz_fetch zz_prog 46 21 = some (.iconst 5, 1, [], []) := zz_fetch_of p46 rfl rfl
theorem s46_21 : zz_Run zz_prog d 46 (21, [l0, l1, l2], st, k, h) = zz_Run zz_prog d 46 (22, [l0, l1, l2], .int 5 :: st, k, h) := zz_k_num f46_21 rfl
theorem f46_22 : zz_fetch zz_prog 46 22 = some (.imul, 1, [], []) := zz_fetch_of p46 rfl rfl
theorem s46_22 : zz_Run zz_prog d 46 (22, [l0, l1, l2], .int w :: .int v :: st, k, h) = zz_Run zz_prog d 46 (23, [l0, l1, l2], .int (v * w) :: st, k, h) := zz_k_num f46_22 rfl
theorem f46_23 : zz_fetch zz_prog 46 23 = some (.iload_n 2, 1, [], []) := zz_fetch_of p46 rfl rfl
theorem s46_23 : zz_Run zz_prog d 46 (23, [l0, l1, some (.int v)], st, k, h) = zz_Run zz_prog d 46 (24, [l0, l1, some (.int v)], .int v :: st, k, h) := zz_k_num f46_23 rfl
theorem f46_24 : zz_fetch zz_prog 46 24 = some (.iadd, 1, [], []) := zz_fetch_of p46 rfl rfl
theorem s46_24 : zz_Run zz_prog d 46 (24, [l0, l1, l2], .int w :: .int v :: st, k, h) = zz_Run zz_prog d 46 (25, [l0, l1, l2], .int (v + w) :: st, k, h) := zz_k_num f46_24 rfl
theorem f46_25 : zz_fetch zz_prog 46 25 = some (.iaload, 1, [], []) := zz_fetch_of p46 rfl rfl
theorem s46_25 (ha : zz_isrd a = true) : zz_Run zz_prog d 46 (25, [l0, l1, l2], .int v :: .ref a :: st, k, (zz_hp n I J ex)) = zz_ck (zz_in v (zz_ary n a)) (zz_Run zz_prog d 46 (26, [l0, l1, l2], .int (I a v.toNatClampNeg) :: st, k, (zz_hp n I J ex))) := zz_k_iald f46_25 ha
theorem f46_26 : zz_fetch zz_prog 46 26 = some (.invokevirtual 138, 3, [0, 44, 5, 1], []) := zz_fetch_of p46 rfl rfl
theorem s46_26 : zz_Run zz_prog d 46 (26, [l0, l1, l2], [b0, b1, b2, b3, .ref 5], k, (zz_hp n I J ex)) = zz_ret (zz_Call zz_prog d 44 [.ref 5, b3, b2, b1, b0] (zz_hp n I J ex)) (fun v k' h' => zz_Run zz_prog d 46 (29, [l0, l1, l2], v.toList ++ [], k && k', h')) (fun a k' h' => zz_th d 46 26 a [l0, l1, l2] (k && k') h') := zz_k_call f46_26 rfl rfl rfl
theorem f46_29 : zz_fetch zz_prog 46 29 = some (.iinc 2 1, 3, [], []) := zz_fetch_of p46 rfl rfl
theorem s46_29 : zz_Run zz_prog d 46 (29, [l0, l1, some (.int v)], st, k, h) = zz_sl l1 (zz_Run zz_prog d 46 (32, [l0, l1, some (.int (v + 1))], st, k, h)) := zz_k_st (j := 2) (u := .int (v + 1)) f46_29 rfl (fun q hq => by cases hq) rfl (show 2 < 3 by decide) (by cases l1 <;> rfl) rfl
theorem f46_32 : zz_fetch zz_prog 46 32 = some (.goto (-30), 3, [2], []) := zz_fetch_of p46 rfl rfl
theorem s46_32 : zz_Run zz_prog d 46 (32, [l0, l1, l2], st, k, h) = zz_Run zz_prog d 46 (2, [l0, l1, l2], st, k, h) := zz_k_num f46_32 rfl
theorem f46_35 : zz_fetch zz_prog 46 35 = some (.return_, 1, [], []) := zz_fetch_of p46 rfl rfl
theorem s46_35 : zz_Run zz_prog d 46 (35, [l0, l1, l2], [], k, h) = some (.inl none, k, h) := zz_k_stop f46_35 rfl rfl rfl
end S46
section S47
variable {d n j : Nat} {l0 l1 : Option Value} {st : List Value} {k : Bool} {h : zz_H} {v w v1 v2 : Int32} {y y1 : Int64} {a a1 a2 : Nat} {b0 b1 b2 b3 b4 b5 b6 b7 b8 : Value} {I : Nat → Nat → Int32} {J : Nat → Nat → Int64} {ex : List (Nat × Nat)}
theorem p47 : zz_prog 47 = some zz_m47 := rfl
theorem e47 (g0 : Int32) (g1 : Int32) : zz_Call zz_prog (d + 1) 47 [.int g0, .int g1] h = zz_Run zz_prog d 47 (0, [some (.int g0), some (.int g1)], [], true, h) := rfl
theorem t47 (pc : Nat) (L : List (Option Value)) : zz_th d 47 pc a L k h = some (.inr a, k, h) := zz_th_out p47 rfl
theorem f47_0 : zz_fetch zz_prog 47 0 = some (.iload_n 0, 1, [], []) := zz_fetch_of p47 rfl rfl
theorem s47_0 : zz_Run zz_prog d 47 (0, [some (.int v), l1], st, k, h) = zz_Run zz_prog d 47 (1, [some (.int v), l1], .int v :: st, k, h) := zz_k_num f47_0 rfl
theorem f47_1 : zz_fetch zz_prog 47 1 = some (.iload_n 1, 1, [], []) := zz_fetch_of p47 rfl rfl
theorem s47_1 : zz_Run zz_prog d 47 (1, [l0, some (.int v)], st, k, h) = zz_Run zz_prog d 47 (2, [l0, some (.int v)], .int v :: st, k, h) := zz_k_num f47_1 rfl
theorem f47_2 : zz_fetch zz_prog 47 2 = some (.iconst 4, 1, [], []) := zz_fetch_of p47 rfl rfl
theorem s47_2 : zz_Run zz_prog d 47 (2, [l0, l1], st, k, h) = zz_Run zz_prog d 47 (3, [l0, l1], .int 4 :: st, k, h) := zz_k_num f47_2 rfl
theorem f47_3 : zz_fetch zz_prog 47 3 = some (.imul, 1, [], []) := zz_fetch_of p47 rfl rfl
theorem s47_3 : zz_Run zz_prog d 47 (3, [l0, l1], .int w :: .int v :: st, k, h) = zz_Run zz_prog d 47 (4, [l0, l1], .int (v * w) :: st, k, h) := zz_k_num f47_3 rfl
theorem f47_4 : zz_fetch zz_prog 47 4 = some (.ishr, 1, [], []) := zz_fetch_of p47 rfl rfl
theorem s47_4 : zz_Run zz_prog d 47 (4, [l0, l1], .int w :: .int v :: st, k, h) = zz_Run zz_prog d 47 (5, [l0, l1], .int (v >>> (w &&& 31)) :: st, k, h) := zz_k_num f47_4 rfl
theorem f47_5 : zz_fetch zz_prog 47 5 = some (.bipush 15, 2, [], []) := zz_fetch_of p47 rfl rfl
theorem s47_5 : zz_Run zz_prog d 47 (5, [l0, l1], st, k, h) = zz_Run zz_prog d 47 (7, [l0, l1], .int 15 :: st, k, h) := zz_k_num f47_5 (congrArg (fun u => some (7, [l0, l1], Value.int u :: st)) (by decide : (Int8.ofInt 15).toInt32 = 15))
theorem f47_7 : zz_fetch zz_prog 47 7 = some (.iand, 1, [], []) := zz_fetch_of p47 rfl rfl
theorem s47_7 : zz_Run zz_prog d 47 (7, [l0, l1], .int w :: .int v :: st, k, h) = zz_Run zz_prog d 47 (8, [l0, l1], .int (v &&& w) :: st, k, h) := zz_k_num f47_7 rfl
theorem f47_8 : zz_fetch zz_prog 47 8 = some (.ireturn, 1, [0], []) := zz_fetch_of p47 rfl rfl
theorem s47_8 : zz_Run zz_prog d 47 (8, [l0, l1], [.int v], k, h) = some (.inl (some (.int v)), k, h) := zz_k_stop f47_8 rfl rfl rfl
end S47
section S48
variable {d n j : Nat} {l0 l1 l2 l3 : Option Value} {st : List Value} {k : Bool} {h : zz_H} {v w v1 v2 : Int32} {y y1 : Int64} {a a1 a2 : Nat} {b0 b1 b2 b3 b4 b5 b6 b7 b8 : Value} {I : Nat → Nat → Int32} {J : Nat → Nat → Int64} {ex : List (Nat × Nat)}
theorem p48 : zz_prog 48 = some zz_m48 := rfl
theorem e48 (g0 : Nat) (g1 : Int32) (g2 : Int32) : zz_Call zz_prog (d + 1) 48 [.ref g0, .int g1, .int g2] h = zz_Run zz_prog d 48 (0, [some (.ref g0), some (.int g1), some (.int g2), none], [], true, h) := rfl
theorem t48 (pc : Nat) (L : List (Option Value)) : zz_th d 48 pc a L k h = some (.inr a, k, h) := zz_th_out p48 rfl
theorem f48_0 : zz_fetch zz_prog 48 0 = some (.iconst 0, 1, [], []) := zz_fetch_of p48 rfl rfl
theorem s48_0 : zz_Run zz_prog d 48 (0, [l0, l1, l2, l3], st, k, h) = zz_Run zz_prog d 48 (1, [l0, l1, l2, l3], .int 0 :: st, k, h) := zz_k_num f48_0 rfl
theorem f48_1 : zz_fetch zz_prog 48 1 = some (.istore_n 3, 1, [], []) := zz_fetch_of p48 rfl rfl
theorem s48_1 : zz_Run zz_prog d 48 (1, [l0, l1, l2, l3], .int v :: st, k, h) = zz_sl l2 (zz_Run zz_prog d 48 (2, [l0, l1, l2, some (.int v)], st, k, h)) := zz_k_st (j := 3) (u := .int v) f48_1 rfl (fun q hq => by cases hq) rfl (show 3 < 4 by decide) (by cases l2 <;> rfl) rfl
theorem f48_2 : zz_fetch zz_prog 48 2 = some (.iload_n 3, 1, [], []) := zz_fetch_of p48 rfl rfl
theorem s48_2 : zz_Run zz_prog d 48 (2, [l0, l1, l2, some (.int v)], st, k, h) = zz_Run zz_prog d 48 (3, [l0, l1, l2, some (.int v)], .int v :: st, k, h) := zz_k_num f48_2 rfl
theorem f48_3 : zz_fetch zz_prog 48 3 = some (.iconst 5, 1, [], []) := zz_fetch_of p48 rfl rfl
theorem s48_3 : zz_Run zz_prog d 48 (3, [l0, l1, l2, l3], st, k, h) = zz_Run zz_prog d 48 (4, [l0, l1, l2, l3], .int 5 :: st, k, h) := zz_k_num f48_3 rfl
theorem f48_4 : zz_fetch zz_prog 48 4 = some (.if_icmp .ge 25, 3, [29], []) := zz_fetch_of p48 rfl rfl
theorem s48_4 : zz_Run zz_prog d 48 (4, [l0, l1, l2, l3], .int w :: .int v :: st, k, h) = if w ≤ v then zz_Run zz_prog d 48 (29, [l0, l1, l2, l3], st, k, h) else zz_Run zz_prog d 48 (7, [l0, l1, l2, l3], st, k, h) := zz_k_br (w ≤ v) rfl (zz_k_num f48_4 rfl)
theorem f48_7 : zz_fetch zz_prog 48 7 = some (.aload_n 0, 1, [], []) := zz_fetch_of p48 rfl rfl
theorem s48_7 : zz_Run zz_prog d 48 (7, [some (.ref a), l1, l2, l3], st, k, h) = zz_Run zz_prog d 48 (8, [some (.ref a), l1, l2, l3], .ref a :: st, k, h) := zz_k_num f48_7 rfl
theorem f48_8 : zz_fetch zz_prog 48 8 = some (.iload_n 1, 1, [], []) := zz_fetch_of p48 rfl rfl
theorem s48_8 : zz_Run zz_prog d 48 (8, [l0, some (.int v), l2, l3], st, k, h) = zz_Run zz_prog d 48 (9, [l0, some (.int v), l2, l3], .int v :: st, k, h) := zz_k_num f48_8 rfl
theorem f48_9 : zz_fetch zz_prog 48 9 = some (.iload_n 3, 1, [], []) := zz_fetch_of p48 rfl rfl
theorem s48_9 : zz_Run zz_prog d 48 (9, [l0, l1, l2, some (.int v)], st, k, h) = zz_Run zz_prog d 48 (10, [l0, l1, l2, some (.int v)], .int v :: st, k, h) := zz_k_num f48_9 rfl
theorem f48_10 : zz_fetch zz_prog 48 10 = some (.invokevirtual 135, 3, [0, 42, 3, 1], []) := zz_fetch_of p48 rfl rfl
theorem s48_10 : zz_Run zz_prog d 48 (10, [l0, l1, l2, l3], [b0, b1, .ref 5], k, (zz_hp n I J ex)) = zz_ret (zz_Call zz_prog d 42 [.ref 5, b1, b0] (zz_hp n I J ex)) (fun v k' h' => zz_Run zz_prog d 48 (13, [l0, l1, l2, l3], v.toList ++ [], k && k', h')) (fun a k' h' => zz_th d 48 10 a [l0, l1, l2, l3] (k && k') h') := zz_k_call f48_10 rfl rfl rfl
theorem f48_13 : zz_fetch zz_prog 48 13 = some (.iload_n 2, 1, [], []) := zz_fetch_of p48 rfl rfl
theorem s48_13 : zz_Run zz_prog d 48 (13, [l0, l1, some (.int v), l3], st, k, h) = zz_Run zz_prog d 48 (14, [l0, l1, some (.int v), l3], .int v :: st, k, h) := zz_k_num f48_13 rfl
theorem f48_14 : zz_fetch zz_prog 48 14 = some (.iload_n 3, 1, [], []) := zz_fetch_of p48 rfl rfl
theorem s48_14 : zz_Run zz_prog d 48 (14, [l0, l1, l2, some (.int v)], st, k, h) = zz_Run zz_prog d 48 (15, [l0, l1, l2, some (.int v)], .int v :: st, k, h) := zz_k_num f48_14 rfl
theorem f48_15 : zz_fetch zz_prog 48 15 = some (.invokestatic 257, 3, [0, 47, 2], []) := zz_fetch_of p48 rfl rfl
theorem s48_15 : zz_Run zz_prog d 48 (15, [l0, l1, l2, l3], [b0, b1, b2], k, h) = zz_ret (zz_Call zz_prog d 47 [b1, b0] h) (fun v k' h' => zz_Run zz_prog d 48 (18, [l0, l1, l2, l3], v.toList ++ [b2], k && k', h')) (fun a k' h' => zz_th d 48 15 a [l0, l1, l2, l3] (k && k') h') := zz_k_call f48_15 rfl rfl rfl
theorem f48_18 : zz_fetch zz_prog 48 18 = some (.if_icmp .ge 5, 3, [23], []) := zz_fetch_of p48 rfl rfl
theorem s48_18 : zz_Run zz_prog d 48 (18, [l0, l1, l2, l3], .int w :: .int v :: st, k, h) = if w ≤ v then zz_Run zz_prog d 48 (23, [l0, l1, l2, l3], st, k, h) else zz_Run zz_prog d 48 (21, [l0, l1, l2, l3], st, k, h) := zz_k_br (w ≤ v) rfl (zz_k_num f48_18 rfl)
theorem f48_21 : zz_fetch zz_prog 48 21 = some (.iconst 0, 1, [], []) := zz_fetch_of p48 rfl rfl
theorem s48_21 : zz_Run zz_prog d 48 (21, [l0, l1, l2, l3], st, k, h) = zz_Run zz_prog d 48 (22, [l0, l1, l2, l3], .int 0 :: st, k, h) := zz_k_num f48_21 rfl
theorem f48_22 : zz_fetch zz_prog 48 22 = some (.ireturn, 1, [1], []) := zz_fetch_of p48 rfl rfl
theorem s48_22 : zz_Run zz_prog d 48 (22, [l0, l1, l2, l3], [.int v], k, h) = zz_ck (decide (v = 0 ∨ v = 1)) (some (.inl (some (.int v)), k, h)) := zz_k_retz f48_22
theorem f48_23 : zz_fetch zz_prog 48 23 = some (.iinc 3 1, 3, [], []) := zz_fetch_of p48 rfl rfl
theorem s48_23 : zz_Run zz_prog d 48 (23, [l0, l1, l2, some (.int v)], st, k, h) = zz_sl l2 (zz_Run zz_prog d 48 (26, [l0, l1, l2, some (.int (v + 1))], st, k, h)) := zz_k_st (j := 3) (u := .int (v + 1)) f48_23 rfl (fun q hq => by cases hq) rfl (show 3 < 4 by decide) (by cases l2 <;> rfl) rfl
theorem f48_26 : zz_fetch zz_prog 48 26 = some (.goto (-24), 3, [2], []) := zz_fetch_of p48 rfl rfl
theorem s48_26 : zz_Run zz_prog d 48 (26, [l0, l1, l2, l3], st, k, h) = zz_Run zz_prog d 48 (2, [l0, l1, l2, l3], st, k, h) := zz_k_num f48_26 rfl
theorem f48_29 : zz_fetch zz_prog 48 29 = some (.iconst 1, 1, [], []) := zz_fetch_of p48 rfl rfl
theorem s48_29 : zz_Run zz_prog d 48 (29, [l0, l1, l2, l3], st, k, h) = zz_Run zz_prog d 48 (30, [l0, l1, l2, l3], .int 1 :: st, k, h) := zz_k_num f48_29 rfl
theorem f48_30 : zz_fetch zz_prog 48 30 = some (.ireturn, 1, [1], []) := zz_fetch_of p48 rfl rfl
theorem s48_30 : zz_Run zz_prog d 48 (30, [l0, l1, l2, l3], [.int v], k, h) = zz_ck (decide (v = 0 ∨ v = 1)) (some (.inl (some (.int v)), k, h)) := zz_k_retz f48_30
end S48
section S49
variable {d n j : Nat} {l0 l1 l2 l3 l4 l5 l6 : Option Value} {st : List Value} {k : Bool} {h : zz_H} {v w v1 v2 : Int32} {y y1 : Int64} {a a1 a2 : Nat} {b0 b1 b2 b3 b4 b5 b6 b7 b8 : Value} {I : Nat → Nat → Int32} {J : Nat → Nat → Int64} {ex : List (Nat × Nat)}
theorem p49 : zz_prog 49 = some zz_m49 := rfl
theorem e49 (g0 : Nat) (g1 : Int32) (g2 : Int32) (g3 : Int32) : zz_Call zz_prog (d + 1) 49 [.ref g0, .int g1, .int g2, .int g3] h = zz_Run zz_prog d 49 (0, [some (.ref g0), some (.int g1), some (.int g2), some (.int g3), none, none, none], [], true, h) := rfl
theorem t49 (pc : Nat) (L : List (Option Value)) : zz_th d 49 pc a L k h = some (.inr a, k, h) := zz_th_out p49 rfl
theorem f49_0 : zz_fetch zz_prog 49 0 = some (.iconst 0, 1, [], []) := zz_fetch_of p49 rfl rfl
theorem s49_0 : zz_Run zz_prog d 49 (0, [l0, l1, l2, l3, l4, l5, l6], st, k, h) = zz_Run zz_prog d 49 (1, [l0, l1, l2, l3, l4, l5, l6], .int 0 :: st, k, h) := zz_k_num f49_0 rfl
theorem f49_1 : zz_fetch zz_prog 49 1 = some (.istore 4, 2, [], []) := zz_fetch_of p49 rfl rfl
theorem s49_1 : zz_Run zz_prog d 49 (1, [l0, l1, l2, l3, l4, l5, l6], .int v :: st, k, h) = zz_sl l3 (zz_Run zz_prog d 49 (3, [l0, l1, l2, l3, some (.int v), l5, l6], st, k, h)) := zz_k_st (j := 4) (u := .int v) f49_1 rfl (fun q hq => by cases hq) rfl (show 4 < 7 by decide) (by cases l3 <;> rfl) rfl
theorem f49_3 : zz_fetch zz_prog 49 3 = some (.iconst 0, 1, [], []) := zz_fetch_of p49 rfl rfl
theorem s49_3 : zz_Run zz_prog d 49 (3, [l0, l1, l2, l3, l4, l5, l6], st, k, h) = zz_Run zz_prog d 49 (4, [l0, l1, l2, l3, l4, l5, l6], .int 0 :: st, k, h) := zz_k_num f49_3 rfl
theorem f49_4 : zz_fetch zz_prog 49 4 = some (.istore 5, 2, [], []) := zz_fetch_of p49 rfl rfl
theorem s49_4 : zz_Run zz_prog d 49 (4, [l0, l1, l2, l3, l4, l5, l6], .int v :: st, k, h) = zz_sl l4 (zz_Run zz_prog d 49 (6, [l0, l1, l2, l3, l4, some (.int v), l6], st, k, h)) := zz_k_st (j := 5) (u := .int v) f49_4 rfl (fun q hq => by cases hq) rfl (show 5 < 7 by decide) (by cases l4 <;> rfl) rfl
theorem f49_6 : zz_fetch zz_prog 49 6 = some (.iload 5, 2, [], []) := zz_fetch_of p49 rfl rfl
theorem s49_6 : zz_Run zz_prog d 49 (6, [l0, l1, l2, l3, l4, some (.int v), l6], st, k, h) = zz_Run zz_prog d 49 (8, [l0, l1, l2, l3, l4, some (.int v), l6], .int v :: st, k, h) := zz_k_num f49_6 rfl
theorem f49_8 : zz_fetch zz_prog 49 8 = some (.iconst 5, 1, [], []) := zz_fetch_of p49 rfl rfl
theorem s49_8 : zz_Run zz_prog d 49 (8, [l0, l1, l2, l3, l4, l5, l6], st, k, h) = zz_Run zz_prog d 49 (9, [l0, l1, l2, l3, l4, l5, l6], .int 5 :: st, k, h) := zz_k_num f49_8 rfl
theorem f49_9 : zz_fetch zz_prog 49 9 = some (.if_icmp .ge 34, 3, [43], []) := zz_fetch_of p49 rfl rfl
theorem s49_9 : zz_Run zz_prog d 49 (9, [l0, l1, l2, l3, l4, l5, l6], .int w :: .int v :: st, k, h) = if w ≤ v then zz_Run zz_prog d 49 (43, [l0, l1, l2, l3, l4, l5, l6], st, k, h) else zz_Run zz_prog d 49 (12, [l0, l1, l2, l3, l4, l5, l6], st, k, h) := zz_k_br (w ≤ v) rfl (zz_k_num f49_9 rfl)
theorem f49_12 : zz_fetch zz_prog 49 12 = some (.iload_n 3, 1, [], []) := zz_fetch_of p49 rfl rfl
theorem s49_12 : zz_Run zz_prog d 49 (12, [l0, l1, l2, some (.int v), l4, l5, l6], st, k, h) = zz_Run zz_prog d 49 (13, [l0, l1, l2, some (.int v), l4, l5, l6], .int v :: st, k, h) := zz_k_num f49_12 rfl
theorem f49_13 : zz_fetch zz_prog 49 13 = some (.iload 5, 2, [], []) := zz_fetch_of p49 rfl rfl
theorem s49_13 : zz_Run zz_prog d 49 (13, [l0, l1, l2, l3, l4, some (.int v), l6], st, k, h) = zz_Run zz_prog d 49 (15, [l0, l1, l2, l3, l4, some (.int v), l6], .int v :: st, k, h) := zz_k_num f49_13 rfl
theorem f49_15 : zz_fetch zz_prog 49 15 = some (.invokestatic 257, 3, [0, 47, 2], []) := zz_fetch_of p49 rfl rfl
theorem s49_15 : zz_Run zz_prog d 49 (15, [l0, l1, l2, l3, l4, l5, l6], [b0, b1], k, h) = zz_ret (zz_Call zz_prog d 47 [b1, b0] h) (fun v k' h' => zz_Run zz_prog d 49 (18, [l0, l1, l2, l3, l4, l5, l6], v.toList ++ [], k && k', h')) (fun a k' h' => zz_th d 49 15 a [l0, l1, l2, l3, l4, l5, l6] (k && k') h') := zz_k_call f49_15 rfl rfl rfl
theorem f49_18 : zz_fetch zz_prog 49 18 = some (.istore 6, 2, [], []) := zz_fetch_of p49 rfl rfl
theorem s49_18 : zz_Run zz_prog d 49 (18, [l0, l1, l2, l3, l4, l5, l6], .int v :: st, k, h) = zz_sl l5 (zz_Run zz_prog d 49 (20, [l0, l1, l2, l3, l4, l5, some (.int v)], st, k, h)) := zz_k_st (j := 6) (u := .int v) f49_18 rfl (fun q hq => by cases hq) rfl (show 6 < 7 by decide) (by cases l5 <;> rfl) rfl
theorem f49_20 : zz_fetch zz_prog 49 20 = some (.aload_n 0, 1, [], []) := zz_fetch_of p49 rfl rfl
theorem s49_20 : zz_Run zz_prog d 49 (20, [some (.ref a), l1, l2, l3, l4, l5, l6], st, k, h) = zz_Run zz_prog d 49 (21, [some (.ref a), l1, l2, l3, l4, l5, l6], .ref a :: st, k, h) := zz_k_num f49_20 rfl
theorem f49_21 : zz_fetch zz_prog 49 21 = some (.iload_n 1, 1, [], []) := zz_fetch_of p49 rfl rfl
theorem s49_21 : zz_Run zz_prog d 49 (21, [l0, some (.int v), l2, l3, l4, l5, l6], st, k, h) = zz_Run zz_prog d 49 (22, [l0, some (.int v), l2, l3, l4, l5, l6], .int v :: st, k, h) := zz_k_num f49_21 rfl
theorem f49_22 : zz_fetch zz_prog 49 22 = some (.iload_n 2, 1, [], []) := zz_fetch_of p49 rfl rfl
theorem s49_22 : zz_Run zz_prog d 49 (22, [l0, l1, some (.int v), l3, l4, l5, l6], st, k, h) = zz_Run zz_prog d 49 (23, [l0, l1, some (.int v), l3, l4, l5, l6], .int v :: st, k, h) := zz_k_num f49_22 rfl
theorem f49_23 : zz_fetch zz_prog 49 23 = some (.iload 5, 2, [], []) := zz_fetch_of p49 rfl rfl
theorem s49_23 : zz_Run zz_prog d 49 (23, [l0, l1, l2, l3, l4, some (.int v), l6], st, k, h) = zz_Run zz_prog d 49 (25, [l0, l1, l2, l3, l4, some (.int v), l6], .int v :: st, k, h) := zz_k_num f49_23 rfl
theorem f49_25 : zz_fetch zz_prog 49 25 = some (.iload 6, 2, [], []) := zz_fetch_of p49 rfl rfl
theorem s49_25 : zz_Run zz_prog d 49 (25, [l0, l1, l2, l3, l4, l5, some (.int v)], st, k, h) = zz_Run zz_prog d 49 (27, [l0, l1, l2, l3, l4, l5, some (.int v)], .int v :: st, k, h) := zz_k_num f49_25 rfl
theorem f49_27 : zz_fetch zz_prog 49 27 = some (.invokevirtual 138, 3, [0, 44, 5, 1], []) := zz_fetch_of p49 rfl rfl
theorem s49_27 : zz_Run zz_prog d 49 (27, [l0, l1, l2, l3, l4, l5, l6], [b0, b1, b2, b3, .ref 5], k, (zz_hp n I J ex)) = zz_ret (zz_Call zz_prog d 44 [.ref 5, b3, b2, b1, b0] (zz_hp n I J ex)) (fun v k' h' => zz_Run zz_prog d 49 (30, [l0, l1, l2, l3, l4, l5, l6], v.toList ++ [], k && k', h')) (fun a k' h' => zz_th d 49 27 a [l0, l1, l2, l3, l4, l5, l6] (k && k') h') := zz_k_call f49_27 rfl rfl rfl
theorem f49_30 : zz_fetch zz_prog 49 30 = some (.iload 4, 2, [], []) := zz_fetch_of p49 rfl rfl
theorem s49_30 : zz_Run zz_prog d 49 (30, [l0, l1, l2, l3, some (.int v), l5, l6], st, k, h) = zz_Run zz_prog d 49 (32, [l0, l1, l2, l3, some (.int v), l5, l6], .int v :: st, k, h) := zz_k_num f49_30 rfl
theorem f49_32 : zz_fetch zz_prog 49 32 = some (.iload 6, 2, [], []) := zz_fetch_of p49 rfl rfl
theorem s49_32 : zz_Run zz_prog d 49 (32, [l0, l1, l2, l3, l4, l5, some (.int v)], st, k, h) = zz_Run zz_prog d 49 (34, [l0, l1, l2, l3, l4, l5, some (.int v)], .int v :: st, k, h) := zz_k_num f49_32 rfl
theorem f49_34 : zz_fetch zz_prog 49 34 = some (.iadd, 1, [], []) := zz_fetch_of p49 rfl rfl
theorem s49_34 : zz_Run zz_prog d 49 (34, [l0, l1, l2, l3, l4, l5, l6], .int w :: .int v :: st, k, h) = zz_Run zz_prog d 49 (35, [l0, l1, l2, l3, l4, l5, l6], .int (v + w) :: st, k, h) := zz_k_num f49_34 rfl
theorem f49_35 : zz_fetch zz_prog 49 35 = some (.istore 4, 2, [], []) := zz_fetch_of p49 rfl rfl
theorem s49_35 : zz_Run zz_prog d 49 (35, [l0, l1, l2, l3, l4, l5, l6], .int v :: st, k, h) = zz_sl l3 (zz_Run zz_prog d 49 (37, [l0, l1, l2, l3, some (.int v), l5, l6], st, k, h)) := zz_k_st (j := 4) (u := .int v) f49_35 rfl (fun q hq => by cases hq) rfl (show 4 < 7 by decide) (by cases l3 <;> rfl) rfl
theorem f49_37 : zz_fetch zz_prog 49 37 = some (.iinc 5 1, 3, [], []) := zz_fetch_of p49 rfl rfl
theorem s49_37 : zz_Run zz_prog d 49 (37, [l0, l1, l2, l3, l4, some (.int v), l6], st, k, h) = zz_sl l4 (zz_Run zz_prog d 49 (40, [l0, l1, l2, l3, l4, some (.int (v + 1)), l6], st, k, h)) := zz_k_st (j := 5) (u := .int (v + 1)) f49_37 rfl (fun q hq => by cases hq) rfl (show 5 < 7 by decide) (by cases l4 <;> rfl) rfl
theorem f49_40 : zz_fetch zz_prog 49 40 = some (.goto (-34), 3, [6], []) := zz_fetch_of p49 rfl rfl
theorem s49_40 : zz_Run zz_prog d 49 (40, [l0, l1, l2, l3, l4, l5, l6], st, k, h) = zz_Run zz_prog d 49 (6, [l0, l1, l2, l3, l4, l5, l6], st, k, h) := zz_k_num f49_40 rfl
theorem f49_43 : zz_fetch zz_prog 49 43 = some (.iload 4, 2, [], []) := zz_fetch_of p49 rfl rfl
theorem s49_43 : zz_Run zz_prog d 49 (43, [l0, l1, l2, l3, some (.int v), l5, l6], st, k, h) = zz_Run zz_prog d 49 (45, [l0, l1, l2, l3, some (.int v), l5, l6], .int v :: st, k, h) := zz_k_num f49_43 rfl
theorem f49_45 : zz_fetch zz_prog 49 45 = some (.ireturn, 1, [0], []) := zz_fetch_of p49 rfl rfl
theorem s49_45 : zz_Run zz_prog d 49 (45, [l0, l1, l2, l3, l4, l5, l6], [.int v], k, h) = some (.inl (some (.int v)), k, h) := zz_k_stop f49_45 rfl rfl rfl
end S49
section S50
variable {d n j : Nat} {l0 l1 l2 l3 : Option Value} {st : List Value} {k : Bool} {h : zz_H} {v w v1 v2 : Int32} {y y1 : Int64} {a a1 a2 : Nat} {b0 b1 b2 b3 b4 b5 b6 b7 b8 : Value} {I : Nat → Nat → Int32} {J : Nat → Nat → Int64} {ex : List (Nat × Nat)}
theorem p50 : zz_prog 50 = some zz_m50 := rfl
theorem e50 (g0 : Nat) (g1 : Int32) : zz_Call zz_prog (d + 1) 50 [.ref g0, .int g1] h = zz_Run zz_prog d 50 (0, [some (.ref g0), some (.int g1), none, none], [], true, h) := rfl
theorem t50 (pc : Nat) (L : List (Option Value)) : zz_th d 50 pc a L k h = some (.inr a, k, h) := zz_th_out p50 rfl
theorem f50_0 : zz_fetch zz_prog 50 0 = some (.iconst 4, 1, [], []) := zz_fetch_of p50 rfl rfl
theorem s50_0 : zz_Run zz_prog d 50 (0, [l0, l1, l2, l3], st, k, h) = zz_Run zz_prog d 50 (1, [l0, l1, l2, l3], .int 4 :: st, k, h) := zz_k_num f50_0 rfl
theorem f50_1 : zz_fetch zz_prog 50 1 = some (.istore_n 2, 1, [], []) := zz_fetch_of p50 rfl rfl
theorem s50_1 : zz_Run zz_prog d 50 (1, [l0, l1, l2, l3], .int v :: st, k, h) = zz_sl l1 (zz_Run zz_prog d 50 (2, [l0, l1, some (.int v), l3], st, k, h)) := zz_k_st (j := 2) (u := .int v) f50_1 rfl (fun q hq => by cases hq) rfl (show 2 < 4 by decide) (by cases l1 <;> rfl) rfl
theorem f50_2 : zz_fetch zz_prog 50 2 = some (.iconst 0, 1, [], []) := zz_fetch_of p50 rfl rfl
theorem s50_2 : zz_Run zz_prog d 50 (2, [l0, l1, l2, l3], st, k, h) = zz_Run zz_prog d 50 (3, [l0, l1, l2, l3], .int 0 :: st, k, h) := zz_k_num f50_2 rfl
theorem f50_3 : zz_fetch zz_prog 50 3 = some (.istore_n 3, 1, [], []) := zz_fetch_of p50 rfl rfl
theorem s50_3 : zz_Run zz_prog d 50 (3, [l0, l1, l2, l3], .int v :: st, k, h) = zz_sl l2 (zz_Run zz_prog d 50 (4, [l0, l1, l2, some (.int v)], st, k, h)) := zz_k_st (j := 3) (u := .int v) f50_3 rfl (fun q hq => by cases hq) rfl (show 3 < 4 by decide) (by cases l2 <;> rfl) rfl
theorem f50_4 : zz_fetch zz_prog 50 4 = some (.iload_n 3, 1, [], []) := zz_fetch_of p50 rfl rfl
theorem s50_4 : zz_Run zz_prog d 50 (4, [l0, l1, l2, some (.int v)], st, k, h) = zz_Run zz_prog d 50 (5, [l0, l1, l2, some (.int v)], .int v :: st, k, h) := zz_k_num f50_4 rfl
theorem f50_5 : zz_fetch zz_prog 50 5 = some (.bipush 54, 2, [], []) := zz_fetch_of p50 rfl rfl
theorem s50_5 : zz_Run zz_prog d 50 (5, [l0, l1, l2, l3], st, k, h) = zz_Run zz_prog d 50 (7, [l0, l1, l2, l3], .int 54 :: st, k, h) := zz_k_num f50_5 (congrArg (fun u => some (7, [l0, l1, l2, l3], Value.int u :: st)) (by decide : (Int8.ofInt 54).toInt32 = 54))
theorem f50_7 : zz_fetch zz_prog 50 7 = some (.if_icmp .ge 51, 3, [58], []) := zz_fetch_of p50 rfl rfl
theorem s50_7 : zz_Run zz_prog d 50 (7, [l0, l1, l2, l3], .int w :: .int v :: st, k, h) = if w ≤ v then zz_Run zz_prog d 50 (58, [l0, l1, l2, l3], st, k, h) else zz_Run zz_prog d 50 (10, [l0, l1, l2, l3], st, k, h) := zz_k_br (w ≤ v) rfl (zz_k_num f50_7 rfl)
theorem f50_10 : zz_fetch zz_prog 50 10 = some (.aload_n 0, 1, [], []) := zz_fetch_of p50 rfl rfl
theorem s50_10 : zz_Run zz_prog d 50 (10, [some (.ref a), l1, l2, l3], st, k, h) = zz_Run zz_prog d 50 (11, [some (.ref a), l1, l2, l3], .ref a :: st, k, h) := zz_k_num f50_10 rfl
theorem f50_11 : zz_fetch zz_prog 50 11 = some (.aload_n 0, 1, [], []) := zz_fetch_of p50 rfl rfl
theorem s50_11 : zz_Run zz_prog d 50 (11, [some (.ref a), l1, l2, l3], st, k, h) = zz_Run zz_prog d 50 (12, [some (.ref a), l1, l2, l3], .ref a :: st, k, h) := zz_k_num f50_11 rfl
theorem f50_12 : zz_fetch zz_prog 50 12 = some (.getfield 28, 3, [1, 7, 3], []) := zz_fetch_of p50 rfl rfl
theorem s50_12 : zz_Run zz_prog d 50 (12, [l0, l1, l2, l3], .ref 5 :: st, k, (zz_hp n I J ex)) = zz_Run zz_prog d 50 (15, [l0, l1, l2, l3], .ref 9 :: st, k, (zz_hp n I J ex)) := zz_k_go f50_12 rfl rfl rfl
theorem f50_15 : zz_fetch zz_prog 50 15 = some (.getfield 86, 3, [0, 1, 0], []) := zz_fetch_of p50 rfl rfl
theorem s50_15 : zz_Run zz_prog d 50 (15, [l0, l1, l2, l3], .ref 9 :: st, k, (zz_hp n I J ex)) = zz_Run zz_prog d 50 (18, [l0, l1, l2, l3], .int (I 9 1) :: st, k, (zz_hp n I J ex)) := zz_k_go f50_15 rfl rfl rfl
theorem s50_15b : zz_Run zz_prog d 50 (15, [l0, l1, l2, l3], .ref 16 :: st, k, (zz_hp n I J ex)) = zz_Run zz_prog d 50 (18, [l0, l1, l2, l3], .int (I 16 1) :: st, k, (zz_hp n I J ex)) := zz_k_go f50_15 rfl rfl rfl
theorem f50_18 : zz_fetch zz_prog 50 18 = some (.iload_n 3, 1, [], []) := zz_fetch_of p50 rfl rfl
theorem s50_18 : zz_Run zz_prog d 50 (18, [l0, l1, l2, some (.int v)], st, k, h) = zz_Run zz_prog d 50 (19, [l0, l1, l2, some (.int v)], .int v :: st, k, h) := zz_k_num f50_18 rfl
theorem f50_19 : zz_fetch zz_prog 50 19 = some (.invokevirtual 260, 3, [0, 66, 3, 1], []) := zz_fetch_of p50 rfl rfl
theorem s50_19 : zz_Run zz_prog d 50 (19, [l0, l1, l2, l3], [b0, b1, .ref 5], k, (zz_hp n I J ex)) = zz_ret (zz_Call zz_prog d 66 [.ref 5, b1, b0] (zz_hp n I J ex)) (fun v k' h' => zz_Run zz_prog d 50 (22, [l0, l1, l2, l3], v.toList ++ [], k && k', h')) (fun a k' h' => zz_th d 50 19 a [l0, l1, l2, l3] (k && k') h') := zz_k_call f50_19 rfl rfl rfl
theorem f50_22 : zz_fetch zz_prog 50 22 = some (.ifCond .ne 6, 3, [28], []) := zz_fetch_of p50 rfl rfl
theorem s50_22 : zz_Run zz_prog d 50 (22, [l0, l1, l2, l3], .int v :: st, k, h) = if ¬ v = 0 then zz_Run zz_prog d 50 (28, [l0, l1, l2, l3], st, k, h) else zz_Run zz_prog d 50 (25, [l0, l1, l2, l3], st, k, h) := zz_k_br (¬ v = 0) rfl (zz_k_num f50_22 rfl)
theorem f50_25 : zz_fetch zz_prog 50 25 = some (.goto 27, 3, [52], []) := zz_fetch_of p50 rfl rfl
theorem s50_25 : zz_Run zz_prog d 50 (25, [l0, l1, l2, l3], st, k, h) = zz_Run zz_prog d 50 (52, [l0, l1, l2, l3], st, k, h) := zz_k_num f50_25 rfl
theorem f50_28 : zz_fetch zz_prog 50 28 = some (.aload_n 0, 1, [], []) := zz_fetch_of p50 rfl rfl
theorem s50_28 : zz_Run zz_prog d 50 (28, [some (.ref a), l1, l2, l3], st, k, h) = zz_Run zz_prog d 50 (29, [some (.ref a), l1, l2, l3], .ref a :: st, k, h) := zz_k_num f50_28 rfl
theorem f50_29 : zz_fetch zz_prog 50 29 = some (.getfield 16, 3, [1, 2, 3], []) := zz_fetch_of p50 rfl rfl
theorem s50_29 : zz_Run zz_prog d 50 (29, [l0, l1, l2, l3], .ref 5 :: st, k, (zz_hp n I J ex)) = zz_Run zz_prog d 50 (32, [l0, l1, l2, l3], .ref 8 :: st, k, (zz_hp n I J ex)) := zz_k_go f50_29 rfl rfl rfl
theorem f50_32 : zz_fetch zz_prog 50 32 = some (.iload_n 3, 1, [], []) := zz_fetch_of p50 rfl rfl
theorem s50_32 : zz_Run zz_prog d 50 (32, [l0, l1, l2, some (.int v)], st, k, h) = zz_Run zz_prog d 50 (33, [l0, l1, l2, some (.int v)], .int v :: st, k, h) := zz_k_num f50_32 rfl
theorem f50_33 : zz_fetch zz_prog 50 33 = some (.iaload, 1, [], []) := zz_fetch_of p50 rfl rfl
theorem s50_33 (ha : zz_isrd a = true) : zz_Run zz_prog d 50 (33, [l0, l1, l2, l3], .int v :: .ref a :: st, k, (zz_hp n I J ex)) = zz_ck (zz_in v (zz_ary n a)) (zz_Run zz_prog d 50 (34, [l0, l1, l2, l3], .int (I a v.toNatClampNeg) :: st, k, (zz_hp n I J ex))) := zz_k_iald f50_33 ha
theorem f50_34 : zz_fetch zz_prog 50 34 = some (.iload_n 1, 1, [], []) := zz_fetch_of p50 rfl rfl
theorem s50_34 : zz_Run zz_prog d 50 (34, [l0, some (.int v), l2, l3], st, k, h) = zz_Run zz_prog d 50 (35, [l0, some (.int v), l2, l3], .int v :: st, k, h) := zz_k_num f50_34 rfl
theorem f50_35 : zz_fetch zz_prog 50 35 = some (.if_icmp .ne 5, 3, [40], []) := zz_fetch_of p50 rfl rfl
theorem s50_35 : zz_Run zz_prog d 50 (35, [l0, l1, l2, l3], .int w :: .int v :: st, k, h) = if ¬ v = w then zz_Run zz_prog d 50 (40, [l0, l1, l2, l3], st, k, h) else zz_Run zz_prog d 50 (38, [l0, l1, l2, l3], st, k, h) := zz_k_br (¬ v = w) rfl (zz_k_num f50_35 rfl)
theorem f50_38 : zz_fetch zz_prog 50 38 = some (.iconst 2, 1, [], []) := zz_fetch_of p50 rfl rfl
theorem s50_38 : zz_Run zz_prog d 50 (38, [l0, l1, l2, l3], st, k, h) = zz_Run zz_prog d 50 (39, [l0, l1, l2, l3], .int 2 :: st, k, h) := zz_k_num f50_38 rfl
theorem f50_39 : zz_fetch zz_prog 50 39 = some (.ireturn, 1, [0], []) := zz_fetch_of p50 rfl rfl
theorem s50_39 : zz_Run zz_prog d 50 (39, [l0, l1, l2, l3], [.int v], k, h) = some (.inl (some (.int v)), k, h) := zz_k_stop f50_39 rfl rfl rfl
theorem f50_40 : zz_fetch zz_prog 50 40 = some (.aload_n 0, 1, [], []) := zz_fetch_of p50 rfl rfl
theorem s50_40 : zz_Run zz_prog d 50 (40, [some (.ref a), l1, l2, l3], st, k, h) = zz_Run zz_prog d 50 (41, [some (.ref a), l1, l2, l3], .ref a :: st, k, h) := zz_k_num f50_40 rfl
theorem f50_41 : zz_fetch zz_prog 50 41 = some (.getfield 16, 3, [1, 2, 3], []) := zz_fetch_of p50 rfl rfl
theorem s50_41 : zz_Run zz_prog d 50 (41, [l0, l1, l2, l3], .ref 5 :: st, k, (zz_hp n I J ex)) = zz_Run zz_prog d 50 (44, [l0, l1, l2, l3], .ref 8 :: st, k, (zz_hp n I J ex)) := zz_k_go f50_41 rfl rfl rfl
theorem f50_44 : zz_fetch zz_prog 50 44 = some (.iload_n 3, 1, [], []) := zz_fetch_of p50 rfl rfl
theorem s50_44 : zz_Run zz_prog d 50 (44, [l0, l1, l2, some (.int v)], st, k, h) = zz_Run zz_prog d 50 (45, [l0, l1, l2, some (.int v)], .int v :: st, k, h) := zz_k_num f50_44 rfl
theorem f50_45 : zz_fetch zz_prog 50 45 = some (.iaload, 1, [], []) := zz_fetch_of p50 rfl rfl
theorem s50_45 (ha : zz_isrd a = true) : zz_Run zz_prog d 50 (45, [l0, l1, l2, l3], .int v :: .ref a :: st, k, (zz_hp n I J ex)) = zz_ck (zz_in v (zz_ary n a)) (zz_Run zz_prog d 50 (46, [l0, l1, l2, l3], .int (I a v.toNatClampNeg) :: st, k, (zz_hp n I J ex))) := zz_k_iald f50_45 ha
theorem f50_46 : zz_fetch zz_prog 50 46 = some (.iconst 5, 1, [], []) := zz_fetch_of p50 rfl rfl
theorem s50_46 : zz_Run zz_prog d 50 (46, [l0, l1, l2, l3], st, k, h) = zz_Run zz_prog d 50 (47, [l0, l1, l2, l3], .int 5 :: st, k, h) := zz_k_num f50_46 rfl
theorem f50_47 : zz_fetch zz_prog 50 47 = some (.if_icmp .ne 5, 3, [52], []) := zz_fetch_of p50 rfl rfl
theorem s50_47 : zz_Run zz_prog d 50 (47, [l0, l1, l2, l3], .int w :: .int v :: st, k, h) = if ¬ v = w then zz_Run zz_prog d 50 (52, [l0, l1, l2, l3], st, k, h) else zz_Run zz_prog d 50 (50, [l0, l1, l2, l3], st, k, h) := zz_k_br (¬ v = w) rfl (zz_k_num f50_47 rfl)
theorem f50_50 : zz_fetch zz_prog 50 50 = some (.iconst 3, 1, [], []) := zz_fetch_of p50 rfl rfl
theorem s50_50 : zz_Run zz_prog d 50 (50, [l0, l1, l2, l3], st, k, h) = zz_Run zz_prog d 50 (51, [l0, l1, l2, l3], .int 3 :: st, k, h) := zz_k_num f50_50 rfl
theorem f50_51 : zz_fetch zz_prog 50 51 = some (.istore_n 2, 1, [], []) := zz_fetch_of p50 rfl rfl
theorem s50_51 : zz_Run zz_prog d 50 (51, [l0, l1, l2, l3], .int v :: st, k, h) = zz_sl l1 (zz_Run zz_prog d 50 (52, [l0, l1, some (.int v), l3], st, k, h)) := zz_k_st (j := 2) (u := .int v) f50_51 rfl (fun q hq => by cases hq) rfl (show 2 < 4 by decide) (by cases l1 <;> rfl) rfl
theorem f50_52 : zz_fetch zz_prog 50 52 = some (.iinc 3 1, 3, [], []) := zz_fetch_of p50 rfl rfl
theorem s50_52 : zz_Run zz_prog d 50 (52, [l0, l1, l2, some (.int v)], st, k, h) = zz_sl l2 (zz_Run zz_prog d 50 (55, [l0, l1, l2, some (.int (v + 1))], st, k, h)) := zz_k_st (j := 3) (u := .int (v + 1)) f50_52 rfl (fun q hq => by cases hq) rfl (show 3 < 4 by decide) (by cases l2 <;> rfl) rfl
theorem f50_55 : zz_fetch zz_prog 50 55 = some (.goto (-51), 3, [4], []) := zz_fetch_of p50 rfl rfl
theorem s50_55 : zz_Run zz_prog d 50 (55, [l0, l1, l2, l3], st, k, h) = zz_Run zz_prog d 50 (4, [l0, l1, l2, l3], st, k, h) := zz_k_num f50_55 rfl
theorem f50_58 : zz_fetch zz_prog 50 58 = some (.iload_n 2, 1, [], []) := zz_fetch_of p50 rfl rfl
theorem s50_58 : zz_Run zz_prog d 50 (58, [l0, l1, some (.int v), l3], st, k, h) = zz_Run zz_prog d 50 (59, [l0, l1, some (.int v), l3], .int v :: st, k, h) := zz_k_num f50_58 rfl
theorem f50_59 : zz_fetch zz_prog 50 59 = some (.ireturn, 1, [0], []) := zz_fetch_of p50 rfl rfl
theorem s50_59 : zz_Run zz_prog d 50 (59, [l0, l1, l2, l3], [.int v], k, h) = some (.inl (some (.int v)), k, h) := zz_k_stop f50_59 rfl rfl rfl
end S50
section S51
variable {d n j : Nat} {l0 l1 : Option Value} {st : List Value} {k : Bool} {h : zz_H} {v w v1 v2 : Int32} {y y1 : Int64} {a a1 a2 : Nat} {b0 b1 b2 b3 b4 b5 b6 b7 b8 : Value} {I : Nat → Nat → Int32} {J : Nat → Nat → Int64} {ex : List (Nat × Nat)}
theorem p51 : zz_prog 51 = some zz_m51 := rfl
theorem e51 (g0 : Nat) (g1 : Int32) : zz_Call zz_prog (d + 1) 51 [.ref g0, .int g1] h = zz_Run zz_prog d 51 (0, [some (.ref g0), some (.int g1)], [], true, h) := rfl
theorem t51 (pc : Nat) (L : List (Option Value)) : zz_th d 51 pc a L k h = some (.inr a, k, h) := zz_th_out p51 rfl
theorem f51_0 : zz_fetch zz_prog 51 0 = some (.aload_n 0, 1, [], []) := zz_fetch_of p51 rfl rfl
theorem s51_0 : zz_Run zz_prog d 51 (0, [some (.ref a), l1], st, k, h) = zz_Run zz_prog d 51 (1, [some (.ref a), l1], .ref a :: st, k, h) := zz_k_num f51_0 rfl
theorem f51_1 : zz_fetch zz_prog 51 1 = some (.getfield 28, 3, [1, 7, 3], []) := zz_fetch_of p51 rfl rfl
theorem s51_1 : zz_Run zz_prog d 51 (1, [l0, l1], .ref 5 :: st, k, (zz_hp n I J ex)) = zz_Run zz_prog d 51 (4, [l0, l1], .ref 9 :: st, k, (zz_hp n I J ex)) := zz_k_go f51_1 rfl rfl rfl
theorem f51_4 : zz_fetch zz_prog 51 4 = some (.getfield 89, 3, [0, 0, 0], []) := zz_fetch_of p51 rfl rfl
theorem s51_4 : zz_Run zz_prog d 51 (4, [l0, l1], .ref 9 :: st, k, (zz_hp n I J ex)) = zz_Run zz_prog d 51 (7, [l0, l1], .int (I 9 0) :: st, k, (zz_hp n I J ex)) := zz_k_go f51_4 rfl rfl rfl
theorem s51_4b : zz_Run zz_prog d 51 (4, [l0, l1], .ref 16 :: st, k, (zz_hp n I J ex)) = zz_Run zz_prog d 51 (7, [l0, l1], .int (I 16 0) :: st, k, (zz_hp n I J ex)) := zz_k_go f51_4 rfl rfl rfl
theorem f51_7 : zz_fetch zz_prog 51 7 = some (.tableswitch 102 1 7 #[41, 52, 102, 102, 102, 62, 84], 41, [109], [(1, 48), (2, 59), (3, 109), (4, 109), (5, 109), (6, 69), (7, 91)]) := zz_fetch_of p51 rfl rfl
theorem s51_7 : zz_Run zz_prog d 51 (7, [l0, l1], .int v :: st, k, h) = zz_Run zz_prog d 51 (zz_sw v 109 [(1, 48), (2, 59), (3, 109), (4, 109), (5, 109), (6, 69), (7, 91)], [l0, l1], st, k, h) := zz_k_num f51_7 rfl
theorem f51_48 : zz_fetch zz_prog 51 48 = some (.iload_n 1, 1, [], []) := zz_fetch_of p51 rfl rfl
theorem s51_48 : zz_Run zz_prog d 51 (48, [l0, some (.int v)], st, k, h) = zz_Run zz_prog d 51 (49, [l0, some (.int v)], .int v :: st, k, h) := zz_k_num f51_48 rfl
theorem f51_49 : zz_fetch zz_prog 51 49 = some (.iconst 1, 1, [], []) := zz_fetch_of p51 rfl rfl
theorem s51_49 : zz_Run zz_prog d 51 (49, [l0, l1], st, k, h) = zz_Run zz_prog d 51 (50, [l0, l1], .int 1 :: st, k, h) := zz_k_num f51_49 rfl
theorem f51_50 : zz_fetch zz_prog 51 50 = some (.if_icmp .ne 7, 3, [57], []) := zz_fetch_of p51 rfl rfl
theorem s51_50 : zz_Run zz_prog d 51 (50, [l0, l1], .int w :: .int v :: st, k, h) = if ¬ v = w then zz_Run zz_prog d 51 (57, [l0, l1], st, k, h) else zz_Run zz_prog d 51 (53, [l0, l1], st, k, h) := zz_k_br (¬ v = w) rfl (zz_k_num f51_50 rfl)
theorem f51_53 : zz_fetch zz_prog 51 53 = some (.iconst 1, 1, [], []) := zz_fetch_of p51 rfl rfl
theorem s51_53 : zz_Run zz_prog d 51 (53, [l0, l1], st, k, h) = zz_Run zz_prog d 51 (54, [l0, l1], .int 1 :: st, k, h) := zz_k_num f51_53 rfl
theorem f51_54 : zz_fetch zz_prog 51 54 = some (.goto 4, 3, [58], []) := zz_fetch_of p51 rfl rfl
theorem s51_54 : zz_Run zz_prog d 51 (54, [l0, l1], st, k, h) = zz_Run zz_prog d 51 (58, [l0, l1], st, k, h) := zz_k_num f51_54 rfl
theorem f51_57 : zz_fetch zz_prog 51 57 = some (.iconst 0, 1, [], []) := zz_fetch_of p51 rfl rfl
theorem s51_57 : zz_Run zz_prog d 51 (57, [l0, l1], st, k, h) = zz_Run zz_prog d 51 (58, [l0, l1], .int 0 :: st, k, h) := zz_k_num f51_57 rfl
theorem f51_58 : zz_fetch zz_prog 51 58 = some (.ireturn, 1, [1], []) := zz_fetch_of p51 rfl rfl
theorem s51_58 : zz_Run zz_prog d 51 (58, [l0, l1], [.int v], k, h) = zz_ck (decide (v = 0 ∨ v = 1)) (some (.inl (some (.int v)), k, h)) := zz_k_retz f51_58
theorem f51_59 : zz_fetch zz_prog 51 59 = some (.iload_n 1, 1, [], []) := zz_fetch_of p51 rfl rfl
theorem s51_59 : zz_Run zz_prog d 51 (59, [l0, some (.int v)], st, k, h) = zz_Run zz_prog d 51 (60, [l0, some (.int v)], .int v :: st, k, h) := zz_k_num f51_59 rfl
theorem f51_60 : zz_fetch zz_prog 51 60 = some (.ifCond .ne 7, 3, [67], []) := zz_fetch_of p51 rfl rfl
theorem s51_60 : zz_Run zz_prog d 51 (60, [l0, l1], .int v :: st, k, h) = if ¬ v = 0 then zz_Run zz_prog d 51 (67, [l0, l1], st, k, h) else zz_Run zz_prog d 51 (63, [l0, l1], st, k, h) := zz_k_br (¬ v = 0) rfl (zz_k_num f51_60 rfl)
theorem f51_63 : zz_fetch zz_prog 51 63 = some (.iconst 1, 1, [], []) := zz_fetch_of p51 rfl rfl
theorem s51_63 : zz_Run zz_prog d 51 (63, [l0, l1], st, k, h) = zz_Run zz_prog d 51 (64, [l0, l1], .int 1 :: st, k, h) := zz_k_num f51_63 rfl
theorem f51_64 : zz_fetch zz_prog 51 64 = some (.goto 4, 3, [68], []) := zz_fetch_of p51 rfl rfl
theorem s51_64 : zz_Run zz_prog d 51 (64, [l0, l1], st, k, h) = zz_Run zz_prog d 51 (68, [l0, l1], st, k, h) := zz_k_num f51_64 rfl
theorem f51_67 : zz_fetch zz_prog 51 67 = some (.iconst 0, 1, [], []) := zz_fetch_of p51 rfl rfl
theorem s51_67 : zz_Run zz_prog d 51 (67, [l0, l1], st, k, h) = zz_Run zz_prog d 51 (68, [l0, l1], .int 0 :: st, k, h) := zz_k_num f51_67 rfl
theorem f51_68 : zz_fetch zz_prog 51 68 = some (.ireturn, 1, [1], []) := zz_fetch_of p51 rfl rfl
theorem s51_68 : zz_Run zz_prog d 51 (68, [l0, l1], [.int v], k, h) = zz_ck (decide (v = 0 ∨ v = 1)) (some (.inl (some (.int v)), k, h)) := zz_k_retz f51_68
theorem f51_69 : zz_fetch zz_prog 51 69 = some (.aload_n 0, 1, [], []) := zz_fetch_of p51 rfl rfl
theorem s51_69 : zz_Run zz_prog d 51 (69, [some (.ref a), l1], st, k, h) = zz_Run zz_prog d 51 (70, [some (.ref a), l1], .ref a :: st, k, h) := zz_k_num f51_69 rfl
theorem f51_70 : zz_fetch zz_prog 51 70 = some (.iload_n 1, 1, [], []) := zz_fetch_of p51 rfl rfl
theorem s51_70 : zz_Run zz_prog d 51 (70, [l0, some (.int v)], st, k, h) = zz_Run zz_prog d 51 (71, [l0, some (.int v)], .int v :: st, k, h) := zz_k_num f51_70 rfl
theorem f51_71 : zz_fetch zz_prog 51 71 = some (.invokevirtual 263, 3, [0, 52, 2, 1], []) := zz_fetch_of p51 rfl rfl
theorem s51_71 : zz_Run zz_prog d 51 (71, [l0, l1], [b0, .ref 5], k, (zz_hp n I J ex)) = zz_ret (zz_Call zz_prog d 52 [.ref 5, b0] (zz_hp n I J ex)) (fun v k' h' => zz_Run zz_prog d 51 (74, [l0, l1], v.toList ++ [], k && k', h')) (fun a k' h' => zz_th d 51 71 a [l0, l1] (k && k') h') := zz_k_call f51_71 rfl rfl rfl
theorem f51_74 : zz_fetch zz_prog 51 74 = some (.ifCond .eq 15, 3, [89], []) := zz_fetch_of p51 rfl rfl
theorem s51_74 : zz_Run zz_prog d 51 (74, [l0, l1], .int v :: st, k, h) = if v = 0 then zz_Run zz_prog d 51 (89, [l0, l1], st, k, h) else zz_Run zz_prog d 51 (77, [l0, l1], st, k, h) := zz_k_br (v = 0) rfl (zz_k_num f51_74 rfl)
theorem f51_77 : zz_fetch zz_prog 51 77 = some (.aload_n 0, 1, [], []) := zz_fetch_of p51 rfl rfl
theorem s51_77 : zz_Run zz_prog d 51 (77, [some (.ref a), l1], st, k, h) = zz_Run zz_prog d 51 (78, [some (.ref a), l1], .ref a :: st, k, h) := zz_k_num f51_77 rfl
theorem f51_78 : zz_fetch zz_prog 51 78 = some (.iload_n 1, 1, [], []) := zz_fetch_of p51 rfl rfl
theorem s51_78 : zz_Run zz_prog d 51 (78, [l0, some (.int v)], st, k, h) = zz_Run zz_prog d 51 (79, [l0, some (.int v)], .int v :: st, k, h) := zz_k_num f51_78 rfl
theorem f51_79 : zz_fetch zz_prog 51 79 = some (.invokevirtual 179, 3, [0, 45, 2, 1], []) := zz_fetch_of p51 rfl rfl
theorem s51_79 : zz_Run zz_prog d 51 (79, [l0, l1], [b0, .ref 5], k, (zz_hp n I J ex)) = zz_ret (zz_Call zz_prog d 45 [.ref 5, b0] (zz_hp n I J ex)) (fun v k' h' => zz_Run zz_prog d 51 (82, [l0, l1], v.toList ++ [], k && k', h')) (fun a k' h' => zz_th d 51 79 a [l0, l1] (k && k') h') := zz_k_call f51_79 rfl rfl rfl
theorem f51_82 : zz_fetch zz_prog 51 82 = some (.ifCond .eq 7, 3, [89], []) := zz_fetch_of p51 rfl rfl
theorem s51_82 : zz_Run zz_prog d 51 (82, [l0, l1], .int v :: st, k, h) = if v = 0 then zz_Run zz_prog d 51 (89, [l0, l1], st, k, h) else zz_Run zz_prog d 51 (85, [l0, l1], st, k, h) := zz_k_br (v = 0) rfl (zz_k_num f51_82 rfl)
theorem f51_85 : zz_fetch zz_prog 51 85 = some (.iconst 1, 1, [], []) := zz_fetch_of p51 rfl rfl
theorem s51_85 : zz_Run zz_prog d 51 (85, [l0, l1], st, k, h) = zz_Run zz_prog d 51 (86, [l0, l1], .int 1 :: st, k, h) := zz_k_num f51_85 rfl
theorem f51_86 : zz_fetch zz_prog 51 86 = some (.goto 4, 3, [90], []) := zz_fetch_of p51 rfl rfl
theorem s51_86 : zz_Run zz_prog d 51 (86, [l0, l1], st, k, h) = zz_Run zz_prog d 51 (90, [l0, l1], st, k, h) := zz_k_num f51_86 rfl
theorem f51_89 : zz_fetch zz_prog 51 89 = some (.iconst 0, 1, [], []) := zz_fetch_of p51 rfl rfl
theorem s51_89 : zz_Run zz_prog d 51 (89, [l0, l1], st, k, h) = zz_Run zz_prog d 51 (90, [l0, l1], .int 0 :: st, k, h) := zz_k_num f51_89 rfl
theorem f51_90 : zz_fetch zz_prog 51 90 = some (.ireturn, 1, [1], []) := zz_fetch_of p51 rfl rfl
theorem s51_90 : zz_Run zz_prog d 51 (90, [l0, l1], [.int v], k, h) = zz_ck (decide (v = 0 ∨ v = 1)) (some (.inl (some (.int v)), k, h)) := zz_k_retz f51_90
theorem f51_91 : zz_fetch zz_prog 51 91 = some (.iload_n 1, 1, [], []) := zz_fetch_of p51 rfl rfl
theorem s51_91 : zz_Run zz_prog d 51 (91, [l0, some (.int v)], st, k, h) = zz_Run zz_prog d 51 (92, [l0, some (.int v)], .int v :: st, k, h) := zz_k_num f51_91 rfl
theorem f51_92 : zz_fetch zz_prog 51 92 = some (.ifCond .ne 15, 3, [107], []) := zz_fetch_of p51 rfl rfl
theorem s51_92 : zz_Run zz_prog d 51 (92, [l0, l1], .int v :: st, k, h) = if ¬ v = 0 then zz_Run zz_prog d 51 (107, [l0, l1], st, k, h) else zz_Run zz_prog d 51 (95, [l0, l1], st, k, h) := zz_k_br (¬ v = 0) rfl (zz_k_num f51_92 rfl)
theorem f51_95 : zz_fetch zz_prog 51 95 = some (.aload_n 0, 1, [], []) := zz_fetch_of p51 rfl rfl
theorem s51_95 : zz_Run zz_prog d 51 (95, [some (.ref a), l1], st, k, h) = zz_Run zz_prog d 51 (96, [some (.ref a), l1], .ref a :: st, k, h) := zz_k_num f51_95 rfl
theorem f51_96 : zz_fetch zz_prog 51 96 = some (.iconst 0, 1, [], []) := zz_fetch_of p51 rfl rfl
theorem s51_96 : zz_Run zz_prog d 51 (96, [l0, l1], st, k, h) = zz_Run zz_prog d 51 (97, [l0, l1], .int 0 :: st, k, h) := zz_k_num f51_96 rfl
theorem f51_97 : zz_fetch zz_prog 51 97 = some (.invokevirtual 263, 3, [0, 52, 2, 1], []) := zz_fetch_of p51 rfl rfl
theorem s51_97 : zz_Run zz_prog d 51 (97, [l0, l1], [b0, .ref 5], k, (zz_hp n I J ex)) = zz_ret (zz_Call zz_prog d 52 [.ref 5, b0] (zz_hp n I J ex)) (fun v k' h' => zz_Run zz_prog d 51 (100, [l0, l1], v.toList ++ [], k && k', h')) (fun a k' h' => zz_th d 51 97 a [l0, l1] (k && k') h') := zz_k_call f51_97 rfl rfl rfl
theorem f51_100 : zz_fetch zz_prog 51 100 = some (.ifCond .eq 7, 3, [107], []) := zz_fetch_of p51 rfl rfl
theorem s51_100 : zz_Run zz_prog d 51 (100, [l0, l1], .int v :: st, k, h) = if v = 0 then zz_Run zz_prog d 51 (107, [l0, l1], st, k, h) else zz_Run zz_prog d 51 (103, [l0, l1], st, k, h) := zz_k_br (v = 0) rfl (zz_k_num f51_100 rfl)
theorem f51_103 : zz_fetch zz_prog 51 103 = some (.iconst 1, 1, [], []) := zz_fetch_of p51 rfl rfl
theorem s51_103 : zz_Run zz_prog d 51 (103, [l0, l1], st, k, h) = zz_Run zz_prog d 51 (104, [l0, l1], .int 1 :: st, k, h) := zz_k_num f51_103 rfl
theorem f51_104 : zz_fetch zz_prog 51 104 = some (.goto 4, 3, [108], []) := zz_fetch_of p51 rfl rfl
theorem s51_104 : zz_Run zz_prog d 51 (104, [l0, l1], st, k, h) = zz_Run zz_prog d 51 (108, [l0, l1], st, k, h) := zz_k_num f51_104 rfl
theorem f51_107 : zz_fetch zz_prog 51 107 = some (.iconst 0, 1, [], []) := zz_fetch_of p51 rfl rfl
theorem s51_107 : zz_Run zz_prog d 51 (107, [l0, l1], st, k, h) = zz_Run zz_prog d 51 (108, [l0, l1], .int 0 :: st, k, h) := zz_k_num f51_107 rfl
theorem f51_108 : zz_fetch zz_prog 51 108 = some (.ireturn, 1, [1], []) := zz_fetch_of p51 rfl rfl
theorem s51_108 : zz_Run zz_prog d 51 (108, [l0, l1], [.int v], k, h) = zz_ck (decide (v = 0 ∨ v = 1)) (some (.inl (some (.int v)), k, h)) := zz_k_retz f51_108
theorem f51_109 : zz_fetch zz_prog 51 109 = some (.iconst 0, 1, [], []) := zz_fetch_of p51 rfl rfl
theorem s51_109 : zz_Run zz_prog d 51 (109, [l0, l1], st, k, h) = zz_Run zz_prog d 51 (110, [l0, l1], .int 0 :: st, k, h) := zz_k_num f51_109 rfl
theorem f51_110 : zz_fetch zz_prog 51 110 = some (.ireturn, 1, [1], []) := zz_fetch_of p51 rfl rfl
theorem s51_110 : zz_Run zz_prog d 51 (110, [l0, l1], [.int v], k, h) = zz_ck (decide (v = 0 ∨ v = 1)) (some (.inl (some (.int v)), k, h)) := zz_k_retz f51_110
end S51
section S52
variable {d n j : Nat} {l0 l1 : Option Value} {st : List Value} {k : Bool} {h : zz_H} {v w v1 v2 : Int32} {y y1 : Int64} {a a1 a2 : Nat} {b0 b1 b2 b3 b4 b5 b6 b7 b8 : Value} {I : Nat → Nat → Int32} {J : Nat → Nat → Int64} {ex : List (Nat × Nat)}
theorem p52 : zz_prog 52 = some zz_m52 := rfl
theorem e52 (g0 : Nat) (g1 : Int32) : zz_Call zz_prog (d + 1) 52 [.ref g0, .int g1] h = zz_Run zz_prog d 52 (0, [some (.ref g0), some (.int g1)], [], true, h) := rfl
theorem t52 (pc : Nat) (L : List (Option Value)) : zz_th d 52 pc a L k h = some (.inr a, k, h) := zz_th_out p52 rfl
theorem f52_0 : zz_fetch zz_prog 52 0 = some (.iload_n 1, 1, [], []) := zz_fetch_of p52 rfl rfl
theorem s52_0 : zz_Run zz_prog d 52 (0, [l0, some (.int v)], st, k, h) = zz_Run zz_prog d 52 (1, [l0, some (.int v)], .int v :: st, k, h) := zz_k_num f52_0 rfl
theorem f52_1 : zz_fetch zz_prog 52 1 = some (.lookupswitch 82 #[(0, 27), (1, 55)], 27, [83], [(0, 28), (1, 56)]) := zz_fetch_of p52 rfl rfl
theorem s52_1 : zz_Run zz_prog d 52 (1, [l0, l1], .int v :: st, k, h) = zz_Run zz_prog d 52 (zz_sw v 83 [(0, 28), (1, 56)], [l0, l1], st, k, h) := zz_k_num f52_1 rfl
theorem f52_28 : zz_fetch zz_prog 52 28 = some (.aload_n 0, 1, [], []) := zz_fetch_of p52 rfl rfl
theorem s52_28 : zz_Run zz_prog d 52 (28, [some (.ref a), l1], st, k, h) = zz_Run zz_prog d 52 (29, [some (.ref a), l1], .ref a :: st, k, h) := zz_k_num f52_28 rfl
theorem f52_29 : zz_fetch zz_prog 52 29 = some (.getfield 28, 3, [1, 7, 3], []) := zz_fetch_of p52 rfl rfl
theorem s52_29 : zz_Run zz_prog d 52 (29, [l0, l1], .ref 5 :: st, k, (zz_hp n I J ex)) = zz_Run zz_prog d 52 (32, [l0, l1], .ref 9 :: st, k, (zz_hp n I J ex)) := zz_k_go f52_29 rfl rfl rfl
theorem f52_32 : zz_fetch zz_prog 52 32 = some (.getfield 230, 3, [0, 12, 3], []) := zz_fetch_of p52 rfl rfl
theorem s52_32 : zz_Run zz_prog d 52 (32, [l0, l1], .ref 9 :: st, k, (zz_hp n I J ex)) = zz_Run zz_prog d 52 (35, [l0, l1], .ref 10 :: st, k, (zz_hp n I J ex)) := zz_k_go f52_32 rfl rfl rfl
theorem s52_32b : zz_Run zz_prog d 52 (32, [l0, l1], .ref 16 :: st, k, (zz_hp n I J ex)) = zz_Run zz_prog d 52 (35, [l0, l1], .ref 17 :: st, k, (zz_hp n I J ex)) := zz_k_go f52_32 rfl rfl rfl
theorem f52_35 : zz_fetch zz_prog 52 35 = some (.aload_n 0, 1, [], []) := zz_fetch_of p52 rfl rfl
theorem s52_35 : zz_Run zz_prog d 52 (35, [some (.ref a), l1], st, k, h) = zz_Run zz_prog d 52 (36, [some (.ref a), l1], .ref a :: st, k, h) := zz_k_num f52_35 rfl
theorem f52_36 : zz_fetch zz_prog 52 36 = some (.getfield 28, 3, [1, 7, 3], []) := zz_fetch_of p52 rfl rfl
theorem s52_36 : zz_Run zz_prog d 52 (36, [l0, l1], .ref 5 :: st, k, (zz_hp n I J ex)) = zz_Run zz_prog d 52 (39, [l0, l1], .ref 9 :: st, k, (zz_hp n I J ex)) := zz_k_go f52_36 rfl rfl rfl
theorem f52_39 : zz_fetch zz_prog 52 39 = some (.getfield 86, 3, [0, 1, 0], []) := zz_fetch_of p52 rfl rfl
theorem s52_39 : zz_Run zz_prog d 52 (39, [l0, l1], .ref 9 :: st, k, (zz_hp n I J ex)) = zz_Run zz_prog d 52 (42, [l0, l1], .int (I 9 1) :: st, k, (zz_hp n I J ex)) := zz_k_go f52_39 rfl rfl rfl
theorem s52_39b : zz_Run zz_prog d 52 (39, [l0, l1], .ref 16 :: st, k, (zz_hp n I J ex)) = zz_Run zz_prog d 52 (42, [l0, l1], .int (I 16 1) :: st, k, (zz_hp n I J ex)) := zz_k_go f52_39 rfl rfl rfl
theorem f52_42 : zz_fetch zz_prog 52 42 = some (.invokestatic 266, 3, [0, 53, 2], []) := zz_fetch_of p52 rfl rfl
theorem s52_42 : zz_Run zz_prog d 52 (42, [l0, l1], [b0, b1], k, h) = zz_ret (zz_Call zz_prog d 53 [b1, b0] h) (fun v k' h' => zz_Run zz_prog d 52 (45, [l0, l1], v.toList ++ [], k && k', h')) (fun a k' h' => zz_th d 52 42 a [l0, l1] (k && k') h') := zz_k_call f52_42 rfl rfl rfl
theorem f52_45 : zz_fetch zz_prog 52 45 = some (.bipush 15, 2, [], []) := zz_fetch_of p52 rfl rfl
theorem s52_45 : zz_Run zz_prog d 52 (45, [l0, l1], st, k, h) = zz_Run zz_prog d 52 (47, [l0, l1], .int 15 :: st, k, h) := zz_k_num f52_45 (congrArg (fun u => some (47, [l0, l1], Value.int u :: st)) (by decide : (Int8.ofInt 15).toInt32 = 15))
theorem f52_47 : zz_fetch zz_prog 52 47 = some (.if_icmp .ge 7, 3, [54], []) := zz_fetch_of p52 rfl rfl
theorem s52_47 : zz_Run zz_prog d 52 (47, [l0, l1], .int w :: .int v :: st, k, h) = if w ≤ v then zz_Run zz_prog d 52 (54, [l0, l1], st, k, h) else zz_Run zz_prog d 52 (50, [l0, l1], st, k, h) := zz_k_br (w ≤ v) rfl (zz_k_num f52_47 rfl)
theorem f52_50 : zz_fetch zz_prog 52 50 = some (.iconst 1, 1, [], []) := zz_fetch_of p52 rfl rfl
theorem s52_50 : zz_Run zz_prog d 52 (50, [l0, l1], st, k, h) = zz_Run zz_prog d 52 (51, [l0, l1], .int 1 :: st, k, h) := zz_k_num f52_50 rfl
theorem f52_51 : zz_fetch zz_prog 52 51 = some (.goto 4, 3, [55], []) := zz_fetch_of p52 rfl rfl
theorem s52_51 : zz_Run zz_prog d 52 (51, [l0, l1], st, k, h) = zz_Run zz_prog d 52 (55, [l0, l1], st, k, h) := zz_k_num f52_51 rfl
theorem f52_54 : zz_fetch zz_prog 52 54 = some (.iconst 0, 1, [], []) := zz_fetch_of p52 rfl rfl
theorem s52_54 : zz_Run zz_prog d 52 (54, [l0, l1], st, k, h) = zz_Run zz_prog d 52 (55, [l0, l1], .int 0 :: st, k, h) := zz_k_num f52_54 rfl
theorem f52_55 : zz_fetch zz_prog 52 55 = some (.ireturn, 1, [1], []) := zz_fetch_of p52 rfl rfl
theorem s52_55 : zz_Run zz_prog d 52 (55, [l0, l1], [.int v], k, h) = zz_ck (decide (v = 0 ∨ v = 1)) (some (.inl (some (.int v)), k, h)) := zz_k_retz f52_55
theorem f52_56 : zz_fetch zz_prog 52 56 = some (.aload_n 0, 1, [], []) := zz_fetch_of p52 rfl rfl
theorem s52_56 : zz_Run zz_prog d 52 (56, [some (.ref a), l1], st, k, h) = zz_Run zz_prog d 52 (57, [some (.ref a), l1], .ref a :: st, k, h) := zz_k_num f52_56 rfl
theorem f52_57 : zz_fetch zz_prog 52 57 = some (.getfield 28, 3, [1, 7, 3], []) := zz_fetch_of p52 rfl rfl
theorem s52_57 : zz_Run zz_prog d 52 (57, [l0, l1], .ref 5 :: st, k, (zz_hp n I J ex)) = zz_Run zz_prog d 52 (60, [l0, l1], .ref 9 :: st, k, (zz_hp n I J ex)) := zz_k_go f52_57 rfl rfl rfl
theorem f52_60 : zz_fetch zz_prog 52 60 = some (.getfield 233, 3, [0, 13, 3], []) := zz_fetch_of p52 rfl rfl
theorem s52_60 : zz_Run zz_prog d 52 (60, [l0, l1], .ref 9 :: st, k, (zz_hp n I J ex)) = zz_Run zz_prog d 52 (63, [l0, l1], .ref 11 :: st, k, (zz_hp n I J ex)) := zz_k_go f52_60 rfl rfl rfl
theorem s52_60b : zz_Run zz_prog d 52 (60, [l0, l1], .ref 16 :: st, k, (zz_hp n I J ex)) = zz_Run zz_prog d 52 (63, [l0, l1], .ref 18 :: st, k, (zz_hp n I J ex)) := zz_k_go f52_60 rfl rfl rfl
theorem f52_63 : zz_fetch zz_prog 52 63 = some (.aload_n 0, 1, [], []) := zz_fetch_of p52 rfl rfl
theorem s52_63 : zz_Run zz_prog d 52 (63, [some (.ref a), l1], st, k, h) = zz_Run zz_prog d 52 (64, [some (.ref a), l1], .ref a :: st, k, h) := zz_k_num f52_63 rfl
theorem f52_64 : zz_fetch zz_prog 52 64 = some (.getfield 28, 3, [1, 7, 3], []) := zz_fetch_of p52 rfl rfl
theorem s52_64 : zz_Run zz_prog d 52 (64, [l0, l1], .ref 5 :: st, k, (zz_hp n I J ex)) = zz_Run zz_prog d 52 (67, [l0, l1], .ref 9 :: st, k, (zz_hp n I J ex)) := zz_k_go f52_64 rfl rfl rfl
theorem f52_67 : zz_fetch zz_prog 52 67 = some (.getfield 86, 3, [0, 1, 0], []) := zz_fetch_of p52 rfl rfl
theorem s52_67 : zz_Run zz_prog d 52 (67, [l0, l1], .ref 9 :: st, k, (zz_hp n I J ex)) = zz_Run zz_prog d 52 (70, [l0, l1], .int (I 9 1) :: st, k, (zz_hp n I J ex)) := zz_k_go f52_67 rfl rfl rfl
theorem s52_67b : zz_Run zz_prog d 52 (67, [l0, l1], .ref 16 :: st, k, (zz_hp n I J ex)) = zz_Run zz_prog d 52 (70, [l0, l1], .int (I 16 1) :: st, k, (zz_hp n I J ex)) := zz_k_go f52_67 rfl rfl rfl
theorem f52_70 : zz_fetch zz_prog 52 70 = some (.invokestatic 266, 3, [0, 53, 2], []) := zz_fetch_of p52 rfl rfl
theorem s52_70 : zz_Run zz_prog d 52 (70, [l0, l1], [b0, b1], k, h) = zz_ret (zz_Call zz_prog d 53 [b1, b0] h) (fun v k' h' => zz_Run zz_prog d 52 (73, [l0, l1], v.toList ++ [], k && k', h')) (fun a k' h' => zz_th d 52 70 a [l0, l1] (k && k') h') := zz_k_call f52_70 rfl rfl rfl
theorem f52_73 : zz_fetch zz_prog 52 73 = some (.iconst 5, 1, [], []) := zz_fetch_of p52 rfl rfl
theorem s52_73 : zz_Run zz_prog d 52 (73, [l0, l1], st, k, h) = zz_Run zz_prog d 52 (74, [l0, l1], .int 5 :: st, k, h) := zz_k_num f52_73 rfl
theorem f52_74 : zz_fetch zz_prog 52 74 = some (.if_icmp .ge 7, 3, [81], []) := zz_fetch_of p52 rfl rfl
theorem s52_74 : zz_Run zz_prog d 52 (74, [l0, l1], .int w :: .int v :: st, k, h) = if w ≤ v then zz_Run zz_prog d 52 (81, [l0, l1], st, k, h) else zz_Run zz_prog d 52 (77, [l0, l1], st, k, h) := zz_k_br (w ≤ v) rfl (zz_k_num f52_74 rfl)
theorem f52_77 : zz_fetch zz_prog 52 77 = some (.iconst 1, 1, [], []) := zz_fetch_of p52 rfl rfl
theorem s52_77 : zz_Run zz_prog d 52 (77, [l0, l1], st, k, h) = zz_Run zz_prog d 52 (78, [l0, l1], .int 1 :: st, k, h) := zz_k_num f52_77 rfl
theorem f52_78 : zz_fetch zz_prog 52 78 = some (.goto 4, 3, [82], []) := zz_fetch_of p52 rfl rfl
theorem s52_78 : zz_Run zz_prog d 52 (78, [l0, l1], st, k, h) = zz_Run zz_prog d 52 (82, [l0, l1], st, k, h) := zz_k_num f52_78 rfl
theorem f52_81 : zz_fetch zz_prog 52 81 = some (.iconst 0, 1, [], []) := zz_fetch_of p52 rfl rfl
theorem s52_81 : zz_Run zz_prog d 52 (81, [l0, l1], st, k, h) = zz_Run zz_prog d 52 (82, [l0, l1], .int 0 :: st, k, h) := zz_k_num f52_81 rfl
theorem f52_82 : zz_fetch zz_prog 52 82 = some (.ireturn, 1, [1], []) := zz_fetch_of p52 rfl rfl
theorem s52_82 : zz_Run zz_prog d 52 (82, [l0, l1], [.int v], k, h) = zz_ck (decide (v = 0 ∨ v = 1)) (some (.inl (some (.int v)), k, h)) := zz_k_retz f52_82
theorem f52_83 : zz_fetch zz_prog 52 83 = some (.aload_n 0, 1, [], []) := zz_fetch_of p52 rfl rfl
theorem s52_83 : zz_Run zz_prog d 52 (83, [some (.ref a), l1], st, k, h) = zz_Run zz_prog d 52 (84, [some (.ref a), l1], .ref a :: st, k, h) := zz_k_num f52_83 rfl
theorem f52_84 : zz_fetch zz_prog 52 84 = some (.getfield 28, 3, [1, 7, 3], []) := zz_fetch_of p52 rfl rfl
theorem s52_84 : zz_Run zz_prog d 52 (84, [l0, l1], .ref 5 :: st, k, (zz_hp n I J ex)) = zz_Run zz_prog d 52 (87, [l0, l1], .ref 9 :: st, k, (zz_hp n I J ex)) := zz_k_go f52_84 rfl rfl rfl
theorem f52_87 : zz_fetch zz_prog 52 87 = some (.getfield 233, 3, [0, 13, 3], []) := zz_fetch_of p52 rfl rfl
theorem s52_87 : zz_Run zz_prog d 52 (87, [l0, l1], .ref 9 :: st, k, (zz_hp n I J ex)) = zz_Run zz_prog d 52 (90, [l0, l1], .ref 11 :: st, k, (zz_hp n I J ex)) := zz_k_go f52_87 rfl rfl rfl
theorem s52_87b : zz_Run zz_prog d 52 (87, [l0, l1], .ref 16 :: st, k, (zz_hp n I J ex)) = zz_Run zz_prog d 52 (90, [l0, l1], .ref 18 :: st, k, (zz_hp n I J ex)) := zz_k_go f52_87 rfl rfl rfl
theorem f52_90 : zz_fetch zz_prog 52 90 = some (.aload_n 0, 1, [], []) := zz_fetch_of p52 rfl rfl
theorem s52_90 : zz_Run zz_prog d 52 (90, [some (.ref a), l1], st, k, h) = zz_Run zz_prog d 52 (91, [some (.ref a), l1], .ref a :: st, k, h) := zz_k_num f52_90 rfl
theorem f52_91 : zz_fetch zz_prog 52 91 = some (.getfield 28, 3, [1, 7, 3], []) := zz_fetch_of p52 rfl rfl
theorem s52_91 : zz_Run zz_prog d 52 (91, [l0, l1], .ref 5 :: st, k, (zz_hp n I J ex)) = zz_Run zz_prog d 52 (94, [l0, l1], .ref 9 :: st, k, (zz_hp n I J ex)) := zz_k_go f52_91 rfl rfl rfl
theorem f52_94 : zz_fetch zz_prog 52 94 = some (.getfield 86, 3, [0, 1, 0], []) := zz_fetch_of p52 rfl rfl
theorem s52_94 : zz_Run zz_prog d 52 (94, [l0, l1], .ref 9 :: st, k, (zz_hp n I J ex)) = zz_Run zz_prog d 52 (97, [l0, l1], .int (I 9 1) :: st, k, (zz_hp n I J ex)) := zz_k_go f52_94 rfl rfl rfl
theorem s52_94b : zz_Run zz_prog d 52 (94, [l0, l1], .ref 16 :: st, k, (zz_hp n I J ex)) = zz_Run zz_prog d 52 (97, [l0, l1], .int (I 16 1) :: st, k, (zz_hp n I J ex)) := zz_k_go f52_94 rfl rfl rfl
theorem f52_97 : zz_fetch zz_prog 52 97 = some (.bipush 8, 2, [], []) := zz_fetch_of p52 rfl rfl
theorem s52_97 : zz_Run zz_prog d 52 (97, [l0, l1], st, k, h) = zz_Run zz_prog d 52 (99, [l0, l1], .int 8 :: st, k, h) := zz_k_num f52_97 (congrArg (fun u => some (99, [l0, l1], Value.int u :: st)) (by decide : (Int8.ofInt 8).toInt32 = 8))
theorem f52_99 : zz_fetch zz_prog 52 99 = some (.iadd, 1, [], []) := zz_fetch_of p52 rfl rfl
theorem s52_99 : zz_Run zz_prog d 52 (99, [l0, l1], .int w :: .int v :: st, k, h) = zz_Run zz_prog d 52 (100, [l0, l1], .int (v + w) :: st, k, h) := zz_k_num f52_99 rfl
theorem f52_100 : zz_fetch zz_prog 52 100 = some (.invokestatic 266, 3, [0, 53, 2], []) := zz_fetch_of p52 rfl rfl
theorem s52_100 : zz_Run zz_prog d 52 (100, [l0, l1], [b0, b1], k, h) = zz_ret (zz_Call zz_prog d 53 [b1, b0] h) (fun v k' h' => zz_Run zz_prog d 52 (103, [l0, l1], v.toList ++ [], k && k', h')) (fun a k' h' => zz_th d 52 100 a [l0, l1] (k && k') h') := zz_k_call f52_100 rfl rfl rfl
theorem f52_103 : zz_fetch zz_prog 52 103 = some (.iconst 4, 1, [], []) := zz_fetch_of p52 rfl rfl
theorem s52_103 : zz_Run zz_prog d 52 (103, [l0, l1], st, k, h) = zz_Run zz_prog d 52 (104, [l0, l1], .int 4 :: st, k, h) := zz_k_num f52_103 rfl
theorem f52_104 : zz_fetch zz_prog 52 104 = some (.if_icmp .ge 7, 3, [111], []) := zz_fetch_of p52 rfl rfl
theorem s52_104 : zz_Run zz_prog d 52 (104, [l0, l1], .int w :: .int v :: st, k, h) = if w ≤ v then zz_Run zz_prog d 52 (111, [l0, l1], st, k, h) else zz_Run zz_prog d 52 (107, [l0, l1], st, k, h) := zz_k_br (w ≤ v) rfl (zz_k_num f52_104 rfl)
theorem f52_107 : zz_fetch zz_prog 52 107 = some (.iconst 1, 1, [], []) := zz_fetch_of p52 rfl rfl
theorem s52_107 : zz_Run zz_prog d 52 (107, [l0, l1], st, k, h) = zz_Run zz_prog d 52 (108, [l0, l1], .int 1 :: st, k, h) := zz_k_num f52_107 rfl
theorem f52_108 : zz_fetch zz_prog 52 108 = some (.goto 4, 3, [112], []) := zz_fetch_of p52 rfl rfl
theorem s52_108 : zz_Run zz_prog d 52 (108, [l0, l1], st, k, h) = zz_Run zz_prog d 52 (112, [l0, l1], st, k, h) := zz_k_num f52_108 rfl
theorem f52_111 : zz_fetch zz_prog 52 111 = some (.iconst 0, 1, [], []) := zz_fetch_of p52 rfl rfl
theorem s52_111 : zz_Run zz_prog d 52 (111, [l0, l1], st, k, h) = zz_Run zz_prog d 52 (112, [l0, l1], .int 0 :: st, k, h) := zz_k_num f52_111 rfl
theorem f52_112 : zz_fetch zz_prog 52 112 = some (.ireturn, 1, [1], []) := zz_fetch_of p52 rfl rfl
theorem s52_112 : zz_Run zz_prog d 52 (112, [l0, l1], [.int v], k, h) = zz_ck (decide (v = 0 ∨ v = 1)) (some (.inl (some (.int v)), k, h)) := zz_k_retz f52_112
end S52
section S53
variable {d n j : Nat} {l0 l1 l2 l3 : Option Value} {st : List Value} {k : Bool} {h : zz_H} {v w v1 v2 : Int32} {y y1 : Int64} {a a1 a2 : Nat} {b0 b1 b2 b3 b4 b5 b6 b7 b8 : Value} {I : Nat → Nat → Int32} {J : Nat → Nat → Int64} {ex : List (Nat × Nat)}
theorem p53 : zz_prog 53 = some zz_m53 := rfl
theorem e53 (g0 : Nat) (g1 : Int32) : zz_Call zz_prog (d + 1) 53 [.ref g0, .int g1] h = zz_Run zz_prog d 53 (0, [some (.ref g0), some (.int g1), none, none], [], true, h) := rfl
theorem t53 (pc : Nat) (L : List (Option Value)) : zz_th d 53 pc a L k h = some (.inr a, k, h) := zz_th_out p53 rfl
theorem f53_0 : zz_fetch zz_prog 53 0 = some (.iconst 0, 1, [], []) := zz_fetch_of p53 rfl rfl
theorem s53_0 : zz_Run zz_prog d 53 (0, [l0, l1, l2, l3], st, k, h) = zz_Run zz_prog d 53 (1, [l0, l1, l2, l3], .int 0 :: st, k, h) := zz_k_num f53_0 rfl
theorem f53_1 : zz_fetch zz_prog 53 1 = some (.istore_n 2, 1, [], []) := zz_fetch_of p53 rfl rfl
theorem s53_1 : zz_Run zz_prog d 53 (1, [l0, l1, l2, l3], .int v :: st, k, h) = zz_sl l1 (zz_Run zz_prog d 53 (2, [l0, l1, some (.int v), l3], st, k, h)) := zz_k_st (j := 2) (u := .int v) f53_1 rfl (fun q hq => by cases hq) rfl (show 2 < 4 by decide) (by cases l1 <;> rfl) rfl
theorem f53_2 : zz_fetch zz_prog 53 2 = some (.iconst 0, 1, [], []) := zz_fetch_of p53 rfl rfl
theorem s53_2 : zz_Run zz_prog d 53 (2, [l0, l1, l2, l3], st, k, h) = zz_Run zz_prog d 53 (3, [l0, l1, l2, l3], .int 0 :: st, k, h) := zz_k_num f53_2 rfl
theorem f53_3 : zz_fetch zz_prog 53 3 = some (.istore_n 3, 1, [], []) := zz_fetch_of p53 rfl rfl
theorem s53_3 : zz_Run zz_prog d 53 (3, [l0, l1, l2, l3], .int v :: st, k, h) = zz_sl l2 (zz_Run zz_prog d 53 (4, [l0, l1, l2, some (.int v)], st, k, h)) := zz_k_st (j := 3) (u := .int v) f53_3 rfl (fun q hq => by cases hq) rfl (show 3 < 4 by decide) (by cases l2 <;> rfl) rfl
theorem f53_4 : zz_fetch zz_prog 53 4 = some (.iload_n 3, 1, [], []) := zz_fetch_of p53 rfl rfl
theorem s53_4 : zz_Run zz_prog d 53 (4, [l0, l1, l2, some (.int v)], st, k, h) = zz_Run zz_prog d 53 (5, [l0, l1, l2, some (.int v)], .int v :: st, k, h) := zz_k_num f53_4 rfl
theorem f53_5 : zz_fetch zz_prog 53 5 = some (.aload_n 0, 1, [], []) := zz_fetch_of p53 rfl rfl
theorem s53_5 : zz_Run zz_prog d 53 (5, [some (.ref a), l1, l2, l3], st, k, h) = zz_Run zz_prog d 53 (6, [some (.ref a), l1, l2, l3], .ref a :: st, k, h) := zz_k_num f53_5 rfl
theorem f53_6 : zz_fetch zz_prog 53 6 = some (.arraylength, 1, [], []) := zz_fetch_of p53 rfl rfl
theorem s53_6 (ha : zz_isrd a = true) : zz_Run zz_prog d 53 (6, [l0, l1, l2, l3], .ref a :: st, k, (zz_hp n I J ex)) = zz_Run zz_prog d 53 (7, [l0, l1, l2, l3], .int (Int32.ofNat (zz_ary n a)) :: st, k, (zz_hp n I J ex)) := zz_k_alen f53_6 ha
theorem f53_7 : zz_fetch zz_prog 53 7 = some (.if_icmp .ge 19, 3, [26], []) := zz_fetch_of p53 rfl rfl
theorem s53_7 : zz_Run zz_prog d 53 (7, [l0, l1, l2, l3], .int w :: .int v :: st, k, h) = if w ≤ v then zz_Run zz_prog d 53 (26, [l0, l1, l2, l3], st, k, h) else zz_Run zz_prog d 53 (10, [l0, l1, l2, l3], st, k, h) := zz_k_br (w ≤ v) rfl (zz_k_num f53_7 rfl)
theorem f53_10 : zz_fetch zz_prog 53 10 = some (.aload_n 0, 1, [], []) := zz_fetch_of p53 rfl rfl
theorem s53_10 : zz_Run zz_prog d 53 (10, [some (.ref a), l1, l2, l3], st, k, h) = zz_Run zz_prog d 53 (11, [some (.ref a), l1, l2, l3], .ref a :: st, k, h) := zz_k_num f53_10 rfl
theorem f53_11 : zz_fetch zz_prog 53 11 = some (.iload_n 3, 1, [], []) := zz_fetch_of p53 rfl rfl
theorem s53_11 : zz_Run zz_prog d 53 (11, [l0, l1, l2, some (.int v)], st, k, h) = zz_Run zz_prog d 53 (12, [l0, l1, l2, some (.int v)], .int v :: st, k, h) := zz_k_num f53_11 rfl
theorem f53_12 : zz_fetch zz_prog 53 12 = some (.iaload, 1, [], []) := zz_fetch_of p53 rfl rfl
theorem s53_12 (ha : zz_isrd a = true) : zz_Run zz_prog d 53 (12, [l0, l1, l2, l3], .int v :: .ref a :: st, k, (zz_hp n I J ex)) = zz_ck (zz_in v (zz_ary n a)) (zz_Run zz_prog d 53 (13, [l0, l1, l2, l3], .int (I a v.toNatClampNeg) :: st, k, (zz_hp n I J ex))) := zz_k_iald f53_12 ha
theorem f53_13 : zz_fetch zz_prog 53 13 = some (.iload_n 1, 1, [], []) := zz_fetch_of p53 rfl rfl
theorem s53_13 : zz_Run zz_prog d 53 (13, [l0, some (.int v), l2, l3], st, k, h) = zz_Run zz_prog d 53 (14, [l0, some (.int v), l2, l3], .int v :: st, k, h) := zz_k_num f53_13 rfl
theorem f53_14 : zz_fetch zz_prog 53 14 = some (.if_icmp .ne 6, 3, [20], []) := zz_fetch_of p53 rfl rfl
theorem s53_14 : zz_Run zz_prog d 53 (14, [l0, l1, l2, l3], .int w :: .int v :: st, k, h) = if ¬ v = w then zz_Run zz_prog d 53 (20, [l0, l1, l2, l3], st, k, h) else zz_Run zz_prog d 53 (17, [l0, l1, l2, l3], st, k, h) := zz_k_br (¬ v = w) rfl (zz_k_num f53_14 rfl)
theorem f53_17 : zz_fetch zz_prog 53 17 = some (.iinc 2 1, 3, [], []) := zz_fetch_of p53 rfl rfl
theorem s53_17 : zz_Run zz_prog d 53 (17, [l0, l1, some (.int v), l3], st, k, h) = zz_sl l1 (zz_Run zz_prog d 53 (20, [l0, l1, some (.int (v + 1)), l3], st, k, h)) := zz_k_st (j := 2) (u := .int (v + 1)) f53_17 rfl (fun q hq => by cases hq) rfl (show 2 < 4 by decide) (by cases l1 <;> rfl) rfl
theorem f53_20 : zz_fetch zz_prog 53 20 = some (.iinc 3 1, 3, [], []) := zz_fetch_of p53 rfl rfl
theorem s53_20 : zz_Run zz_prog d 53 (20, [l0, l1, l2, some (.int v)], st, k, h) = zz_sl l2 (zz_Run zz_prog d 53 (23, [l0, l1, l2, some (.int (v + 1))], st, k, h)) := zz_k_st (j := 3) (u := .int (v + 1)) f53_20 rfl (fun q hq => by cases hq) rfl (show 3 < 4 by decide) (by cases l2 <;> rfl) rfl
theorem f53_23 : zz_fetch zz_prog 53 23 = some (.goto (-19), 3, [4], []) := zz_fetch_of p53 rfl rfl
theorem s53_23 : zz_Run zz_prog d 53 (23, [l0, l1, l2, l3], st, k, h) = zz_Run zz_prog d 53 (4, [l0, l1, l2, l3], st, k, h) := zz_k_num f53_23 rfl
theorem f53_26 : zz_fetch zz_prog 53 26 = some (.iload_n 2, 1, [], []) := zz_fetch_of p53 rfl rfl
theorem s53_26 : zz_Run zz_prog d 53 (26, [l0, l1, some (.int v), l3], st, k, h) = zz_Run zz_prog d 53 (27, [l0, l1, some (.int v), l3], .int v :: st, k, h) := zz_k_num f53_26 rfl
theorem f53_27 : zz_fetch zz_prog 53 27 = some (.ireturn, 1, [0], []) := zz_fetch_of p53 rfl rfl
theorem s53_27 : zz_Run zz_prog d 53 (27, [l0, l1, l2, l3], [.int v], k, h) = some (.inl (some (.int v)), k, h) := zz_k_stop f53_27 rfl rfl rfl
end S53
section S54
variable {d n j : Nat} {l0 l1 l2 : Option Value} {st : List Value} {k : Bool} {h : zz_H} {v w v1 v2 : Int32} {y y1 : Int64} {a a1 a2 : Nat} {b0 b1 b2 b3 b4 b5 b6 b7 b8 : Value} {I : Nat → Nat → Int32} {J : Nat → Nat → Int64} {ex : List (Nat × Nat)}
theorem p54 : zz_prog 54 = some zz_m54 := rfl
theorem e54 (g0 : Nat) (g1 : Int32) (g2 : Int32) : zz_Call zz_prog (d + 1) 54 [.ref g0, .int g1, .int g2] h = zz_Run zz_prog d 54 (0, [some (.ref g0), some (.int g1), some (.int g2)], [], true, h) := rfl
theorem t54 (pc : Nat) (L : List (Option Value)) : zz_th d 54 pc a L k h = some (.inr a, k, h) := zz_th_out p54 rfl
theorem f54_0 : zz_fetch zz_prog 54 0 = some (.iload_n 1, 1, [], []) := zz_fetch_of p54 rfl rfl
theorem s54_0 : zz_Run zz_prog d 54 (0, [l0, some (.int v), l2], st, k, h) = zz_Run zz_prog d 54 (1, [l0, some (.int v), l2], .int v :: st, k, h) := zz_k_num f54_0 rfl
theorem f54_1 : zz_fetch zz_prog 54 1 = some (.lookupswitch 39 #[(0, 27), (1, 33)], 27, [40], [(0, 28), (1, 34)]) := zz_fetch_of p54 rfl rfl
theorem s54_1 : zz_Run zz_prog d 54 (1, [l0, l1, l2], .int v :: st, k, h) = zz_Run zz_prog d 54 (zz_sw v 40 [(0, 28), (1, 34)], [l0, l1, l2], st, k, h) := zz_k_num f54_1 rfl
theorem f54_28 : zz_fetch zz_prog 54 28 = some (.aload_n 0, 1, [], []) := zz_fetch_of p54 rfl rfl
theorem s54_28 : zz_Run zz_prog d 54 (28, [some (.ref a), l1, l2], st, k, h) = zz_Run zz_prog d 54 (29, [some (.ref a), l1, l2], .ref a :: st, k, h) := zz_k_num f54_28 rfl
theorem f54_29 : zz_fetch zz_prog 54 29 = some (.iload_n 2, 1, [], []) := zz_fetch_of p54 rfl rfl
theorem s54_29 : zz_Run zz_prog d 54 (29, [l0, l1, some (.int v)], st, k, h) = zz_Run zz_prog d 54 (30, [l0, l1, some (.int v)], .int v :: st, k, h) := zz_k_num f54_29 rfl
theorem f54_30 : zz_fetch zz_prog 54 30 = some (.invokevirtual 270, 3, [0, 55, 2, 1], []) := zz_fetch_of p54 rfl rfl
theorem s54_30 : zz_Run zz_prog d 54 (30, [l0, l1, l2], [b0, .ref 5], k, (zz_hp n I J ex)) = zz_ret (zz_Call zz_prog d 55 [.ref 5, b0] (zz_hp n I J ex)) (fun v k' h' => zz_Run zz_prog d 54 (33, [l0, l1, l2], v.toList ++ [], k && k', h')) (fun a k' h' => zz_th d 54 30 a [l0, l1, l2] (k && k') h') := zz_k_call f54_30 rfl rfl rfl
theorem f54_33 : zz_fetch zz_prog 54 33 = some (.ireturn, 1, [1], []) := zz_fetch_of p54 rfl rfl
theorem s54_33 : zz_Run zz_prog d 54 (33, [l0, l1, l2], [.int v], k, h) = zz_ck (decide (v = 0 ∨ v = 1)) (some (.inl (some (.int v)), k, h)) := zz_k_retz f54_33
theorem f54_34 : zz_fetch zz_prog 54 34 = some (.aload_n 0, 1, [], []) := zz_fetch_of p54 rfl rfl
theorem s54_34 : zz_Run zz_prog d 54 (34, [some (.ref a), l1, l2], st, k, h) = zz_Run zz_prog d 54 (35, [some (.ref a), l1, l2], .ref a :: st, k, h) := zz_k_num f54_34 rfl
theorem f54_35 : zz_fetch zz_prog 54 35 = some (.iload_n 2, 1, [], []) := zz_fetch_of p54 rfl rfl
theorem s54_35 : zz_Run zz_prog d 54 (35, [l0, l1, some (.int v)], st, k, h) = zz_Run zz_prog d 54 (36, [l0, l1, some (.int v)], .int v :: st, k, h) := zz_k_num f54_35 rfl
theorem f54_36 : zz_fetch zz_prog 54 36 = some (.invokevirtual 273, 3, [0, 58, 2, 1], []) := zz_fetch_of p54 rfl rfl
theorem s54_36 : zz_Run zz_prog d 54 (36, [l0, l1, l2], [b0, .ref 5], k, (zz_hp n I J ex)) = zz_ret (zz_Call zz_prog d 58 [.ref 5, b0] (zz_hp n I J ex)) (fun v k' h' => zz_Run zz_prog d 54 (39, [l0, l1, l2], v.toList ++ [], k && k', h')) (fun a k' h' => zz_th d 54 36 a [l0, l1, l2] (k && k') h') := zz_k_call f54_36 rfl rfl rfl
theorem f54_39 : zz_fetch zz_prog 54 39 = some (.ireturn, 1, [1], []) := zz_fetch_of p54 rfl rfl
theorem s54_39 : zz_Run zz_prog d 54 (39, [l0, l1, l2], [.int v], k, h) = zz_ck (decide (v = 0 ∨ v = 1)) (some (.inl (some (.int v)), k, h)) := zz_k_retz f54_39
theorem f54_40 : zz_fetch zz_prog 54 40 = some (.aload_n 0, 1, [], []) := zz_fetch_of p54 rfl rfl
theorem s54_40 : zz_Run zz_prog d 54 (40, [some (.ref a), l1, l2], st, k, h) = zz_Run zz_prog d 54 (41, [some (.ref a), l1, l2], .ref a :: st, k, h) := zz_k_num f54_40 rfl
theorem f54_41 : zz_fetch zz_prog 54 41 = some (.getfield 28, 3, [1, 7, 3], []) := zz_fetch_of p54 rfl rfl
theorem s54_41 : zz_Run zz_prog d 54 (41, [l0, l1, l2], .ref 5 :: st, k, (zz_hp n I J ex)) = zz_Run zz_prog d 54 (44, [l0, l1, l2], .ref 9 :: st, k, (zz_hp n I J ex)) := zz_k_go f54_41 rfl rfl rfl
theorem f54_44 : zz_fetch zz_prog 54 44 = some (.getfield 233, 3, [0, 13, 3], []) := zz_fetch_of p54 rfl rfl
theorem s54_44 : zz_Run zz_prog d 54 (44, [l0, l1, l2], .ref 9 :: st, k, (zz_hp n I J ex)) = zz_Run zz_prog d 54 (47, [l0, l1, l2], .ref 11 :: st, k, (zz_hp n I J ex)) := zz_k_go f54_44 rfl rfl rfl
theorem s54_44b : zz_Run zz_prog d 54 (44, [l0, l1, l2], .ref 16 :: st, k, (zz_hp n I J ex)) = zz_Run zz_prog d 54 (47, [l0, l1, l2], .ref 18 :: st, k, (zz_hp n I J ex)) := zz_k_go f54_44 rfl rfl rfl
theorem f54_47 : zz_fetch zz_prog 54 47 = some (.iload_n 2, 1, [], []) := zz_fetch_of p54 rfl rfl
theorem s54_47 : zz_Run zz_prog d 54 (47, [l0, l1, some (.int v)], st, k, h) = zz_Run zz_prog d 54 (48, [l0, l1, some (.int v)], .int v :: st, k, h) := zz_k_num f54_47 rfl
theorem f54_48 : zz_fetch zz_prog 54 48 = some (.iaload, 1, [], []) := zz_fetch_of p54 rfl rfl
theorem s54_48 (ha : zz_isrd a = true) : zz_Run zz_prog d 54 (48, [l0, l1, l2], .int v :: .ref a :: st, k, (zz_hp n I J ex)) = zz_ck (zz_in v (zz_ary n a)) (zz_Run zz_prog d 54 (49, [l0, l1, l2], .int (I a v.toNatClampNeg) :: st, k, (zz_hp n I J ex))) := zz_k_iald f54_48 ha
theorem f54_49 : zz_fetch zz_prog 54 49 = some (.aload_n 0, 1, [], []) := zz_fetch_of p54 rfl rfl
theorem s54_49 : zz_Run zz_prog d 54 (49, [some (.ref a), l1, l2], st, k, h) = zz_Run zz_prog d 54 (50, [some (.ref a), l1, l2], .ref a :: st, k, h) := zz_k_num f54_49 rfl
theorem f54_50 : zz_fetch zz_prog 54 50 = some (.getfield 28, 3, [1, 7, 3], []) := zz_fetch_of p54 rfl rfl
theorem s54_50 : zz_Run zz_prog d 54 (50, [l0, l1, l2], .ref 5 :: st, k, (zz_hp n I J ex)) = zz_Run zz_prog d 54 (53, [l0, l1, l2], .ref 9 :: st, k, (zz_hp n I J ex)) := zz_k_go f54_50 rfl rfl rfl
theorem f54_53 : zz_fetch zz_prog 54 53 = some (.getfield 86, 3, [0, 1, 0], []) := zz_fetch_of p54 rfl rfl
theorem s54_53 : zz_Run zz_prog d 54 (53, [l0, l1, l2], .ref 9 :: st, k, (zz_hp n I J ex)) = zz_Run zz_prog d 54 (56, [l0, l1, l2], .int (I 9 1) :: st, k, (zz_hp n I J ex)) := zz_k_go f54_53 rfl rfl rfl
theorem s54_53b : zz_Run zz_prog d 54 (53, [l0, l1, l2], .ref 16 :: st, k, (zz_hp n I J ex)) = zz_Run zz_prog d 54 (56, [l0, l1, l2], .int (I 16 1) :: st, k, (zz_hp n I J ex)) := zz_k_go f54_53 rfl rfl rfl
theorem f54_56 : zz_fetch zz_prog 54 56 = some (.if_icmp .ne 7, 3, [63], []) := zz_fetch_of p54 rfl rfl
theorem s54_56 : zz_Run zz_prog d 54 (56, [l0, l1, l2], .int w :: .int v :: st, k, h) = if ¬ v = w then zz_Run zz_prog d 54 (63, [l0, l1, l2], st, k, h) else zz_Run zz_prog d 54 (59, [l0, l1, l2], st, k, h) := zz_k_br (¬ v = w) rfl (zz_k_num f54_56 rfl)
theorem f54_59 : zz_fetch zz_prog 54 59 = some (.iconst 1, 1, [], []) := zz_fetch_of p54 rfl rfl
theorem s54_59 : zz_Run zz_prog d 54 (59, [l0, l1, l2], st, k, h) = zz_Run zz_prog d 54 (60, [l0, l1, l2], .int 1 :: st, k, h) := zz_k_num f54_59 rfl
theorem f54_60 : zz_fetch zz_prog 54 60 = some (.goto 4, 3, [64], []) := zz_fetch_of p54 rfl rfl
theorem s54_60 : zz_Run zz_prog d 54 (60, [l0, l1, l2], st, k, h) = zz_Run zz_prog d 54 (64, [l0, l1, l2], st, k, h) := zz_k_num f54_60 rfl
theorem f54_63 : zz_fetch zz_prog 54 63 = some (.iconst 0, 1, [], []) := zz_fetch_of p54 rfl rfl
theorem s54_63 : zz_Run zz_prog d 54 (63, [l0, l1, l2], st, k, h) = zz_Run zz_prog d 54 (64, [l0, l1, l2], .int 0 :: st, k, h) := zz_k_num f54_63 rfl
theorem f54_64 : zz_fetch zz_prog 54 64 = some (.ireturn, 1, [1], []) := zz_fetch_of p54 rfl rfl
theorem s54_64 : zz_Run zz_prog d 54 (64, [l0, l1, l2], [.int v], k, h) = zz_ck (decide (v = 0 ∨ v = 1)) (some (.inl (some (.int v)), k, h)) := zz_k_retz f54_64
end S54
section S55
variable {d n j : Nat} {l0 l1 : Option Value} {st : List Value} {k : Bool} {h : zz_H} {v w v1 v2 : Int32} {y y1 : Int64} {a a1 a2 : Nat} {b0 b1 b2 b3 b4 b5 b6 b7 b8 : Value} {I : Nat → Nat → Int32} {J : Nat → Nat → Int64} {ex : List (Nat × Nat)}
theorem p55 : zz_prog 55 = some zz_m55 := rfl
theorem e55 (g0 : Nat) (g1 : Int32) : zz_Call zz_prog (d + 1) 55 [.ref g0, .int g1] h = zz_Run zz_prog d 55 (0, [some (.ref g0), some (.int g1)], [], true, h) := rfl
theorem t55 (pc : Nat) (L : List (Option Value)) : zz_th d 55 pc a L k h = some (.inr a, k, h) := zz_th_out p55 rfl
theorem f55_0 : zz_fetch zz_prog 55 0 = some (.aload_n 0, 1, [], []) := zz_fetch_of p55 rfl rfl
theorem s55_0 : zz_Run zz_prog d 55 (0, [some (.ref a), l1], st, k, h) = zz_Run zz_prog d 55 (1, [some (.ref a), l1], .ref a :: st, k, h) := zz_k_num f55_0 rfl
theorem f55_1 : zz_fetch zz_prog 55 1 = some (.getfield 28, 3, [1, 7, 3], []) := zz_fetch_of p55 rfl rfl
theorem s55_1 : zz_Run zz_prog d 55 (1, [l0, l1], .ref 5 :: st, k, (zz_hp n I J ex)) = zz_Run zz_prog d 55 (4, [l0, l1], .ref 9 :: st, k, (zz_hp n I J ex)) := zz_k_go f55_1 rfl rfl rfl
theorem f55_4 : zz_fetch zz_prog 55 4 = some (.getfield 230, 3, [0, 12, 3], []) := zz_fetch_of p55 rfl rfl
theorem s55_4 : zz_Run zz_prog d 55 (4, [l0, l1], .ref 9 :: st, k, (zz_hp n I J ex)) = zz_Run zz_prog d 55 (7, [l0, l1], .ref 10 :: st, k, (zz_hp n I J ex)) := zz_k_go f55_4 rfl rfl rfl
theorem s55_4b : zz_Run zz_prog d 55 (4, [l0, l1], .ref 16 :: st, k, (zz_hp n I J ex)) = zz_Run zz_prog d 55 (7, [l0, l1], .ref 17 :: st, k, (zz_hp n I J ex)) := zz_k_go f55_4 rfl rfl rfl
theorem f55_7 : zz_fetch zz_prog 55 7 = some (.iload_n 1, 1, [], []) := zz_fetch_of p55 rfl rfl
theorem s55_7 : zz_Run zz_prog d 55 (7, [l0, some (.int v)], st, k, h) = zz_Run zz_prog d 55 (8, [l0, some (.int v)], .int v :: st, k, h) := zz_k_num f55_7 rfl
theorem f55_8 : zz_fetch zz_prog 55 8 = some (.iaload, 1, [], []) := zz_fetch_of p55 rfl rfl
theorem s55_8 (ha : zz_isrd a = true) : zz_Run zz_prog d 55 (8, [l0, l1], .int v :: .ref a :: st, k, (zz_hp n I J ex)) = zz_ck (zz_in v (zz_ary n a)) (zz_Run zz_prog d 55 (9, [l0, l1], .int (I a v.toNatClampNeg) :: st, k, (zz_hp n I J ex))) := zz_k_iald f55_8 ha
theorem f55_9 : zz_fetch zz_prog 55 9 = some (.iconst (-1), 1, [], []) := zz_fetch_of p55 rfl rfl
theorem s55_9 : zz_Run zz_prog d 55 (9, [l0, l1], st, k, h) = zz_Run zz_prog d 55 (10, [l0, l1], .int (-1) :: st, k, h) := zz_k_num f55_9 rfl
theorem f55_10 : zz_fetch zz_prog 55 10 = some (.if_icmp .eq 5, 3, [15], []) := zz_fetch_of p55 rfl rfl
theorem s55_10 : zz_Run zz_prog d 55 (10, [l0, l1], .int w :: .int v :: st, k, h) = if v = w then zz_Run zz_prog d 55 (15, [l0, l1], st, k, h) else zz_Run zz_prog d 55 (13, [l0, l1], st, k, h) := zz_k_br (v = w) rfl (zz_k_num f55_10 rfl)
theorem f55_13 : zz_fetch zz_prog 55 13 = some (.iconst 0, 1, [], []) := zz_fetch_of p55 rfl rfl
theorem s55_13 : zz_Run zz_prog d 55 (13, [l0, l1], st, k, h) = zz_Run zz_prog d 55 (14, [l0, l1], .int 0 :: st, k, h) := zz_k_num f55_13 rfl
theorem f55_14 : zz_fetch zz_prog 55 14 = some (.ireturn, 1, [1], []) := zz_fetch_of p55 rfl rfl
theorem s55_14 : zz_Run zz_prog d 55 (14, [l0, l1], [.int v], k, h) = zz_ck (decide (v = 0 ∨ v = 1)) (some (.inl (some (.int v)), k, h)) := zz_k_retz f55_14
theorem f55_15 : zz_fetch zz_prog 55 15 = some (.aload_n 0, 1, [], []) := zz_fetch_of p55 rfl rfl
theorem s55_15 : zz_Run zz_prog d 55 (15, [some (.ref a), l1], st, k, h) = zz_Run zz_prog d 55 (16, [some (.ref a), l1], .ref a :: st, k, h) := zz_k_num f55_15 rfl
theorem f55_16 : zz_fetch zz_prog 55 16 = some (.getfield 28, 3, [1, 7, 3], []) := zz_fetch_of p55 rfl rfl
theorem s55_16 : zz_Run zz_prog d 55 (16, [l0, l1], .ref 5 :: st, k, (zz_hp n I J ex)) = zz_Run zz_prog d 55 (19, [l0, l1], .ref 9 :: st, k, (zz_hp n I J ex)) := zz_k_go f55_16 rfl rfl rfl
theorem f55_19 : zz_fetch zz_prog 55 19 = some (.getfield 89, 3, [0, 0, 0], []) := zz_fetch_of p55 rfl rfl
theorem s55_19 : zz_Run zz_prog d 55 (19, [l0, l1], .ref 9 :: st, k, (zz_hp n I J ex)) = zz_Run zz_prog d 55 (22, [l0, l1], .int (I 9 0) :: st, k, (zz_hp n I J ex)) := zz_k_go f55_19 rfl rfl rfl
theorem s55_19b : zz_Run zz_prog d 55 (19, [l0, l1], .ref 16 :: st, k, (zz_hp n I J ex)) = zz_Run zz_prog d 55 (22, [l0, l1], .int (I 16 0) :: st, k, (zz_hp n I J ex)) := zz_k_go f55_19 rfl rfl rfl
theorem f55_22 : zz_fetch zz_prog 55 22 = some (.iconst 2, 1, [], []) := zz_fetch_of p55 rfl rfl
theorem s55_22 : zz_Run zz_prog d 55 (22, [l0, l1], st, k, h) = zz_Run zz_prog d 55 (23, [l0, l1], .int 2 :: st, k, h) := zz_k_num f55_22 rfl
theorem f55_23 : zz_fetch zz_prog 55 23 = some (.if_icmp .ne 15, 3, [38], []) := zz_fetch_of p55 rfl rfl
theorem s55_23 : zz_Run zz_prog d 55 (23, [l0, l1], .int w :: .int v :: st, k, h) = if ¬ v = w then zz_Run zz_prog d 55 (38, [l0, l1], st, k, h) else zz_Run zz_prog d 55 (26, [l0, l1], st, k, h) := zz_k_br (¬ v = w) rfl (zz_k_num f55_23 rfl)
theorem f55_26 : zz_fetch zz_prog 55 26 = some (.iload_n 1, 1, [], []) := zz_fetch_of p55 rfl rfl
theorem s55_26 : zz_Run zz_prog d 55 (26, [l0, some (.int v)], st, k, h) = zz_Run zz_prog d 55 (27, [l0, some (.int v)], .int v :: st, k, h) := zz_k_num f55_26 rfl
theorem f55_27 : zz_fetch zz_prog 55 27 = some (.aload_n 0, 1, [], []) := zz_fetch_of p55 rfl rfl
theorem s55_27 : zz_Run zz_prog d 55 (27, [some (.ref a), l1], st, k, h) = zz_Run zz_prog d 55 (28, [some (.ref a), l1], .ref a :: st, k, h) := zz_k_num f55_27 rfl
theorem f55_28 : zz_fetch zz_prog 55 28 = some (.getfield 28, 3, [1, 7, 3], []) := zz_fetch_of p55 rfl rfl
theorem s55_28 : zz_Run zz_prog d 55 (28, [l0, l1], .ref 5 :: st, k, (zz_hp n I J ex)) = zz_Run zz_prog d 55 (31, [l0, l1], .ref 9 :: st, k, (zz_hp n I J ex)) := zz_k_go f55_28 rfl rfl rfl
theorem f55_31 : zz_fetch zz_prog 55 31 = some (.getfield 276, 3, [0, 3, 0], []) := zz_fetch_of p55 rfl rfl
theorem s55_31 : zz_Run zz_prog d 55 (31, [l0, l1], .ref 9 :: st, k, (zz_hp n I J ex)) = zz_Run zz_prog d 55 (34, [l0, l1], .int (I 9 3) :: st, k, (zz_hp n I J ex)) := zz_k_go f55_31 rfl rfl rfl
theorem s55_31b : zz_Run zz_prog d 55 (31, [l0, l1], .ref 16 :: st, k, (zz_hp n I J ex)) = zz_Run zz_prog d 55 (34, [l0, l1], .int (I 16 3) :: st, k, (zz_hp n I J ex)) := zz_k_go f55_31 rfl rfl rfl
theorem f55_34 : zz_fetch zz_prog 55 34 = some (.invokestatic 279, 3, [0, 39, 2], []) := zz_fetch_of p55 rfl rfl
theorem s55_34 : zz_Run zz_prog d 55 (34, [l0, l1], [b0, b1], k, h) = zz_ret (zz_Call zz_prog d 39 [b1, b0] h) (fun v k' h' => zz_Run zz_prog d 55 (37, [l0, l1], v.toList ++ [], k && k', h')) (fun a k' h' => zz_th d 55 34 a [l0, l1] (k && k') h') := zz_k_call f55_34 rfl rfl rfl
theorem f55_37 : zz_fetch zz_prog 55 37 = some (.ireturn, 1, [1], []) := zz_fetch_of p55 rfl rfl
theorem s55_37 : zz_Run zz_prog d 55 (37, [l0, l1], [.int v], k, h) = zz_ck (decide (v = 0 ∨ v = 1)) (some (.inl (some (.int v)), k, h)) := zz_k_retz f55_37
theorem f55_38 : zz_fetch zz_prog 55 38 = some (.aload_n 0, 1, [], []) := zz_fetch_of p55 rfl rfl
theorem s55_38 : zz_Run zz_prog d 55 (38, [some (.ref a), l1], st, k, h) = zz_Run zz_prog d 55 (39, [some (.ref a), l1], .ref a :: st, k, h) := zz_k_num f55_38 rfl
theorem f55_39 : zz_fetch zz_prog 55 39 = some (.getstatic 60, 3, [3], []) := zz_fetch_of p55 rfl rfl
theorem s55_39 : zz_Run zz_prog d 55 (39, [l0, l1], st, k, (zz_hp n I J ex)) = zz_Run zz_prog d 55 (42, [l0, l1], .ref 3 :: st, k, (zz_hp n I J ex)) := zz_k_go f55_39 rfl rfl rfl
theorem f55_42 : zz_fetch zz_prog 55 42 = some (.iconst 2, 1, [], []) := zz_fetch_of p55 rfl rfl
theorem s55_42 : zz_Run zz_prog d 55 (42, [l0, l1], st, k, h) = zz_Run zz_prog d 55 (43, [l0, l1], .int 2 :: st, k, h) := zz_k_num f55_42 rfl
theorem f55_43 : zz_fetch zz_prog 55 43 = some (.iload_n 1, 1, [], []) := zz_fetch_of p55 rfl rfl
theorem s55_43 : zz_Run zz_prog d 55 (43, [l0, some (.int v)], st, k, h) = zz_Run zz_prog d 55 (44, [l0, some (.int v)], .int v :: st, k, h) := zz_k_num f55_43 rfl
theorem f55_44 : zz_fetch zz_prog 55 44 = some (.imul, 1, [], []) := zz_fetch_of p55 rfl rfl
theorem s55_44 : zz_Run zz_prog d 55 (44, [l0, l1], .int w :: .int v :: st, k, h) = zz_Run zz_prog d 55 (45, [l0, l1], .int (v * w) :: st, k, h) := zz_k_num f55_44 rfl
theorem f55_45 : zz_fetch zz_prog 55 45 = some (.iaload, 1, [], []) := zz_fetch_of p55 rfl rfl
theorem s55_45 (ha : zz_isrd a = true) : zz_Run zz_prog d 55 (45, [l0, l1], .int v :: .ref a :: st, k, (zz_hp n I J ex)) = zz_ck (zz_in v (zz_ary n a)) (zz_Run zz_prog d 55 (46, [l0, l1], .int (I a v.toNatClampNeg) :: st, k, (zz_hp n I J ex))) := zz_k_iald f55_45 ha
theorem f55_46 : zz_fetch zz_prog 55 46 = some (.invokevirtual 282, 3, [0, 56, 2, 1], []) := zz_fetch_of p55 rfl rfl
theorem s55_46 : zz_Run zz_prog d 55 (46, [l0, l1], [b0, .ref 5], k, (zz_hp n I J ex)) = zz_ret (zz_Call zz_prog d 56 [.ref 5, b0] (zz_hp n I J ex)) (fun v k' h' => zz_Run zz_prog d 55 (49, [l0, l1], v.toList ++ [], k && k', h')) (fun a k' h' => zz_th d 55 46 a [l0, l1] (k && k') h') := zz_k_call f55_46 rfl rfl rfl
theorem f55_49 : zz_fetch zz_prog 55 49 = some (.ifCond .ne 19, 3, [68], []) := zz_fetch_of p55 rfl rfl
theorem s55_49 : zz_Run zz_prog d 55 (49, [l0, l1], .int v :: st, k, h) = if ¬ v = 0 then zz_Run zz_prog d 55 (68, [l0, l1], st, k, h) else zz_Run zz_prog d 55 (52, [l0, l1], st, k, h) := zz_k_br (¬ v = 0) rfl (zz_k_num f55_49 rfl)
theorem f55_52 : zz_fetch zz_prog 55 52 = some (.aload_n 0, 1, [], []) := zz_fetch_of p55 rfl rfl
theorem s55_52 : zz_Run zz_prog d 55 (52, [some (.ref a), l1], st, k, h) = zz_Run zz_prog d 55 (53, [some (.ref a), l1], .ref a :: st, k, h) := zz_k_num f55_52 rfl
theorem f55_53 : zz_fetch zz_prog 55 53 = some (.getstatic 60, 3, [3], []) := zz_fetch_of p55 rfl rfl
theorem s55_53 : zz_Run zz_prog d 55 (53, [l0, l1], st, k, (zz_hp n I J ex)) = zz_Run zz_prog d 55 (56, [l0, l1], .ref 3 :: st, k, (zz_hp n I J ex)) := zz_k_go f55_53 rfl rfl rfl
theorem f55_56 : zz_fetch zz_prog 55 56 = some (.iconst 2, 1, [], []) := zz_fetch_of p55 rfl rfl
theorem s55_56 : zz_Run zz_prog d 55 (56, [l0, l1], st, k, h) = zz_Run zz_prog d 55 (57, [l0, l1], .int 2 :: st, k, h) := zz_k_num f55_56 rfl
theorem f55_57 : zz_fetch zz_prog 55 57 = some (.iload_n 1, 1, [], []) := zz_fetch_of p55 rfl rfl
theorem s55_57 : zz_Run zz_prog d 55 (57, [l0, some (.int v)], st, k, h) = zz_Run zz_prog d 55 (58, [l0, some (.int v)], .int v :: st, k, h) := zz_k_num f55_57 rfl
theorem f55_58 : zz_fetch zz_prog 55 58 = some (.imul, 1, [], []) := zz_fetch_of p55 rfl rfl
theorem s55_58 : zz_Run zz_prog d 55 (58, [l0, l1], .int w :: .int v :: st, k, h) = zz_Run zz_prog d 55 (59, [l0, l1], .int (v * w) :: st, k, h) := zz_k_num f55_58 rfl
theorem f55_59 : zz_fetch zz_prog 55 59 = some (.iconst 1, 1, [], []) := zz_fetch_of p55 rfl rfl
theorem s55_59 : zz_Run zz_prog d 55 (59, [l0, l1], st, k, h) = zz_Run zz_prog d 55 (60, [l0, l1], .int 1 :: st, k, h) := zz_k_num f55_59 rfl
theorem f55_60 : zz_fetch zz_prog 55 60 = some (.iadd, 1, [], []) := zz_fetch_of p55 rfl rfl
theorem s55_60 : zz_Run zz_prog d 55 (60, [l0, l1], .int w :: .int v :: st, k, h) = zz_Run zz_prog d 55 (61, [l0, l1], .int (v + w) :: st, k, h) := zz_k_num f55_60 rfl
theorem f55_61 : zz_fetch zz_prog 55 61 = some (.iaload, 1, [], []) := zz_fetch_of p55 rfl rfl
theorem s55_61 (ha : zz_isrd a = true) : zz_Run zz_prog d 55 (61, [l0, l1], .int v :: .ref a :: st, k, (zz_hp n I J ex)) = zz_ck (zz_in v (zz_ary n a)) (zz_Run zz_prog d 55 (62, [l0, l1], .int (I a v.toNatClampNeg) :: st, k, (zz_hp n I J ex))) := zz_k_iald f55_61 ha
theorem f55_62 : zz_fetch zz_prog 55 62 = some (.invokevirtual 282, 3, [0, 56, 2, 1], []) := zz_fetch_of p55 rfl rfl
theorem s55_62 : zz_Run zz_prog d 55 (62, [l0, l1], [b0, .ref 5], k, (zz_hp n I J ex)) = zz_ret (zz_Call zz_prog d 56 [.ref 5, b0] (zz_hp n I J ex)) (fun v k' h' => zz_Run zz_prog d 55 (65, [l0, l1], v.toList ++ [], k && k', h')) (fun a k' h' => zz_th d 55 62 a [l0, l1] (k && k') h') := zz_k_call f55_62 rfl rfl rfl
theorem f55_65 : zz_fetch zz_prog 55 65 = some (.ifCond .eq 7, 3, [72], []) := zz_fetch_of p55 rfl rfl
theorem s55_65 : zz_Run zz_prog d 55 (65, [l0, l1], .int v :: st, k, h) = if v = 0 then zz_Run zz_prog d 55 (72, [l0, l1], st, k, h) else zz_Run zz_prog d 55 (68, [l0, l1], st, k, h) := zz_k_br (v = 0) rfl (zz_k_num f55_65 rfl)
theorem f55_68 : zz_fetch zz_prog 55 68 = some (.iconst 1, 1, [], []) := zz_fetch_of p55 rfl rfl
theorem s55_68 : zz_Run zz_prog d 55 (68, [l0, l1], st, k, h) = zz_Run zz_prog d 55 (69, [l0, l1], .int 1 :: st, k, h) := zz_k_num f55_68 rfl
theorem f55_69 : zz_fetch zz_prog 55 69 = some (.goto 4, 3, [73], []) := zz_fetch_of p55 rfl rfl
theorem s55_69 : zz_Run zz_prog d 55 (69, [l0, l1], st, k, h) = zz_Run zz_prog d 55 (73, [l0, l1], st, k, h) := zz_k_num f55_69 rfl
theorem f55_72 : zz_fetch zz_prog 55 72 = some (.iconst 0, 1, [], []) := zz_fetch_of p55 rfl rfl
theorem s55_72 : zz_Run zz_prog d 55 (72, [l0, l1], st, k, h) = zz_Run zz_prog d 55 (73, [l0, l1], .int 0 :: st, k, h) := zz_k_num f55_72 rfl
theorem f55_73 : zz_fetch zz_prog 55 73 = some (.ireturn, 1, [1], []) := zz_fetch_of p55 rfl rfl
theorem s55_73 : zz_Run zz_prog d 55 (73, [l0, l1], [.int v], k, h) = zz_ck (decide (v = 0 ∨ v = 1)) (some (.inl (some (.int v)), k, h)) := zz_k_retz f55_73
end S55
section S56
variable {d n j : Nat} {l0 l1 : Option Value} {st : List Value} {k : Bool} {h : zz_H} {v w v1 v2 : Int32} {y y1 : Int64} {a a1 a2 : Nat} {b0 b1 b2 b3 b4 b5 b6 b7 b8 : Value} {I : Nat → Nat → Int32} {J : Nat → Nat → Int64} {ex : List (Nat × Nat)}
theorem p56 : zz_prog 56 = some zz_m56 := rfl
theorem e56 (g0 : Nat) (g1 : Int32) : zz_Call zz_prog (d + 1) 56 [.ref g0, .int g1] h = zz_Run zz_prog d 56 (0, [some (.ref g0), some (.int g1)], [], true, h) := rfl
theorem t56 (pc : Nat) (L : List (Option Value)) : zz_th d 56 pc a L k h = some (.inr a, k, h) := zz_th_out p56 rfl
theorem f56_0 : zz_fetch zz_prog 56 0 = some (.aload_n 0, 1, [], []) := zz_fetch_of p56 rfl rfl
theorem s56_0 : zz_Run zz_prog d 56 (0, [some (.ref a), l1], st, k, h) = zz_Run zz_prog d 56 (1, [some (.ref a), l1], .ref a :: st, k, h) := zz_k_num f56_0 rfl
theorem f56_1 : zz_fetch zz_prog 56 1 = some (.getfield 28, 3, [1, 7, 3], []) := zz_fetch_of p56 rfl rfl
theorem s56_1 : zz_Run zz_prog d 56 (1, [l0, l1], .ref 5 :: st, k, (zz_hp n I J ex)) = zz_Run zz_prog d 56 (4, [l0, l1], .ref 9 :: st, k, (zz_hp n I J ex)) := zz_k_go f56_1 rfl rfl rfl
theorem f56_4 : zz_fetch zz_prog 56 4 = some (.getfield 233, 3, [0, 13, 3], []) := zz_fetch_of p56 rfl rfl
theorem s56_4 : zz_Run zz_prog d 56 (4, [l0, l1], .ref 9 :: st, k, (zz_hp n I J ex)) = zz_Run zz_prog d 56 (7, [l0, l1], .ref 11 :: st, k, (zz_hp n I J ex)) := zz_k_go f56_4 rfl rfl rfl
theorem s56_4b : zz_Run zz_prog d 56 (4, [l0, l1], .ref 16 :: st, k, (zz_hp n I J ex)) = zz_Run zz_prog d 56 (7, [l0, l1], .ref 18 :: st, k, (zz_hp n I J ex)) := zz_k_go f56_4 rfl rfl rfl
theorem f56_7 : zz_fetch zz_prog 56 7 = some (.iload_n 1, 1, [], []) := zz_fetch_of p56 rfl rfl
theorem s56_7 : zz_Run zz_prog d 56 (7, [l0, some (.int v)], st, k, h) = zz_Run zz_prog d 56 (8, [l0, some (.int v)], .int v :: st, k, h) := zz_k_num f56_7 rfl
theorem f56_8 : zz_fetch zz_prog 56 8 = some (.iaload, 1, [], []) := zz_fetch_of p56 rfl rfl
theorem s56_8 (ha : zz_isrd a = true) : zz_Run zz_prog d 56 (8, [l0, l1], .int v :: .ref a :: st, k, (zz_hp n I J ex)) = zz_ck (zz_in v (zz_ary n a)) (zz_Run zz_prog d 56 (9, [l0, l1], .int (I a v.toNatClampNeg) :: st, k, (zz_hp n I J ex))) := zz_k_iald f56_8 ha
theorem f56_9 : zz_fetch zz_prog 56 9 = some (.iconst (-1), 1, [], []) := zz_fetch_of p56 rfl rfl
theorem s56_9 : zz_Run zz_prog d 56 (9, [l0, l1], st, k, h) = zz_Run zz_prog d 56 (10, [l0, l1], .int (-1) :: st, k, h) := zz_k_num f56_9 rfl
theorem f56_10 : zz_fetch zz_prog 56 10 = some (.if_icmp .ne 9, 3, [19], []) := zz_fetch_of p56 rfl rfl
theorem s56_10 : zz_Run zz_prog d 56 (10, [l0, l1], .int w :: .int v :: st, k, h) = if ¬ v = w then zz_Run zz_prog d 56 (19, [l0, l1], st, k, h) else zz_Run zz_prog d 56 (13, [l0, l1], st, k, h) := zz_k_br (¬ v = w) rfl (zz_k_num f56_10 rfl)
theorem f56_13 : zz_fetch zz_prog 56 13 = some (.aload_n 0, 1, [], []) := zz_fetch_of p56 rfl rfl
theorem s56_13 : zz_Run zz_prog d 56 (13, [some (.ref a), l1], st, k, h) = zz_Run zz_prog d 56 (14, [some (.ref a), l1], .ref a :: st, k, h) := zz_k_num f56_13 rfl
theorem f56_14 : zz_fetch zz_prog 56 14 = some (.iload_n 1, 1, [], []) := zz_fetch_of p56 rfl rfl
theorem s56_14 : zz_Run zz_prog d 56 (14, [l0, some (.int v)], st, k, h) = zz_Run zz_prog d 56 (15, [l0, some (.int v)], .int v :: st, k, h) := zz_k_num f56_14 rfl
theorem f56_15 : zz_fetch zz_prog 56 15 = some (.invokevirtual 285, 3, [0, 57, 2, 1], []) := zz_fetch_of p56 rfl rfl
theorem s56_15 : zz_Run zz_prog d 56 (15, [l0, l1], [b0, .ref 5], k, (zz_hp n I J ex)) = zz_ret (zz_Call zz_prog d 57 [.ref 5, b0] (zz_hp n I J ex)) (fun v k' h' => zz_Run zz_prog d 56 (18, [l0, l1], v.toList ++ [], k && k', h')) (fun a k' h' => zz_th d 56 15 a [l0, l1] (k && k') h') := zz_k_call f56_15 rfl rfl rfl
theorem f56_18 : zz_fetch zz_prog 56 18 = some (.ireturn, 1, [1], []) := zz_fetch_of p56 rfl rfl
theorem s56_18 : zz_Run zz_prog d 56 (18, [l0, l1], [.int v], k, h) = zz_ck (decide (v = 0 ∨ v = 1)) (some (.inl (some (.int v)), k, h)) := zz_k_retz f56_18
theorem f56_19 : zz_fetch zz_prog 56 19 = some (.aload_n 0, 1, [], []) := zz_fetch_of p56 rfl rfl
theorem s56_19 : zz_Run zz_prog d 56 (19, [some (.ref a), l1], st, k, h) = zz_Run zz_prog d 56 (20, [some (.ref a), l1], .ref a :: st, k, h) := zz_k_num f56_19 rfl
theorem f56_20 : zz_fetch zz_prog 56 20 = some (.aload_n 0, 1, [], []) := zz_fetch_of p56 rfl rfl
theorem s56_20 : zz_Run zz_prog d 56 (20, [some (.ref a), l1], st, k, h) = zz_Run zz_prog d 56 (21, [some (.ref a), l1], .ref a :: st, k, h) := zz_k_num f56_20 rfl
theorem f56_21 : zz_fetch zz_prog 56 21 = some (.getfield 28, 3, [1, 7, 3], []) := zz_fetch_of p56 rfl rfl
theorem s56_21 : zz_Run zz_prog d 56 (21, [l0, l1], .ref 5 :: st, k, (zz_hp n I J ex)) = zz_Run zz_prog d 56 (24, [l0, l1], .ref 9 :: st, k, (zz_hp n I J ex)) := zz_k_go f56_21 rfl rfl rfl
theorem f56_24 : zz_fetch zz_prog 56 24 = some (.getfield 86, 3, [0, 1, 0], []) := zz_fetch_of p56 rfl rfl
theorem s56_24 : zz_Run zz_prog d 56 (24, [l0, l1], .ref 9 :: st, k, (zz_hp n I J ex)) = zz_Run zz_prog d 56 (27, [l0, l1], .int (I 9 1) :: st, k, (zz_hp n I J ex)) := zz_k_go f56_24 rfl rfl rfl
theorem s56_24b : zz_Run zz_prog d 56 (24, [l0, l1], .ref 16 :: st, k, (zz_hp n I J ex)) = zz_Run zz_prog d 56 (27, [l0, l1], .int (I 16 1) :: st, k, (zz_hp n I J ex)) := zz_k_go f56_24 rfl rfl rfl
theorem f56_27 : zz_fetch zz_prog 56 27 = some (.iload_n 1, 1, [], []) := zz_fetch_of p56 rfl rfl
theorem s56_27 : zz_Run zz_prog d 56 (27, [l0, some (.int v)], st, k, h) = zz_Run zz_prog d 56 (28, [l0, some (.int v)], .int v :: st, k, h) := zz_k_num f56_27 rfl
theorem f56_28 : zz_fetch zz_prog 56 28 = some (.invokevirtual 260, 3, [0, 66, 3, 1], []) := zz_fetch_of p56 rfl rfl
theorem s56_28 : zz_Run zz_prog d 56 (28, [l0, l1], [b0, b1, .ref 5], k, (zz_hp n I J ex)) = zz_ret (zz_Call zz_prog d 66 [.ref 5, b1, b0] (zz_hp n I J ex)) (fun v k' h' => zz_Run zz_prog d 56 (31, [l0, l1], v.toList ++ [], k && k', h')) (fun a k' h' => zz_th d 56 28 a [l0, l1] (k && k') h') := zz_k_call f56_28 rfl rfl rfl
theorem f56_31 : zz_fetch zz_prog 56 31 = some (.ifCond .le 7, 3, [38], []) := zz_fetch_of p56 rfl rfl
theorem s56_31 : zz_Run zz_prog d 56 (31, [l0, l1], .int v :: st, k, h) = if v ≤ 0 then zz_Run zz_prog d 56 (38, [l0, l1], st, k, h) else zz_Run zz_prog d 56 (34, [l0, l1], st, k, h) := zz_k_br (v ≤ 0) rfl (zz_k_num f56_31 rfl)
theorem f56_34 : zz_fetch zz_prog 56 34 = some (.iconst 1, 1, [], []) := zz_fetch_of p56 rfl rfl
theorem s56_34 : zz_Run zz_prog d 56 (34, [l0, l1], st, k, h) = zz_Run zz_prog d 56 (35, [l0, l1], .int 1 :: st, k, h) := zz_k_num f56_34 rfl
theorem f56_35 : zz_fetch zz_prog 56 35 = some (.goto 4, 3, [39], []) := zz_fetch_of p56 rfl rfl
theorem s56_35 : zz_Run zz_prog d 56 (35, [l0, l1], st, k, h) = zz_Run zz_prog d 56 (39, [l0, l1], st, k, h) := zz_k_num f56_35 rfl
theorem f56_38 : zz_fetch zz_prog 56 38 = some (.iconst 0, 1, [], []) := zz_fetch_of p56 rfl rfl
theorem s56_38 : zz_Run zz_prog d 56 (38, [l0, l1], st, k, h) = zz_Run zz_prog d 56 (39, [l0, l1], .int 0 :: st, k, h) := zz_k_num f56_38 rfl
theorem f56_39 : zz_fetch zz_prog 56 39 = some (.ireturn, 1, [1], []) := zz_fetch_of p56 rfl rfl
theorem s56_39 : zz_Run zz_prog d 56 (39, [l0, l1], [.int v], k, h) = zz_ck (decide (v = 0 ∨ v = 1)) (some (.inl (some (.int v)), k, h)) := zz_k_retz f56_39
end S56
section S57
variable {d n j : Nat} {l0 l1 l2 l3 : Option Value} {st : List Value} {k : Bool} {h : zz_H} {v w v1 v2 : Int32} {y y1 : Int64} {a a1 a2 : Nat} {b0 b1 b2 b3 b4 b5 b6 b7 b8 : Value} {I : Nat → Nat → Int32} {J : Nat → Nat → Int64} {ex : List (Nat × Nat)}
theorem p57 : zz_prog 57 = some zz_m57 := rfl
theorem e57 (g0 : Nat) (g1 : Int32) : zz_Call zz_prog (d + 1) 57 [.ref g0, .int g1] h = zz_Run zz_prog d 57 (0, [some (.ref g0), some (.int g1), none, none], [], true, h) := rfl
theorem t57 (pc : Nat) (L : List (Option Value)) : zz_th d 57 pc a L k h = some (.inr a, k, h) := zz_th_out p57 rfl
theorem f57_0 : zz_fetch zz_prog 57 0 = some (.iconst 0, 1, [], []) := zz_fetch_of p57 rfl rfl
theorem s57_0 : zz_Run zz_prog d 57 (0, [l0, l1, l2, l3], st, k, h) = zz_Run zz_prog d 57 (1, [l0, l1, l2, l3], .int 0 :: st, k, h) := zz_k_num f57_0 rfl
theorem f57_1 : zz_fetch zz_prog 57 1 = some (.istore_n 2, 1, [], []) := zz_fetch_of p57 rfl rfl
theorem s57_1 : zz_Run zz_prog d 57 (1, [l0, l1, l2, l3], .int v :: st, k, h) = zz_sl l1 (zz_Run zz_prog d 57 (2, [l0, l1, some (.int v), l3], st, k, h)) := zz_k_st (j := 2) (u := .int v) f57_1 rfl (fun q hq => by cases hq) rfl (show 2 < 4 by decide) (by cases l1 <;> rfl) rfl
theorem f57_2 : zz_fetch zz_prog 57 2 = some (.iload_n 2, 1, [], []) := zz_fetch_of p57 rfl rfl
theorem s57_2 : zz_Run zz_prog d 57 (2, [l0, l1, some (.int v), l3], st, k, h) = zz_Run zz_prog d 57 (3, [l0, l1, some (.int v), l3], .int v :: st, k, h) := zz_k_num f57_2 rfl
theorem f57_3 : zz_fetch zz_prog 57 3 = some (.iconst 3, 1, [], []) := zz_fetch_of p57 rfl rfl
theorem s57_3 : zz_Run zz_prog d 57 (3, [l0, l1, l2, l3], st, k, h) = zz_Run zz_prog d 57 (4, [l0, l1, l2, l3], .int 3 :: st, k, h) := zz_k_num f57_3 rfl
theorem f57_4 : zz_fetch zz_prog 57 4 = some (.if_icmp .ge 45, 3, [49], []) := zz_fetch_of p57 rfl rfl
theorem s57_4 : zz_Run zz_prog d 57 (4, [l0, l1, l2, l3], .int w :: .int v :: st, k, h) = if w ≤ v then zz_Run zz_prog d 57 (49, [l0, l1, l2, l3], st, k, h) else zz_Run zz_prog d 57 (7, [l0, l1, l2, l3], st, k, h) := zz_k_br (w ≤ v) rfl (zz_k_num f57_4 rfl)
theorem f57_7 : zz_fetch zz_prog 57 7 = some (.getstatic 288, 3, [4], []) := zz_fetch_of p57 rfl rfl
theorem s57_7 : zz_Run zz_prog d 57 (7, [l0, l1, l2, l3], st, k, (zz_hp n I J ex)) = zz_Run zz_prog d 57 (10, [l0, l1, l2, l3], .ref 4 :: st, k, (zz_hp n I J ex)) := zz_k_go f57_7 rfl rfl rfl
theorem f57_10 : zz_fetch zz_prog 57 10 = some (.iload_n 1, 1, [], []) := zz_fetch_of p57 rfl rfl
theorem s57_10 : zz_Run zz_prog d 57 (10, [l0, some (.int v), l2, l3], st, k, h) = zz_Run zz_prog d 57 (11, [l0, some (.int v), l2, l3], .int v :: st, k, h) := zz_k_num f57_10 rfl
theorem f57_11 : zz_fetch zz_prog 57 11 = some (.iconst 3, 1, [], []) := zz_fetch_of p57 rfl rfl
theorem s57_11 : zz_Run zz_prog d 57 (11, [l0, l1, l2, l3], st, k, h) = zz_Run zz_prog d 57 (12, [l0, l1, l2, l3], .int 3 :: st, k, h) := zz_k_num f57_11 rfl
theorem f57_12 : zz_fetch zz_prog 57 12 = some (.imul, 1, [], []) := zz_fetch_of p57 rfl rfl
theorem s57_12 : zz_Run zz_prog d 57 (12, [l0, l1, l2, l3], .int w :: .int v :: st, k, h) = zz_Run zz_prog d 57 (13, [l0, l1, l2, l3], .int (v * w) :: st, k, h) := zz_k_num f57_12 rfl
theorem f57_13 : zz_fetch zz_prog 57 13 = some (.iload_n 2, 1, [], []) := zz_fetch_of p57 rfl rfl
theorem s57_13 : zz_Run zz_prog d 57 (13, [l0, l1, some (.int v), l3], st, k, h) = zz_Run zz_prog d 57 (14, [l0, l1, some (.int v), l3], .int v :: st, k, h) := zz_k_num f57_13 rfl
theorem f57_14 : zz_fetch zz_prog 57 14 = some (.iadd, 1, [], []) := zz_fetch_of p57 rfl rfl
theorem s57_14 : zz_Run zz_prog d 57 (14, [l0, l1, l2, l3], .int w :: .int v :: st, k, h) = zz_Run zz_prog d 57 (15, [l0, l1, l2, l3], .int (v + w) :: st, k, h) := zz_k_num f57_14 rfl
theorem f57_15 : zz_fetch zz_prog 57 15 = some (.iaload, 1, [], []) := zz_fetch_of p57 rfl rfl
theorem s57_15 (ha : zz_isrd a = true) : zz_Run zz_prog d 57 (15, [l0, l1, l2, l3], .int v :: .ref a :: st, k, (zz_hp n I J ex)) = zz_ck (zz_in v (zz_ary n a)) (zz_Run zz_prog d 57 (16, [l0, l1, l2, l3], .int (I a v.toNatClampNeg) :: st, k, (zz_hp n I J ex))) := zz_k_iald f57_15 ha
theorem f57_16 : zz_fetch zz_prog 57 16 = some (.istore_n 3, 1, [], []) := zz_fetch_of p57 rfl rfl
theorem s57_16 : zz_Run zz_prog d 57 (16, [l0, l1, l2, l3], .int v :: st, k, h) = zz_sl l2 (zz_Run zz_prog d 57 (17, [l0, l1, l2, some (.int v)], st, k, h)) := zz_k_st (j := 3) (u := .int v) f57_16 rfl (fun q hq => by cases hq) rfl (show 3 < 4 by decide) (by cases l2 <;> rfl) rfl
theorem f57_17 : zz_fetch zz_prog 57 17 = some (.iload_n 3, 1, [], []) := zz_fetch_of p57 rfl rfl
theorem s57_17 : zz_Run zz_prog d 57 (17, [l0, l1, l2, some (.int v)], st, k, h) = zz_Run zz_prog d 57 (18, [l0, l1, l2, some (.int v)], .int v :: st, k, h) := zz_k_num f57_17 rfl
theorem f57_18 : zz_fetch zz_prog 57 18 = some (.iconst (-1), 1, [], []) := zz_fetch_of p57 rfl rfl
theorem s57_18 : zz_Run zz_prog d 57 (18, [l0, l1, l2, l3], st, k, h) = zz_Run zz_prog d 57 (19, [l0, l1, l2, l3], .int (-1) :: st, k, h) := zz_k_num f57_18 rfl
theorem f57_19 : zz_fetch zz_prog 57 19 = some (.if_icmp .eq 24, 3, [43], []) := zz_fetch_of p57 rfl rfl
theorem s57_19 : zz_Run zz_prog d 57 (19, [l0, l1, l2, l3], .int w :: .int v :: st, k, h) = if v = w then zz_Run zz_prog d 57 (43, [l0, l1, l2, l3], st, k, h) else zz_Run zz_prog d 57 (22, [l0, l1, l2, l3], st, k, h) := zz_k_br (v = w) rfl (zz_k_num f57_19 rfl)
theorem f57_22 : zz_fetch zz_prog 57 22 = some (.aload_n 0, 1, [], []) := zz_fetch_of p57 rfl rfl
theorem s57_22 : zz_Run zz_prog d 57 (22, [some (.ref a), l1, l2, l3], st, k, h) = zz_Run zz_prog d 57 (23, [some (.ref a), l1, l2, l3], .ref a :: st, k, h) := zz_k_num f57_22 rfl
theorem f57_23 : zz_fetch zz_prog 57 23 = some (.getfield 28, 3, [1, 7, 3], []) := zz_fetch_of p57 rfl rfl
theorem s57_23 : zz_Run zz_prog d 57 (23, [l0, l1, l2, l3], .ref 5 :: st, k, (zz_hp n I J ex)) = zz_Run zz_prog d 57 (26, [l0, l1, l2, l3], .ref 9 :: st, k, (zz_hp n I J ex)) := zz_k_go f57_23 rfl rfl rfl
theorem f57_26 : zz_fetch zz_prog 57 26 = some (.getfield 230, 3, [0, 12, 3], []) := zz_fetch_of p57 rfl rfl
theorem s57_26 : zz_Run zz_prog d 57 (26, [l0, l1, l2, l3], .ref 9 :: st, k, (zz_hp n I J ex)) = zz_Run zz_prog d 57 (29, [l0, l1, l2, l3], .ref 10 :: st, k, (zz_hp n I J ex)) := zz_k_go f57_26 rfl rfl rfl
theorem s57_26b : zz_Run zz_prog d 57 (26, [l0, l1, l2, l3], .ref 16 :: st, k, (zz_hp n I J ex)) = zz_Run zz_prog d 57 (29, [l0, l1, l2, l3], .ref 17 :: st, k, (zz_hp n I J ex)) := zz_k_go f57_26 rfl rfl rfl
theorem f57_29 : zz_fetch zz_prog 57 29 = some (.iload_n 3, 1, [], []) := zz_fetch_of p57 rfl rfl
theorem s57_29 : zz_Run zz_prog d 57 (29, [l0, l1, l2, some (.int v)], st, k, h) = zz_Run zz_prog d 57 (30, [l0, l1, l2, some (.int v)], .int v :: st, k, h) := zz_k_num f57_29 rfl
theorem f57_30 : zz_fetch zz_prog 57 30 = some (.iaload, 1, [], []) := zz_fetch_of p57 rfl rfl
theorem s57_30 (ha : zz_isrd a = true) : zz_Run zz_prog d 57 (30, [l0, l1, l2, l3], .int v :: .ref a :: st, k, (zz_hp n I J ex)) = zz_ck (zz_in v (zz_ary n a)) (zz_Run zz_prog d 57 (31, [l0, l1, l2, l3], .int (I a v.toNatClampNeg) :: st, k, (zz_hp n I J ex))) := zz_k_iald f57_30 ha
theorem f57_31 : zz_fetch zz_prog 57 31 = some (.aload_n 0, 1, [], []) := zz_fetch_of p57 rfl rfl
theorem s57_31 : zz_Run zz_prog d 57 (31, [some (.ref a), l1, l2, l3], st, k, h) = zz_Run zz_prog d 57 (32, [some (.ref a), l1, l2, l3], .ref a :: st, k, h) := zz_k_num f57_31 rfl
theorem f57_32 : zz_fetch zz_prog 57 32 = some (.getfield 28, 3, [1, 7, 3], []) := zz_fetch_of p57 rfl rfl
theorem s57_32 : zz_Run zz_prog d 57 (32, [l0, l1, l2, l3], .ref 5 :: st, k, (zz_hp n I J ex)) = zz_Run zz_prog d 57 (35, [l0, l1, l2, l3], .ref 9 :: st, k, (zz_hp n I J ex)) := zz_k_go f57_32 rfl rfl rfl
theorem f57_35 : zz_fetch zz_prog 57 35 = some (.getfield 86, 3, [0, 1, 0], []) := zz_fetch_of p57 rfl rfl
theorem s57_35 : zz_Run zz_prog d 57 (35, [l0, l1, l2, l3], .ref 9 :: st, k, (zz_hp n I J ex)) = zz_Run zz_prog d 57 (38, [l0, l1, l2, l3], .int (I 9 1) :: st, k, (zz_hp n I J ex)) := zz_k_go f57_35 rfl rfl rfl
theorem s57_35b : zz_Run zz_prog d 57 (35, [l0, l1, l2, l3], .ref 16 :: st, k, (zz_hp n I J ex)) = zz_Run zz_prog d 57 (38, [l0, l1, l2, l3], .int (I 16 1) :: st, k, (zz_hp n I J ex)) := zz_k_go f57_35 rfl rfl rfl
theorem f57_38 : zz_fetch zz_prog 57 38 = some (.if_icmp .ne 5, 3, [43], []) := zz_fetch_of p57 rfl rfl
theorem s57_38 : zz_Run zz_prog d 57 (38, [l0, l1, l2, l3], .int w :: .int v :: st, k, h) = if ¬ v = w then zz_Run zz_prog d 57 (43, [l0, l1, l2, l3], st, k, h) else zz_Run zz_prog d 57 (41, [l0, l1, l2, l3], st, k, h) := zz_k_br (¬ v = w) rfl (zz_k_num f57_38 rfl)
theorem f57_41 : zz_fetch zz_prog 57 41 = some (.iconst 1, 1, [], []) := zz_fetch_of p57 rfl rfl
theorem s57_41 : zz_Run zz_prog d 57 (41, [l0, l1, l2, l3], st, k, h) = zz_Run zz_prog d 57 (42, [l0, l1, l2, l3], .int 1 :: st, k, h) := zz_k_num f57_41 rfl
theorem f57_42 : zz_fetch zz_prog 57 42 = some (.ireturn, 1, [1], []) := zz_fetch_of p57 rfl rfl
theorem s57_42 : zz_Run zz_prog d 57 (42, [l0, l1, l2, l3], [.int v], k, h) = zz_ck (decide (v = 0 ∨ v = 1)) (some (.inl (some (.int v)), k, h)) := zz_k_retz f57_42
theorem f57_43 : zz_fetch zz_prog 57 43 = some (.iinc 2 1, 3, [], []) := zz_fetch_of p57 rfl rfl
theorem s57_43 : zz_Run zz_prog d 57 (43, [l0, l1, some (.int v), l3], st, k, h) = zz_sl l1 (zz_Run zz_prog d 57 (46, [l0, l1, some (.int (v + 1)), l3], st, k, h)) := zz_k_st (j := 2) (u := .int (v + 1)) f57_43 rfl (fun q hq => by cases hq) rfl (show 2 < 4 by decide) (by cases l1 <;> rfl) rfl
theorem f57_46 : zz_fetch zz_prog 57 46 = some (.goto (-44), 3, [2], []) := zz_fetch_of p57 rfl rfl
theorem s57_46 : zz_Run zz_prog d 57 (46, [l0, l1, l2, l3], st, k, h) = zz_Run zz_prog d 57 (2, [l0, l1, l2, l3], st, k, h) := zz_k_num f57_46 rfl
theorem f57_49 : zz_fetch zz_prog 57 49 = some (.iconst 0, 1, [], []) := zz_fetch_of p57 rfl rfl
theorem s57_49 : zz_Run zz_prog d 57 (49, [l0, l1, l2, l3], st, k, h) = zz_Run zz_prog d 57 (50, [l0, l1, l2, l3], .int 0 :: st, k, h) := zz_k_num f57_49 rfl
theorem f57_50 : zz_fetch zz_prog 57 50 = some (.ireturn, 1, [1], []) := zz_fetch_of p57 rfl rfl
theorem s57_50 : zz_Run zz_prog d 57 (50, [l0, l1, l2, l3], [.int v], k, h) = zz_ck (decide (v = 0 ∨ v = 1)) (some (.inl (some (.int v)), k, h)) := zz_k_retz f57_50
end S57
section S58
variable {d n j : Nat} {l0 l1 : Option Value} {st : List Value} {k : Bool} {h : zz_H} {v w v1 v2 : Int32} {y y1 : Int64} {a a1 a2 : Nat} {b0 b1 b2 b3 b4 b5 b6 b7 b8 : Value} {I : Nat → Nat → Int32} {J : Nat → Nat → Int64} {ex : List (Nat × Nat)}
theorem p58 : zz_prog 58 = some zz_m58 := rfl
theorem e58 (g0 : Nat) (g1 : Int32) : zz_Call zz_prog (d + 1) 58 [.ref g0, .int g1] h = zz_Run zz_prog d 58 (0, [some (.ref g0), some (.int g1)], [], true, h) := rfl
theorem t58 (pc : Nat) (L : List (Option Value)) : zz_th d 58 pc a L k h = some (.inr a, k, h) := zz_th_out p58 rfl
theorem f58_0 : zz_fetch zz_prog 58 0 = some (.aload_n 0, 1, [], []) := zz_fetch_of p58 rfl rfl
theorem s58_0 : zz_Run zz_prog d 58 (0, [some (.ref a), l1], st, k, h) = zz_Run zz_prog d 58 (1, [some (.ref a), l1], .ref a :: st, k, h) := zz_k_num f58_0 rfl
theorem f58_1 : zz_fetch zz_prog 58 1 = some (.getfield 28, 3, [1, 7, 3], []) := zz_fetch_of p58 rfl rfl
theorem s58_1 : zz_Run zz_prog d 58 (1, [l0, l1], .ref 5 :: st, k, (zz_hp n I J ex)) = zz_Run zz_prog d 58 (4, [l0, l1], .ref 9 :: st, k, (zz_hp n I J ex)) := zz_k_go f58_1 rfl rfl rfl
theorem f58_4 : zz_fetch zz_prog 58 4 = some (.getfield 233, 3, [0, 13, 3], []) := zz_fetch_of p58 rfl rfl
theorem s58_4 : zz_Run zz_prog d 58 (4, [l0, l1], .ref 9 :: st, k, (zz_hp n I J ex)) = zz_Run zz_prog d 58 (7, [l0, l1], .ref 11 :: st, k, (zz_hp n I J ex)) := zz_k_go f58_4 rfl rfl rfl
theorem s58_4b : zz_Run zz_prog d 58 (4, [l0, l1], .ref 16 :: st, k, (zz_hp n I J ex)) = zz_Run zz_prog d 58 (7, [l0, l1], .ref 18 :: st, k, (zz_hp n I J ex)) := zz_k_go f58_4 rfl rfl rfl
theorem f58_7 : zz_fetch zz_prog 58 7 = some (.iload_n 1, 1, [], []) := zz_fetch_of p58 rfl rfl
theorem s58_7 : zz_Run zz_prog d 58 (7, [l0, some (.int v)], st, k, h) = zz_Run zz_prog d 58 (8, [l0, some (.int v)], .int v :: st, k, h) := zz_k_num f58_7 rfl
theorem f58_8 : zz_fetch zz_prog 58 8 = some (.iaload, 1, [], []) := zz_fetch_of p58 rfl rfl
theorem s58_8 (ha : zz_isrd a = true) : zz_Run zz_prog d 58 (8, [l0, l1], .int v :: .ref a :: st, k, (zz_hp n I J ex)) = zz_ck (zz_in v (zz_ary n a)) (zz_Run zz_prog d 58 (9, [l0, l1], .int (I a v.toNatClampNeg) :: st, k, (zz_hp n I J ex))) := zz_k_iald f58_8 ha
theorem f58_9 : zz_fetch zz_prog 58 9 = some (.iconst (-1), 1, [], []) := zz_fetch_of p58 rfl rfl
theorem s58_9 : zz_Run zz_prog d 58 (9, [l0, l1], st, k, h) = zz_Run zz_prog d 58 (10, [l0, l1], .int (-1) :: st, k, h) := zz_k_num f58_9 rfl
theorem f58_10 : zz_fetch zz_prog 58 10 = some (.if_icmp .ne 11, 3, [21], []) := zz_fetch_of p58 rfl rfl
theorem s58_10 : zz_Run zz_prog d 58 (10, [l0, l1], .int w :: .int v :: st, k, h) = if ¬ v = w then zz_Run zz_prog d 58 (21, [l0, l1], st, k, h) else zz_Run zz_prog d 58 (13, [l0, l1], st, k, h) := zz_k_br (¬ v = w) rfl (zz_k_num f58_10 rfl)
theorem f58_13 : zz_fetch zz_prog 58 13 = some (.aload_n 0, 1, [], []) := zz_fetch_of p58 rfl rfl
theorem s58_13 : zz_Run zz_prog d 58 (13, [some (.ref a), l1], st, k, h) = zz_Run zz_prog d 58 (14, [some (.ref a), l1], .ref a :: st, k, h) := zz_k_num f58_13 rfl
theorem f58_14 : zz_fetch zz_prog 58 14 = some (.iload_n 1, 1, [], []) := zz_fetch_of p58 rfl rfl
theorem s58_14 : zz_Run zz_prog d 58 (14, [l0, some (.int v)], st, k, h) = zz_Run zz_prog d 58 (15, [l0, some (.int v)], .int v :: st, k, h) := zz_k_num f58_14 rfl
theorem f58_15 : zz_fetch zz_prog 58 15 = some (.invokevirtual 291, 3, [0, 59, 2, 1], []) := zz_fetch_of p58 rfl rfl
theorem s58_15 : zz_Run zz_prog d 58 (15, [l0, l1], [b0, .ref 5], k, (zz_hp n I J ex)) = zz_ret (zz_Call zz_prog d 59 [.ref 5, b0] (zz_hp n I J ex)) (fun v k' h' => zz_Run zz_prog d 58 (18, [l0, l1], v.toList ++ [], k && k', h')) (fun a k' h' => zz_th d 58 15 a [l0, l1] (k && k') h') := zz_k_call f58_15 rfl rfl rfl
theorem f58_18 : zz_fetch zz_prog 58 18 = some (.ifCond .eq 5, 3, [23], []) := zz_fetch_of p58 rfl rfl
theorem s58_18 : zz_Run zz_prog d 58 (18, [l0, l1], .int v :: st, k, h) = if v = 0 then zz_Run zz_prog d 58 (23, [l0, l1], st, k, h) else zz_Run zz_prog d 58 (21, [l0, l1], st, k, h) := zz_k_br (v = 0) rfl (zz_k_num f58_18 rfl)
theorem f58_21 : zz_fetch zz_prog 58 21 = some (.iconst 0, 1, [], []) := zz_fetch_of p58 rfl rfl
theorem s58_21 : zz_Run zz_prog d 58 (21, [l0, l1], st, k, h) = zz_Run zz_prog d 58 (22, [l0, l1], .int 0 :: st, k, h) := zz_k_num f58_21 rfl
theorem f58_22 : zz_fetch zz_prog 58 22 = some (.ireturn, 1, [1], []) := zz_fetch_of p58 rfl rfl
theorem s58_22 : zz_Run zz_prog d 58 (22, [l0, l1], [.int v], k, h) = zz_ck (decide (v = 0 ∨ v = 1)) (some (.inl (some (.int v)), k, h)) := zz_k_retz f58_22
theorem f58_23 : zz_fetch zz_prog 58 23 = some (.aload_n 0, 1, [], []) := zz_fetch_of p58 rfl rfl
theorem s58_23 : zz_Run zz_prog d 58 (23, [some (.ref a), l1], st, k, h) = zz_Run zz_prog d 58 (24, [some (.ref a), l1], .ref a :: st, k, h) := zz_k_num f58_23 rfl
theorem f58_24 : zz_fetch zz_prog 58 24 = some (.getfield 28, 3, [1, 7, 3], []) := zz_fetch_of p58 rfl rfl
theorem s58_24 : zz_Run zz_prog d 58 (24, [l0, l1], .ref 5 :: st, k, (zz_hp n I J ex)) = zz_Run zz_prog d 58 (27, [l0, l1], .ref 9 :: st, k, (zz_hp n I J ex)) := zz_k_go f58_24 rfl rfl rfl
theorem f58_27 : zz_fetch zz_prog 58 27 = some (.getfield 89, 3, [0, 0, 0], []) := zz_fetch_of p58 rfl rfl
theorem s58_27 : zz_Run zz_prog d 58 (27, [l0, l1], .ref 9 :: st, k, (zz_hp n I J ex)) = zz_Run zz_prog d 58 (30, [l0, l1], .int (I 9 0) :: st, k, (zz_hp n I J ex)) := zz_k_go f58_27 rfl rfl rfl
theorem s58_27b : zz_Run zz_prog d 58 (27, [l0, l1], .ref 16 :: st, k, (zz_hp n I J ex)) = zz_Run zz_prog d 58 (30, [l0, l1], .int (I 16 0) :: st, k, (zz_hp n I J ex)) := zz_k_go f58_27 rfl rfl rfl
theorem f58_30 : zz_fetch zz_prog 58 30 = some (.iconst 1, 1, [], []) := zz_fetch_of p58 rfl rfl
theorem s58_30 : zz_Run zz_prog d 58 (30, [l0, l1], st, k, h) = zz_Run zz_prog d 58 (31, [l0, l1], .int 1 :: st, k, h) := zz_k_num f58_30 rfl
theorem f58_31 : zz_fetch zz_prog 58 31 = some (.if_icmp .eq 11, 3, [42], []) := zz_fetch_of p58 rfl rfl
theorem s58_31 : zz_Run zz_prog d 58 (31, [l0, l1], .int w :: .int v :: st, k, h) = if v = w then zz_Run zz_prog d 58 (42, [l0, l1], st, k, h) else zz_Run zz_prog d 58 (34, [l0, l1], st, k, h) := zz_k_br (v = w) rfl (zz_k_num f58_31 rfl)
theorem f58_34 : zz_fetch zz_prog 58 34 = some (.aload_n 0, 1, [], []) := zz_fetch_of p58 rfl rfl
theorem s58_34 : zz_Run zz_prog d 58 (34, [some (.ref a), l1], st, k, h) = zz_Run zz_prog d 58 (35, [some (.ref a), l1], .ref a :: st, k, h) := zz_k_num f58_34 rfl
theorem f58_35 : zz_fetch zz_prog 58 35 = some (.iload_n 1, 1, [], []) := zz_fetch_of p58 rfl rfl
theorem s58_35 : zz_Run zz_prog d 58 (35, [l0, some (.int v)], st, k, h) = zz_Run zz_prog d 58 (36, [l0, some (.int v)], .int v :: st, k, h) := zz_k_num f58_35 rfl
theorem f58_36 : zz_fetch zz_prog 58 36 = some (.invokevirtual 285, 3, [0, 57, 2, 1], []) := zz_fetch_of p58 rfl rfl
theorem s58_36 : zz_Run zz_prog d 58 (36, [l0, l1], [b0, .ref 5], k, (zz_hp n I J ex)) = zz_ret (zz_Call zz_prog d 57 [.ref 5, b0] (zz_hp n I J ex)) (fun v k' h' => zz_Run zz_prog d 58 (39, [l0, l1], v.toList ++ [], k && k', h')) (fun a k' h' => zz_th d 58 36 a [l0, l1] (k && k') h') := zz_k_call f58_36 rfl rfl rfl
theorem f58_39 : zz_fetch zz_prog 58 39 = some (.ifCond .eq 7, 3, [46], []) := zz_fetch_of p58 rfl rfl
theorem s58_39 : zz_Run zz_prog d 58 (39, [l0, l1], .int v :: st, k, h) = if v = 0 then zz_Run zz_prog d 58 (46, [l0, l1], st, k, h) else zz_Run zz_prog d 58 (42, [l0, l1], st, k, h) := zz_k_br (v = 0) rfl (zz_k_num f58_39 rfl)
theorem f58_42 : zz_fetch zz_prog 58 42 = some (.iconst 1, 1, [], []) := zz_fetch_of p58 rfl rfl
theorem s58_42 : zz_Run zz_prog d 58 (42, [l0, l1], st, k, h) = zz_Run zz_prog d 58 (43, [l0, l1], .int 1 :: st, k, h) := zz_k_num f58_42 rfl
theorem f58_43 : zz_fetch zz_prog 58 43 = some (.goto 4, 3, [47], []) := zz_fetch_of p58 rfl rfl
theorem s58_43 : zz_Run zz_prog d 58 (43, [l0, l1], st, k, h) = zz_Run zz_prog d 58 (47, [l0, l1], st, k, h) := zz_k_num f58_43 rfl
theorem f58_46 : zz_fetch zz_prog 58 46 = some (.iconst 0, 1, [], []) := zz_fetch_of p58 rfl rfl
theorem s58_46 : zz_Run zz_prog d 58 (46, [l0, l1], st, k, h) = zz_Run zz_prog d 58 (47, [l0, l1], .int 0 :: st, k, h) := zz_k_num f58_46 rfl
theorem f58_47 : zz_fetch zz_prog 58 47 = some (.ireturn, 1, [1], []) := zz_fetch_of p58 rfl rfl
theorem s58_47 : zz_Run zz_prog d 58 (47, [l0, l1], [.int v], k, h) = zz_ck (decide (v = 0 ∨ v = 1)) (some (.inl (some (.int v)), k, h)) := zz_k_retz f58_47
end S58
section S59
variable {d n j : Nat} {l0 l1 l2 l3 : Option Value} {st : List Value} {k : Bool} {h : zz_H} {v w v1 v2 : Int32} {y y1 : Int64} {a a1 a2 : Nat} {b0 b1 b2 b3 b4 b5 b6 b7 b8 : Value} {I : Nat → Nat → Int32} {J : Nat → Nat → Int64} {ex : List (Nat × Nat)}
theorem p59 : zz_prog 59 = some zz_m59 := rfl
theorem e59 (g0 : Nat) (g1 : Int32) : zz_Call zz_prog (d + 1) 59 [.ref g0, .int g1] h = zz_Run zz_prog d 59 (0, [some (.ref g0), some (.int g1), none, none], [], true, h) := rfl
theorem t59 (pc : Nat) (L : List (Option Value)) : zz_th d 59 pc a L k h = some (.inr a, k, h) := zz_th_out p59 rfl
theorem f59_0 : zz_fetch zz_prog 59 0 = some (.iconst 0, 1, [], []) := zz_fetch_of p59 rfl rfl
theorem s59_0 : zz_Run zz_prog d 59 (0, [l0, l1, l2, l3], st, k, h) = zz_Run zz_prog d 59 (1, [l0, l1, l2, l3], .int 0 :: st, k, h) := zz_k_num f59_0 rfl
theorem f59_1 : zz_fetch zz_prog 59 1 = some (.istore_n 2, 1, [], []) := zz_fetch_of p59 rfl rfl
theorem s59_1 : zz_Run zz_prog d 59 (1, [l0, l1, l2, l3], .int v :: st, k, h) = zz_sl l1 (zz_Run zz_prog d 59 (2, [l0, l1, some (.int v), l3], st, k, h)) := zz_k_st (j := 2) (u := .int v) f59_1 rfl (fun q hq => by cases hq) rfl (show 2 < 4 by decide) (by cases l1 <;> rfl) rfl
theorem f59_2 : zz_fetch zz_prog 59 2 = some (.iload_n 2, 1, [], []) := zz_fetch_of p59 rfl rfl
theorem s59_2 : zz_Run zz_prog d 59 (2, [l0, l1, some (.int v), l3], st, k, h) = zz_Run zz_prog d 59 (3, [l0, l1, some (.int v), l3], .int v :: st, k, h) := zz_k_num f59_2 rfl
theorem f59_3 : zz_fetch zz_prog 59 3 = some (.iconst 3, 1, [], []) := zz_fetch_of p59 rfl rfl
theorem s59_3 : zz_Run zz_prog d 59 (3, [l0, l1, l2, l3], st, k, h) = zz_Run zz_prog d 59 (4, [l0, l1, l2, l3], .int 3 :: st, k, h) := zz_k_num f59_3 rfl
theorem f59_4 : zz_fetch zz_prog 59 4 = some (.if_icmp .ge 43, 3, [47], []) := zz_fetch_of p59 rfl rfl
theorem s59_4 : zz_Run zz_prog d 59 (4, [l0, l1, l2, l3], .int w :: .int v :: st, k, h) = if w ≤ v then zz_Run zz_prog d 59 (47, [l0, l1, l2, l3], st, k, h) else zz_Run zz_prog d 59 (7, [l0, l1, l2, l3], st, k, h) := zz_k_br (w ≤ v) rfl (zz_k_num f59_4 rfl)
theorem f59_7 : zz_fetch zz_prog 59 7 = some (.getstatic 288, 3, [4], []) := zz_fetch_of p59 rfl rfl
theorem s59_7 : zz_Run zz_prog d 59 (7, [l0, l1, l2, l3], st, k, (zz_hp n I J ex)) = zz_Run zz_prog d 59 (10, [l0, l1, l2, l3], .ref 4 :: st, k, (zz_hp n I J ex)) := zz_k_go f59_7 rfl rfl rfl
theorem f59_10 : zz_fetch zz_prog 59 10 = some (.iload_n 1, 1, [], []) := zz_fetch_of p59 rfl rfl
theorem s59_10 : zz_Run zz_prog d 59 (10, [l0, some (.int v), l2, l3], st, k, h) = zz_Run zz_prog d 59 (11, [l0, some (.int v), l2, l3], .int v :: st, k, h) := zz_k_num f59_10 rfl
theorem f59_11 : zz_fetch zz_prog 59 11 = some (.iconst 3, 1, [], []) := zz_fetch_of p59 rfl rfl
theorem s59_11 : zz_Run zz_prog d 59 (11, [l0, l1, l2, l3], st, k, h) = zz_Run zz_prog d 59 (12, [l0, l1, l2, l3], .int 3 :: st, k, h) := zz_k_num f59_11 rfl
theorem f59_12 : zz_fetch zz_prog 59 12 = some (.imul, 1, [], []) := zz_fetch_of p59 rfl rfl
theorem s59_12 : zz_Run zz_prog d 59 (12, [l0, l1, l2, l3], .int w :: .int v :: st, k, h) = zz_Run zz_prog d 59 (13, [l0, l1, l2, l3], .int (v * w) :: st, k, h) := zz_k_num f59_12 rfl
theorem f59_13 : zz_fetch zz_prog 59 13 = some (.iload_n 2, 1, [], []) := zz_fetch_of p59 rfl rfl
theorem s59_13 : zz_Run zz_prog d 59 (13, [l0, l1, some (.int v), l3], st, k, h) = zz_Run zz_prog d 59 (14, [l0, l1, some (.int v), l3], .int v :: st, k, h) := zz_k_num f59_13 rfl
theorem f59_14 : zz_fetch zz_prog 59 14 = some (.iadd, 1, [], []) := zz_fetch_of p59 rfl rfl
theorem s59_14 : zz_Run zz_prog d 59 (14, [l0, l1, l2, l3], .int w :: .int v :: st, k, h) = zz_Run zz_prog d 59 (15, [l0, l1, l2, l3], .int (v + w) :: st, k, h) := zz_k_num f59_14 rfl
theorem f59_15 : zz_fetch zz_prog 59 15 = some (.iaload, 1, [], []) := zz_fetch_of p59 rfl rfl
theorem s59_15 (ha : zz_isrd a = true) : zz_Run zz_prog d 59 (15, [l0, l1, l2, l3], .int v :: .ref a :: st, k, (zz_hp n I J ex)) = zz_ck (zz_in v (zz_ary n a)) (zz_Run zz_prog d 59 (16, [l0, l1, l2, l3], .int (I a v.toNatClampNeg) :: st, k, (zz_hp n I J ex))) := zz_k_iald f59_15 ha
theorem f59_16 : zz_fetch zz_prog 59 16 = some (.istore_n 3, 1, [], []) := zz_fetch_of p59 rfl rfl
theorem s59_16 : zz_Run zz_prog d 59 (16, [l0, l1, l2, l3], .int v :: st, k, h) = zz_sl l2 (zz_Run zz_prog d 59 (17, [l0, l1, l2, some (.int v)], st, k, h)) := zz_k_st (j := 3) (u := .int v) f59_16 rfl (fun q hq => by cases hq) rfl (show 3 < 4 by decide) (by cases l2 <;> rfl) rfl
theorem f59_17 : zz_fetch zz_prog 59 17 = some (.iload_n 3, 1, [], []) := zz_fetch_of p59 rfl rfl
theorem s59_17 : zz_Run zz_prog d 59 (17, [l0, l1, l2, some (.int v)], st, k, h) = zz_Run zz_prog d 59 (18, [l0, l1, l2, some (.int v)], .int v :: st, k, h) := zz_k_num f59_17 rfl
theorem f59_18 : zz_fetch zz_prog 59 18 = some (.iconst (-1), 1, [], []) := zz_fetch_of p59 rfl rfl
theorem s59_18 : zz_Run zz_prog d 59 (18, [l0, l1, l2, l3], st, k, h) = zz_Run zz_prog d 59 (19, [l0, l1, l2, l3], .int (-1) :: st, k, h) := zz_k_num f59_18 rfl
theorem f59_19 : zz_fetch zz_prog 59 19 = some (.if_icmp .eq 22, 3, [41], []) := zz_fetch_of p59 rfl rfl
theorem s59_19 : zz_Run zz_prog d 59 (19, [l0, l1, l2, l3], .int w :: .int v :: st, k, h) = if v = w then zz_Run zz_prog d 59 (41, [l0, l1, l2, l3], st, k, h) else zz_Run zz_prog d 59 (22, [l0, l1, l2, l3], st, k, h) := zz_k_br (v = w) rfl (zz_k_num f59_19 rfl)
theorem f59_22 : zz_fetch zz_prog 59 22 = some (.aload_n 0, 1, [], []) := zz_fetch_of p59 rfl rfl
theorem s59_22 : zz_Run zz_prog d 59 (22, [some (.ref a), l1, l2, l3], st, k, h) = zz_Run zz_prog d 59 (23, [some (.ref a), l1, l2, l3], .ref a :: st, k, h) := zz_k_num f59_22 rfl
theorem f59_23 : zz_fetch zz_prog 59 23 = some (.getfield 28, 3, [1, 7, 3], []) := zz_fetch_of p59 rfl rfl
theorem s59_23 : zz_Run zz_prog d 59 (23, [l0, l1, l2, l3], .ref 5 :: st, k, (zz_hp n I J ex)) = zz_Run zz_prog d 59 (26, [l0, l1, l2, l3], .ref 9 :: st, k, (zz_hp n I J ex)) := zz_k_go f59_23 rfl rfl rfl
theorem f59_26 : zz_fetch zz_prog 59 26 = some (.getfield 233, 3, [0, 13, 3], []) := zz_fetch_of p59 rfl rfl
theorem s59_26 : zz_Run zz_prog d 59 (26, [l0, l1, l2, l3], .ref 9 :: st, k, (zz_hp n I J ex)) = zz_Run zz_prog d 59 (29, [l0, l1, l2, l3], .ref 11 :: st, k, (zz_hp n I J ex)) := zz_k_go f59_26 rfl rfl rfl
theorem s59_26b : zz_Run zz_prog d 59 (26, [l0, l1, l2, l3], .ref 16 :: st, k, (zz_hp n I J ex)) = zz_Run zz_prog d 59 (29, [l0, l1, l2, l3], .ref 18 :: st, k, (zz_hp n I J ex)) := zz_k_go f59_26 rfl rfl rfl
theorem f59_29 : zz_fetch zz_prog 59 29 = some (.iload_n 3, 1, [], []) := zz_fetch_of p59 rfl rfl
theorem s59_29 : zz_Run zz_prog d 59 (29, [l0, l1, l2, some (.int v)], st, k, h) = zz_Run zz_prog d 59 (30, [l0, l1, l2, some (.int v)], .int v :: st, k, h) := zz_k_num f59_29 rfl
theorem f59_30 : zz_fetch zz_prog 59 30 = some (.iload_n 1, 1, [], []) := zz_fetch_of p59 rfl rfl
theorem s59_30 : zz_Run zz_prog d 59 (30, [l0, some (.int v), l2, l3], st, k, h) = zz_Run zz_prog d 59 (31, [l0, some (.int v), l2, l3], .int v :: st, k, h) := zz_k_num f59_30 rfl
theorem f59_31 : zz_fetch zz_prog 59 31 = some (.invokestatic 294, 3, [0, 40, 2], []) := zz_fetch_of p59 rfl rfl
theorem s59_31 : zz_Run zz_prog d 59 (31, [l0, l1, l2, l3], [b0, b1, b2], k, h) = zz_ret (zz_Call zz_prog d 40 [b1, b0] h) (fun v k' h' => zz_Run zz_prog d 59 (34, [l0, l1, l2, l3], v.toList ++ [b2], k && k', h')) (fun a k' h' => zz_th d 59 31 a [l0, l1, l2, l3] (k && k') h') := zz_k_call f59_31 rfl rfl rfl
theorem f59_34 : zz_fetch zz_prog 59 34 = some (.iaload, 1, [], []) := zz_fetch_of p59 rfl rfl
theorem s59_34 (ha : zz_isrd a = true) : zz_Run zz_prog d 59 (34, [l0, l1, l2, l3], .int v :: .ref a :: st, k, (zz_hp n I J ex)) = zz_ck (zz_in v (zz_ary n a)) (zz_Run zz_prog d 59 (35, [l0, l1, l2, l3], .int (I a v.toNatClampNeg) :: st, k, (zz_hp n I J ex))) := zz_k_iald f59_34 ha
theorem f59_35 : zz_fetch zz_prog 59 35 = some (.iconst (-1), 1, [], []) := zz_fetch_of p59 rfl rfl
theorem s59_35 : zz_Run zz_prog d 59 (35, [l0, l1, l2, l3], st, k, h) = zz_Run zz_prog d 59 (36, [l0, l1, l2, l3], .int (-1) :: st, k, h) := zz_k_num f59_35 rfl
theorem f59_36 : zz_fetch zz_prog 59 36 = some (.if_icmp .eq 5, 3, [41], []) := zz_fetch_of p59 rfl rfl
theorem s59_36 : zz_Run zz_prog d 59 (36, [l0, l1, l2, l3], .int w :: .int v :: st, k, h) = if v = w then zz_Run zz_prog d 59 (41, [l0, l1, l2, l3], st, k, h) else zz_Run zz_prog d 59 (39, [l0, l1, l2, l3], st, k, h) := zz_k_br (v = w) rfl (zz_k_num f59_36 rfl)
theorem f59_39 : zz_fetch zz_prog 59 39 = some (.iconst 1, 1, [], []) := zz_fetch_of p59 rfl rfl
theorem s59_39 : zz_Run zz_prog d 59 (39, [l0, l1, l2, l3], st, k, h) = zz_Run zz_prog d 59 (40, [l0, l1, l2, l3], .int 1 :: st, k, h) := zz_k_num f59_39 rfl
theorem f59_40 : zz_fetch zz_prog 59 40 = some (.ireturn, 1, [1], []) := zz_fetch_of p59 rfl rfl
theorem s59_40 : zz_Run zz_prog d 59 (40, [l0, l1, l2, l3], [.int v], k, h) = zz_ck (decide (v = 0 ∨ v = 1)) (some (.inl (some (.int v)), k, h)) := zz_k_retz f59_40
theorem f59_41 : zz_fetch zz_prog 59 41 = some (.iinc 2 1, 3, [], []) := zz_fetch_of p59 rfl rfl
theorem s59_41 : zz_Run zz_prog d 59 (41, [l0, l1, some (.int v), l3], st, k, h) = zz_sl l1 (zz_Run zz_prog d 59 (44, [l0, l1, some (.int (v + 1)), l3], st, k, h)) := zz_k_st (j := 2) (u := .int (v + 1)) f59_41 rfl (fun q hq => by cases hq) rfl (show 2 < 4 by decide) (by cases l1 <;> rfl) rfl
theorem f59_44 : zz_fetch zz_prog 59 44 = some (.goto (-42), 3, [2], []) := zz_fetch_of p59 rfl rfl
theorem s59_44 : zz_Run zz_prog d 59 (44, [l0, l1, l2, l3], st, k, h) = zz_Run zz_prog d 59 (2, [l0, l1, l2, l3], st, k, h) := zz_k_num f59_44 rfl
theorem f59_47 : zz_fetch zz_prog 59 47 = some (.iconst 0, 1, [], []) := zz_fetch_of p59 rfl rfl
theorem s59_47 : zz_Run zz_prog d 59 (47, [l0, l1, l2, l3], st, k, h) = zz_Run zz_prog d 59 (48, [l0, l1, l2, l3], .int 0 :: st, k, h) := zz_k_num f59_47 rfl
theorem f59_48 : zz_fetch zz_prog 59 48 = some (.ireturn, 1, [1], []) := zz_fetch_of p59 rfl rfl
theorem s59_48 : zz_Run zz_prog d 59 (48, [l0, l1, l2, l3], [.int v], k, h) = zz_ck (decide (v = 0 ∨ v = 1)) (some (.inl (some (.int v)), k, h)) := zz_k_retz f59_48
end S59
section S60
variable {d n j : Nat} {l0 l1 l2 : Option Value} {st : List Value} {k : Bool} {h : zz_H} {v w v1 v2 : Int32} {y y1 : Int64} {a a1 a2 : Nat} {b0 b1 b2 b3 b4 b5 b6 b7 b8 : Value} {I : Nat → Nat → Int32} {J : Nat → Nat → Int64} {ex : List (Nat × Nat)}
theorem p60 : zz_prog 60 = some zz_m60 := rfl
theorem e60 (g0 : Nat) (g1 : Int32) (g2 : Int32) : zz_Call zz_prog (d + 1) 60 [.ref g0, .int g1, .int g2] h = zz_Run zz_prog d 60 (0, [some (.ref g0), some (.int g1), some (.int g2)], [], true, h) := rfl
theorem t60 (pc : Nat) (L : List (Option Value)) : zz_th d 60 pc a L k h = some (.inr a, k, h) := zz_th_out p60 rfl
theorem f60_0 : zz_fetch zz_prog 60 0 = some (.aload_n 0, 1, [], []) := zz_fetch_of p60 rfl rfl
theorem s60_0 : zz_Run zz_prog d 60 (0, [some (.ref a), l1, l2], st, k, h) = zz_Run zz_prog d 60 (1, [some (.ref a), l1, l2], .ref a :: st, k, h) := zz_k_num f60_0 rfl
theorem f60_1 : zz_fetch zz_prog 60 1 = some (.getfield 28, 3, [1, 7, 3], []) := zz_fetch_of p60 rfl rfl
theorem s60_1 : zz_Run zz_prog d 60 (1, [l0, l1, l2], .ref 5 :: st, k, (zz_hp n I J ex)) = zz_Run zz_prog d 60 (4, [l0, l1, l2], .ref 9 :: st, k, (zz_hp n I J ex)) := zz_k_go f60_1 rfl rfl rfl
theorem f60_4 : zz_fetch zz_prog 60 4 = some (.getfield 89, 3, [0, 0, 0], []) := zz_fetch_of p60 rfl rfl
theorem s60_4 : zz_Run zz_prog d 60 (4, [l0, l1, l2], .ref 9 :: st, k, (zz_hp n I J ex)) = zz_Run zz_prog d 60 (7, [l0, l1, l2], .int (I 9 0) :: st, k, (zz_hp n I J ex)) := zz_k_go f60_4 rfl rfl rfl
theorem s60_4b : zz_Run zz_prog d 60 (4, [l0, l1, l2], .ref 16 :: st, k, (zz_hp n I J ex)) = zz_Run zz_prog d 60 (7, [l0, l1, l2], .int (I 16 0) :: st, k, (zz_hp n I J ex)) := zz_k_go f60_4 rfl rfl rfl
theorem f60_7 : zz_fetch zz_prog 60 7 = some (.bipush 6, 2, [], []) := zz_fetch_of p60 rfl rfl
theorem s60_7 : zz_Run zz_prog d 60 (7, [l0, l1, l2], st, k, h) = zz_Run zz_prog d 60 (9, [l0, l1, l2], .int 6 :: st, k, h) := zz_k_num f60_7 (congrArg (fun u => some (9, [l0, l1, l2], Value.int u :: st)) (by decide : (Int8.ofInt 6).toInt32 = 6))
theorem f60_9 : zz_fetch zz_prog 60 9 = some (.if_icmp .ne 8, 3, [17], []) := zz_fetch_of p60 rfl rfl
theorem s60_9 : zz_Run zz_prog d 60 (9, [l0, l1, l2], .int w :: .int v :: st, k, h) = if ¬ v = w then zz_Run zz_prog d 60 (17, [l0, l1, l2], st, k, h) else zz_Run zz_prog d 60 (12, [l0, l1, l2], st, k, h) := zz_k_br (¬ v = w) rfl (zz_k_num f60_9 rfl)
theorem f60_12 : zz_fetch zz_prog 60 12 = some (.aload_n 0, 1, [], []) := zz_fetch_of p60 rfl rfl
theorem s60_12 : zz_Run zz_prog d 60 (12, [some (.ref a), l1, l2], st, k, h) = zz_Run zz_prog d 60 (13, [some (.ref a), l1, l2], .ref a :: st, k, h) := zz_k_num f60_12 rfl
theorem f60_13 : zz_fetch zz_prog 60 13 = some (.iload_n 1, 1, [], []) := zz_fetch_of p60 rfl rfl
theorem s60_13 : zz_Run zz_prog d 60 (13, [l0, some (.int v), l2], st, k, h) = zz_Run zz_prog d 60 (14, [l0, some (.int v), l2], .int v :: st, k, h) := zz_k_num f60_13 rfl
theorem f60_14 : zz_fetch zz_prog 60 14 = some (.invokevirtual 182, 3, [0, 46, 2, 1], []) := zz_fetch_of p60 rfl rfl
theorem s60_14 : zz_Run zz_prog d 60 (14, [l0, l1, l2], [b0, .ref 5], k, (zz_hp n I J ex)) = zz_ret (zz_Call zz_prog d 46 [.ref 5, b0] (zz_hp n I J ex)) (fun v k' h' => zz_Run zz_prog d 60 (17, [l0, l1, l2], v.toList ++ [], k && k', h')) (fun a k' h' => zz_th d 60 14 a [l0, l1, l2] (k && k') h') := zz_k_call f60_14 rfl rfl rfl
theorem f60_17 : zz_fetch zz_prog 60 17 = some (.iload_n 1, 1, [], []) := zz_fetch_of p60 rfl rfl
theorem s60_17 : zz_Run zz_prog d 60 (17, [l0, some (.int v), l2], st, k, h) = zz_Run zz_prog d 60 (18, [l0, some (.int v), l2], .int v :: st, k, h) := zz_k_num f60_17 rfl
theorem f60_18 : zz_fetch zz_prog 60 18 = some (.ifCond .ne 22, 3, [40], []) := zz_fetch_of p60 rfl rfl
theorem s60_18 : zz_Run zz_prog d 60 (18, [l0, l1, l2], .int v :: st, k, h) = if ¬ v = 0 then zz_Run zz_prog d 60 (40, [l0, l1, l2], st, k, h) else zz_Run zz_prog d 60 (21, [l0, l1, l2], st, k, h) := zz_k_br (¬ v = 0) rfl (zz_k_num f60_18 rfl)
theorem f60_21 : zz_fetch zz_prog 60 21 = some (.aload_n 0, 1, [], []) := zz_fetch_of p60 rfl rfl
theorem s60_21 : zz_Run zz_prog d 60 (21, [some (.ref a), l1, l2], st, k, h) = zz_Run zz_prog d 60 (22, [some (.ref a), l1, l2], .ref a :: st, k, h) := zz_k_num f60_21 rfl
theorem f60_22 : zz_fetch zz_prog 60 22 = some (.getfield 28, 3, [1, 7, 3], []) := zz_fetch_of p60 rfl rfl
theorem s60_22 : zz_Run zz_prog d 60 (22, [l0, l1, l2], .ref 5 :: st, k, (zz_hp n I J ex)) = zz_Run zz_prog d 60 (25, [l0, l1, l2], .ref 9 :: st, k, (zz_hp n I J ex)) := zz_k_go f60_22 rfl rfl rfl
theorem f60_25 : zz_fetch zz_prog 60 25 = some (.getfield 230, 3, [0, 12, 3], []) := zz_fetch_of p60 rfl rfl
theorem s60_25 : zz_Run zz_prog d 60 (25, [l0, l1, l2], .ref 9 :: st, k, (zz_hp n I J ex)) = zz_Run zz_prog d 60 (28, [l0, l1, l2], .ref 10 :: st, k, (zz_hp n I J ex)) := zz_k_go f60_25 rfl rfl rfl
theorem s60_25b : zz_Run zz_prog d 60 (25, [l0, l1, l2], .ref 16 :: st, k, (zz_hp n I J ex)) = zz_Run zz_prog d 60 (28, [l0, l1, l2], .ref 17 :: st, k, (zz_hp n I J ex)) := zz_k_go f60_25 rfl rfl rfl
theorem f60_28 : zz_fetch zz_prog 60 28 = some (.iload_n 2, 1, [], []) := zz_fetch_of p60 rfl rfl
theorem s60_28 : zz_Run zz_prog d 60 (28, [l0, l1, some (.int v)], st, k, h) = zz_Run zz_prog d 60 (29, [l0, l1, some (.int v)], .int v :: st, k, h) := zz_k_num f60_28 rfl
theorem f60_29 : zz_fetch zz_prog 60 29 = some (.aload_n 0, 1, [], []) := zz_fetch_of p60 rfl rfl
theorem s60_29 : zz_Run zz_prog d 60 (29, [some (.ref a), l1, l2], st, k, h) = zz_Run zz_prog d 60 (30, [some (.ref a), l1, l2], .ref a :: st, k, h) := zz_k_num f60_29 rfl
theorem f60_30 : zz_fetch zz_prog 60 30 = some (.getfield 28, 3, [1, 7, 3], []) := zz_fetch_of p60 rfl rfl
theorem s60_30 : zz_Run zz_prog d 60 (30, [l0, l1, l2], .ref 5 :: st, k, (zz_hp n I J ex)) = zz_Run zz_prog d 60 (33, [l0, l1, l2], .ref 9 :: st, k, (zz_hp n I J ex)) := zz_k_go f60_30 rfl rfl rfl
theorem f60_33 : zz_fetch zz_prog 60 33 = some (.getfield 86, 3, [0, 1, 0], []) := zz_fetch_of p60 rfl rfl
theorem s60_33 : zz_Run zz_prog d 60 (33, [l0, l1, l2], .ref 9 :: st, k, (zz_hp n I J ex)) = zz_Run zz_prog d 60 (36, [l0, l1, l2], .int (I 9 1) :: st, k, (zz_hp n I J ex)) := zz_k_go f60_33 rfl rfl rfl
theorem s60_33b : zz_Run zz_prog d 60 (33, [l0, l1, l2], .ref 16 :: st, k, (zz_hp n I J ex)) = zz_Run zz_prog d 60 (36, [l0, l1, l2], .int (I 16 1) :: st, k, (zz_hp n I J ex)) := zz_k_go f60_33 rfl rfl rfl
theorem f60_36 : zz_fetch zz_prog 60 36 = some (.iastore, 1, [], []) := zz_fetch_of p60 rfl rfl
theorem s60_36 (ha : zz_isar a = true) : zz_Run zz_prog d 60 (36, [l0, l1, l2], .int w :: .int v :: .ref a :: st, k, (zz_hp n I J ex)) = zz_ck (zz_in v (zz_ary n a)) (zz_Run zz_prog d 60 (37, [l0, l1, l2], st, false, (zz_hp n (zz_up I a v.toNatClampNeg w) J ex))) := zz_k_iast f60_36 ha
theorem f60_37 : zz_fetch zz_prog 60 37 = some (.goto 37, 3, [74], []) := zz_fetch_of p60 rfl rfl
theorem s60_37 : zz_Run zz_prog d 60 (37, [l0, l1, l2], st, k, h) = zz_Run zz_prog d 60 (74, [l0, l1, l2], st, k, h) := zz_k_num f60_37 rfl
theorem f60_40 : zz_fetch zz_prog 60 40 = some (.aload_n 0, 1, [], []) := zz_fetch_of p60 rfl rfl
theorem s60_40 : zz_Run zz_prog d 60 (40, [some (.ref a), l1, l2], st, k, h) = zz_Run zz_prog d 60 (41, [some (.ref a), l1, l2], .ref a :: st, k, h) := zz_k_num f60_40 rfl
theorem f60_41 : zz_fetch zz_prog 60 41 = some (.getfield 28, 3, [1, 7, 3], []) := zz_fetch_of p60 rfl rfl
theorem s60_41 : zz_Run zz_prog d 60 (41, [l0, l1, l2], .ref 5 :: st, k, (zz_hp n I J ex)) = zz_Run zz_prog d 60 (44, [l0, l1, l2], .ref 9 :: st, k, (zz_hp n I J ex)) := zz_k_go f60_41 rfl rfl rfl
theorem f60_44 : zz_fetch zz_prog 60 44 = some (.getfield 233, 3, [0, 13, 3], []) := zz_fetch_of p60 rfl rfl
theorem s60_44 : zz_Run zz_prog d 60 (44, [l0, l1, l2], .ref 9 :: st, k, (zz_hp n I J ex)) = zz_Run zz_prog d 60 (47, [l0, l1, l2], .ref 11 :: st, k, (zz_hp n I J ex)) := zz_k_go f60_44 rfl rfl rfl
theorem s60_44b : zz_Run zz_prog d 60 (44, [l0, l1, l2], .ref 16 :: st, k, (zz_hp n I J ex)) = zz_Run zz_prog d 60 (47, [l0, l1, l2], .ref 18 :: st, k, (zz_hp n I J ex)) := zz_k_go f60_44 rfl rfl rfl
theorem f60_47 : zz_fetch zz_prog 60 47 = some (.iload_n 2, 1, [], []) := zz_fetch_of p60 rfl rfl
theorem s60_47 : zz_Run zz_prog d 60 (47, [l0, l1, some (.int v)], st, k, h) = zz_Run zz_prog d 60 (48, [l0, l1, some (.int v)], .int v :: st, k, h) := zz_k_num f60_47 rfl
theorem f60_48 : zz_fetch zz_prog 60 48 = some (.iload_n 1, 1, [], []) := zz_fetch_of p60 rfl rfl
theorem s60_48 : zz_Run zz_prog d 60 (48, [l0, some (.int v), l2], st, k, h) = zz_Run zz_prog d 60 (49, [l0, some (.int v), l2], .int v :: st, k, h) := zz_k_num f60_48 rfl
theorem f60_49 : zz_fetch zz_prog 60 49 = some (.iconst 2, 1, [], []) := zz_fetch_of p60 rfl rfl
theorem s60_49 : zz_Run zz_prog d 60 (49, [l0, l1, l2], st, k, h) = zz_Run zz_prog d 60 (50, [l0, l1, l2], .int 2 :: st, k, h) := zz_k_num f60_49 rfl
theorem f60_50 : zz_fetch zz_prog 60 50 = some (.if_icmp .ne 16, 3, [66], []) := zz_fetch_of p60 rfl rfl
theorem s60_50 : zz_Run zz_prog d 60 (50, [l0, l1, l2], .int w :: .int v :: st, k, h) = if ¬ v = w then zz_Run zz_prog d 60 (66, [l0, l1, l2], st, k, h) else zz_Run zz_prog d 60 (53, [l0, l1, l2], st, k, h) := zz_k_br (¬ v = w) rfl (zz_k_num f60_50 rfl)
theorem f60_53 : zz_fetch zz_prog 60 53 = some (.aload_n 0, 1, [], []) := zz_fetch_of p60 rfl rfl
theorem s60_53 : zz_Run zz_prog d 60 (53, [some (.ref a), l1, l2], st, k, h) = zz_Run zz_prog d 60 (54, [some (.ref a), l1, l2], .ref a :: st, k, h) := zz_k_num f60_53 rfl
theorem f60_54 : zz_fetch zz_prog 60 54 = some (.getfield 28, 3, [1, 7, 3], []) := zz_fetch_of p60 rfl rfl
theorem s60_54 : zz_Run zz_prog d 60 (54, [l0, l1, l2], .ref 5 :: st, k, (zz_hp n I J ex)) = zz_Run zz_prog d 60 (57, [l0, l1, l2], .ref 9 :: st, k, (zz_hp n I J ex)) := zz_k_go f60_54 rfl rfl rfl
theorem f60_57 : zz_fetch zz_prog 60 57 = some (.getfield 86, 3, [0, 1, 0], []) := zz_fetch_of p60 rfl rfl
theorem s60_57 : zz_Run zz_prog d 60 (57, [l0, l1, l2], .ref 9 :: st, k, (zz_hp n I J ex)) = zz_Run zz_prog d 60 (60, [l0, l1, l2], .int (I 9 1) :: st, k, (zz_hp n I J ex)) := zz_k_go f60_57 rfl rfl rfl
theorem s60_57b : zz_Run zz_prog d 60 (57, [l0, l1, l2], .ref 16 :: st, k, (zz_hp n I J ex)) = zz_Run zz_prog d 60 (60, [l0, l1, l2], .int (I 16 1) :: st, k, (zz_hp n I J ex)) := zz_k_go f60_57 rfl rfl rfl
theorem f60_60 : zz_fetch zz_prog 60 60 = some (.bipush 8, 2, [], []) := zz_fetch_of p60 rfl rfl
theorem s60_60 : zz_Run zz_prog d 60 (60, [l0, l1, l2], st, k, h) = zz_Run zz_prog d 60 (62, [l0, l1, l2], .int 8 :: st, k, h) := zz_k_num f60_60 (congrArg (fun u => some (62, [l0, l1, l2], Value.int u :: st)) (by decide : (Int8.ofInt 8).toInt32 = 8))
theorem f60_62 : zz_fetch zz_prog 60 62 = some (.iadd, 1, [], []) := zz_fetch_of p60 rfl rfl
theorem s60_62 : zz_Run zz_prog d 60 (62, [l0, l1, l2], .int w :: .int v :: st, k, h) = zz_Run zz_prog d 60 (63, [l0, l1, l2], .int (v + w) :: st, k, h) := zz_k_num f60_62 rfl
theorem f60_63 : zz_fetch zz_prog 60 63 = some (.goto 10, 3, [73], []) := zz_fetch_of p60 rfl rfl
theorem s60_63 : zz_Run zz_prog d 60 (63, [l0, l1, l2], st, k, h) = zz_Run zz_prog d 60 (73, [l0, l1, l2], st, k, h) := zz_k_num f60_63 rfl
theorem f60_66 : zz_fetch zz_prog 60 66 = some (.aload_n 0, 1, [], []) := zz_fetch_of p60 rfl rfl
theorem s60_66 : zz_Run zz_prog d 60 (66, [some (.ref a), l1, l2], st, k, h) = zz_Run zz_prog d 60 (67, [some (.ref a), l1, l2], .ref a :: st, k, h) := zz_k_num f60_66 rfl
theorem f60_67 : zz_fetch zz_prog 60 67 = some (.getfield 28, 3, [1, 7, 3], []) := zz_fetch_of p60 rfl rfl
theorem s60_67 : zz_Run zz_prog d 60 (67, [l0, l1, l2], .ref 5 :: st, k, (zz_hp n I J ex)) = zz_Run zz_prog d 60 (70, [l0, l1, l2], .ref 9 :: st, k, (zz_hp n I J ex)) := zz_k_go f60_67 rfl rfl rfl
theorem f60_70 : zz_fetch zz_prog 60 70 = some (.getfield 86, 3, [0, 1, 0], []) := zz_fetch_of p60 rfl rfl
theorem s60_70 : zz_Run zz_prog d 60 (70, [l0, l1, l2], .ref 9 :: st, k, (zz_hp n I J ex)) = zz_Run zz_prog d 60 (73, [l0, l1, l2], .int (I 9 1) :: st, k, (zz_hp n I J ex)) := zz_k_go f60_70 rfl rfl rfl
theorem s60_70b : zz_Run zz_prog d 60 (70, [l0, l1, l2], .ref 16 :: st, k, (zz_hp n I J ex)) = zz_Run zz_prog d 60 (73, [l0, l1, l2], .int (I 16 1) :: st, k, (zz_hp n I J ex)) := zz_k_go f60_70 rfl rfl rfl
theorem f60_73 : zz_fetch zz_prog 60 73 = some (.iastore, 1, [], []) := zz_fetch_of p60 rfl rfl
theorem s60_73 (ha : zz_isar a = true) : zz_Run zz_prog d 60 (73, [l0, l1, l2], .int w :: .int v :: .ref a :: st, k, (zz_hp n I J ex)) = zz_ck (zz_in v (zz_ary n a)) (zz_Run zz_prog d 60 (74, [l0, l1, l2], st, false, (zz_hp n (zz_up I a v.toNatClampNeg w) J ex))) := zz_k_iast f60_73 ha
theorem f60_74 : zz_fetch zz_prog 60 74 = some (.return_, 1, [], []) := zz_fetch_of p60 rfl rfl
theorem s60_74 : zz_Run zz_prog d 60 (74, [l0, l1, l2], [], k, h) = some (.inl none, k, h) := zz_k_stop f60_74 rfl rfl rfl
end S60
section S61
variable {d n j : Nat} {l0 l1 : Option Value} {st : List Value} {k : Bool} {h : zz_H} {v w v1 v2 : Int32} {y y1 : Int64} {a a1 a2 : Nat} {b0 b1 b2 b3 b4 b5 b6 b7 b8 : Value} {I : Nat → Nat → Int32} {J : Nat → Nat → Int64} {ex : List (Nat × Nat)}
theorem p61 : zz_prog 61 = some zz_m61 := rfl
theorem e61 (g0 : Nat) (g1 : Int32) : zz_Call zz_prog (d + 1) 61 [.ref g0, .int g1] h = zz_Run zz_prog d 61 (0, [some (.ref g0), some (.int g1)], [], true, h) := rfl
theorem t61 (pc : Nat) (L : List (Option Value)) : zz_th d 61 pc a L k h = some (.inr a, k, h) := zz_th_out p61 rfl
theorem f61_0 : zz_fetch zz_prog 61 0 = some (.aload_n 0, 1, [], []) := zz_fetch_of p61 rfl rfl
theorem s61_0 : zz_Run zz_prog d 61 (0, [some (.ref a), l1], st, k, h) = zz_Run zz_prog d 61 (1, [some (.ref a), l1], .ref a :: st, k, h) := zz_k_num f61_0 rfl
theorem f61_1 : zz_fetch zz_prog 61 1 = some (.getfield 28, 3, [1, 7, 3], []) := zz_fetch_of p61 rfl rfl
theorem s61_1 : zz_Run zz_prog d 61 (1, [l0, l1], .ref 5 :: st, k, (zz_hp n I J ex)) = zz_Run zz_prog d 61 (4, [l0, l1], .ref 9 :: st, k, (zz_hp n I J ex)) := zz_k_go f61_1 rfl rfl rfl
theorem f61_4 : zz_fetch zz_prog 61 4 = some (.getfield 89, 3, [0, 0, 0], []) := zz_fetch_of p61 rfl rfl
theorem s61_4 : zz_Run zz_prog d 61 (4, [l0, l1], .ref 9 :: st, k, (zz_hp n I J ex)) = zz_Run zz_prog d 61 (7, [l0, l1], .int (I 9 0) :: st, k, (zz_hp n I J ex)) := zz_k_go f61_4 rfl rfl rfl
theorem s61_4b : zz_Run zz_prog d 61 (4, [l0, l1], .ref 16 :: st, k, (zz_hp n I J ex)) = zz_Run zz_prog d 61 (7, [l0, l1], .int (I 16 0) :: st, k, (zz_hp n I J ex)) := zz_k_go f61_4 rfl rfl rfl
theorem f61_7 : zz_fetch zz_prog 61 7 = some (.lookupswitch 98 #[(1, 33), (2, 71), (7, 78)], 33, [105], [(1, 40), (2, 78), (7, 85)]) := zz_fetch_of p61 rfl rfl
theorem s61_7 : zz_Run zz_prog d 61 (7, [l0, l1], .int v :: st, k, h) = zz_Run zz_prog d 61 (zz_sw v 105 [(1, 40), (2, 78), (7, 85)], [l0, l1], st, k, h) := zz_k_num f61_7 rfl
theorem f61_40 : zz_fetch zz_prog 61 40 = some (.aload_n 0, 1, [], []) := zz_fetch_of p61 rfl rfl
theorem s61_40 : zz_Run zz_prog d 61 (40, [some (.ref a), l1], st, k, h) = zz_Run zz_prog d 61 (41, [some (.ref a), l1], .ref a :: st, k, h) := zz_k_num f61_40 rfl
theorem f61_41 : zz_fetch zz_prog 61 41 = some (.getfield 28, 3, [1, 7, 3], []) := zz_fetch_of p61 rfl rfl
theorem s61_41 : zz_Run zz_prog d 61 (41, [l0, l1], .ref 5 :: st, k, (zz_hp n I J ex)) = zz_Run zz_prog d 61 (44, [l0, l1], .ref 9 :: st, k, (zz_hp n I J ex)) := zz_k_go f61_41 rfl rfl rfl
theorem f61_44 : zz_fetch zz_prog 61 44 = some (.iload_n 1, 1, [], []) := zz_fetch_of p61 rfl rfl
theorem s61_44 : zz_Run zz_prog d 61 (44, [l0, some (.int v)], st, k, h) = zz_Run zz_prog d 61 (45, [l0, some (.int v)], .int v :: st, k, h) := zz_k_num f61_44 rfl
theorem f61_45 : zz_fetch zz_prog 61 45 = some (.putfield 276, 3, [0, 3, 0], []) := zz_fetch_of p61 rfl rfl
theorem s61_45 : zz_Run zz_prog d 61 (45, [l0, l1], .int v :: .ref 9 :: st, k, (zz_hp n I J ex)) = zz_Run zz_prog d 61 (48, [l0, l1], st, false, (zz_hp n (zz_up I 9 3 v) J ex)) := zz_k_go f61_45 rfl rfl rfl
theorem s61_45b : zz_Run zz_prog d 61 (45, [l0, l1], .int v :: .ref 16 :: st, k, (zz_hp n I J ex)) = zz_Run zz_prog d 61 (48, [l0, l1], st, false, (zz_hp n (zz_up I 16 3 v) J ex)) := zz_k_go f61_45 rfl rfl rfl
theorem f61_48 : zz_fetch zz_prog 61 48 = some (.aload_n 0, 1, [], []) := zz_fetch_of p61 rfl rfl
theorem s61_48 : zz_Run zz_prog d 61 (48, [some (.ref a), l1], st, k, h) = zz_Run zz_prog d 61 (49, [some (.ref a), l1], .ref a :: st, k, h) := zz_k_num f61_48 rfl
theorem f61_49 : zz_fetch zz_prog 61 49 = some (.getfield 28, 3, [1, 7, 3], []) := zz_fetch_of p61 rfl rfl
theorem s61_49 : zz_Run zz_prog d 61 (49, [l0, l1], .ref 5 :: st, k, (zz_hp n I J ex)) = zz_Run zz_prog d 61 (52, [l0, l1], .ref 9 :: st, k, (zz_hp n I J ex)) := zz_k_go f61_49 rfl rfl rfl
theorem f61_52 : zz_fetch zz_prog 61 52 = some (.getfield 297, 3, [0, 2, 0], []) := zz_fetch_of p61 rfl rfl
theorem s61_52 : zz_Run zz_prog d 61 (52, [l0, l1], .ref 9 :: st, k, (zz_hp n I J ex)) = zz_Run zz_prog d 61 (55, [l0, l1], .int (I 9 2) :: st, k, (zz_hp n I J ex)) := zz_k_go f61_52 rfl rfl rfl
theorem s61_52b : zz_Run zz_prog d 61 (52, [l0, l1], .ref 16 :: st, k, (zz_hp n I J ex)) = zz_Run zz_prog d 61 (55, [l0, l1], .int (I 16 2) :: st, k, (zz_hp n I J ex)) := zz_k_go f61_52 rfl rfl rfl
theorem f61_55 : zz_fetch zz_prog 61 55 = some (.aload_n 0, 1, [], []) := zz_fetch_of p61 rfl rfl
theorem s61_55 : zz_Run zz_prog d 61 (55, [some (.ref a), l1], st, k, h) = zz_Run zz_prog d 61 (56, [some (.ref a), l1], .ref a :: st, k, h) := zz_k_num f61_55 rfl
theorem f61_56 : zz_fetch zz_prog 61 56 = some (.getfield 73, 3, [1, 5, 0], []) := zz_fetch_of p61 rfl rfl
theorem s61_56 : zz_Run zz_prog d 61 (56, [l0, l1], .ref 5 :: st, k, (zz_hp n I J ex)) = zz_Run zz_prog d 61 (59, [l0, l1], .int (I 5 5) :: st, k, (zz_hp n I J ex)) := zz_k_go f61_56 rfl rfl rfl
theorem f61_59 : zz_fetch zz_prog 61 59 = some (.if_icmp .lt 8, 3, [67], []) := zz_fetch_of p61 rfl rfl
theorem s61_59 : zz_Run zz_prog d 61 (59, [l0, l1], .int w :: .int v :: st, k, h) = if v < w then zz_Run zz_prog d 61 (67, [l0, l1], st, k, h) else zz_Run zz_prog d 61 (62, [l0, l1], st, k, h) := zz_k_br (v < w) rfl (zz_k_num f61_59 rfl)
theorem f61_62 : zz_fetch zz_prog 61 62 = some (.aload_n 0, 1, [], []) := zz_fetch_of p61 rfl rfl
theorem s61_62 : zz_Run zz_prog d 61 (62, [some (.ref a), l1], st, k, h) = zz_Run zz_prog d 61 (63, [some (.ref a), l1], .ref a :: st, k, h) := zz_k_num f61_62 rfl
theorem f61_63 : zz_fetch zz_prog 61 63 = some (.iload_n 1, 1, [], []) := zz_fetch_of p61 rfl rfl
theorem s61_63 : zz_Run zz_prog d 61 (63, [l0, some (.int v)], st, k, h) = zz_Run zz_prog d 61 (64, [l0, some (.int v)], .int v :: st, k, h) := zz_k_num f61_63 rfl
theorem f61_64 : zz_fetch zz_prog 61 64 = some (.invokevirtual 300, 3, [0, 62, 2, 1], []) := zz_fetch_of p61 rfl rfl
theorem s61_64 : zz_Run zz_prog d 61 (64, [l0, l1], [b0, .ref 5], k, (zz_hp n I J ex)) = zz_ret (zz_Call zz_prog d 62 [.ref 5, b0] (zz_hp n I J ex)) (fun v k' h' => zz_Run zz_prog d 61 (67, [l0, l1], v.toList ++ [], k && k', h')) (fun a k' h' => zz_th d 61 64 a [l0, l1] (k && k') h') := zz_k_call f61_64 rfl rfl rfl
theorem f61_67 : zz_fetch zz_prog 61 67 = some (.aload_n 0, 1, [], []) := zz_fetch_of p61 rfl rfl
theorem s61_67 : zz_Run zz_prog d 61 (67, [some (.ref a), l1], st, k, h) = zz_Run zz_prog d 61 (68, [some (.ref a), l1], .ref a :: st, k, h) := zz_k_num f61_67 rfl
theorem f61_68 : zz_fetch zz_prog 61 68 = some (.getfield 28, 3, [1, 7, 3], []) := zz_fetch_of p61 rfl rfl
theorem s61_68 : zz_Run zz_prog d 61 (68, [l0, l1], .ref 5 :: st, k, (zz_hp n I J ex)) = zz_Run zz_prog d 61 (71, [l0, l1], .ref 9 :: st, k, (zz_hp n I J ex)) := zz_k_go f61_68 rfl rfl rfl
theorem f61_71 : zz_fetch zz_prog 61 71 = some (.iconst 2, 1, [], []) := zz_fetch_of p61 rfl rfl
theorem s61_71 : zz_Run zz_prog d 61 (71, [l0, l1], st, k, h) = zz_Run zz_prog d 61 (72, [l0, l1], .int 2 :: st, k, h) := zz_k_num f61_71 rfl
theorem f61_72 : zz_fetch zz_prog 61 72 = some (.putfield 89, 3, [0, 0, 0], []) := zz_fetch_of p61 rfl rfl
theorem s61_72 : zz_Run zz_prog d 61 (72, [l0, l1], .int v :: .ref 9 :: st, k, (zz_hp n I J ex)) = zz_Run zz_prog d 61 (75, [l0, l1], st, false, (zz_hp n (zz_up I 9 0 v) J ex)) := zz_k_go f61_72 rfl rfl rfl
theorem s61_72b : zz_Run zz_prog d 61 (72, [l0, l1], .int v :: .ref 16 :: st, k, (zz_hp n I J ex)) = zz_Run zz_prog d 61 (75, [l0, l1], st, false, (zz_hp n (zz_up I 16 0 v) J ex)) := zz_k_go f61_72 rfl rfl rfl
theorem f61_75 : zz_fetch zz_prog 61 75 = some (.goto 30, 3, [105], []) := zz_fetch_of p61 rfl rfl
theorem s61_75 : zz_Run zz_prog d 61 (75, [l0, l1], st, k, h) = zz_Run zz_prog d 61 (105, [l0, l1], st, k, h) := zz_k_num f61_75 rfl
theorem f61_78 : zz_fetch zz_prog 61 78 = some (.aload_n 0, 1, [], []) := zz_fetch_of p61 rfl rfl
theorem s61_78 : zz_Run zz_prog d 61 (78, [some (.ref a), l1], st, k, h) = zz_Run zz_prog d 61 (79, [some (.ref a), l1], .ref a :: st, k, h) := zz_k_num f61_78 rfl
theorem f61_79 : zz_fetch zz_prog 61 79 = some (.invokevirtual 303, 3, [0, 63, 1, 1], []) := zz_fetch_of p61 rfl rfl
theorem s61_79 : zz_Run zz_prog d 61 (79, [l0, l1], [.ref 5], k, (zz_hp n I J ex)) = zz_ret (zz_Call zz_prog d 63 [.ref 5] (zz_hp n I J ex)) (fun v k' h' => zz_Run zz_prog d 61 (82, [l0, l1], v.toList ++ [], k && k', h')) (fun a k' h' => zz_th d 61 79 a [l0, l1] (k && k') h') := zz_k_call f61_79 rfl rfl rfl
theorem f61_82 : zz_fetch zz_prog 61 82 = some (.goto 23, 3, [105], []) := zz_fetch_of p61 rfl rfl
theorem s61_82 : zz_Run zz_prog d 61 (82, [l0, l1], st, k, h) = zz_Run zz_prog d 61 (105, [l0, l1], st, k, h) := zz_k_num f61_82 rfl
theorem f61_85 : zz_fetch zz_prog 61 85 = some (.aload_n 0, 1, [], []) := zz_fetch_of p61 rfl rfl
theorem s61_85 : zz_Run zz_prog d 61 (85, [some (.ref a), l1], st, k, h) = zz_Run zz_prog d 61 (86, [some (.ref a), l1], .ref a :: st, k, h) := zz_k_num f61_85 rfl
theorem f61_86 : zz_fetch zz_prog 61 86 = some (.getfield 28, 3, [1, 7, 3], []) := zz_fetch_of p61 rfl rfl
theorem s61_86 : zz_Run zz_prog d 61 (86, [l0, l1], .ref 5 :: st, k, (zz_hp n I J ex)) = zz_Run zz_prog d 61 (89, [l0, l1], .ref 9 :: st, k, (zz_hp n I J ex)) := zz_k_go f61_86 rfl rfl rfl
theorem f61_89 : zz_fetch zz_prog 61 89 = some (.dup, 1, [], []) := zz_fetch_of p61 rfl rfl
theorem s61_89 : zz_Run zz_prog d 61 (89, [l0, l1], .ref a :: st, k, h) = zz_Run zz_prog d 61 (90, [l0, l1], .ref a :: .ref a :: st, k, h) := zz_k_num f61_89 rfl
theorem f61_90 : zz_fetch zz_prog 61 90 = some (.getfield 306, 3, [0, 6, 0], []) := zz_fetch_of p61 rfl rfl
theorem s61_90 : zz_Run zz_prog d 61 (90, [l0, l1], .ref 9 :: st, k, (zz_hp n I J ex)) = zz_Run zz_prog d 61 (93, [l0, l1], .int (I 9 6) :: st, k, (zz_hp n I J ex)) := zz_k_go f61_90 rfl rfl rfl
theorem s61_90b : zz_Run zz_prog d 61 (90, [l0, l1], .ref 16 :: st, k, (zz_hp n I J ex)) = zz_Run zz_prog d 61 (93, [l0, l1], .int (I 16 6) :: st, k, (zz_hp n I J ex)) := zz_k_go f61_90 rfl rfl rfl
theorem f61_93 : zz_fetch zz_prog 61 93 = some (.iconst 1, 1, [], []) := zz_fetch_of p61 rfl rfl
theorem s61_93 : zz_Run zz_prog d 61 (93, [l0, l1], st, k, h) = zz_Run zz_prog d 61 (94, [l0, l1], .int 1 :: st, k, h) := zz_k_num f61_93 rfl
theorem f61_94 : zz_fetch zz_prog 61 94 = some (.isub, 1, [], []) := zz_fetch_of p61 rfl rfl
theorem s61_94 : zz_Run zz_prog d 61 (94, [l0, l1], .int w :: .int v :: st, k, h) = zz_Run zz_prog d 61 (95, [l0, l1], .int (v - w) :: st, k, h) := zz_k_num f61_94 rfl
theorem f61_95 : zz_fetch zz_prog 61 95 = some (.putfield 306, 3, [0, 6, 0], []) := zz_fetch_of p61 rfl rfl
theorem s61_95 : zz_Run zz_prog d 61 (95, [l0, l1], .int v :: .ref 9 :: st, k, (zz_hp n I J ex)) = zz_Run zz_prog d 61 (98, [l0, l1], st, false, (zz_hp n (zz_up I 9 6 v) J ex)) := zz_k_go f61_95 rfl rfl rfl
theorem s61_95b : zz_Run zz_prog d 61 (95, [l0, l1], .int v :: .ref 16 :: st, k, (zz_hp n I J ex)) = zz_Run zz_prog d 61 (98, [l0, l1], st, false, (zz_hp n (zz_up I 16 6 v) J ex)) := zz_k_go f61_95 rfl rfl rfl
theorem f61_98 : zz_fetch zz_prog 61 98 = some (.aload_n 0, 1, [], []) := zz_fetch_of p61 rfl rfl
theorem s61_98 : zz_Run zz_prog d 61 (98, [some (.ref a), l1], st, k, h) = zz_Run zz_prog d 61 (99, [some (.ref a), l1], .ref a :: st, k, h) := zz_k_num f61_98 rfl
theorem f61_99 : zz_fetch zz_prog 61 99 = some (.invokevirtual 309, 3, [0, 64, 1, 1], []) := zz_fetch_of p61 rfl rfl
theorem s61_99 : zz_Run zz_prog d 61 (99, [l0, l1], [.ref 5], k, (zz_hp n I J ex)) = zz_ret (zz_Call zz_prog d 64 [.ref 5] (zz_hp n I J ex)) (fun v k' h' => zz_Run zz_prog d 61 (102, [l0, l1], v.toList ++ [], k && k', h')) (fun a k' h' => zz_th d 61 99 a [l0, l1] (k && k') h') := zz_k_call f61_99 rfl rfl rfl
theorem f61_102 : zz_fetch zz_prog 61 102 = some (.goto 3, 3, [105], []) := zz_fetch_of p61 rfl rfl
theorem s61_102 : zz_Run zz_prog d 61 (102, [l0, l1], st, k, h) = zz_Run zz_prog d 61 (105, [l0, l1], st, k, h) := zz_k_num f61_102 rfl
theorem f61_105 : zz_fetch zz_prog 61 105 = some (.return_, 1, [], []) := zz_fetch_of p61 rfl rfl
theorem s61_105 : zz_Run zz_prog d 61 (105, [l0, l1], [], k, h) = some (.inl none, k, h) := zz_k_stop f61_105 rfl rfl rfl
end S61
section S62
variable {d n j : Nat} {l0 l1 l2 : Option Value} {st : List Value} {k : Bool} {h : zz_H} {v w v1 v2 : Int32} {y y1 : Int64} {a a1 a2 : Nat} {b0 b1 b2 b3 b4 b5 b6 b7 b8 : Value} {I : Nat → Nat → Int32} {J : Nat → Nat → Int64} {ex : List (Nat × Nat)}
theorem p62 : zz_prog 62 = some zz_m62 := rfl
theorem e62 (g0 : Nat) (g1 : Int32) : zz_Call zz_prog (d + 1) 62 [.ref g0, .int g1] h = zz_Run zz_prog d 62 (0, [some (.ref g0), some (.int g1), none], [], true, h) := rfl
theorem t62 (pc : Nat) (L : List (Option Value)) : zz_th d 62 pc a L k h = some (.inr a, k, h) := zz_th_out p62 rfl
theorem f62_0 : zz_fetch zz_prog 62 0 = some (.iconst 0, 1, [], []) := zz_fetch_of p62 rfl rfl
theorem s62_0 : zz_Run zz_prog d 62 (0, [l0, l1, l2], st, k, h) = zz_Run zz_prog d 62 (1, [l0, l1, l2], .int 0 :: st, k, h) := zz_k_num f62_0 rfl
theorem f62_1 : zz_fetch zz_prog 62 1 = some (.istore_n 2, 1, [], []) := zz_fetch_of p62 rfl rfl
theorem s62_1 : zz_Run zz_prog d 62 (1, [l0, l1, l2], .int v :: st, k, h) = zz_sl l1 (zz_Run zz_prog d 62 (2, [l0, l1, some (.int v)], st, k, h)) := zz_k_st (j := 2) (u := .int v) f62_1 rfl (fun q hq => by cases hq) rfl (show 2 < 3 by decide) (by cases l1 <;> rfl) rfl
theorem f62_2 : zz_fetch zz_prog 62 2 = some (.iload_n 2, 1, [], []) := zz_fetch_of p62 rfl rfl
theorem s62_2 : zz_Run zz_prog d 62 (2, [l0, l1, some (.int v)], st, k, h) = zz_Run zz_prog d 62 (3, [l0, l1, some (.int v)], .int v :: st, k, h) := zz_k_num f62_2 rfl
theorem f62_3 : zz_fetch zz_prog 62 3 = some (.bipush 19, 2, [], []) := zz_fetch_of p62 rfl rfl
theorem s62_3 : zz_Run zz_prog d 62 (3, [l0, l1, l2], st, k, h) = zz_Run zz_prog d 62 (5, [l0, l1, l2], .int 19 :: st, k, h) := zz_k_num f62_3 (congrArg (fun u => some (5, [l0, l1, l2], Value.int u :: st)) (by decide : (Int8.ofInt 19).toInt32 = 19))
theorem f62_5 : zz_fetch zz_prog 62 5 = some (.if_icmp .ge 46, 3, [51], []) := zz_fetch_of p62 rfl rfl
theorem s62_5 : zz_Run zz_prog d 62 (5, [l0, l1, l2], .int w :: .int v :: st, k, h) = if w ≤ v then zz_Run zz_prog d 62 (51, [l0, l1, l2], st, k, h) else zz_Run zz_prog d 62 (8, [l0, l1, l2], st, k, h) := zz_k_br (w ≤ v) rfl (zz_k_num f62_5 rfl)
theorem f62_8 : zz_fetch zz_prog 62 8 = some (.aload_n 0, 1, [], []) := zz_fetch_of p62 rfl rfl
theorem s62_8 : zz_Run zz_prog d 62 (8, [some (.ref a), l1, l2], st, k, h) = zz_Run zz_prog d 62 (9, [some (.ref a), l1, l2], .ref a :: st, k, h) := zz_k_num f62_8 rfl
theorem f62_9 : zz_fetch zz_prog 62 9 = some (.getfield 9, 3, [1, 0, 3], []) := zz_fetch_of p62 rfl rfl
theorem s62_9 : zz_Run zz_prog d 62 (9, [l0, l1, l2], .ref 5 :: st, k, (zz_hp n I J ex)) = zz_Run zz_prog d 62 (12, [l0, l1, l2], .ref 6 :: st, k, (zz_hp n I J ex)) := zz_k_go f62_9 rfl rfl rfl
theorem f62_12 : zz_fetch zz_prog 62 12 = some (.iload_n 2, 1, [], []) := zz_fetch_of p62 rfl rfl
theorem s62_12 : zz_Run zz_prog d 62 (12, [l0, l1, some (.int v)], st, k, h) = zz_Run zz_prog d 62 (13, [l0, l1, some (.int v)], .int v :: st, k, h) := zz_k_num f62_12 rfl
theorem f62_13 : zz_fetch zz_prog 62 13 = some (.iaload, 1, [], []) := zz_fetch_of p62 rfl rfl
theorem s62_13 (ha : zz_isrd a = true) : zz_Run zz_prog d 62 (13, [l0, l1, l2], .int v :: .ref a :: st, k, (zz_hp n I J ex)) = zz_ck (zz_in v (zz_ary n a)) (zz_Run zz_prog d 62 (14, [l0, l1, l2], .int (I a v.toNatClampNeg) :: st, k, (zz_hp n I J ex))) := zz_k_iald f62_13 ha
theorem f62_14 : zz_fetch zz_prog 62 14 = some (.iconst 5, 1, [], []) := zz_fetch_of p62 rfl rfl
theorem s62_14 : zz_Run zz_prog d 62 (14, [l0, l1, l2], st, k, h) = zz_Run zz_prog d 62 (15, [l0, l1, l2], .int 5 :: st, k, h) := zz_k_num f62_14 rfl
theorem f62_15 : zz_fetch zz_prog 62 15 = some (.if_icmp .eq 30, 3, [45], []) := zz_fetch_of p62 rfl rfl
theorem s62_15 : zz_Run zz_prog d 62 (15, [l0, l1, l2], .int w :: .int v :: st, k, h) = if v = w then zz_Run zz_prog d 62 (45, [l0, l1, l2], st, k, h) else zz_Run zz_prog d 62 (18, [l0, l1, l2], st, k, h) := zz_k_br (v = w) rfl (zz_k_num f62_15 rfl)
theorem f62_18 : zz_fetch zz_prog 62 18 = some (.iload_n 1, 1, [], []) := zz_fetch_of p62 rfl rfl
theorem s62_18 : zz_Run zz_prog d 62 (18, [l0, some (.int v), l2], st, k, h) = zz_Run zz_prog d 62 (19, [l0, some (.int v), l2], .int v :: st, k, h) := zz_k_num f62_18 rfl
theorem f62_19 : zz_fetch zz_prog 62 19 = some (.iload_n 2, 1, [], []) := zz_fetch_of p62 rfl rfl
theorem s62_19 : zz_Run zz_prog d 62 (19, [l0, l1, some (.int v)], st, k, h) = zz_Run zz_prog d 62 (20, [l0, l1, some (.int v)], .int v :: st, k, h) := zz_k_num f62_19 rfl
theorem f62_20 : zz_fetch zz_prog 62 20 = some (.invokestatic 245, 3, [0, 38, 2], []) := zz_fetch_of p62 rfl rfl
theorem s62_20 : zz_Run zz_prog d 62 (20, [l0, l1, l2], [b0, b1], k, h) = zz_ret (zz_Call zz_prog d 38 [b1, b0] h) (fun v k' h' => zz_Run zz_prog d 62 (23, [l0, l1, l2], v.toList ++ [], k && k', h')) (fun a k' h' => zz_th d 62 20 a [l0, l1, l2] (k && k') h') := zz_k_call f62_20 rfl rfl rfl
theorem f62_23 : zz_fetch zz_prog 62 23 = some (.ifCond .eq 22, 3, [45], []) := zz_fetch_of p62 rfl rfl
theorem s62_23 : zz_Run zz_prog d 62 (23, [l0, l1, l2], .int v :: st, k, h) = if v = 0 then zz_Run zz_prog d 62 (45, [l0, l1, l2], st, k, h) else zz_Run zz_prog d 62 (26, [l0, l1, l2], st, k, h) := zz_k_br (v = 0) rfl (zz_k_num f62_23 rfl)
theorem f62_26 : zz_fetch zz_prog 62 26 = some (.aload_n 0, 1, [], []) := zz_fetch_of p62 rfl rfl
theorem s62_26 : zz_Run zz_prog d 62 (26, [some (.ref a), l1, l2], st, k, h) = zz_Run zz_prog d 62 (27, [some (.ref a), l1, l2], .ref a :: st, k, h) := zz_k_num f62_26 rfl
theorem f62_27 : zz_fetch zz_prog 62 27 = some (.iconst 4, 1, [], []) := zz_fetch_of p62 rfl rfl
theorem s62_27 : zz_Run zz_prog d 62 (27, [l0, l1, l2], st, k, h) = zz_Run zz_prog d 62 (28, [l0, l1, l2], .int 4 :: st, k, h) := zz_k_num f62_27 rfl
theorem f62_28 : zz_fetch zz_prog 62 28 = some (.aload_n 0, 1, [], []) := zz_fetch_of p62 rfl rfl
theorem s62_28 : zz_Run zz_prog d 62 (28, [some (.ref a), l1, l2], st, k, h) = zz_Run zz_prog d 62 (29, [some (.ref a), l1, l2], .ref a :: st, k, h) := zz_k_num f62_28 rfl
theorem f62_29 : zz_fetch zz_prog 62 29 = some (.getfield 28, 3, [1, 7, 3], []) := zz_fetch_of p62 rfl rfl
theorem s62_29 : zz_Run zz_prog d 62 (29, [l0, l1, l2], .ref 5 :: st, k, (zz_hp n I J ex)) = zz_Run zz_prog d 62 (32, [l0, l1, l2], .ref 9 :: st, k, (zz_hp n I J ex)) := zz_k_go f62_29 rfl rfl rfl
theorem f62_32 : zz_fetch zz_prog 62 32 = some (.getfield 86, 3, [0, 1, 0], []) := zz_fetch_of p62 rfl rfl
theorem s62_32 : zz_Run zz_prog d 62 (32, [l0, l1, l2], .ref 9 :: st, k, (zz_hp n I J ex)) = zz_Run zz_prog d 62 (35, [l0, l1, l2], .int (I 9 1) :: st, k, (zz_hp n I J ex)) := zz_k_go f62_32 rfl rfl rfl
theorem s62_32b : zz_Run zz_prog d 62 (32, [l0, l1, l2], .ref 16 :: st, k, (zz_hp n I J ex)) = zz_Run zz_prog d 62 (35, [l0, l1, l2], .int (I 16 1) :: st, k, (zz_hp n I J ex)) := zz_k_go f62_32 rfl rfl rfl
theorem f62_35 : zz_fetch zz_prog 62 35 = some (.aload_n 0, 1, [], []) := zz_fetch_of p62 rfl rfl
theorem s62_35 : zz_Run zz_prog d 62 (35, [some (.ref a), l1, l2], st, k, h) = zz_Run zz_prog d 62 (36, [some (.ref a), l1, l2], .ref a :: st, k, h) := zz_k_num f62_35 rfl
theorem f62_36 : zz_fetch zz_prog 62 36 = some (.getfield 9, 3, [1, 0, 3], []) := zz_fetch_of p62 rfl rfl
theorem s62_36 : zz_Run zz_prog d 62 (36, [l0, l1, l2], .ref 5 :: st, k, (zz_hp n I J ex)) = zz_Run zz_prog d 62 (39, [l0, l1, l2], .ref 6 :: st, k, (zz_hp n I J ex)) := zz_k_go f62_36 rfl rfl rfl
theorem f62_39 : zz_fetch zz_prog 62 39 = some (.iload_n 2, 1, [], []) := zz_fetch_of p62 rfl rfl
theorem s62_39 : zz_Run zz_prog d 62 (39, [l0, l1, some (.int v)], st, k, h) = zz_Run zz_prog d 62 (40, [l0, l1, some (.int v)], .int v :: st, k, h) := zz_k_num f62_39 rfl
theorem f62_40 : zz_fetch zz_prog 62 40 = some (.iaload, 1, [], []) := zz_fetch_of p62 rfl rfl
theorem s62_40 (ha : zz_isrd a = true) : zz_Run zz_prog d 62 (40, [l0, l1, l2], .int v :: .ref a :: st, k, (zz_hp n I J ex)) = zz_ck (zz_in v (zz_ary n a)) (zz_Run zz_prog d 62 (41, [l0, l1, l2], .int (I a v.toNatClampNeg) :: st, k, (zz_hp n I J ex))) := zz_k_iald f62_40 ha
theorem f62_41 : zz_fetch zz_prog 62 41 = some (.iconst 1, 1, [], []) := zz_fetch_of p62 rfl rfl
theorem s62_41 : zz_Run zz_prog d 62 (41, [l0, l1, l2], st, k, h) = zz_Run zz_prog d 62 (42, [l0, l1, l2], .int 1 :: st, k, h) := zz_k_num f62_41 rfl
theorem f62_42 : zz_fetch zz_prog 62 42 = some (.invokevirtual 138, 3, [0, 44, 5, 1], []) := zz_fetch_of p62 rfl rfl
theorem s62_42 : zz_Run zz_prog d 62 (42, [l0, l1, l2], [b0, b1, b2, b3, .ref 5], k, (zz_hp n I J ex)) = zz_ret (zz_Call zz_prog d 44 [.ref 5, b3, b2, b1, b0] (zz_hp n I J ex)) (fun v k' h' => zz_Run zz_prog d 62 (45, [l0, l1, l2], v.toList ++ [], k && k', h')) (fun a k' h' => zz_th d 62 42 a [l0, l1, l2] (k && k') h') := zz_k_call f62_42 rfl rfl rfl
theorem f62_45 : zz_fetch zz_prog 62 45 = some (.iinc 2 1, 3, [], []) := zz_fetch_of p62 rfl rfl
theorem s62_45 : zz_Run zz_prog d 62 (45, [l0, l1, some (.int v)], st, k, h) = zz_sl l1 (zz_Run zz_prog d 62 (48, [l0, l1, some (.int (v + 1))], st, k, h)) := zz_k_st (j := 2) (u := .int (v + 1)) f62_45 rfl (fun q hq => by cases hq) rfl (show 2 < 3 by decide) (by cases l1 <;> rfl) rfl
theorem f62_48 : zz_fetch zz_prog 62 48 = some (.goto (-46), 3, [2], []) := zz_fetch_of p62 rfl rfl
theorem s62_48 : zz_Run zz_prog d 62 (48, [l0, l1, l2], st, k, h) = zz_Run zz_prog d 62 (2, [l0, l1, l2], st, k, h) := zz_k_num f62_48 rfl
theorem f62_51 : zz_fetch zz_prog 62 51 = some (.return_, 1, [], []) := zz_fetch_of p62 rfl rfl
theorem s62_51 : zz_Run zz_prog d 62 (51, [l0, l1, l2], [], k, h) = some (.inl none, k, h) := zz_k_stop f62_51 rfl rfl rfl
end S62
section S63
variable {d n j : Nat} {l0 : Option Value} {st : List Value} {k : Bool} {h : zz_H} {v w v1 v2 : Int32} {y y1 : Int64} {a a1 a2 : Nat} {b0 b1 b2 b3 b4 b5 b6 b7 b8 : Value} {I : Nat → Nat → Int32} {J : Nat → Nat → Int64} {ex : List (Nat × Nat)}
theorem p63 : zz_prog 63 = some zz_m63 := rfl
theorem e63 (g0 : Nat) : zz_Call zz_prog (d + 1) 63 [.ref g0] h = zz_Run zz_prog d 63 (0, [some (.ref g0)], [], true, h) := rfl
theorem t63 (pc : Nat) (L : List (Option Value)) : zz_th d 63 pc a L k h = some (.inr a, k, h) := zz_th_out p63 rfl
theorem f63_0 : zz_fetch zz_prog 63 0 = some (.aload_n 0, 1, [], []) := zz_fetch_of p63 rfl rfl
theorem s63_0 : zz_Run zz_prog d 63 (0, [some (.ref a)], st, k, h) = zz_Run zz_prog d 63 (1, [some (.ref a)], .ref a :: st, k, h) := zz_k_num f63_0 rfl
theorem f63_1 : zz_fetch zz_prog 63 1 = some (.getfield 28, 3, [1, 7, 3], []) := zz_fetch_of p63 rfl rfl
theorem s63_1 : zz_Run zz_prog d 63 (1, [l0], .ref 5 :: st, k, (zz_hp n I J ex)) = zz_Run zz_prog d 63 (4, [l0], .ref 9 :: st, k, (zz_hp n I J ex)) := zz_k_go f63_1 rfl rfl rfl
theorem f63_4 : zz_fetch zz_prog 63 4 = some (.dup, 1, [], []) := zz_fetch_of p63 rfl rfl
theorem s63_4 : zz_Run zz_prog d 63 (4, [l0], .ref a :: st, k, h) = zz_Run zz_prog d 63 (5, [l0], .ref a :: .ref a :: st, k, h) := zz_k_num f63_4 rfl
theorem f63_5 : zz_fetch zz_prog 63 5 = some (.getfield 297, 3, [0, 2, 0], []) := zz_fetch_of p63 rfl rfl
theorem s63_5 : zz_Run zz_prog d 63 (5, [l0], .ref 9 :: st, k, (zz_hp n I J ex)) = zz_Run zz_prog d 63 (8, [l0], .int (I 9 2) :: st, k, (zz_hp n I J ex)) := zz_k_go f63_5 rfl rfl rfl
theorem s63_5b : zz_Run zz_prog d 63 (5, [l0], .ref 16 :: st, k, (zz_hp n I J ex)) = zz_Run zz_prog d 63 (8, [l0], .int (I 16 2) :: st, k, (zz_hp n I J ex)) := zz_k_go f63_5 rfl rfl rfl
theorem f63_8 : zz_fetch zz_prog 63 8 = some (.iconst 1, 1, [], []) := zz_fetch_of p63 rfl rfl
theorem s63_8 : zz_Run zz_prog d 63 (8, [l0], st, k, h) = zz_Run zz_prog d 63 (9, [l0], .int 1 :: st, k, h) := zz_k_num f63_8 rfl
theorem f63_9 : zz_fetch zz_prog 63 9 = some (.iadd, 1, [], []) := zz_fetch_of p63 rfl rfl
theorem s63_9 : zz_Run zz_prog d 63 (9, [l0], .int w :: .int v :: st, k, h) = zz_Run zz_prog d 63 (10, [l0], .int (v + w) :: st, k, h) := zz_k_num f63_9 rfl
theorem f63_10 : zz_fetch zz_prog 63 10 = some (.putfield 297, 3, [0, 2, 0], []) := zz_fetch_of p63 rfl rfl
theorem s63_10 : zz_Run zz_prog d 63 (10, [l0], .int v :: .ref 9 :: st, k, (zz_hp n I J ex)) = zz_Run zz_prog d 63 (13, [l0], st, false, (zz_hp n (zz_up I 9 2 v) J ex)) := zz_k_go f63_10 rfl rfl rfl
theorem s63_10b : zz_Run zz_prog d 63 (10, [l0], .int v :: .ref 16 :: st, k, (zz_hp n I J ex)) = zz_Run zz_prog d 63 (13, [l0], st, false, (zz_hp n (zz_up I 16 2 v) J ex)) := zz_k_go f63_10 rfl rfl rfl
theorem f63_13 : zz_fetch zz_prog 63 13 = some (.aload_n 0, 1, [], []) := zz_fetch_of p63 rfl rfl
theorem s63_13 : zz_Run zz_prog d 63 (13, [some (.ref a)], st, k, h) = zz_Run zz_prog d 63 (14, [some (.ref a)], .ref a :: st, k, h) := zz_k_num f63_13 rfl
theorem f63_14 : zz_fetch zz_prog 63 14 = some (.getfield 28, 3, [1, 7, 3], []) := zz_fetch_of p63 rfl rfl
theorem s63_14 : zz_Run zz_prog d 63 (14, [l0], .ref 5 :: st, k, (zz_hp n I J ex)) = zz_Run zz_prog d 63 (17, [l0], .ref 9 :: st, k, (zz_hp n I J ex)) := zz_k_go f63_14 rfl rfl rfl
theorem f63_17 : zz_fetch zz_prog 63 17 = some (.getfield 297, 3, [0, 2, 0], []) := zz_fetch_of p63 rfl rfl
theorem s63_17 : zz_Run zz_prog d 63 (17, [l0], .ref 9 :: st, k, (zz_hp n I J ex)) = zz_Run zz_prog d 63 (20, [l0], .int (I 9 2) :: st, k, (zz_hp n I J ex)) := zz_k_go f63_17 rfl rfl rfl
theorem s63_17b : zz_Run zz_prog d 63 (17, [l0], .ref 16 :: st, k, (zz_hp n I J ex)) = zz_Run zz_prog d 63 (20, [l0], .int (I 16 2) :: st, k, (zz_hp n I J ex)) := zz_k_go f63_17 rfl rfl rfl
theorem f63_20 : zz_fetch zz_prog 63 20 = some (.iconst 2, 1, [], []) := zz_fetch_of p63 rfl rfl
theorem s63_20 : zz_Run zz_prog d 63 (20, [l0], st, k, h) = zz_Run zz_prog d 63 (21, [l0], .int 2 :: st, k, h) := zz_k_num f63_20 rfl
theorem f63_21 : zz_fetch zz_prog 63 21 = some (.aload_n 0, 1, [], []) := zz_fetch_of p63 rfl rfl
theorem s63_21 : zz_Run zz_prog d 63 (21, [some (.ref a)], st, k, h) = zz_Run zz_prog d 63 (22, [some (.ref a)], .ref a :: st, k, h) := zz_k_num f63_21 rfl
theorem f63_22 : zz_fetch zz_prog 63 22 = some (.getfield 73, 3, [1, 5, 0], []) := zz_fetch_of p63 rfl rfl
theorem s63_22 : zz_Run zz_prog d 63 (22, [l0], .ref 5 :: st, k, (zz_hp n I J ex)) = zz_Run zz_prog d 63 (25, [l0], .int (I 5 5) :: st, k, (zz_hp n I J ex)) := zz_k_go f63_22 rfl rfl rfl
theorem f63_25 : zz_fetch zz_prog 63 25 = some (.imul, 1, [], []) := zz_fetch_of p63 rfl rfl
theorem s63_25 : zz_Run zz_prog d 63 (25, [l0], .int w :: .int v :: st, k, h) = zz_Run zz_prog d 63 (26, [l0], .int (v * w) :: st, k, h) := zz_k_num f63_25 rfl
theorem f63_26 : zz_fetch zz_prog 63 26 = some (.if_icmp .ne 20, 3, [46], []) := zz_fetch_of p63 rfl rfl
theorem s63_26 : zz_Run zz_prog d 63 (26, [l0], .int w :: .int v :: st, k, h) = if ¬ v = w then zz_Run zz_prog d 63 (46, [l0], st, k, h) else zz_Run zz_prog d 63 (29, [l0], st, k, h) := zz_k_br (¬ v = w) rfl (zz_k_num f63_26 rfl)
theorem f63_29 : zz_fetch zz_prog 63 29 = some (.aload_n 0, 1, [], []) := zz_fetch_of p63 rfl rfl
theorem s63_29 : zz_Run zz_prog d 63 (29, [some (.ref a)], st, k, h) = zz_Run zz_prog d 63 (30, [some (.ref a)], .ref a :: st, k, h) := zz_k_num f63_29 rfl
theorem f63_30 : zz_fetch zz_prog 63 30 = some (.getfield 28, 3, [1, 7, 3], []) := zz_fetch_of p63 rfl rfl
theorem s63_30 : zz_Run zz_prog d 63 (30, [l0], .ref 5 :: st, k, (zz_hp n I J ex)) = zz_Run zz_prog d 63 (33, [l0], .ref 9 :: st, k, (zz_hp n I J ex)) := zz_k_go f63_30 rfl rfl rfl
theorem f63_33 : zz_fetch zz_prog 63 33 = some (.iconst 0, 1, [], []) := zz_fetch_of p63 rfl rfl
theorem s63_33 : zz_Run zz_prog d 63 (33, [l0], st, k, h) = zz_Run zz_prog d 63 (34, [l0], .int 0 :: st, k, h) := zz_k_num f63_33 rfl
theorem f63_34 : zz_fetch zz_prog 63 34 = some (.putfield 86, 3, [0, 1, 0], []) := zz_fetch_of p63 rfl rfl
theorem s63_34 : zz_Run zz_prog d 63 (34, [l0], .int v :: .ref 9 :: st, k, (zz_hp n I J ex)) = zz_Run zz_prog d 63 (37, [l0], st, false, (zz_hp n (zz_up I 9 1 v) J ex)) := zz_k_go f63_34 rfl rfl rfl
theorem s63_34b : zz_Run zz_prog d 63 (34, [l0], .int v :: .ref 16 :: st, k, (zz_hp n I J ex)) = zz_Run zz_prog d 63 (37, [l0], st, false, (zz_hp n (zz_up I 16 1 v) J ex)) := zz_k_go f63_34 rfl rfl rfl
theorem f63_37 : zz_fetch zz_prog 63 37 = some (.aload_n 0, 1, [], []) := zz_fetch_of p63 rfl rfl
theorem s63_37 : zz_Run zz_prog d 63 (37, [some (.ref a)], st, k, h) = zz_Run zz_prog d 63 (38, [some (.ref a)], .ref a :: st, k, h) := zz_k_num f63_37 rfl
theorem f63_38 : zz_fetch zz_prog 63 38 = some (.getfield 28, 3, [1, 7, 3], []) := zz_fetch_of p63 rfl rfl
theorem s63_38 : zz_Run zz_prog d 63 (38, [l0], .ref 5 :: st, k, (zz_hp n I J ex)) = zz_Run zz_prog d 63 (41, [l0], .ref 9 :: st, k, (zz_hp n I J ex)) := zz_k_go f63_38 rfl rfl rfl
theorem f63_41 : zz_fetch zz_prog 63 41 = some (.iconst 3, 1, [], []) := zz_fetch_of p63 rfl rfl
theorem s63_41 : zz_Run zz_prog d 63 (41, [l0], st, k, h) = zz_Run zz_prog d 63 (42, [l0], .int 3 :: st, k, h) := zz_k_num f63_41 rfl
theorem f63_42 : zz_fetch zz_prog 63 42 = some (.putfield 89, 3, [0, 0, 0], []) := zz_fetch_of p63 rfl rfl
theorem s63_42 : zz_Run zz_prog d 63 (42, [l0], .int v :: .ref 9 :: st, k, (zz_hp n I J ex)) = zz_Run zz_prog d 63 (45, [l0], st, false, (zz_hp n (zz_up I 9 0 v) J ex)) := zz_k_go f63_42 rfl rfl rfl
theorem s63_42b : zz_Run zz_prog d 63 (42, [l0], .int v :: .ref 16 :: st, k, (zz_hp n I J ex)) = zz_Run zz_prog d 63 (45, [l0], st, false, (zz_hp n (zz_up I 16 0 v) J ex)) := zz_k_go f63_42 rfl rfl rfl
theorem f63_45 : zz_fetch zz_prog 63 45 = some (.return_, 1, [], []) := zz_fetch_of p63 rfl rfl
theorem s63_45 : zz_Run zz_prog d 63 (45, [l0], [], k, h) = some (.inl none, k, h) := zz_k_stop f63_45 rfl rfl rfl
theorem f63_46 : zz_fetch zz_prog 63 46 = some (.aload_n 0, 1, [], []) := zz_fetch_of p63 rfl rfl
theorem s63_46 : zz_Run zz_prog d 63 (46, [some (.ref a)], st, k, h) = zz_Run zz_prog d 63 (47, [some (.ref a)], .ref a :: st, k, h) := zz_k_num f63_46 rfl
theorem f63_47 : zz_fetch zz_prog 63 47 = some (.getfield 28, 3, [1, 7, 3], []) := zz_fetch_of p63 rfl rfl
theorem s63_47 : zz_Run zz_prog d 63 (47, [l0], .ref 5 :: st, k, (zz_hp n I J ex)) = zz_Run zz_prog d 63 (50, [l0], .ref 9 :: st, k, (zz_hp n I J ex)) := zz_k_go f63_47 rfl rfl rfl
theorem f63_50 : zz_fetch zz_prog 63 50 = some (.aload_n 0, 1, [], []) := zz_fetch_of p63 rfl rfl
theorem s63_50 : zz_Run zz_prog d 63 (50, [some (.ref a)], st, k, h) = zz_Run zz_prog d 63 (51, [some (.ref a)], .ref a :: st, k, h) := zz_k_num f63_50 rfl
theorem f63_51 : zz_fetch zz_prog 63 51 = some (.getfield 28, 3, [1, 7, 3], []) := zz_fetch_of p63 rfl rfl
theorem s63_51 : zz_Run zz_prog d 63 (51, [l0], .ref 5 :: st, k, (zz_hp n I J ex)) = zz_Run zz_prog d 63 (54, [l0], .ref 9 :: st, k, (zz_hp n I J ex)) := zz_k_go f63_51 rfl rfl rfl
theorem f63_54 : zz_fetch zz_prog 63 54 = some (.getfield 297, 3, [0, 2, 0], []) := zz_fetch_of p63 rfl rfl
theorem s63_54 : zz_Run zz_prog d 63 (54, [l0], .ref 9 :: st, k, (zz_hp n I J ex)) = zz_Run zz_prog d 63 (57, [l0], .int (I 9 2) :: st, k, (zz_hp n I J ex)) := zz_k_go f63_54 rfl rfl rfl
theorem s63_54b : zz_Run zz_prog d 63 (54, [l0], .ref 16 :: st, k, (zz_hp n I J ex)) = zz_Run zz_prog d 63 (57, [l0], .int (I 16 2) :: st, k, (zz_hp n I J ex)) := zz_k_go f63_54 rfl rfl rfl
theorem f63_57 : zz_fetch zz_prog 63 57 = some (.aload_n 0, 1, [], []) := zz_fetch_of p63 rfl rfl
theorem s63_57 : zz_Run zz_prog d 63 (57, [some (.ref a)], st, k, h) = zz_Run zz_prog d 63 (58, [some (.ref a)], .ref a :: st, k, h) := zz_k_num f63_57 rfl
theorem f63_58 : zz_fetch zz_prog 63 58 = some (.getfield 73, 3, [1, 5, 0], []) := zz_fetch_of p63 rfl rfl
theorem s63_58 : zz_Run zz_prog d 63 (58, [l0], .ref 5 :: st, k, (zz_hp n I J ex)) = zz_Run zz_prog d 63 (61, [l0], .int (I 5 5) :: st, k, (zz_hp n I J ex)) := zz_k_go f63_58 rfl rfl rfl
theorem f63_61 : zz_fetch zz_prog 63 61 = some (.if_icmp .ge 13, 3, [74], []) := zz_fetch_of p63 rfl rfl
theorem s63_61 : zz_Run zz_prog d 63 (61, [l0], .int w :: .int v :: st, k, h) = if w ≤ v then zz_Run zz_prog d 63 (74, [l0], st, k, h) else zz_Run zz_prog d 63 (64, [l0], st, k, h) := zz_k_br (w ≤ v) rfl (zz_k_num f63_61 rfl)
theorem f63_64 : zz_fetch zz_prog 63 64 = some (.aload_n 0, 1, [], []) := zz_fetch_of p63 rfl rfl
theorem s63_64 : zz_Run zz_prog d 63 (64, [some (.ref a)], st, k, h) = zz_Run zz_prog d 63 (65, [some (.ref a)], .ref a :: st, k, h) := zz_k_num f63_64 rfl
theorem f63_65 : zz_fetch zz_prog 63 65 = some (.getfield 28, 3, [1, 7, 3], []) := zz_fetch_of p63 rfl rfl
theorem s63_65 : zz_Run zz_prog d 63 (65, [l0], .ref 5 :: st, k, (zz_hp n I J ex)) = zz_Run zz_prog d 63 (68, [l0], .ref 9 :: st, k, (zz_hp n I J ex)) := zz_k_go f63_65 rfl rfl rfl
theorem f63_68 : zz_fetch zz_prog 63 68 = some (.getfield 297, 3, [0, 2, 0], []) := zz_fetch_of p63 rfl rfl
theorem s63_68 : zz_Run zz_prog d 63 (68, [l0], .ref 9 :: st, k, (zz_hp n I J ex)) = zz_Run zz_prog d 63 (71, [l0], .int (I 9 2) :: st, k, (zz_hp n I J ex)) := zz_k_go f63_68 rfl rfl rfl
theorem s63_68b : zz_Run zz_prog d 63 (68, [l0], .ref 16 :: st, k, (zz_hp n I J ex)) = zz_Run zz_prog d 63 (71, [l0], .int (I 16 2) :: st, k, (zz_hp n I J ex)) := zz_k_go f63_68 rfl rfl rfl
theorem f63_71 : zz_fetch zz_prog 63 71 = some (.goto 19, 3, [90], []) := zz_fetch_of p63 rfl rfl
theorem s63_71 : zz_Run zz_prog d 63 (71, [l0], st, k, h) = zz_Run zz_prog d 63 (90, [l0], st, k, h) := zz_k_num f63_71 rfl
theorem f63_74 : zz_fetch zz_prog 63 74 = some (.iconst 2, 1, [], []) := zz_fetch_of p63 rfl rfl
theorem s63_74 : zz_Run zz_prog d 63 (74, [l0], st, k, h) = zz_Run zz_prog d 63 (75, [l0], .int 2 :: st, k, h) := zz_k_num f63_74 rfl
theorem f63_75 : zz_fetch zz_prog 63 75 = some (.aload_n 0, 1, [], []) := zz_fetch_of p63 rfl rfl
theorem s63_75 : zz_Run zz_prog d 63 (75, [some (.ref a)], st, k, h) = zz_Run zz_prog d 63 (76, [some (.ref a)], .ref a :: st, k, h) := zz_k_num f63_75 rfl
theorem f63_76 : zz_fetch zz_prog 63 76 = some (.getfield 73, 3, [1, 5, 0], []) := zz_fetch_of p63 rfl rfl
theorem s63_76 : zz_Run zz_prog d 63 (76, [l0], .ref 5 :: st, k, (zz_hp n I J ex)) = zz_Run zz_prog d 63 (79, [l0], .int (I 5 5) :: st, k, (zz_hp n I J ex)) := zz_k_go f63_76 rfl rfl rfl
theorem f63_79 : zz_fetch zz_prog 63 79 = some (.imul, 1, [], []) := zz_fetch_of p63 rfl rfl
theorem s63_79 : zz_Run zz_prog d 63 (79, [l0], .int w :: .int v :: st, k, h) = zz_Run zz_prog d 63 (80, [l0], .int (v * w) :: st, k, h) := zz_k_num f63_79 rfl
theorem f63_80 : zz_fetch zz_prog 63 80 = some (.iconst 1, 1, [], []) := zz_fetch_of p63 rfl rfl
theorem s63_80 : zz_Run zz_prog d 63 (80, [l0], st, k, h) = zz_Run zz_prog d 63 (81, [l0], .int 1 :: st, k, h) := zz_k_num f63_80 rfl
theorem f63_81 : zz_fetch zz_prog 63 81 = some (.isub, 1, [], []) := zz_fetch_of p63 rfl rfl
theorem s63_81 : zz_Run zz_prog d 63 (81, [l0], .int w :: .int v :: st, k, h) = zz_Run zz_prog d 63 (82, [l0], .int (v - w) :: st, k, h) := zz_k_num f63_81 rfl
theorem f63_82 : zz_fetch zz_prog 63 82 = some (.aload_n 0, 1, [], []) := zz_fetch_of p63 rfl rfl
theorem s63_82 : zz_Run zz_prog d 63 (82, [some (.ref a)], st, k, h) = zz_Run zz_prog d 63 (83, [some (.ref a)], .ref a :: st, k, h) := zz_k_num f63_82 rfl
theorem f63_83 : zz_fetch zz_prog 63 83 = some (.getfield 28, 3, [1, 7, 3], []) := zz_fetch_of p63 rfl rfl
theorem s63_83 : zz_Run zz_prog d 63 (83, [l0], .ref 5 :: st, k, (zz_hp n I J ex)) = zz_Run zz_prog d 63 (86, [l0], .ref 9 :: st, k, (zz_hp n I J ex)) := zz_k_go f63_83 rfl rfl rfl
theorem f63_86 : zz_fetch zz_prog 63 86 = some (.getfield 297, 3, [0, 2, 0], []) := zz_fetch_of p63 rfl rfl
theorem s63_86 : zz_Run zz_prog d 63 (86, [l0], .ref 9 :: st, k, (zz_hp n I J ex)) = zz_Run zz_prog d 63 (89, [l0], .int (I 9 2) :: st, k, (zz_hp n I J ex)) := zz_k_go f63_86 rfl rfl rfl
theorem s63_86b : zz_Run zz_prog d 63 (86, [l0], .ref 16 :: st, k, (zz_hp n I J ex)) = zz_Run zz_prog d 63 (89, [l0], .int (I 16 2) :: st, k, (zz_hp n I J ex)) := zz_k_go f63_86 rfl rfl rfl
theorem f63_89 : zz_fetch zz_prog 63 89 = some (.isub, 1, [], []) := zz_fetch_of p63 rfl rfl
theorem s63_89 : zz_Run zz_prog d 63 (89, [l0], .int w :: .int v :: st, k, h) = zz_Run zz_prog d 63 (90, [l0], .int (v - w) :: st, k, h) := zz_k_num f63_89 rfl
theorem f63_90 : zz_fetch zz_prog 63 90 = some (.putfield 86, 3, [0, 1, 0], []) := zz_fetch_of p63 rfl rfl
theorem s63_90 : zz_Run zz_prog d 63 (90, [l0], .int v :: .ref 9 :: st, k, (zz_hp n I J ex)) = zz_Run zz_prog d 63 (93, [l0], st, false, (zz_hp n (zz_up I 9 1 v) J ex)) := zz_k_go f63_90 rfl rfl rfl
theorem s63_90b : zz_Run zz_prog d 63 (90, [l0], .int v :: .ref 16 :: st, k, (zz_hp n I J ex)) = zz_Run zz_prog d 63 (93, [l0], st, false, (zz_hp n (zz_up I 16 1 v) J ex)) := zz_k_go f63_90 rfl rfl rfl
theorem f63_93 : zz_fetch zz_prog 63 93 = some (.aload_n 0, 1, [], []) := zz_fetch_of p63 rfl rfl
theorem s63_93 : zz_Run zz_prog d 63 (93, [some (.ref a)], st, k, h) = zz_Run zz_prog d 63 (94, [some (.ref a)], .ref a :: st, k, h) := zz_k_num f63_93 rfl
theorem f63_94 : zz_fetch zz_prog 63 94 = some (.getfield 28, 3, [1, 7, 3], []) := zz_fetch_of p63 rfl rfl
theorem s63_94 : zz_Run zz_prog d 63 (94, [l0], .ref 5 :: st, k, (zz_hp n I J ex)) = zz_Run zz_prog d 63 (97, [l0], .ref 9 :: st, k, (zz_hp n I J ex)) := zz_k_go f63_94 rfl rfl rfl
theorem f63_97 : zz_fetch zz_prog 63 97 = some (.iconst 1, 1, [], []) := zz_fetch_of p63 rfl rfl
theorem s63_97 : zz_Run zz_prog d 63 (97, [l0], st, k, h) = zz_Run zz_prog d 63 (98, [l0], .int 1 :: st, k, h) := zz_k_num f63_97 rfl
theorem f63_98 : zz_fetch zz_prog 63 98 = some (.putfield 89, 3, [0, 0, 0], []) := zz_fetch_of p63 rfl rfl
theorem s63_98 : zz_Run zz_prog d 63 (98, [l0], .int v :: .ref 9 :: st, k, (zz_hp n I J ex)) = zz_Run zz_prog d 63 (101, [l0], st, false, (zz_hp n (zz_up I 9 0 v) J ex)) := zz_k_go f63_98 rfl rfl rfl
theorem s63_98b : zz_Run zz_prog d 63 (98, [l0], .int v :: .ref 16 :: st, k, (zz_hp n I J ex)) = zz_Run zz_prog d 63 (101, [l0], st, false, (zz_hp n (zz_up I 16 0 v) J ex)) := zz_k_go f63_98 rfl rfl rfl
theorem f63_101 : zz_fetch zz_prog 63 101 = some (.return_, 1, [], []) := zz_fetch_of p63 rfl rfl
theorem s63_101 : zz_Run zz_prog d 63 (101, [l0], [], k, h) = some (.inl none, k, h) := zz_k_stop f63_101 rfl rfl rfl
end S63
section S64
variable {d n j : Nat} {l0 : Option Value} {st : List Value} {k : Bool} {h : zz_H} {v w v1 v2 : Int32} {y y1 : Int64} {a a1 a2 : Nat} {b0 b1 b2 b3 b4 b5 b6 b7 b8 : Value} {I : Nat → Nat → Int32} {J : Nat → Nat → Int64} {ex : List (Nat × Nat)}
theorem p64 : zz_prog 64 = some zz_m64 := rfl
theorem e64 (g0 : Nat) : zz_Call zz_prog (d + 1) 64 [.ref g0] h = zz_Run zz_prog d 64 (0, [some (.ref g0)], [], true, h) := rfl
theorem t64 (pc : Nat) (L : List (Option Value)) : zz_th d 64 pc a L k h = some (.inr a, k, h) := zz_th_out p64 rfl
theorem f64_0 : zz_fetch zz_prog 64 0 = some (.aload_n 0, 1, [], []) := zz_fetch_of p64 rfl rfl
theorem s64_0 : zz_Run zz_prog d 64 (0, [some (.ref a)], st, k, h) = zz_Run zz_prog d 64 (1, [some (.ref a)], .ref a :: st, k, h) := zz_k_num f64_0 rfl
theorem f64_1 : zz_fetch zz_prog 64 1 = some (.getfield 28, 3, [1, 7, 3], []) := zz_fetch_of p64 rfl rfl
theorem s64_1 : zz_Run zz_prog d 64 (1, [l0], .ref 5 :: st, k, (zz_hp n I J ex)) = zz_Run zz_prog d 64 (4, [l0], .ref 9 :: st, k, (zz_hp n I J ex)) := zz_k_go f64_1 rfl rfl rfl
theorem f64_4 : zz_fetch zz_prog 64 4 = some (.getfield 306, 3, [0, 6, 0], []) := zz_fetch_of p64 rfl rfl
theorem s64_4 : zz_Run zz_prog d 64 (4, [l0], .ref 9 :: st, k, (zz_hp n I J ex)) = zz_Run zz_prog d 64 (7, [l0], .int (I 9 6) :: st, k, (zz_hp n I J ex)) := zz_k_go f64_4 rfl rfl rfl
theorem s64_4b : zz_Run zz_prog d 64 (4, [l0], .ref 16 :: st, k, (zz_hp n I J ex)) = zz_Run zz_prog d 64 (7, [l0], .int (I 16 6) :: st, k, (zz_hp n I J ex)) := zz_k_go f64_4 rfl rfl rfl
theorem f64_7 : zz_fetch zz_prog 64 7 = some (.ifCond .eq 18, 3, [25], []) := zz_fetch_of p64 rfl rfl
theorem s64_7 : zz_Run zz_prog d 64 (7, [l0], .int v :: st, k, h) = if v = 0 then zz_Run zz_prog d 64 (25, [l0], st, k, h) else zz_Run zz_prog d 64 (10, [l0], st, k, h) := zz_k_br (v = 0) rfl (zz_k_num f64_7 rfl)
theorem f64_10 : zz_fetch zz_prog 64 10 = some (.aload_n 0, 1, [], []) := zz_fetch_of p64 rfl rfl
theorem s64_10 : zz_Run zz_prog d 64 (10, [some (.ref a)], st, k, h) = zz_Run zz_prog d 64 (11, [some (.ref a)], .ref a :: st, k, h) := zz_k_num f64_10 rfl
theorem f64_11 : zz_fetch zz_prog 64 11 = some (.iconst 0, 1, [], []) := zz_fetch_of p64 rfl rfl
theorem s64_11 : zz_Run zz_prog d 64 (11, [l0], st, k, h) = zz_Run zz_prog d 64 (12, [l0], .int 0 :: st, k, h) := zz_k_num f64_11 rfl
theorem f64_12 : zz_fetch zz_prog 64 12 = some (.invokevirtual 263, 3, [0, 52, 2, 1], []) := zz_fetch_of p64 rfl rfl
theorem s64_12 : zz_Run zz_prog d 64 (12, [l0], [b0, .ref 5], k, (zz_hp n I J ex)) = zz_ret (zz_Call zz_prog d 52 [.ref 5, b0] (zz_hp n I J ex)) (fun v k' h' => zz_Run zz_prog d 64 (15, [l0], v.toList ++ [], k && k', h')) (fun a k' h' => zz_th d 64 12 a [l0] (k && k') h') := zz_k_call f64_12 rfl rfl rfl
theorem f64_15 : zz_fetch zz_prog 64 15 = some (.ifCond .eq 10, 3, [25], []) := zz_fetch_of p64 rfl rfl
theorem s64_15 : zz_Run zz_prog d 64 (15, [l0], .int v :: st, k, h) = if v = 0 then zz_Run zz_prog d 64 (25, [l0], st, k, h) else zz_Run zz_prog d 64 (18, [l0], st, k, h) := zz_k_br (v = 0) rfl (zz_k_num f64_15 rfl)
theorem f64_18 : zz_fetch zz_prog 64 18 = some (.aload_n 0, 1, [], []) := zz_fetch_of p64 rfl rfl
theorem s64_18 : zz_Run zz_prog d 64 (18, [some (.ref a)], st, k, h) = zz_Run zz_prog d 64 (19, [some (.ref a)], .ref a :: st, k, h) := zz_k_num f64_18 rfl
theorem f64_19 : zz_fetch zz_prog 64 19 = some (.invokevirtual 312, 3, [0, 65, 1, 1], []) := zz_fetch_of p64 rfl rfl
theorem s64_19 : zz_Run zz_prog d 64 (19, [l0], [.ref 5], k, (zz_hp n I J ex)) = zz_ret (zz_Call zz_prog d 65 [.ref 5] (zz_hp n I J ex)) (fun v k' h' => zz_Run zz_prog d 64 (22, [l0], v.toList ++ [], k && k', h')) (fun a k' h' => zz_th d 64 19 a [l0] (k && k') h') := zz_k_call f64_19 rfl rfl rfl
theorem f64_22 : zz_fetch zz_prog 64 22 = some (.ifCond .ne 12, 3, [34], []) := zz_fetch_of p64 rfl rfl
theorem s64_22 : zz_Run zz_prog d 64 (22, [l0], .int v :: st, k, h) = if ¬ v = 0 then zz_Run zz_prog d 64 (34, [l0], st, k, h) else zz_Run zz_prog d 64 (25, [l0], st, k, h) := zz_k_br (¬ v = 0) rfl (zz_k_num f64_22 rfl)
theorem f64_25 : zz_fetch zz_prog 64 25 = some (.aload_n 0, 1, [], []) := zz_fetch_of p64 rfl rfl
theorem s64_25 : zz_Run zz_prog d 64 (25, [some (.ref a)], st, k, h) = zz_Run zz_prog d 64 (26, [some (.ref a)], .ref a :: st, k, h) := zz_k_num f64_25 rfl
theorem f64_26 : zz_fetch zz_prog 64 26 = some (.getfield 28, 3, [1, 7, 3], []) := zz_fetch_of p64 rfl rfl
theorem s64_26 : zz_Run zz_prog d 64 (26, [l0], .ref 5 :: st, k, (zz_hp n I J ex)) = zz_Run zz_prog d 64 (29, [l0], .ref 9 :: st, k, (zz_hp n I J ex)) := zz_k_go f64_26 rfl rfl rfl
theorem f64_29 : zz_fetch zz_prog 64 29 = some (.bipush 6, 2, [], []) := zz_fetch_of p64 rfl rfl
theorem s64_29 : zz_Run zz_prog d 64 (29, [l0], st, k, h) = zz_Run zz_prog d 64 (31, [l0], .int 6 :: st, k, h) := zz_k_num f64_29 (congrArg (fun u => some (31, [l0], Value.int u :: st)) (by decide : (Int8.ofInt 6).toInt32 = 6))
theorem f64_31 : zz_fetch zz_prog 64 31 = some (.putfield 89, 3, [0, 0, 0], []) := zz_fetch_of p64 rfl rfl
theorem s64_31 : zz_Run zz_prog d 64 (31, [l0], .int v :: .ref 9 :: st, k, (zz_hp n I J ex)) = zz_Run zz_prog d 64 (34, [l0], st, false, (zz_hp n (zz_up I 9 0 v) J ex)) := zz_k_go f64_31 rfl rfl rfl
theorem s64_31b : zz_Run zz_prog d 64 (31, [l0], .int v :: .ref 16 :: st, k, (zz_hp n I J ex)) = zz_Run zz_prog d 64 (34, [l0], st, false, (zz_hp n (zz_up I 16 0 v) J ex)) := zz_k_go f64_31 rfl rfl rfl
theorem f64_34 : zz_fetch zz_prog 64 34 = some (.return_, 1, [], []) := zz_fetch_of p64 rfl rfl
theorem s64_34 : zz_Run zz_prog d 64 (34, [l0], [], k, h) = some (.inl none, k, h) := zz_k_stop f64_34 rfl rfl rfl
end S64
section S65
variable {d n j : Nat} {l0 l1 : Option Value} {st : List Value} {k : Bool} {h : zz_H} {v w v1 v2 : Int32} {y y1 : Int64} {a a1 a2 : Nat} {b0 b1 b2 b3 b4 b5 b6 b7 b8 : Value} {I : Nat → Nat → Int32} {J : Nat → Nat → Int64} {ex : List (Nat × Nat)}
theorem p65 : zz_prog 65 = some zz_m65 := rfl
theorem e65 (g0 : Nat) : zz_Call zz_prog (d + 1) 65 [.ref g0] h = zz_Run zz_prog d 65 (0, [some (.ref g0), none], [], true, h) := rfl
theorem t65 (pc : Nat) (L : List (Option Value)) : zz_th d 65 pc a L k h = some (.inr a, k, h) := zz_th_out p65 rfl
theorem f65_0 : zz_fetch zz_prog 65 0 = some (.iconst 0, 1, [], []) := zz_fetch_of p65 rfl rfl
theorem s65_0 : zz_Run zz_prog d 65 (0, [l0, l1], st, k, h) = zz_Run zz_prog d 65 (1, [l0, l1], .int 0 :: st, k, h) := zz_k_num f65_0 rfl
theorem f65_1 : zz_fetch zz_prog 65 1 = some (.istore_n 1, 1, [], []) := zz_fetch_of p65 rfl rfl
theorem s65_1 : zz_Run zz_prog d 65 (1, [l0, l1], .int v :: st, k, h) = zz_sl l0 (zz_Run zz_prog d 65 (2, [l0, some (.int v)], st, k, h)) := zz_k_st (j := 1) (u := .int v) f65_1 rfl (fun q hq => by cases hq) rfl (show 1 < 2 by decide) (by cases l0 <;> rfl) rfl
theorem f65_2 : zz_fetch zz_prog 65 2 = some (.iload_n 1, 1, [], []) := zz_fetch_of p65 rfl rfl
theorem s65_2 : zz_Run zz_prog d 65 (2, [l0, some (.int v)], st, k, h) = zz_Run zz_prog d 65 (3, [l0, some (.int v)], .int v :: st, k, h) := zz_k_num f65_2 rfl
theorem f65_3 : zz_fetch zz_prog 65 3 = some (.bipush 72, 2, [], []) := zz_fetch_of p65 rfl rfl
theorem s65_3 : zz_Run zz_prog d 65 (3, [l0, l1], st, k, h) = zz_Run zz_prog d 65 (5, [l0, l1], .int 72 :: st, k, h) := zz_k_num f65_3 (congrArg (fun u => some (5, [l0, l1], Value.int u :: st)) (by decide : (Int8.ofInt 72).toInt32 = 72))
theorem f65_5 : zz_fetch zz_prog 65 5 = some (.if_icmp .ge 19, 3, [24], []) := zz_fetch_of p65 rfl rfl
theorem s65_5 : zz_Run zz_prog d 65 (5, [l0, l1], .int w :: .int v :: st, k, h) = if w ≤ v then zz_Run zz_prog d 65 (24, [l0, l1], st, k, h) else zz_Run zz_prog d 65 (8, [l0, l1], st, k, h) := zz_k_br (w ≤ v) rfl (zz_k_num f65_5 rfl)
theorem f65_8 : zz_fetch zz_prog 65 8 = some (.aload_n 0, 1, [], []) := zz_fetch_of p65 rfl rfl
theorem s65_8 : zz_Run zz_prog d 65 (8, [some (.ref a), l1], st, k, h) = zz_Run zz_prog d 65 (9, [some (.ref a), l1], .ref a :: st, k, h) := zz_k_num f65_8 rfl
theorem f65_9 : zz_fetch zz_prog 65 9 = some (.iload_n 1, 1, [], []) := zz_fetch_of p65 rfl rfl
theorem s65_9 : zz_Run zz_prog d 65 (9, [l0, some (.int v)], st, k, h) = zz_Run zz_prog d 65 (10, [l0, some (.int v)], .int v :: st, k, h) := zz_k_num f65_9 rfl
theorem f65_10 : zz_fetch zz_prog 65 10 = some (.invokevirtual 270, 3, [0, 55, 2, 1], []) := zz_fetch_of p65 rfl rfl
theorem s65_10 : zz_Run zz_prog d 65 (10, [l0, l1], [b0, .ref 5], k, (zz_hp n I J ex)) = zz_ret (zz_Call zz_prog d 55 [.ref 5, b0] (zz_hp n I J ex)) (fun v k' h' => zz_Run zz_prog d 65 (13, [l0, l1], v.toList ++ [], k && k', h')) (fun a k' h' => zz_th d 65 10 a [l0, l1] (k && k') h') := zz_k_call f65_10 rfl rfl rfl
theorem f65_13 : zz_fetch zz_prog 65 13 = some (.ifCond .eq 5, 3, [18], []) := zz_fetch_of p65 rfl rfl
theorem s65_13 : zz_Run zz_prog d 65 (13, [l0, l1], .int v :: st, k, h) = if v = 0 then zz_Run zz_prog d 65 (18, [l0, l1], st, k, h) else zz_Run zz_prog d 65 (16, [l0, l1], st, k, h) := zz_k_br (v = 0) rfl (zz_k_num f65_13 rfl)
theorem f65_16 : zz_fetch zz_prog 65 16 = some (.iconst 1, 1, [], []) := zz_fetch_of p65 rfl rfl
theorem s65_16 : zz_Run zz_prog d 65 (16, [l0, l1], st, k, h) = zz_Run zz_prog d 65 (17, [l0, l1], .int 1 :: st, k, h) := zz_k_num f65_16 rfl
theorem f65_17 : zz_fetch zz_prog 65 17 = some (.ireturn, 1, [1], []) := zz_fetch_of p65 rfl rfl
theorem s65_17 : zz_Run zz_prog d 65 (17, [l0, l1], [.int v], k, h) = zz_ck (decide (v = 0 ∨ v = 1)) (some (.inl (some (.int v)), k, h)) := zz_k_retz f65_17
theorem f65_18 : zz_fetch zz_prog 65 18 = some (.iinc 1 1, 3, [], []) := zz_fetch_of p65 rfl rfl
theorem s65_18 : zz_Run zz_prog d 65 (18, [l0, some (.int v)], st, k, h) = zz_sl l0 (zz_Run zz_prog d 65 (21, [l0, some (.int (v + 1))], st, k, h)) := zz_k_st (j := 1) (u := .int (v + 1)) f65_18 rfl (fun q hq => by cases hq) rfl (show 1 < 2 by decide) (by cases l0 <;> rfl) rfl
theorem f65_21 : zz_fetch zz_prog 65 21 = some (.goto (-19), 3, [2], []) := zz_fetch_of p65 rfl rfl
theorem s65_21 : zz_Run zz_prog d 65 (21, [l0, l1], st, k, h) = zz_Run zz_prog d 65 (2, [l0, l1], st, k, h) := zz_k_num f65_21 rfl
theorem f65_24 : zz_fetch zz_prog 65 24 = some (.iconst 0, 1, [], []) := zz_fetch_of p65 rfl rfl
theorem s65_24 : zz_Run zz_prog d 65 (24, [l0, l1], st, k, h) = zz_Run zz_prog d 65 (25, [l0, l1], .int 0 :: st, k, h) := zz_k_num f65_24 rfl
theorem f65_25 : zz_fetch zz_prog 65 25 = some (.ireturn, 1, [1], []) := zz_fetch_of p65 rfl rfl
theorem s65_25 : zz_Run zz_prog d 65 (25, [l0, l1], [.int v], k, h) = zz_ck (decide (v = 0 ∨ v = 1)) (some (.inl (some (.int v)), k, h)) := zz_k_retz f65_25
end S65
section S66
variable {d n j : Nat} {l0 l1 l2 l3 : Option Value} {st : List Value} {k : Bool} {h : zz_H} {v w v1 v2 : Int32} {y y1 : Int64} {a a1 a2 : Nat} {b0 b1 b2 b3 b4 b5 b6 b7 b8 : Value} {I : Nat → Nat → Int32} {J : Nat → Nat → Int64} {ex : List (Nat × Nat)}
theorem p66 : zz_prog 66 = some zz_m66 := rfl
theorem e66 (g0 : Nat) (g1 : Int32) (g2 : Int32) : zz_Call zz_prog (d + 1) 66 [.ref g0, .int g1, .int g2] h = zz_Run zz_prog d 66 (0, [some (.ref g0), some (.int g1), some (.int g2), none], [], true, h) := rfl
theorem t66 (pc : Nat) (L : List (Option Value)) : zz_th d 66 pc a L k h = some (.inr a, k, h) := zz_th_out p66 rfl
theorem f66_0 : zz_fetch zz_prog 66 0 = some (.aload_n 0, 1, [], []) := zz_fetch_of p66 rfl rfl
theorem s66_0 : zz_Run zz_prog d 66 (0, [some (.ref a), l1, l2, l3], st, k, h) = zz_Run zz_prog d 66 (1, [some (.ref a), l1, l2, l3], .ref a :: st, k, h) := zz_k_num f66_0 rfl
theorem f66_1 : zz_fetch zz_prog 66 1 = some (.getfield 28, 3, [1, 7, 3], []) := zz_fetch_of p66 rfl rfl
theorem s66_1 : zz_Run zz_prog d 66 (1, [l0, l1, l2, l3], .ref 5 :: st, k, (zz_hp n I J ex)) = zz_Run zz_prog d 66 (4, [l0, l1, l2, l3], .ref 9 :: st, k, (zz_hp n I J ex)) := zz_k_go f66_1 rfl rfl rfl
theorem f66_4 : zz_fetch zz_prog 66 4 = some (.getfield 233, 3, [0, 13, 3], []) := zz_fetch_of p66 rfl rfl
theorem s66_4 : zz_Run zz_prog d 66 (4, [l0, l1, l2, l3], .ref 9 :: st, k, (zz_hp n I J ex)) = zz_Run zz_prog d 66 (7, [l0, l1, l2, l3], .ref 11 :: st, k, (zz_hp n I J ex)) := zz_k_go f66_4 rfl rfl rfl
theorem s66_4b : zz_Run zz_prog d 66 (4, [l0, l1, l2, l3], .ref 16 :: st, k, (zz_hp n I J ex)) = zz_Run zz_prog d 66 (7, [l0, l1, l2, l3], .ref 18 :: st, k, (zz_hp n I J ex)) := zz_k_go f66_4 rfl rfl rfl
theorem f66_7 : zz_fetch zz_prog 66 7 = some (.iload_n 2, 1, [], []) := zz_fetch_of p66 rfl rfl
theorem s66_7 : zz_Run zz_prog d 66 (7, [l0, l1, some (.int v), l3], st, k, h) = zz_Run zz_prog d 66 (8, [l0, l1, some (.int v), l3], .int v :: st, k, h) := zz_k_num f66_7 rfl
theorem f66_8 : zz_fetch zz_prog 66 8 = some (.iaload, 1, [], []) := zz_fetch_of p66 rfl rfl
theorem s66_8 (ha : zz_isrd a = true) : zz_Run zz_prog d 66 (8, [l0, l1, l2, l3], .int v :: .ref a :: st, k, (zz_hp n I J ex)) = zz_ck (zz_in v (zz_ary n a)) (zz_Run zz_prog d 66 (9, [l0, l1, l2, l3], .int (I a v.toNatClampNeg) :: st, k, (zz_hp n I J ex))) := zz_k_iald f66_8 ha
theorem f66_9 : zz_fetch zz_prog 66 9 = some (.istore_n 3, 1, [], []) := zz_fetch_of p66 rfl rfl
theorem s66_9 : zz_Run zz_prog d 66 (9, [l0, l1, l2, l3], .int v :: st, k, h) = zz_sl l2 (zz_Run zz_prog d 66 (10, [l0, l1, l2, some (.int v)], st, k, h)) := zz_k_st (j := 3) (u := .int v) f66_9 rfl (fun q hq => by cases hq) rfl (show 3 < 4 by decide) (by cases l2 <;> rfl) rfl
theorem f66_10 : zz_fetch zz_prog 66 10 = some (.iload_n 3, 1, [], []) := zz_fetch_of p66 rfl rfl
theorem s66_10 : zz_Run zz_prog d 66 (10, [l0, l1, l2, some (.int v)], st, k, h) = zz_Run zz_prog d 66 (11, [l0, l1, l2, some (.int v)], .int v :: st, k, h) := zz_k_num f66_10 rfl
theorem f66_11 : zz_fetch zz_prog 66 11 = some (.iload_n 1, 1, [], []) := zz_fetch_of p66 rfl rfl
theorem s66_11 : zz_Run zz_prog d 66 (11, [l0, some (.int v), l2, l3], st, k, h) = zz_Run zz_prog d 66 (12, [l0, some (.int v), l2, l3], .int v :: st, k, h) := zz_k_num f66_11 rfl
theorem f66_12 : zz_fetch zz_prog 66 12 = some (.if_icmp .ne 5, 3, [17], []) := zz_fetch_of p66 rfl rfl
theorem s66_12 : zz_Run zz_prog d 66 (12, [l0, l1, l2, l3], .int w :: .int v :: st, k, h) = if ¬ v = w then zz_Run zz_prog d 66 (17, [l0, l1, l2, l3], st, k, h) else zz_Run zz_prog d 66 (15, [l0, l1, l2, l3], st, k, h) := zz_k_br (¬ v = w) rfl (zz_k_num f66_12 rfl)
theorem f66_15 : zz_fetch zz_prog 66 15 = some (.iconst 1, 1, [], []) := zz_fetch_of p66 rfl rfl
theorem s66_15 : zz_Run zz_prog d 66 (15, [l0, l1, l2, l3], st, k, h) = zz_Run zz_prog d 66 (16, [l0, l1, l2, l3], .int 1 :: st, k, h) := zz_k_num f66_15 rfl
theorem f66_16 : zz_fetch zz_prog 66 16 = some (.ireturn, 1, [0], []) := zz_fetch_of p66 rfl rfl
theorem s66_16 : zz_Run zz_prog d 66 (16, [l0, l1, l2, l3], [.int v], k, h) = some (.inl (some (.int v)), k, h) := zz_k_stop f66_16 rfl rfl rfl
theorem f66_17 : zz_fetch zz_prog 66 17 = some (.iload_n 3, 1, [], []) := zz_fetch_of p66 rfl rfl
theorem s66_17 : zz_Run zz_prog d 66 (17, [l0, l1, l2, some (.int v)], st, k, h) = zz_Run zz_prog d 66 (18, [l0, l1, l2, some (.int v)], .int v :: st, k, h) := zz_k_num f66_17 rfl
theorem f66_18 : zz_fetch zz_prog 66 18 = some (.iload_n 1, 1, [], []) := zz_fetch_of p66 rfl rfl
theorem s66_18 : zz_Run zz_prog d 66 (18, [l0, some (.int v), l2, l3], st, k, h) = zz_Run zz_prog d 66 (19, [l0, some (.int v), l2, l3], .int v :: st, k, h) := zz_k_num f66_18 rfl
theorem f66_19 : zz_fetch zz_prog 66 19 = some (.bipush 8, 2, [], []) := zz_fetch_of p66 rfl rfl
theorem s66_19 : zz_Run zz_prog d 66 (19, [l0, l1, l2, l3], st, k, h) = zz_Run zz_prog d 66 (21, [l0, l1, l2, l3], .int 8 :: st, k, h) := zz_k_num f66_19 (congrArg (fun u => some (21, [l0, l1, l2, l3], Value.int u :: st)) (by decide : (Int8.ofInt 8).toInt32 = 8))
theorem f66_21 : zz_fetch zz_prog 66 21 = some (.iadd, 1, [], []) := zz_fetch_of p66 rfl rfl
theorem s66_21 : zz_Run zz_prog d 66 (21, [l0, l1, l2, l3], .int w :: .int v :: st, k, h) = zz_Run zz_prog d 66 (22, [l0, l1, l2, l3], .int (v + w) :: st, k, h) := zz_k_num f66_21 rfl
theorem f66_22 : zz_fetch zz_prog 66 22 = some (.if_icmp .ne 7, 3, [29], []) := zz_fetch_of p66 rfl rfl
theorem s66_22 : zz_Run zz_prog d 66 (22, [l0, l1, l2, l3], .int w :: .int v :: st, k, h) = if ¬ v = w then zz_Run zz_prog d 66 (29, [l0, l1, l2, l3], st, k, h) else zz_Run zz_prog d 66 (25, [l0, l1, l2, l3], st, k, h) := zz_k_br (¬ v = w) rfl (zz_k_num f66_22 rfl)
theorem f66_25 : zz_fetch zz_prog 66 25 = some (.iconst 2, 1, [], []) := zz_fetch_of p66 rfl rfl
theorem s66_25 : zz_Run zz_prog d 66 (25, [l0, l1, l2, l3], st, k, h) = zz_Run zz_prog d 66 (26, [l0, l1, l2, l3], .int 2 :: st, k, h) := zz_k_num f66_25 rfl
theorem f66_26 : zz_fetch zz_prog 66 26 = some (.goto 4, 3, [30], []) := zz_fetch_of p66 rfl rfl
theorem s66_26 : zz_Run zz_prog d 66 (26, [l0, l1, l2, l3], st, k, h) = zz_Run zz_prog d 66 (30, [l0, l1, l2, l3], st, k, h) := zz_k_num f66_26 rfl
theorem f66_29 : zz_fetch zz_prog 66 29 = some (.iconst 0, 1, [], []) := zz_fetch_of p66 rfl rfl
theorem s66_29 : zz_Run zz_prog d 66 (29, [l0, l1, l2, l3], st, k, h) = zz_Run zz_prog d 66 (30, [l0, l1, l2, l3], .int 0 :: st, k, h) := zz_k_num f66_29 rfl
theorem f66_30 : zz_fetch zz_prog 66 30 = some (.ireturn, 1, [0], []) := zz_fetch_of p66 rfl rfl
theorem s66_30 : zz_Run zz_prog d 66 (30, [l0, l1, l2, l3], [.int v], k, h) = some (.inl (some (.int v)), k, h) := zz_k_stop f66_30 rfl rfl rfl
end S66
section S67
variable {d n j : Nat} {l0 l1 l2 l3 l4 : Option Value} {st : List Value} {k : Bool} {h : zz_H} {v w v1 v2 : Int32} {y y1 : Int64} {a a1 a2 : Nat} {b0 b1 b2 b3 b4 b5 b6 b7 b8 : Value} {I : Nat → Nat → Int32} {J : Nat → Nat → Int64} {ex : List (Nat × Nat)}
theorem p67 : zz_prog 67 = some zz_m67 := rfl
theorem e67 (g0 : Nat) (g1 : Int32) (g2 : Int32) : zz_Call zz_prog (d + 1) 67 [.ref g0, .int g1, .int g2] h = zz_Run zz_prog d 67 (0, [some (.ref g0), some (.int g1), some (.int g2), none, none], [], true, h) := rfl
theorem t67 (pc : Nat) (L : List (Option Value)) : zz_th d 67 pc a L k h = some (.inr a, k, h) := zz_th_out p67 rfl
theorem f67_0 : zz_fetch zz_prog 67 0 = some (.iconst 0, 1, [], []) := zz_fetch_of p67 rfl rfl
theorem s67_0 : zz_Run zz_prog d 67 (0, [l0, l1, l2, l3, l4], st, k, h) = zz_Run zz_prog d 67 (1, [l0, l1, l2, l3, l4], .int 0 :: st, k, h) := zz_k_num f67_0 rfl
theorem f67_1 : zz_fetch zz_prog 67 1 = some (.istore_n 3, 1, [], []) := zz_fetch_of p67 rfl rfl
theorem s67_1 : zz_Run zz_prog d 67 (1, [l0, l1, l2, l3, l4], .int v :: st, k, h) = zz_sl l2 (zz_Run zz_prog d 67 (2, [l0, l1, l2, some (.int v), l4], st, k, h)) := zz_k_st (j := 3) (u := .int v) f67_1 rfl (fun q hq => by cases hq) rfl (show 3 < 5 by decide) (by cases l2 <;> rfl) rfl
theorem f67_2 : zz_fetch zz_prog 67 2 = some (.iconst 0, 1, [], []) := zz_fetch_of p67 rfl rfl
theorem s67_2 : zz_Run zz_prog d 67 (2, [l0, l1, l2, l3, l4], st, k, h) = zz_Run zz_prog d 67 (3, [l0, l1, l2, l3, l4], .int 0 :: st, k, h) := zz_k_num f67_2 rfl
theorem f67_3 : zz_fetch zz_prog 67 3 = some (.istore 4, 2, [], []) := zz_fetch_of p67 rfl rfl
theorem s67_3 : zz_Run zz_prog d 67 (3, [l0, l1, l2, l3, l4], .int v :: st, k, h) = zz_sl l3 (zz_Run zz_prog d 67 (5, [l0, l1, l2, l3, some (.int v)], st, k, h)) := zz_k_st (j := 4) (u := .int v) f67_3 rfl (fun q hq => by cases hq) rfl (show 4 < 5 by decide) (by cases l3 <;> rfl) rfl
theorem f67_5 : zz_fetch zz_prog 67 5 = some (.iload 4, 2, [], []) := zz_fetch_of p67 rfl rfl
theorem s67_5 : zz_Run zz_prog d 67 (5, [l0, l1, l2, l3, some (.int v)], st, k, h) = zz_Run zz_prog d 67 (7, [l0, l1, l2, l3, some (.int v)], .int v :: st, k, h) := zz_k_num f67_5 rfl
theorem f67_7 : zz_fetch zz_prog 67 7 = some (.bipush 6, 2, [], []) := zz_fetch_of p67 rfl rfl
theorem s67_7 : zz_Run zz_prog d 67 (7, [l0, l1, l2, l3, l4], st, k, h) = zz_Run zz_prog d 67 (9, [l0, l1, l2, l3, l4], .int 6 :: st, k, h) := zz_k_num f67_7 (congrArg (fun u => some (9, [l0, l1, l2, l3, l4], Value.int u :: st)) (by decide : (Int8.ofInt 6).toInt32 = 6))
theorem f67_9 : zz_fetch zz_prog 67 9 = some (.if_icmp .ge 28, 3, [37], []) := zz_fetch_of p67 rfl rfl
theorem s67_9 : zz_Run zz_prog d 67 (9, [l0, l1, l2, l3, l4], .int w :: .int v :: st, k, h) = if w ≤ v then zz_Run zz_prog d 67 (37, [l0, l1, l2, l3, l4], st, k, h) else zz_Run zz_prog d 67 (12, [l0, l1, l2, l3, l4], st, k, h) := zz_k_br (w ≤ v) rfl (zz_k_num f67_9 rfl)
theorem f67_12 : zz_fetch zz_prog 67 12 = some (.iload_n 3, 1, [], []) := zz_fetch_of p67 rfl rfl
theorem s67_12 : zz_Run zz_prog d 67 (12, [l0, l1, l2, some (.int v), l4], st, k, h) = zz_Run zz_prog d 67 (13, [l0, l1, l2, some (.int v), l4], .int v :: st, k, h) := zz_k_num f67_12 rfl
theorem f67_13 : zz_fetch zz_prog 67 13 = some (.aload_n 0, 1, [], []) := zz_fetch_of p67 rfl rfl
theorem s67_13 : zz_Run zz_prog d 67 (13, [some (.ref a), l1, l2, l3, l4], st, k, h) = zz_Run zz_prog d 67 (14, [some (.ref a), l1, l2, l3, l4], .ref a :: st, k, h) := zz_k_num f67_13 rfl
theorem f67_14 : zz_fetch zz_prog 67 14 = some (.iload_n 1, 1, [], []) := zz_fetch_of p67 rfl rfl
theorem s67_14 : zz_Run zz_prog d 67 (14, [l0, some (.int v), l2, l3, l4], st, k, h) = zz_Run zz_prog d 67 (15, [l0, some (.int v), l2, l3, l4], .int v :: st, k, h) := zz_k_num f67_14 rfl
theorem f67_15 : zz_fetch zz_prog 67 15 = some (.getstatic 248, 3, [2], []) := zz_fetch_of p67 rfl rfl
theorem s67_15 : zz_Run zz_prog d 67 (15, [l0, l1, l2, l3, l4], st, k, (zz_hp n I J ex)) = zz_Run zz_prog d 67 (18, [l0, l1, l2, l3, l4], .ref 2 :: st, k, (zz_hp n I J ex)) := zz_k_go f67_15 rfl rfl rfl
theorem f67_18 : zz_fetch zz_prog 67 18 = some (.iload_n 2, 1, [], []) := zz_fetch_of p67 rfl rfl
theorem s67_18 : zz_Run zz_prog d 67 (18, [l0, l1, some (.int v), l3, l4], st, k, h) = zz_Run zz_prog d 67 (19, [l0, l1, some (.int v), l3, l4], .int v :: st, k, h) := zz_k_num f67_18 rfl
theorem f67_19 : zz_fetch zz_prog 67 19 = some (.bipush 6, 2, [], []) := zz_fetch_of p67 rfl rfl
theorem s67_19 : zz_Run zz_prog d 67 (19, [l0, l1, l2, l3, l4], st, k, h) = zz_Run zz_prog d 67 (21, [l0, l1, l2, l3, l4], .int 6 :: st, k, h) := zz_k_num f67_19 (congrArg (fun u => some (21, [l0, l1, l2, l3, l4], Value.int u :: st)) (by decide : (Int8.ofInt 6).toInt32 = 6))
theorem f67_21 : zz_fetch zz_prog 67 21 = some (.imul, 1, [], []) := zz_fetch_of p67 rfl rfl
theorem s67_21 : zz_Run zz_prog d 67 (21, [l0, l1, l2, l3, l4], .int w :: .int v :: st, k, h) = zz_Run zz_prog d 67 (22, [l0, l1, l2, l3, l4], .int (v * w) :: st, k, h) := zz_k_num f67_21 rfl
theorem f67_22 : zz_fetch zz_prog 67 22 = some (.iload 4, 2, [], []) := zz_fetch_of p67 rfl rfl
theorem s67_22 : zz_Run zz_prog d 67 (22, [l0, l1, l2, l3, some (.int v)], st, k, h) = zz_Run zz_prog d 67 (24, [l0, l1, l2, l3, some (.int v)], .int v :: st, k, h) := zz_k_num f67_22 rfl
theorem f67_24 : zz_fetch zz_prog 67 24 = some (.iadd, 1, [], []) := zz_fetch_of p67 rfl rfl
theorem s67_24 : zz_Run zz_prog d 67 (24, [l0, l1, l2, l3, l4], .int w :: .int v :: st, k, h) = zz_Run zz_prog d 67 (25, [l0, l1, l2, l3, l4], .int (v + w) :: st, k, h) := zz_k_num f67_24 rfl
theorem f67_25 : zz_fetch zz_prog 67 25 = some (.iaload, 1, [], []) := zz_fetch_of p67 rfl rfl
theorem s67_25 (ha : zz_isrd a = true) : zz_Run zz_prog d 67 (25, [l0, l1, l2, l3, l4], .int v :: .ref a :: st, k, (zz_hp n I J ex)) = zz_ck (zz_in v (zz_ary n a)) (zz_Run zz_prog d 67 (26, [l0, l1, l2, l3, l4], .int (I a v.toNatClampNeg) :: st, k, (zz_hp n I J ex))) := zz_k_iald f67_25 ha
theorem f67_26 : zz_fetch zz_prog 67 26 = some (.invokevirtual 260, 3, [0, 66, 3, 1], []) := zz_fetch_of p67 rfl rfl
theorem s67_26 : zz_Run zz_prog d 67 (26, [l0, l1, l2, l3, l4], [b0, b1, .ref 5, b3], k, (zz_hp n I J ex)) = zz_ret (zz_Call zz_prog d 66 [.ref 5, b1, b0] (zz_hp n I J ex)) (fun v k' h' => zz_Run zz_prog d 67 (29, [l0, l1, l2, l3, l4], v.toList ++ [b3], k && k', h')) (fun a k' h' => zz_th d 67 26 a [l0, l1, l2, l3, l4] (k && k') h') := zz_k_call f67_26 rfl rfl rfl
theorem f67_29 : zz_fetch zz_prog 67 29 = some (.iadd, 1, [], []) := zz_fetch_of p67 rfl rfl
theorem s67_29 : zz_Run zz_prog d 67 (29, [l0, l1, l2, l3, l4], .int w :: .int v :: st, k, h) = zz_Run zz_prog d 67 (30, [l0, l1, l2, l3, l4], .int (v + w) :: st, k, h) := zz_k_num f67_29 rfl
theorem f67_30 : zz_fetch zz_prog 67 30 = some (.istore_n 3, 1, [], []) := zz_fetch_of p67 rfl rfl
theorem s67_30 : zz_Run zz_prog d 67 (30, [l0, l1, l2, l3, l4], .int v :: st, k, h) = zz_sl l2 (zz_Run zz_prog d 67 (31, [l0, l1, l2, some (.int v), l4], st, k, h)) := zz_k_st (j := 3) (u := .int v) f67_30 rfl (fun q hq => by cases hq) rfl (show 3 < 5 by decide) (by cases l2 <;> rfl) rfl
theorem f67_31 : zz_fetch zz_prog 67 31 = some (.iinc 4 1, 3, [], []) := zz_fetch_of p67 rfl rfl
theorem s67_31 : zz_Run zz_prog d 67 (31, [l0, l1, l2, l3, some (.int v)], st, k, h) = zz_sl l3 (zz_Run zz_prog d 67 (34, [l0, l1, l2, l3, some (.int (v + 1))], st, k, h)) := zz_k_st (j := 4) (u := .int (v + 1)) f67_31 rfl (fun q hq => by cases hq) rfl (show 4 < 5 by decide) (by cases l3 <;> rfl) rfl
theorem f67_34 : zz_fetch zz_prog 67 34 = some (.goto (-29), 3, [5], []) := zz_fetch_of p67 rfl rfl
theorem s67_34 : zz_Run zz_prog d 67 (34, [l0, l1, l2, l3, l4], st, k, h) = zz_Run zz_prog d 67 (5, [l0, l1, l2, l3, l4], st, k, h) := zz_k_num f67_34 rfl
theorem f67_37 : zz_fetch zz_prog 67 37 = some (.iload_n 3, 1, [], []) := zz_fetch_of p67 rfl rfl
theorem s67_37 : zz_Run zz_prog d 67 (37, [l0, l1, l2, some (.int v), l4], st, k, h) = zz_Run zz_prog d 67 (38, [l0, l1, l2, some (.int v), l4], .int v :: st, k, h) := zz_k_num f67_37 rfl
theorem f67_38 : zz_fetch zz_prog 67 38 = some (.ireturn, 1, [0], []) := zz_fetch_of p67 rfl rfl
theorem s67_38 : zz_Run zz_prog d 67 (38, [l0, l1, l2, l3, l4], [.int v], k, h) = some (.inl (some (.int v)), k, h) := zz_k_stop f67_38 rfl rfl rfl
end S67
section S68
variable {d n j : Nat} {l0 l1 l2 l3 l4 l5 : Option Value} {st : List Value} {k : Bool} {h : zz_H} {v w v1 v2 : Int32} {y y1 : Int64} {a a1 a2 : Nat} {b0 b1 b2 b3 b4 b5 b6 b7 b8 : Value} {I : Nat → Nat → Int32} {J : Nat → Nat → Int64} {ex : List (Nat × Nat)}
theorem p68 : zz_prog 68 = some zz_m68 := rfl
theorem e68 (g0 : Nat) (g1 : Int32) (g2 : Int32) (g3 : Int32) : zz_Call zz_prog (d + 1) 68 [.ref g0, .int g1, .int g2, .int g3] h = zz_Run zz_prog d 68 (0, [some (.ref g0), some (.int g1), some (.int g2), some (.int g3), none, none], [], true, h) := rfl
theorem t68 (pc : Nat) (L : List (Option Value)) : zz_th d 68 pc a L k h = some (.inr a, k, h) := zz_th_out p68 rfl
theorem f68_0 : zz_fetch zz_prog 68 0 = some (.iconst 0, 1, [], []) := zz_fetch_of p68 rfl rfl
theorem s68_0 : zz_Run zz_prog d 68 (0, [l0, l1, l2, l3, l4, l5], st, k, h) = zz_Run zz_prog d 68 (1, [l0, l1, l2, l3, l4, l5], .int 0 :: st, k, h) := zz_k_num f68_0 rfl
theorem f68_1 : zz_fetch zz_prog 68 1 = some (.istore 4, 2, [], []) := zz_fetch_of p68 rfl rfl
theorem s68_1 : zz_Run zz_prog d 68 (1, [l0, l1, l2, l3, l4, l5], .int v :: st, k, h) = zz_sl l3 (zz_Run zz_prog d 68 (3, [l0, l1, l2, l3, some (.int v), l5], st, k, h)) := zz_k_st (j := 4) (u := .int v) f68_1 rfl (fun q hq => by cases hq) rfl (show 4 < 6 by decide) (by cases l3 <;> rfl) rfl
theorem f68_3 : zz_fetch zz_prog 68 3 = some (.iconst 0, 1, [], []) := zz_fetch_of p68 rfl rfl
theorem s68_3 : zz_Run zz_prog d 68 (3, [l0, l1, l2, l3, l4, l5], st, k, h) = zz_Run zz_prog d 68 (4, [l0, l1, l2, l3, l4, l5], .int 0 :: st, k, h) := zz_k_num f68_3 rfl
theorem f68_4 : zz_fetch zz_prog 68 4 = some (.istore 5, 2, [], []) := zz_fetch_of p68 rfl rfl
theorem s68_4 : zz_Run zz_prog d 68 (4, [l0, l1, l2, l3, l4, l5], .int v :: st, k, h) = zz_sl l4 (zz_Run zz_prog d 68 (6, [l0, l1, l2, l3, l4, some (.int v)], st, k, h)) := zz_k_st (j := 5) (u := .int v) f68_4 rfl (fun q hq => by cases hq) rfl (show 5 < 6 by decide) (by cases l4 <;> rfl) rfl
theorem f68_6 : zz_fetch zz_prog 68 6 = some (.iload 5, 2, [], []) := zz_fetch_of p68 rfl rfl
theorem s68_6 : zz_Run zz_prog d 68 (6, [l0, l1, l2, l3, l4, some (.int v)], st, k, h) = zz_Run zz_prog d 68 (8, [l0, l1, l2, l3, l4, some (.int v)], .int v :: st, k, h) := zz_k_num f68_6 rfl
theorem f68_8 : zz_fetch zz_prog 68 8 = some (.bipush 19, 2, [], []) := zz_fetch_of p68 rfl rfl
theorem s68_8 : zz_Run zz_prog d 68 (8, [l0, l1, l2, l3, l4, l5], st, k, h) = zz_Run zz_prog d 68 (10, [l0, l1, l2, l3, l4, l5], .int 19 :: st, k, h) := zz_k_num f68_8 (congrArg (fun u => some (10, [l0, l1, l2, l3, l4, l5], Value.int u :: st)) (by decide : (Int8.ofInt 19).toInt32 = 19))
theorem f68_10 : zz_fetch zz_prog 68 10 = some (.if_icmp .ge 55, 3, [65], []) := zz_fetch_of p68 rfl rfl
theorem s68_10 : zz_Run zz_prog d 68 (10, [l0, l1, l2, l3, l4, l5], .int w :: .int v :: st, k, h) = if w ≤ v then zz_Run zz_prog d 68 (65, [l0, l1, l2, l3, l4, l5], st, k, h) else zz_Run zz_prog d 68 (13, [l0, l1, l2, l3, l4, l5], st, k, h) := zz_k_br (w ≤ v) rfl (zz_k_num f68_10 rfl)
theorem f68_13 : zz_fetch zz_prog 68 13 = some (.aload_n 0, 1, [], []) := zz_fetch_of p68 rfl rfl
theorem s68_13 : zz_Run zz_prog d 68 (13, [some (.ref a), l1, l2, l3, l4, l5], st, k, h) = zz_Run zz_prog d 68 (14, [some (.ref a), l1, l2, l3, l4, l5], .ref a :: st, k, h) := zz_k_num f68_13 rfl
theorem f68_14 : zz_fetch zz_prog 68 14 = some (.getfield 9, 3, [1, 0, 3], []) := zz_fetch_of p68 rfl rfl
theorem s68_14 : zz_Run zz_prog d 68 (14, [l0, l1, l2, l3, l4, l5], .ref 5 :: st, k, (zz_hp n I J ex)) = zz_Run zz_prog d 68 (17, [l0, l1, l2, l3, l4, l5], .ref 6 :: st, k, (zz_hp n I J ex)) := zz_k_go f68_14 rfl rfl rfl
theorem f68_17 : zz_fetch zz_prog 68 17 = some (.iload 5, 2, [], []) := zz_fetch_of p68 rfl rfl
theorem s68_17 : zz_Run zz_prog d 68 (17, [l0, l1, l2, l3, l4, some (.int v)], st, k, h) = zz_Run zz_prog d 68 (19, [l0, l1, l2, l3, l4, some (.int v)], .int v :: st, k, h) := zz_k_num f68_17 rfl
theorem f68_19 : zz_fetch zz_prog 68 19 = some (.iaload, 1, [], []) := zz_fetch_of p68 rfl rfl
theorem s68_19 (ha : zz_isrd a = true) : zz_Run zz_prog d 68 (19, [l0, l1, l2, l3, l4, l5], .int v :: .ref a :: st, k, (zz_hp n I J ex)) = zz_ck (zz_in v (zz_ary n a)) (zz_Run zz_prog d 68 (20, [l0, l1, l2, l3, l4, l5], .int (I a v.toNatClampNeg) :: st, k, (zz_hp n I J ex))) := zz_k_iald f68_19 ha
theorem f68_20 : zz_fetch zz_prog 68 20 = some (.iload_n 2, 1, [], []) := zz_fetch_of p68 rfl rfl
theorem s68_20 : zz_Run zz_prog d 68 (20, [l0, l1, some (.int v), l3, l4, l5], st, k, h) = zz_Run zz_prog d 68 (21, [l0, l1, some (.int v), l3, l4, l5], .int v :: st, k, h) := zz_k_num f68_20 rfl
theorem f68_21 : zz_fetch zz_prog 68 21 = some (.if_icmp .ne 38, 3, [59], []) := zz_fetch_of p68 rfl rfl
theorem s68_21 : zz_Run zz_prog d 68 (21, [l0, l1, l2, l3, l4, l5], .int w :: .int v :: st, k, h) = if ¬ v = w then zz_Run zz_prog d 68 (59, [l0, l1, l2, l3, l4, l5], st, k, h) else zz_Run zz_prog d 68 (24, [l0, l1, l2, l3, l4, l5], st, k, h) := zz_k_br (¬ v = w) rfl (zz_k_num f68_21 rfl)
theorem f68_24 : zz_fetch zz_prog 68 24 = some (.aload_n 0, 1, [], []) := zz_fetch_of p68 rfl rfl
theorem s68_24 : zz_Run zz_prog d 68 (24, [some (.ref a), l1, l2, l3, l4, l5], st, k, h) = zz_Run zz_prog d 68 (25, [some (.ref a), l1, l2, l3, l4, l5], .ref a :: st, k, h) := zz_k_num f68_24 rfl
theorem f68_25 : zz_fetch zz_prog 68 25 = some (.getfield 13, 3, [1, 1, 3], []) := zz_fetch_of p68 rfl rfl
theorem s68_25 : zz_Run zz_prog d 68 (25, [l0, l1, l2, l3, l4, l5], .ref 5 :: st, k, (zz_hp n I J ex)) = zz_Run zz_prog d 68 (28, [l0, l1, l2, l3, l4, l5], .ref 7 :: st, k, (zz_hp n I J ex)) := zz_k_go f68_25 rfl rfl rfl
theorem f68_28 : zz_fetch zz_prog 68 28 = some (.iload 5, 2, [], []) := zz_fetch_of p68 rfl rfl
theorem s68_28 : zz_Run zz_prog d 68 (28, [l0, l1, l2, l3, l4, some (.int v)], st, k, h) = zz_Run zz_prog d 68 (30, [l0, l1, l2, l3, l4, some (.int v)], .int v :: st, k, h) := zz_k_num f68_28 rfl
theorem f68_30 : zz_fetch zz_prog 68 30 = some (.iaload, 1, [], []) := zz_fetch_of p68 rfl rfl
theorem s68_30 (ha : zz_isrd a = true) : zz_Run zz_prog d 68 (30, [l0, l1, l2, l3, l4, l5], .int v :: .ref a :: st, k, (zz_hp n I J ex)) = zz_ck (zz_in v (zz_ary n a)) (zz_Run zz_prog d 68 (31, [l0, l1, l2, l3, l4, l5], .int (I a v.toNatClampNeg) :: st, k, (zz_hp n I J ex))) := zz_k_iald f68_30 ha
theorem f68_31 : zz_fetch zz_prog 68 31 = some (.iload_n 3, 1, [], []) := zz_fetch_of p68 rfl rfl
theorem s68_31 : zz_Run zz_prog d 68 (31, [l0, l1, l2, some (.int v), l4, l5], st, k, h) = zz_Run zz_prog d 68 (32, [l0, l1, l2, some (.int v), l4, l5], .int v :: st, k, h) := zz_k_num f68_31 rfl
theorem f68_32 : zz_fetch zz_prog 68 32 = some (.if_icmp .ne 27, 3, [59], []) := zz_fetch_of p68 rfl rfl
theorem s68_32 : zz_Run zz_prog d 68 (32, [l0, l1, l2, l3, l4, l5], .int w :: .int v :: st, k, h) = if ¬ v = w then zz_Run zz_prog d 68 (59, [l0, l1, l2, l3, l4, l5], st, k, h) else zz_Run zz_prog d 68 (35, [l0, l1, l2, l3, l4, l5], st, k, h) := zz_k_br (¬ v = w) rfl (zz_k_num f68_32 rfl)
theorem f68_35 : zz_fetch zz_prog 68 35 = some (.iload 5, 2, [], []) := zz_fetch_of p68 rfl rfl
theorem s68_35 : zz_Run zz_prog d 68 (35, [l0, l1, l2, l3, l4, some (.int v)], st, k, h) = zz_Run zz_prog d 68 (37, [l0, l1, l2, l3, l4, some (.int v)], .int v :: st, k, h) := zz_k_num f68_35 rfl
theorem f68_37 : zz_fetch zz_prog 68 37 = some (.aload_n 0, 1, [], []) := zz_fetch_of p68 rfl rfl
theorem s68_37 : zz_Run zz_prog d 68 (37, [some (.ref a), l1, l2, l3, l4, l5], st, k, h) = zz_Run zz_prog d 68 (38, [some (.ref a), l1, l2, l3, l4, l5], .ref a :: st, k, h) := zz_k_num f68_37 rfl
theorem f68_38 : zz_fetch zz_prog 68 38 = some (.getfield 28, 3, [1, 7, 3], []) := zz_fetch_of p68 rfl rfl
theorem s68_38 : zz_Run zz_prog d 68 (38, [l0, l1, l2, l3, l4, l5], .ref 5 :: st, k, (zz_hp n I J ex)) = zz_Run zz_prog d 68 (41, [l0, l1, l2, l3, l4, l5], .ref 9 :: st, k, (zz_hp n I J ex)) := zz_k_go f68_38 rfl rfl rfl
theorem f68_41 : zz_fetch zz_prog 68 41 = some (.getfield 83, 3, [0, 4, 0], []) := zz_fetch_of p68 rfl rfl
theorem s68_41 : zz_Run zz_prog d 68 (41, [l0, l1, l2, l3, l4, l5], .ref 9 :: st, k, (zz_hp n I J ex)) = zz_Run zz_prog d 68 (44, [l0, l1, l2, l3, l4, l5], .int (I 9 4) :: st, k, (zz_hp n I J ex)) := zz_k_go f68_41 rfl rfl rfl
theorem s68_41b : zz_Run zz_prog d 68 (41, [l0, l1, l2, l3, l4, l5], .ref 16 :: st, k, (zz_hp n I J ex)) = zz_Run zz_prog d 68 (44, [l0, l1, l2, l3, l4, l5], .int (I 16 4) :: st, k, (zz_hp n I J ex)) := zz_k_go f68_41 rfl rfl rfl
theorem f68_44 : zz_fetch zz_prog 68 44 = some (.if_icmp .eq 15, 3, [59], []) := zz_fetch_of p68 rfl rfl
theorem s68_44 : zz_Run zz_prog d 68 (44, [l0, l1, l2, l3, l4, l5], .int w :: .int v :: st, k, h) = if v = w then zz_Run zz_prog d 68 (59, [l0, l1, l2, l3, l4, l5], st, k, h) else zz_Run zz_prog d 68 (47, [l0, l1, l2, l3, l4, l5], st, k, h) := zz_k_br (v = w) rfl (zz_k_num f68_44 rfl)
theorem f68_47 : zz_fetch zz_prog 68 47 = some (.iload 4, 2, [], []) := zz_fetch_of p68 rfl rfl
theorem s68_47 : zz_Run zz_prog d 68 (47, [l0, l1, l2, l3, some (.int v), l5], st, k, h) = zz_Run zz_prog d 68 (49, [l0, l1, l2, l3, some (.int v), l5], .int v :: st, k, h) := zz_k_num f68_47 rfl
theorem f68_49 : zz_fetch zz_prog 68 49 = some (.aload_n 0, 1, [], []) := zz_fetch_of p68 rfl rfl
theorem s68_49 : zz_Run zz_prog d 68 (49, [some (.ref a), l1, l2, l3, l4, l5], st, k, h) = zz_Run zz_prog d 68 (50, [some (.ref a), l1, l2, l3, l4, l5], .ref a :: st, k, h) := zz_k_num f68_49 rfl
theorem f68_50 : zz_fetch zz_prog 68 50 = some (.iload_n 1, 1, [], []) := zz_fetch_of p68 rfl rfl
theorem s68_50 : zz_Run zz_prog d 68 (50, [l0, some (.int v), l2, l3, l4, l5], st, k, h) = zz_Run zz_prog d 68 (51, [l0, some (.int v), l2, l3, l4, l5], .int v :: st, k, h) := zz_k_num f68_50 rfl
theorem f68_51 : zz_fetch zz_prog 68 51 = some (.iload 5, 2, [], []) := zz_fetch_of p68 rfl rfl
theorem s68_51 : zz_Run zz_prog d 68 (51, [l0, l1, l2, l3, l4, some (.int v)], st, k, h) = zz_Run zz_prog d 68 (53, [l0, l1, l2, l3, l4, some (.int v)], .int v :: st, k, h) := zz_k_num f68_51 rfl
theorem f68_53 : zz_fetch zz_prog 68 53 = some (.invokevirtual 315, 3, [0, 67, 3, 1], []) := zz_fetch_of p68 rfl rfl
theorem s68_53 : zz_Run zz_prog d 68 (53, [l0, l1, l2, l3, l4, l5], [b0, b1, .ref 5, b3], k, (zz_hp n I J ex)) = zz_ret (zz_Call zz_prog d 67 [.ref 5, b1, b0] (zz_hp n I J ex)) (fun v k' h' => zz_Run zz_prog d 68 (56, [l0, l1, l2, l3, l4, l5], v.toList ++ [b3], k && k', h')) (fun a k' h' => zz_th d 68 53 a [l0, l1, l2, l3, l4, l5] (k && k') h') := zz_k_call f68_53 rfl rfl rfl
theorem f68_56 : zz_fetch zz_prog 68 56 = some (.iadd, 1, [], []) := zz_fetch_of p68 rfl rfl
theorem s68_56 : zz_Run zz_prog d 68 (56, [l0, l1, l2, l3, l4, l5], .int w :: .int v :: st, k, h) = zz_Run zz_prog d 68 (57, [l0, l1, l2, l3, l4, l5], .int (v + w) :: st, k, h) := zz_k_num f68_56 rfl
theorem f68_57 : zz_fetch zz_prog 68 57 = some (.istore 4, 2, [], []) := zz_fetch_of p68 rfl rfl
theorem s68_57 : zz_Run zz_prog d 68 (57, [l0, l1, l2, l3, l4, l5], .int v :: st, k, h) = zz_sl l3 (zz_Run zz_prog d 68 (59, [l0, l1, l2, l3, some (.int v), l5], st, k, h)) := zz_k_st (j := 4) (u := .int v) f68_57 rfl (fun q hq => by cases hq) rfl (show 4 < 6 by decide) (by cases l3 <;> rfl) rfl
theorem f68_59 : zz_fetch zz_prog 68 59 = some (.iinc 5 1, 3, [], []) := zz_fetch_of p68 rfl rfl
theorem s68_59 : zz_Run zz_prog d 68 (59, [l0, l1, l2, l3, l4, some (.int v)], st, k, h) = zz_sl l4 (zz_Run zz_prog d 68 (62, [l0, l1, l2, l3, l4, some (.int (v + 1))], st, k, h)) := zz_k_st (j := 5) (u := .int (v + 1)) f68_59 rfl (fun q hq => by cases hq) rfl (show 5 < 6 by decide) (by cases l4 <;> rfl) rfl
theorem f68_62 : zz_fetch zz_prog 68 62 = some (.goto (-56), 3, [6], []) := zz_fetch_of p68 rfl rfl
theorem s68_62 : zz_Run zz_prog d 68 (62, [l0, l1, l2, l3, l4, l5], st, k, h) = zz_Run zz_prog d 68 (6, [l0, l1, l2, l3, l4, l5], st, k, h) := zz_k_num f68_62 rfl
theorem f68_65 : zz_fetch zz_prog 68 65 = some (.iload 4, 2, [], []) := zz_fetch_of p68 rfl rfl
theorem s68_65 : zz_Run zz_prog d 68 (65, [l0, l1, l2, l3, some (.int v), l5], st, k, h) = zz_Run zz_prog d 68 (67, [l0, l1, l2, l3, some (.int v), l5], .int v :: st, k, h) := zz_k_num f68_65 rfl
theorem f68_67 : zz_fetch zz_prog 68 67 = some (.ireturn, 1, [0], []) := zz_fetch_of p68 rfl rfl
theorem s68_67 : zz_Run zz_prog d 68 (67, [l0, l1, l2, l3, l4, l5], [.int v], k, h) = some (.inl (some (.int v)), k, h) := zz_k_stop f68_67 rfl rfl rfl
end S68
section S69
variable {d n j : Nat} {l0 l1 l2 l3 l4 l5 l6 : Option Value} {st : List Value} {k : Bool} {h : zz_H} {v w v1 v2 : Int32} {y y1 : Int64} {a a1 a2 : Nat} {b0 b1 b2 b3 b4 b5 b6 b7 b8 : Value} {I : Nat → Nat → Int32} {J : Nat → Nat → Int64} {ex : List (Nat × Nat)}
theorem p69 : zz_prog 69 = some zz_m69 := rfl
theorem e69 (g0 : Nat) (g1 : Int32) (g2 : Int32) : zz_Call zz_prog (d + 1) 69 [.ref g0, .int g1, .int g2] h = zz_Run zz_prog d 69 (0, [some (.ref g0), some (.int g1), some (.int g2), none, none, none, none], [], true, h) := rfl
theorem t69 (pc : Nat) (L : List (Option Value)) : zz_th d 69 pc a L k h = some (.inr a, k, h) := zz_th_out p69 rfl
theorem f69_0 : zz_fetch zz_prog 69 0 = some (.iconst 0, 1, [], []) := zz_fetch_of p69 rfl rfl
theorem s69_0 : zz_Run zz_prog d 69 (0, [l0, l1, l2, l3, l4, l5, l6], st, k, h) = zz_Run zz_prog d 69 (1, [l0, l1, l2, l3, l4, l5, l6], .int 0 :: st, k, h) := zz_k_num f69_0 rfl
theorem f69_1 : zz_fetch zz_prog 69 1 = some (.istore_n 3, 1, [], []) := zz_fetch_of p69 rfl rfl
theorem s69_1 : zz_Run zz_prog d 69 (1, [l0, l1, l2, l3, l4, l5, l6], .int v :: st, k, h) = zz_sl l2 (zz_Run zz_prog d 69 (2, [l0, l1, l2, some (.int v), l4, l5, l6], st, k, h)) := zz_k_st (j := 3) (u := .int v) f69_1 rfl (fun q hq => by cases hq) rfl (show 3 < 7 by decide) (by cases l2 <;> rfl) rfl
theorem f69_2 : zz_fetch zz_prog 69 2 = some (.iconst 0, 1, [], []) := zz_fetch_of p69 rfl rfl
theorem s69_2 : zz_Run zz_prog d 69 (2, [l0, l1, l2, l3, l4, l5, l6], st, k, h) = zz_Run zz_prog d 69 (3, [l0, l1, l2, l3, l4, l5, l6], .int 0 :: st, k, h) := zz_k_num f69_2 rfl
theorem f69_3 : zz_fetch zz_prog 69 3 = some (.istore 4, 2, [], []) := zz_fetch_of p69 rfl rfl
theorem s69_3 : zz_Run zz_prog d 69 (3, [l0, l1, l2, l3, l4, l5, l6], .int v :: st, k, h) = zz_sl l3 (zz_Run zz_prog d 69 (5, [l0, l1, l2, l3, some (.int v), l5, l6], st, k, h)) := zz_k_st (j := 4) (u := .int v) f69_3 rfl (fun q hq => by cases hq) rfl (show 4 < 7 by decide) (by cases l3 <;> rfl) rfl
theorem f69_5 : zz_fetch zz_prog 69 5 = some (.iconst 0, 1, [], []) := zz_fetch_of p69 rfl rfl
theorem s69_5 : zz_Run zz_prog d 69 (5, [l0, l1, l2, l3, l4, l5, l6], st, k, h) = zz_Run zz_prog d 69 (6, [l0, l1, l2, l3, l4, l5, l6], .int 0 :: st, k, h) := zz_k_num f69_5 rfl
theorem f69_6 : zz_fetch zz_prog 69 6 = some (.istore 5, 2, [], []) := zz_fetch_of p69 rfl rfl
theorem s69_6 : zz_Run zz_prog d 69 (6, [l0, l1, l2, l3, l4, l5, l6], .int v :: st, k, h) = zz_sl l4 (zz_Run zz_prog d 69 (8, [l0, l1, l2, l3, l4, some (.int v), l6], st, k, h)) := zz_k_st (j := 5) (u := .int v) f69_6 rfl (fun q hq => by cases hq) rfl (show 5 < 7 by decide) (by cases l4 <;> rfl) rfl
theorem f69_8 : zz_fetch zz_prog 69 8 = some (.iload 5, 2, [], []) := zz_fetch_of p69 rfl rfl
theorem s69_8 : zz_Run zz_prog d 69 (8, [l0, l1, l2, l3, l4, some (.int v), l6], st, k, h) = zz_Run zz_prog d 69 (10, [l0, l1, l2, l3, l4, some (.int v), l6], .int v :: st, k, h) := zz_k_num f69_8 rfl
theorem f69_10 : zz_fetch zz_prog 69 10 = some (.aload_n 0, 1, [], []) := zz_fetch_of p69 rfl rfl
theorem s69_10 : zz_Run zz_prog d 69 (10, [some (.ref a), l1, l2, l3, l4, l5, l6], st, k, h) = zz_Run zz_prog d 69 (11, [some (.ref a), l1, l2, l3, l4, l5, l6], .ref a :: st, k, h) := zz_k_num f69_10 rfl
theorem f69_11 : zz_fetch zz_prog 69 11 = some (.getfield 73, 3, [1, 5, 0], []) := zz_fetch_of p69 rfl rfl
theorem s69_11 : zz_Run zz_prog d 69 (11, [l0, l1, l2, l3, l4, l5, l6], .ref 5 :: st, k, (zz_hp n I J ex)) = zz_Run zz_prog d 69 (14, [l0, l1, l2, l3, l4, l5, l6], .int (I 5 5) :: st, k, (zz_hp n I J ex)) := zz_k_go f69_11 rfl rfl rfl
theorem f69_14 : zz_fetch zz_prog 69 14 = some (.if_icmp .ge 39, 3, [53], []) := zz_fetch_of p69 rfl rfl
theorem s69_14 : zz_Run zz_prog d 69 (14, [l0, l1, l2, l3, l4, l5, l6], .int w :: .int v :: st, k, h) = if w ≤ v then zz_Run zz_prog d 69 (53, [l0, l1, l2, l3, l4, l5, l6], st, k, h) else zz_Run zz_prog d 69 (17, [l0, l1, l2, l3, l4, l5, l6], st, k, h) := zz_k_br (w ≤ v) rfl (zz_k_num f69_14 rfl)
theorem f69_17 : zz_fetch zz_prog 69 17 = some (.aload_n 0, 1, [], []) := zz_fetch_of p69 rfl rfl
theorem s69_17 : zz_Run zz_prog d 69 (17, [some (.ref a), l1, l2, l3, l4, l5, l6], st, k, h) = zz_Run zz_prog d 69 (18, [some (.ref a), l1, l2, l3, l4, l5, l6], .ref a :: st, k, h) := zz_k_num f69_17 rfl
theorem f69_18 : zz_fetch zz_prog 69 18 = some (.iload 5, 2, [], []) := zz_fetch_of p69 rfl rfl
theorem s69_18 : zz_Run zz_prog d 69 (18, [l0, l1, l2, l3, l4, some (.int v), l6], st, k, h) = zz_Run zz_prog d 69 (20, [l0, l1, l2, l3, l4, some (.int v), l6], .int v :: st, k, h) := zz_k_num f69_18 rfl
theorem f69_20 : zz_fetch zz_prog 69 20 = some (.iload_n 1, 1, [], []) := zz_fetch_of p69 rfl rfl
theorem s69_20 : zz_Run zz_prog d 69 (20, [l0, some (.int v), l2, l3, l4, l5, l6], st, k, h) = zz_Run zz_prog d 69 (21, [l0, some (.int v), l2, l3, l4, l5, l6], .int v :: st, k, h) := zz_k_num f69_20 rfl
theorem f69_21 : zz_fetch zz_prog 69 21 = some (.iload_n 2, 1, [], []) := zz_fetch_of p69 rfl rfl
theorem s69_21 : zz_Run zz_prog d 69 (21, [l0, l1, some (.int v), l3, l4, l5, l6], st, k, h) = zz_Run zz_prog d 69 (22, [l0, l1, some (.int v), l3, l4, l5, l6], .int v :: st, k, h) := zz_k_num f69_21 rfl
theorem f69_22 : zz_fetch zz_prog 69 22 = some (.invokevirtual 242, 3, [0, 68, 4, 1], []) := zz_fetch_of p69 rfl rfl
theorem s69_22 : zz_Run zz_prog d 69 (22, [l0, l1, l2, l3, l4, l5, l6], [b0, b1, b2, .ref 5], k, (zz_hp n I J ex)) = zz_ret (zz_Call zz_prog d 68 [.ref 5, b2, b1, b0] (zz_hp n I J ex)) (fun v k' h' => zz_Run zz_prog d 69 (25, [l0, l1, l2, l3, l4, l5, l6], v.toList ++ [], k && k', h')) (fun a k' h' => zz_th d 69 22 a [l0, l1, l2, l3, l4, l5, l6] (k && k') h') := zz_k_call f69_22 rfl rfl rfl
theorem f69_25 : zz_fetch zz_prog 69 25 = some (.istore 6, 2, [], []) := zz_fetch_of p69 rfl rfl
theorem s69_25 : zz_Run zz_prog d 69 (25, [l0, l1, l2, l3, l4, l5, l6], .int v :: st, k, h) = zz_sl l5 (zz_Run zz_prog d 69 (27, [l0, l1, l2, l3, l4, l5, some (.int v)], st, k, h)) := zz_k_st (j := 6) (u := .int v) f69_25 rfl (fun q hq => by cases hq) rfl (show 6 < 7 by decide) (by cases l5 <;> rfl) rfl
theorem f69_27 : zz_fetch zz_prog 69 27 = some (.iload_n 3, 1, [], []) := zz_fetch_of p69 rfl rfl
theorem s69_27 : zz_Run zz_prog d 69 (27, [l0, l1, l2, some (.int v), l4, l5, l6], st, k, h) = zz_Run zz_prog d 69 (28, [l0, l1, l2, some (.int v), l4, l5, l6], .int v :: st, k, h) := zz_k_num f69_27 rfl
theorem f69_28 : zz_fetch zz_prog 69 28 = some (.iload 6, 2, [], []) := zz_fetch_of p69 rfl rfl
theorem s69_28 : zz_Run zz_prog d 69 (28, [l0, l1, l2, l3, l4, l5, some (.int v)], st, k, h) = zz_Run zz_prog d 69 (30, [l0, l1, l2, l3, l4, l5, some (.int v)], .int v :: st, k, h) := zz_k_num f69_28 rfl
theorem f69_30 : zz_fetch zz_prog 69 30 = some (.iadd, 1, [], []) := zz_fetch_of p69 rfl rfl
theorem s69_30 : zz_Run zz_prog d 69 (30, [l0, l1, l2, l3, l4, l5, l6], .int w :: .int v :: st, k, h) = zz_Run zz_prog d 69 (31, [l0, l1, l2, l3, l4, l5, l6], .int (v + w) :: st, k, h) := zz_k_num f69_30 rfl
theorem f69_31 : zz_fetch zz_prog 69 31 = some (.istore_n 3, 1, [], []) := zz_fetch_of p69 rfl rfl
theorem s69_31 : zz_Run zz_prog d 69 (31, [l0, l1, l2, l3, l4, l5, l6], .int v :: st, k, h) = zz_sl l2 (zz_Run zz_prog d 69 (32, [l0, l1, l2, some (.int v), l4, l5, l6], st, k, h)) := zz_k_st (j := 3) (u := .int v) f69_31 rfl (fun q hq => by cases hq) rfl (show 3 < 7 by decide) (by cases l2 <;> rfl) rfl
theorem f69_32 : zz_fetch zz_prog 69 32 = some (.iload 4, 2, [], []) := zz_fetch_of p69 rfl rfl
theorem s69_32 : zz_Run zz_prog d 69 (32, [l0, l1, l2, l3, some (.int v), l5, l6], st, k, h) = zz_Run zz_prog d 69 (34, [l0, l1, l2, l3, some (.int v), l5, l6], .int v :: st, k, h) := zz_k_num f69_32 rfl
theorem f69_34 : zz_fetch zz_prog 69 34 = some (.iload 6, 2, [], []) := zz_fetch_of p69 rfl rfl
theorem s69_34 : zz_Run zz_prog d 69 (34, [l0, l1, l2, l3, l4, l5, some (.int v)], st, k, h) = zz_Run zz_prog d 69 (36, [l0, l1, l2, l3, l4, l5, some (.int v)], .int v :: st, k, h) := zz_k_num f69_34 rfl
theorem f69_36 : zz_fetch zz_prog 69 36 = some (.ifCond .le 7, 3, [43], []) := zz_fetch_of p69 rfl rfl
theorem s69_36 : zz_Run zz_prog d 69 (36, [l0, l1, l2, l3, l4, l5, l6], .int v :: st, k, h) = if v ≤ 0 then zz_Run zz_prog d 69 (43, [l0, l1, l2, l3, l4, l5, l6], st, k, h) else zz_Run zz_prog d 69 (39, [l0, l1, l2, l3, l4, l5, l6], st, k, h) := zz_k_br (v ≤ 0) rfl (zz_k_num f69_36 rfl)
theorem f69_39 : zz_fetch zz_prog 69 39 = some (.iconst 1, 1, [], []) := zz_fetch_of p69 rfl rfl
theorem s69_39 : zz_Run zz_prog d 69 (39, [l0, l1, l2, l3, l4, l5, l6], st, k, h) = zz_Run zz_prog d 69 (40, [l0, l1, l2, l3, l4, l5, l6], .int 1 :: st, k, h) := zz_k_num f69_39 rfl
theorem f69_40 : zz_fetch zz_prog 69 40 = some (.goto 4, 3, [44], []) := zz_fetch_of p69 rfl rfl
theorem s69_40 : zz_Run zz_prog d 69 (40, [l0, l1, l2, l3, l4, l5, l6], st, k, h) = zz_Run zz_prog d 69 (44, [l0, l1, l2, l3, l4, l5, l6], st, k, h) := zz_k_num f69_40 rfl
theorem f69_43 : zz_fetch zz_prog 69 43 = some (.iconst 0, 1, [], []) := zz_fetch_of p69 rfl rfl
theorem s69_43 : zz_Run zz_prog d 69 (43, [l0, l1, l2, l3, l4, l5, l6], st, k, h) = zz_Run zz_prog d 69 (44, [l0, l1, l2, l3, l4, l5, l6], .int 0 :: st, k, h) := zz_k_num f69_43 rfl
theorem f69_44 : zz_fetch zz_prog 69 44 = some (.iadd, 1, [], []) := zz_fetch_of p69 rfl rfl
theorem s69_44 : zz_Run zz_prog d 69 (44, [l0, l1, l2, l3, l4, l5, l6], .int w :: .int v :: st, k, h) = zz_Run zz_prog d 69 (45, [l0, l1, l2, l3, l4, l5, l6], .int (v + w) :: st, k, h) := zz_k_num f69_44 rfl
theorem f69_45 : zz_fetch zz_prog 69 45 = some (.istore 4, 2, [], []) := zz_fetch_of p69 rfl rfl
theorem s69_45 : zz_Run zz_prog d 69 (45, [l0, l1, l2, l3, l4, l5, l6], .int v :: st, k, h) = zz_sl l3 (zz_Run zz_prog d 69 (47, [l0, l1, l2, l3, some (.int v), l5, l6], st, k, h)) := zz_k_st (j := 4) (u := .int v) f69_45 rfl (fun q hq => by cases hq) rfl (show 4 < 7 by decide) (by cases l3 <;> rfl) rfl
theorem f69_47 : zz_fetch zz_prog 69 47 = some (.iinc 5 1, 3, [], []) := zz_fetch_of p69 rfl rfl
theorem s69_47 : zz_Run zz_prog d 69 (47, [l0, l1, l2, l3, l4, some (.int v), l6], st, k, h) = zz_sl l4 (zz_Run zz_prog d 69 (50, [l0, l1, l2, l3, l4, some (.int (v + 1)), l6], st, k, h)) := zz_k_st (j := 5) (u := .int (v + 1)) f69_47 rfl (fun q hq => by cases hq) rfl (show 5 < 7 by decide) (by cases l4 <;> rfl) rfl
theorem f69_50 : zz_fetch zz_prog 69 50 = some (.goto (-42), 3, [8], []) := zz_fetch_of p69 rfl rfl
theorem s69_50 : zz_Run zz_prog d 69 (50, [l0, l1, l2, l3, l4, l5, l6], st, k, h) = zz_Run zz_prog d 69 (8, [l0, l1, l2, l3, l4, l5, l6], st, k, h) := zz_k_num f69_50 rfl
theorem f69_53 : zz_fetch zz_prog 69 53 = some (.aload_n 0, 1, [], []) := zz_fetch_of p69 rfl rfl
theorem s69_53 : zz_Run zz_prog d 69 (53, [some (.ref a), l1, l2, l3, l4, l5, l6], st, k, h) = zz_Run zz_prog d 69 (54, [some (.ref a), l1, l2, l3, l4, l5, l6], .ref a :: st, k, h) := zz_k_num f69_53 rfl
theorem f69_54 : zz_fetch zz_prog 69 54 = some (.iconst 4, 1, [], []) := zz_fetch_of p69 rfl rfl
theorem s69_54 : zz_Run zz_prog d 69 (54, [l0, l1, l2, l3, l4, l5, l6], st, k, h) = zz_Run zz_prog d 69 (55, [l0, l1, l2, l3, l4, l5, l6], .int 4 :: st, k, h) := zz_k_num f69_54 rfl
theorem f69_55 : zz_fetch zz_prog 69 55 = some (.iload_n 1, 1, [], []) := zz_fetch_of p69 rfl rfl
theorem s69_55 : zz_Run zz_prog d 69 (55, [l0, some (.int v), l2, l3, l4, l5, l6], st, k, h) = zz_Run zz_prog d 69 (56, [l0, some (.int v), l2, l3, l4, l5, l6], .int v :: st, k, h) := zz_k_num f69_55 rfl
theorem f69_56 : zz_fetch zz_prog 69 56 = some (.invokevirtual 135, 3, [0, 42, 3, 1], []) := zz_fetch_of p69 rfl rfl
theorem s69_56 : zz_Run zz_prog d 69 (56, [l0, l1, l2, l3, l4, l5, l6], [b0, b1, .ref 5], k, (zz_hp n I J ex)) = zz_ret (zz_Call zz_prog d 42 [.ref 5, b1, b0] (zz_hp n I J ex)) (fun v k' h' => zz_Run zz_prog d 69 (59, [l0, l1, l2, l3, l4, l5, l6], v.toList ++ [], k && k', h')) (fun a k' h' => zz_th d 69 56 a [l0, l1, l2, l3, l4, l5, l6] (k && k') h') := zz_k_call f69_56 rfl rfl rfl
theorem f69_59 : zz_fetch zz_prog 69 59 = some (.istore 5, 2, [], []) := zz_fetch_of p69 rfl rfl
theorem s69_59 : zz_Run zz_prog d 69 (59, [l0, l1, l2, l3, l4, l5, l6], .int v :: st, k, h) = zz_sl l4 (zz_Run zz_prog d 69 (61, [l0, l1, l2, l3, l4, some (.int v), l6], st, k, h)) := zz_k_st (j := 5) (u := .int v) f69_59 rfl (fun q hq => by cases hq) rfl (show 5 < 7 by decide) (by cases l4 <;> rfl) rfl
theorem f69_61 : zz_fetch zz_prog 69 61 = some (.iload_n 3, 1, [], []) := zz_fetch_of p69 rfl rfl
theorem s69_61 : zz_Run zz_prog d 69 (61, [l0, l1, l2, some (.int v), l4, l5, l6], st, k, h) = zz_Run zz_prog d 69 (62, [l0, l1, l2, some (.int v), l4, l5, l6], .int v :: st, k, h) := zz_k_num f69_61 rfl
theorem f69_62 : zz_fetch zz_prog 69 62 = some (.iload 5, 2, [], []) := zz_fetch_of p69 rfl rfl
theorem s69_62 : zz_Run zz_prog d 69 (62, [l0, l1, l2, l3, l4, some (.int v), l6], st, k, h) = zz_Run zz_prog d 69 (64, [l0, l1, l2, l3, l4, some (.int v), l6], .int v :: st, k, h) := zz_k_num f69_62 rfl
theorem f69_64 : zz_fetch zz_prog 69 64 = some (.if_icmp .le 11, 3, [75], []) := zz_fetch_of p69 rfl rfl
theorem s69_64 : zz_Run zz_prog d 69 (64, [l0, l1, l2, l3, l4, l5, l6], .int w :: .int v :: st, k, h) = if v ≤ w then zz_Run zz_prog d 69 (75, [l0, l1, l2, l3, l4, l5, l6], st, k, h) else zz_Run zz_prog d 69 (67, [l0, l1, l2, l3, l4, l5, l6], st, k, h) := zz_k_br (v ≤ w) rfl (zz_k_num f69_64 rfl)
theorem f69_67 : zz_fetch zz_prog 69 67 = some (.iload 4, 2, [], []) := zz_fetch_of p69 rfl rfl
theorem s69_67 : zz_Run zz_prog d 69 (67, [l0, l1, l2, l3, some (.int v), l5, l6], st, k, h) = zz_Run zz_prog d 69 (69, [l0, l1, l2, l3, some (.int v), l5, l6], .int v :: st, k, h) := zz_k_num f69_67 rfl
theorem f69_69 : zz_fetch zz_prog 69 69 = some (.iconst 1, 1, [], []) := zz_fetch_of p69 rfl rfl
theorem s69_69 : zz_Run zz_prog d 69 (69, [l0, l1, l2, l3, l4, l5, l6], st, k, h) = zz_Run zz_prog d 69 (70, [l0, l1, l2, l3, l4, l5, l6], .int 1 :: st, k, h) := zz_k_num f69_69 rfl
theorem f69_70 : zz_fetch zz_prog 69 70 = some (.if_icmp .le 5, 3, [75], []) := zz_fetch_of p69 rfl rfl
theorem s69_70 : zz_Run zz_prog d 69 (70, [l0, l1, l2, l3, l4, l5, l6], .int w :: .int v :: st, k, h) = if v ≤ w then zz_Run zz_prog d 69 (75, [l0, l1, l2, l3, l4, l5, l6], st, k, h) else zz_Run zz_prog d 69 (73, [l0, l1, l2, l3, l4, l5, l6], st, k, h) := zz_k_br (v ≤ w) rfl (zz_k_num f69_70 rfl)
theorem f69_73 : zz_fetch zz_prog 69 73 = some (.iconst 0, 1, [], []) := zz_fetch_of p69 rfl rfl
theorem s69_73 : zz_Run zz_prog d 69 (73, [l0, l1, l2, l3, l4, l5, l6], st, k, h) = zz_Run zz_prog d 69 (74, [l0, l1, l2, l3, l4, l5, l6], .int 0 :: st, k, h) := zz_k_num f69_73 rfl
theorem f69_74 : zz_fetch zz_prog 69 74 = some (.ireturn, 1, [0], []) := zz_fetch_of p69 rfl rfl
theorem s69_74 : zz_Run zz_prog d 69 (74, [l0, l1, l2, l3, l4, l5, l6], [.int v], k, h) = some (.inl (some (.int v)), k, h) := zz_k_stop f69_74 rfl rfl rfl
theorem f69_75 : zz_fetch zz_prog 69 75 = some (.iconst 0, 1, [], []) := zz_fetch_of p69 rfl rfl
theorem s69_75 : zz_Run zz_prog d 69 (75, [l0, l1, l2, l3, l4, l5, l6], st, k, h) = zz_Run zz_prog d 69 (76, [l0, l1, l2, l3, l4, l5, l6], .int 0 :: st, k, h) := zz_k_num f69_75 rfl
theorem f69_76 : zz_fetch zz_prog 69 76 = some (.istore 6, 2, [], []) := zz_fetch_of p69 rfl rfl
theorem s69_76 : zz_Run zz_prog d 69 (76, [l0, l1, l2, l3, l4, l5, l6], .int v :: st, k, h) = zz_sl l5 (zz_Run zz_prog d 69 (78, [l0, l1, l2, l3, l4, l5, some (.int v)], st, k, h)) := zz_k_st (j := 6) (u := .int v) f69_76 rfl (fun q hq => by cases hq) rfl (show 6 < 7 by decide) (by cases l5 <;> rfl) rfl
theorem f69_78 : zz_fetch zz_prog 69 78 = some (.iload 6, 2, [], []) := zz_fetch_of p69 rfl rfl
theorem s69_78 : zz_Run zz_prog d 69 (78, [l0, l1, l2, l3, l4, l5, some (.int v)], st, k, h) = zz_Run zz_prog d 69 (80, [l0, l1, l2, l3, l4, l5, some (.int v)], .int v :: st, k, h) := zz_k_num f69_78 rfl
theorem f69_80 : zz_fetch zz_prog 69 80 = some (.aload_n 0, 1, [], []) := zz_fetch_of p69 rfl rfl
theorem s69_80 : zz_Run zz_prog d 69 (80, [some (.ref a), l1, l2, l3, l4, l5, l6], st, k, h) = zz_Run zz_prog d 69 (81, [some (.ref a), l1, l2, l3, l4, l5, l6], .ref a :: st, k, h) := zz_k_num f69_80 rfl
theorem f69_81 : zz_fetch zz_prog 69 81 = some (.getfield 73, 3, [1, 5, 0], []) := zz_fetch_of p69 rfl rfl
theorem s69_81 : zz_Run zz_prog d 69 (81, [l0, l1, l2, l3, l4, l5, l6], .ref 5 :: st, k, (zz_hp n I J ex)) = zz_Run zz_prog d 69 (84, [l0, l1, l2, l3, l4, l5, l6], .int (I 5 5) :: st, k, (zz_hp n I J ex)) := zz_k_go f69_81 rfl rfl rfl
theorem f69_84 : zz_fetch zz_prog 69 84 = some (.if_icmp .ge 30, 3, [114], []) := zz_fetch_of p69 rfl rfl
theorem s69_84 : zz_Run zz_prog d 69 (84, [l0, l1, l2, l3, l4, l5, l6], .int w :: .int v :: st, k, h) = if w ≤ v then zz_Run zz_prog d 69 (114, [l0, l1, l2, l3, l4, l5, l6], st, k, h) else zz_Run zz_prog d 69 (87, [l0, l1, l2, l3, l4, l5, l6], st, k, h) := zz_k_br (w ≤ v) rfl (zz_k_num f69_84 rfl)
theorem f69_87 : zz_fetch zz_prog 69 87 = some (.aload_n 0, 1, [], []) := zz_fetch_of p69 rfl rfl
theorem s69_87 : zz_Run zz_prog d 69 (87, [some (.ref a), l1, l2, l3, l4, l5, l6], st, k, h) = zz_Run zz_prog d 69 (88, [some (.ref a), l1, l2, l3, l4, l5, l6], .ref a :: st, k, h) := zz_k_num f69_87 rfl
theorem f69_88 : zz_fetch zz_prog 69 88 = some (.iconst 4, 1, [], []) := zz_fetch_of p69 rfl rfl
theorem s69_88 : zz_Run zz_prog d 69 (88, [l0, l1, l2, l3, l4, l5, l6], st, k, h) = zz_Run zz_prog d 69 (89, [l0, l1, l2, l3, l4, l5, l6], .int 4 :: st, k, h) := zz_k_num f69_88 rfl
theorem f69_89 : zz_fetch zz_prog 69 89 = some (.iload 6, 2, [], []) := zz_fetch_of p69 rfl rfl
theorem s69_89 : zz_Run zz_prog d 69 (89, [l0, l1, l2, l3, l4, l5, some (.int v)], st, k, h) = zz_Run zz_prog d 69 (91, [l0, l1, l2, l3, l4, l5, some (.int v)], .int v :: st, k, h) := zz_k_num f69_89 rfl
theorem f69_91 : zz_fetch zz_prog 69 91 = some (.iload_n 1, 1, [], []) := zz_fetch_of p69 rfl rfl
theorem s69_91 : zz_Run zz_prog d 69 (91, [l0, some (.int v), l2, l3, l4, l5, l6], st, k, h) = zz_Run zz_prog d 69 (92, [l0, some (.int v), l2, l3, l4, l5, l6], .int v :: st, k, h) := zz_k_num f69_91 rfl
theorem f69_92 : zz_fetch zz_prog 69 92 = some (.aload_n 0, 1, [], []) := zz_fetch_of p69 rfl rfl
theorem s69_92 : zz_Run zz_prog d 69 (92, [some (.ref a), l1, l2, l3, l4, l5, l6], st, k, h) = zz_Run zz_prog d 69 (93, [some (.ref a), l1, l2, l3, l4, l5, l6], .ref a :: st, k, h) := zz_k_num f69_92 rfl
theorem f69_93 : zz_fetch zz_prog 69 93 = some (.iload 6, 2, [], []) := zz_fetch_of p69 rfl rfl
theorem s69_93 : zz_Run zz_prog d 69 (93, [l0, l1, l2, l3, l4, l5, some (.int v)], st, k, h) = zz_Run zz_prog d 69 (95, [l0, l1, l2, l3, l4, l5, some (.int v)], .int v :: st, k, h) := zz_k_num f69_93 rfl
theorem f69_95 : zz_fetch zz_prog 69 95 = some (.iload_n 1, 1, [], []) := zz_fetch_of p69 rfl rfl
theorem s69_95 : zz_Run zz_prog d 69 (95, [l0, some (.int v), l2, l3, l4, l5, l6], st, k, h) = zz_Run zz_prog d 69 (96, [l0, some (.int v), l2, l3, l4, l5, l6], .int v :: st, k, h) := zz_k_num f69_95 rfl
theorem f69_96 : zz_fetch zz_prog 69 96 = some (.iload_n 2, 1, [], []) := zz_fetch_of p69 rfl rfl
theorem s69_96 : zz_Run zz_prog d 69 (96, [l0, l1, some (.int v), l3, l4, l5, l6], st, k, h) = zz_Run zz_prog d 69 (97, [l0, l1, some (.int v), l3, l4, l5, l6], .int v :: st, k, h) := zz_k_num f69_96 rfl
theorem f69_97 : zz_fetch zz_prog 69 97 = some (.invokevirtual 242, 3, [0, 68, 4, 1], []) := zz_fetch_of p69 rfl rfl
theorem s69_97 : zz_Run zz_prog d 69 (97, [l0, l1, l2, l3, l4, l5, l6], [b0, b1, b2, .ref 5, b4, b5, b6, b7], k, (zz_hp n I J ex)) = zz_ret (zz_Call zz_prog d 68 [.ref 5, b2, b1, b0] (zz_hp n I J ex)) (fun v k' h' => zz_Run zz_prog d 69 (100, [l0, l1, l2, l3, l4, l5, l6], v.toList ++ [b4, b5, b6, b7], k && k', h')) (fun a k' h' => zz_th d 69 97 a [l0, l1, l2, l3, l4, l5, l6] (k && k') h') := zz_k_call f69_97 rfl rfl rfl
theorem f69_100 : zz_fetch zz_prog 69 100 = some (.iload 5, 2, [], []) := zz_fetch_of p69 rfl rfl
theorem s69_100 : zz_Run zz_prog d 69 (100, [l0, l1, l2, l3, l4, some (.int v), l6], st, k, h) = zz_Run zz_prog d 69 (102, [l0, l1, l2, l3, l4, some (.int v), l6], .int v :: st, k, h) := zz_k_num f69_100 rfl
theorem f69_102 : zz_fetch zz_prog 69 102 = some (.invokestatic 318, 3, [4], []) := zz_fetch_of p69 rfl rfl
theorem s69_102 : zz_Run zz_prog d 69 (102, [l0, l1, l2, l3, l4, l5, l6], [.int w, .int v, b2, b3, b4, b5], k, h) = zz_Run zz_prog d 69 (105, [l0, l1, l2, l3, l4, l5, l6], [.int (if w < v then w else v), b2, b3, b4, b5], k, h) := zz_k_bi f69_102 rfl rfl rfl
theorem f69_105 : zz_fetch zz_prog 69 105 = some (.invokevirtual 138, 3, [0, 44, 5, 1], []) := zz_fetch_of p69 rfl rfl
theorem s69_105 : zz_Run zz_prog d 69 (105, [l0, l1, l2, l3, l4, l5, l6], [b0, b1, b2, b3, .ref 5], k, (zz_hp n I J ex)) = zz_ret (zz_Call zz_prog d 44 [.ref 5, b3, b2, b1, b0] (zz_hp n I J ex)) (fun v k' h' => zz_Run zz_prog d 69 (108, [l0, l1, l2, l3, l4, l5, l6], v.toList ++ [], k && k', h')) (fun a k' h' => zz_th d 69 105 a [l0, l1, l2, l3, l4, l5, l6] (k && k') h') := zz_k_call f69_105 rfl rfl rfl
theorem f69_108 : zz_fetch zz_prog 69 108 = some (.iinc 6 1, 3, [], []) := zz_fetch_of p69 rfl rfl
theorem s69_108 : zz_Run zz_prog d 69 (108, [l0, l1, l2, l3, l4, l5, some (.int v)], st, k, h) = zz_sl l5 (zz_Run zz_prog d 69 (111, [l0, l1, l2, l3, l4, l5, some (.int (v + 1))], st, k, h)) := zz_k_st (j := 6) (u := .int (v + 1)) f69_108 rfl (fun q hq => by cases hq) rfl (show 6 < 7 by decide) (by cases l5 <;> rfl) rfl
theorem f69_111 : zz_fetch zz_prog 69 111 = some (.goto (-33), 3, [78], []) := zz_fetch_of p69 rfl rfl
theorem s69_111 : zz_Run zz_prog d 69 (111, [l0, l1, l2, l3, l4, l5, l6], st, k, h) = zz_Run zz_prog d 69 (78, [l0, l1, l2, l3, l4, l5, l6], st, k, h) := zz_k_num f69_111 rfl
theorem f69_114 : zz_fetch zz_prog 69 114 = some (.iload_n 3, 1, [], []) := zz_fetch_of p69 rfl rfl
theorem s69_114 : zz_Run zz_prog d 69 (114, [l0, l1, l2, some (.int v), l4, l5, l6], st, k, h) = zz_Run zz_prog d 69 (115, [l0, l1, l2, some (.int v), l4, l5, l6], .int v :: st, k, h) := zz_k_num f69_114 rfl
theorem f69_115 : zz_fetch zz_prog 69 115 = some (.iload 5, 2, [], []) := zz_fetch_of p69 rfl rfl
theorem s69_115 : zz_Run zz_prog d 69 (115, [l0, l1, l2, l3, l4, some (.int v), l6], st, k, h) = zz_Run zz_prog d 69 (117, [l0, l1, l2, l3, l4, some (.int v), l6], .int v :: st, k, h) := zz_k_num f69_115 rfl
theorem f69_117 : zz_fetch zz_prog 69 117 = some (.invokestatic 318, 3, [4], []) := zz_fetch_of p69 rfl rfl
theorem s69_117 : zz_Run zz_prog d 69 (117, [l0, l1, l2, l3, l4, l5, l6], [.int w, .int v], k, h) = zz_Run zz_prog d 69 (120, [l0, l1, l2, l3, l4, l5, l6], [.int (if w < v then w else v)], k, h) := zz_k_bi f69_117 rfl rfl rfl
theorem f69_120 : zz_fetch zz_prog 69 120 = some (.ireturn, 1, [0], []) := zz_fetch_of p69 rfl rfl
theorem s69_120 : zz_Run zz_prog d 69 (120, [l0, l1, l2, l3, l4, l5, l6], [.int v], k, h) = some (.inl (some (.int v)), k, h) := zz_k_stop f69_120 rfl rfl rfl
end S69
