def bI (c : Bool) : Int32 := match c with
  | true => 1
  | false => 0
theorem bI_0 (c : Bool) : (bI c = 0) = (c = false) := by cases c <;> simp [bI]
theorem bI_1 (c : Bool) : (bI c = 1) = (c = true) := by cases c <;> simp [bI]
theorem bI_if (c : Bool) : (if c = true then (1 : Int32) else 0) = bI c := by cases c <;> rfl
theorem zz_ck_b (c : Bool) (r : Option zz_R) : zz_ck (decide (bI c = 0 ∨ bI c = 1)) r = r := by cases c <;> rfl
theorem zz_ck_0 (r : Option zz_R) : zz_ck (decide ((0 : Int32) = 0 ∨ (0 : Int32) = 1)) r = r := rfl
theorem zz_ck_1 (r : Option zz_R) : zz_ck (decide ((1 : Int32) = 0 ∨ (1 : Int32) = 1)) r = r := rfl
theorem zz_nI_eq {a b : Nat} (ha : a < 2147483648) (hb : b < 2147483648) : nI a = nI b ↔ a = b := by
  constructor
  · intro h
    have h1 := zz_nI_ix ha
    rw [h, zz_nI_ix hb] at h1
    exact h1.symm
  · intro h
    rw [h]
theorem zz_leN {a b : Nat} (ha : a < 2147483648) (hb : b < 2147483648) : (nI a ≤ nI b) = (a ≤ b) := propext (zz_nI_le ha hb)
theorem zz_ltN {a b : Nat} (ha : a < 2147483648) (hb : b < 2147483648) : (nI a < nI b) = (a < b) := propext (zz_nI_lt ha hb)
theorem zz_eqN {a b : Nat} (ha : a < 2147483648) (hb : b < 2147483648) : (nI a = nI b) = (a = b) := propext (zz_nI_eq ha hb)
theorem zz_yle {a b : Nat} (h : a ≤ b) : (a ≤ b) = True := eq_true h
theorem zz_nle {a b : Nat} (h : b < a) : (a ≤ b) = False := eq_false (by omega)
theorem zz_ylt {a b : Nat} (h : a < b) : (a < b) = True := eq_true h
theorem zz_nlt {a b : Nat} (h : b ≤ a) : (a < b) = False := eq_false (by omega)
theorem zz_yeq {a b : Nat} (h : a = b) : (a = b) = True := eq_true h
theorem zz_neq {a b : Nat} (h : a < b ∨ b < a) : (a = b) = False := eq_false (by omega)
theorem zz_na1 (a : Nat) : nI a + 1 = nI (a + 1) := zz_nI_add a 1
theorem zz_nb1 (a : Nat) : 1 + nI a = nI (1 + a) := zz_nI_add 1 a
theorem zz_na2 (a : Nat) : nI a + 2 = nI (a + 2) := zz_nI_add a 2
theorem zz_nb2 (a : Nat) : 2 + nI a = nI (2 + a) := zz_nI_add 2 a
theorem zz_na3 (a : Nat) : nI a + 3 = nI (a + 3) := zz_nI_add a 3
theorem zz_nb3 (a : Nat) : 3 + nI a = nI (3 + a) := zz_nI_add 3 a
theorem zz_na4 (a : Nat) : nI a + 4 = nI (a + 4) := zz_nI_add a 4
theorem zz_nb4 (a : Nat) : 4 + nI a = nI (4 + a) := zz_nI_add 4 a
theorem zz_na5 (a : Nat) : nI a + 5 = nI (a + 5) := zz_nI_add a 5
theorem zz_nb5 (a : Nat) : 5 + nI a = nI (5 + a) := zz_nI_add 5 a
theorem zz_na6 (a : Nat) : nI a + 6 = nI (a + 6) := zz_nI_add a 6
theorem zz_nb6 (a : Nat) : 6 + nI a = nI (6 + a) := zz_nI_add 6 a
theorem zz_na7 (a : Nat) : nI a + 7 = nI (a + 7) := zz_nI_add a 7
theorem zz_nb7 (a : Nat) : 7 + nI a = nI (7 + a) := zz_nI_add 7 a
theorem zz_na8 (a : Nat) : nI a + 8 = nI (a + 8) := zz_nI_add a 8
theorem zz_nb8 (a : Nat) : 8 + nI a = nI (8 + a) := zz_nI_add 8 a
theorem zz_na9 (a : Nat) : nI a + 9 = nI (a + 9) := zz_nI_add a 9
theorem zz_nb9 (a : Nat) : 9 + nI a = nI (9 + a) := zz_nI_add 9 a
theorem zz_na15 (a : Nat) : nI a + 15 = nI (a + 15) := zz_nI_add a 15
theorem zz_nb15 (a : Nat) : 15 + nI a = nI (15 + a) := zz_nI_add 15 a
theorem zz_na16 (a : Nat) : nI a + 16 = nI (a + 16) := zz_nI_add a 16
theorem zz_nb16 (a : Nat) : 16 + nI a = nI (16 + a) := zz_nI_add 16 a
theorem zz_na18 (a : Nat) : nI a + 18 = nI (a + 18) := zz_nI_add a 18
theorem zz_nb18 (a : Nat) : 18 + nI a = nI (18 + a) := zz_nI_add 18 a
theorem zz_na19 (a : Nat) : nI a + 19 = nI (a + 19) := zz_nI_add a 19
theorem zz_nb19 (a : Nat) : 19 + nI a = nI (19 + a) := zz_nI_add 19 a
theorem zz_na20 (a : Nat) : nI a + 20 = nI (a + 20) := zz_nI_add a 20
theorem zz_nb20 (a : Nat) : 20 + nI a = nI (20 + a) := zz_nI_add 20 a
theorem zz_na36 (a : Nat) : nI a + 36 = nI (a + 36) := zz_nI_add a 36
theorem zz_nb36 (a : Nat) : 36 + nI a = nI (36 + a) := zz_nI_add 36 a
theorem zz_na54 (a : Nat) : nI a + 54 = nI (a + 54) := zz_nI_add a 54
theorem zz_nb54 (a : Nat) : 54 + nI a = nI (54 + a) := zz_nI_add 54 a
theorem zz_na72 (a : Nat) : nI a + 72 = nI (a + 72) := zz_nI_add a 72
theorem zz_nb72 (a : Nat) : 72 + nI a = nI (72 + a) := zz_nI_add 72 a
theorem zz_na100 (a : Nat) : nI a + 100 = nI (a + 100) := zz_nI_add a 100
theorem zz_nb100 (a : Nat) : 100 + nI a = nI (100 + a) := zz_nI_add 100 a
theorem zz_na126 (a : Nat) : nI a + 126 = nI (a + 126) := zz_nI_add a 126
theorem zz_nb126 (a : Nat) : 126 + nI a = nI (126 + a) := zz_nI_add 126 a
theorem zz_na144 (a : Nat) : nI a + 144 = nI (a + 144) := zz_nI_add a 144
theorem zz_nb144 (a : Nat) : 144 + nI a = nI (144 + a) := zz_nI_add 144 a
theorem zz_na146 (a : Nat) : nI a + 146 = nI (a + 146) := zz_nI_add a 146
theorem zz_nb146 (a : Nat) : 146 + nI a = nI (146 + a) := zz_nI_add 146 a
theorem zz_na151 (a : Nat) : nI a + 151 = nI (a + 151) := zz_nI_add a 151
theorem zz_nb151 (a : Nat) : 151 + nI a = nI (151 + a) := zz_nI_add 151 a
theorem zz_na162 (a : Nat) : nI a + 162 = nI (a + 162) := zz_nI_add a 162
theorem zz_nb162 (a : Nat) : 162 + nI a = nI (162 + a) := zz_nI_add 162 a
theorem zz_na171 (a : Nat) : nI a + 171 = nI (a + 171) := zz_nI_add a 171
theorem zz_nb171 (a : Nat) : 171 + nI a = nI (171 + a) := zz_nI_add 171 a
theorem zz_na176 (a : Nat) : nI a + 176 = nI (a + 176) := zz_nI_add a 176
theorem zz_nb176 (a : Nat) : 176 + nI a = nI (176 + a) := zz_nI_add 176 a
theorem zz_nm2 (a : Nat) : nI a * 2 = nI (a * 2) := zz_nI_mul a 2
theorem zz_nn2 (a : Nat) : 2 * nI a = nI (2 * a) := zz_nI_mul 2 a
theorem zz_nm3 (a : Nat) : nI a * 3 = nI (a * 3) := zz_nI_mul a 3
theorem zz_nn3 (a : Nat) : 3 * nI a = nI (3 * a) := zz_nI_mul 3 a
theorem zz_nm4 (a : Nat) : nI a * 4 = nI (a * 4) := zz_nI_mul a 4
theorem zz_nn4 (a : Nat) : 4 * nI a = nI (4 * a) := zz_nI_mul 4 a
theorem zz_nm5 (a : Nat) : nI a * 5 = nI (a * 5) := zz_nI_mul a 5
theorem zz_nn5 (a : Nat) : 5 * nI a = nI (5 * a) := zz_nI_mul 5 a
theorem zz_nm6 (a : Nat) : nI a * 6 = nI (a * 6) := zz_nI_mul a 6
theorem zz_nn6 (a : Nat) : 6 * nI a = nI (6 * a) := zz_nI_mul 6 a
theorem zz_nm100 (a : Nat) : nI a * 100 = nI (a * 100) := zz_nI_mul a 100
theorem zz_nn100 (a : Nat) : 100 * nI a = nI (100 * a) := zz_nI_mul 100 a
theorem zz_ary_1 (n : Nat) : zz_ary n 1 = 20 := rfl
theorem zz_ary_2 (n : Nat) : zz_ary n 2 = 114 := rfl
theorem zz_ary_3 (n : Nat) : zz_ary n 3 = 144 := rfl
theorem zz_ary_4 (n : Nat) : zz_ary n 4 = 162 := rfl
theorem zz_ary_6 (n : Nat) : zz_ary n 6 = 19 := rfl
theorem zz_ary_7 (n : Nat) : zz_ary n 7 = 19 := rfl
theorem zz_ary_8 (n : Nat) : zz_ary n 8 = 54 := rfl
theorem zz_ary_10 (n : Nat) : zz_ary n 10 = 72 := rfl
theorem zz_ary_11 (n : Nat) : zz_ary n 11 = 54 := rfl
theorem zz_ary_12 (n : Nat) : zz_ary n 12 = 25 := rfl
theorem zz_ary_13 (n : Nat) : zz_ary n 13 = 20 := rfl
theorem zz_ary_14 (n : Nat) : zz_ary n 14 = 5 := rfl
theorem zz_ary_15 (n : Nat) : zz_ary n 15 = 4 := rfl
theorem zz_ary_17 (n : Nat) : zz_ary n 17 = 72 := rfl
theorem zz_ary_18 (n : Nat) : zz_ary n 18 = 54 := rfl
theorem zz_ary_19 (n : Nat) : zz_ary n 19 = 25 := rfl
theorem zz_ary_20 (n : Nat) : zz_ary n 20 = 20 := rfl
theorem zz_ary_21 (n : Nat) : zz_ary n 21 = 5 := rfl
theorem zz_ary_22 (n : Nat) : zz_ary n 22 = 4 := rfl
theorem zz_ary_24 (n : Nat) : zz_ary n 24 = 193 := rfl
theorem zz_ary_25 (n : Nat) : zz_ary n 25 = 193 := rfl
theorem zz_ary_26 (n : Nat) : zz_ary n 26 = 54 := rfl
theorem zz_ary_27 (n : Nat) : zz_ary n 27 = 54 := rfl
theorem zz_ary_28 (n : Nat) : zz_ary n 28 = 72 := rfl
theorem zz_ary_29 (n : Nat) : zz_ary n 29 = 72 := rfl
theorem zz_ary_30 (n : Nat) : zz_ary n 30 = 114 := rfl
theorem zz_ary_31 (n : Nat) : zz_ary n 31 = 19 := rfl
theorem zz_ary_32 (n : Nat) : zz_ary n 32 = 19 := rfl
theorem zz_ary_33 (n : Nat) : zz_ary n 33 = 9 := rfl
theorem zz_ary_34 (n : Nat) : zz_ary n 34 = 9 := rfl
theorem zz_ary_35 (n : Nat) : zz_ary n 35 = 16 := rfl
theorem zz_ary_36 (n : Nat) : zz_ary n 36 = 20 := rfl
theorem zz_ary_37 (n : Nat) : zz_ary n 37 = 12 := rfl
theorem zz_ary_38 (n : Nat) : zz_ary n 38 = 12 := rfl
theorem zz_ary_39 (n : Nat) : zz_ary n 39 = 15 := rfl
theorem zz_ary_40 (n : Nat) : zz_ary n 40 = 17 := rfl
theorem zz_ary_41 (n : Nat) : zz_ary n 41 = 17 := rfl
theorem zz_ary_42 (n : Nat) : zz_ary n 42 = 17 := rfl
theorem zz_ary_43 (n : Nat) : zz_ary n 43 = 20 := rfl
theorem zz_lc0 {a : Nat} (h : a < 2147483648) : ((0 : Int32) ≤ nI a) = (0 ≤ a) := propext (zz_nI_le (a := 0) (by decide) h)
theorem zz_cl0 {a : Nat} (h : a < 2147483648) : (nI a ≤ (0 : Int32)) = (a ≤ 0) := propext (zz_nI_le (b := 0) h (by decide))
theorem zz_tc0 {a : Nat} (h : a < 2147483648) : ((0 : Int32) < nI a) = (0 < a) := propext (zz_nI_lt (a := 0) (by decide) h)
theorem zz_ct0 {a : Nat} (h : a < 2147483648) : (nI a < (0 : Int32)) = (a < 0) := propext (zz_nI_lt (b := 0) h (by decide))
theorem zz_ec0 {a : Nat} (h : a < 2147483648) : (nI a = (0 : Int32)) = (a = 0) := propext (zz_nI_eq (b := 0) h (by decide))
theorem zz_lc1 {a : Nat} (h : a < 2147483648) : ((1 : Int32) ≤ nI a) = (1 ≤ a) := propext (zz_nI_le (a := 1) (by decide) h)
theorem zz_cl1 {a : Nat} (h : a < 2147483648) : (nI a ≤ (1 : Int32)) = (a ≤ 1) := propext (zz_nI_le (b := 1) h (by decide))
theorem zz_tc1 {a : Nat} (h : a < 2147483648) : ((1 : Int32) < nI a) = (1 < a) := propext (zz_nI_lt (a := 1) (by decide) h)
theorem zz_ct1 {a : Nat} (h : a < 2147483648) : (nI a < (1 : Int32)) = (a < 1) := propext (zz_nI_lt (b := 1) h (by decide))
theorem zz_ec1 {a : Nat} (h : a < 2147483648) : (nI a = (1 : Int32)) = (a = 1) := propext (zz_nI_eq (b := 1) h (by decide))
theorem zz_lc2 {a : Nat} (h : a < 2147483648) : ((2 : Int32) ≤ nI a) = (2 ≤ a) := propext (zz_nI_le (a := 2) (by decide) h)
theorem zz_cl2 {a : Nat} (h : a < 2147483648) : (nI a ≤ (2 : Int32)) = (a ≤ 2) := propext (zz_nI_le (b := 2) h (by decide))
theorem zz_tc2 {a : Nat} (h : a < 2147483648) : ((2 : Int32) < nI a) = (2 < a) := propext (zz_nI_lt (a := 2) (by decide) h)
theorem zz_ct2 {a : Nat} (h : a < 2147483648) : (nI a < (2 : Int32)) = (a < 2) := propext (zz_nI_lt (b := 2) h (by decide))
theorem zz_ec2 {a : Nat} (h : a < 2147483648) : (nI a = (2 : Int32)) = (a = 2) := propext (zz_nI_eq (b := 2) h (by decide))
theorem zz_lc3 {a : Nat} (h : a < 2147483648) : ((3 : Int32) ≤ nI a) = (3 ≤ a) := propext (zz_nI_le (a := 3) (by decide) h)
theorem zz_cl3 {a : Nat} (h : a < 2147483648) : (nI a ≤ (3 : Int32)) = (a ≤ 3) := propext (zz_nI_le (b := 3) h (by decide))
theorem zz_tc3 {a : Nat} (h : a < 2147483648) : ((3 : Int32) < nI a) = (3 < a) := propext (zz_nI_lt (a := 3) (by decide) h)
theorem zz_ct3 {a : Nat} (h : a < 2147483648) : (nI a < (3 : Int32)) = (a < 3) := propext (zz_nI_lt (b := 3) h (by decide))
theorem zz_ec3 {a : Nat} (h : a < 2147483648) : (nI a = (3 : Int32)) = (a = 3) := propext (zz_nI_eq (b := 3) h (by decide))
theorem zz_lc4 {a : Nat} (h : a < 2147483648) : ((4 : Int32) ≤ nI a) = (4 ≤ a) := propext (zz_nI_le (a := 4) (by decide) h)
theorem zz_cl4 {a : Nat} (h : a < 2147483648) : (nI a ≤ (4 : Int32)) = (a ≤ 4) := propext (zz_nI_le (b := 4) h (by decide))
theorem zz_tc4 {a : Nat} (h : a < 2147483648) : ((4 : Int32) < nI a) = (4 < a) := propext (zz_nI_lt (a := 4) (by decide) h)
theorem zz_ct4 {a : Nat} (h : a < 2147483648) : (nI a < (4 : Int32)) = (a < 4) := propext (zz_nI_lt (b := 4) h (by decide))
theorem zz_ec4 {a : Nat} (h : a < 2147483648) : (nI a = (4 : Int32)) = (a = 4) := propext (zz_nI_eq (b := 4) h (by decide))
theorem zz_lc5 {a : Nat} (h : a < 2147483648) : ((5 : Int32) ≤ nI a) = (5 ≤ a) := propext (zz_nI_le (a := 5) (by decide) h)
theorem zz_cl5 {a : Nat} (h : a < 2147483648) : (nI a ≤ (5 : Int32)) = (a ≤ 5) := propext (zz_nI_le (b := 5) h (by decide))
theorem zz_tc5 {a : Nat} (h : a < 2147483648) : ((5 : Int32) < nI a) = (5 < a) := propext (zz_nI_lt (a := 5) (by decide) h)
theorem zz_ct5 {a : Nat} (h : a < 2147483648) : (nI a < (5 : Int32)) = (a < 5) := propext (zz_nI_lt (b := 5) h (by decide))
theorem zz_ec5 {a : Nat} (h : a < 2147483648) : (nI a = (5 : Int32)) = (a = 5) := propext (zz_nI_eq (b := 5) h (by decide))
theorem zz_lc6 {a : Nat} (h : a < 2147483648) : ((6 : Int32) ≤ nI a) = (6 ≤ a) := propext (zz_nI_le (a := 6) (by decide) h)
theorem zz_cl6 {a : Nat} (h : a < 2147483648) : (nI a ≤ (6 : Int32)) = (a ≤ 6) := propext (zz_nI_le (b := 6) h (by decide))
theorem zz_tc6 {a : Nat} (h : a < 2147483648) : ((6 : Int32) < nI a) = (6 < a) := propext (zz_nI_lt (a := 6) (by decide) h)
theorem zz_ct6 {a : Nat} (h : a < 2147483648) : (nI a < (6 : Int32)) = (a < 6) := propext (zz_nI_lt (b := 6) h (by decide))
theorem zz_ec6 {a : Nat} (h : a < 2147483648) : (nI a = (6 : Int32)) = (a = 6) := propext (zz_nI_eq (b := 6) h (by decide))
theorem zz_lc7 {a : Nat} (h : a < 2147483648) : ((7 : Int32) ≤ nI a) = (7 ≤ a) := propext (zz_nI_le (a := 7) (by decide) h)
theorem zz_cl7 {a : Nat} (h : a < 2147483648) : (nI a ≤ (7 : Int32)) = (a ≤ 7) := propext (zz_nI_le (b := 7) h (by decide))
theorem zz_tc7 {a : Nat} (h : a < 2147483648) : ((7 : Int32) < nI a) = (7 < a) := propext (zz_nI_lt (a := 7) (by decide) h)
theorem zz_ct7 {a : Nat} (h : a < 2147483648) : (nI a < (7 : Int32)) = (a < 7) := propext (zz_nI_lt (b := 7) h (by decide))
theorem zz_ec7 {a : Nat} (h : a < 2147483648) : (nI a = (7 : Int32)) = (a = 7) := propext (zz_nI_eq (b := 7) h (by decide))
theorem zz_lc8 {a : Nat} (h : a < 2147483648) : ((8 : Int32) ≤ nI a) = (8 ≤ a) := propext (zz_nI_le (a := 8) (by decide) h)
theorem zz_cl8 {a : Nat} (h : a < 2147483648) : (nI a ≤ (8 : Int32)) = (a ≤ 8) := propext (zz_nI_le (b := 8) h (by decide))
theorem zz_tc8 {a : Nat} (h : a < 2147483648) : ((8 : Int32) < nI a) = (8 < a) := propext (zz_nI_lt (a := 8) (by decide) h)
theorem zz_ct8 {a : Nat} (h : a < 2147483648) : (nI a < (8 : Int32)) = (a < 8) := propext (zz_nI_lt (b := 8) h (by decide))
theorem zz_ec8 {a : Nat} (h : a < 2147483648) : (nI a = (8 : Int32)) = (a = 8) := propext (zz_nI_eq (b := 8) h (by decide))
theorem zz_lc9 {a : Nat} (h : a < 2147483648) : ((9 : Int32) ≤ nI a) = (9 ≤ a) := propext (zz_nI_le (a := 9) (by decide) h)
theorem zz_cl9 {a : Nat} (h : a < 2147483648) : (nI a ≤ (9 : Int32)) = (a ≤ 9) := propext (zz_nI_le (b := 9) h (by decide))
theorem zz_tc9 {a : Nat} (h : a < 2147483648) : ((9 : Int32) < nI a) = (9 < a) := propext (zz_nI_lt (a := 9) (by decide) h)
theorem zz_ct9 {a : Nat} (h : a < 2147483648) : (nI a < (9 : Int32)) = (a < 9) := propext (zz_nI_lt (b := 9) h (by decide))
theorem zz_ec9 {a : Nat} (h : a < 2147483648) : (nI a = (9 : Int32)) = (a = 9) := propext (zz_nI_eq (b := 9) h (by decide))
theorem zz_lc15 {a : Nat} (h : a < 2147483648) : ((15 : Int32) ≤ nI a) = (15 ≤ a) := propext (zz_nI_le (a := 15) (by decide) h)
theorem zz_cl15 {a : Nat} (h : a < 2147483648) : (nI a ≤ (15 : Int32)) = (a ≤ 15) := propext (zz_nI_le (b := 15) h (by decide))
theorem zz_tc15 {a : Nat} (h : a < 2147483648) : ((15 : Int32) < nI a) = (15 < a) := propext (zz_nI_lt (a := 15) (by decide) h)
theorem zz_ct15 {a : Nat} (h : a < 2147483648) : (nI a < (15 : Int32)) = (a < 15) := propext (zz_nI_lt (b := 15) h (by decide))
theorem zz_ec15 {a : Nat} (h : a < 2147483648) : (nI a = (15 : Int32)) = (a = 15) := propext (zz_nI_eq (b := 15) h (by decide))
theorem zz_lc16 {a : Nat} (h : a < 2147483648) : ((16 : Int32) ≤ nI a) = (16 ≤ a) := propext (zz_nI_le (a := 16) (by decide) h)
theorem zz_cl16 {a : Nat} (h : a < 2147483648) : (nI a ≤ (16 : Int32)) = (a ≤ 16) := propext (zz_nI_le (b := 16) h (by decide))
theorem zz_tc16 {a : Nat} (h : a < 2147483648) : ((16 : Int32) < nI a) = (16 < a) := propext (zz_nI_lt (a := 16) (by decide) h)
theorem zz_ct16 {a : Nat} (h : a < 2147483648) : (nI a < (16 : Int32)) = (a < 16) := propext (zz_nI_lt (b := 16) h (by decide))
theorem zz_ec16 {a : Nat} (h : a < 2147483648) : (nI a = (16 : Int32)) = (a = 16) := propext (zz_nI_eq (b := 16) h (by decide))
theorem zz_lc18 {a : Nat} (h : a < 2147483648) : ((18 : Int32) ≤ nI a) = (18 ≤ a) := propext (zz_nI_le (a := 18) (by decide) h)
theorem zz_cl18 {a : Nat} (h : a < 2147483648) : (nI a ≤ (18 : Int32)) = (a ≤ 18) := propext (zz_nI_le (b := 18) h (by decide))
theorem zz_tc18 {a : Nat} (h : a < 2147483648) : ((18 : Int32) < nI a) = (18 < a) := propext (zz_nI_lt (a := 18) (by decide) h)
theorem zz_ct18 {a : Nat} (h : a < 2147483648) : (nI a < (18 : Int32)) = (a < 18) := propext (zz_nI_lt (b := 18) h (by decide))
theorem zz_ec18 {a : Nat} (h : a < 2147483648) : (nI a = (18 : Int32)) = (a = 18) := propext (zz_nI_eq (b := 18) h (by decide))
theorem zz_lc19 {a : Nat} (h : a < 2147483648) : ((19 : Int32) ≤ nI a) = (19 ≤ a) := propext (zz_nI_le (a := 19) (by decide) h)
theorem zz_cl19 {a : Nat} (h : a < 2147483648) : (nI a ≤ (19 : Int32)) = (a ≤ 19) := propext (zz_nI_le (b := 19) h (by decide))
theorem zz_tc19 {a : Nat} (h : a < 2147483648) : ((19 : Int32) < nI a) = (19 < a) := propext (zz_nI_lt (a := 19) (by decide) h)
theorem zz_ct19 {a : Nat} (h : a < 2147483648) : (nI a < (19 : Int32)) = (a < 19) := propext (zz_nI_lt (b := 19) h (by decide))
theorem zz_ec19 {a : Nat} (h : a < 2147483648) : (nI a = (19 : Int32)) = (a = 19) := propext (zz_nI_eq (b := 19) h (by decide))
theorem zz_lc20 {a : Nat} (h : a < 2147483648) : ((20 : Int32) ≤ nI a) = (20 ≤ a) := propext (zz_nI_le (a := 20) (by decide) h)
theorem zz_cl20 {a : Nat} (h : a < 2147483648) : (nI a ≤ (20 : Int32)) = (a ≤ 20) := propext (zz_nI_le (b := 20) h (by decide))
theorem zz_tc20 {a : Nat} (h : a < 2147483648) : ((20 : Int32) < nI a) = (20 < a) := propext (zz_nI_lt (a := 20) (by decide) h)
theorem zz_ct20 {a : Nat} (h : a < 2147483648) : (nI a < (20 : Int32)) = (a < 20) := propext (zz_nI_lt (b := 20) h (by decide))
theorem zz_ec20 {a : Nat} (h : a < 2147483648) : (nI a = (20 : Int32)) = (a = 20) := propext (zz_nI_eq (b := 20) h (by decide))
theorem zz_lc36 {a : Nat} (h : a < 2147483648) : ((36 : Int32) ≤ nI a) = (36 ≤ a) := propext (zz_nI_le (a := 36) (by decide) h)
theorem zz_cl36 {a : Nat} (h : a < 2147483648) : (nI a ≤ (36 : Int32)) = (a ≤ 36) := propext (zz_nI_le (b := 36) h (by decide))
theorem zz_tc36 {a : Nat} (h : a < 2147483648) : ((36 : Int32) < nI a) = (36 < a) := propext (zz_nI_lt (a := 36) (by decide) h)
theorem zz_ct36 {a : Nat} (h : a < 2147483648) : (nI a < (36 : Int32)) = (a < 36) := propext (zz_nI_lt (b := 36) h (by decide))
theorem zz_ec36 {a : Nat} (h : a < 2147483648) : (nI a = (36 : Int32)) = (a = 36) := propext (zz_nI_eq (b := 36) h (by decide))
theorem zz_lc54 {a : Nat} (h : a < 2147483648) : ((54 : Int32) ≤ nI a) = (54 ≤ a) := propext (zz_nI_le (a := 54) (by decide) h)
theorem zz_cl54 {a : Nat} (h : a < 2147483648) : (nI a ≤ (54 : Int32)) = (a ≤ 54) := propext (zz_nI_le (b := 54) h (by decide))
theorem zz_tc54 {a : Nat} (h : a < 2147483648) : ((54 : Int32) < nI a) = (54 < a) := propext (zz_nI_lt (a := 54) (by decide) h)
theorem zz_ct54 {a : Nat} (h : a < 2147483648) : (nI a < (54 : Int32)) = (a < 54) := propext (zz_nI_lt (b := 54) h (by decide))
theorem zz_ec54 {a : Nat} (h : a < 2147483648) : (nI a = (54 : Int32)) = (a = 54) := propext (zz_nI_eq (b := 54) h (by decide))
theorem zz_lc72 {a : Nat} (h : a < 2147483648) : ((72 : Int32) ≤ nI a) = (72 ≤ a) := propext (zz_nI_le (a := 72) (by decide) h)
theorem zz_cl72 {a : Nat} (h : a < 2147483648) : (nI a ≤ (72 : Int32)) = (a ≤ 72) := propext (zz_nI_le (b := 72) h (by decide))
theorem zz_tc72 {a : Nat} (h : a < 2147483648) : ((72 : Int32) < nI a) = (72 < a) := propext (zz_nI_lt (a := 72) (by decide) h)
theorem zz_ct72 {a : Nat} (h : a < 2147483648) : (nI a < (72 : Int32)) = (a < 72) := propext (zz_nI_lt (b := 72) h (by decide))
theorem zz_ec72 {a : Nat} (h : a < 2147483648) : (nI a = (72 : Int32)) = (a = 72) := propext (zz_nI_eq (b := 72) h (by decide))
theorem zz_lc100 {a : Nat} (h : a < 2147483648) : ((100 : Int32) ≤ nI a) = (100 ≤ a) := propext (zz_nI_le (a := 100) (by decide) h)
theorem zz_cl100 {a : Nat} (h : a < 2147483648) : (nI a ≤ (100 : Int32)) = (a ≤ 100) := propext (zz_nI_le (b := 100) h (by decide))
theorem zz_tc100 {a : Nat} (h : a < 2147483648) : ((100 : Int32) < nI a) = (100 < a) := propext (zz_nI_lt (a := 100) (by decide) h)
theorem zz_ct100 {a : Nat} (h : a < 2147483648) : (nI a < (100 : Int32)) = (a < 100) := propext (zz_nI_lt (b := 100) h (by decide))
theorem zz_ec100 {a : Nat} (h : a < 2147483648) : (nI a = (100 : Int32)) = (a = 100) := propext (zz_nI_eq (b := 100) h (by decide))
theorem zz_lc126 {a : Nat} (h : a < 2147483648) : ((126 : Int32) ≤ nI a) = (126 ≤ a) := propext (zz_nI_le (a := 126) (by decide) h)
theorem zz_cl126 {a : Nat} (h : a < 2147483648) : (nI a ≤ (126 : Int32)) = (a ≤ 126) := propext (zz_nI_le (b := 126) h (by decide))
theorem zz_tc126 {a : Nat} (h : a < 2147483648) : ((126 : Int32) < nI a) = (126 < a) := propext (zz_nI_lt (a := 126) (by decide) h)
theorem zz_ct126 {a : Nat} (h : a < 2147483648) : (nI a < (126 : Int32)) = (a < 126) := propext (zz_nI_lt (b := 126) h (by decide))
theorem zz_ec126 {a : Nat} (h : a < 2147483648) : (nI a = (126 : Int32)) = (a = 126) := propext (zz_nI_eq (b := 126) h (by decide))
theorem zz_lc144 {a : Nat} (h : a < 2147483648) : ((144 : Int32) ≤ nI a) = (144 ≤ a) := propext (zz_nI_le (a := 144) (by decide) h)
theorem zz_cl144 {a : Nat} (h : a < 2147483648) : (nI a ≤ (144 : Int32)) = (a ≤ 144) := propext (zz_nI_le (b := 144) h (by decide))
theorem zz_tc144 {a : Nat} (h : a < 2147483648) : ((144 : Int32) < nI a) = (144 < a) := propext (zz_nI_lt (a := 144) (by decide) h)
theorem zz_ct144 {a : Nat} (h : a < 2147483648) : (nI a < (144 : Int32)) = (a < 144) := propext (zz_nI_lt (b := 144) h (by decide))
theorem zz_ec144 {a : Nat} (h : a < 2147483648) : (nI a = (144 : Int32)) = (a = 144) := propext (zz_nI_eq (b := 144) h (by decide))
theorem zz_lc146 {a : Nat} (h : a < 2147483648) : ((146 : Int32) ≤ nI a) = (146 ≤ a) := propext (zz_nI_le (a := 146) (by decide) h)
theorem zz_cl146 {a : Nat} (h : a < 2147483648) : (nI a ≤ (146 : Int32)) = (a ≤ 146) := propext (zz_nI_le (b := 146) h (by decide))
theorem zz_tc146 {a : Nat} (h : a < 2147483648) : ((146 : Int32) < nI a) = (146 < a) := propext (zz_nI_lt (a := 146) (by decide) h)
theorem zz_ct146 {a : Nat} (h : a < 2147483648) : (nI a < (146 : Int32)) = (a < 146) := propext (zz_nI_lt (b := 146) h (by decide))
theorem zz_ec146 {a : Nat} (h : a < 2147483648) : (nI a = (146 : Int32)) = (a = 146) := propext (zz_nI_eq (b := 146) h (by decide))
theorem zz_lc151 {a : Nat} (h : a < 2147483648) : ((151 : Int32) ≤ nI a) = (151 ≤ a) := propext (zz_nI_le (a := 151) (by decide) h)
theorem zz_cl151 {a : Nat} (h : a < 2147483648) : (nI a ≤ (151 : Int32)) = (a ≤ 151) := propext (zz_nI_le (b := 151) h (by decide))
theorem zz_tc151 {a : Nat} (h : a < 2147483648) : ((151 : Int32) < nI a) = (151 < a) := propext (zz_nI_lt (a := 151) (by decide) h)
theorem zz_ct151 {a : Nat} (h : a < 2147483648) : (nI a < (151 : Int32)) = (a < 151) := propext (zz_nI_lt (b := 151) h (by decide))
theorem zz_ec151 {a : Nat} (h : a < 2147483648) : (nI a = (151 : Int32)) = (a = 151) := propext (zz_nI_eq (b := 151) h (by decide))
theorem zz_lc162 {a : Nat} (h : a < 2147483648) : ((162 : Int32) ≤ nI a) = (162 ≤ a) := propext (zz_nI_le (a := 162) (by decide) h)
theorem zz_cl162 {a : Nat} (h : a < 2147483648) : (nI a ≤ (162 : Int32)) = (a ≤ 162) := propext (zz_nI_le (b := 162) h (by decide))
theorem zz_tc162 {a : Nat} (h : a < 2147483648) : ((162 : Int32) < nI a) = (162 < a) := propext (zz_nI_lt (a := 162) (by decide) h)
theorem zz_ct162 {a : Nat} (h : a < 2147483648) : (nI a < (162 : Int32)) = (a < 162) := propext (zz_nI_lt (b := 162) h (by decide))
theorem zz_ec162 {a : Nat} (h : a < 2147483648) : (nI a = (162 : Int32)) = (a = 162) := propext (zz_nI_eq (b := 162) h (by decide))
theorem zz_lc171 {a : Nat} (h : a < 2147483648) : ((171 : Int32) ≤ nI a) = (171 ≤ a) := propext (zz_nI_le (a := 171) (by decide) h)
theorem zz_cl171 {a : Nat} (h : a < 2147483648) : (nI a ≤ (171 : Int32)) = (a ≤ 171) := propext (zz_nI_le (b := 171) h (by decide))
theorem zz_tc171 {a : Nat} (h : a < 2147483648) : ((171 : Int32) < nI a) = (171 < a) := propext (zz_nI_lt (a := 171) (by decide) h)
theorem zz_ct171 {a : Nat} (h : a < 2147483648) : (nI a < (171 : Int32)) = (a < 171) := propext (zz_nI_lt (b := 171) h (by decide))
theorem zz_ec171 {a : Nat} (h : a < 2147483648) : (nI a = (171 : Int32)) = (a = 171) := propext (zz_nI_eq (b := 171) h (by decide))
theorem zz_lc176 {a : Nat} (h : a < 2147483648) : ((176 : Int32) ≤ nI a) = (176 ≤ a) := propext (zz_nI_le (a := 176) (by decide) h)
theorem zz_cl176 {a : Nat} (h : a < 2147483648) : (nI a ≤ (176 : Int32)) = (a ≤ 176) := propext (zz_nI_le (b := 176) h (by decide))
theorem zz_tc176 {a : Nat} (h : a < 2147483648) : ((176 : Int32) < nI a) = (176 < a) := propext (zz_nI_lt (a := 176) (by decide) h)
theorem zz_ct176 {a : Nat} (h : a < 2147483648) : (nI a < (176 : Int32)) = (a < 176) := propext (zz_nI_lt (b := 176) h (by decide))
theorem zz_ec176 {a : Nat} (h : a < 2147483648) : (nI a = (176 : Int32)) = (a = 176) := propext (zz_nI_eq (b := 176) h (by decide))
theorem zz_scan_map {α β : Type} (f : α → β) {c : Nat → Bool} {r : Nat → α} {x : α} : ∀ (n k : Nat), zz_scan c (fun i => f (r i)) (f x) n k = f (zz_scan c r x n k)
  | 0, k => rfl
  | n + 1, k => by
    show (if c k = true then f (r k) else zz_scan c (fun i => f (r i)) (f x) n (k + 1)) = f (if c k = true then r k else zz_scan c r x n (k + 1))
    rw [zz_scan_map f n (k + 1)]
    split <;> rfl
def zz_wh {α γ : Type} (c : Nat → α → Bool) (r : Nat → α → γ) (f : Nat → α → α) (e : α → γ) : Nat → Nat → α → γ
  | 0, _, a => e a
  | n + 1, k, a => if c k a = true then r k a else zz_wh c r f e n (k + 1) (f k a)
theorem zz_wh_aux {α β γ : Type} {F : β → γ} {S : Nat → α → β} {c : Nat → α → Bool} {r : Nat → α → γ} {f : Nat → α → α} {N : Nat} (hstep : ∀ k a, k < N → F (S k a) = if c k a = true then r k a else F (S (k + 1) (f k a))) :
    ∀ (n k : Nat) (a : α), k + n = N → F (S k a) = zz_wh c r f (fun a => F (S N a)) n k a
  | 0, k, a, hk => by
    have : k = N := by omega
    subst this
    rfl
  | n + 1, k, a, hk => by
    rw [hstep k a (by omega), zz_wh_aux hstep n (k + 1) (f k a) (by omega)]
    rfl
theorem zz_wh_loop {α β γ : Type} {F : β → γ} {S : Nat → α → β} {c : Nat → α → Bool} {r : Nat → α → γ} {f : Nat → α → α} {N : Nat} {a : α} (hstep : ∀ k a, k < N → F (S k a) = if c k a = true then r k a else F (S (k + 1) (f k a))) : F (S 0 a) = zz_wh c r f (fun a => F (S N a)) N 0 a :=
  zz_wh_aux hstep N 0 a (by omega)
theorem zz_wh_map {α β γ : Type} (g : γ → β) {c : Nat → α → Bool} {r : Nat → α → γ} {f : Nat → α → α} {e : α → γ} : ∀ (n k : Nat) (a : α), zz_wh c (fun k a => g (r k a)) f (fun a => g (e a)) n k a = g (zz_wh c r f e n k a)
  | 0, k, a => rfl
  | n + 1, k, a => by
    show (if c k a = true then g (r k a) else zz_wh c (fun k a => g (r k a)) f (fun a => g (e a)) n (k + 1) (f k a)) = g (if c k a = true then r k a else zz_wh c r f e n (k + 1) (f k a))
    rw [zz_wh_map g n (k + 1)]
    split <;> rfl
theorem zz_ofN (a : Nat) : Int32.ofNat a = nI a := rfl
theorem zz_wh_any {α γ : Type} {c : Nat → Bool} {y x : γ} {f : Nat → α → α} {e : α → γ} (he : ∀ a, e a = x) : ∀ {n k : Nat} {a : α}, zz_wh (fun k _ => c k) (fun _ _ => y) f e n k a = if zz_any c n k = true then y else x
  | 0, k, a => he a
  | n + 1, k, a => by
    show (if c k = true then y else zz_wh (fun k _ => c k) (fun _ _ => y) f e n (k + 1) (f k a)) = if (c k || zz_any c n (k + 1)) = true then y else x
    rw [zz_wh_any he]
    cases c k <;> simp
