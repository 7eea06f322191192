/-! Literals and sums of ints. -/
theorem l32_m8 : (-8 : Int32).toInt = -8 := rfl
theorem l32_m5 : (-5 : Int32).toInt = -5 := rfl
theorem l32_m2 : (-2 : Int32).toInt = -2 := rfl
theorem l32_m1 : (-1 : Int32).toInt = -1 := rfl
theorem l32_0 : (0 : Int32).toInt = 0 := rfl
theorem l32_1 : (1 : Int32).toInt = 1 := rfl
theorem l32_2 : (2 : Int32).toInt = 2 := rfl
theorem l32_3 : (3 : Int32).toInt = 3 := rfl
theorem l32_4 : (4 : Int32).toInt = 4 := rfl
theorem l32_5 : (5 : Int32).toInt = 5 := rfl
theorem l32_6 : (6 : Int32).toInt = 6 := rfl
theorem l32_7 : (7 : Int32).toInt = 7 := rfl
theorem l32_8 : (8 : Int32).toInt = 8 := rfl
theorem l32_9 : (9 : Int32).toInt = 9 := rfl
theorem l32_10 : (10 : Int32).toInt = 10 := rfl
theorem l32_11 : (11 : Int32).toInt = 11 := rfl
theorem l32_12 : (12 : Int32).toInt = 12 := rfl
theorem l32_14 : (14 : Int32).toInt = 14 := rfl
theorem l32_15 : (15 : Int32).toInt = 15 := rfl
theorem l32_16 : (16 : Int32).toInt = 16 := rfl
theorem l32_18 : (18 : Int32).toInt = 18 := rfl
theorem l32_20 : (20 : Int32).toInt = 20 := rfl
theorem l32_25 : (25 : Int32).toInt = 25 := rfl
theorem l32_28 : (28 : Int32).toInt = 28 := rfl
theorem l32_30 : (30 : Int32).toInt = 30 := rfl
theorem l32_32 : (32 : Int32).toInt = 32 := rfl
theorem l32_33 : (33 : Int32).toInt = 33 := rfl
theorem l32_36 : (36 : Int32).toInt = 36 := rfl
theorem l32_37 : (37 : Int32).toInt = 37 := rfl
theorem l32_40 : (40 : Int32).toInt = 40 := rfl
theorem l32_41 : (41 : Int32).toInt = 41 := rfl
theorem l32_42 : (42 : Int32).toInt = 42 := rfl
theorem l32_43 : (43 : Int32).toInt = 43 := rfl
theorem l32_45 : (45 : Int32).toInt = 45 := rfl
theorem l32_47 : (47 : Int32).toInt = 47 := rfl
theorem l32_48 : (48 : Int32).toInt = 48 := rfl
theorem l32_50 : (50 : Int32).toInt = 50 := rfl
theorem l32_56 : (56 : Int32).toInt = 56 := rfl
theorem l32_57 : (57 : Int32).toInt = 57 := rfl
theorem l32_59 : (59 : Int32).toInt = 59 := rfl
theorem l32_60 : (60 : Int32).toInt = 60 := rfl
theorem l32_61 : (61 : Int32).toInt = 61 := rfl
theorem l32_65 : (65 : Int32).toInt = 65 := rfl
theorem l32_66 : (66 : Int32).toInt = 66 := rfl
theorem l32_80 : (80 : Int32).toInt = 80 := rfl
theorem l32_90 : (90 : Int32).toInt = 90 := rfl
theorem l32_91 : (91 : Int32).toInt = 91 := rfl
theorem l32_93 : (93 : Int32).toInt = 93 := rfl
theorem l32_97 : (97 : Int32).toInt = 97 := rfl
theorem l32_100 : (100 : Int32).toInt = 100 := rfl
theorem l32_101 : (101 : Int32).toInt = 101 := rfl
theorem l32_102 : (102 : Int32).toInt = 102 := rfl
theorem l32_104 : (104 : Int32).toInt = 104 := rfl
theorem l32_105 : (105 : Int32).toInt = 105 := rfl
theorem l32_108 : (108 : Int32).toInt = 108 := rfl
theorem l32_110 : (110 : Int32).toInt = 110 := rfl
theorem l32_115 : (115 : Int32).toInt = 115 := rfl
theorem l32_119 : (119 : Int32).toInt = 119 := rfl
theorem l32_122 : (122 : Int32).toInt = 122 := rfl
theorem l32_123 : (123 : Int32).toInt = 123 := rfl
theorem l32_125 : (125 : Int32).toInt = 125 := rfl
theorem l32_126 : (126 : Int32).toInt = 126 := rfl
theorem l32_200 : (200 : Int32).toInt = 200 := rfl
theorem l32_220 : (220 : Int32).toInt = 220 := rfl
theorem l32_224 : (224 : Int32).toInt = 224 := rfl
theorem l32_225 : (225 : Int32).toInt = 225 := rfl
theorem l32_226 : (226 : Int32).toInt = 226 := rfl
theorem l32_255 : (255 : Int32).toInt = 255 := rfl
theorem l32_256 : (256 : Int32).toInt = 256 := rfl
theorem l32_257 : (257 : Int32).toInt = 257 := rfl
theorem l32_258 : (258 : Int32).toInt = 258 := rfl
theorem l32_259 : (259 : Int32).toInt = 259 := rfl
theorem l32_290 : (290 : Int32).toInt = 290 := rfl
theorem l32_359 : (359 : Int32).toInt = 359 := rfl
theorem l32_500 : (500 : Int32).toInt = 500 := rfl
theorem l32_1000 : (1000 : Int32).toInt = 1000 := rfl
theorem l32_1001 : (1001 : Int32).toInt = 1001 := rfl
theorem l32_1002 : (1002 : Int32).toInt = 1002 := rfl
theorem l32_1024 : (1024 : Int32).toInt = 1024 := rfl
theorem l32_1200 : (1200 : Int32).toInt = 1200 := rfl
theorem i32addc {a b : Int32} (h : -2147483648 ≤ a.toInt + b.toInt ∧ a.toInt + b.toInt ≤ 2147483647) : (a + b).toInt = a.toInt + b.toInt := by
  rw [i32add]; omega
theorem i32subc {a b : Int32} (h : -2147483648 ≤ a.toInt - b.toInt ∧ a.toInt - b.toInt ≤ 2147483647) : (a - b).toInt = a.toInt - b.toInt := by
  rw [i32sub]; omega
theorem m32_3 {x : Int32} (h : 0 ≤ x.toInt ∧ x.toInt ≤ 1000000) : ((3 : Int32) * x).toInt = 3 * x.toInt := by
  have e : (3 : Int32).toInt = 3 := rfl
  rw [i32mul, e]
  have q : 0 ≤ 3 * x.toInt ∧ 3 * x.toInt ≤ 220000000 := by omega
  generalize 3 * x.toInt = y at q
  omega
theorem m32_4 {x : Int32} (h : 0 ≤ x.toInt ∧ x.toInt ≤ 1000000) : ((4 : Int32) * x).toInt = 4 * x.toInt := by
  have e : (4 : Int32).toInt = 4 := rfl
  rw [i32mul, e]
  have q : 0 ≤ 4 * x.toInt ∧ 4 * x.toInt ≤ 220000000 := by omega
  generalize 4 * x.toInt = y at q
  omega
theorem m32_6 {x : Int32} (h : 0 ≤ x.toInt ∧ x.toInt ≤ 1000000) : ((6 : Int32) * x).toInt = 6 * x.toInt := by
  have e : (6 : Int32).toInt = 6 := rfl
  rw [i32mul, e]
  have q : 0 ≤ 6 * x.toInt ∧ 6 * x.toInt ≤ 220000000 := by omega
  generalize 6 * x.toInt = y at q
  omega
theorem m32_14 {x : Int32} (h : 0 ≤ x.toInt ∧ x.toInt ≤ 1000000) : ((14 : Int32) * x).toInt = 14 * x.toInt := by
  have e : (14 : Int32).toInt = 14 := rfl
  rw [i32mul, e]
  have q : 0 ≤ 14 * x.toInt ∧ 14 * x.toInt ≤ 220000000 := by omega
  generalize 14 * x.toInt = y at q
  omega
theorem m32_80 {x : Int32} (h : 0 ≤ x.toInt ∧ x.toInt ≤ 1000000) : ((80 : Int32) * x).toInt = 80 * x.toInt := by
  have e : (80 : Int32).toInt = 80 := rfl
  rw [i32mul, e]
  have q : 0 ≤ 80 * x.toInt ∧ 80 * x.toInt ≤ 220000000 := by omega
  generalize 80 * x.toInt = y at q
  omega
theorem m32_200 {x : Int32} (h : 0 ≤ x.toInt ∧ x.toInt ≤ 1000000) : ((200 : Int32) * x).toInt = 200 * x.toInt := by
  have e : (200 : Int32).toInt = 200 := rfl
  rw [i32mul, e]
  have q : 0 ≤ 200 * x.toInt ∧ 200 * x.toInt ≤ 220000000 := by omega
  generalize 200 * x.toInt = y at q
  omega
theorem m32_220 {x : Int32} (h : 0 ≤ x.toInt ∧ x.toInt ≤ 1000000) : ((220 : Int32) * x).toInt = 220 * x.toInt := by
  have e : (220 : Int32).toInt = 220 := rfl
  rw [i32mul, e]
  have q : 0 ≤ 220 * x.toInt ∧ 220 * x.toInt ≤ 220000000 := by omega
  generalize 220 * x.toInt = y at q
  omega
