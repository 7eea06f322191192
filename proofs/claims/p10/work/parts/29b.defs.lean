/-! The functions of the program (wip/gen/split.py). -/
def f_a_clear (a0 : Nat) (w : WW) : Option (Int32 × WW) :=
  if kb w a0 0 = true then
    (gN w a0 0 3).bind fun x1 =>
    (gI w x1 1 4).bind fun x2 =>
    (gN w a0 0 3).bind fun x3 =>
    (pv w x3 1 4 (.int (0 : Int32))).bind fun w4 =>
    some (x2, w4)
  else none
def f_a_where (a0 : Nat) (w : WW) : Option (Int32 × WW) :=
  if kb w a0 0 = true then
    (gN w a0 0 2).bind fun x1 =>
    (gI w x1 2 3).bind fun x2 =>
    some (x2, w)
  else none
def f_a_forget (a0 : Nat) (w : WW) : Option (Int32 × WW) :=
  if kb w a0 0 = true then
    (gN w a0 0 7).bind fun x1 =>
    (gI w x1 5 5).bind fun x2 =>
    (gN w a0 0 7).bind fun x3 =>
    (pv w x3 5 5 (.int (0 : Int32))).bind fun w4 =>
    some (x2, w4)
  else none
def f_a_byteAt (a0 : Int64) (a2 : Int32) (w : WW) : Option (Int32 × WW) :=
  some (((Int64.toInt32 ((Int64.toUInt64 a0 >>> ((Int32.toInt64 a2).toUInt64 &&& Int64.toUInt64 63)).toInt64)) &&& (255 : Int32)), w)
def f_a_isCharacter_23  (z0 : Int32) (w : WW) : Option (Int32 × WW) :=
  if z0 = 0 ∨ z0 = 1 then some (z0, w) else none
def f_a_isCharacter_18   (w : WW) : Option (Int32 × WW) :=
  f_a_isCharacter_23 (1 : Int32) w
def f_a_isCharacter_22   (w : WW) : Option (Int32 × WW) :=
  f_a_isCharacter_23 (0 : Int32) w
def f_a_isCharacter (a0 : Int32) (w : WW) : Option (Int32 × WW) :=
  if a0 = (10 : Int32) then
    f_a_isCharacter_18 w
  else
    if a0 < (32 : Int32) then
      f_a_isCharacter_22 w
    else
      if (126 : Int32) < a0 then
        f_a_isCharacter_22 w
      else
        f_a_isCharacter_18 w
def f_rd_append_30   (w : WW) : Option WW :=
  some w
def f_rd_append (a0 : Nat) (a1 : Int32) (w : WW) : Option WW :=
  if kb w a0 1 = true then
    (gI w a0 1 4).bind fun x1 =>
    if (200 : Int32) ≤ x1 then
      f_rd_append_30 w
    else
      (gN w a0 1 0).bind fun x3 =>
      (gI w a0 1 4).bind fun x4 =>
      (sI w x3 3 x4 (vp_nar .char a1)).bind fun w5 =>
      (gI w5 a0 1 4).bind fun x6 =>
      (pv w5 a0 1 4 (.int (x6 + (1 : Int32)))).bind fun w7 =>
      f_rd_append_30 w7
  else none
def f_a_text_114 (k_86 : Nat → Int64 → Int32 → WW → Option ((Int32 ⊕ String) × WW)) (y0 : Nat) (y1 : Int64) (y4 : Int32) (w : WW) : Option ((Int32 ⊕ String) × WW) :=
  k_86 y0 y1 (y4 + (-8 : Int32)) w
def f_a_text_86  : Nat → Nat → Int64 → Int32 → WW → Option ((Int32 ⊕ String) × WW)
  | 0, _, _, _, _ => none
  | n + 1, y0, y1, y4, w =>
    if y4 < 0 then
      (gN w y0 0 3).bind fun x6 =>
      (gI w x6 1 4).bind fun x7 =>
      some (.inl x7, w)
    else
      bd2 (f_a_byteAt y1 y4 w) fun x9 w8 =>
      if x9 = 0 then
        f_a_text_114 (f_a_text_86 n) y0 y1 y4 w8
      else
        (gN w8 y0 0 3).bind fun x11 =>
        (f_rd_append x11 ((Int32.toUInt32 x9 % 65536).toInt32) w8).bind fun w12 =>
        f_a_text_114 (f_a_text_86 n) y0 y1 y4 w12
def f_a_text_51 (k_6 : Nat → Int64 → Int32 → Int32 → WW → Option ((Int32 ⊕ String) × WW)) (y0 : Nat) (y1 : Int64) (y4 : Int32) (z0 : Int32) (z1 : Int32) (w : WW) : Option ((Int32 ⊕ String) × WW) :=
  k_6 y0 y1 (z0 + z1) (y4 + (-8 : Int32)) w
def f_a_text_40 (k_6 : Nat → Int64 → Int32 → Int32 → WW → Option ((Int32 ⊕ String) × WW)) (y0 : Nat) (y1 : Int64) (y3 : Int32) (y4 : Int32) (y5 : Int32) (w : WW) : Option ((Int32 ⊕ String) × WW) :=
  if y5 = 0 then
    f_a_text_51 k_6 y0 y1 y4 y3 (0 : Int32) w
  else
    f_a_text_51 k_6 y0 y1 y4 y3 (1 : Int32) w
def f_a_text_6  : Nat → Nat → Int64 → Int32 → Int32 → WW → Option ((Int32 ⊕ String) × WW)
  | 0, _, _, _, _, _ => none
  | n + 1, y0, y1, y3, y4, w =>
    if y4 < 0 then
      (gN w y0 0 3).bind fun x2 =>
      (gI w x2 1 4).bind fun x3 =>
      if (x3 + y3) ≤ (200 : Int32) then
        f_a_text_86 KK y0 y1 (56 : Int32) w
      else
        some (.inr "java/lang/IllegalStateException", w)
    else
      bd2 (f_a_byteAt y1 y4 w) fun x14 w13 =>
      if x14 = 0 then
        f_a_text_40 (f_a_text_6 n) y0 y1 y3 y4 x14 w13
      else
        bd2 (f_a_isCharacter x14 w13) fun x18 w17 =>
        if x18 = 0 then
          some (.inr "java/lang/IllegalArgumentException", w17)
        else
          f_a_text_40 (f_a_text_6 n) y0 y1 y3 y4 x14 w17
def f_a_text (a0 : Nat) (a1 : Int64) (w : WW) : Option ((Int32 ⊕ String) × WW) :=
  if kb w a0 0 = true then
    f_a_text_6 KK a0 a1 (0 : Int32) (56 : Int32) w
  else none
def f_pg_empty (a0 : Nat) (w : WW) : Option WW :=
  if kb w a0 3 = true then
    (pv w a0 3 1 (.int (0 : Int32))).bind fun w1 =>
    (pv w1 a0 3 5 (.int (0 : Int32))).bind fun w2 =>
    some w2
  else none
def f_rd_isDigit_17  (z0 : Int32) (w : WW) : Option (Int32 × WW) :=
  if z0 = 0 ∨ z0 = 1 then some (z0, w) else none
def f_rd_isDigit_16   (w : WW) : Option (Int32 × WW) :=
  f_rd_isDigit_17 (0 : Int32) w
def f_rd_isDigit (a0 : Int32) (w : WW) : Option (Int32 × WW) :=
  if a0 < (48 : Int32) then
    f_rd_isDigit_16 w
  else
    if (57 : Int32) < a0 then
      f_rd_isDigit_16 w
    else
      f_rd_isDigit_17 (1 : Int32) w
def f_rd_readNumeral_82   (w : WW) : Option WW :=
  some w
def f_rd_readNumeral_5  : Nat → Nat → WW → Option WW
  | 0, _, _ => none
  | n + 1, y0, w =>
    (gI w y0 1 5).bind fun x2 =>
    (gI w y0 1 4).bind fun x3 =>
    if x3 ≤ x2 then
      f_rd_readNumeral_82 w
    else
      (gI w y0 1 5).bind fun x5 =>
      (gI w y0 1 7).bind fun x6 =>
      if (x6 + (9 : Int32)) ≤ x5 then
        f_rd_readNumeral_82 w
      else
        (gN w y0 1 0).bind fun x8 =>
        (gI w y0 1 5).bind fun x9 =>
        (rI w x8 3 x9).bind fun x10 =>
        bd2 (f_rd_isDigit x10 w) fun x12 w11 =>
        if x12 = 0 then
          f_rd_readNumeral_82 w11
        else
          (gI w11 y0 1 8).bind fun x14 =>
          (gN w11 y0 1 0).bind fun x15 =>
          (gI w11 y0 1 5).bind fun x16 =>
          (rI w11 x15 3 x16).bind fun x17 =>
          (pv w11 y0 1 8 (.int ((x14 * (10 : Int32)) + (x17 - (48 : Int32))))).bind fun w18 =>
          (gI w18 y0 1 5).bind fun x19 =>
          (pv w18 y0 1 5 (.int (x19 + (1 : Int32)))).bind fun w20 =>
          f_rd_readNumeral_5 n y0 w20
def f_rd_readNumeral (a0 : Nat) (w : WW) : Option WW :=
  if kb w a0 1 = true then
    (pv w a0 1 6 (.int (1 : Int32))).bind fun w1 =>
    f_rd_readNumeral_5 KK a0 w1
  else none
def f_rd_isLetter_29  (z0 : Int32) (w : WW) : Option (Int32 × WW) :=
  if z0 = 0 ∨ z0 = 1 then some (z0, w) else none
def f_rd_isLetter_28   (w : WW) : Option (Int32 × WW) :=
  f_rd_isLetter_29 (0 : Int32) w
def f_rd_isLetter_24   (w : WW) : Option (Int32 × WW) :=
  f_rd_isLetter_29 (1 : Int32) w
def f_rd_isLetter_12  (y0 : Int32) (w : WW) : Option (Int32 × WW) :=
  if y0 < (65 : Int32) then
    f_rd_isLetter_28 w
  else
    if (90 : Int32) < y0 then
      f_rd_isLetter_28 w
    else
      f_rd_isLetter_24 w
def f_rd_isLetter (a0 : Int32) (w : WW) : Option (Int32 × WW) :=
  if a0 < (97 : Int32) then
    f_rd_isLetter_12 a0 w
  else
    if a0 ≤ (122 : Int32) then
      f_rd_isLetter_24 w
    else
      f_rd_isLetter_12 a0 w
def f_js_coder_14  (z0 : Int32) (w : WW) : Option (Int32 × WW) :=
  if narrow .byte (.int z0) = .int z0 then some (z0, w) else none
def f_js_coder (a0 : Nat) (w : WW) : Option (Int32 × WW) :=
  if a0 < 6 then
    if (1 : Int32) = 0 then
      f_js_coder_14 (1 : Int32) w
    else
      if a0 < 6 then
        f_js_coder_14 (0 : Int32) w
      else none
  else none
def f_js_length (a0 : Nat) (w : WW) : Option (Int32 × WW) :=
  if a0 < 6 then
    if a0 < 6 then
      if a0 < 6 then
        bd2 (f_js_coder a0 w) fun x4 w3 =>
        some (((Int32.ofNat (sLn.getD a0 0)) >>> (x4 &&& 31)), w3)
      else none
    else none
  else none
def f_js_isLatin1_18  (z0 : Int32) (w : WW) : Option (Int32 × WW) :=
  if z0 = 0 ∨ z0 = 1 then some (z0, w) else none
def f_js_isLatin1_17   (w : WW) : Option (Int32 × WW) :=
  f_js_isLatin1_18 (0 : Int32) w
def f_js_isLatin1 (a0 : Nat) (w : WW) : Option (Int32 × WW) :=
  if a0 < 6 then
    if (1 : Int32) = 0 then
      f_js_isLatin1_17 w
    else
      if a0 < 6 then
        if (0 : Int32) = 0 then
          f_js_isLatin1_18 (1 : Int32) w
        else
          f_js_isLatin1_17 w
      else none
  else none
def f_js_checkIndex (a0 : Int32) (a1 : Int32) (w : WW) : Option WW := if ¬ a0 < 0 ∧ a0 < a1 then some w else none
def f_jl_charAt (a0 : Nat) (a1 : Int32) (w : WW) : Option (Int32 × WW) :=
  if a0 < 6 then
    (f_js_checkIndex a1 (Int32.ofNat (sLn.getD a0 0)) w).bind fun w2 =>
    if a0 < 6 then
      (tbS a0 a1).bind fun x4 =>
      if narrow .char (.int ((Int32.toUInt32 (x4 &&& (255 : Int32)) % 65536).toInt32)) = .int ((Int32.toUInt32 (x4 &&& (255 : Int32)) % 65536).toInt32) then some (((Int32.toUInt32 (x4 &&& (255 : Int32)) % 65536).toInt32), w2) else none
    else none
  else none
def f_ju_charAt (a0 : Nat) (a1 : Int32) (w : WW) : Option (Int32 × WW) := none
def f_js_charAt (a0 : Nat) (a1 : Int32) (w : WW) : Option (Int32 × WW) :=
  if a0 < 6 then
    bd2 (f_js_isLatin1 a0 w) fun x2 w1 =>
    if x2 = 0 then
      if a0 < 6 then
        bd2 (f_ju_charAt a0 a1 w1) fun x6 w5 =>
        if narrow .char (.int x6) = .int x6 then some (x6, w5) else none
      else none
    else
      if a0 < 6 then
        bd2 (f_jl_charAt a0 a1 w1) fun x10 w9 =>
        if narrow .char (.int x10) = .int x10 then some (x10, w9) else none
      else none
  else none
def f_rd_isWord_20  : Nat → Nat → Nat → Int32 → WW → Option (Int32 × WW)
  | 0, _, _, _, _ => none
  | n + 1, y0, y1, y2, w =>
    bd2 (f_js_length y1 w) fun x7 w6 =>
    if x7 ≤ y2 then
      if (1 : Int32) = 0 ∨ (1 : Int32) = 1 then some ((1 : Int32), w6) else none
    else
      (gN w6 y0 1 0).bind fun x10 =>
      (gI w6 y0 1 7).bind fun x11 =>
      (rI w6 x10 3 (x11 + y2)).bind fun x12 =>
      bd2 (f_js_charAt y1 y2 w6) fun x14 w13 =>
      if x12 = x14 then
        f_rd_isWord_20 n y0 y1 (y2 + (1 : Int32)) w13
      else
        if (0 : Int32) = 0 ∨ (0 : Int32) = 1 then some ((0 : Int32), w13) else none
def f_rd_isWord (a0 : Nat) (a1 : Nat) (w : WW) : Option (Int32 × WW) :=
  if kb w a0 1 = true then
    (gI w a0 1 5).bind fun x1 =>
    (gI w a0 1 7).bind fun x2 =>
    bd2 (f_js_length a1 w) fun x4 w3 =>
    if (x1 - x2) = x4 then
      f_rd_isWord_20 KK a0 a1 (0 : Int32) w3
    else
      if (0 : Int32) = 0 ∨ (0 : Int32) = 1 then some ((0 : Int32), w3) else none
  else none
def f_rd_kindOfWord_61  (z0 : Int32) (w : WW) : Option (Int32 × WW) :=
  some (z0, w)
def f_rd_kindOfWord (a0 : Nat) (w : WW) : Option (Int32 × WW) :=
  if kb w a0 1 = true then
    bd2 (f_rd_isWord a0 0 w) fun x2 w1 =>
    if x2 = 0 then
      bd2 (f_rd_isWord a0 1 w1) fun x5 w4 =>
      if x5 = 0 then
        bd2 (f_rd_isWord a0 2 w4) fun x8 w7 =>
        if x8 = 0 then
          bd2 (f_rd_isWord a0 3 w7) fun x11 w10 =>
          if x11 = 0 then
            bd2 (f_rd_isWord a0 4 w10) fun x14 w13 =>
            if x14 = 0 then
              f_rd_kindOfWord_61 (-1 : Int32) w13
            else
              f_rd_kindOfWord_61 (8 : Int32) w13
          else
            some ((7 : Int32), w10)
        else
          some ((6 : Int32), w7)
      else
        some ((5 : Int32), w4)
    else
      some ((4 : Int32), w1)
  else none
def f_rd_readWord_136   (w : WW) : Option WW :=
  some w
def f_rd_readWord_113  (y0 : Nat) (y1 : Int32) (w : WW) : Option WW :=
  (pv w y0 1 6 (.int (3 : Int32))).bind fun w12 =>
  (pv w12 y0 1 8 (.int ((y1 - (65 : Int32)) * (4 : Int32)))).bind fun w13 =>
  f_rd_readWord_136 w13
def f_rd_readWord_101  (y0 : Nat) (y1 : Int32) (w : WW) : Option WW :=
  if y1 = (65 : Int32) then
    f_rd_readWord_113 y0 y1 w
  else
    if y1 = (66 : Int32) then
      f_rd_readWord_113 y0 y1 w
    else
      (pv w y0 1 6 (.int (-1 : Int32))).bind fun w15 =>
      f_rd_readWord_136 w15
def f_rd_readWord_39  (y0 : Nat) (w : WW) : Option WW :=
  (gN w y0 1 0).bind fun x4 =>
  (gI w y0 1 7).bind fun x5 =>
  (rI w x4 3 x5).bind fun x6 =>
  (gI w y0 1 5).bind fun x7 =>
  (gI w y0 1 7).bind fun x8 =>
  if (x7 - x8) ≤ (1 : Int32) then
    if x6 < (97 : Int32) then
      f_rd_readWord_101 y0 x6 w
    else
      if (102 : Int32) < x6 then
        f_rd_readWord_101 y0 x6 w
      else
        (pv w y0 1 6 (.int (2 : Int32))).bind fun w17 =>
        (pv w17 y0 1 8 (.int (x6 - (97 : Int32)))).bind fun w18 =>
        f_rd_readWord_136 w18
  else
    bd2 (f_rd_kindOfWord y0 w) fun x20 w19 =>
    (pv w19 y0 1 6 (.int x20)).bind fun w21 =>
    f_rd_readWord_136 w21
def f_rd_readWord_0  : Nat → Nat → WW → Option WW
  | 0, _, _ => none
  | n + 1, y0, w =>
    (gI w y0 1 5).bind fun x1 =>
    (gI w y0 1 4).bind fun x2 =>
    if x2 ≤ x1 then
      f_rd_readWord_39 y0 w
    else
      (gN w y0 1 0).bind fun x22 =>
      (gI w y0 1 5).bind fun x23 =>
      (rI w x22 3 x23).bind fun x24 =>
      bd2 (f_rd_isLetter x24 w) fun x26 w25 =>
      if x26 = 0 then
        f_rd_readWord_39 y0 w25
      else
        (gI w25 y0 1 5).bind fun x28 =>
        (pv w25 y0 1 5 (.int (x28 + (1 : Int32)))).bind fun w29 =>
        f_rd_readWord_0 n y0 w29
def f_rd_readWord (a0 : Nat) (w : WW) : Option WW :=
  if kb w a0 1 = true then
    f_rd_readWord_0 KK a0 w
  else none
def f_jl_canEncode_16  (z0 : Int32) (w : WW) : Option (Int32 × WW) :=
  if z0 = 0 ∨ z0 = 1 then some (z0, w) else none
def f_jl_canEncode_15   (w : WW) : Option (Int32 × WW) :=
  f_jl_canEncode_16 (0 : Int32) w
def f_jl_canEncode (a0 : Int32) (w : WW) : Option (Int32 × WW) :=
  if a0 < 0 then
    f_jl_canEncode_15 w
  else
    if (255 : Int32) < a0 then
      f_jl_canEncode_15 w
    else
      f_jl_canEncode_16 (1 : Int32) w
def f_ma_max_II_10  (z0 : Int32) (w : WW) : Option (Int32 × WW) :=
  some (z0, w)
def f_ma_max_II (a0 : Int32) (a1 : Int32) (w : WW) : Option (Int32 × WW) :=
  if a0 < a1 then
    f_ma_max_II_10 a1 w
  else
    f_ma_max_II_10 a0 w
def f_ma_min_II_10  (z0 : Int32) (w : WW) : Option (Int32 × WW) :=
  some (z0, w)
def f_ma_min_II (a0 : Int32) (a1 : Int32) (w : WW) : Option (Int32 × WW) :=
  if a1 < a0 then
    f_ma_min_II_10 a1 w
  else
    f_ma_min_II_10 a0 w
def f_jl_indexOfChar_7  : Nat → Nat → Int32 → Int32 → Int32 → WW → Option (Int32 × WW)
  | 0, _, _, _, _, _ => none
  | n + 1, y0, y3, y4, y5, w =>
    if y3 ≤ y5 then
      some ((-1 : Int32), w)
    else
      if y0 < 6 then
        (tbS y0 y5).bind fun x3 =>
        if x3 = y4 then
          some (y5, w)
        else
          f_jl_indexOfChar_7 n y0 y3 y4 (y5 + (1 : Int32)) w
      else none
def f_jl_indexOfChar (a0 : Nat) (a1 : Int32) (a2 : Int32) (a3 : Int32) (w : WW) : Option (Int32 × WW) :=
  f_jl_indexOfChar_7 KK a0 a3 ((Int32.toInt8 a1).toInt32) a2 w
def f_jl_indexOf (a0 : Nat) (a1 : Int32) (a2 : Int32) (a3 : Int32) (w : WW) : Option (Int32 × WW) :=
  bd2 (f_jl_canEncode a1 w) fun x2 w1 =>
  if x2 = 0 then
    some ((-1 : Int32), w1)
  else
    bd2 (f_ma_max_II a2 (0 : Int32) w1) fun x5 w4 =>
    if a0 < 6 then
      bd2 (f_ma_min_II a3 (Int32.ofNat (sLn.getD a0 0)) w4) fun x8 w7 =>
      if x5 < x8 then
        bd2 (f_jl_indexOfChar a0 a1 x5 x8 w7) fun x11 w10 =>
        some (x11, w10)
      else
        some ((-1 : Int32), w7)
    else none
def f_ju_indexOf (a0 : Nat) (a1 : Int32) (a2 : Int32) (a3 : Int32) (w : WW) : Option (Int32 × WW) := none
def f_js_indexOf_II_36  (z0 : Int32) (w : WW) : Option (Int32 × WW) :=
  some (z0, w)
def f_js_indexOf_II (a0 : Nat) (a1 : Int32) (a2 : Int32) (w : WW) : Option (Int32 × WW) :=
  if a0 < 6 then
    bd2 (f_js_isLatin1 a0 w) fun x2 w1 =>
    if x2 = 0 then
      if a0 < 6 then
        bd2 (f_js_length a0 w1) fun x6 w5 =>
        bd2 (f_ju_indexOf a0 a1 a2 x6 w5) fun x8 w7 =>
        f_js_indexOf_II_36 x8 w7
      else none
    else
      if a0 < 6 then
        bd2 (f_js_length a0 w1) fun x11 w10 =>
        bd2 (f_jl_indexOf a0 a1 a2 x11 w10) fun x13 w12 =>
        f_js_indexOf_II_36 x13 w12
      else none
  else none
def f_js_indexOf_I (a0 : Nat) (a1 : Int32) (w : WW) : Option (Int32 × WW) :=
  if a0 < 6 then
    bd2 (f_js_indexOf_II a0 a1 (0 : Int32) w) fun x2 w1 =>
    some (x2, w1)
  else none
def f_rd_readSign_145   (w : WW) : Option WW :=
  some w
def f_rd_readSign_131  (y0 : Nat) (y2 : Int32) (w : WW) : Option WW :=
  if y2 = 0 then
    f_rd_readSign_145 w
  else
    (gI w y0 1 5).bind fun x17 =>
    (pv w y0 1 5 (.int (x17 + (1 : Int32)))).bind fun w18 =>
    f_rd_readSign_145 w18
def f_rd_readSign_128  (y0 : Nat) (y2 : Int32) (z0 : Nat) (z1 : Int32) (w : WW) : Option WW :=
  (pv w z0 1 6 (.int z1)).bind fun w15 =>
  f_rd_readSign_131 y0 y2 w15
def f_rd_readSign_111  (y0 : Nat) (y1 : Int32) (w : WW) : Option WW :=
  bd2 (f_js_indexOf_I 5 y1 w) fun x13 w12 =>
  if x13 < 0 then
    f_rd_readSign_128 y0 (0 : Int32) y0 (-1 : Int32) w12
  else
    f_rd_readSign_128 y0 (0 : Int32) y0 y1 w12
def f_rd_readSign_91  (y0 : Nat) (y1 : Int32) (y2 : Int32) (w : WW) : Option WW :=
  if y2 = 0 then
    f_rd_readSign_111 y0 y1 w
  else
    if y1 = (60 : Int32) then
      (pv w y0 1 6 (.int (258 : Int32))).bind fun w20 =>
      f_rd_readSign_131 y0 y2 w20
    else
      f_rd_readSign_111 y0 y1 w
def f_rd_readSign_71  (y0 : Nat) (y1 : Int32) (y2 : Int32) (w : WW) : Option WW :=
  if y2 = 0 then
    f_rd_readSign_91 y0 y1 y2 w
  else
    if y1 = (33 : Int32) then
      (pv w y0 1 6 (.int (257 : Int32))).bind fun w22 =>
      f_rd_readSign_131 y0 y2 w22
    else
      f_rd_readSign_91 y0 y1 y2 w
def f_rd_readSign_50  (y0 : Nat) (y1 : Int32) (z0 : Int32) (w : WW) : Option WW :=
  if z0 = 0 then
    f_rd_readSign_71 y0 y1 z0 w
  else
    if y1 = (61 : Int32) then
      (pv w y0 1 6 (.int (256 : Int32))).bind fun w24 =>
      f_rd_readSign_131 y0 z0 w24
    else
      f_rd_readSign_71 y0 y1 z0 w
def f_rd_readSign_49  (y0 : Nat) (y1 : Int32) (w : WW) : Option WW :=
  f_rd_readSign_50 y0 y1 (0 : Int32) w
def f_rd_readSign (a0 : Nat) (w : WW) : Option WW :=
  if kb w a0 1 = true then
    (gN w a0 1 0).bind fun x1 =>
    (gI w a0 1 5).bind fun x2 =>
    (rI w x1 3 x2).bind fun x3 =>
    (gI w a0 1 5).bind fun x4 =>
    (pv w a0 1 5 (.int (x4 + (1 : Int32)))).bind fun w5 =>
    (gI w5 a0 1 5).bind fun x6 =>
    (gI w5 a0 1 4).bind fun x7 =>
    if x7 ≤ x6 then
      f_rd_readSign_49 a0 x3 w5
    else
      (gN w5 a0 1 0).bind fun x25 =>
      (gI w5 a0 1 5).bind fun x26 =>
      (rI w5 x25 3 x26).bind fun x27 =>
      if x27 = (61 : Int32) then
        f_rd_readSign_50 a0 x3 (1 : Int32) w5
      else
        f_rd_readSign_49 a0 x3 w5
  else none
def f_rd_readToken_132   (w : WW) : Option WW :=
  some w
def f_rd_readToken_52  (y0 : Nat) (w : WW) : Option WW :=
  (gI w y0 1 5).bind fun x4 =>
  (pv w y0 1 7 (.int x4)).bind fun w5 =>
  (pv w5 y0 1 8 (.int (0 : Int32))).bind fun w6 =>
  (gI w6 y0 1 5).bind fun x7 =>
  (gI w6 y0 1 4).bind fun x8 =>
  if x7 < x8 then
    (gN w6 y0 1 0).bind fun x10 =>
    (gI w6 y0 1 5).bind fun x11 =>
    (rI w6 x10 3 x11).bind fun x12 =>
    bd2 (f_rd_isDigit x12 w6) fun x14 w13 =>
    if x14 = 0 then
      (gN w13 y0 1 0).bind fun x16 =>
      (gI w13 y0 1 5).bind fun x17 =>
      (rI w13 x16 3 x17).bind fun x18 =>
      bd2 (f_rd_isLetter x18 w13) fun x20 w19 =>
      if x20 = 0 then
        (f_rd_readSign y0 w19).bind fun w22 =>
        f_rd_readToken_132 w22
      else
        (f_rd_readWord y0 w19).bind fun w23 =>
        f_rd_readToken_132 w23
    else
      (f_rd_readNumeral y0 w13).bind fun w24 =>
      f_rd_readToken_132 w24
  else
    (pv w6 y0 1 6 (.int (0 : Int32))).bind fun w25 =>
    f_rd_readToken_132 w25
def f_rd_readToken_39 (k_0 : Nat → WW → Option WW) (y0 : Nat) (w : WW) : Option WW :=
  (gI w y0 1 5).bind fun x30 =>
  (pv w y0 1 5 (.int (x30 + (1 : Int32)))).bind fun w31 =>
  k_0 y0 w31
def f_rd_readToken_0  : Nat → Nat → WW → Option WW
  | 0, _, _ => none
  | n + 1, y0, w =>
    (gI w y0 1 5).bind fun x1 =>
    (gI w y0 1 4).bind fun x2 =>
    if x2 ≤ x1 then
      f_rd_readToken_52 y0 w
    else
      (gN w y0 1 0).bind fun x26 =>
      (gI w y0 1 5).bind fun x27 =>
      (rI w x26 3 x27).bind fun x28 =>
      if x28 = (32 : Int32) then
        f_rd_readToken_39 (f_rd_readToken_0 n) y0 w
      else
        (gN w y0 1 0).bind fun x32 =>
        (gI w y0 1 5).bind fun x33 =>
        (rI w x32 3 x33).bind fun x34 =>
        if x34 = (10 : Int32) then
          f_rd_readToken_39 (f_rd_readToken_0 n) y0 w
        else
          f_rd_readToken_52 y0 w
def f_rd_readToken (a0 : Nat) (w : WW) : Option WW :=
  if kb w a0 1 = true then
    f_rd_readToken_0 KK a0 w
  else none
def f_rd_readAll_74   (w : WW) : Option WW :=
  some w
def f_rd_readAll_12  : Nat → Nat → Int32 → WW → Option WW
  | 0, _, _, _ => none
  | n + 1, y0, y1, w =>
    if (200 : Int32) < y1 then
      f_rd_readAll_74 w
    else
      (gI w y0 1 6).bind fun x4 =>
      if x4 = 0 then
        f_rd_readAll_74 w
      else
        (gI w y0 1 6).bind fun x6 =>
        if x6 = (-1 : Int32) then
          f_rd_readAll_74 w
        else
          (f_rd_readToken y0 w).bind fun w8 =>
          (gN w8 y0 1 1).bind fun x9 =>
          (gI w8 y0 1 6).bind fun x10 =>
          (sI w8 x9 0 y1 x10).bind fun w11 =>
          (gN w11 y0 1 2).bind fun x12 =>
          (gI w11 y0 1 7).bind fun x13 =>
          (sI w11 x12 0 y1 x13).bind fun w14 =>
          (gN w14 y0 1 3).bind fun x15 =>
          (gI w14 y0 1 8).bind fun x16 =>
          (sI w14 x15 0 y1 x16).bind fun w17 =>
          f_rd_readAll_12 n y0 (y1 + (1 : Int32)) w17
def f_rd_readAll (a0 : Nat) (w : WW) : Option WW :=
  if kb w a0 1 = true then
    (pv w a0 1 5 (.int (0 : Int32))).bind fun w1 =>
    (pv w1 a0 1 6 (.int (1 : Int32))).bind fun w2 =>
    f_rd_readAll_12 KK a0 (0 : Int32) w2
  else none
def f_pa_kindHere (a0 : Nat) (w : WW) : Option (Int32 × WW) :=
  if kb w a0 2 = true then
    (gN w a0 2 0).bind fun x1 =>
    (gN w x1 1 1).bind fun x2 =>
    (gI w a0 2 1).bind fun x3 =>
    (rI w x2 0 x3).bind fun x4 =>
    some (x4, w)
  else none
def f_pa_beginsStatement_32  (z0 : Int32) (w : WW) : Option (Int32 × WW) :=
  if z0 = 0 ∨ z0 = 1 then some (z0, w) else none
def f_pa_beginsStatement_27   (w : WW) : Option (Int32 × WW) :=
  f_pa_beginsStatement_32 (1 : Int32) w
def f_pa_beginsStatement (a0 : Int32) (w : WW) : Option (Int32 × WW) :=
  if a0 = (2 : Int32) then
    f_pa_beginsStatement_27 w
  else
    if a0 = (3 : Int32) then
      f_pa_beginsStatement_27 w
    else
      if a0 = (4 : Int32) then
        f_pa_beginsStatement_27 w
      else
        if a0 = (6 : Int32) then
          f_pa_beginsStatement_27 w
        else
          if a0 = (7 : Int32) then
            f_pa_beginsStatement_27 w
          else
            f_pa_beginsStatement_32 (0 : Int32) w
def f_pg_isFull_14  (z0 : Int32) (w : WW) : Option (Int32 × WW) :=
  if z0 = 0 ∨ z0 = 1 then some (z0, w) else none
def f_pg_isFull (a0 : Nat) (w : WW) : Option (Int32 × WW) :=
  if kb w a0 3 = true then
    (gI w a0 3 1).bind fun x1 =>
    if x1 < (50 : Int32) then
      f_pg_isFull_14 (0 : Int32) w
    else
      f_pg_isFull_14 (1 : Int32) w
  else none
def f_pa_need (a0 : Nat) (a1 : Int32) (w : WW) : Option ((Unit ⊕ String) × WW) :=
  if kb w a0 2 = true then
    if a1 = 0 then
      (gN w a0 2 0).bind fun x2 =>
      (gN w x2 1 2).bind fun x3 =>
      (gI w a0 2 1).bind fun x4 =>
      (rI w x3 0 x4).bind fun x5 =>
      (pv w a0 2 3 (.int x5)).bind fun w6 =>
      some (.inr "java/lang/IllegalArgumentException", w6)
    else
      some (.inl (), w)
  else none
def f_pg_newStatement (a0 : Nat) (w : WW) : Option (Option Nat × WW) :=
  if kb w a0 3 = true then
    (gN w a0 3 0).bind fun x1 =>
    (gI w a0 3 1).bind fun x2 =>
    (rN w x1 6 x2).bind fun x3 =>
    (gI w a0 3 1).bind fun x4 =>
    (pv w a0 3 1 (.int (x4 + (1 : Int32)))).bind fun w5 =>
    some ((some x3), w5)
  else none
def f_st_begin (a0 : Nat) (a1 : Int32) (a2 : Int32) (a3 : Int32) (w : WW) : Option WW :=
  if kb w a0 4 = true then
    (pv w a0 4 0 (.int a1)).bind fun w1 =>
    (pv w1 a0 4 1 (.int a2)).bind fun w2 =>
    (pv w2 a0 4 2 (.int a3)).bind fun w3 =>
    (pv w3 a0 4 7 (va_rf none)).bind fun w4 =>
    (pv w4 a0 4 8 (va_rf none)).bind fun w5 =>
    (pv w5 a0 4 9 (va_rf none)).bind fun w6 =>
    some w6
  else none
def f_pa_advance_20   (w : WW) : Option WW :=
  some w
def f_pa_advance (a0 : Nat) (w : WW) : Option WW :=
  if kb w a0 2 = true then
    (gI w a0 2 1).bind fun x1 =>
    if (200 : Int32) ≤ x1 then
      f_pa_advance_20 w
    else
      (gI w a0 2 1).bind fun x3 =>
      (pv w a0 2 1 (.int (x3 + (1 : Int32)))).bind fun w4 =>
      f_pa_advance_20 w4
  else none
def f_pa_take_14  (y0 : Nat) (z0 : Nat) (z1 : Int32) (w : WW) : Option ((Unit ⊕ String) × WW) :=
  bdx (f_pa_need z0 z1 w) fun x5 w4 =>
  (f_pa_advance y0 w4).bind fun w6 =>
  some (.inl (), w6)
def f_pa_take (a0 : Nat) (a1 : Int32) (w : WW) : Option ((Unit ⊕ String) × WW) :=
  if kb w a0 2 = true then
    bd2 (f_pa_kindHere a0 w) fun x2 w1 =>
    if x2 = a1 then
      f_pa_take_14 a0 a0 (1 : Int32) w1
    else
      f_pa_take_14 a0 a0 (0 : Int32) w1
  else none
def f_pg_addStep_50   (w : WW) : Option WW :=
  some w
def f_pg_addStep (a0 : Nat) (a1 : Int32) (a2 : Int32) (a3 : Int32) (w : WW) : Option WW :=
  if kb w a0 3 = true then
    (gI w a0 3 5).bind fun x1 =>
    if (200 : Int32) ≤ x1 then
      f_pg_addStep_50 w
    else
      (gN w a0 3 2).bind fun x3 =>
      (gI w a0 3 5).bind fun x4 =>
      (sI w x3 0 x4 a1).bind fun w5 =>
      (gN w5 a0 3 3).bind fun x6 =>
      (gI w5 a0 3 5).bind fun x7 =>
      (sI w5 x6 0 x7 a2).bind fun w8 =>
      (gN w8 a0 3 4).bind fun x9 =>
      (gI w8 a0 3 5).bind fun x10 =>
      (sI w8 x9 0 x10 a3).bind fun w11 =>
      (gI w11 a0 3 5).bind fun x12 =>
      (pv w11 a0 3 5 (.int (x12 + (1 : Int32)))).bind fun w13 =>
      f_pg_addStep_50 w13
  else none
def f_pa_isProductSign_23  (z0 : Int32) (w : WW) : Option (Int32 × WW) :=
  if z0 = 0 ∨ z0 = 1 then some (z0, w) else none
def f_pa_isProductSign_18   (w : WW) : Option (Int32 × WW) :=
  f_pa_isProductSign_23 (1 : Int32) w
def f_pa_isProductSign (a0 : Int32) (w : WW) : Option (Int32 × WW) :=
  if a0 = (42 : Int32) then
    f_pa_isProductSign_18 w
  else
    if a0 = (47 : Int32) then
      f_pa_isProductSign_18 w
    else
      if a0 = (37 : Int32) then
        f_pa_isProductSign_18 w
      else
        f_pa_isProductSign_23 (0 : Int32) w
def f_pa_beginsFactor_32  (z0 : Int32) (w : WW) : Option (Int32 × WW) :=
  if z0 = 0 ∨ z0 = 1 then some (z0, w) else none
def f_pa_beginsFactor_27   (w : WW) : Option (Int32 × WW) :=
  f_pa_beginsFactor_32 (1 : Int32) w
def f_pa_beginsFactor (a0 : Int32) (w : WW) : Option (Int32 × WW) :=
  if a0 = (1 : Int32) then
    f_pa_beginsFactor_27 w
  else
    if a0 = (2 : Int32) then
      f_pa_beginsFactor_27 w
    else
      if a0 = (3 : Int32) then
        f_pa_beginsFactor_27 w
      else
        if a0 = (45 : Int32) then
          f_pa_beginsFactor_27 w
        else
          if a0 = (40 : Int32) then
            f_pa_beginsFactor_27 w
          else
            f_pa_beginsFactor_32 (0 : Int32) w
def f_pa_readExpr_102 (g_pa_readExpr : Nat → Int32 → WW → Option ((Int32 ⊕ String) × WW)) (g_pa_readTerm : Nat → Int32 → WW → Option ((Int32 ⊕ String) × WW)) (g_pa_readFactor : Nat → Int32 → WW → Option ((Int32 ⊕ String) × WW))  (y2 : Int32) (w : WW) : Option ((Int32 ⊕ String) × WW) :=
  some (.inl y2, w)
def f_pa_readExpr_65 (g_pa_readExpr : Nat → Int32 → WW → Option ((Int32 ⊕ String) × WW)) (g_pa_readTerm : Nat → Int32 → WW → Option ((Int32 ⊕ String) × WW)) (g_pa_readFactor : Nat → Int32 → WW → Option ((Int32 ⊕ String) × WW)) (k_8 : Nat → Int32 → Int32 → Int32 → WW → Option ((Int32 ⊕ String) × WW)) (y0 : Nat) (y1 : Int32) (y2 : Int32) (y3 : Int32) (y4 : Int32) (y5 : Int32) (z0 : Nat) (z1 : Int32) (w : WW) : Option ((Int32 ⊕ String) × WW) :=
  bdx (f_pa_need z0 z1 w) fun x15 w14 =>
  (f_pa_advance y0 w14).bind fun w16 =>
  bdx (g_pa_readTerm y0 y1 w16) fun x18 w17 =>
  bd2 (f_ma_max_II y2 x18 w17) fun x20 w19 =>
  (gR w19 y0 2 2).bind fun x21 =>
  x21.bind fun x22 =>
  (f_pg_addStep x22 y4 (0 : Int32) y5 w19).bind fun w23 =>
  k_8 y0 y1 ((1 : Int32) + x20) (y3 + (1 : Int32)) w23
def f_pa_readExpr_33 (g_pa_readExpr : Nat → Int32 → WW → Option ((Int32 ⊕ String) × WW)) (g_pa_readTerm : Nat → Int32 → WW → Option ((Int32 ⊕ String) × WW)) (g_pa_readFactor : Nat → Int32 → WW → Option ((Int32 ⊕ String) × WW)) (k_8 : Nat → Int32 → Int32 → Int32 → WW → Option ((Int32 ⊕ String) × WW)) (y0 : Nat) (y1 : Int32) (y2 : Int32) (y3 : Int32) (w : WW) : Option ((Int32 ⊕ String) × WW) :=
  bd2 (f_pa_kindHere y0 w) fun x8 w7 =>
  (gN w7 y0 2 0).bind fun x9 =>
  (gN w7 x9 1 2).bind fun x10 =>
  (gI w7 y0 2 1).bind fun x11 =>
  (rI w7 x10 0 x11).bind fun x12 =>
  if (16 : Int32) ≤ y2 then
    f_pa_readExpr_65 g_pa_readExpr g_pa_readTerm g_pa_readFactor k_8 y0 y1 y2 y3 x8 x12 y0 (0 : Int32) w7
  else
    f_pa_readExpr_65 g_pa_readExpr g_pa_readTerm g_pa_readFactor k_8 y0 y1 y2 y3 x8 x12 y0 (1 : Int32) w7
def f_pa_readExpr_8 (g_pa_readExpr : Nat → Int32 → WW → Option ((Int32 ⊕ String) × WW)) (g_pa_readTerm : Nat → Int32 → WW → Option ((Int32 ⊕ String) × WW)) (g_pa_readFactor : Nat → Int32 → WW → Option ((Int32 ⊕ String) × WW))  : Nat → Nat → Int32 → Int32 → Int32 → WW → Option ((Int32 ⊕ String) × WW)
  | 0, _, _, _, _, _ => none
  | n + 1, y0, y1, y2, y3, w =>
    if (200 : Int32) ≤ y3 then
      f_pa_readExpr_102 g_pa_readExpr g_pa_readTerm g_pa_readFactor y2 w
    else
      bd2 (f_pa_kindHere y0 w) fun x5 w4 =>
      if x5 = (43 : Int32) then
        f_pa_readExpr_33 g_pa_readExpr g_pa_readTerm g_pa_readFactor (f_pa_readExpr_8 g_pa_readExpr g_pa_readTerm g_pa_readFactor n) y0 y1 y2 y3 w4
      else
        bd2 (f_pa_kindHere y0 w4) fun x25 w24 =>
        if x25 = (45 : Int32) then
          f_pa_readExpr_33 g_pa_readExpr g_pa_readTerm g_pa_readFactor (f_pa_readExpr_8 g_pa_readExpr g_pa_readTerm g_pa_readFactor n) y0 y1 y2 y3 w24
        else
          f_pa_readExpr_102 g_pa_readExpr g_pa_readTerm g_pa_readFactor y2 w24
def fo_pa_readExpr (g_pa_readExpr : Nat → Int32 → WW → Option ((Int32 ⊕ String) × WW)) (g_pa_readTerm : Nat → Int32 → WW → Option ((Int32 ⊕ String) × WW)) (g_pa_readFactor : Nat → Int32 → WW → Option ((Int32 ⊕ String) × WW)) (a0 : Nat) (a1 : Int32) (w : WW) : Option ((Int32 ⊕ String) × WW) :=
  if kb w a0 2 = true then
    bdx (g_pa_readTerm a0 a1 w) fun x2 w1 =>
    f_pa_readExpr_8 g_pa_readExpr g_pa_readTerm g_pa_readFactor KK a0 a1 x2 (0 : Int32) w1
  else none
def f_pa_readTerm_94 (g_pa_readExpr : Nat → Int32 → WW → Option ((Int32 ⊕ String) × WW)) (g_pa_readTerm : Nat → Int32 → WW → Option ((Int32 ⊕ String) × WW)) (g_pa_readFactor : Nat → Int32 → WW → Option ((Int32 ⊕ String) × WW))  (y2 : Int32) (w : WW) : Option ((Int32 ⊕ String) × WW) :=
  some (.inl y2, w)
def f_pa_readTerm_57 (g_pa_readExpr : Nat → Int32 → WW → Option ((Int32 ⊕ String) × WW)) (g_pa_readTerm : Nat → Int32 → WW → Option ((Int32 ⊕ String) × WW)) (g_pa_readFactor : Nat → Int32 → WW → Option ((Int32 ⊕ String) × WW)) (k_8 : Nat → Int32 → Int32 → Int32 → WW → Option ((Int32 ⊕ String) × WW)) (y0 : Nat) (y1 : Int32) (y2 : Int32) (y3 : Int32) (y4 : Int32) (y5 : Int32) (z0 : Nat) (z1 : Int32) (w : WW) : Option ((Int32 ⊕ String) × WW) :=
  bdx (f_pa_need z0 z1 w) fun x17 w16 =>
  (f_pa_advance y0 w16).bind fun w18 =>
  bdx (g_pa_readFactor y0 y1 w18) fun x20 w19 =>
  bd2 (f_ma_max_II y2 x20 w19) fun x22 w21 =>
  (gR w21 y0 2 2).bind fun x23 =>
  x23.bind fun x24 =>
  (f_pg_addStep x24 y4 (0 : Int32) y5 w21).bind fun w25 =>
  k_8 y0 y1 ((1 : Int32) + x22) (y3 + (1 : Int32)) w25
def f_pa_readTerm_8 (g_pa_readExpr : Nat → Int32 → WW → Option ((Int32 ⊕ String) × WW)) (g_pa_readTerm : Nat → Int32 → WW → Option ((Int32 ⊕ String) × WW)) (g_pa_readFactor : Nat → Int32 → WW → Option ((Int32 ⊕ String) × WW))  : Nat → Nat → Int32 → Int32 → Int32 → WW → Option ((Int32 ⊕ String) × WW)
  | 0, _, _, _, _, _ => none
  | n + 1, y0, y1, y2, y3, w =>
    if (200 : Int32) ≤ y3 then
      f_pa_readTerm_94 g_pa_readExpr g_pa_readTerm g_pa_readFactor y2 w
    else
      bd2 (f_pa_kindHere y0 w) fun x5 w4 =>
      bd2 (f_pa_isProductSign x5 w4) fun x7 w6 =>
      if x7 = 0 then
        f_pa_readTerm_94 g_pa_readExpr g_pa_readTerm g_pa_readFactor y2 w6
      else
        bd2 (f_pa_kindHere y0 w6) fun x10 w9 =>
        (gN w9 y0 2 0).bind fun x11 =>
        (gN w9 x11 1 2).bind fun x12 =>
        (gI w9 y0 2 1).bind fun x13 =>
        (rI w9 x12 0 x13).bind fun x14 =>
        if (16 : Int32) ≤ y2 then
          f_pa_readTerm_57 g_pa_readExpr g_pa_readTerm g_pa_readFactor (f_pa_readTerm_8 g_pa_readExpr g_pa_readTerm g_pa_readFactor n) y0 y1 y2 y3 x10 x14 y0 (0 : Int32) w9
        else
          f_pa_readTerm_57 g_pa_readExpr g_pa_readTerm g_pa_readFactor (f_pa_readTerm_8 g_pa_readExpr g_pa_readTerm g_pa_readFactor n) y0 y1 y2 y3 x10 x14 y0 (1 : Int32) w9
def fo_pa_readTerm (g_pa_readExpr : Nat → Int32 → WW → Option ((Int32 ⊕ String) × WW)) (g_pa_readTerm : Nat → Int32 → WW → Option ((Int32 ⊕ String) × WW)) (g_pa_readFactor : Nat → Int32 → WW → Option ((Int32 ⊕ String) × WW)) (a0 : Nat) (a1 : Int32) (w : WW) : Option ((Int32 ⊕ String) × WW) :=
  if kb w a0 2 = true then
    bdx (g_pa_readFactor a0 a1 w) fun x2 w1 =>
    f_pa_readTerm_8 g_pa_readExpr g_pa_readTerm g_pa_readFactor KK a0 a1 x2 (0 : Int32) w1
  else none
def f_pa_readFactor_134 (g_pa_readExpr : Nat → Int32 → WW → Option ((Int32 ⊕ String) × WW)) (g_pa_readTerm : Nat → Int32 → WW → Option ((Int32 ⊕ String) × WW)) (g_pa_readFactor : Nat → Int32 → WW → Option ((Int32 ⊕ String) × WW))  (y0 : Nat) (y2 : Int32) (y3 : Int32) (y4 : Int32) (y5 : Int32) (w : WW) : Option ((Int32 ⊕ String) × WW) :=
  (gR w y0 2 2).bind fun x22 =>
  x22.bind fun x23 =>
  (f_pg_addStep x23 y2 y4 y3 w).bind fun w24 =>
  some (.inl (y5 + (1 : Int32)), w24)
def f_pa_readFactor_12 (g_pa_readExpr : Nat → Int32 → WW → Option ((Int32 ⊕ String) × WW)) (g_pa_readTerm : Nat → Int32 → WW → Option ((Int32 ⊕ String) × WW)) (g_pa_readFactor : Nat → Int32 → WW → Option ((Int32 ⊕ String) × WW))  (y0 : Nat) (y1 : Int32) (z0 : Nat) (z1 : Int32) (w : WW) : Option ((Int32 ⊕ String) × WW) :=
  bdx (f_pa_need z0 z1 w) fun x3 w2 =>
  bd2 (f_pa_kindHere y0 w2) fun x5 w4 =>
  (gN w4 y0 2 0).bind fun x6 =>
  (gN w4 x6 1 2).bind fun x7 =>
  (gI w4 y0 2 1).bind fun x8 =>
  (rI w4 x7 0 x8).bind fun x9 =>
  (gN w4 y0 2 0).bind fun x10 =>
  (gN w4 x10 1 3).bind fun x11 =>
  (gI w4 y0 2 1).bind fun x12 =>
  (rI w4 x11 0 x12).bind fun x13 =>
  bd2 (f_pa_beginsFactor x5 w4) fun x15 w14 =>
  bdx (f_pa_need y0 x15 w14) fun x17 w16 =>
  (f_pa_advance y0 w16).bind fun w18 =>
  if x5 = (40 : Int32) then
    bdx (g_pa_readExpr y0 (y1 + (1 : Int32)) w18) fun x34 w33 =>
    bdx (f_pa_take y0 (41 : Int32) w33) fun x36 w35 =>
    some (.inl x34, w35)
  else
    if x5 = (3 : Int32) then
      bdx (f_pa_take y0 (91 : Int32) w18) fun x28 w27 =>
      bdx (g_pa_readExpr y0 (y1 + (1 : Int32)) w27) fun x30 w29 =>
      bdx (f_pa_take y0 (93 : Int32) w29) fun x32 w31 =>
      f_pa_readFactor_134 g_pa_readExpr g_pa_readTerm g_pa_readFactor y0 x5 x9 x13 x30 w31
    else
      if x5 = (45 : Int32) then
        bdx (g_pa_readFactor y0 (y1 + (1 : Int32)) w18) fun x26 w25 =>
        f_pa_readFactor_134 g_pa_readExpr g_pa_readTerm g_pa_readFactor y0 (259 : Int32) x9 x13 x26 w25
      else
        f_pa_readFactor_134 g_pa_readExpr g_pa_readTerm g_pa_readFactor y0 x5 x9 x13 (0 : Int32) w18
def fo_pa_readFactor (g_pa_readExpr : Nat → Int32 → WW → Option ((Int32 ⊕ String) × WW)) (g_pa_readTerm : Nat → Int32 → WW → Option ((Int32 ⊕ String) × WW)) (g_pa_readFactor : Nat → Int32 → WW → Option ((Int32 ⊕ String) × WW)) (a0 : Nat) (a1 : Int32) (w : WW) : Option ((Int32 ⊕ String) × WW) :=
  if kb w a0 2 = true then
    if (10 : Int32) < a1 then
      f_pa_readFactor_12 g_pa_readExpr g_pa_readTerm g_pa_readFactor a0 a1 a0 (0 : Int32) w
    else
      f_pa_readFactor_12 g_pa_readExpr g_pa_readTerm g_pa_readFactor a0 a1 a0 (1 : Int32) w
  else none
def sc_pa3 : Nat → (Nat → Int32 → WW → Option ((Int32 ⊕ String) × WW)) × (Nat → Int32 → WW → Option ((Int32 ⊕ String) × WW)) × (Nat → Int32 → WW → Option ((Int32 ⊕ String) × WW))
  | 0 => (fun _ _ _ => none, fun _ _ _ => none, fun _ _ _ => none)
  | d + 1 => (fo_pa_readExpr (sc_pa3 d).1 (sc_pa3 d).2.1 (sc_pa3 d).2.2, fo_pa_readTerm (sc_pa3 d).1 (sc_pa3 d).2.1 (sc_pa3 d).2.2, fo_pa_readFactor (sc_pa3 d).1 (sc_pa3 d).2.1 (sc_pa3 d).2.2)
def f_pa_readExpr (d : Nat) : Nat → Int32 → WW → Option ((Int32 ⊕ String) × WW) := (sc_pa3 d).1
def f_pa_readTerm (d : Nat) : Nat → Int32 → WW → Option ((Int32 ⊕ String) × WW) := (sc_pa3 d).2.1
def f_pa_readFactor (d : Nat) : Nat → Int32 → WW → Option ((Int32 ⊕ String) × WW) := (sc_pa3 d).2.2
def f_pa_readAssignment_56  (y0 : Nat) (w : WW) : Option ((Unit ⊕ String) × WW) :=
  bdx (f_pa_take y0 (59 : Int32) w) fun x18 w17 =>
  some (.inl (), w17)
def f_pa_readAssignment (a0 : Nat) (a1 : Option Nat) (w : WW) : Option ((Unit ⊕ String) × WW) :=
  if kb w a0 2 = true then
    bdx (f_pa_take a0 (61 : Int32) w) fun x2 w1 =>
    bd2 (f_pa_kindHere a0 w1) fun x4 w3 =>
    if x4 = (8 : Int32) then
      a1.bind fun x19 =>
      (pv w3 x19 4 0 (.int (8 : Int32))).bind fun w20 =>
      (f_pa_advance a0 w20).bind fun w21 =>
      f_pa_readAssignment_56 a0 w21
    else
      (gR w3 a0 2 2).bind fun x6 =>
      x6.bind fun x7 =>
      (gI w3 x7 3 5).bind fun x8 =>
      a1.bind fun x9 =>
      (pv w3 x9 4 3 (.int x8)).bind fun w10 =>
      bdx (f_pa_readExpr 64 a0 (0 : Int32) w10) fun x12 w11 =>
      (gR w11 a0 2 2).bind fun x13 =>
      x13.bind fun x14 =>
      (gI w11 x14 3 5).bind fun x15 =>
      (pv w11 x9 4 5 (.int x15)).bind fun w16 =>
      f_pa_readAssignment_56 a0 w16
  else none
def f_pa_readStore (a0 : Nat) (a1 : Option Nat) (w : WW) : Option ((Unit ⊕ String) × WW) :=
  if kb w a0 2 = true then
    bdx (f_pa_take a0 (91 : Int32) w) fun x2 w1 =>
    (gR w1 a0 2 2).bind fun x3 =>
    x3.bind fun x4 =>
    (gI w1 x4 3 5).bind fun x5 =>
    a1.bind fun x6 =>
    (pv w1 x6 4 3 (.int x5)).bind fun w7 =>
    bdx (f_pa_readExpr 64 a0 (0 : Int32) w7) fun x9 w8 =>
    (gR w8 a0 2 2).bind fun x10 =>
    x10.bind fun x11 =>
    (gI w8 x11 3 5).bind fun x12 =>
    (pv w8 x6 4 4 (.int x12)).bind fun w13 =>
    bdx (f_pa_take a0 (93 : Int32) w13) fun x15 w14 =>
    bdx (f_pa_take a0 (61 : Int32) w14) fun x17 w16 =>
    bdx (f_pa_readExpr 64 a0 (0 : Int32) w16) fun x19 w18 =>
    (gR w18 a0 2 2).bind fun x20 =>
    x20.bind fun x21 =>
    (gI w18 x21 3 5).bind fun x22 =>
    (pv w18 x6 4 5 (.int x22)).bind fun w23 =>
    bdx (f_pa_take a0 (59 : Int32) w23) fun x25 w24 =>
    some (.inl (), w24)
  else none
def f_pa_readCond_72  (y0 : Nat) (y1 : Nat) (y2 : Int32) (z0 : Nat) (z1 : Int32) (w : WW) : Option ((Unit ⊕ String) × WW) :=
  bdx (f_pa_need z0 z1 w) fun x18 w17 =>
  (pv w17 y1 4 6 (.int y2)).bind fun w19 =>
  (f_pa_advance y0 w19).bind fun w20 =>
  bdx (f_pa_readExpr 64 y0 (0 : Int32) w20) fun x22 w21 =>
  (gR w21 y0 2 2).bind fun x23 =>
  x23.bind fun x24 =>
  (gI w21 x24 3 5).bind fun x25 =>
  (pv w21 y1 4 5 (.int x25)).bind fun w26 =>
  bdx (f_pa_take y0 (41 : Int32) w26) fun x28 w27 =>
  some (.inl (), w27)
def f_pa_readCond_67  (y0 : Nat) (y1 : Nat) (y2 : Int32) (z0 : Nat) (w : WW) : Option ((Unit ⊕ String) × WW) :=
  f_pa_readCond_72 y0 y1 y2 z0 (1 : Int32) w
def f_pa_readCond (a0 : Nat) (a1 : Option Nat) (w : WW) : Option ((Unit ⊕ String) × WW) :=
  if kb w a0 2 = true then
    bdx (f_pa_take a0 (40 : Int32) w) fun x2 w1 =>
    (gR w1 a0 2 2).bind fun x3 =>
    x3.bind fun x4 =>
    (gI w1 x4 3 5).bind fun x5 =>
    a1.bind fun x6 =>
    (pv w1 x6 4 3 (.int x5)).bind fun w7 =>
    bdx (f_pa_readExpr 64 a0 (0 : Int32) w7) fun x9 w8 =>
    (gR w8 a0 2 2).bind fun x10 =>
    x10.bind fun x11 =>
    (gI w8 x11 3 5).bind fun x12 =>
    (pv w8 x6 4 4 (.int x12)).bind fun w13 =>
    bd2 (f_pa_kindHere a0 w13) fun x15 w14 =>
    if x15 = (256 : Int32) then
      f_pa_readCond_67 a0 x6 x15 a0 w14
    else
      if x15 = (257 : Int32) then
        f_pa_readCond_67 a0 x6 x15 a0 w14
      else
        if x15 = (60 : Int32) then
          f_pa_readCond_67 a0 x6 x15 a0 w14
        else
          if x15 = (258 : Int32) then
            f_pa_readCond_67 a0 x6 x15 a0 w14
          else
            f_pa_readCond_72 a0 x6 x15 a0 (0 : Int32) w14
  else none
def f_pa_readStatements_58 (g_pa_readStatements : Nat → Int32 → Int32 → WW → Option ((Option Nat ⊕ String) × WW)) (g_pa_readStatement : Nat → Int32 → WW → Option ((Option Nat ⊕ String) × WW)) (g_pa_readRest : Nat → Option Nat → Int32 → WW → Option ((Unit ⊕ String) × WW)) (g_pa_readBlock : Nat → Int32 → WW → Option ((Option Nat ⊕ String) × WW))  (y3 : Option Nat) (w : WW) : Option ((Option Nat ⊕ String) × WW) :=
  some (.inl y3, w)
def f_pa_readStatements_48 (g_pa_readStatements : Nat → Int32 → Int32 → WW → Option ((Option Nat ⊕ String) × WW)) (g_pa_readStatement : Nat → Int32 → WW → Option ((Option Nat ⊕ String) × WW)) (g_pa_readRest : Nat → Option Nat → Int32 → WW → Option ((Unit ⊕ String) × WW)) (g_pa_readBlock : Nat → Int32 → WW → Option ((Option Nat ⊕ String) × WW)) (k_8 : Nat → Int32 → Int32 → Option Nat → Option Nat → Int32 → WW → Option ((Option Nat ⊕ String) × WW)) (y0 : Nat) (y1 : Int32) (y2 : Int32) (y3 : Option Nat) (y5 : Int32) (y6 : Option Nat) (w : WW) : Option ((Option Nat ⊕ String) × WW) :=
  k_8 y0 y1 y2 y3 y6 (y5 + (1 : Int32)) w
def f_pa_readStatements_8 (g_pa_readStatements : Nat → Int32 → Int32 → WW → Option ((Option Nat ⊕ String) × WW)) (g_pa_readStatement : Nat → Int32 → WW → Option ((Option Nat ⊕ String) × WW)) (g_pa_readRest : Nat → Option Nat → Int32 → WW → Option ((Unit ⊕ String) × WW)) (g_pa_readBlock : Nat → Int32 → WW → Option ((Option Nat ⊕ String) × WW))  : Nat → Nat → Int32 → Int32 → Option Nat → Option Nat → Int32 → WW → Option ((Option Nat ⊕ String) × WW)
  | 0, _, _, _, _, _, _, _ => none
  | n + 1, y0, y1, y2, y3, y4, y5, w =>
    if (50 : Int32) < y5 then
      f_pa_readStatements_58 g_pa_readStatements g_pa_readStatement g_pa_readRest g_pa_readBlock y3 w
    else
      bd2 (f_pa_kindHere y0 w) fun x3 w2 =>
      if x3 = y1 then
        f_pa_readStatements_58 g_pa_readStatements g_pa_readStatement g_pa_readRest g_pa_readBlock y3 w2
      else
        bdx (g_pa_readStatement y0 y2 w2) fun x6 w5 =>
        nl y4
          (f_pa_readStatements_48 g_pa_readStatements g_pa_readStatement g_pa_readRest g_pa_readBlock (f_pa_readStatements_8 g_pa_readStatements g_pa_readStatement g_pa_readRest g_pa_readBlock n) y0 y1 y2 x6 y5 x6 w5)
          fun x7 =>
            (pv w5 x7 4 9 (va_rf x6)).bind fun w8 =>
            f_pa_readStatements_48 g_pa_readStatements g_pa_readStatement g_pa_readRest g_pa_readBlock (f_pa_readStatements_8 g_pa_readStatements g_pa_readStatement g_pa_readRest g_pa_readBlock n) y0 y1 y2 y3 y5 x6 w8
def fo_pa_readStatements (g_pa_readStatements : Nat → Int32 → Int32 → WW → Option ((Option Nat ⊕ String) × WW)) (g_pa_readStatement : Nat → Int32 → WW → Option ((Option Nat ⊕ String) × WW)) (g_pa_readRest : Nat → Option Nat → Int32 → WW → Option ((Unit ⊕ String) × WW)) (g_pa_readBlock : Nat → Int32 → WW → Option ((Option Nat ⊕ String) × WW)) (a0 : Nat) (a1 : Int32) (a2 : Int32) (w : WW) : Option ((Option Nat ⊕ String) × WW) :=
  if kb w a0 2 = true then
    f_pa_readStatements_8 g_pa_readStatements g_pa_readStatement g_pa_readRest g_pa_readBlock KK a0 a1 a2 none none (0 : Int32) w
  else none
def f_pa_readStatement_109 (g_pa_readStatements : Nat → Int32 → Int32 → WW → Option ((Option Nat ⊕ String) × WW)) (g_pa_readStatement : Nat → Int32 → WW → Option ((Option Nat ⊕ String) × WW)) (g_pa_readRest : Nat → Option Nat → Int32 → WW → Option ((Unit ⊕ String) × WW)) (g_pa_readBlock : Nat → Int32 → WW → Option ((Option Nat ⊕ String) × WW))  (y3 : Nat) (w : WW) : Option ((Option Nat ⊕ String) × WW) :=
  some (.inl (some y3), w)
def f_pa_readStatement_28 (g_pa_readStatements : Nat → Int32 → Int32 → WW → Option ((Option Nat ⊕ String) × WW)) (g_pa_readStatement : Nat → Int32 → WW → Option ((Option Nat ⊕ String) × WW)) (g_pa_readRest : Nat → Option Nat → Int32 → WW → Option ((Unit ⊕ String) × WW)) (g_pa_readBlock : Nat → Int32 → WW → Option ((Option Nat ⊕ String) × WW))  (y0 : Nat) (y1 : Int32) (y2 : Int32) (z0 : Nat) (z1 : Int32) (w : WW) : Option ((Option Nat ⊕ String) × WW) :=
  bdx (f_pa_need z0 z1 w) fun x7 w6 =>
  (gR w6 y0 2 2).bind fun x8 =>
  x8.bind fun x9 =>
  bd2 (f_pg_newStatement x9 w6) fun x11 w10 =>
  (gN w10 y0 2 0).bind fun x12 =>
  (gN w10 x12 1 2).bind fun x13 =>
  (gI w10 y0 2 1).bind fun x14 =>
  (rI w10 x13 0 x14).bind fun x15 =>
  (gN w10 y0 2 0).bind fun x16 =>
  (gN w10 x16 1 3).bind fun x17 =>
  (gI w10 y0 2 1).bind fun x18 =>
  (rI w10 x17 0 x18).bind fun x19 =>
  x11.bind fun x20 =>
  (f_st_begin x20 y2 x15 x19 w10).bind fun w21 =>
  (f_pa_advance y0 w21).bind fun w22 =>
  if y2 = (2 : Int32) then
    bdx (f_pa_readAssignment y0 (some x20) w22) fun x32 w31 =>
    f_pa_readStatement_109 g_pa_readStatements g_pa_readStatement g_pa_readRest g_pa_readBlock x20 w31
  else
    if y2 = (3 : Int32) then
      bdx (f_pa_readStore y0 (some x20) w22) fun x30 w29 =>
      f_pa_readStatement_109 g_pa_readStatements g_pa_readStatement g_pa_readRest g_pa_readBlock x20 w29
    else
      bdx (f_pa_readCond y0 (some x20) w22) fun x26 w25 =>
      bdx (g_pa_readRest y0 (some x20) y1 w25) fun x28 w27 =>
      f_pa_readStatement_109 g_pa_readStatements g_pa_readStatement g_pa_readRest g_pa_readBlock x20 w27
def f_pa_readStatement_27 (g_pa_readStatements : Nat → Int32 → Int32 → WW → Option ((Option Nat ⊕ String) × WW)) (g_pa_readStatement : Nat → Int32 → WW → Option ((Option Nat ⊕ String) × WW)) (g_pa_readRest : Nat → Option Nat → Int32 → WW → Option ((Unit ⊕ String) × WW)) (g_pa_readBlock : Nat → Int32 → WW → Option ((Option Nat ⊕ String) × WW))  (y0 : Nat) (y1 : Int32) (y2 : Int32) (z0 : Nat) (w : WW) : Option ((Option Nat ⊕ String) × WW) :=
  f_pa_readStatement_28 g_pa_readStatements g_pa_readStatement g_pa_readRest g_pa_readBlock y0 y1 y2 z0 (0 : Int32) w
def fo_pa_readStatement (g_pa_readStatements : Nat → Int32 → Int32 → WW → Option ((Option Nat ⊕ String) × WW)) (g_pa_readStatement : Nat → Int32 → WW → Option ((Option Nat ⊕ String) × WW)) (g_pa_readRest : Nat → Option Nat → Int32 → WW → Option ((Unit ⊕ String) × WW)) (g_pa_readBlock : Nat → Int32 → WW → Option ((Option Nat ⊕ String) × WW)) (a0 : Nat) (a1 : Int32) (w : WW) : Option ((Option Nat ⊕ String) × WW) :=
  if kb w a0 2 = true then
    bd2 (f_pa_kindHere a0 w) fun x2 w1 =>
    bd2 (f_pa_beginsStatement x2 w1) fun x4 w3 =>
    if x4 = 0 then
      f_pa_readStatement_27 g_pa_readStatements g_pa_readStatement g_pa_readRest g_pa_readBlock a0 a1 x2 a0 w3
    else
      (gR w3 a0 2 2).bind fun x33 =>
      x33.bind fun x34 =>
      bd2 (f_pg_isFull x34 w3) fun x36 w35 =>
      if x36 = 0 then
        f_pa_readStatement_28 g_pa_readStatements g_pa_readStatement g_pa_readRest g_pa_readBlock a0 a1 x2 a0 (1 : Int32) w35
      else
        f_pa_readStatement_27 g_pa_readStatements g_pa_readStatement g_pa_readRest g_pa_readBlock a0 a1 x2 a0 w35
  else none
def f_pa_readRest_58 (g_pa_readStatements : Nat → Int32 → Int32 → WW → Option ((Option Nat ⊕ String) × WW)) (g_pa_readStatement : Nat → Int32 → WW → Option ((Option Nat ⊕ String) × WW)) (g_pa_readRest : Nat → Option Nat → Int32 → WW → Option ((Unit ⊕ String) × WW)) (g_pa_readBlock : Nat → Int32 → WW → Option ((Option Nat ⊕ String) × WW))   (w : WW) : Option ((Unit ⊕ String) × WW) :=
  some (.inl (), w)
def fo_pa_readRest (g_pa_readStatements : Nat → Int32 → Int32 → WW → Option ((Option Nat ⊕ String) × WW)) (g_pa_readStatement : Nat → Int32 → WW → Option ((Option Nat ⊕ String) × WW)) (g_pa_readRest : Nat → Option Nat → Int32 → WW → Option ((Unit ⊕ String) × WW)) (g_pa_readBlock : Nat → Int32 → WW → Option ((Option Nat ⊕ String) × WW)) (a0 : Nat) (a1 : Option Nat) (a2 : Int32) (w : WW) : Option ((Unit ⊕ String) × WW) :=
  if kb w a0 2 = true then
    a1.bind fun x1 =>
    (gI w x1 4 0).bind fun x2 =>
    if x2 = (7 : Int32) then
      bdx (f_pa_take a0 (59 : Int32) w) fun x17 w16 =>
      some (.inl (), w16)
    else
      bdx (g_pa_readBlock a0 (a2 + (1 : Int32)) w) fun x5 w4 =>
      (pv w4 x1 4 7 (va_rf x5)).bind fun w6 =>
      (gI w6 x1 4 0).bind fun x7 =>
      if x7 = (4 : Int32) then
        bd2 (f_pa_kindHere a0 w6) fun x10 w9 =>
        if x10 = (5 : Int32) then
          (f_pa_advance a0 w9).bind fun w12 =>
          bdx (g_pa_readBlock a0 (a2 + (1 : Int32)) w12) fun x14 w13 =>
          (pv w13 x1 4 8 (va_rf x14)).bind fun w15 =>
          f_pa_readRest_58 g_pa_readStatements g_pa_readStatement g_pa_readRest g_pa_readBlock w15
        else
          f_pa_readRest_58 g_pa_readStatements g_pa_readStatement g_pa_readRest g_pa_readBlock w9
      else
        f_pa_readRest_58 g_pa_readStatements g_pa_readStatement g_pa_readRest g_pa_readBlock w6
  else none
def f_pa_readBlock_11 (g_pa_readStatements : Nat → Int32 → Int32 → WW → Option ((Option Nat ⊕ String) × WW)) (g_pa_readStatement : Nat → Int32 → WW → Option ((Option Nat ⊕ String) × WW)) (g_pa_readRest : Nat → Option Nat → Int32 → WW → Option ((Unit ⊕ String) × WW)) (g_pa_readBlock : Nat → Int32 → WW → Option ((Option Nat ⊕ String) × WW))  (y0 : Nat) (y1 : Int32) (z0 : Nat) (z1 : Int32) (w : WW) : Option ((Option Nat ⊕ String) × WW) :=
  bdx (f_pa_need z0 z1 w) fun x3 w2 =>
  bdx (f_pa_take y0 (123 : Int32) w2) fun x5 w4 =>
  bdx (g_pa_readStatements y0 (125 : Int32) y1 w4) fun x7 w6 =>
  bdx (f_pa_take y0 (125 : Int32) w6) fun x9 w8 =>
  some (.inl x7, w8)
def fo_pa_readBlock (g_pa_readStatements : Nat → Int32 → Int32 → WW → Option ((Option Nat ⊕ String) × WW)) (g_pa_readStatement : Nat → Int32 → WW → Option ((Option Nat ⊕ String) × WW)) (g_pa_readRest : Nat → Option Nat → Int32 → WW → Option ((Unit ⊕ String) × WW)) (g_pa_readBlock : Nat → Int32 → WW → Option ((Option Nat ⊕ String) × WW)) (a0 : Nat) (a1 : Int32) (w : WW) : Option ((Option Nat ⊕ String) × WW) :=
  if kb w a0 2 = true then
    if (3 : Int32) < a1 then
      f_pa_readBlock_11 g_pa_readStatements g_pa_readStatement g_pa_readRest g_pa_readBlock a0 a1 a0 (0 : Int32) w
    else
      f_pa_readBlock_11 g_pa_readStatements g_pa_readStatement g_pa_readRest g_pa_readBlock a0 a1 a0 (1 : Int32) w
  else none
def sc_pa4 : Nat → (Nat → Int32 → Int32 → WW → Option ((Option Nat ⊕ String) × WW)) × (Nat → Int32 → WW → Option ((Option Nat ⊕ String) × WW)) × (Nat → Option Nat → Int32 → WW → Option ((Unit ⊕ String) × WW)) × (Nat → Int32 → WW → Option ((Option Nat ⊕ String) × WW))
  | 0 => (fun _ _ _ _ => none, fun _ _ _ => none, fun _ _ _ _ => none, fun _ _ _ => none)
  | d + 1 => (fo_pa_readStatements (sc_pa4 d).1 (sc_pa4 d).2.1 (sc_pa4 d).2.2.1 (sc_pa4 d).2.2.2, fo_pa_readStatement (sc_pa4 d).1 (sc_pa4 d).2.1 (sc_pa4 d).2.2.1 (sc_pa4 d).2.2.2, fo_pa_readRest (sc_pa4 d).1 (sc_pa4 d).2.1 (sc_pa4 d).2.2.1 (sc_pa4 d).2.2.2, fo_pa_readBlock (sc_pa4 d).1 (sc_pa4 d).2.1 (sc_pa4 d).2.2.1 (sc_pa4 d).2.2.2)
def f_pa_readStatements (d : Nat) : Nat → Int32 → Int32 → WW → Option ((Option Nat ⊕ String) × WW) := (sc_pa4 d).1
def f_pa_readStatement (d : Nat) : Nat → Int32 → WW → Option ((Option Nat ⊕ String) × WW) := (sc_pa4 d).2.1
def f_pa_readRest (d : Nat) : Nat → Option Nat → Int32 → WW → Option ((Unit ⊕ String) × WW) := (sc_pa4 d).2.2.1
def f_pa_readBlock (d : Nat) : Nat → Int32 → WW → Option ((Option Nat ⊕ String) × WW) := (sc_pa4 d).2.2.2
def f_pa_readProgram (a0 : Nat) (a1 : Nat) (w : WW) : Option ((Unit ⊕ String) × WW) :=
  if kb w a0 2 = true then
    (pv w a0 2 2 (.ref a1)).bind fun w1 =>
    (gR w1 a0 2 2).bind fun x2 =>
    x2.bind fun x3 =>
    (f_pg_empty x3 w1).bind fun w4 =>
    (pv w4 a0 2 3 (.int (-2 : Int32))).bind fun w5 =>
    (gN w5 a0 2 0).bind fun x6 =>
    (f_rd_readAll x6 w5).bind fun w7 =>
    (pv w7 a0 2 1 (.int (0 : Int32))).bind fun w8 =>
    (gR w8 a0 2 2).bind fun x9 =>
    bdx (f_pa_readStatements 64 a0 (0 : Int32) (0 : Int32) w8) fun x11 w10 =>
    x9.bind fun x12 =>
    (pv w10 x12 3 6 (va_rf x11)).bind fun w13 =>
    some (.inl (), w13)
  else none
def f_a_parse (a0 : Nat) (w : WW) : Option ((Int32 ⊕ String) × WW) :=
  if kb w a0 0 = true then
    (gN w a0 0 2).bind fun x1 =>
    (gN w a0 0 5).bind fun x2 =>
    bdx (f_pa_readProgram x1 x2 w) fun x4 w3 =>
    (gN w3 a0 0 4).bind fun x5 =>
    (gN w3 a0 0 5).bind fun x6 =>
    (pv w3 a0 0 4 (.ref x6)).bind fun w7 =>
    (pv w7 a0 0 5 (.ref x5)).bind fun w8 =>
    if (1 : Int32) = 0 ∨ (1 : Int32) = 1 then
      (pv w8 a0 0 6 (.int (1 : Int32))).bind fun w9 =>
      (gN w9 a0 0 4).bind fun x11 =>
      (gI w9 x11 3 1).bind fun x12 =>
      some (.inl x12, w9)
    else none
  else none
def f_a_choose_18   (w : WW) : Option ((Int32 ⊕ String) × WW) :=
  some (.inr "java/lang/IllegalArgumentException", w)
def f_a_choose_53  (y3 : Int32) (w : WW) : Option ((Int32 ⊕ String) × WW) :=
  some (.inl y3, w)
def f_a_choose (a0 : Nat) (a1 : Int32) (a2 : Int32) (w : WW) : Option ((Int32 ⊕ String) × WW) :=
  if kb w a0 0 = true then
    if a1 < 0 then
      f_a_choose_18 w
    else
      if (1 : Int32) < a1 then
        f_a_choose_18 w
      else
        if a2 < 0 then
          f_a_choose_18 w
        else
          if a2 ≤ (5 : Int32) then
            if a1 = 0 then
              (gI w a0 0 0).bind fun x8 =>
              (pv w a0 0 0 (.int a2)).bind fun w9 =>
              f_a_choose_53 x8 w9
            else
              (gI w a0 0 1).bind fun x6 =>
              (pv w a0 0 1 (.int a2)).bind fun w7 =>
              f_a_choose_53 x6 w7
          else
            f_a_choose_18 w
  else none
def f_ru_addInput_29   (w : WW) : Option WW :=
  some w
def f_ru_addInput (a0 : Nat) (a1 : Int32) (w : WW) : Option WW :=
  if kb w a0 5 = true then
    (gI w a0 5 5).bind fun x1 =>
    if (8 : Int32) ≤ x1 then
      f_ru_addInput_29 w
    else
      (gN w a0 5 4).bind fun x3 =>
      (gI w a0 5 5).bind fun x4 =>
      (sI w x3 0 x4 a1).bind fun w5 =>
      (gI w5 a0 5 5).bind fun x6 =>
      (pv w5 a0 5 5 (.int (x6 + (1 : Int32)))).bind fun w7 =>
      f_ru_addInput_29 w7
  else none
def f_a_input (a0 : Nat) (a1 : Int32) (w : WW) : Option ((Int32 ⊕ String) × WW) :=
  if kb w a0 0 = true then
    (gN w a0 0 7).bind fun x1 =>
    (gI w x1 5 5).bind fun x2 =>
    if x2 < (8 : Int32) then
      (gN w a0 0 7).bind fun x4 =>
      (f_ru_addInput x4 a1 w).bind fun w5 =>
      (gN w5 a0 0 7).bind fun x6 =>
      (gI w5 x6 5 5).bind fun x7 =>
      some (.inl x7, w5)
    else
      some (.inr "java/lang/IllegalStateException", w)
  else none
def f_ru_begin_30  : Nat → Nat → Int32 → WW → Option WW
  | 0, _, _, _ => none
  | n + 1, y0, y1, w =>
    if (8 : Int32) ≤ y1 then
      (pv w y0 5 8 (.int (0 : Int32))).bind fun w3 =>
      (pv w3 y0 5 9 (.int (0 : Int32))).bind fun w4 =>
      (pv w4 y0 5 10 (.int (0 : Int32))).bind fun w5 =>
      some w5
    else
      (gN w y0 5 2).bind fun x6 =>
      (sI w x6 0 y1 (0 : Int32)).bind fun w7 =>
      f_ru_begin_30 n y0 (y1 + (1 : Int32)) w7
def f_ru_begin_2  : Nat → Nat → Int32 → WW → Option WW
  | 0, _, _, _ => none
  | n + 1, y0, y1, w =>
    if (6 : Int32) ≤ y1 then
      f_ru_begin_30 KK y0 (0 : Int32) w
    else
      (gN w y0 5 0).bind fun x8 =>
      (sI w x8 0 y1 (0 : Int32)).bind fun w9 =>
      (gN w9 y0 5 1).bind fun x10 =>
      (sI w9 x10 2 y1 (vp_nar .boolean (1 : Int32))).bind fun w11 =>
      f_ru_begin_2 n y0 (y1 + (1 : Int32)) w11
def f_ru_begin (a0 : Nat) (w : WW) : Option WW :=
  if kb w a0 5 = true then
    f_ru_begin_2 KK a0 (0 : Int32) w
  else none
def f_ru_mayBegin (a0 : Nat) (w : WW) : Option (Int32 × WW) :=
  if kb w a0 5 = true then
    (gI w a0 5 8).bind fun x1 =>
    (gI w a0 5 7).bind fun x2 =>
    if x1 < x2 then
      (gI w a0 5 8).bind fun x4 =>
      (pv w a0 5 8 (.int (x4 + (1 : Int32)))).bind fun w5 =>
      if (1 : Int32) = 0 ∨ (1 : Int32) = 1 then some ((1 : Int32), w5) else none
    else
      if (0 : Int32) = 0 ∨ (0 : Int32) = 1 then some ((0 : Int32), w) else none
  else none
def f_pg_growthOf_17   (w : WW) : Option (Int32 × WW) :=
  some ((1 : Int32), w)
def f_pg_growthOf_36  (z0 : Int32) (w : WW) : Option (Int32 × WW) :=
  some (z0, w)
def f_pg_growthOf_31   (w : WW) : Option (Int32 × WW) :=
  f_pg_growthOf_36 (0 : Int32) w
def f_pg_growthOf (a0 : Nat) (a1 : Int32) (w : WW) : Option (Int32 × WW) :=
  if kb w a0 3 = true then
    (gN w a0 3 2).bind fun x1 =>
    (rI w x1 0 a1).bind fun x2 =>
    if x2 = (1 : Int32) then
      f_pg_growthOf_17 w
    else
      if x2 = (2 : Int32) then
        f_pg_growthOf_17 w
      else
        if x2 = (3 : Int32) then
          f_pg_growthOf_31 w
        else
          if x2 = (259 : Int32) then
            f_pg_growthOf_31 w
          else
            f_pg_growthOf_36 (-1 : Int32) w
  else none
def f_ru_fail (a0 : Nat) (a1 : Int32) (a2 : Int32) (w : WW) : Option ((Unit ⊕ String) × WW) :=
  if kb w a0 5 = true then
    (pv w a0 5 10 (.int (((1024 : Int32) * a1) + a2))).bind fun w1 =>
    if a1 = (1 : Int32) then
      some (.inr "java/lang/IllegalStateException", w1)
    else
      if a1 = (2 : Int32) then
        some (.inr "java/lang/IndexOutOfBoundsException", w1)
      else
        if a1 = (3 : Int32) then
          some (.inr "java/lang/ArithmeticException", w1)
        else
          if a1 = (4 : Int32) then
            some (.inr "java/lang/ArithmeticException", w1)
          else
            if a1 = (5 : Int32) then
              some (.inr "java/lang/UnsupportedOperationException", w1)
            else
              some (.inr "java/lang/ArithmeticException", w1)
  else none
def f_ru_cellOf_15  (y1 : Int32) (y2 : Int32) (w : WW) : Option ((Int32 ⊕ String) × WW) :=
  some (.inl (y1 + y2), w)
def f_ru_cellOf_9  (y0 : Nat) (y1 : Int32) (y2 : Int32) (y3 : Int32) (w : WW) : Option ((Int32 ⊕ String) × WW) :=
  bdx (f_ru_fail y0 (2 : Int32) y3 w) fun x3 w2 =>
  f_ru_cellOf_15 y1 y2 w2
def f_ru_cellOf (a0 : Nat) (a1 : Int32) (a2 : Int32) (a3 : Int32) (w : WW) : Option ((Int32 ⊕ String) × WW) :=
  if kb w a0 5 = true then
    if a2 < 0 then
      f_ru_cellOf_9 a0 a1 a2 a3 w
    else
      if a2 < (4 : Int32) then
        f_ru_cellOf_15 a1 a2 w
      else
        f_ru_cellOf_9 a0 a1 a2 a3 w
  else none
def f_ru_intOf_22  (y1 : Int64) (w : WW) : Option ((Int32 ⊕ String) × WW) :=
  some (.inl (Int64.toInt32 y1), w)
def f_ru_intOf_16  (y0 : Nat) (y1 : Int64) (y3 : Int32) (w : WW) : Option ((Int32 ⊕ String) × WW) :=
  bdx (f_ru_fail y0 (3 : Int32) y3 w) fun x3 w2 =>
  f_ru_intOf_22 y1 w2
def f_ru_intOf (a0 : Nat) (a1 : Int64) (a3 : Int32) (w : WW) : Option ((Int32 ⊕ String) × WW) :=
  if kb w a0 5 = true then
    if a1 < (-2147483648 : Int64) then
      f_ru_intOf_16 a0 a1 a3 w
    else
      if a1 ≤ (2147483647 : Int64) then
        f_ru_intOf_22 a1 w
      else
        f_ru_intOf_16 a0 a1 a3 w
  else none
def f_ru_divide_33  (z0 : Int64) (w : WW) : Option ((Int64 ⊕ String) × WW) :=
  some (.inl z0, w)
def f_ru_divide (a0 : Nat) (a1 : Int32) (a2 : Int64) (a4 : Int64) (a6 : Int32) (w : WW) : Option ((Int64 ⊕ String) × WW) :=
  if kb w a0 5 = true then
    if a4 = (0 : Int64) then
      bdx (f_ru_fail a0 (4 : Int32) a6 w) fun x6 w5 =>
      some (.inl (0 : Int64), w5)
    else
      if a1 = (47 : Int32) then
        if ¬ a4 = 0 then
          f_ru_divide_33 (a2 / a4) w
        else none
      else
        if ¬ a4 = 0 then
          f_ru_divide_33 (a2 - a2 / a4 * a4) w
        else none
  else none
def f_ru_combine_28  (z0 : Int64) (w : WW) : Option (Int64 × WW) :=
  some (z0, w)
def f_ru_combine (a0 : Nat) (a1 : Int32) (a2 : Int64) (a4 : Int64) (w : WW) : Option (Int64 × WW) :=
  if kb w a0 5 = true then
    if a1 = (43 : Int32) then
      some ((a2 + a4), w)
    else
      if a1 = (45 : Int32) then
        f_ru_combine_28 (a2 - a4) w
      else
        f_ru_combine_28 (a2 * a4) w
  else none
def f_ru_doStep_112  (y0 : Nat) (y4 : Int32) (w : WW) : Option ((Int32 ⊕ String) × WW) :=
  (gN w y0 5 0).bind fun x18 =>
  (rI w x18 0 y4).bind fun x19 =>
  some (.inl x19, w)
def f_ru_doStep (a0 : Nat) (a1 : Int32) (a2 : Int32) (a3 : Int32) (w : WW) : Option ((Int32 ⊕ String) × WW) :=
  if kb w a0 5 = true then
    (gR w a0 5 6).bind fun x1 =>
    x1.bind fun x2 =>
    (gN w x2 3 3).bind fun x3 =>
    (rI w x3 0 a1).bind fun x4 =>
    (gR w a0 5 6).bind fun x5 =>
    x5.bind fun x6 =>
    (gN w x6 3 4).bind fun x7 =>
    (rI w x7 0 a1).bind fun x8 =>
    (gR w a0 5 6).bind fun x9 =>
    x9.bind fun x10 =>
    (gN w x10 3 2).bind fun x11 =>
    (rI w x11 0 a1).bind fun x12 =>
    if x12 = (1 : Int32) then
      some (.inl x4, w)
    else
      if x12 = (2 : Int32) then
        (gN w a0 5 1).bind fun x15 =>
        (rI w x15 2 x4).bind fun x16 =>
        if x16 = 0 then
          f_ru_doStep_112 a0 x4 w
        else
          bdx (f_ru_fail a0 (1 : Int32) x8 w) fun x21 w20 =>
          f_ru_doStep_112 a0 x4 w20
      else
        if x12 = (3 : Int32) then
          (gN w a0 5 2).bind fun x23 =>
          bdx (f_ru_cellOf a0 x4 a2 x8 w) fun x25 w24 =>
          (rI w24 x23 0 x25).bind fun x26 =>
          some (.inl x26, w24)
        else
          if x12 = (37 : Int32) then
            bdx (f_ru_divide a0 x12 (Int32.toInt64 a2) (Int32.toInt64 a3) x8 w) fun x29 w28 =>
            bdx (f_ru_intOf a0 x29 x8 w28) fun x31 w30 =>
            some (.inl x31, w30)
          else
            if x12 = (47 : Int32) then
              bdx (f_ru_divide a0 x12 (Int32.toInt64 a2) (Int32.toInt64 a3) x8 w) fun x34 w33 =>
              bdx (f_ru_intOf a0 x34 x8 w33) fun x36 w35 =>
              some (.inl x36, w35)
            else
              if x12 = (259 : Int32) then
                bdx (f_ru_intOf a0 (-(Int32.toInt64 a2)) x8 w) fun x39 w38 =>
                some (.inl x39, w38)
              else
                bd2 (f_ru_combine a0 x12 (Int32.toInt64 a2) (Int32.toInt64 a3) w) fun x41 w40 =>
                bdx (f_ru_intOf a0 x41 x8 w40) fun x43 w42 =>
                some (.inl x43, w42)
  else none
def f_ru_workOut_39   (w : WW) : Option ((Int32 ⊕ String) × WW) :=
  some (.inl (0 : Int32), w)
def f_ru_workOut_6  : Nat → Nat → Int32 → Int32 → Int32 → Int32 → WW → Option ((Int32 ⊕ String) × WW)
  | 0, _, _, _, _, _, _ => none
  | n + 1, y0, y2, y3, y4, y5, w =>
    if y2 ≤ y5 then
      (gN w y0 5 3).bind fun x2 =>
      (rI w x2 0 y3).bind fun x3 =>
      some (.inl x3, w)
    else
      (gR w y0 5 6).bind fun x4 =>
      x4.bind fun x5 =>
      bd2 (f_pg_growthOf x5 y5 w) fun x7 w6 =>
      if (y4 + x7) < (1 : Int32) then
        f_ru_workOut_39 w6
      else
        if (y4 + x7) < (25 : Int32) then
          (gN w6 y0 5 3).bind fun x10 =>
          (gN w6 y0 5 3).bind fun x11 =>
          (rI w6 x11 0 ((y4 + x7) - (1 : Int32))).bind fun x12 =>
          (gN w6 y0 5 3).bind fun x13 =>
          (rI w6 x13 0 (y4 + x7)).bind fun x14 =>
          bdx (f_ru_doStep y0 y5 x12 x14 w6) fun x16 w15 =>
          (sI w15 x10 0 ((y4 + x7) - (1 : Int32)) x16).bind fun w17 =>
          f_ru_workOut_6 n y0 y2 y3 (y4 + x7) (y5 + (1 : Int32)) w17
        else
          f_ru_workOut_39 w6
def f_ru_workOut (a0 : Nat) (a1 : Int32) (a2 : Int32) (a3 : Int32) (w : WW) : Option ((Int32 ⊕ String) × WW) :=
  if kb w a0 5 = true then
    f_ru_workOut_6 KK a0 a2 a3 a3 a1 w
  else none
def f_ru_assign (a0 : Nat) (a1 : Int32) (a2 : Int32) (w : WW) : Option WW :=
  if kb w a0 5 = true then
    (gN w a0 5 0).bind fun x1 =>
    (sI w x1 0 a1 a2).bind fun w2 =>
    (gN w2 a0 5 1).bind fun x3 =>
    (sI w2 x3 2 a1 (vp_nar .boolean (0 : Int32))).bind fun w4 =>
    some w4
  else none
def f_ru_nextInput (a0 : Nat) (w : WW) : Option (Int32 × WW) :=
  if kb w a0 5 = true then
    (gI w a0 5 9).bind fun x1 =>
    (gI w a0 5 5).bind fun x2 =>
    if x1 < x2 then
      (gI w a0 5 9).bind fun x4 =>
      (pv w a0 5 9 (.int (x4 + (1 : Int32)))).bind fun w5 =>
      (gN w5 a0 5 4).bind fun x6 =>
      (gI w5 a0 5 9).bind fun x7 =>
      (rI w5 x6 0 (x7 - (1 : Int32))).bind fun x8 =>
      some (x8, w5)
    else
      some ((0 : Int32), w)
  else none
def f_ru_store (a0 : Nat) (a1 : Option Nat) (w : WW) : Option ((Unit ⊕ String) × WW) :=
  if kb w a0 5 = true then
    a1.bind fun x1 =>
    (gI w x1 4 2).bind fun x2 =>
    (gI w x1 4 3).bind fun x3 =>
    (gI w x1 4 4).bind fun x4 =>
    bdx (f_ru_workOut a0 x3 x4 (0 : Int32) w) fun x6 w5 =>
    (gI w5 x1 4 1).bind fun x7 =>
    bdx (f_ru_cellOf a0 x2 x6 x7 w5) fun x9 w8 =>
    (gN w8 a0 5 2).bind fun x10 =>
    (gI w8 x1 4 4).bind fun x11 =>
    (gI w8 x1 4 5).bind fun x12 =>
    bdx (f_ru_workOut a0 x11 x12 (0 : Int32) w8) fun x14 w13 =>
    (sI w13 x10 0 x9 x14).bind fun w15 =>
    some (.inl (), w15)
  else none
def f_ru_holds_100  (z0 : Int32) (w : WW) : Option ((Int32 ⊕ String) × WW) :=
  if z0 = 0 ∨ z0 = 1 then some (.inl z0, w) else none
def f_ru_holds_78  (z0 : Int32) (w : WW) : Option ((Int32 ⊕ String) × WW) :=
  if z0 = 0 ∨ z0 = 1 then some (.inl z0, w) else none
def f_ru_holds_89  (z0 : Int32) (w : WW) : Option ((Int32 ⊕ String) × WW) :=
  if z0 = 0 ∨ z0 = 1 then some (.inl z0, w) else none
def f_ru_holds_111  (z0 : Int32) (w : WW) : Option ((Int32 ⊕ String) × WW) :=
  if z0 = 0 ∨ z0 = 1 then some (.inl z0, w) else none
def f_ru_holds (a0 : Nat) (a1 : Option Nat) (w : WW) : Option ((Int32 ⊕ String) × WW) :=
  if kb w a0 5 = true then
    a1.bind fun x1 =>
    (gI w x1 4 3).bind fun x2 =>
    (gI w x1 4 4).bind fun x3 =>
    bdx (f_ru_workOut a0 x2 x3 (0 : Int32) w) fun x5 w4 =>
    (gI w4 x1 4 4).bind fun x6 =>
    (gI w4 x1 4 5).bind fun x7 =>
    bdx (f_ru_workOut a0 x6 x7 (1 : Int32) w4) fun x9 w8 =>
    (gI w8 x1 4 6).bind fun x10 =>
    if x10 = (60 : Int32) then
      if x9 ≤ x5 then
        f_ru_holds_100 (0 : Int32) w8
      else
        f_ru_holds_100 (1 : Int32) w8
    else
      if x10 = (256 : Int32) then
        if x5 = x9 then
          f_ru_holds_78 (1 : Int32) w8
        else
          f_ru_holds_78 (0 : Int32) w8
      else
        if x10 = (257 : Int32) then
          if x5 = x9 then
            f_ru_holds_89 (0 : Int32) w8
          else
            f_ru_holds_89 (1 : Int32) w8
        else
          if x9 < x5 then
            f_ru_holds_111 (0 : Int32) w8
          else
            f_ru_holds_111 (1 : Int32) w8
  else none
def f_ru_doStatements_29 (g_ru_doStatements : Nat → Option Nat → Int32 → WW → Option ((Int32 ⊕ String) × WW)) (g_ru_doStatement : Nat → Option Nat → Int32 → WW → Option ((Int32 ⊕ String) × WW)) (g_ru_doWhile : Nat → Option Nat → Int32 → WW → Option ((Int32 ⊕ String) × WW))   (w : WW) : Option ((Int32 ⊕ String) × WW) :=
  if (0 : Int32) = 0 ∨ (0 : Int32) = 1 then some (.inl (0 : Int32), w) else none
def f_ru_doStatements_9 (g_ru_doStatements : Nat → Option Nat → Int32 → WW → Option ((Int32 ⊕ String) × WW)) (g_ru_doStatement : Nat → Option Nat → Int32 → WW → Option ((Int32 ⊕ String) × WW)) (g_ru_doWhile : Nat → Option Nat → Int32 → WW → Option ((Int32 ⊕ String) × WW))  : Nat → Nat → Int32 → Option Nat → WW → Option ((Int32 ⊕ String) × WW)
  | 0, _, _, _, _ => none
  | n + 1, y0, y2, y3, w =>
    nl y3
      (if (1 : Int32) = 0 ∨ (1 : Int32) = 1 then some (.inl (1 : Int32), w) else none)
      fun x2 =>
        bd2 (f_ru_mayBegin y0 w) fun x5 w4 =>
        if x5 = 0 then
          f_ru_doStatements_29 g_ru_doStatements g_ru_doStatement g_ru_doWhile w4
        else
          bdx (g_ru_doStatement y0 (some x2) y2 w4) fun x9 w8 =>
          if x9 = 0 then
            f_ru_doStatements_29 g_ru_doStatements g_ru_doStatement g_ru_doWhile w8
          else
            (gR w8 x2 4 9).bind fun x11 =>
            f_ru_doStatements_9 g_ru_doStatements g_ru_doStatement g_ru_doWhile n y0 y2 x11 w8
def fo_ru_doStatements (g_ru_doStatements : Nat → Option Nat → Int32 → WW → Option ((Int32 ⊕ String) × WW)) (g_ru_doStatement : Nat → Option Nat → Int32 → WW → Option ((Int32 ⊕ String) × WW)) (g_ru_doWhile : Nat → Option Nat → Int32 → WW → Option ((Int32 ⊕ String) × WW)) (a0 : Nat) (a1 : Option Nat) (a2 : Int32) (w : WW) : Option ((Int32 ⊕ String) × WW) :=
  if kb w a0 5 = true then
    if a2 ≤ (3 : Int32) then
      f_ru_doStatements_9 g_ru_doStatements g_ru_doStatement g_ru_doWhile KK a0 a2 a1 w
    else
      if (0 : Int32) = 0 ∨ (0 : Int32) = 1 then some (.inl (0 : Int32), w) else none
  else none
def f_ru_doStatement_112 (g_ru_doStatements : Nat → Option Nat → Int32 → WW → Option ((Int32 ⊕ String) × WW)) (g_ru_doStatement : Nat → Option Nat → Int32 → WW → Option ((Int32 ⊕ String) × WW)) (g_ru_doWhile : Nat → Option Nat → Int32 → WW → Option ((Int32 ⊕ String) × WW))  (y2 : Int32) (z0 : Nat) (z1 : Option Nat) (w : WW) : Option ((Int32 ⊕ String) × WW) :=
  bdx (g_ru_doStatements z0 z1 (y2 + (1 : Int32)) w) fun x21 w20 =>
  if x21 = 0 ∨ x21 = 1 then some (.inl x21, w20) else none
def f_ru_doStatement_143 (g_ru_doStatements : Nat → Option Nat → Int32 → WW → Option ((Int32 ⊕ String) × WW)) (g_ru_doStatement : Nat → Option Nat → Int32 → WW → Option ((Int32 ⊕ String) × WW)) (g_ru_doWhile : Nat → Option Nat → Int32 → WW → Option ((Int32 ⊕ String) × WW))   (w : WW) : Option ((Int32 ⊕ String) × WW) :=
  if (1 : Int32) = 0 ∨ (1 : Int32) = 1 then some (.inl (1 : Int32), w) else none
def fo_ru_doStatement (g_ru_doStatements : Nat → Option Nat → Int32 → WW → Option ((Int32 ⊕ String) × WW)) (g_ru_doStatement : Nat → Option Nat → Int32 → WW → Option ((Int32 ⊕ String) × WW)) (g_ru_doWhile : Nat → Option Nat → Int32 → WW → Option ((Int32 ⊕ String) × WW)) (a0 : Nat) (a1 : Option Nat) (a2 : Int32) (w : WW) : Option ((Int32 ⊕ String) × WW) :=
  if kb w a0 5 = true then
    a1.bind fun x1 =>
    (gI w x1 4 0).bind fun x2 =>
    if x2 = (2 : Int32) then
      (gI w x1 4 2).bind fun x4 =>
      (gI w x1 4 3).bind fun x5 =>
      (gI w x1 4 5).bind fun x6 =>
      bdx (f_ru_workOut a0 x5 x6 (0 : Int32) w) fun x8 w7 =>
      (f_ru_assign a0 x4 x8 w7).bind fun w9 =>
      if (1 : Int32) = 0 ∨ (1 : Int32) = 1 then some (.inl (1 : Int32), w9) else none
    else
      if x2 = (3 : Int32) then
        bdx (f_ru_store a0 (some x1) w) fun x13 w12 =>
        if (1 : Int32) = 0 ∨ (1 : Int32) = 1 then some (.inl (1 : Int32), w12) else none
      else
        if x2 = (4 : Int32) then
          bdx (f_ru_holds a0 (some x1) w) fun x17 w16 =>
          if x17 = 0 then
            (gR w16 x1 4 8).bind fun x19 =>
            f_ru_doStatement_112 g_ru_doStatements g_ru_doStatement g_ru_doWhile a2 a0 x19 w16
          else
            (gR w16 x1 4 7).bind fun x23 =>
            f_ru_doStatement_112 g_ru_doStatements g_ru_doStatement g_ru_doWhile a2 a0 x23 w16
        else
          if x2 = (5 : Int32) then
            bdx (f_ru_holds a0 (some x1) w) fun x26 w25 =>
            if x26 = 0 then
              (gI w25 x1 4 1).bind fun x29 =>
              bdx (f_ru_fail a0 (5 : Int32) x29 w25) fun x31 w30 =>
              f_ru_doStatement_143 g_ru_doStatements g_ru_doStatement g_ru_doWhile w30
            else
              f_ru_doStatement_143 g_ru_doStatements g_ru_doStatement g_ru_doWhile w25
          else
            if x2 = (6 : Int32) then
              bdx (g_ru_doWhile a0 (some x1) a2 w) fun x34 w33 =>
              if x34 = 0 ∨ x34 = 1 then some (.inl x34, w33) else none
            else
              if x2 = (7 : Int32) then
                bdx (f_ru_holds a0 (some x1) w) fun x38 w37 =>
                if x38 = 0 then
                  (gI w37 x1 4 1).bind fun x40 =>
                  bdx (f_ru_fail a0 (5 : Int32) x40 w37) fun x42 w41 =>
                  f_ru_doStatement_143 g_ru_doStatements g_ru_doStatement g_ru_doWhile w41
                else
                  f_ru_doStatement_143 g_ru_doStatements g_ru_doStatement g_ru_doWhile w37
              else
                if x2 = (8 : Int32) then
                  (gI w x1 4 2).bind fun x44 =>
                  bd2 (f_ru_nextInput a0 w) fun x46 w45 =>
                  (f_ru_assign a0 x44 x46 w45).bind fun w47 =>
                  if (1 : Int32) = 0 ∨ (1 : Int32) = 1 then some (.inl (1 : Int32), w47) else none
                else
                  bdx (f_ru_holds a0 (some x1) w) fun x50 w49 =>
                  if x50 = 0 then
                    (gI w49 x1 4 1).bind fun x52 =>
                    bdx (f_ru_fail a0 (5 : Int32) x52 w49) fun x54 w53 =>
                    f_ru_doStatement_143 g_ru_doStatements g_ru_doStatement g_ru_doWhile w53
                  else
                    f_ru_doStatement_143 g_ru_doStatements g_ru_doStatement g_ru_doWhile w49
  else none
def f_ru_doWhile_40 (g_ru_doStatements : Nat → Option Nat → Int32 → WW → Option ((Int32 ⊕ String) × WW)) (g_ru_doStatement : Nat → Option Nat → Int32 → WW → Option ((Int32 ⊕ String) × WW)) (g_ru_doWhile : Nat → Option Nat → Int32 → WW → Option ((Int32 ⊕ String) × WW))   (w : WW) : Option ((Int32 ⊕ String) × WW) :=
  if (0 : Int32) = 0 ∨ (0 : Int32) = 1 then some (.inl (0 : Int32), w) else none
def f_ru_doWhile_2 (g_ru_doStatements : Nat → Option Nat → Int32 → WW → Option ((Int32 ⊕ String) × WW)) (g_ru_doStatement : Nat → Option Nat → Int32 → WW → Option ((Int32 ⊕ String) × WW)) (g_ru_doWhile : Nat → Option Nat → Int32 → WW → Option ((Int32 ⊕ String) × WW))  : Nat → Nat → Option Nat → Int32 → Int32 → WW → Option ((Int32 ⊕ String) × WW)
  | 0, _, _, _, _, _ => none
  | n + 1, y0, y1, y2, y3, w =>
    if (500 : Int32) < y3 then
      if (0 : Int32) = 0 ∨ (0 : Int32) = 1 then some (.inl (0 : Int32), w) else none
    else
      bdx (f_ru_holds y0 y1 w) fun x4 w3 =>
      if x4 = 0 then
        if (1 : Int32) = 0 ∨ (1 : Int32) = 1 then some (.inl (1 : Int32), w3) else none
      else
        y1.bind fun x6 =>
        (gR w3 x6 4 7).bind fun x7 =>
        bdx (g_ru_doStatements y0 x7 (y2 + (1 : Int32)) w3) fun x9 w8 =>
        if x9 = 0 then
          f_ru_doWhile_40 g_ru_doStatements g_ru_doStatement g_ru_doWhile w8
        else
          bd2 (f_ru_mayBegin y0 w8) fun x13 w12 =>
          if x13 = 0 then
            f_ru_doWhile_40 g_ru_doStatements g_ru_doStatement g_ru_doWhile w12
          else
            f_ru_doWhile_2 g_ru_doStatements g_ru_doStatement g_ru_doWhile n y0 (some x6) y2 (y3 + (1 : Int32)) w12
def fo_ru_doWhile (g_ru_doStatements : Nat → Option Nat → Int32 → WW → Option ((Int32 ⊕ String) × WW)) (g_ru_doStatement : Nat → Option Nat → Int32 → WW → Option ((Int32 ⊕ String) × WW)) (g_ru_doWhile : Nat → Option Nat → Int32 → WW → Option ((Int32 ⊕ String) × WW)) (a0 : Nat) (a1 : Option Nat) (a2 : Int32) (w : WW) : Option ((Int32 ⊕ String) × WW) :=
  if kb w a0 5 = true then
    f_ru_doWhile_2 g_ru_doStatements g_ru_doStatement g_ru_doWhile KK a0 a1 a2 (0 : Int32) w
  else none
def sc_ru3 : Nat → (Nat → Option Nat → Int32 → WW → Option ((Int32 ⊕ String) × WW)) × (Nat → Option Nat → Int32 → WW → Option ((Int32 ⊕ String) × WW)) × (Nat → Option Nat → Int32 → WW → Option ((Int32 ⊕ String) × WW))
  | 0 => (fun _ _ _ _ => none, fun _ _ _ _ => none, fun _ _ _ _ => none)
  | d + 1 => (fo_ru_doStatements (sc_ru3 d).1 (sc_ru3 d).2.1 (sc_ru3 d).2.2, fo_ru_doStatement (sc_ru3 d).1 (sc_ru3 d).2.1 (sc_ru3 d).2.2, fo_ru_doWhile (sc_ru3 d).1 (sc_ru3 d).2.1 (sc_ru3 d).2.2)
def f_ru_doStatements (d : Nat) : Nat → Option Nat → Int32 → WW → Option ((Int32 ⊕ String) × WW) := (sc_ru3 d).1
def f_ru_doStatement (d : Nat) : Nat → Option Nat → Int32 → WW → Option ((Int32 ⊕ String) × WW) := (sc_ru3 d).2.1
def f_ru_doWhile (d : Nat) : Nat → Option Nat → Int32 → WW → Option ((Int32 ⊕ String) × WW) := (sc_ru3 d).2.2
def f_ru_doProgram (a0 : Nat) (a1 : Nat) (a2 : Int32) (w : WW) : Option ((Int32 ⊕ String) × WW) :=
  if kb w a0 5 = true then
    (pv w a0 5 6 (.ref a1)).bind fun w1 =>
    (pv w1 a0 5 7 (.int a2)).bind fun w2 =>
    (f_ru_begin a0 w2).bind fun w3 =>
    (gR w3 a0 5 6).bind fun x4 =>
    x4.bind fun x5 =>
    (gR w3 x5 3 6).bind fun x6 =>
    bdx (f_ru_doStatements 64 a0 x6 (0 : Int32) w3) fun x8 w7 =>
    if x8 = 0 ∨ x8 = 1 then some (.inl x8, w7) else none
  else none
def f_a_run_11   (w : WW) : Option ((Int32 ⊕ String) × WW) :=
  some (.inr "java/lang/IllegalArgumentException", w)
def f_a_run_55  (z0 : Int32) (w : WW) : Option ((Int32 ⊕ String) × WW) :=
  some (.inl z0, w)
def f_a_run (a0 : Nat) (a1 : Int32) (w : WW) : Option ((Int32 ⊕ String) × WW) :=
  if kb w a0 0 = true then
    if a1 < 0 then
      f_a_run_11 w
    else
      if a1 ≤ (500 : Int32) then
        (gI w a0 0 6).bind fun x3 =>
        if x3 = 0 then
          some (.inr "java/lang/IllegalStateException", w)
        else
          (gN w a0 0 7).bind fun x5 =>
          (gN w a0 0 4).bind fun x6 =>
          bdx (f_ru_doProgram x5 x6 a1 w) fun x8 w7 =>
          if x8 = 0 then
            f_a_run_55 (-5 : Int32) w7
          else
            f_a_run_55 (0 : Int32) w7
      else
        f_a_run_11 w
  else none
def f_a_ran_121   (w : WW) : Option ((Int32 ⊕ String) × WW) :=
  some (.inr "java/lang/IllegalArgumentException", w)
def f_a_ran_120  (z0 : Int32) (w : WW) : Option ((Int32 ⊕ String) × WW) :=
  some (.inl z0, w)
def f_a_ran_88  (y0 : Nat) (y1 : Int32) (w : WW) : Option ((Int32 ⊕ String) × WW) :=
  if y1 < (30 : Int32) then
    f_a_ran_121 w
  else
    if (36 : Int32) ≤ y1 then
      f_a_ran_121 w
    else
      (gN w y0 0 7).bind fun x8 =>
      (gN w x8 5 1).bind fun x9 =>
      (rI w x9 2 (y1 - (30 : Int32))).bind fun x10 =>
      if x10 = 0 then
        f_a_ran_120 (0 : Int32) w
      else
        f_a_ran_120 (1 : Int32) w
def f_a_ran_63  (y0 : Nat) (y1 : Int32) (w : WW) : Option ((Int32 ⊕ String) × WW) :=
  if y1 < (20 : Int32) then
    f_a_ran_88 y0 y1 w
  else
    if (28 : Int32) ≤ y1 then
      f_a_ran_88 y0 y1 w
    else
      (gN w y0 0 7).bind fun x13 =>
      (gN w x13 5 2).bind fun x14 =>
      (rI w x14 0 (y1 - (20 : Int32))).bind fun x15 =>
      some (.inl x15, w)
def f_a_ran (a0 : Nat) (a1 : Int32) (w : WW) : Option ((Int32 ⊕ String) × WW) :=
  if kb w a0 0 = true then
    if a1 = 0 then
      (gN w a0 0 7).bind fun x24 =>
      (gI w x24 5 10).bind fun x25 =>
      some (.inl x25, w)
    else
      if a1 = (1 : Int32) then
        (gN w a0 0 7).bind fun x22 =>
        (gI w x22 5 8).bind fun x23 =>
        some (.inl x23, w)
      else
        if a1 = (2 : Int32) then
          (gN w a0 0 7).bind fun x20 =>
          (gI w x20 5 9).bind fun x21 =>
          some (.inl x21, w)
        else
          if a1 < (10 : Int32) then
            f_a_ran_63 a0 a1 w
          else
            if (16 : Int32) ≤ a1 then
              f_a_ran_63 a0 a1 w
            else
              (gN w a0 0 7).bind fun x17 =>
              (gN w x17 5 0).bind fun x18 =>
              (rI w x18 0 (a1 - (10 : Int32))).bind fun x19 =>
              some (.inl x19, w)
  else none
def f_va_setNothing (a0 : Nat) (w : WW) : Option WW :=
  if kb w a0 8 = true then
    if (1 : Int32) = 0 ∨ (1 : Int32) = 1 then
      (pv w a0 8 0 (.int (1 : Int32))).bind fun w1 =>
      some w1
    else none
  else none
def f_va_setOne (a0 : Nat) (a1 : Int64) (w : WW) : Option WW :=
  if kb w a0 8 = true then
    if (0 : Int32) = 0 ∨ (0 : Int32) = 1 then
      (pv w a0 8 0 (.int (0 : Int32))).bind fun w1 =>
      (pv w1 a0 8 1 (.long a1)).bind fun w3 =>
      (pv w3 a0 8 2 (.long a1)).bind fun w4 =>
      (pv w4 a0 8 3 (.long (0 : Int64))).bind fun w5 =>
      (pv w5 a0 8 4 (.long a1)).bind fun w6 =>
      some w6
    else none
  else none
def f_sa_setFirst_37  : Nat → Nat → Int32 → WW → Option WW
  | 0, _, _, _ => none
  | n + 1, y0, y1, w =>
    if (8 : Int32) ≤ y1 then
      some w
    else
      (gN w y0 7 1).bind fun x5 =>
      (rN w x5 4 ((6 : Int32) + y1)).bind fun x6 =>
      (f_va_setOne x6 (0 : Int64) w).bind fun w7 =>
      f_sa_setFirst_37 n y0 (y1 + (1 : Int32)) w7
def f_sa_setFirst_7  : Nat → Nat → Int32 → WW → Option WW
  | 0, _, _, _ => none
  | n + 1, y0, y1, w =>
    if (6 : Int32) ≤ y1 then
      f_sa_setFirst_37 KK y0 (0 : Int32) w
    else
      (gN w y0 7 1).bind fun x8 =>
      (rN w x8 4 y1).bind fun x9 =>
      (f_va_setNothing x9 w).bind fun w10 =>
      (gN w10 y0 7 2).bind fun x11 =>
      (sI w10 x11 2 y1 (vp_nar .boolean (1 : Int32))).bind fun w12 =>
      f_sa_setFirst_7 n y0 (y1 + (1 : Int32)) w12
def f_sa_setFirst (a0 : Nat) (w : WW) : Option WW :=
  if kb w a0 7 = true then
    if (0 : Int32) = 0 ∨ (0 : Int32) = 1 then
      (pv w a0 7 0 (.int (0 : Int32))).bind fun w1 =>
      f_sa_setFirst_7 KK a0 (0 : Int32) w1
    else none
  else none
def f_va_copy (a0 : Nat) (a1 : Nat) (w : WW) : Option WW :=
  if kb w a0 8 = true then
    (gI w a1 8 0).bind fun x1 =>
    if x1 = 0 ∨ x1 = 1 then
      (pv w a0 8 0 (.int x1)).bind fun w2 =>
      (gL w2 a1 8 1).bind fun x4 =>
      (pv w2 a0 8 1 (.long x4)).bind fun w5 =>
      (gL w5 a1 8 2).bind fun x6 =>
      (pv w5 a0 8 2 (.long x6)).bind fun w7 =>
      (gL w7 a1 8 3).bind fun x8 =>
      (pv w7 a0 8 3 (.long x8)).bind fun w9 =>
      (gL w9 a1 8 4).bind fun x10 =>
      (pv w9 a0 8 4 (.long x10)).bind fun w11 =>
      some w11
    else none
  else none
def f_an_warnIf_49   (w : WW) : Option WW :=
  some w
def f_an_warnIf (a0 : Nat) (a1 : Int32) (a2 : Int32) (a3 : Int32) (w : WW) : Option WW :=
  if kb w a0 6 = true then
    if a1 = 0 then
      f_an_warnIf_49 w
    else
      (gI w a0 6 7).bind fun x2 =>
      if x2 = 0 then
        f_an_warnIf_49 w
      else
        (gN w a0 6 3).bind fun x4 =>
        (rI w x4 0 a3).bind fun x5 =>
        if (x5 &&& ((1 : Int32) <<< (a2 &&& 31))) = 0 then
          (gN w a0 6 3).bind fun x7 =>
          (rI w x7 0 a3).bind fun x8 =>
          (sI w x7 0 a3 (x8 ||| ((1 : Int32) <<< (a2 &&& 31)))).bind fun w9 =>
          (gI w9 a0 6 10).bind fun x10 =>
          (pv w9 a0 6 10 (.int (x10 + (1 : Int32)))).bind fun w11 =>
          f_an_warnIf_49 w11
        else
          f_an_warnIf_49 w
  else none
def f_va_goesBeyondCells_25  (z0 : Int32) (w : WW) : Option (Int32 × WW) :=
  if z0 = 0 ∨ z0 = 1 then some (z0, w) else none
def f_va_goesBeyondCells_20   (w : WW) : Option (Int32 × WW) :=
  f_va_goesBeyondCells_25 (1 : Int32) w
def f_va_goesBeyondCells (a0 : Nat) (w : WW) : Option (Int32 × WW) :=
  if kb w a0 8 = true then
    (gL w a0 8 1).bind fun x1 =>
    if x1 < (0 : Int64) then
      f_va_goesBeyondCells_20 w
    else
      (gL w a0 8 2).bind fun x4 =>
      if x4 < (4 : Int64) then
        f_va_goesBeyondCells_25 (0 : Int32) w
      else
        f_va_goesBeyondCells_20 w
  else none
def f_ma_floorMod_25  (y4 : Int64) (w : WW) : Option (Int64 × WW) :=
  some (y4, w)
def f_ma_floorMod (a0 : Int64) (a2 : Int64) (w : WW) : Option (Int64 × WW) :=
  if ¬ a2 = 0 then
    if (0 : Int64) ≤ (a0 ^^^ a2) then
      f_ma_floorMod_25 (a0 - a0 / a2 * a2) w
    else
      if (a0 - a0 / a2 * a2) = (0 : Int64) then
        f_ma_floorMod_25 (a0 - a0 / a2 * a2) w
      else
        some (((a0 - a0 / a2 * a2) + a2), w)
  else none
def f_va_has_57  (z0 : Int32) (w : WW) : Option (Int32 × WW) :=
  if z0 = 0 ∨ z0 = 1 then some (z0, w) else none
def f_va_has_56   (w : WW) : Option (Int32 × WW) :=
  f_va_has_57 (0 : Int32) w
def f_va_has_52   (w : WW) : Option (Int32 × WW) :=
  f_va_has_57 (1 : Int32) w
def f_va_has (a0 : Nat) (a1 : Int64) (w : WW) : Option (Int32 × WW) :=
  if kb w a0 8 = true then
    (gI w a0 8 0).bind fun x1 =>
    if x1 = 0 then
      (gL w a0 8 1).bind fun x4 =>
      if a1 < x4 then
        f_va_has_56 w
      else
        (gL w a0 8 2).bind fun x6 =>
        if x6 < a1 then
          f_va_has_56 w
        else
          (gL w a0 8 3).bind fun x8 =>
          if x8 = (0 : Int64) then
            f_va_has_52 w
          else
            (gL w a0 8 4).bind fun x10 =>
            (gL w a0 8 3).bind fun x11 =>
            bd2 (f_ma_floorMod (a1 - x10) x11 w) fun x13 w12 =>
            if x13 = (0 : Int64) then
              f_va_has_52 w12
            else
              f_va_has_56 w12
    else
      f_va_has_56 w
  else none
def f_ma_min_JJ_11  (z0 : Int64) (w : WW) : Option (Int64 × WW) :=
  some (z0, w)
def f_ma_min_JJ (a0 : Int64) (a2 : Int64) (w : WW) : Option (Int64 × WW) :=
  if a2 < a0 then
    f_ma_min_JJ_11 a2 w
  else
    f_ma_min_JJ_11 a0 w
def f_ma_max_JJ_11  (z0 : Int64) (w : WW) : Option (Int64 × WW) :=
  some (z0, w)
def f_ma_max_JJ (a0 : Int64) (a2 : Int64) (w : WW) : Option (Int64 × WW) :=
  if a0 < a2 then
    f_ma_max_JJ_11 a2 w
  else
    f_ma_max_JJ_11 a0 w
def f_ma_abs_12  (z0 : Int64) (w : WW) : Option (Int64 × WW) :=
  some (z0, w)
def f_ma_abs (a0 : Int64) (w : WW) : Option (Int64 × WW) :=
  if (0 : Int64) ≤ a0 then
    f_ma_abs_12 a0 w
  else
    f_ma_abs_12 (-a0) w
def f_va_commonDivisor_50  (y4 : Int64) (w : WW) : Option (Int64 × WW) :=
  some (y4, w)
def f_va_commonDivisor_15  : Nat → Int64 → Int64 → Int32 → WW → Option (Int64 × WW)
  | 0, _, _, _, _ => none
  | n + 1, y4, y6, y8, w =>
    if (100 : Int32) ≤ y8 then
      f_va_commonDivisor_50 y4 w
    else
      if y6 = (0 : Int64) then
        f_va_commonDivisor_50 y4 w
      else
        if ¬ y6 = 0 then
          f_va_commonDivisor_15 n y6 (y4 - y4 / y6 * y6) (y8 + (1 : Int32)) w
        else none
def f_va_commonDivisor (a0 : Int64) (a2 : Int64) (w : WW) : Option (Int64 × WW) :=
  bd2 (f_ma_abs a0 w) fun x2 w1 =>
  bd2 (f_ma_abs a2 w1) fun x4 w3 =>
  f_va_commonDivisor_15 KK x2 x4 (0 : Int32) w3
def f_va_restBy_15  (z0 : Int64) (w : WW) : Option (Int64 × WW) :=
  some (z0, w)
def f_va_restBy (a0 : Int64) (a2 : Int64) (w : WW) : Option (Int64 × WW) :=
  if a2 = (0 : Int64) then
    f_va_restBy_15 a0 w
  else
    bd2 (f_ma_floorMod a0 a2 w) fun x3 w2 =>
    f_va_restBy_15 x3 w2
def f_va_putTight_247  (y1 : Int32) (w : WW) : Option (Int32 × WW) :=
  if y1 = 0 ∨ y1 = 1 then some (y1, w) else none
def f_va_putTight_219  (y0 : Nat) (y1 : Int32) (z0 : Nat) (z1 : Int32) (w : WW) : Option (Int32 × WW) :=
  if z1 = 0 ∨ z1 = 1 then
    (pv w z0 8 0 (.int z1)).bind fun w31 =>
    (gL w31 y0 8 1).bind fun x33 =>
    (gL w31 y0 8 2).bind fun x34 =>
    if x33 = x34 then
      (pv w31 y0 8 3 (.long (0 : Int64))).bind fun w37 =>
      (gL w37 y0 8 1).bind fun x38 =>
      (pv w37 y0 8 4 (.long x38)).bind fun w39 =>
      f_va_putTight_247 y1 w39
    else
      f_va_putTight_247 y1 w31
  else none
def f_va_putTight_214  (y0 : Nat) (y1 : Int32) (z0 : Nat) (w : WW) : Option (Int32 × WW) :=
  f_va_putTight_219 y0 y1 z0 (1 : Int32) w
def f_va_putTight_123  (y0 : Nat) (y1 : Int32) (z0 : Nat) (z1 : Int32) (w : WW) : Option (Int32 × WW) :=
  if z1 = 0 ∨ z1 = 1 then
    (pv w z0 8 0 (.int z1)).bind fun w45 =>
    (gL w45 y0 8 4).bind fun x47 =>
    (pv w45 y0 8 1 (.long x47)).bind fun w48 =>
    (gL w48 y0 8 4).bind fun x49 =>
    (pv w48 y0 8 2 (.long x49)).bind fun w50 =>
    if y1 = 0 ∨ y1 = 1 then some (y1, w50) else none
  else none
def f_va_putTight_118  (y0 : Nat) (y1 : Int32) (z0 : Nat) (w : WW) : Option (Int32 × WW) :=
  f_va_putTight_123 y0 y1 z0 (1 : Int32) w
def f_va_putTight_77  (y0 : Nat) (y1 : Int32) (w : WW) : Option (Int32 × WW) :=
  (gL w y0 8 3).bind fun x13 =>
  if x13 = (0 : Int64) then
    (gI w y0 8 0).bind fun x43 =>
    if x43 = 0 then
      (gL w y0 8 4).bind fun x52 =>
      (gL w y0 8 1).bind fun x53 =>
      if x52 < x53 then
        f_va_putTight_118 y0 y1 y0 w
      else
        (gL w y0 8 4).bind fun x55 =>
        (gL w y0 8 2).bind fun x56 =>
        if x55 ≤ x56 then
          f_va_putTight_123 y0 y1 y0 (0 : Int32) w
        else
          f_va_putTight_118 y0 y1 y0 w
    else
      f_va_putTight_118 y0 y1 y0 w
  else
    (gL w y0 8 1).bind fun x15 =>
    (gL w y0 8 4).bind fun x16 =>
    (gL w y0 8 1).bind fun x17 =>
    (gL w y0 8 3).bind fun x18 =>
    bd2 (f_ma_floorMod (x16 - x17) x18 w) fun x20 w19 =>
    (pv w19 y0 8 1 (.long (x15 + x20))).bind fun w21 =>
    (gL w21 y0 8 2).bind fun x22 =>
    (gL w21 y0 8 2).bind fun x23 =>
    (gL w21 y0 8 4).bind fun x24 =>
    (gL w21 y0 8 3).bind fun x25 =>
    bd2 (f_ma_floorMod (x23 - x24) x25 w21) fun x27 w26 =>
    (pv w26 y0 8 2 (.long (x22 - x27))).bind fun w28 =>
    (gI w28 y0 8 0).bind fun x29 =>
    if x29 = 0 then
      (gL w28 y0 8 1).bind fun x40 =>
      (gL w28 y0 8 2).bind fun x41 =>
      if x40 ≤ x41 then
        f_va_putTight_219 y0 y1 y0 (0 : Int32) w28
      else
        f_va_putTight_214 y0 y1 y0 w28
    else
      f_va_putTight_214 y0 y1 y0 w28
def f_va_putTight_27  (y0 : Nat) (z0 : Int32) (w : WW) : Option (Int32 × WW) :=
  (gL w y0 8 1).bind fun x3 =>
  bd2 (f_ma_max_JJ x3 (-2147483648 : Int64) w) fun x5 w4 =>
  (pv w4 y0 8 1 (.long x5)).bind fun w6 =>
  (gL w6 y0 8 2).bind fun x7 =>
  bd2 (f_ma_min_JJ x7 (2147483647 : Int64) w6) fun x9 w8 =>
  (pv w8 y0 8 2 (.long x9)).bind fun w10 =>
  (gL w10 y0 8 3).bind fun x11 =>
  if x11 ≤ (65536 : Int64) then
    f_va_putTight_77 y0 z0 w10
  else
    (pv w10 y0 8 3 (.long (1 : Int64))).bind fun w58 =>
    (pv w58 y0 8 4 (.long (0 : Int64))).bind fun w59 =>
    f_va_putTight_77 y0 z0 w59
def f_va_putTight_22  (y0 : Nat) (w : WW) : Option (Int32 × WW) :=
  f_va_putTight_27 y0 (1 : Int32) w
def f_va_putTight (a0 : Nat) (w : WW) : Option (Int32 × WW) :=
  if kb w a0 8 = true then
    (gL w a0 8 1).bind fun x1 =>
    if x1 < (-2147483648 : Int64) then
      f_va_putTight_22 a0 w
    else
      (gL w a0 8 2).bind fun x60 =>
      if x60 ≤ (2147483647 : Int64) then
        f_va_putTight_27 a0 (0 : Int32) w
      else
        f_va_putTight_22 a0 w
  else none
def f_va_join (a0 : Nat) (a1 : Nat) (w : WW) : Option WW :=
  if kb w a0 8 = true then
    (gI w a1 8 0).bind fun x1 =>
    if x1 = 0 then
      (gI w a0 8 0).bind fun x3 =>
      if x3 = 0 then
        (gL w a0 8 1).bind fun x5 =>
        (gL w a1 8 1).bind fun x6 =>
        bd2 (f_ma_min_JJ x5 x6 w) fun x8 w7 =>
        (pv w7 a0 8 1 (.long x8)).bind fun w9 =>
        (gL w9 a0 8 2).bind fun x10 =>
        (gL w9 a1 8 2).bind fun x11 =>
        bd2 (f_ma_max_JJ x10 x11 w9) fun x13 w12 =>
        (pv w12 a0 8 2 (.long x13)).bind fun w14 =>
        (gL w14 a0 8 3).bind fun x15 =>
        (gL w14 a1 8 3).bind fun x16 =>
        bd2 (f_va_commonDivisor x15 x16 w14) fun x18 w17 =>
        (gL w17 a0 8 4).bind fun x19 =>
        (gL w17 a1 8 4).bind fun x20 =>
        bd2 (f_va_commonDivisor x18 (x19 - x20) w17) fun x22 w21 =>
        (pv w21 a0 8 3 (.long x22)).bind fun w23 =>
        (gL w23 a0 8 4).bind fun x24 =>
        (gL w23 a0 8 3).bind fun x25 =>
        bd2 (f_va_restBy x24 x25 w23) fun x27 w26 =>
        (pv w26 a0 8 4 (.long x27)).bind fun w28 =>
        bd2 (f_va_putTight a0 w28) fun x30 w29 =>
        some w29
      else
        (f_va_copy a0 a1 w).bind fun w31 =>
        some w31
    else
      some w
  else none
def f_va_subtract (a0 : Nat) (a1 : Nat) (w : WW) : Option (Int32 × WW) :=
  if kb w a0 8 = true then
    (gL w a0 8 1).bind fun x1 =>
    (gL w a1 8 2).bind fun x2 =>
    (pv w a0 8 1 (.long (x1 - x2))).bind fun w3 =>
    (gL w3 a0 8 2).bind fun x4 =>
    (gL w3 a1 8 1).bind fun x5 =>
    (pv w3 a0 8 2 (.long (x4 - x5))).bind fun w6 =>
    (gL w6 a0 8 3).bind fun x7 =>
    (gL w6 a1 8 3).bind fun x8 =>
    bd2 (f_va_commonDivisor x7 x8 w6) fun x10 w9 =>
    (pv w9 a0 8 3 (.long x10)).bind fun w11 =>
    (gL w11 a0 8 4).bind fun x12 =>
    (gL w11 a1 8 4).bind fun x13 =>
    (gL w11 a0 8 3).bind fun x14 =>
    bd2 (f_va_restBy (x12 - x13) x14 w11) fun x16 w15 =>
    (pv w15 a0 8 4 (.long x16)).bind fun w17 =>
    bd2 (f_va_putTight a0 w17) fun x19 w18 =>
    if x19 = 0 ∨ x19 = 1 then some (x19, w18) else none
  else none
def f_va_add (a0 : Nat) (a1 : Nat) (w : WW) : Option (Int32 × WW) :=
  if kb w a0 8 = true then
    (gL w a0 8 1).bind fun x1 =>
    (gL w a1 8 1).bind fun x2 =>
    (pv w a0 8 1 (.long (x1 + x2))).bind fun w3 =>
    (gL w3 a0 8 2).bind fun x4 =>
    (gL w3 a1 8 2).bind fun x5 =>
    (pv w3 a0 8 2 (.long (x4 + x5))).bind fun w6 =>
    (gL w6 a0 8 3).bind fun x7 =>
    (gL w6 a1 8 3).bind fun x8 =>
    bd2 (f_va_commonDivisor x7 x8 w6) fun x10 w9 =>
    (pv w9 a0 8 3 (.long x10)).bind fun w11 =>
    (gL w11 a0 8 4).bind fun x12 =>
    (gL w11 a1 8 4).bind fun x13 =>
    (gL w11 a0 8 3).bind fun x14 =>
    bd2 (f_va_restBy (x12 + x13) x14 w11) fun x16 w15 =>
    (pv w15 a0 8 4 (.long x16)).bind fun w17 =>
    bd2 (f_va_putTight a0 w17) fun x19 w18 =>
    if x19 = 0 ∨ x19 = 1 then some (x19, w18) else none
  else none
def f_va_multiply (a0 : Nat) (a1 : Nat) (w : WW) : Option (Int32 × WW) :=
  if kb w a0 8 = true then
    (gL w a0 8 1).bind fun x1 =>
    (gL w a1 8 1).bind fun x2 =>
    (gL w a0 8 1).bind fun x3 =>
    (gL w a1 8 2).bind fun x4 =>
    (gL w a0 8 2).bind fun x5 =>
    (gL w a1 8 1).bind fun x6 =>
    (gL w a0 8 2).bind fun x7 =>
    (gL w a1 8 2).bind fun x8 =>
    bd2 (f_ma_min_JJ (x1 * x2) (x3 * x4) w) fun x10 w9 =>
    bd2 (f_ma_min_JJ (x5 * x6) (x7 * x8) w9) fun x12 w11 =>
    bd2 (f_ma_min_JJ x10 x12 w11) fun x14 w13 =>
    (pv w13 a0 8 1 (.long x14)).bind fun w15 =>
    bd2 (f_ma_max_JJ (x1 * x2) (x3 * x4) w15) fun x17 w16 =>
    bd2 (f_ma_max_JJ (x5 * x6) (x7 * x8) w16) fun x19 w18 =>
    bd2 (f_ma_max_JJ x17 x19 w18) fun x21 w20 =>
    (pv w20 a0 8 2 (.long x21)).bind fun w22 =>
    (gL w22 a0 8 3).bind fun x23 =>
    (gL w22 a1 8 3).bind fun x24 =>
    (gL w22 a0 8 3).bind fun x25 =>
    (gL w22 a1 8 4).bind fun x26 =>
    bd2 (f_va_commonDivisor (x23 * x24) (x25 * x26) w22) fun x28 w27 =>
    (gL w27 a1 8 3).bind fun x29 =>
    (gL w27 a0 8 4).bind fun x30 =>
    bd2 (f_va_commonDivisor x28 (x29 * x30) w27) fun x32 w31 =>
    (gL w31 a0 8 4).bind fun x33 =>
    (gL w31 a1 8 4).bind fun x34 =>
    bd2 (f_va_restBy (x33 * x34) x32 w31) fun x36 w35 =>
    (pv w35 a0 8 4 (.long x36)).bind fun w37 =>
    (pv w37 a0 8 3 (.long x32)).bind fun w38 =>
    bd2 (f_va_putTight a0 w38) fun x40 w39 =>
    if x40 = 0 ∨ x40 = 1 then some (x40, w39) else none
  else none
def f_va_takeQuotients (a0 : Nat) (a1 : Int64) (a3 : Int64) (a5 : Int64) (w : WW) : Option WW :=
  if kb w a0 8 = true then
    if a5 = (0 : Int64) then
      some w
    else
      (gL w a0 8 1).bind fun x2 =>
      if ¬ a5 = 0 then
        if ¬ a5 = 0 then
          bd2 (f_ma_min_JJ (a1 / a5) (a3 / a5) w) fun x6 w5 =>
          bd2 (f_ma_min_JJ x2 x6 w5) fun x8 w7 =>
          (pv w7 a0 8 1 (.long x8)).bind fun w9 =>
          (gL w9 a0 8 2).bind fun x10 =>
          if ¬ a5 = 0 then
            if ¬ a5 = 0 then
              bd2 (f_ma_max_JJ (a1 / a5) (a3 / a5) w9) fun x14 w13 =>
              bd2 (f_ma_max_JJ x10 x14 w13) fun x16 w15 =>
              (pv w15 a0 8 2 (.long x16)).bind fun w17 =>
              some w17
            else none
          else none
        else none
      else none
  else none
def f_va_divide_124  (y0 : Nat) (y2 : Int32) (w : WW) : Option (Int32 × WW) :=
  (pv w y0 8 3 (.long (1 : Int64))).bind fun w11 =>
  (pv w11 y0 8 4 (.long (0 : Int64))).bind fun w12 =>
  (gL w12 y0 8 1).bind fun x13 =>
  (gL w12 y0 8 2).bind fun x14 =>
  if x13 ≤ x14 then
    bd2 (f_va_putTight y0 w12) fun x17 w16 =>
    if y2 = 0 ∨ y2 = 1 then some (y2, w16) else none
  else
    if (1 : Int32) = 0 ∨ (1 : Int32) = 1 then
      (pv w12 y0 8 0 (.int (1 : Int32))).bind fun w19 =>
      if y2 = 0 ∨ y2 = 1 then some (y2, w19) else none
    else none
def f_va_divide_89  (y0 : Nat) (y1 : Nat) (y2 : Int32) (y3 : Int64) (y5 : Int64) (w : WW) : Option (Int32 × WW) :=
  (gL w y1 8 2).bind fun x9 =>
  if x9 ≤ (0 : Int64) then
    f_va_divide_124 y0 y2 w
  else
    (gL w y1 8 1).bind fun x22 =>
    bd2 (f_ma_max_JJ x22 (1 : Int64) w) fun x24 w23 =>
    (f_va_takeQuotients y0 y3 y5 x24 w23).bind fun w25 =>
    (gL w25 y1 8 2).bind fun x26 =>
    (f_va_takeQuotients y0 y3 y5 x26 w25).bind fun w27 =>
    f_va_divide_124 y0 y2 w27
def f_va_divide_26  (y0 : Nat) (y1 : Nat) (z0 : Int32) (w : WW) : Option (Int32 × WW) :=
  (gL w y0 8 1).bind fun x3 =>
  (gL w y0 8 2).bind fun x4 =>
  (pv w y0 8 1 (.long (9223372036854775807 : Int64))).bind fun w5 =>
  (pv w5 y0 8 2 (.long (-9223372036854775808 : Int64))).bind fun w6 =>
  (gL w6 y1 8 1).bind fun x7 =>
  if (0 : Int64) ≤ x7 then
    f_va_divide_89 y0 y1 z0 x3 x4 w6
  else
    (gL w6 y1 8 1).bind fun x28 =>
    (f_va_takeQuotients y0 x3 x4 x28 w6).bind fun w29 =>
    (gL w29 y1 8 2).bind fun x30 =>
    bd2 (f_ma_min_JJ x30 (-1 : Int64) w29) fun x32 w31 =>
    (f_va_takeQuotients y0 x3 x4 x32 w31).bind fun w33 =>
    f_va_divide_89 y0 y1 z0 x3 x4 w33
def f_va_divide_25  (y0 : Nat) (y1 : Nat) (w : WW) : Option (Int32 × WW) :=
  f_va_divide_26 y0 y1 (0 : Int32) w
def f_va_divide (a0 : Nat) (a1 : Nat) (w : WW) : Option (Int32 × WW) :=
  if kb w a0 8 = true then
    (gL w a0 8 1).bind fun x1 =>
    if x1 = (-2147483648 : Int64) then
      bd2 (f_va_has a1 (-1 : Int64) w) fun x35 w34 =>
      if x35 = 0 then
        f_va_divide_25 a0 a1 w34
      else
        f_va_divide_26 a0 a1 (1 : Int32) w34
    else
      f_va_divide_25 a0 a1 w
  else none
def f_va_remainder_65  (y0 : Nat) (y1 : Nat) (w : WW) : Option WW :=
  (gL w y1 8 1).bind fun x5 =>
  bd2 (f_ma_abs x5 w) fun x7 w6 =>
  (gL w6 y1 8 2).bind fun x8 =>
  bd2 (f_ma_abs x8 w6) fun x10 w9 =>
  bd2 (f_ma_max_JJ x7 x10 w9) fun x12 w11 =>
  (gL w11 y0 8 1).bind fun x13 =>
  bd2 (f_ma_min_JJ x13 (0 : Int64) w11) fun x15 w14 =>
  bd2 (f_ma_max_JJ x15 (-(x12 - (1 : Int64))) w14) fun x17 w16 =>
  (pv w16 y0 8 1 (.long x17)).bind fun w18 =>
  (gL w18 y0 8 2).bind fun x19 =>
  bd2 (f_ma_max_JJ x19 (0 : Int64) w18) fun x21 w20 =>
  bd2 (f_ma_min_JJ x21 (x12 - (1 : Int64)) w20) fun x23 w22 =>
  (pv w22 y0 8 2 (.long x23)).bind fun w24 =>
  (pv w24 y0 8 3 (.long (1 : Int64))).bind fun w25 =>
  (pv w25 y0 8 4 (.long (0 : Int64))).bind fun w26 =>
  bd2 (f_va_putTight y0 w26) fun x28 w27 =>
  some w27
def f_va_remainder_24  (y0 : Nat) (y1 : Nat) (w : WW) : Option WW :=
  (gL w y0 8 3).bind fun x3 =>
  if x3 = (0 : Int64) then
    (gL w y1 8 3).bind fun x29 =>
    if x29 = (0 : Int64) then
      (gL w y1 8 4).bind fun x31 =>
      if x31 = (0 : Int64) then
        f_va_remainder_65 y0 y1 w
      else
        (gL w y0 8 4).bind fun x33 =>
        (gL w y1 8 4).bind fun x34 =>
        if ¬ x34 = 0 then
          (f_va_setOne y0 (x33 - x33 / x34 * x34) w).bind fun w36 =>
          some w36
        else none
    else
      f_va_remainder_65 y0 y1 w
  else
    f_va_remainder_65 y0 y1 w
def f_va_remainder (a0 : Nat) (a1 : Nat) (w : WW) : Option WW :=
  if kb w a0 8 = true then
    (gL w a1 8 1).bind fun x1 =>
    if x1 = (0 : Int64) then
      (gL w a1 8 2).bind fun x37 =>
      if x37 = (0 : Int64) then
        if (1 : Int32) = 0 ∨ (1 : Int32) = 1 then
          (pv w a0 8 0 (.int (1 : Int32))).bind fun w39 =>
          some w39
        else none
      else
        f_va_remainder_24 a0 a1 w
    else
      f_va_remainder_24 a0 a1 w
  else none
def f_an_doStep_324   (w : WW) : Option WW :=
  some w
def f_an_doStep_196 (k_162 : Nat → Nat → Nat → Int32 → Int32 → WW → Option WW) (y2 : Nat) (y3 : Nat) (y4 : Nat) (y5 : Int32) (y7 : Int32) (w : WW) : Option WW :=
  k_162 y2 y3 y4 y5 (y7 + (1 : Int32)) w
def f_an_doStep_162  : Nat → Nat → Nat → Nat → Int32 → Int32 → WW → Option WW
  | 0, _, _, _, _, _, _ => none
  | n + 1, y2, y3, y4, y5, y7, w =>
    if (4 : Int32) ≤ y7 then
      (f_va_copy y2 y3 w).bind fun w28 =>
      f_an_doStep_324 w28
    else
      bd2 (f_va_has y2 (Int32.toInt64 y7) w) fun x30 w29 =>
      if x30 = 0 then
        f_an_doStep_196 (f_an_doStep_162 n) y2 y3 y4 y5 y7 w29
      else
        (gN w29 y4 7 1).bind fun x32 =>
        (rN w29 x32 4 (((6 : Int32) + y5) + y7)).bind fun x33 =>
        (f_va_join y3 x33 w29).bind fun w34 =>
        f_an_doStep_196 (f_an_doStep_162 n) y2 y3 y4 y5 y7 w34
def f_an_doStep (a0 : Nat) (a1 : Int32) (a2 : Nat) (a3 : Nat) (a4 : Nat) (w : WW) : Option WW :=
  if kb w a0 6 = true then
    (gR w a0 6 4).bind fun x1 =>
    x1.bind fun x2 =>
    (gN w x2 3 3).bind fun x3 =>
    (rI w x3 0 a1).bind fun x4 =>
    (gR w a0 6 4).bind fun x5 =>
    x5.bind fun x6 =>
    (gN w x6 3 4).bind fun x7 =>
    (rI w x7 0 a1).bind fun x8 =>
    (gR w a0 6 4).bind fun x9 =>
    x9.bind fun x10 =>
    (gN w x10 3 2).bind fun x11 =>
    (rI w x11 0 a1).bind fun x12 =>
    if x12 = (1 : Int32) then
      (f_va_setOne a2 (Int32.toInt64 x4) w).bind fun w14 =>
      f_an_doStep_324 w14
    else
      if x12 = (2 : Int32) then
        (gN w a4 7 1).bind fun x16 =>
        (rN w x16 4 x4).bind fun x17 =>
        (f_va_copy a2 x17 w).bind fun w18 =>
        (gN w18 a4 7 2).bind fun x19 =>
        (rI w18 x19 2 x4).bind fun x20 =>
        (f_an_warnIf a0 x20 (1 : Int32) x8 w18).bind fun w21 =>
        f_an_doStep_324 w21
      else
        if x12 = (3 : Int32) then
          bd2 (f_va_goesBeyondCells a2 w) fun x24 w23 =>
          (f_an_warnIf a0 x24 (2 : Int32) x8 w23).bind fun w25 =>
          (f_va_setNothing a3 w25).bind fun w26 =>
          f_an_doStep_162 KK a2 a3 a4 x4 (0 : Int32) w26
        else
          if x12 = (42 : Int32) then
            bd2 (f_va_multiply a2 a3 w) fun x37 w36 =>
            (f_an_warnIf a0 x37 (3 : Int32) x8 w36).bind fun w38 =>
            f_an_doStep_324 w38
          else
            if x12 = (43 : Int32) then
              bd2 (f_va_add a2 a3 w) fun x41 w40 =>
              (f_an_warnIf a0 x41 (3 : Int32) x8 w40).bind fun w42 =>
              f_an_doStep_324 w42
            else
              if x12 = (45 : Int32) then
                bd2 (f_va_subtract a2 a3 w) fun x45 w44 =>
                (f_an_warnIf a0 x45 (3 : Int32) x8 w44).bind fun w46 =>
                f_an_doStep_324 w46
              else
                if x12 = (47 : Int32) then
                  bd2 (f_va_has a3 (0 : Int64) w) fun x49 w48 =>
                  (f_an_warnIf a0 x49 (4 : Int32) x8 w48).bind fun w50 =>
                  bd2 (f_va_divide a2 a3 w50) fun x52 w51 =>
                  (f_an_warnIf a0 x52 (3 : Int32) x8 w51).bind fun w53 =>
                  f_an_doStep_324 w53
                else
                  if x12 = (259 : Int32) then
                    (f_va_copy a3 a2 w).bind fun w55 =>
                    (f_va_setOne a2 (0 : Int64) w55).bind fun w56 =>
                    bd2 (f_va_subtract a2 a3 w56) fun x58 w57 =>
                    (f_an_warnIf a0 x58 (3 : Int32) x8 w57).bind fun w59 =>
                    f_an_doStep_324 w59
                  else
                    bd2 (f_va_has a3 (0 : Int64) w) fun x61 w60 =>
                    (f_an_warnIf a0 x61 (4 : Int32) x8 w60).bind fun w62 =>
                    (f_va_remainder a2 a3 w62).bind fun w63 =>
                    f_an_doStep_324 w63
  else none
def f_an_workOut_39   (w : WW) : Option (Int32 × WW) :=
  if (0 : Int32) = 0 ∨ (0 : Int32) = 1 then some ((0 : Int32), w) else none
def f_an_workOut_6  : Nat → Nat → Int32 → Nat → Int32 → Int32 → WW → Option (Int32 × WW)
  | 0, _, _, _, _, _, _ => none
  | n + 1, y0, y2, y4, y5, y6, w =>
    if y2 ≤ y6 then
      if (1 : Int32) = 0 ∨ (1 : Int32) = 1 then some ((1 : Int32), w) else none
    else
      (gR w y0 6 4).bind fun x3 =>
      x3.bind fun x4 =>
      bd2 (f_pg_growthOf x4 y6 w) fun x6 w5 =>
      if (y5 + x6) < (1 : Int32) then
        f_an_workOut_39 w5
      else
        if (y5 + x6) < (25 : Int32) then
          (gN w5 y0 6 2).bind fun x10 =>
          (rN w5 x10 4 ((y5 + x6) - (1 : Int32))).bind fun x11 =>
          (gN w5 y0 6 2).bind fun x12 =>
          (rN w5 x12 4 (y5 + x6)).bind fun x13 =>
          (f_an_doStep y0 y6 x11 x13 y4 w5).bind fun w14 =>
          (gI w14 x11 8 0).bind fun x15 =>
          if x15 = 0 then
            f_an_workOut_6 n y0 y2 y4 (y5 + x6) (y6 + (1 : Int32)) w14
          else
            if (0 : Int32) = 0 ∨ (0 : Int32) = 1 then some ((0 : Int32), w14) else none
        else
          f_an_workOut_39 w5
def f_an_workOut (a0 : Nat) (a1 : Int32) (a2 : Int32) (a3 : Int32) (a4 : Nat) (w : WW) : Option (Int32 × WW) :=
  if kb w a0 6 = true then
    f_an_workOut_6 KK a0 a2 a4 a3 a1 w
  else none
def f_an_goAssignment (a0 : Nat) (a1 : Option Nat) (a2 : Nat) (w : WW) : Option WW :=
  if kb w a0 6 = true then
    a1.bind fun x1 =>
    (gI w x1 4 3).bind fun x2 =>
    (gI w x1 4 5).bind fun x3 =>
    bd2 (f_an_workOut a0 x2 x3 (0 : Int32) a2 w) fun x5 w4 =>
    if x5 = 0 then
      if (1 : Int32) = 0 ∨ (1 : Int32) = 1 then
        (pv w4 a2 7 0 (.int (1 : Int32))).bind fun w16 =>
        some w16
      else none
    else
      (gN w4 a2 7 1).bind fun x7 =>
      (gI w4 x1 4 2).bind fun x8 =>
      (rN w4 x7 4 x8).bind fun x9 =>
      (gN w4 a0 6 2).bind fun x10 =>
      (rN w4 x10 4 (0 : Int32)).bind fun x11 =>
      (f_va_copy x9 x11 w4).bind fun w12 =>
      (gN w12 a2 7 2).bind fun x13 =>
      (gI w12 x1 4 2).bind fun x14 =>
      (sI w12 x13 2 x14 (vp_nar .boolean (0 : Int32))).bind fun w15 =>
      some w15
  else none
def f_va_setAll (a0 : Nat) (w : WW) : Option WW :=
  if kb w a0 8 = true then
    if (0 : Int32) = 0 ∨ (0 : Int32) = 1 then
      (pv w a0 8 0 (.int (0 : Int32))).bind fun w1 =>
      (pv w1 a0 8 1 (.long (-2147483648 : Int64))).bind fun w3 =>
      (pv w3 a0 8 2 (.long (2147483647 : Int64))).bind fun w4 =>
      (pv w4 a0 8 3 (.long (1 : Int64))).bind fun w5 =>
      (pv w5 a0 8 4 (.long (0 : Int64))).bind fun w6 =>
      some w6
    else none
  else none
def f_an_goStore_103  (y2 : Nat) (w : WW) : Option WW :=
  if (1 : Int32) = 0 ∨ (1 : Int32) = 1 then
    (pv w y2 7 0 (.int (1 : Int32))).bind fun w19 =>
    some w19
  else none
def f_an_goStore_186 (k_112 : Nat → Nat → Nat → Nat → Int32 → Int32 → WW → Option WW) (y0 : Nat) (y1 : Nat) (y2 : Nat) (y3 : Nat) (y4 : Int32) (y5 : Int32) (w : WW) : Option WW :=
  k_112 y0 y1 y2 y3 y4 (y5 + (1 : Int32)) w
def f_an_goStore_165 (k_112 : Nat → Nat → Nat → Nat → Int32 → Int32 → WW → Option WW) (y0 : Nat) (y1 : Nat) (y2 : Nat) (y3 : Nat) (y4 : Int32) (y5 : Int32) (y6 : Nat) (w : WW) : Option WW :=
  bd2 (f_va_has y3 (Int32.toInt64 y5) w) fun x30 w29 =>
  if x30 = 0 then
    f_an_goStore_186 k_112 y0 y1 y2 y3 y4 y5 w29
  else
    (gN w29 y0 6 2).bind fun x32 =>
    (rN w29 x32 4 (1 : Int32)).bind fun x33 =>
    (f_va_join y6 x33 w29).bind fun w34 =>
    f_an_goStore_186 k_112 y0 y1 y2 y3 y4 y5 w34
def f_an_goStore_112  : Nat → Nat → Nat → Nat → Nat → Int32 → Int32 → WW → Option WW
  | 0, _, _, _, _, _, _, _ => none
  | n + 1, y0, y1, y2, y3, y4, y5, w =>
    if (4 : Int32) ≤ y5 then
      some w
    else
      (gN w y2 7 1).bind fun x23 =>
      (gI w y1 4 2).bind fun x24 =>
      (rN w x23 4 (((6 : Int32) + x24) + y5)).bind fun x25 =>
      bd2 (f_va_has y3 (Int32.toInt64 y5) w) fun x27 w26 =>
      if x27 = 0 then
        f_an_goStore_165 (f_an_goStore_112 n) y0 y1 y2 y3 y4 y5 x25 w26
      else
        if y4 = (1 : Int32) then
          (gN w26 y0 6 2).bind fun x36 =>
          (rN w26 x36 4 (1 : Int32)).bind fun x37 =>
          (f_va_copy x25 x37 w26).bind fun w38 =>
          f_an_goStore_186 (f_an_goStore_112 n) y0 y1 y2 y3 y4 y5 w38
        else
          f_an_goStore_165 (f_an_goStore_112 n) y0 y1 y2 y3 y4 y5 x25 w26
def f_an_goStore_72 (k_49 : Nat → Nat → Nat → Nat → Int32 → Int32 → WW → Option WW) (y0 : Nat) (y1 : Nat) (y2 : Nat) (y3 : Nat) (y5 : Int32) (z0 : Int32) (z1 : Int32) (w : WW) : Option WW :=
  k_49 y0 y1 y2 y3 (z0 + z1) (y5 + (1 : Int32)) w
def f_an_goStore_49  : Nat → Nat → Nat → Nat → Nat → Int32 → Int32 → WW → Option WW
  | 0, _, _, _, _, _, _, _ => none
  | n + 1, y0, y1, y2, y3, y4, y5, w =>
    if (4 : Int32) ≤ y5 then
      (gI w y1 4 4).bind fun x14 =>
      (gI w y1 4 5).bind fun x15 =>
      bd2 (f_an_workOut y0 x14 x15 (1 : Int32) y2 w) fun x17 w16 =>
      if x17 = 0 then
        f_an_goStore_103 y2 w16
      else
        if y4 = 0 then
          f_an_goStore_103 y2 w16
        else
          f_an_goStore_112 KK y0 y1 y2 y3 y4 (0 : Int32) w16
    else
      bd2 (f_va_has y3 (Int32.toInt64 y5) w) fun x40 w39 =>
      if x40 = 0 then
        f_an_goStore_72 (f_an_goStore_49 n) y0 y1 y2 y3 y5 y4 (0 : Int32) w39
      else
        f_an_goStore_72 (f_an_goStore_49 n) y0 y1 y2 y3 y5 y4 (1 : Int32) w39
def f_an_goStore (a0 : Nat) (a1 : Option Nat) (a2 : Nat) (w : WW) : Option WW :=
  if kb w a0 6 = true then
    a1.bind fun x1 =>
    (gI w x1 4 3).bind fun x2 =>
    (gI w x1 4 4).bind fun x3 =>
    bd2 (f_an_workOut a0 x2 x3 (0 : Int32) a2 w) fun x5 w4 =>
    if x5 = 0 then
      if (1 : Int32) = 0 ∨ (1 : Int32) = 1 then
        (pv w4 a2 7 0 (.int (1 : Int32))).bind fun w42 =>
        some w42
      else none
    else
      (gN w4 a0 6 2).bind fun x7 =>
      (rN w4 x7 4 (0 : Int32)).bind fun x8 =>
      bd2 (f_va_goesBeyondCells x8 w4) fun x10 w9 =>
      (gI w9 x1 4 1).bind fun x11 =>
      (f_an_warnIf a0 x10 (2 : Int32) x11 w9).bind fun w12 =>
      f_an_goStore_49 KK a0 x1 a2 x8 (0 : Int32) (0 : Int32) w12
  else none
def f_sa_copy_39  : Nat → Nat → Nat → Int32 → WW → Option WW
  | 0, _, _, _, _ => none
  | n + 1, y0, y1, y2, w =>
    if (6 : Int32) ≤ y2 then
      some w
    else
      (gN w y0 7 2).bind fun x6 =>
      (gN w y1 7 2).bind fun x7 =>
      (rI w x7 2 y2).bind fun x8 =>
      (sI w x6 2 y2 (vp_nar .boolean x8)).bind fun w9 =>
      f_sa_copy_39 n y0 y1 (y2 + (1 : Int32)) w9
def f_sa_copy_10  : Nat → Nat → Nat → Int32 → WW → Option WW
  | 0, _, _, _, _ => none
  | n + 1, y0, y1, y2, w =>
    if (14 : Int32) ≤ y2 then
      f_sa_copy_39 KK y0 y1 (0 : Int32) w
    else
      (gN w y0 7 1).bind fun x10 =>
      (rN w x10 4 y2).bind fun x11 =>
      (gN w y1 7 1).bind fun x12 =>
      (rN w x12 4 y2).bind fun x13 =>
      (f_va_copy x11 x13 w).bind fun w14 =>
      f_sa_copy_10 n y0 y1 (y2 + (1 : Int32)) w14
def f_sa_copy (a0 : Nat) (a1 : Nat) (w : WW) : Option WW :=
  if kb w a0 7 = true then
    (gI w a1 7 0).bind fun x1 =>
    if x1 = 0 ∨ x1 = 1 then
      (pv w a0 7 0 (.int x1)).bind fun w2 =>
      f_sa_copy_10 KK a0 a1 (0 : Int32) w2
    else none
  else none
def f_an_contraryOf (a0 : Int32) (w : WW) : Option (Int32 × WW) :=
  if a0 = (60 : Int32) then
    some ((258 : Int32), w)
  else
    if a0 = (256 : Int32) then
      some ((257 : Int32), w)
    else
      if a0 = (257 : Int32) then
        some ((256 : Int32), w)
      else
        some ((60 : Int32), w)
def f_va_meets_73  (z0 : Int32) (w : WW) : Option (Int32 × WW) :=
  if z0 = 0 ∨ z0 = 1 then some (z0, w) else none
def f_va_meets (a0 : Nat) (a1 : Nat) (w : WW) : Option (Int32 × WW) :=
  if kb w a0 8 = true then
    (gL w a0 8 3).bind fun x1 =>
    if x1 = (0 : Int64) then
      (gL w a0 8 4).bind fun x21 =>
      bd2 (f_va_has a1 x21 w) fun x23 w22 =>
      if x23 = 0 ∨ x23 = 1 then some (x23, w22) else none
    else
      (gL w a1 8 3).bind fun x3 =>
      if x3 = (0 : Int64) then
        (gL w a1 8 4).bind fun x17 =>
        bd2 (f_va_has a0 x17 w) fun x19 w18 =>
        if x19 = 0 ∨ x19 = 1 then some (x19, w18) else none
      else
        (gL w a0 8 3).bind fun x5 =>
        (gL w a1 8 3).bind fun x6 =>
        bd2 (f_va_commonDivisor x5 x6 w) fun x8 w7 =>
        (gL w7 a0 8 4).bind fun x9 =>
        bd2 (f_va_restBy x9 x8 w7) fun x11 w10 =>
        (gL w10 a1 8 4).bind fun x12 =>
        bd2 (f_va_restBy x12 x8 w10) fun x14 w13 =>
        if x11 = x14 then
          f_va_meets_73 (1 : Int32) w13
        else
          f_va_meets_73 (0 : Int32) w13
  else none
def f_va_meet_104  (z0 : Nat) (z1 : Int32) (w : WW) : Option WW :=
  if z1 = 0 ∨ z1 = 1 then
    (pv w z0 8 0 (.int z1)).bind fun w19 =>
    some w19
  else none
def f_va_meet_99  (z0 : Nat) (w : WW) : Option WW :=
  f_va_meet_104 z0 (1 : Int32) w
def f_va_meet_52  (y0 : Nat) (y1 : Nat) (y2 : Int32) (w : WW) : Option WW :=
  (gL w y0 8 1).bind fun x5 =>
  (gL w y1 8 1).bind fun x6 =>
  bd2 (f_ma_max_JJ x5 x6 w) fun x8 w7 =>
  (pv w7 y0 8 1 (.long x8)).bind fun w9 =>
  (gL w9 y0 8 2).bind fun x10 =>
  (gL w9 y1 8 2).bind fun x11 =>
  bd2 (f_ma_min_JJ x10 x11 w9) fun x13 w12 =>
  (pv w12 y0 8 2 (.long x13)).bind fun w14 =>
  bd2 (f_va_putTight y0 w14) fun x16 w15 =>
  (gI w15 y0 8 0).bind fun x17 =>
  if x17 = 0 then
    if y2 = 0 then
      f_va_meet_99 y0 w15
    else
      f_va_meet_104 y0 (0 : Int32) w15
  else
    f_va_meet_99 y0 w15
def f_va_meet_36  (y0 : Nat) (y1 : Nat) (y2 : Int32) (w : WW) : Option WW :=
  (gL w y1 8 3).bind fun x24 =>
  (pv w y0 8 3 (.long x24)).bind fun w25 =>
  (gL w25 y1 8 4).bind fun x26 =>
  (pv w25 y0 8 4 (.long x26)).bind fun w27 =>
  f_va_meet_52 y0 y1 y2 w27
def f_va_meet (a0 : Nat) (a1 : Nat) (w : WW) : Option WW :=
  if kb w a0 8 = true then
    bd2 (f_va_meets a0 a1 w) fun x2 w1 =>
    (gL w1 a0 8 3).bind fun x3 =>
    if x3 = (0 : Int64) then
      f_va_meet_52 a0 a1 x2 w1
    else
      (gL w1 a1 8 3).bind fun x22 =>
      if x22 = (0 : Int64) then
        f_va_meet_36 a0 a1 x2 w1
      else
        (gL w1 a1 8 3).bind fun x28 =>
        (gL w1 a0 8 3).bind fun x29 =>
        if x28 ≤ x29 then
          f_va_meet_52 a0 a1 x2 w1
        else
          f_va_meet_36 a0 a1 x2 w1
  else none
def f_va_trim_64  (y0 : Nat) (z0 : Nat) (z1 : Int64) (z2 : Int64) (w : WW) : Option WW :=
  (pv w z0 8 2 (.long (z1 - z2))).bind fun w10 =>
  bd2 (f_va_putTight y0 w10) fun x12 w11 =>
  some w11
def f_va_trim_45  (y0 : Nat) (y4 : Int32) (z0 : Nat) (z1 : Int64) (z2 : Int64) (w : WW) : Option WW :=
  (pv w z0 8 1 (.long (z1 + z2))).bind fun w7 =>
  (gL w7 y0 8 2).bind fun x8 =>
  if y4 = 0 then
    f_va_trim_64 y0 y0 x8 (0 : Int64) w7
  else
    f_va_trim_64 y0 y0 x8 (1 : Int64) w7
def f_va_trim_29  (y0 : Nat) (y3 : Int32) (z0 : Int32) (w : WW) : Option WW :=
  (gL w y0 8 1).bind fun x5 =>
  if y3 = 0 then
    f_va_trim_45 y0 z0 y0 x5 (0 : Int64) w
  else
    f_va_trim_45 y0 z0 y0 x5 (1 : Int64) w
def f_va_trim_14  (y0 : Nat) (y1 : Int64) (z0 : Int32) (w : WW) : Option WW :=
  (gL w y0 8 2).bind fun x3 =>
  if x3 = y1 then
    f_va_trim_29 y0 z0 (1 : Int32) w
  else
    f_va_trim_29 y0 z0 (0 : Int32) w
def f_va_trim (a0 : Nat) (a1 : Int64) (w : WW) : Option WW :=
  if kb w a0 8 = true then
    (gL w a0 8 1).bind fun x1 =>
    if x1 = a1 then
      f_va_trim_14 a0 a1 (1 : Int32) w
    else
      f_va_trim_14 a0 a1 (0 : Int32) w
  else none
def f_an_compareUnequal_64   (w : WW) : Option WW :=
  some w
def f_an_compareUnequal_54  (y2 : Nat) (y3 : Int32) (y5 : Int64) (w : WW) : Option WW :=
  if y3 = 0 then
    f_an_compareUnequal_64 w
  else
    (f_va_trim y2 y5 w).bind fun w9 =>
    f_an_compareUnequal_64 w9
def f_an_compareUnequal_29  (y1 : Nat) (y2 : Nat) (y3 : Int32) (z0 : Int32) (w : WW) : Option WW :=
  (gL w y1 8 4).bind fun x5 =>
  (gL w y2 8 4).bind fun x6 =>
  if z0 = 0 then
    f_an_compareUnequal_54 y2 y3 x5 w
  else
    (f_va_trim y1 x6 w).bind fun w10 =>
    f_an_compareUnequal_54 y2 y3 x5 w10
def f_an_compareUnequal_14  (y1 : Nat) (y2 : Nat) (z0 : Int32) (w : WW) : Option WW :=
  (gL w y2 8 3).bind fun x3 =>
  if x3 = (0 : Int64) then
    f_an_compareUnequal_29 y1 y2 z0 (1 : Int32) w
  else
    f_an_compareUnequal_29 y1 y2 z0 (0 : Int32) w
def f_an_compareUnequal (a0 : Nat) (a1 : Nat) (a2 : Nat) (w : WW) : Option WW :=
  if kb w a0 6 = true then
    (gL w a1 8 3).bind fun x1 =>
    if x1 = (0 : Int64) then
      f_an_compareUnequal_14 a1 a2 (1 : Int32) w
    else
      f_an_compareUnequal_14 a1 a2 (0 : Int32) w
  else none
def f_va_lowerTo (a0 : Nat) (a1 : Int64) (w : WW) : Option WW :=
  if kb w a0 8 = true then
    (gL w a0 8 2).bind fun x1 =>
    bd2 (f_ma_min_JJ x1 a1 w) fun x3 w2 =>
    (pv w2 a0 8 2 (.long x3)).bind fun w4 =>
    bd2 (f_va_putTight a0 w4) fun x6 w5 =>
    some w5
  else none
def f_va_raiseTo (a0 : Nat) (a1 : Int64) (w : WW) : Option WW :=
  if kb w a0 8 = true then
    (gL w a0 8 1).bind fun x1 =>
    bd2 (f_ma_max_JJ x1 a1 w) fun x3 w2 =>
    (pv w2 a0 8 1 (.long x3)).bind fun w4 =>
    bd2 (f_va_putTight a0 w4) fun x6 w5 =>
    some w5
  else none
def f_an_compareOrder (a0 : Nat) (a1 : Nat) (a2 : Nat) (a3 : Int32) (w : WW) : Option WW :=
  if kb w a0 6 = true then
    (gL w a1 8 1).bind fun x1 =>
    (gL w a2 8 2).bind fun x2 =>
    (f_va_lowerTo a1 (x2 - (Int32.toInt64 a3)) w).bind fun w3 =>
    (f_va_raiseTo a2 (x1 + (Int32.toInt64 a3)) w3).bind fun w4 =>
    some w4
  else none
def f_an_compare_75   (w : WW) : Option WW :=
  some w
def f_an_compare (a0 : Nat) (a1 : Int32) (a2 : Nat) (a3 : Nat) (w : WW) : Option WW :=
  if kb w a0 6 = true then
    if a1 = (60 : Int32) then
      (f_an_compareOrder a0 a2 a3 (1 : Int32) w).bind fun w2 =>
      f_an_compare_75 w2
    else
      if a1 = (256 : Int32) then
        (f_va_meet a2 a3 w).bind fun w4 =>
        (f_va_copy a3 a2 w4).bind fun w5 =>
        f_an_compare_75 w5
      else
        if a1 = (257 : Int32) then
          (f_an_compareUnequal a0 a2 a3 w).bind fun w7 =>
          f_an_compare_75 w7
        else
          (f_an_compareOrder a0 a2 a3 (0 : Int32) w).bind fun w8 =>
          f_an_compare_75 w8
  else none
def f_an_learn_39   (w : WW) : Option WW :=
  some w
def f_an_learn (a0 : Nat) (a1 : Int32) (a2 : Int32) (a3 : Nat) (a4 : Nat) (w : WW) : Option WW :=
  if kb w a0 6 = true then
    if a2 = (a1 + (1 : Int32)) then
      (gR w a0 6 4).bind fun x2 =>
      x2.bind fun x3 =>
      (gN w x3 3 2).bind fun x4 =>
      (rI w x4 0 a1).bind fun x5 =>
      if x5 = (2 : Int32) then
        (gN w a4 7 1).bind fun x7 =>
        (gR w a0 6 4).bind fun x8 =>
        x8.bind fun x9 =>
        (gN w x9 3 3).bind fun x10 =>
        (rI w x10 0 a1).bind fun x11 =>
        (rN w x7 4 x11).bind fun x12 =>
        (f_va_copy x12 a3 w).bind fun w13 =>
        f_an_learn_39 w13
      else
        f_an_learn_39 w
    else
      f_an_learn_39 w
  else none
def f_an_assume_34  (y2 : Nat) (w : WW) : Option WW :=
  if (1 : Int32) = 0 ∨ (1 : Int32) = 1 then
    (pv w y2 7 0 (.int (1 : Int32))).bind fun w7 =>
    some w7
  else none
def f_an_assume_222   (w : WW) : Option WW :=
  some w
def f_an_assume_146  (y2 : Nat) (w : WW) : Option WW :=
  if (1 : Int32) = 0 ∨ (1 : Int32) = 1 then
    (pv w y2 7 0 (.int (1 : Int32))).bind fun w28 =>
    f_an_assume_222 w28
  else none
def f_an_assume_123  (y0 : Nat) (y1 : Nat) (y2 : Nat) (y4 : Int32) (y5 : Nat) (y6 : Nat) (z0 : Nat) (z1 : Int32) (w : WW) : Option WW :=
  (f_an_compare z0 z1 y5 y6 w).bind fun w25 =>
  (gI w25 y5 8 0).bind fun x26 =>
  if x26 = 0 then
    (gI w25 y6 8 0).bind fun x30 =>
    if x30 = 0 then
      if y4 = 0 then
        (gI w25 y1 4 3).bind fun x33 =>
        (gI w25 y1 4 4).bind fun x34 =>
        (f_an_learn y0 x33 x34 y5 y2 w25).bind fun w35 =>
        (gI w35 y1 4 4).bind fun x36 =>
        (gI w35 y1 4 5).bind fun x37 =>
        (f_an_learn y0 x36 x37 y6 y2 w35).bind fun w38 =>
        f_an_assume_222 w38
      else
        (gI w25 y1 4 4).bind fun x39 =>
        (gI w25 y1 4 5).bind fun x40 =>
        (f_an_learn y0 x39 x40 y5 y2 w25).bind fun w41 =>
        (gI w41 y1 4 3).bind fun x42 =>
        (gI w41 y1 4 4).bind fun x43 =>
        (f_an_learn y0 x42 x43 y6 y2 w41).bind fun w44 =>
        f_an_assume_222 w44
    else
      f_an_assume_146 y2 w25
  else
    f_an_assume_146 y2 w25
def f_an_assume_101  (y0 : Nat) (y1 : Nat) (y2 : Nat) (y3 : Int32) (y4 : Int32) (y5 : Nat) (z0 : Nat) (z1 : Int32) (w : WW) : Option WW :=
  (rN w z0 4 z1).bind fun x20 =>
  if y3 = 0 then
    (gI w y1 4 6).bind fun x22 =>
    bd2 (f_an_contraryOf x22 w) fun x24 w23 =>
    f_an_assume_123 y0 y1 y2 y4 y5 x20 y0 x24 w23
  else
    (gI w y1 4 6).bind fun x45 =>
    f_an_assume_123 y0 y1 y2 y4 y5 x20 y0 x45 w
def f_an_assume_84  (y0 : Nat) (y1 : Nat) (y2 : Nat) (y3 : Int32) (y4 : Int32) (z0 : Nat) (z1 : Int32) (w : WW) : Option WW :=
  (rN w z0 4 z1).bind fun x17 =>
  (gN w y0 6 2).bind fun x18 =>
  if y4 = 0 then
    f_an_assume_101 y0 y1 y2 y3 y4 x17 x18 (1 : Int32) w
  else
    f_an_assume_101 y0 y1 y2 y3 y4 x17 x18 (0 : Int32) w
def f_an_assume_68  (y0 : Nat) (y1 : Nat) (y2 : Nat) (y3 : Int32) (z0 : Int32) (w : WW) : Option WW :=
  (gN w y0 6 2).bind fun x15 =>
  if z0 = 0 then
    f_an_assume_84 y0 y1 y2 y3 z0 x15 (0 : Int32) w
  else
    f_an_assume_84 y0 y1 y2 y3 z0 x15 (1 : Int32) w
def f_an_assume_67  (y0 : Nat) (y1 : Nat) (y2 : Nat) (y3 : Int32) (w : WW) : Option WW :=
  f_an_assume_68 y0 y1 y2 y3 (0 : Int32) w
def f_an_assume_63  (y0 : Nat) (y1 : Nat) (y2 : Nat) (y3 : Int32) (w : WW) : Option WW :=
  f_an_assume_68 y0 y1 y2 y3 (1 : Int32) w
def f_an_assume (a0 : Nat) (a1 : Option Nat) (a2 : Nat) (a3 : Int32) (w : WW) : Option WW :=
  if kb w a0 6 = true then
    a1.bind fun x1 =>
    (gI w x1 4 3).bind fun x2 =>
    (gI w x1 4 4).bind fun x3 =>
    bd2 (f_an_workOut a0 x2 x3 (0 : Int32) a2 w) fun x5 w4 =>
    if x5 = 0 then
      f_an_assume_34 a2 w4
    else
      (gI w4 x1 4 4).bind fun x9 =>
      (gI w4 x1 4 5).bind fun x10 =>
      bd2 (f_an_workOut a0 x9 x10 (1 : Int32) a2 w4) fun x12 w11 =>
      if x12 = 0 then
        f_an_assume_34 a2 w11
      else
        if a3 = 0 then
          (gI w11 x1 4 6).bind fun x46 =>
          if x46 = (60 : Int32) then
            f_an_assume_63 a0 x1 a2 a3 w11
          else
            (gI w11 x1 4 6).bind fun x48 =>
            if x48 = (258 : Int32) then
              f_an_assume_63 a0 x1 a2 a3 w11
            else
              f_an_assume_67 a0 x1 a2 a3 w11
        else
          f_an_assume_67 a0 x1 a2 a3 w11
  else none
def f_an_goAssert_38  (y0 : Nat) (y1 : Option Nat) (y2 : Nat) (z0 : Nat) (z1 : Int32) (w : WW) : Option WW :=
  y1.bind fun x7 =>
  (gI w x7 4 1).bind fun x8 =>
  (f_an_warnIf z0 z1 (5 : Int32) x8 w).bind fun w9 =>
  (f_an_assume y0 (some x7) y2 (1 : Int32) w9).bind fun w10 =>
  some w10
def f_an_goAssert (a0 : Nat) (a1 : Option Nat) (a2 : Nat) (a3 : Int32) (w : WW) : Option WW :=
  if kb w a0 6 = true then
    (gN w a0 6 1).bind fun x1 =>
    (rN w x1 5 ((3 : Int32) * a3)).bind fun x2 =>
    (f_sa_copy x2 a2 w).bind fun w3 =>
    (f_an_assume a0 a1 x2 (0 : Int32) w3).bind fun w4 =>
    (gI w4 x2 7 0).bind fun x5 =>
    if x5 = 0 then
      f_an_goAssert_38 a0 a1 a2 a0 (1 : Int32) w4
    else
      f_an_goAssert_38 a0 a1 a2 a0 (0 : Int32) w4
  else none
def f_va_stepDown_36 (k_7 : Int64 → Int64 → Int32 → WW → Option (Int64 × WW)) (y0 : Int64) (y2 : Int64) (y4 : Int32) (w : WW) : Option (Int64 × WW) :=
  k_7 y0 y2 (y4 + (1 : Int32)) w
def f_va_stepDown_7  : Nat → Int64 → Int64 → Int32 → WW → Option (Int64 × WW)
  | 0, _, _, _, _ => none
  | n + 1, y0, y2, y4, w =>
    if (7 : Int32) ≤ y4 then
      some (y2, w)
    else
      (tbW y4).bind fun x2 =>
      if y0 < (Int32.toInt64 x2) then
        f_va_stepDown_36 (f_va_stepDown_7 n) y0 y2 y4 w
      else
        (tbW y4).bind fun x4 =>
        f_va_stepDown_36 (f_va_stepDown_7 n) y0 (Int32.toInt64 x4) y4 w
def f_va_stepDown (a0 : Int64) (w : WW) : Option (Int64 × WW) :=
  f_va_stepDown_7 KK a0 (-2147483648 : Int64) (0 : Int32) w
def f_va_stepUp_37 (k_12 : Int64 → Int64 → Int32 → WW → Option (Int64 × WW)) (y0 : Int64) (y2 : Int64) (y4 : Int32) (w : WW) : Option (Int64 × WW) :=
  k_12 y0 y2 (y4 + (-1 : Int32)) w
def f_va_stepUp_12  : Nat → Int64 → Int64 → Int32 → WW → Option (Int64 × WW)
  | 0, _, _, _, _ => none
  | n + 1, y0, y2, y4, w =>
    if y4 < 0 then
      some (y2, w)
    else
      (tbW y4).bind fun x2 =>
      if (Int32.toInt64 x2) < y0 then
        f_va_stepUp_37 (f_va_stepUp_12 n) y0 y2 y4 w
      else
        (tbW y4).bind fun x4 =>
        f_va_stepUp_37 (f_va_stepUp_12 n) y0 (Int32.toInt64 x4) y4 w
def f_va_stepUp (a0 : Int64) (w : WW) : Option (Int64 × WW) :=
  f_va_stepUp_12 KK a0 (2147483647 : Int64) ((7 : Int32) - (1 : Int32)) w
def f_va_widen_32   (w : WW) : Option WW :=
  some w
def f_va_widen_74  (y0 : Nat) (w : WW) : Option WW :=
  bd2 (f_va_putTight y0 w) fun x13 w12 =>
  some w12
def f_va_widen_53  (y0 : Nat) (y5 : Int64) (w : WW) : Option WW :=
  (gL w y0 8 2).bind fun x10 =>
  if x10 ≤ y5 then
    f_va_widen_74 y0 w
  else
    (gL w y0 8 2).bind fun x14 =>
    bd2 (f_va_stepUp x14 w) fun x16 w15 =>
    (pv w15 y0 8 2 (.long x16)).bind fun w17 =>
    f_va_widen_74 y0 w17
def f_va_widen (a0 : Nat) (a1 : Nat) (w : WW) : Option WW :=
  if kb w a0 8 = true then
    (gI w a0 8 0).bind fun x1 =>
    (gL w a0 8 1).bind fun x2 =>
    (gL w a0 8 2).bind fun x3 =>
    (f_va_join a0 a1 w).bind fun w4 =>
    (gI w4 a0 8 0).bind fun x5 =>
    if x5 = 0 then
      if x1 = 0 then
        (gL w4 a0 8 1).bind fun x8 =>
        if x2 ≤ x8 then
          f_va_widen_53 a0 x3 w4
        else
          (gL w4 a0 8 1).bind fun x18 =>
          bd2 (f_va_stepDown x18 w4) fun x20 w19 =>
          (pv w19 a0 8 1 (.long x20)).bind fun w21 =>
          f_va_widen_53 a0 x3 w21
      else
        f_va_widen_32 w4
    else
      f_va_widen_32 w4
  else none
def f_sa_merge_108 (k_74 : Nat → Nat → Int32 → WW → Option WW) (y0 : Nat) (y1 : Nat) (y3 : Int32) (z0 : Nat) (z1 : Int32) (z2 : Int32) (w : WW) : Option WW :=
  (sI w z0 2 z1 (vp_nar .boolean z2)).bind fun w11 =>
  k_74 y0 y1 (y3 + (1 : Int32)) w11
def f_sa_merge_103 (k_74 : Nat → Nat → Int32 → WW → Option WW) (y0 : Nat) (y1 : Nat) (y3 : Int32) (z0 : Nat) (z1 : Int32) (w : WW) : Option WW :=
  f_sa_merge_108 k_74 y0 y1 y3 z0 z1 (1 : Int32) w
def f_sa_merge_74  : Nat → Nat → Nat → Int32 → WW → Option WW
  | 0, _, _, _, _ => none
  | n + 1, y0, y1, y3, w =>
    if (6 : Int32) ≤ y3 then
      some w
    else
      (gN w y0 7 2).bind fun x7 =>
      (gN w y0 7 2).bind fun x8 =>
      (rI w x8 2 y3).bind fun x9 =>
      if x9 = 0 then
        (gN w y1 7 2).bind fun x12 =>
        (rI w x12 2 y3).bind fun x13 =>
        if x13 = 0 then
          f_sa_merge_108 (f_sa_merge_74 n) y0 y1 y3 x7 y3 (0 : Int32) w
        else
          f_sa_merge_103 (f_sa_merge_74 n) y0 y1 y3 x7 y3 w
      else
        f_sa_merge_103 (f_sa_merge_74 n) y0 y1 y3 x7 y3 w
def f_sa_merge_66 (k_23 : Nat → Nat → Int32 → Int32 → WW → Option WW) (y0 : Nat) (y1 : Nat) (y2 : Int32) (y3 : Int32) (w : WW) : Option WW :=
  k_23 y0 y1 y2 (y3 + (1 : Int32)) w
def f_sa_merge_23  : Nat → Nat → Nat → Int32 → Int32 → WW → Option WW
  | 0, _, _, _, _, _ => none
  | n + 1, y0, y1, y2, y3, w =>
    if (14 : Int32) ≤ y3 then
      f_sa_merge_74 KK y0 y1 (0 : Int32) w
    else
      if y2 = 0 then
        (gN w y0 7 1).bind fun x16 =>
        (rN w x16 4 y3).bind fun x17 =>
        (gN w y1 7 1).bind fun x18 =>
        (rN w x18 4 y3).bind fun x19 =>
        (f_va_join x17 x19 w).bind fun w20 =>
        f_sa_merge_66 (f_sa_merge_23 n) y0 y1 y2 y3 w20
      else
        (gN w y0 7 1).bind fun x21 =>
        (rN w x21 4 y3).bind fun x22 =>
        (gN w y1 7 1).bind fun x23 =>
        (rN w x23 4 y3).bind fun x24 =>
        (f_va_widen x22 x24 w).bind fun w25 =>
        f_sa_merge_66 (f_sa_merge_23 n) y0 y1 y2 y3 w25
def f_sa_merge (a0 : Nat) (a1 : Nat) (a2 : Int32) (w : WW) : Option WW :=
  if kb w a0 7 = true then
    (gI w a1 7 0).bind fun x1 =>
    if x1 = 0 then
      (gI w a0 7 0).bind fun x3 =>
      if x3 = 0 then
        f_sa_merge_23 KK a0 a1 a2 (0 : Int32) w
      else
        (f_sa_copy a0 a1 w).bind fun w26 =>
        some w26
    else
      some w
  else none
def f_sa_join (a0 : Nat) (a1 : Nat) (w : WW) : Option WW :=
  if kb w a0 7 = true then
    (f_sa_merge a0 a1 (0 : Int32) w).bind fun w1 =>
    some w1
  else none
def f_va_sameAs_30  (z0 : Int32) (w : WW) : Option (Int32 × WW) :=
  if z0 = 0 ∨ z0 = 1 then some (z0, w) else none
def f_va_sameAs_14  (y0 : Nat) (y1 : Nat) (w : WW) : Option (Int32 × WW) :=
  (gI w y0 8 0).bind fun x3 =>
  (gI w y1 8 0).bind fun x4 =>
  if x3 = x4 then
    f_va_sameAs_30 (1 : Int32) w
  else
    f_va_sameAs_30 (0 : Int32) w
def f_va_sameAs_84  (z0 : Int32) (w : WW) : Option (Int32 × WW) :=
  if z0 = 0 ∨ z0 = 1 then some (z0, w) else none
def f_va_sameAs_83   (w : WW) : Option (Int32 × WW) :=
  f_va_sameAs_84 (0 : Int32) w
def f_va_sameAs (a0 : Nat) (a1 : Nat) (w : WW) : Option (Int32 × WW) :=
  if kb w a0 8 = true then
    (gI w a0 8 0).bind fun x1 =>
    if x1 = 0 then
      (gI w a1 8 0).bind fun x7 =>
      if x7 = 0 then
        (gL w a0 8 1).bind fun x9 =>
        (gL w a1 8 1).bind fun x10 =>
        if x9 = x10 then
          (gL w a0 8 2).bind fun x13 =>
          (gL w a1 8 2).bind fun x14 =>
          if x13 = x14 then
            (gL w a0 8 3).bind fun x16 =>
            (gL w a1 8 3).bind fun x17 =>
            if x16 = x17 then
              (gL w a0 8 4).bind fun x19 =>
              (gL w a1 8 4).bind fun x20 =>
              if x19 = x20 then
                f_va_sameAs_84 (1 : Int32) w
              else
                f_va_sameAs_83 w
            else
              f_va_sameAs_83 w
          else
            f_va_sameAs_83 w
        else
          f_va_sameAs_83 w
      else
        f_va_sameAs_14 a0 a1 w
    else
      f_va_sameAs_14 a0 a1 w
  else none
def f_sa_sameAs_30  (z0 : Int32) (w : WW) : Option (Int32 × WW) :=
  if z0 = 0 ∨ z0 = 1 then some (z0, w) else none
def f_sa_sameAs_14  (y0 : Nat) (y1 : Nat) (w : WW) : Option (Int32 × WW) :=
  (gI w y0 7 0).bind fun x3 =>
  (gI w y1 7 0).bind fun x4 =>
  if x3 = x4 then
    f_sa_sameAs_30 (1 : Int32) w
  else
    f_sa_sameAs_30 (0 : Int32) w
def f_sa_sameAs_67  : Nat → Nat → Nat → Int32 → WW → Option (Int32 × WW)
  | 0, _, _, _, _ => none
  | n + 1, y0, y1, y2, w =>
    if (6 : Int32) ≤ y2 then
      if (1 : Int32) = 0 ∨ (1 : Int32) = 1 then some ((1 : Int32), w) else none
    else
      (gN w y0 7 2).bind fun x12 =>
      (rI w x12 2 y2).bind fun x13 =>
      (gN w y1 7 2).bind fun x14 =>
      (rI w x14 2 y2).bind fun x15 =>
      if x13 = x15 then
        f_sa_sameAs_67 n y0 y1 (y2 + (1 : Int32)) w
      else
        if (0 : Int32) = 0 ∨ (0 : Int32) = 1 then some ((0 : Int32), w) else none
def f_sa_sameAs_33  : Nat → Nat → Nat → Int32 → WW → Option (Int32 × WW)
  | 0, _, _, _, _ => none
  | n + 1, y0, y1, y2, w =>
    if (14 : Int32) ≤ y2 then
      f_sa_sameAs_67 KK y0 y1 (0 : Int32) w
    else
      (gN w y0 7 1).bind fun x18 =>
      (rN w x18 4 y2).bind fun x19 =>
      (gN w y1 7 1).bind fun x20 =>
      (rN w x20 4 y2).bind fun x21 =>
      bd2 (f_va_sameAs x19 x21 w) fun x23 w22 =>
      if x23 = 0 then
        if (0 : Int32) = 0 ∨ (0 : Int32) = 1 then some ((0 : Int32), w22) else none
      else
        f_sa_sameAs_33 n y0 y1 (y2 + (1 : Int32)) w22
def f_sa_sameAs (a0 : Nat) (a1 : Nat) (w : WW) : Option (Int32 × WW) :=
  if kb w a0 7 = true then
    (gI w a0 7 0).bind fun x1 =>
    if x1 = 0 then
      (gI w a1 7 0).bind fun x7 =>
      if x7 = 0 then
        f_sa_sameAs_33 KK a0 a1 (0 : Int32) w
      else
        f_sa_sameAs_14 a0 a1 w
    else
      f_sa_sameAs_14 a0 a1 w
  else none
def f_sa_widen (a0 : Nat) (a1 : Nat) (w : WW) : Option WW :=
  if kb w a0 7 = true then
    (f_sa_merge a0 a1 (1 : Int32) w).bind fun w1 =>
    some w1
  else none
def f_sa_setAllInts_2  : Nat → Nat → Int32 → WW → Option WW
  | 0, _, _, _ => none
  | n + 1, y0, y1, w =>
    if (14 : Int32) ≤ y1 then
      some w
    else
      (gN w y0 7 1).bind fun x2 =>
      (rN w x2 4 y1).bind fun x3 =>
      (f_va_setAll x3 w).bind fun w4 =>
      f_sa_setAllInts_2 n y0 (y1 + (1 : Int32)) w4
def f_sa_setAllInts (a0 : Nat) (w : WW) : Option WW :=
  if kb w a0 7 = true then
    f_sa_setAllInts_2 KK a0 (0 : Int32) w
  else none
def f_an_goStatements_39 (g_an_goStatements : Nat → Option Nat → Nat → Int32 → WW → Option WW) (g_an_goStatement : Nat → Option Nat → Nat → Int32 → WW → Option WW) (g_an_goIf : Nat → Option Nat → Nat → Int32 → WW → Option WW) (g_an_goWhile : Nat → Option Nat → Nat → Int32 → WW → Option WW) (g_an_settle : Nat → Option Nat → Nat → Int32 → WW → Option WW) (g_an_goPass : Nat → Option Nat → Nat → Int32 → WW → Option WW)   (w : WW) : Option WW :=
  some w
def f_an_goStatements_9 (g_an_goStatements : Nat → Option Nat → Nat → Int32 → WW → Option WW) (g_an_goStatement : Nat → Option Nat → Nat → Int32 → WW → Option WW) (g_an_goIf : Nat → Option Nat → Nat → Int32 → WW → Option WW) (g_an_goWhile : Nat → Option Nat → Nat → Int32 → WW → Option WW) (g_an_settle : Nat → Option Nat → Nat → Int32 → WW → Option WW) (g_an_goPass : Nat → Option Nat → Nat → Int32 → WW → Option WW)  : Nat → Nat → Nat → Int32 → Option Nat → WW → Option WW
  | 0, _, _, _, _, _ => none
  | n + 1, y0, y2, y3, y4, w =>
    nl y4
      (f_an_goStatements_39 g_an_goStatements g_an_goStatement g_an_goIf g_an_goWhile g_an_settle g_an_goPass w)
      fun x2 =>
        (gI w y2 7 0).bind fun x3 =>
        if x3 = 0 then
          (g_an_goStatement y0 (some x2) y2 y3 w).bind fun w5 =>
          (gR w5 x2 4 9).bind fun x6 =>
          f_an_goStatements_9 g_an_goStatements g_an_goStatement g_an_goIf g_an_goWhile g_an_settle g_an_goPass n y0 y2 y3 x6 w5
        else
          f_an_goStatements_39 g_an_goStatements g_an_goStatement g_an_goIf g_an_goWhile g_an_settle g_an_goPass w
def fo_an_goStatements (g_an_goStatements : Nat → Option Nat → Nat → Int32 → WW → Option WW) (g_an_goStatement : Nat → Option Nat → Nat → Int32 → WW → Option WW) (g_an_goIf : Nat → Option Nat → Nat → Int32 → WW → Option WW) (g_an_goWhile : Nat → Option Nat → Nat → Int32 → WW → Option WW) (g_an_settle : Nat → Option Nat → Nat → Int32 → WW → Option WW) (g_an_goPass : Nat → Option Nat → Nat → Int32 → WW → Option WW) (a0 : Nat) (a1 : Option Nat) (a2 : Nat) (a3 : Int32) (w : WW) : Option WW :=
  if kb w a0 6 = true then
    if a3 ≤ (3 : Int32) then
      f_an_goStatements_9 g_an_goStatements g_an_goStatement g_an_goIf g_an_goWhile g_an_settle g_an_goPass KK a0 a2 a3 a1 w
    else
      some w
  else none
def f_an_goStatement_118 (g_an_goStatements : Nat → Option Nat → Nat → Int32 → WW → Option WW) (g_an_goStatement : Nat → Option Nat → Nat → Int32 → WW → Option WW) (g_an_goIf : Nat → Option Nat → Nat → Int32 → WW → Option WW) (g_an_goWhile : Nat → Option Nat → Nat → Int32 → WW → Option WW) (g_an_settle : Nat → Option Nat → Nat → Int32 → WW → Option WW) (g_an_goPass : Nat → Option Nat → Nat → Int32 → WW → Option WW)   (w : WW) : Option WW :=
  some w
def fo_an_goStatement (g_an_goStatements : Nat → Option Nat → Nat → Int32 → WW → Option WW) (g_an_goStatement : Nat → Option Nat → Nat → Int32 → WW → Option WW) (g_an_goIf : Nat → Option Nat → Nat → Int32 → WW → Option WW) (g_an_goWhile : Nat → Option Nat → Nat → Int32 → WW → Option WW) (g_an_settle : Nat → Option Nat → Nat → Int32 → WW → Option WW) (g_an_goPass : Nat → Option Nat → Nat → Int32 → WW → Option WW) (a0 : Nat) (a1 : Option Nat) (a2 : Nat) (a3 : Int32) (w : WW) : Option WW :=
  if kb w a0 6 = true then
    a1.bind fun x1 =>
    (gI w x1 4 0).bind fun x2 =>
    if x2 = (2 : Int32) then
      (f_an_goAssignment a0 (some x1) a2 w).bind fun w4 =>
      f_an_goStatement_118 g_an_goStatements g_an_goStatement g_an_goIf g_an_goWhile g_an_settle g_an_goPass w4
    else
      if x2 = (3 : Int32) then
        (f_an_goStore a0 (some x1) a2 w).bind fun w6 =>
        f_an_goStatement_118 g_an_goStatements g_an_goStatement g_an_goIf g_an_goWhile g_an_settle g_an_goPass w6
      else
        if x2 = (4 : Int32) then
          (g_an_goIf a0 (some x1) a2 a3 w).bind fun w8 =>
          f_an_goStatement_118 g_an_goStatements g_an_goStatement g_an_goIf g_an_goWhile g_an_settle g_an_goPass w8
        else
          if x2 = (5 : Int32) then
            (f_an_goAssert a0 (some x1) a2 a3 w).bind fun w10 =>
            f_an_goStatement_118 g_an_goStatements g_an_goStatement g_an_goIf g_an_goWhile g_an_settle g_an_goPass w10
          else
            if x2 = (6 : Int32) then
              (g_an_goWhile a0 (some x1) a2 a3 w).bind fun w12 =>
              f_an_goStatement_118 g_an_goStatements g_an_goStatement g_an_goIf g_an_goWhile g_an_settle g_an_goPass w12
            else
              if x2 = (7 : Int32) then
                (f_an_goAssert a0 (some x1) a2 a3 w).bind fun w14 =>
                f_an_goStatement_118 g_an_goStatements g_an_goStatement g_an_goIf g_an_goWhile g_an_settle g_an_goPass w14
              else
                if x2 = (8 : Int32) then
                  (gN w a2 7 1).bind fun x16 =>
                  (gI w x1 4 2).bind fun x17 =>
                  (rN w x16 4 x17).bind fun x18 =>
                  (f_va_setAll x18 w).bind fun w19 =>
                  (gN w19 a2 7 2).bind fun x20 =>
                  (gI w19 x1 4 2).bind fun x21 =>
                  (sI w19 x20 2 x21 (vp_nar .boolean (0 : Int32))).bind fun w22 =>
                  f_an_goStatement_118 g_an_goStatements g_an_goStatement g_an_goIf g_an_goWhile g_an_settle g_an_goPass w22
                else
                  (f_an_goAssert a0 (some x1) a2 a3 w).bind fun w23 =>
                  f_an_goStatement_118 g_an_goStatements g_an_goStatement g_an_goIf g_an_goWhile g_an_settle g_an_goPass w23
  else none
def fo_an_goIf (g_an_goStatements : Nat → Option Nat → Nat → Int32 → WW → Option WW) (g_an_goStatement : Nat → Option Nat → Nat → Int32 → WW → Option WW) (g_an_goIf : Nat → Option Nat → Nat → Int32 → WW → Option WW) (g_an_goWhile : Nat → Option Nat → Nat → Int32 → WW → Option WW) (g_an_settle : Nat → Option Nat → Nat → Int32 → WW → Option WW) (g_an_goPass : Nat → Option Nat → Nat → Int32 → WW → Option WW) (a0 : Nat) (a1 : Option Nat) (a2 : Nat) (a3 : Int32) (w : WW) : Option WW :=
  if kb w a0 6 = true then
    (gN w a0 6 1).bind fun x1 =>
    (rN w x1 5 ((3 : Int32) * a3)).bind fun x2 =>
    (f_sa_copy x2 a2 w).bind fun w3 =>
    (f_an_assume a0 a1 a2 (1 : Int32) w3).bind fun w4 =>
    (f_an_assume a0 a1 x2 (0 : Int32) w4).bind fun w5 =>
    a1.bind fun x6 =>
    (gR w5 x6 4 7).bind fun x7 =>
    (g_an_goStatements a0 x7 a2 (a3 + (1 : Int32)) w5).bind fun w8 =>
    (gR w8 x6 4 8).bind fun x9 =>
    (g_an_goStatements a0 x9 x2 (a3 + (1 : Int32)) w8).bind fun w10 =>
    (f_sa_join a2 x2 w10).bind fun w11 =>
    some w11
  else none
def f_an_goWhile_49 (g_an_goStatements : Nat → Option Nat → Nat → Int32 → WW → Option WW) (g_an_goStatement : Nat → Option Nat → Nat → Int32 → WW → Option WW) (g_an_goIf : Nat → Option Nat → Nat → Int32 → WW → Option WW) (g_an_goWhile : Nat → Option Nat → Nat → Int32 → WW → Option WW) (g_an_settle : Nat → Option Nat → Nat → Int32 → WW → Option WW) (g_an_goPass : Nat → Option Nat → Nat → Int32 → WW → Option WW)  : Nat → Nat → Option Nat → Nat → Int32 → Nat → Int32 → Int32 → WW → Option WW
  | 0, _, _, _, _, _, _, _, _ => none
  | n + 1, y0, y1, y2, y3, y5, y6, y7, w =>
    (gI w y0 6 6).bind fun x10 =>
    if x10 ≤ y7 then
      if (1 : Int32) = 0 ∨ (1 : Int32) = 1 then
        (pv w y0 6 7 (.int (1 : Int32))).bind fun w12 =>
        (g_an_goPass y0 y1 y2 y3 w12).bind fun w14 =>
        if y6 = 0 ∨ y6 = 1 then
          (pv w14 y0 6 7 (.int y6)).bind fun w15 =>
          (f_an_assume y0 y1 y2 (0 : Int32) w15).bind fun w17 =>
          some w17
        else none
      else none
    else
      (g_an_goPass y0 y1 y2 y3 w).bind fun w18 =>
      (f_sa_copy y2 y5 w18).bind fun w19 =>
      f_an_goWhile_49 g_an_goStatements g_an_goStatement g_an_goIf g_an_goWhile g_an_settle g_an_goPass n y0 y1 y2 y3 y5 y6 (y7 + (1 : Int32)) w19
def fo_an_goWhile (g_an_goStatements : Nat → Option Nat → Nat → Int32 → WW → Option WW) (g_an_goStatement : Nat → Option Nat → Nat → Int32 → WW → Option WW) (g_an_goIf : Nat → Option Nat → Nat → Int32 → WW → Option WW) (g_an_goWhile : Nat → Option Nat → Nat → Int32 → WW → Option WW) (g_an_settle : Nat → Option Nat → Nat → Int32 → WW → Option WW) (g_an_goPass : Nat → Option Nat → Nat → Int32 → WW → Option WW) (a0 : Nat) (a1 : Option Nat) (a2 : Nat) (a3 : Int32) (w : WW) : Option WW :=
  if kb w a0 6 = true then
    (gN w a0 6 1).bind fun x1 =>
    (rN w x1 5 ((3 : Int32) * a3)).bind fun x2 =>
    (gN w a0 6 1).bind fun x3 =>
    (rN w x3 5 (((3 : Int32) * a3) + (1 : Int32))).bind fun x4 =>
    (f_sa_copy x2 a2 w).bind fun w5 =>
    (gI w5 a0 6 7).bind fun x6 =>
    if (0 : Int32) = 0 ∨ (0 : Int32) = 1 then
      (pv w5 a0 6 7 (.int (0 : Int32))).bind fun w7 =>
      (g_an_settle a0 a1 a2 a3 w7).bind fun w9 =>
      f_an_goWhile_49 g_an_goStatements g_an_goStatement g_an_goIf g_an_goWhile g_an_settle g_an_goPass KK a0 a1 a2 a3 x4 x6 (0 : Int32) w9
    else none
  else none
def f_an_settle_99 (g_an_goStatements : Nat → Option Nat → Nat → Int32 → WW → Option WW) (g_an_goStatement : Nat → Option Nat → Nat → Int32 → WW → Option WW) (g_an_goIf : Nat → Option Nat → Nat → Int32 → WW → Option WW) (g_an_goWhile : Nat → Option Nat → Nat → Int32 → WW → Option WW) (g_an_settle : Nat → Option Nat → Nat → Int32 → WW → Option WW) (g_an_goPass : Nat → Option Nat → Nat → Int32 → WW → Option WW) (k_27 : Nat → Option Nat → Nat → Int32 → Nat → Nat → Int32 → WW → Option WW) (y0 : Nat) (y1 : Option Nat) (y2 : Nat) (y3 : Int32) (y4 : Nat) (y5 : Nat) (y6 : Int32) (w : WW) : Option WW :=
  k_27 y0 y1 y2 y3 y4 y5 (y6 + (1 : Int32)) w
def f_an_settle_88 (g_an_goStatements : Nat → Option Nat → Nat → Int32 → WW → Option WW) (g_an_goStatement : Nat → Option Nat → Nat → Int32 → WW → Option WW) (g_an_goIf : Nat → Option Nat → Nat → Int32 → WW → Option WW) (g_an_goWhile : Nat → Option Nat → Nat → Int32 → WW → Option WW) (g_an_settle : Nat → Option Nat → Nat → Int32 → WW → Option WW) (g_an_goPass : Nat → Option Nat → Nat → Int32 → WW → Option WW) (k_27 : Nat → Option Nat → Nat → Int32 → Nat → Nat → Int32 → WW → Option WW) (y0 : Nat) (y1 : Option Nat) (y2 : Nat) (y3 : Int32) (y4 : Nat) (y5 : Nat) (y6 : Int32) (w : WW) : Option WW :=
  if y6 ≤ (20 : Int32) then
    f_an_settle_99 g_an_goStatements g_an_goStatement g_an_goIf g_an_goWhile g_an_settle g_an_goPass k_27 y0 y1 y2 y3 y4 y5 y6 w
  else
    (f_sa_setAllInts y2 w).bind fun w16 =>
    f_an_settle_99 g_an_goStatements g_an_goStatement g_an_goIf g_an_goWhile g_an_settle g_an_goPass k_27 y0 y1 y2 y3 y4 y5 y6 w16
def f_an_settle_27 (g_an_goStatements : Nat → Option Nat → Nat → Int32 → WW → Option WW) (g_an_goStatement : Nat → Option Nat → Nat → Int32 → WW → Option WW) (g_an_goIf : Nat → Option Nat → Nat → Int32 → WW → Option WW) (g_an_goWhile : Nat → Option Nat → Nat → Int32 → WW → Option WW) (g_an_settle : Nat → Option Nat → Nat → Int32 → WW → Option WW) (g_an_goPass : Nat → Option Nat → Nat → Int32 → WW → Option WW)  : Nat → Nat → Option Nat → Nat → Int32 → Nat → Nat → Int32 → WW → Option WW
  | 0, _, _, _, _, _, _, _, _ => none
  | n + 1, y0, y1, y2, y3, y4, y5, y6, w =>
    if (100 : Int32) < y6 then
      some w
    else
      (g_an_goPass y0 y1 y2 y3 w).bind fun w6 =>
      (f_sa_copy y5 y2 w6).bind fun w7 =>
      (f_sa_join y5 y4 w7).bind fun w8 =>
      bd2 (f_sa_sameAs y5 y2 w8) fun x10 w9 =>
      if x10 = 0 then
        (gI w9 y0 6 5).bind fun x12 =>
        if x12 < y6 then
          (f_sa_widen y2 y4 w9).bind fun w14 =>
          f_an_settle_88 g_an_goStatements g_an_goStatement g_an_goIf g_an_goWhile g_an_settle g_an_goPass (f_an_settle_27 g_an_goStatements g_an_goStatement g_an_goIf g_an_goWhile g_an_settle g_an_goPass n) y0 y1 y2 y3 y4 y5 y6 w14
        else
          (f_sa_copy y2 y5 w9).bind fun w17 =>
          f_an_settle_88 g_an_goStatements g_an_goStatement g_an_goIf g_an_goWhile g_an_settle g_an_goPass (f_an_settle_27 g_an_goStatements g_an_goStatement g_an_goIf g_an_goWhile g_an_settle g_an_goPass n) y0 y1 y2 y3 y4 y5 y6 w17
      else
        some w9
def fo_an_settle (g_an_goStatements : Nat → Option Nat → Nat → Int32 → WW → Option WW) (g_an_goStatement : Nat → Option Nat → Nat → Int32 → WW → Option WW) (g_an_goIf : Nat → Option Nat → Nat → Int32 → WW → Option WW) (g_an_goWhile : Nat → Option Nat → Nat → Int32 → WW → Option WW) (g_an_settle : Nat → Option Nat → Nat → Int32 → WW → Option WW) (g_an_goPass : Nat → Option Nat → Nat → Int32 → WW → Option WW) (a0 : Nat) (a1 : Option Nat) (a2 : Nat) (a3 : Int32) (w : WW) : Option WW :=
  if kb w a0 6 = true then
    (gN w a0 6 1).bind fun x1 =>
    (rN w x1 5 (((3 : Int32) * a3) + (1 : Int32))).bind fun x2 =>
    (gN w a0 6 1).bind fun x3 =>
    (rN w x3 5 (((3 : Int32) * a3) + (2 : Int32))).bind fun x4 =>
    f_an_settle_27 g_an_goStatements g_an_goStatement g_an_goIf g_an_goWhile g_an_settle g_an_goPass KK a0 a1 a2 a3 x2 x4 (1 : Int32) w
  else none
def fo_an_goPass (g_an_goStatements : Nat → Option Nat → Nat → Int32 → WW → Option WW) (g_an_goStatement : Nat → Option Nat → Nat → Int32 → WW → Option WW) (g_an_goIf : Nat → Option Nat → Nat → Int32 → WW → Option WW) (g_an_goWhile : Nat → Option Nat → Nat → Int32 → WW → Option WW) (g_an_settle : Nat → Option Nat → Nat → Int32 → WW → Option WW) (g_an_goPass : Nat → Option Nat → Nat → Int32 → WW → Option WW) (a0 : Nat) (a1 : Option Nat) (a2 : Nat) (a3 : Int32) (w : WW) : Option WW :=
  if kb w a0 6 = true then
    (gN w a0 6 1).bind fun x1 =>
    (rN w x1 5 ((3 : Int32) * a3)).bind fun x2 =>
    (gN w a0 6 1).bind fun x3 =>
    (rN w x3 5 (((3 : Int32) * a3) + (1 : Int32))).bind fun x4 =>
    (gI w a0 6 9).bind fun x5 =>
    (pv w a0 6 9 (.int (x5 + (1 : Int32)))).bind fun w6 =>
    (f_sa_copy x4 a2 w6).bind fun w7 =>
    (f_an_assume a0 a1 x4 (1 : Int32) w7).bind fun w8 =>
    a1.bind fun x9 =>
    (gR w8 x9 4 7).bind fun x10 =>
    (g_an_goStatements a0 x10 x4 (a3 + (1 : Int32)) w8).bind fun w11 =>
    (f_sa_join x4 x2 w11).bind fun w12 =>
    some w12
  else none
def sc_an6 : Nat → (Nat → Option Nat → Nat → Int32 → WW → Option WW) × (Nat → Option Nat → Nat → Int32 → WW → Option WW) × (Nat → Option Nat → Nat → Int32 → WW → Option WW) × (Nat → Option Nat → Nat → Int32 → WW → Option WW) × (Nat → Option Nat → Nat → Int32 → WW → Option WW) × (Nat → Option Nat → Nat → Int32 → WW → Option WW)
  | 0 => (fun _ _ _ _ _ => none, fun _ _ _ _ _ => none, fun _ _ _ _ _ => none, fun _ _ _ _ _ => none, fun _ _ _ _ _ => none, fun _ _ _ _ _ => none)
  | d + 1 => (fo_an_goStatements (sc_an6 d).1 (sc_an6 d).2.1 (sc_an6 d).2.2.1 (sc_an6 d).2.2.2.1 (sc_an6 d).2.2.2.2.1 (sc_an6 d).2.2.2.2.2, fo_an_goStatement (sc_an6 d).1 (sc_an6 d).2.1 (sc_an6 d).2.2.1 (sc_an6 d).2.2.2.1 (sc_an6 d).2.2.2.2.1 (sc_an6 d).2.2.2.2.2, fo_an_goIf (sc_an6 d).1 (sc_an6 d).2.1 (sc_an6 d).2.2.1 (sc_an6 d).2.2.2.1 (sc_an6 d).2.2.2.2.1 (sc_an6 d).2.2.2.2.2, fo_an_goWhile (sc_an6 d).1 (sc_an6 d).2.1 (sc_an6 d).2.2.1 (sc_an6 d).2.2.2.1 (sc_an6 d).2.2.2.2.1 (sc_an6 d).2.2.2.2.2, fo_an_settle (sc_an6 d).1 (sc_an6 d).2.1 (sc_an6 d).2.2.1 (sc_an6 d).2.2.2.1 (sc_an6 d).2.2.2.2.1 (sc_an6 d).2.2.2.2.2, fo_an_goPass (sc_an6 d).1 (sc_an6 d).2.1 (sc_an6 d).2.2.1 (sc_an6 d).2.2.2.1 (sc_an6 d).2.2.2.2.1 (sc_an6 d).2.2.2.2.2)
def f_an_goStatements (d : Nat) : Nat → Option Nat → Nat → Int32 → WW → Option WW := (sc_an6 d).1
def f_an_goStatement (d : Nat) : Nat → Option Nat → Nat → Int32 → WW → Option WW := (sc_an6 d).2.1
def f_an_goIf (d : Nat) : Nat → Option Nat → Nat → Int32 → WW → Option WW := (sc_an6 d).2.2.1
def f_an_goWhile (d : Nat) : Nat → Option Nat → Nat → Int32 → WW → Option WW := (sc_an6 d).2.2.2.1
def f_an_settle (d : Nat) : Nat → Option Nat → Nat → Int32 → WW → Option WW := (sc_an6 d).2.2.2.2.1
def f_an_goPass (d : Nat) : Nat → Option Nat → Nat → Int32 → WW → Option WW := (sc_an6 d).2.2.2.2.2
def f_an_goThrough_18  : Nat → Nat → Int32 → WW → Option WW
  | 0, _, _, _ => none
  | n + 1, y0, y4, w =>
    if (200 : Int32) ≤ y4 then
      (pv w y0 6 9 (.int (0 : Int32))).bind fun w5 =>
      (pv w5 y0 6 10 (.int (0 : Int32))).bind fun w6 =>
      if (1 : Int32) = 0 ∨ (1 : Int32) = 1 then
        (pv w6 y0 6 7 (.int (1 : Int32))).bind fun w7 =>
        (gN w7 y0 6 0).bind fun x9 =>
        (f_sa_setFirst x9 w7).bind fun w10 =>
        (gR w10 y0 6 4).bind fun x11 =>
        x11.bind fun x12 =>
        (gR w10 x12 3 6).bind fun x13 =>
        (gN w10 y0 6 0).bind fun x14 =>
        (f_an_goStatements 64 y0 x13 x14 (0 : Int32) w10).bind fun w15 =>
        if (1 : Int32) = 0 ∨ (1 : Int32) = 1 then
          (pv w15 y0 6 8 (.int (1 : Int32))).bind fun w16 =>
          some w16
        else none
      else none
    else
      (gN w y0 6 3).bind fun x18 =>
      (sI w x18 0 y4 (0 : Int32)).bind fun w19 =>
      f_an_goThrough_18 n y0 (y4 + (1 : Int32)) w19
def f_an_goThrough (a0 : Nat) (a1 : Nat) (a2 : Int32) (a3 : Int32) (w : WW) : Option WW :=
  if kb w a0 6 = true then
    (pv w a0 6 4 (.ref a1)).bind fun w1 =>
    (pv w1 a0 6 5 (.int a2)).bind fun w2 =>
    (pv w2 a0 6 6 (.int a3)).bind fun w3 =>
    f_an_goThrough_18 KK a0 (0 : Int32) w3
  else none
def f_a_analyse (a0 : Nat) (w : WW) : Option ((Int32 ⊕ String) × WW) :=
  if kb w a0 0 = true then
    (gI w a0 0 6).bind fun x1 =>
    if x1 = 0 then
      some (.inr "java/lang/IllegalStateException", w)
    else
      (gN w a0 0 8).bind fun x3 =>
      (gN w a0 0 4).bind fun x4 =>
      (gI w a0 0 0).bind fun x5 =>
      (gI w a0 0 1).bind fun x6 =>
      (f_an_goThrough x3 x4 x5 x6 w).bind fun w7 =>
      (gN w7 a0 0 8).bind fun x8 =>
      (gI w7 x8 6 10).bind fun x9 =>
      some (.inl x9, w7)
  else none
def f_an_warningOf_51 (k_14 : Nat → Int32 → Int32 → Int32 → Int32 → WW → Option (Int32 × WW)) (y0 : Nat) (y1 : Int32) (y2 : Int32) (y3 : Int32) (y4 : Int32) (w : WW) : Option (Int32 × WW) :=
  k_14 y0 y1 y2 y3 (y4 + (1 : Int32)) w
def f_an_warningOf_14 (k_4 : Nat → Int32 → Int32 → Int32 → WW → Option (Int32 × WW)) : Nat → Nat → Int32 → Int32 → Int32 → Int32 → WW → Option (Int32 × WW)
  | 0, _, _, _, _, _, _ => none
  | n + 1, y0, y1, y2, y3, y4, w =>
    if (5 : Int32) < y4 then
      k_4 y0 y1 y2 (y3 + (1 : Int32)) w
    else
      (gN w y0 6 3).bind fun x3 =>
      (rI w x3 0 y3).bind fun x4 =>
      if ((x4 >>> (y4 &&& 31)) &&& (1 : Int32)) = 0 then
        f_an_warningOf_51 (f_an_warningOf_14 k_4 n) y0 y1 y2 y3 y4 w
      else
        if y2 = y1 then
          some ((((1024 : Int32) * y4) + y3), w)
        else
          f_an_warningOf_51 (f_an_warningOf_14 k_4 n) y0 y1 (y2 + (1 : Int32)) y3 y4 w
def f_an_warningOf_4  : Nat → Nat → Int32 → Int32 → Int32 → WW → Option (Int32 × WW)
  | 0, _, _, _, _, _ => none
  | n + 1, y0, y1, y2, y3, w =>
    if (200 : Int32) ≤ y3 then
      some ((0 : Int32), w)
    else
      f_an_warningOf_14 (f_an_warningOf_4 n) KK y0 y1 y2 y3 (1 : Int32) w
def f_an_warningOf (a0 : Nat) (a1 : Int32) (w : WW) : Option (Int32 × WW) :=
  if kb w a0 6 = true then
    f_an_warningOf_4 KK a0 a1 (0 : Int32) (0 : Int32) w
  else none
def f_a_warning_15   (w : WW) : Option ((Int32 ⊕ String) × WW) :=
  some (.inr "java/lang/IndexOutOfBoundsException", w)
def f_a_warning (a0 : Nat) (a1 : Int32) (w : WW) : Option ((Int32 ⊕ String) × WW) :=
  if kb w a0 0 = true then
    if a1 < 0 then
      f_a_warning_15 w
    else
      (gN w a0 0 8).bind fun x2 =>
      (gI w x2 6 10).bind fun x3 =>
      if a1 < x3 then
        (gN w a0 0 8).bind fun x5 =>
        bd2 (f_an_warningOf x5 a1 w) fun x7 w6 =>
        some (.inl x7, w6)
      else
        f_a_warning_15 w
  else none
def f_va_part (a0 : Nat) (a1 : Int32) (w : WW) : Option (Int32 × WW) :=
  if kb w a0 8 = true then
    if a1 = (0 : Int32) then
      (gL w a0 8 1).bind fun x2 =>
      some ((Int64.toInt32 x2), w)
    else
      if a1 = (1 : Int32) then
        (gL w a0 8 2).bind fun x4 =>
        some ((Int64.toInt32 x4), w)
      else
        if a1 = (2 : Int32) then
          (gL w a0 8 3).bind fun x6 =>
          some ((Int64.toInt32 x6), w)
        else
          (gL w a0 8 4).bind fun x7 =>
          some ((Int64.toInt32 x7), w)
  else none
def f_a_left_9   (w : WW) : Option ((Int32 ⊕ String) × WW) :=
  some (.inr "java/lang/IllegalArgumentException", w)
def f_a_left_140   (w : WW) : Option ((Int32 ⊕ String) × WW) :=
  some (.inr "java/lang/UnsupportedOperationException", w)
def f_a_left_172  (z0 : Int32) (w : WW) : Option ((Int32 ⊕ String) × WW) :=
  some (.inl z0, w)
def f_a_left_171   (w : WW) : Option ((Int32 ⊕ String) × WW) :=
  f_a_left_172 (0 : Int32) w
def f_a_left_148  (y1 : Int32) (y2 : Int32) (y3 : Int32) (y5 : Nat) (y6 : Nat) (w : WW) : Option ((Int32 ⊕ String) × WW) :=
  if y2 = (4 : Int32) then
    if y3 = 0 then
      f_a_left_171 w
    else
      (gN w y5 7 2).bind fun x21 =>
      (rI w x21 2 y1).bind fun x22 =>
      if x22 = 0 then
        f_a_left_171 w
      else
        f_a_left_172 (1 : Int32) w
  else
    bd2 (f_va_part y6 y2 w) fun x19 w18 =>
    some (.inl x19, w18)
def f_a_left_116  (y1 : Int32) (y2 : Int32) (y3 : Int32) (y5 : Nat) (z0 : Nat) (z1 : Int32) (w : WW) : Option ((Int32 ⊕ String) × WW) :=
  (rN w z0 4 z1).bind fun x13 =>
  (gI w y5 7 0).bind fun x14 =>
  if x14 = 0 then
    if (4 : Int32) ≤ y2 then
      f_a_left_148 y1 y2 y3 y5 x13 w
    else
      (gI w x13 8 0).bind fun x24 =>
      if x24 = 0 then
        f_a_left_148 y1 y2 y3 y5 x13 w
      else
        f_a_left_140 w
  else
    f_a_left_140 w
def f_a_left_69  (y0 : Nat) (y1 : Int32) (y2 : Int32) (y3 : Int32) (w : WW) : Option ((Int32 ⊕ String) × WW) :=
  (gN w y0 0 8).bind fun x6 =>
  (gI w x6 6 8).bind fun x7 =>
  if x7 = 0 then
    some (.inr "java/lang/IllegalStateException", w)
  else
    (gN w y0 0 8).bind fun x9 =>
    (gN w x9 6 0).bind fun x10 =>
    (gN w x10 7 1).bind fun x11 =>
    if y3 = 0 then
      f_a_left_116 y1 y2 y3 x10 x11 (((6 : Int32) + y1) - (10 : Int32)) w
    else
      f_a_left_116 y1 y2 y3 x10 x11 y1 w
def f_a_left_50  (y0 : Nat) (y1 : Int32) (y2 : Int32) (y3 : Int32) (z0 : Int32) (w : WW) : Option ((Int32 ⊕ String) × WW) :=
  if y3 = 0 then
    if z0 = 0 then
      some (.inr "java/lang/IndexOutOfBoundsException", w)
    else
      f_a_left_69 y0 y1 y2 y3 w
  else
    f_a_left_69 y0 y1 y2 y3 w
def f_a_left_49  (y0 : Nat) (y1 : Int32) (y2 : Int32) (y3 : Int32) (w : WW) : Option ((Int32 ⊕ String) × WW) :=
  f_a_left_50 y0 y1 y2 y3 (0 : Int32) w
def f_a_left_32  (y0 : Nat) (y1 : Int32) (y2 : Int32) (z0 : Int32) (w : WW) : Option ((Int32 ⊕ String) × WW) :=
  if y1 < (10 : Int32) then
    f_a_left_49 y0 y1 y2 z0 w
  else
    if (18 : Int32) ≤ y1 then
      f_a_left_49 y0 y1 y2 z0 w
    else
      f_a_left_50 y0 y1 y2 z0 (1 : Int32) w
def f_a_left_31  (y0 : Nat) (y1 : Int32) (y2 : Int32) (w : WW) : Option ((Int32 ⊕ String) × WW) :=
  f_a_left_32 y0 y1 y2 (0 : Int32) w
def f_a_left (a0 : Nat) (a1 : Int32) (a2 : Int32) (w : WW) : Option ((Int32 ⊕ String) × WW) :=
  if kb w a0 0 = true then
    if a2 < 0 then
      f_a_left_9 w
    else
      if a2 ≤ (4 : Int32) then
        if a1 < 0 then
          f_a_left_31 a0 a1 a2 w
        else
          if (6 : Int32) ≤ a1 then
            f_a_left_31 a0 a1 a2 w
          else
            f_a_left_32 a0 a1 a2 (1 : Int32) w
      else
        f_a_left_9 w
  else none
def f_a_count_78  (z0 : Int32) (w : WW) : Option ((Int32 ⊕ String) × WW) :=
  some (.inl z0, w)
def f_a_count (a0 : Nat) (a1 : Int32) (w : WW) : Option ((Int32 ⊕ String) × WW) :=
  if kb w a0 0 = true then
    if a1 = (0 : Int32) then
      (gN w a0 0 3).bind fun x2 =>
      (gI w x2 1 4).bind fun x3 =>
      some (.inl x3, w)
    else
      if a1 = (1 : Int32) then
        (gN w a0 0 7).bind fun x5 =>
        (gI w x5 5 5).bind fun x6 =>
        some (.inl x6, w)
      else
        if a1 = (2 : Int32) then
          (gI w a0 0 6).bind fun x8 =>
          if x8 = 0 then
            f_a_count_78 (0 : Int32) w
          else
            (gN w a0 0 4).bind fun x10 =>
            (gI w x10 3 1).bind fun x11 =>
            f_a_count_78 x11 w
        else
          if a1 = (3 : Int32) then
            (gN w a0 0 8).bind fun x13 =>
            (gI w x13 6 9).bind fun x14 =>
            some (.inl x14, w)
          else
            if a1 = (4 : Int32) then
              (gN w a0 0 8).bind fun x16 =>
              (gI w x16 6 10).bind fun x17 =>
              some (.inl x17, w)
            else
              if a1 = (5 : Int32) then
                (gI w a0 0 0).bind fun x19 =>
                some (.inl x19, w)
              else
                if a1 = (6 : Int32) then
                  (gI w a0 0 1).bind fun x21 =>
                  some (.inl x21, w)
                else
                  some (.inr "java/lang/IllegalArgumentException", w)
  else none
def f_q_thrown (a0 : Nat) (w : WW) : Option (Int32 × WW) :=
  if kb w a0 9 = true then
    (gI w a0 9 5).bind fun x1 =>
    some (x1, w)
  else none
def f_q_in_18  (z0 : Int32) (w : WW) : Option (Int32 × WW) :=
  if z0 = 0 ∨ z0 = 1 then some (z0, w) else none
def f_q_in_17   (w : WW) : Option (Int32 × WW) :=
  f_q_in_18 (0 : Int32) w
def f_q_in (a0 : Int64) (a2 : Int64) (a4 : Int64) (w : WW) : Option (Int32 × WW) :=
  if a0 < a2 then
    f_q_in_17 w
  else
    if a4 < a0 then
      f_q_in_17 w
    else
      f_q_in_18 (1 : Int32) w
def f_q_fail (a0 : Nat) (a1 : Int32) (w : WW) : Option (Int32 × WW) :=
  if kb w a0 9 = true then
    (pv w a0 9 5 (.int a1)).bind fun w1 =>
    some ((0 : Int32), w1)
  else none
def f_q_text_150 (k_105 : Nat → Int64 → Int32 → WW → Option (Int32 × WW)) (y0 : Nat) (y1 : Int64) (y5 : Int32) (w : WW) : Option (Int32 × WW) :=
  k_105 y0 y1 (y5 + (-8 : Int32)) w
def f_q_text_105  : Nat → Nat → Int64 → Int32 → WW → Option (Int32 × WW)
  | 0, _, _, _, _ => none
  | n + 1, y0, y1, y5, w =>
    if y5 < 0 then
      (gI w y0 9 2).bind fun x7 =>
      some (x7, w)
    else
      if ((Int64.toInt32 (y1 >>> (Int32.toInt64 y5 &&& 63))) &&& (255 : Int32)) = 0 then
        f_q_text_150 (f_q_text_105 n) y0 y1 y5 w
      else
        (gN w y0 9 0).bind fun x9 =>
        (gI w y0 9 2).bind fun x10 =>
        (sI w x9 0 x10 ((Int64.toInt32 (y1 >>> (Int32.toInt64 y5 &&& 63))) &&& (255 : Int32))).bind fun w11 =>
        (gI w11 y0 9 2).bind fun x12 =>
        (pv w11 y0 9 2 (.int (x12 + (1 : Int32)))).bind fun w13 =>
        f_q_text_150 (f_q_text_105 n) y0 y1 y5 w13
def f_q_text_61 (k_9 : Nat → Int64 → Int32 → Int32 → Int32 → WW → Option (Int32 × WW)) (y0 : Nat) (y1 : Int64) (y3 : Int32) (y4 : Int32) (y5 : Int32) (w : WW) : Option (Int32 × WW) :=
  k_9 y0 y1 y3 y4 (y5 + (-8 : Int32)) w
def f_q_text_58 (k_9 : Nat → Int64 → Int32 → Int32 → Int32 → WW → Option (Int32 × WW)) (y0 : Nat) (y1 : Int64) (y3 : Int32) (y4 : Int32) (y5 : Int32) (w : WW) : Option (Int32 × WW) :=
  f_q_text_61 k_9 y0 y1 (y3 + (1 : Int32)) y4 y5 w
def f_q_text_9  : Nat → Nat → Int64 → Int32 → Int32 → Int32 → WW → Option (Int32 × WW)
  | 0, _, _, _, _, _, _ => none
  | n + 1, y0, y1, y3, y4, y5, w =>
    if y5 < 0 then
      if y4 = 0 then
        bd2 (f_q_fail y0 (1 : Int32) w) fun x17 w16 =>
        some (x17, w16)
      else
        (gI w y0 9 2).bind fun x3 =>
        if (x3 + y3) ≤ (200 : Int32) then
          (pv w y0 9 5 (.int (0 : Int32))).bind fun w5 =>
          f_q_text_105 KK y0 y1 (56 : Int32) w5
        else
          bd2 (f_q_fail y0 (2 : Int32) w) fun x15 w14 =>
          some (x15, w14)
    else
      if ((Int64.toInt32 (y1 >>> (Int32.toInt64 y5 &&& 63))) &&& (255 : Int32)) = 0 then
        f_q_text_61 (f_q_text_9 n) y0 y1 y3 y4 y5 w
      else
        if ((Int64.toInt32 (y1 >>> (Int32.toInt64 y5 &&& 63))) &&& (255 : Int32)) = (10 : Int32) then
          f_q_text_58 (f_q_text_9 n) y0 y1 y3 y4 y5 w
        else
          bd2 (f_q_in (Int32.toInt64 ((Int64.toInt32 (y1 >>> (Int32.toInt64 y5 &&& 63))) &&& (255 : Int32))) (32 : Int64) (126 : Int64) w) fun x21 w20 =>
          if x21 = 0 then
            f_q_text_58 (f_q_text_9 n) y0 y1 y3 (0 : Int32) y5 w20
          else
            f_q_text_58 (f_q_text_9 n) y0 y1 y3 y4 y5 w20
def f_q_text (a0 : Nat) (a1 : Int64) (w : WW) : Option (Int32 × WW) :=
  if kb w a0 9 = true then
    f_q_text_9 KK a0 a1 (0 : Int32) (1 : Int32) (56 : Int32) w
  else none
def f_q_clear (a0 : Nat) (w : WW) : Option (Int32 × WW) :=
  if kb w a0 9 = true then
    (pv w a0 9 5 (.int (0 : Int32))).bind fun w1 =>
    (gI w1 a0 9 2).bind fun x2 =>
    (pv w1 a0 9 2 (.int (0 : Int32))).bind fun w3 =>
    some (x2, w3)
  else none
def f_q_isDigit (a0 : Int32) (w : WW) : Option (Int32 × WW) :=
  bd2 (f_q_in (Int32.toInt64 a0) (48 : Int64) (57 : Int64) w) fun x2 w1 =>
  if x2 = 0 ∨ x2 = 1 then some (x2, w1) else none
def f_q_charAt_19  (z0 : Int32) (w : WW) : Option (Int32 × WW) :=
  some (z0, w)
def f_q_charAt (a0 : Nat) (a1 : Int32) (w : WW) : Option (Int32 × WW) :=
  if kb w a0 9 = true then
    (gI w a0 9 2).bind fun x1 =>
    if x1 ≤ a1 then
      f_q_charAt_19 (32 : Int32) w
    else
      (gN w a0 9 0).bind fun x3 =>
      (rI w x3 0 a1).bind fun x4 =>
      f_q_charAt_19 x4 w
  else none
def f_q_isLetter_33  (z0 : Int32) (w : WW) : Option (Int32 × WW) :=
  if z0 = 0 ∨ z0 = 1 then some (z0, w) else none
def f_q_isLetter_28   (w : WW) : Option (Int32 × WW) :=
  f_q_isLetter_33 (1 : Int32) w
def f_q_isLetter (a0 : Int32) (w : WW) : Option (Int32 × WW) :=
  bd2 (f_q_in (Int32.toInt64 a0) (65 : Int64) (90 : Int64) w) fun x2 w1 =>
  if x2 = 0 then
    bd2 (f_q_in (Int32.toInt64 a0) (97 : Int64) (122 : Int64) w1) fun x6 w5 =>
    if x6 = 0 then
      f_q_isLetter_33 (0 : Int32) w5
    else
      f_q_isLetter_28 w5
  else
    f_q_isLetter_28 w1
def f_q_five (a0 : Int32) (a1 : Int32) (a2 : Int32) (a3 : Int32) (a4 : Int32) (w : WW) : Option (Int64 × WW) :=
  some ((((((((((Int32.toInt64 a0) * (128 : Int64)) + (Int32.toInt64 a1)) * (128 : Int64)) + (Int32.toInt64 a2)) * (128 : Int64)) + (Int32.toInt64 a3)) * (128 : Int64)) + (Int32.toInt64 a4)), w)
def f_q_isText_26  : Nat → Nat → Int64 → Int32 → WW → Option (Int32 × WW)
  | 0, _, _, _, _ => none
  | n + 1, y0, y4, y6, w =>
    (gI w y0 9 29).bind fun x5 =>
    if y6 < x5 then
      if (1 : Int32) = 0 ∨ (1 : Int32) = 1 then some ((1 : Int32), w) else none
    else
      (gN w y0 9 0).bind fun x8 =>
      (rI w x8 0 y6).bind fun x9 =>
      if ¬ (128 : Int64) = 0 then
        if (Int32.toInt64 x9) = (y4 - y4 / (128 : Int64) * (128 : Int64)) then
          if ¬ (128 : Int64) = 0 then
            f_q_isText_26 n y0 (y4 / (128 : Int64)) (y6 + (-1 : Int32)) w
          else none
        else
          if (0 : Int32) = 0 ∨ (0 : Int32) = 1 then some ((0 : Int32), w) else none
      else none
def f_q_isText (a0 : Nat) (a1 : Int32) (a2 : Int64) (w : WW) : Option (Int32 × WW) :=
  if kb w a0 9 = true then
    (gI w a0 9 28).bind fun x1 =>
    (gI w a0 9 29).bind fun x2 =>
    if (x1 - x2) = a1 then
      (gI w a0 9 28).bind fun x4 =>
      f_q_isText_26 KK a0 a2 (x4 - (1 : Int32)) w
    else
      if (0 : Int32) = 0 ∨ (0 : Int32) = 1 then some ((0 : Int32), w) else none
  else none
def f_q_word_295  (z0 : Nat) (z1 : Int32) (w : WW) : Option WW :=
  (pv w z0 9 31 (.int z1)).bind fun w41 =>
  some w41
def f_q_word_255  (y0 : Nat) (y3 : Int32) (y5 : Int32) (y6 : Int32) (y7 : Int32) (z0 : Nat) (z1 : Int32) (w : WW) : Option WW :=
  (pv w z0 9 30 (.int z1)).bind fun w36 =>
  if y3 = 0 then
    if y5 = 0 then
      if y6 = 0 then
        if y7 = 0 then
          f_q_word_295 y0 (4 : Int32) w36
        else
          f_q_word_295 y0 (3 : Int32) w36
      else
        f_q_word_295 y0 (2 : Int32) w36
    else
      f_q_word_295 y0 (1 : Int32) w36
  else
    f_q_word_295 y0 (0 : Int32) w36
def f_q_word_249  (y0 : Nat) (y3 : Int32) (y5 : Int32) (y6 : Int32) (y7 : Int32) (z0 : Nat) (w : WW) : Option WW :=
  f_q_word_255 y0 y3 y5 y6 y7 z0 (4 : Int32) w
def f_q_word_120  (y0 : Nat) (w : WW) : Option WW :=
  bd2 (f_q_five (0 : Int32) (0 : Int32) (0 : Int32) (105 : Int32) (102 : Int32) w) fun x16 w15 =>
  bd2 (f_q_isText y0 (2 : Int32) x16 w15) fun x18 w17 =>
  bd2 (f_q_five (0 : Int32) (0 : Int32) (0 : Int32) (105 : Int32) (110 : Int32) w17) fun x20 w19 =>
  bd2 (f_q_isText y0 (2 : Int32) x20 w19) fun x22 w21 =>
  bd2 (f_q_five (0 : Int32) (101 : Int32) (108 : Int32) (115 : Int32) (101 : Int32) w21) fun x24 w23 =>
  bd2 (f_q_isText y0 (4 : Int32) x24 w23) fun x26 w25 =>
  bd2 (f_q_five (119 : Int32) (104 : Int32) (105 : Int32) (108 : Int32) (101 : Int32) w25) fun x28 w27 =>
  bd2 (f_q_isText y0 (5 : Int32) x28 w27) fun x30 w29 =>
  bd2 (f_q_five (0 : Int32) (97 : Int32) (115 : Int32) (115 : Int32) (101 : Int32) w29) fun x32 w31 =>
  bd2 (f_q_isText y0 (6 : Int32) (((x32 * (16384 : Int64)) + (14592 : Int64)) + (116 : Int64)) w31) fun x34 w33 =>
  if x18 = 0 then
    if x22 = 0 then
      if x26 = 0 then
        if x30 = 0 then
          if x34 = 0 then
            f_q_word_255 y0 x18 x26 x30 x34 y0 (6 : Int32) w33
          else
            f_q_word_249 y0 x18 x26 x30 x34 y0 w33
        else
          f_q_word_249 y0 x18 x26 x30 x34 y0 w33
      else
        f_q_word_249 y0 x18 x26 x30 x34 y0 w33
    else
      f_q_word_249 y0 x18 x26 x30 x34 y0 w33
  else
    f_q_word_249 y0 x18 x26 x30 x34 y0 w33
def f_q_word_88  (y0 : Nat) (y1 : Int32) (y2 : Int32) (w : WW) : Option WW :=
  if y2 = 0 then
    f_q_word_120 y0 w
  else
    bd2 (f_q_in (Int32.toInt64 y1) (65 : Int64) (66 : Int64) w) fun x47 w46 =>
    if x47 = 0 then
      f_q_word_120 y0 w46
    else
      (pv w46 y0 9 30 (.int (3 : Int32))).bind fun w49 =>
      (pv w49 y0 9 31 (.int (y1 - (65 : Int32)))).bind fun w50 =>
      some w50
def f_q_word_55  (y0 : Nat) (y1 : Int32) (z0 : Int32) (w : WW) : Option WW :=
  if z0 = 0 then
    f_q_word_88 y0 y1 z0 w
  else
    bd2 (f_q_in (Int32.toInt64 y1) (97 : Int64) (102 : Int64) w) fun x52 w51 =>
    if x52 = 0 then
      f_q_word_88 y0 y1 z0 w51
    else
      (pv w51 y0 9 30 (.int (2 : Int32))).bind fun w54 =>
      (pv w54 y0 9 31 (.int (y1 - (97 : Int32)))).bind fun w55 =>
      some w55
def f_q_word_0  : Nat → Nat → WW → Option WW
  | 0, _, _ => none
  | n + 1, y0, w =>
    (gI w y0 9 28).bind fun x1 =>
    bd2 (f_q_charAt y0 x1 w) fun x3 w2 =>
    bd2 (f_q_isLetter x3 w2) fun x5 w4 =>
    if x5 = 0 then
      (gN w4 y0 9 0).bind fun x7 =>
      (gI w4 y0 9 29).bind fun x8 =>
      (rI w4 x7 0 x8).bind fun x9 =>
      (gI w4 y0 9 28).bind fun x10 =>
      (gI w4 y0 9 29).bind fun x11 =>
      if x10 = (x11 + (1 : Int32)) then
        f_q_word_55 y0 x9 (1 : Int32) w4
      else
        f_q_word_55 y0 x9 (0 : Int32) w4
    else
      (gI w4 y0 9 28).bind fun x56 =>
      (pv w4 y0 9 28 (.int (x56 + (1 : Int32)))).bind fun w57 =>
      f_q_word_0 n y0 w57
def f_q_word (a0 : Nat) (w : WW) : Option WW :=
  if kb w a0 9 = true then
    f_q_word_0 KK a0 w
  else none
def f_q_isOperator_35  (z0 : Int32) (w : WW) : Option (Int32 × WW) :=
  if z0 = 0 ∨ z0 = 1 then some (z0, w) else none
def f_q_isOperator_30   (w : WW) : Option (Int32 × WW) :=
  f_q_isOperator_35 (1 : Int32) w
def f_q_isOperator (a0 : Int32) (w : WW) : Option (Int32 × WW) :=
  if a0 = (43 : Int32) then
    f_q_isOperator_30 w
  else
    if a0 = (45 : Int32) then
      f_q_isOperator_30 w
    else
      if a0 = (42 : Int32) then
        f_q_isOperator_30 w
      else
        if a0 = (47 : Int32) then
          f_q_isOperator_30 w
        else
          if a0 = (37 : Int32) then
            f_q_isOperator_30 w
          else
            f_q_isOperator_35 (0 : Int32) w
def f_q_read_356   (w : WW) : Option WW :=
  some w
def f_q_read_352  (z0 : Nat) (z1 : Int32) (z2 : Int32) (w : WW) : Option WW :=
  (pv w z0 9 28 (.int (z1 + z2))).bind fun w33 =>
  f_q_read_356 w33
def f_q_read_335  (y0 : Nat) (y2 : Int32) (z0 : Nat) (z1 : Int32) (w : WW) : Option WW :=
  (pv w z0 9 30 (.int z1)).bind fun w30 =>
  (gI w30 y0 9 28).bind fun x31 =>
  if y2 = 0 then
    f_q_read_352 y0 x31 (1 : Int32) w30
  else
    f_q_read_352 y0 x31 (2 : Int32) w30
def f_q_read_329  (y0 : Nat) (y2 : Int32) (z0 : Nat) (w : WW) : Option WW :=
  f_q_read_335 y0 y2 z0 (5 : Int32) w
def f_q_read_258  (y0 : Nat) (y1 : Int32) (y2 : Int32) (z0 : Nat) (z1 : Int32) (w : WW) : Option WW :=
  (pv w z0 9 31 (.int z1)).bind fun w28 =>
  if y2 = 0 then
    bd2 (f_q_isOperator y1 w28) fun x35 w34 =>
    if x35 = 0 then
      bd2 (f_q_in (Int32.toInt64 y1) (40 : Int64) (41 : Int64) w34) fun x38 w37 =>
      if x38 = 0 then
        if y1 = (91 : Int32) then
          f_q_read_329 y0 y2 y0 w37
        else
          if y1 = (93 : Int32) then
            f_q_read_329 y0 y2 y0 w37
          else
            if y1 = (123 : Int32) then
              f_q_read_329 y0 y2 y0 w37
            else
              if y1 = (125 : Int32) then
                f_q_read_329 y0 y2 y0 w37
              else
                if y1 = (59 : Int32) then
                  f_q_read_329 y0 y2 y0 w37
                else
                  if y1 = (61 : Int32) then
                    f_q_read_329 y0 y2 y0 w37
                  else
                    if y1 = (60 : Int32) then
                      f_q_read_329 y0 y2 y0 w37
                    else
                      f_q_read_335 y0 y2 y0 (6 : Int32) w37
      else
        f_q_read_329 y0 y2 y0 w37
    else
      f_q_read_329 y0 y2 y0 w34
  else
    f_q_read_329 y0 y2 y0 w28
def f_q_read_221  (y0 : Nat) (y1 : Int32) (z0 : Int32) (w : WW) : Option WW :=
  if z0 = 0 then
    f_q_read_258 y0 y1 z0 y0 y1 w
  else
    if y1 = (61 : Int32) then
      f_q_read_258 y0 y1 z0 y0 (1000 : Int32) w
    else
      if y1 = (33 : Int32) then
        f_q_read_258 y0 y1 z0 y0 (1001 : Int32) w
      else
        f_q_read_258 y0 y1 z0 y0 (1002 : Int32) w
def f_q_read_220  (y0 : Nat) (y1 : Int32) (w : WW) : Option WW :=
  f_q_read_221 y0 y1 (0 : Int32) w
def f_q_read_201  (y0 : Nat) (y1 : Int32) (w : WW) : Option WW :=
  (gI w y0 9 28).bind fun x21 =>
  bd2 (f_q_charAt y0 (x21 + (1 : Int32)) w) fun x23 w22 =>
  if x23 = (61 : Int32) then
    f_q_read_221 y0 y1 (1 : Int32) w22
  else
    f_q_read_220 y0 y1 w22
def f_q_read_104  : Nat → Nat → WW → Option WW
  | 0, _, _ => none
  | n + 1, y0, w =>
    (gI w y0 9 28).bind fun x51 =>
    bd2 (f_q_charAt y0 x51 w) fun x53 w52 =>
    bd2 (f_q_isDigit x53 w52) fun x55 w54 =>
    if x55 = 0 then
      f_q_read_356 w54
    else
      (gI w54 y0 9 28).bind fun x57 =>
      (gI w54 y0 9 29).bind fun x58 =>
      if (x58 + (9 : Int32)) ≤ x57 then
        f_q_read_356 w54
      else
        (gI w54 y0 9 31).bind fun x60 =>
        (gN w54 y0 9 0).bind fun x61 =>
        (gI w54 y0 9 28).bind fun x62 =>
        (rI w54 x61 0 x62).bind fun x63 =>
        (pv w54 y0 9 31 (.int ((((10 : Int32) * x60) + x63) - (48 : Int32)))).bind fun w64 =>
        (gI w64 y0 9 28).bind fun x65 =>
        (pv w64 y0 9 28 (.int (x65 + (1 : Int32)))).bind fun w66 =>
        f_q_read_104 n y0 w66
def f_q_read_52  (y0 : Nat) (w : WW) : Option WW :=
  (gI w y0 9 28).bind fun x4 =>
  (pv w y0 9 29 (.int x4)).bind fun w5 =>
  (pv w5 y0 9 30 (.int (0 : Int32))).bind fun w6 =>
  (pv w6 y0 9 31 (.int (0 : Int32))).bind fun w7 =>
  (gI w7 y0 9 28).bind fun x8 =>
  (gI w7 y0 9 2).bind fun x9 =>
  if x8 = x9 then
    some w7
  else
    (gN w7 y0 9 0).bind fun x11 =>
    (gI w7 y0 9 28).bind fun x12 =>
    (rI w7 x11 0 x12).bind fun x13 =>
    bd2 (f_q_isDigit x13 w7) fun x15 w14 =>
    if x15 = 0 then
      bd2 (f_q_isLetter x13 w14) fun x18 w17 =>
      if x18 = 0 then
        if x13 = (61 : Int32) then
          f_q_read_201 y0 x13 w17
        else
          if x13 = (33 : Int32) then
            f_q_read_201 y0 x13 w17
          else
            if x13 = (60 : Int32) then
              f_q_read_201 y0 x13 w17
            else
              f_q_read_220 y0 x13 w17
      else
        (f_q_word y0 w17).bind fun w49 =>
        f_q_read_356 w49
    else
      (pv w14 y0 9 30 (.int (1 : Int32))).bind fun w50 =>
      f_q_read_104 KK y0 w50
def f_q_read_39 (k_0 : Nat → WW → Option WW) (y0 : Nat) (w : WW) : Option WW :=
  (gI w y0 9 28).bind fun x71 =>
  (pv w y0 9 28 (.int (x71 + (1 : Int32)))).bind fun w72 =>
  k_0 y0 w72
def f_q_read_0  : Nat → Nat → WW → Option WW
  | 0, _, _ => none
  | n + 1, y0, w =>
    (gI w y0 9 28).bind fun x1 =>
    (gI w y0 9 2).bind fun x2 =>
    if x2 ≤ x1 then
      f_q_read_52 y0 w
    else
      (gN w y0 9 0).bind fun x67 =>
      (gI w y0 9 28).bind fun x68 =>
      (rI w x67 0 x68).bind fun x69 =>
      if x69 = (32 : Int32) then
        f_q_read_39 (f_q_read_0 n) y0 w
      else
        (gN w y0 9 0).bind fun x73 =>
        (gI w y0 9 28).bind fun x74 =>
        (rI w x73 0 x74).bind fun x75 =>
        if x75 = (10 : Int32) then
          f_q_read_39 (f_q_read_0 n) y0 w
        else
          f_q_read_52 y0 w
def f_q_read (a0 : Nat) (w : WW) : Option WW :=
  if kb w a0 9 = true then
    f_q_read_0 KK a0 w
  else none
def f_q_is_21  (z0 : Int32) (w : WW) : Option (Int32 × WW) :=
  if z0 = 0 ∨ z0 = 1 then some (z0, w) else none
def f_q_is_20   (w : WW) : Option (Int32 × WW) :=
  f_q_is_21 (0 : Int32) w
def f_q_is (a0 : Nat) (a1 : Int32) (w : WW) : Option (Int32 × WW) :=
  if kb w a0 9 = true then
    (gI w a0 9 30).bind fun x1 =>
    if x1 = (5 : Int32) then
      (gI w a0 9 31).bind fun x4 =>
      if x4 = a1 then
        f_q_is_21 (1 : Int32) w
      else
        f_q_is_20 w
    else
      f_q_is_20 w
  else none
def f_q_wrong_15  (y0 : Nat) (w : WW) : Option WW :=
  if (1 : Int32) = 0 ∨ (1 : Int32) = 1 then
    (pv w y0 9 34 (.int (1 : Int32))).bind fun w3 =>
    some w3
  else none
def f_q_wrong (a0 : Nat) (w : WW) : Option WW :=
  if kb w a0 9 = true then
    (gI w a0 9 34).bind fun x1 =>
    if x1 = 0 then
      (gI w a0 9 29).bind fun x5 =>
      (pv w a0 9 4 (.int x5)).bind fun w6 =>
      f_q_wrong_15 a0 w6
    else
      f_q_wrong_15 a0 w
  else none
def f_q_openBlock_25  (y0 : Nat) (w : WW) : Option WW :=
  (f_q_wrong y0 w).bind fun w6 =>
  some w6
def f_q_openBlock_95   (w : WW) : Option WW :=
  some w
def f_q_openBlock (a0 : Nat) (a1 : Int32) (a2 : Int32) (w : WW) : Option WW :=
  if kb w a0 9 = true then
    (gI w a0 9 34).bind fun x1 =>
    if x1 = 0 then
      bd2 (f_q_is a0 (123 : Int32) w) fun x4 w3 =>
      if x4 = 0 then
        f_q_openBlock_25 a0 w3
      else
        (gI w3 a0 9 33).bind fun x7 =>
        if x7 = (3 : Int32) then
          f_q_openBlock_25 a0 w3
        else
          (f_q_read a0 w3).bind fun w9 =>
          (gI w9 a0 9 33).bind fun x10 =>
          (pv w9 a0 9 33 (.int (x10 + (1 : Int32)))).bind fun w11 =>
          (gN w11 a0 9 35).bind fun x12 =>
          (gI w11 a0 9 33).bind fun x13 =>
          (sI w11 x12 0 x13 a1).bind fun w14 =>
          (gN w14 a0 9 36).bind fun x15 =>
          (gI w14 a0 9 33).bind fun x16 =>
          (sI w14 x15 0 x16 a2).bind fun w17 =>
          (gN w17 a0 9 37).bind fun x18 =>
          (gI w17 a0 9 33).bind fun x19 =>
          (sI w17 x18 0 x19 (-1 : Int32)).bind fun w20 =>
          if a2 = 0 then
            (gN w20 a0 9 17).bind fun x24 =>
            (sI w20 x24 0 a1 (-1 : Int32)).bind fun w25 =>
            f_q_openBlock_95 w25
          else
            (gN w20 a0 9 18).bind fun x22 =>
            (sI w20 x22 0 a1 (-1 : Int32)).bind fun w23 =>
            f_q_openBlock_95 w23
    else
      some w
  else none
def f_q_endBlock_93   (w : WW) : Option WW :=
  some w
def f_q_endBlock (a0 : Nat) (w : WW) : Option WW :=
  if kb w a0 9 = true then
    (gN w a0 9 35).bind fun x1 =>
    (gI w a0 9 33).bind fun x2 =>
    (rI w x1 0 x2).bind fun x3 =>
    (gN w a0 9 36).bind fun x4 =>
    (gI w a0 9 33).bind fun x5 =>
    (rI w x4 0 x5).bind fun x6 =>
    (gI w a0 9 33).bind fun x7 =>
    if x7 = 0 then
      (f_q_wrong a0 w).bind fun w24 =>
      some w24
    else
      (gI w a0 9 33).bind fun x9 =>
      (pv w a0 9 33 (.int (x9 - (1 : Int32)))).bind fun w10 =>
      (f_q_read a0 w10).bind fun w11 =>
      (gN w11 a0 9 9).bind fun x12 =>
      (rI w11 x12 0 x3).bind fun x13 =>
      if x13 = (3 : Int32) then
        if x6 = 0 then
          (gI w11 a0 9 30).bind fun x16 =>
          if x16 = (4 : Int32) then
            (gI w11 a0 9 31).bind fun x18 =>
            if x18 = (1 : Int32) then
              (f_q_read a0 w11).bind fun w20 =>
              (gN w20 a0 9 20).bind fun x21 =>
              (sI w20 x21 2 x3 (vp_nar .boolean (1 : Int32))).bind fun w22 =>
              (f_q_openBlock a0 x3 (1 : Int32) w22).bind fun w23 =>
              f_q_endBlock_93 w23
            else
              f_q_endBlock_93 w11
          else
            f_q_endBlock_93 w11
        else
          f_q_endBlock_93 w11
      else
        f_q_endBlock_93 w11
  else none
def f_q_statement_167  (y0 : Nat) (y2 : Int32) (w : WW) : Option (Int32 × WW) :=
  (gN w y0 9 37).bind fun x36 =>
  (gI w y0 9 33).bind fun x37 =>
  (sI w x36 0 x37 y2).bind fun w38 =>
  (f_q_read y0 w38).bind fun w39 =>
  some (y2, w39)
def f_q_statement (a0 : Nat) (a1 : Int32) (w : WW) : Option (Int32 × WW) :=
  if kb w a0 9 = true then
    (gI w a0 9 32).bind fun x1 =>
    (gN w a0 9 22).bind fun x2 =>
    (gI w a0 9 32).bind fun x3 =>
    (rI w x2 0 x3).bind fun x4 =>
    (gN w a0 9 22).bind fun x5 =>
    (gI w a0 9 32).bind fun x6 =>
    (rI w x5 0 x6).bind fun x7 =>
    (sI w x5 0 x6 (x7 + (1 : Int32))).bind fun w8 =>
    (gN w8 a0 9 9).bind fun x9 =>
    (sI w8 x9 0 (((80 : Int32) * x1) + x4) a1).bind fun w10 =>
    (gN w10 a0 9 19).bind fun x11 =>
    (sI w10 x11 0 (((80 : Int32) * x1) + x4) (-1 : Int32)).bind fun w12 =>
    (gN w12 a0 9 20).bind fun x13 =>
    (sI w12 x13 2 (((80 : Int32) * x1) + x4) (vp_nar .boolean (0 : Int32))).bind fun w14 =>
    (gN w14 a0 9 11).bind fun x15 =>
    (gI w14 a0 9 29).bind fun x16 =>
    (sI w14 x15 0 (((80 : Int32) * x1) + x4) x16).bind fun w17 =>
    (gN w17 a0 9 10).bind fun x18 =>
    (gI w17 a0 9 31).bind fun x19 =>
    (sI w17 x18 0 (((80 : Int32) * x1) + x4) x19).bind fun w20 =>
    (gN w20 a0 9 37).bind fun x21 =>
    (gI w20 a0 9 33).bind fun x22 =>
    (rI w20 x21 0 x22).bind fun x23 =>
    if x23 < 0 then
      (gI w20 a0 9 33).bind fun x25 =>
      if x25 = 0 then
        (gN w20 a0 9 21).bind fun x45 =>
        (gI w20 a0 9 32).bind fun x46 =>
        (sI w20 x45 0 x46 (((80 : Int32) * x1) + x4)).bind fun w47 =>
        f_q_statement_167 a0 (((80 : Int32) * x1) + x4) w47
      else
        (gN w20 a0 9 36).bind fun x27 =>
        (gI w20 a0 9 33).bind fun x28 =>
        (rI w20 x27 0 x28).bind fun x29 =>
        if x29 = 0 then
          (gN w20 a0 9 17).bind fun x40 =>
          (gN w20 a0 9 35).bind fun x41 =>
          (gI w20 a0 9 33).bind fun x42 =>
          (rI w20 x41 0 x42).bind fun x43 =>
          (sI w20 x40 0 x43 (((80 : Int32) * x1) + x4)).bind fun w44 =>
          f_q_statement_167 a0 (((80 : Int32) * x1) + x4) w44
        else
          (gN w20 a0 9 18).bind fun x31 =>
          (gN w20 a0 9 35).bind fun x32 =>
          (gI w20 a0 9 33).bind fun x33 =>
          (rI w20 x32 0 x33).bind fun x34 =>
          (sI w20 x31 0 x34 (((80 : Int32) * x1) + x4)).bind fun w35 =>
          f_q_statement_167 a0 (((80 : Int32) * x1) + x4) w35
    else
      (gN w20 a0 9 19).bind fun x48 =>
      (gN w20 a0 9 37).bind fun x49 =>
      (gI w20 a0 9 33).bind fun x50 =>
      (rI w20 x49 0 x50).bind fun x51 =>
      (sI w20 x48 0 x51 (((80 : Int32) * x1) + x4)).bind fun w52 =>
      f_q_statement_167 a0 (((80 : Int32) * x1) + x4) w52
  else none
def f_q_expect_27   (w : WW) : Option WW :=
  some w
def f_q_expect (a0 : Nat) (a1 : Int32) (w : WW) : Option WW :=
  if kb w a0 9 = true then
    (gI w a0 9 34).bind fun x1 =>
    if x1 = 0 then
      bd2 (f_q_is a0 a1 w) fun x4 w3 =>
      if x4 = 0 then
        (f_q_wrong a0 w3).bind fun w6 =>
        f_q_expect_27 w6
      else
        (f_q_read a0 w3).bind fun w7 =>
        f_q_expect_27 w7
    else
      some w
  else none
def f_q_emit (a0 : Nat) (a1 : Int32) (a2 : Int32) (a3 : Int32) (w : WW) : Option WW :=
  if kb w a0 9 = true then
    (gI w a0 9 32).bind fun x1 =>
    (gN w a0 9 23).bind fun x2 =>
    (gI w a0 9 32).bind fun x3 =>
    (rI w x2 0 x3).bind fun x4 =>
    (gN w a0 9 24).bind fun x5 =>
    (sI w x5 0 (((220 : Int32) * x1) + x4) a1).bind fun w6 =>
    (gN w6 a0 9 25).bind fun x7 =>
    (sI w6 x7 0 (((220 : Int32) * x1) + x4) a2).bind fun w8 =>
    (gN w8 a0 9 26).bind fun x9 =>
    (sI w8 x9 0 (((220 : Int32) * x1) + x4) a3).bind fun w10 =>
    (gN w10 a0 9 23).bind fun x11 =>
    (gI w10 a0 9 32).bind fun x12 =>
    (rI w10 x11 0 x12).bind fun x13 =>
    (sI w10 x11 0 x12 (x13 + (1 : Int32))).bind fun w14 =>
    some w14
  else none
def f_q_leaf (a0 : Nat) (a1 : Int32) (w : WW) : Option WW :=
  if kb w a0 9 = true then
    (gI w a0 9 31).bind fun x1 =>
    (gI w a0 9 29).bind fun x2 =>
    (f_q_emit a0 a1 x1 x2 w).bind fun w3 =>
    (gN w3 a0 9 41).bind fun x4 =>
    (gI w3 a0 9 44).bind fun x5 =>
    (sI w3 x4 0 x5 (1 : Int32)).bind fun w6 =>
    (gI w6 a0 9 44).bind fun x7 =>
    (pv w6 a0 9 44 (.int (x7 + (1 : Int32)))).bind fun w8 =>
    (f_q_read a0 w8).bind fun w9 =>
    some w9
  else none
def f_q_opposites_75   (w : WW) : Option WW :=
  some w
def f_q_opposites_0  : Nat → Nat → WW → Option WW
  | 0, _, _ => none
  | n + 1, y0, w =>
    (gI w y0 9 42).bind fun x1 =>
    if x1 ≤ 0 then
      f_q_opposites_75 w
    else
      (gN w y0 9 38).bind fun x3 =>
      (gI w y0 9 42).bind fun x4 =>
      (rI w x3 0 (x4 - (1 : Int32))).bind fun x5 =>
      if x5 = (3 : Int32) then
        (gI w y0 9 42).bind fun x7 =>
        (pv w y0 9 42 (.int (x7 - (1 : Int32)))).bind fun w8 =>
        (gI w8 y0 9 43).bind fun x9 =>
        (pv w8 y0 9 43 (.int (x9 - (1 : Int32)))).bind fun w10 =>
        (gN w10 y0 9 39).bind fun x11 =>
        (gI w10 y0 9 42).bind fun x12 =>
        (rI w10 x11 0 x12).bind fun x13 =>
        (f_q_emit y0 (4 : Int32) (0 : Int32) x13 w10).bind fun w14 =>
        (gN w14 y0 9 41).bind fun x15 =>
        (gI w14 y0 9 44).bind fun x16 =>
        (rI w14 x15 0 (x16 - (1 : Int32))).bind fun x17 =>
        (sI w14 x15 0 (x16 - (1 : Int32)) (x17 + (1 : Int32))).bind fun w18 =>
        f_q_opposites_0 n y0 w18
      else
        f_q_opposites_75 w
def f_q_opposites (a0 : Nat) (w : WW) : Option WW :=
  if kb w a0 9 = true then
    f_q_opposites_0 KK a0 w
  else none
def f_q_push_55   (w : WW) : Option WW :=
  some w
def f_q_push (a0 : Nat) (a1 : Int32) (a2 : Int32) (a3 : Int32) (w : WW) : Option WW :=
  if kb w a0 9 = true then
    (gN w a0 9 38).bind fun x1 =>
    (gI w a0 9 42).bind fun x2 =>
    (sI w x1 0 x2 a1).bind fun w3 =>
    (gN w3 a0 9 40).bind fun x4 =>
    (gI w3 a0 9 42).bind fun x5 =>
    (sI w3 x4 0 x5 a2).bind fun w6 =>
    (gN w6 a0 9 39).bind fun x7 =>
    (gI w6 a0 9 42).bind fun x8 =>
    (sI w6 x7 0 x8 a3).bind fun w9 =>
    (gI w9 a0 9 42).bind fun x10 =>
    (pv w9 a0 9 42 (.int (x10 + (1 : Int32)))).bind fun w11 =>
    if (4 : Int32) ≤ a1 then
      f_q_push_55 w11
    else
      (gI w11 a0 9 43).bind fun x13 =>
      (pv w11 a0 9 43 (.int (x13 + (1 : Int32)))).bind fun w14 =>
      f_q_push_55 w14
  else none
def f_q_want_45  (y0 : Nat) (z0 : Nat) (z1 : Int32) (w : WW) : Option (Int32 × WW) :=
  (f_q_leaf z0 z1 w).bind fun w7 =>
  (f_q_opposites y0 w7).bind fun w8 =>
  if (1 : Int32) = 0 ∨ (1 : Int32) = 1 then some ((1 : Int32), w8) else none
def f_q_want_31  (y0 : Nat) (w : WW) : Option (Int32 × WW) :=
  (gI w y0 9 30).bind fun x5 =>
  if x5 = (1 : Int32) then
    f_q_want_45 y0 y0 (1 : Int32) w
  else
    f_q_want_45 y0 y0 (2 : Int32) w
def f_q_want_120  (y0 : Nat) (z0 : Nat) (z1 : Int32) (w : WW) : Option (Int32 × WW) :=
  (gI w y0 9 29).bind fun x20 =>
  (f_q_push z0 z1 (0 : Int32) x20 w).bind fun w21 =>
  (f_q_read y0 w21).bind fun w22 =>
  if (0 : Int32) = 0 ∨ (0 : Int32) = 1 then some ((0 : Int32), w22) else none
def f_q_want_105  (y0 : Nat) (w : WW) : Option (Int32 × WW) :=
  bd2 (f_q_is y0 (45 : Int32) w) fun x18 w17 =>
  if x18 = 0 then
    f_q_want_120 y0 y0 (1 : Int32) w17
  else
    f_q_want_120 y0 y0 (3 : Int32) w17
def f_q_want (a0 : Nat) (w : WW) : Option (Int32 × WW) :=
  if kb w a0 9 = true then
    (gI w a0 9 43).bind fun x1 =>
    if x1 ≤ (10 : Int32) then
      (gI w a0 9 30).bind fun x3 =>
      if x3 = (1 : Int32) then
        f_q_want_31 a0 w
      else
        (gI w a0 9 30).bind fun x10 =>
        if x10 = (2 : Int32) then
          f_q_want_31 a0 w
        else
          (gI w a0 9 30).bind fun x12 =>
          if x12 = (3 : Int32) then
            (gI w a0 9 31).bind fun x29 =>
            (gI w a0 9 29).bind fun x30 =>
            (f_q_push a0 (2 : Int32) x29 x30 w).bind fun w31 =>
            (f_q_read a0 w31).bind fun w32 =>
            (f_q_expect a0 (91 : Int32) w32).bind fun w33 =>
            if (0 : Int32) = 0 ∨ (0 : Int32) = 1 then some ((0 : Int32), w33) else none
          else
            bd2 (f_q_is a0 (45 : Int32) w) fun x15 w14 =>
            if x15 = 0 then
              bd2 (f_q_is a0 (40 : Int32) w14) fun x25 w24 =>
              if x25 = 0 then
                (f_q_wrong a0 w24).bind fun w27 =>
                if (0 : Int32) = 0 ∨ (0 : Int32) = 1 then some ((0 : Int32), w27) else none
              else
                f_q_want_105 a0 w24
            else
              f_q_want_105 a0 w14
    else
      (f_q_wrong a0 w).bind fun w35 =>
      if (0 : Int32) = 0 ∨ (0 : Int32) = 1 then some ((0 : Int32), w35) else none
  else none
def f_q_rank_17  (z0 : Int32) (w : WW) : Option (Int32 × WW) :=
  some (z0, w)
def f_q_rank_12   (w : WW) : Option (Int32 × WW) :=
  f_q_rank_17 (1 : Int32) w
def f_q_rank (a0 : Int32) (w : WW) : Option (Int32 × WW) :=
  if a0 = (43 : Int32) then
    f_q_rank_12 w
  else
    if a0 = (45 : Int32) then
      f_q_rank_12 w
    else
      f_q_rank_17 (2 : Int32) w
def f_q_stepOf_45  (z0 : Int32) (w : WW) : Option (Int32 × WW) :=
  some (z0, w)
def f_q_stepOf (a0 : Int32) (w : WW) : Option (Int32 × WW) :=
  if a0 = (43 : Int32) then
    f_q_stepOf_45 (5 : Int32) w
  else
    if a0 = (45 : Int32) then
      f_q_stepOf_45 (6 : Int32) w
    else
      if a0 = (42 : Int32) then
        f_q_stepOf_45 (7 : Int32) w
      else
        if a0 = (47 : Int32) then
          f_q_stepOf_45 (8 : Int32) w
        else
          f_q_stepOf_45 (9 : Int32) w
def f_q_reduce_150   (w : WW) : Option WW :=
  some w
def f_q_reduce_132 (k_0 : Nat → Int32 → WW → Option WW) (y0 : Nat) (y1 : Int32) (z0 : Int32) (w : WW) : Option WW :=
  (gN w y0 9 41).bind fun x36 =>
  (gI w y0 9 44).bind fun x37 =>
  (sI w x36 0 (x37 - (1 : Int32)) (z0 + (1 : Int32))).bind fun w38 =>
  k_0 y0 y1 w38
def f_q_reduce_0  : Nat → Nat → Int32 → WW → Option WW
  | 0, _, _, _ => none
  | n + 1, y0, y1, w =>
    (gI w y0 9 42).bind fun x1 =>
    if x1 ≤ 0 then
      f_q_reduce_150 w
    else
      (gN w y0 9 38).bind fun x3 =>
      (gI w y0 9 42).bind fun x4 =>
      (rI w x3 0 (x4 - (1 : Int32))).bind fun x5 =>
      if x5 = (4 : Int32) then
        (gN w y0 9 40).bind fun x7 =>
        (gI w y0 9 42).bind fun x8 =>
        (rI w x7 0 (x8 - (1 : Int32))).bind fun x9 =>
        bd2 (f_q_rank x9 w) fun x11 w10 =>
        if x11 < y1 then
          f_q_reduce_150 w10
        else
          (gI w10 y0 9 42).bind fun x13 =>
          (pv w10 y0 9 42 (.int (x13 - (1 : Int32)))).bind fun w14 =>
          (gN w14 y0 9 40).bind fun x15 =>
          (gI w14 y0 9 42).bind fun x16 =>
          (rI w14 x15 0 x16).bind fun x17 =>
          bd2 (f_q_stepOf x17 w14) fun x19 w18 =>
          (gN w18 y0 9 39).bind fun x20 =>
          (gI w18 y0 9 42).bind fun x21 =>
          (rI w18 x20 0 x21).bind fun x22 =>
          (f_q_emit y0 x19 (0 : Int32) x22 w18).bind fun w23 =>
          (gI w23 y0 9 44).bind fun x24 =>
          (pv w23 y0 9 44 (.int (x24 - (1 : Int32)))).bind fun w25 =>
          (gN w25 y0 9 41).bind fun x26 =>
          (gI w25 y0 9 44).bind fun x27 =>
          (rI w25 x26 0 x27).bind fun x28 =>
          (gN w25 y0 9 41).bind fun x29 =>
          (gI w25 y0 9 44).bind fun x30 =>
          (rI w25 x29 0 (x30 - (1 : Int32))).bind fun x31 =>
          if x28 ≤ x31 then
            (gN w25 y0 9 41).bind fun x33 =>
            (gI w25 y0 9 44).bind fun x34 =>
            (rI w25 x33 0 (x34 - (1 : Int32))).bind fun x35 =>
            f_q_reduce_132 (f_q_reduce_0 n) y0 y1 x35 w25
          else
            (gN w25 y0 9 41).bind fun x39 =>
            (gI w25 y0 9 44).bind fun x40 =>
            (rI w25 x39 0 x40).bind fun x41 =>
            f_q_reduce_132 (f_q_reduce_0 n) y0 y1 x41 w25
      else
        f_q_reduce_150 w
def f_q_reduce (a0 : Nat) (a1 : Int32) (w : WW) : Option WW :=
  if kb w a0 9 = true then
    f_q_reduce_0 KK a0 a1 w
  else none
def f_q_bracket_41  (z0 : Int32) (w : WW) : Option (Int32 × WW) :=
  some (z0, w)
def f_q_bracket_27  (y0 : Nat) (y1 : Int32) (w : WW) : Option (Int32 × WW) :=
  if 0 ≤ y1 then
    (gN w y0 9 38).bind fun x4 =>
    (rI w x4 0 y1).bind fun x5 =>
    f_q_bracket_41 x5 w
  else
    f_q_bracket_41 (0 : Int32) w
def f_q_bracket_7  : Nat → Nat → Int32 → WW → Option (Int32 × WW)
  | 0, _, _, _ => none
  | n + 1, y0, y1, w =>
    if y1 < 0 then
      f_q_bracket_27 y0 y1 w
    else
      (gN w y0 9 38).bind fun x6 =>
      (rI w x6 0 y1).bind fun x7 =>
      if x7 ≤ (2 : Int32) then
        f_q_bracket_27 y0 y1 w
      else
        f_q_bracket_7 n y0 (y1 + (-1 : Int32)) w
def f_q_bracket (a0 : Nat) (w : WW) : Option (Int32 × WW) :=
  if kb w a0 9 = true then
    (gI w a0 9 42).bind fun x1 =>
    f_q_bracket_7 KK a0 (x1 - (1 : Int32)) w
  else none
def f_q_close_76  (y0 : Nat) (w : WW) : Option WW :=
  (f_q_read y0 w).bind fun w10 =>
  (f_q_opposites y0 w10).bind fun w11 =>
  some w11
def f_q_close (a0 : Nat) (w : WW) : Option WW :=
  if kb w a0 9 = true then
    (f_q_reduce a0 (1 : Int32) w).bind fun w1 =>
    (gI w1 a0 9 42).bind fun x2 =>
    (pv w1 a0 9 42 (.int (x2 - (1 : Int32)))).bind fun w3 =>
    (gI w3 a0 9 43).bind fun x4 =>
    (pv w3 a0 9 43 (.int (x4 - (1 : Int32)))).bind fun w5 =>
    (gN w5 a0 9 38).bind fun x6 =>
    (gI w5 a0 9 42).bind fun x7 =>
    (rI w5 x6 0 x7).bind fun x8 =>
    if x8 = (2 : Int32) then
      (gN w5 a0 9 40).bind fun x12 =>
      (gI w5 a0 9 42).bind fun x13 =>
      (rI w5 x12 0 x13).bind fun x14 =>
      (gN w5 a0 9 39).bind fun x15 =>
      (gI w5 a0 9 42).bind fun x16 =>
      (rI w5 x15 0 x16).bind fun x17 =>
      (f_q_emit a0 (3 : Int32) x14 x17 w5).bind fun w18 =>
      (gN w18 a0 9 41).bind fun x19 =>
      (gI w18 a0 9 44).bind fun x20 =>
      (rI w18 x19 0 (x20 - (1 : Int32))).bind fun x21 =>
      (sI w18 x19 0 (x20 - (1 : Int32)) (x21 + (1 : Int32))).bind fun w22 =>
      f_q_close_76 a0 w22
    else
      f_q_close_76 a0 w5
  else none
def f_q_expression_206  (y0 : Nat) (y1 : Int32) (w : WW) : Option (Int32 × WW) :=
  (gI w y0 9 32).bind fun x12 =>
  some ((((220 : Int32) * x12) + y1), w)
def f_q_expression_194  (y0 : Nat) (y1 : Int32) (w : WW) : Option (Int32 × WW) :=
  (gI w y0 9 34).bind fun x10 =>
  if x10 = 0 then
    (f_q_reduce y0 (1 : Int32) w).bind fun w13 =>
    f_q_expression_206 y0 y1 w13
  else
    f_q_expression_206 y0 y1 w
def f_q_expression_191 (k_40 : Nat → Int32 → Int32 → Int32 → WW → Option (Int32 × WW)) (y0 : Nat) (y1 : Int32) (y2 : Int32) (y3 : Int32) (w : WW) : Option (Int32 × WW) :=
  k_40 y0 y1 y2 y3 w
def f_q_expression_187 (k_40 : Nat → Int32 → Int32 → Int32 → WW → Option (Int32 × WW)) (y0 : Nat) (y1 : Int32) (y2 : Int32) (y3 : Int32) (w : WW) : Option (Int32 × WW) :=
  (f_q_wrong y0 w).bind fun w24 =>
  f_q_expression_191 k_40 y0 y1 y2 y3 w24
def f_q_expression_180 (k_40 : Nat → Int32 → Int32 → Int32 → WW → Option (Int32 × WW)) (y0 : Nat) (y1 : Int32) (y2 : Int32) (y3 : Int32) (w : WW) : Option (Int32 × WW) :=
  (f_q_close y0 w).bind fun w28 =>
  f_q_expression_191 k_40 y0 y1 y2 y3 w28
def f_q_expression_165 (k_40 : Nat → Int32 → Int32 → Int32 → WW → Option (Int32 × WW)) (y0 : Nat) (y1 : Int32) (y2 : Int32) (y3 : Int32) (y4 : Int32) (w : WW) : Option (Int32 × WW) :=
  if y4 = (2 : Int32) then
    bd2 (f_q_is y0 (93 : Int32) w) fun x26 w25 =>
    if x26 = 0 then
      f_q_expression_187 k_40 y0 y1 y2 y3 w25
    else
      f_q_expression_180 k_40 y0 y1 y2 y3 w25
  else
    f_q_expression_187 k_40 y0 y1 y2 y3 w
def f_q_expression_134 (k_40 : Nat → Int32 → Int32 → Int32 → WW → Option (Int32 × WW)) (y0 : Nat) (y1 : Int32) (y2 : Int32) (y3 : Int32) (w : WW) : Option (Int32 × WW) :=
  bd2 (f_q_bracket y0 w) fun x20 w19 =>
  if x20 = 0 then
    f_q_expression_191 k_40 y0 y1 y2 (0 : Int32) w19
  else
    if x20 = (1 : Int32) then
      bd2 (f_q_is y0 (41 : Int32) w19) fun x30 w29 =>
      if x30 = 0 then
        f_q_expression_165 k_40 y0 y1 y2 y3 x20 w29
      else
        f_q_expression_180 k_40 y0 y1 y2 y3 w29
    else
      f_q_expression_165 k_40 y0 y1 y2 y3 x20 w19
def f_q_expression_112 (k_40 : Nat → Int32 → Int32 → Int32 → WW → Option (Int32 × WW)) (y0 : Nat) (y1 : Int32) (y3 : Int32) (w : WW) : Option (Int32 × WW) :=
  (gI w y0 9 31).bind fun x44 =>
  (gI w y0 9 29).bind fun x45 =>
  (f_q_push y0 (4 : Int32) x44 x45 w).bind fun w46 =>
  (f_q_read y0 w46).bind fun w47 =>
  k_40 y0 y1 (0 : Int32) y3 w47
def f_q_expression_40  : Nat → Nat → Int32 → Int32 → Int32 → WW → Option (Int32 × WW)
  | 0, _, _, _, _, _ => none
  | n + 1, y0, y1, y2, y3, w =>
    if y3 = 0 then
      f_q_expression_194 y0 y1 w
    else
      (gI w y0 9 34).bind fun x14 =>
      if x14 = 0 then
        if y2 = 0 then
          bd2 (f_q_want y0 w) fun x50 w49 =>
          f_q_expression_40 n y0 y1 x50 y3 w49
        else
          (gI w y0 9 30).bind fun x17 =>
          if x17 = (5 : Int32) then
            (gI w y0 9 31).bind fun x32 =>
            bd2 (f_q_isOperator x32 w) fun x34 w33 =>
            if x34 = 0 then
              f_q_expression_134 (f_q_expression_40 n) y0 y1 y2 y3 w33
            else
              (gI w33 y0 9 31).bind fun x36 =>
              bd2 (f_q_rank x36 w33) fun x38 w37 =>
              (f_q_reduce y0 x38 w37).bind fun w39 =>
              (gN w39 y0 9 41).bind fun x40 =>
              (gI w39 y0 9 44).bind fun x41 =>
              (rI w39 x40 0 (x41 - (1 : Int32))).bind fun x42 =>
              if x42 < (16 : Int32) then
                f_q_expression_112 (f_q_expression_40 n) y0 y1 y3 w39
              else
                (f_q_wrong y0 w39).bind fun w48 =>
                f_q_expression_112 (f_q_expression_40 n) y0 y1 y3 w48
          else
            f_q_expression_134 (f_q_expression_40 n) y0 y1 y2 y3 w
      else
        f_q_expression_194 y0 y1 w
def f_q_expression_39  (y0 : Nat) (y1 : Int32) (y2 : Int32) (z0 : Int32) (w : WW) : Option (Int32 × WW) :=
  f_q_expression_40 KK y0 y1 y2 z0 w
def f_q_expression (a0 : Nat) (w : WW) : Option (Int32 × WW) :=
  if kb w a0 9 = true then
    (gN w a0 9 23).bind fun x1 =>
    (gI w a0 9 32).bind fun x2 =>
    (rI w x1 0 x2).bind fun x3 =>
    (pv w a0 9 42 (.int (0 : Int32))).bind fun w4 =>
    (pv w4 a0 9 43 (.int (0 : Int32))).bind fun w5 =>
    (pv w5 a0 9 44 (.int (0 : Int32))).bind fun w6 =>
    (gI w6 a0 9 34).bind fun x7 =>
    if x7 = 0 then
      f_q_expression_39 a0 x3 (0 : Int32) (1 : Int32) w6
    else
      f_q_expression_39 a0 x3 (0 : Int32) (0 : Int32) w6
  else none
def f_q_assignment_83  (y0 : Nat) (w : WW) : Option WW :=
  (f_q_expect y0 (59 : Int32) w).bind fun w16 =>
  some w16
def f_q_assignment_49  (y0 : Nat) (y1 : Int32) (w : WW) : Option WW :=
  (gN w y0 9 12).bind fun x6 =>
  bd2 (f_q_expression y0 w) fun x8 w7 =>
  (sI w7 x6 0 y1 x8).bind fun w9 =>
  (gN w9 y0 9 13).bind fun x10 =>
  (gI w9 y0 9 32).bind fun x11 =>
  (gN w9 y0 9 23).bind fun x12 =>
  (gI w9 y0 9 32).bind fun x13 =>
  (rI w9 x12 0 x13).bind fun x14 =>
  (sI w9 x10 0 y1 (((220 : Int32) * x11) + x14)).bind fun w15 =>
  f_q_assignment_83 y0 w15
def f_q_assignment (a0 : Nat) (w : WW) : Option WW :=
  if kb w a0 9 = true then
    bd2 (f_q_statement a0 (0 : Int32) w) fun x2 w1 =>
    (f_q_expect a0 (61 : Int32) w1).bind fun w3 =>
    (gI w3 a0 9 34).bind fun x4 =>
    if x4 = 0 then
      (gI w3 a0 9 30).bind fun x17 =>
      if x17 = (4 : Int32) then
        (gI w3 a0 9 31).bind fun x19 =>
        if x19 = (4 : Int32) then
          (gN w3 a0 9 9).bind fun x21 =>
          (sI w3 x21 0 x2 (1 : Int32)).bind fun w22 =>
          (f_q_read a0 w22).bind fun w23 =>
          f_q_assignment_83 a0 w23
        else
          f_q_assignment_49 a0 x2 w3
      else
        f_q_assignment_49 a0 x2 w3
    else
      f_q_assignment_49 a0 x2 w3
  else none
def f_q_storing (a0 : Nat) (w : WW) : Option WW :=
  if kb w a0 9 = true then
    bd2 (f_q_statement a0 (2 : Int32) w) fun x2 w1 =>
    (f_q_expect a0 (91 : Int32) w1).bind fun w3 =>
    (gN w3 a0 9 12).bind fun x4 =>
    bd2 (f_q_expression a0 w3) fun x6 w5 =>
    (sI w5 x4 0 x2 x6).bind fun w7 =>
    (gN w7 a0 9 13).bind fun x8 =>
    (gI w7 a0 9 32).bind fun x9 =>
    (gN w7 a0 9 23).bind fun x10 =>
    (gI w7 a0 9 32).bind fun x11 =>
    (rI w7 x10 0 x11).bind fun x12 =>
    (sI w7 x8 0 x2 (((220 : Int32) * x9) + x12)).bind fun w13 =>
    (f_q_expect a0 (93 : Int32) w13).bind fun w14 =>
    (f_q_expect a0 (61 : Int32) w14).bind fun w15 =>
    (gN w15 a0 9 14).bind fun x16 =>
    bd2 (f_q_expression a0 w15) fun x18 w17 =>
    (sI w17 x16 0 x2 x18).bind fun w19 =>
    (gN w19 a0 9 15).bind fun x20 =>
    (gI w19 a0 9 32).bind fun x21 =>
    (gN w19 a0 9 23).bind fun x22 =>
    (gI w19 a0 9 32).bind fun x23 =>
    (rI w19 x22 0 x23).bind fun x24 =>
    (sI w19 x20 0 x2 (((220 : Int32) * x21) + x24)).bind fun w25 =>
    (f_q_expect a0 (59 : Int32) w25).bind fun w26 =>
    some w26
  else none
def f_q_condition_132  (y0 : Nat) (y1 : Int32) (w : WW) : Option WW :=
  (gI w y0 9 34).bind fun x24 =>
  if x24 = 0 then
    (f_q_read y0 w).bind fun w26 =>
    (gN w26 y0 9 14).bind fun x27 =>
    bd2 (f_q_expression y0 w26) fun x29 w28 =>
    (sI w28 x27 0 y1 x29).bind fun w30 =>
    (gN w30 y0 9 15).bind fun x31 =>
    (gI w30 y0 9 32).bind fun x32 =>
    (gN w30 y0 9 23).bind fun x33 =>
    (gI w30 y0 9 32).bind fun x34 =>
    (rI w30 x33 0 x34).bind fun x35 =>
    (sI w30 x31 0 y1 (((220 : Int32) * x32) + x35)).bind fun w36 =>
    some w36
  else
    some w
def f_q_condition_81  (y0 : Nat) (y1 : Int32) (z0 : Nat) (z1 : Int32) (z2 : Int32) (w : WW) : Option WW :=
  (sI w z0 0 z1 z2).bind fun w21 =>
  (gI w21 y0 9 34).bind fun x22 =>
  if x22 = 0 then
    bd2 (f_q_is y0 (1000 : Int32) w21) fun x38 w37 =>
    if x38 = 0 then
      bd2 (f_q_is y0 (1001 : Int32) w37) fun x41 w40 =>
      if x41 = 0 then
        bd2 (f_q_is y0 (60 : Int32) w40) fun x44 w43 =>
        if x44 = 0 then
          bd2 (f_q_is y0 (1002 : Int32) w43) fun x47 w46 =>
          if x47 = 0 then
            (f_q_wrong y0 w46).bind fun w49 =>
            f_q_condition_132 y0 y1 w49
          else
            f_q_condition_132 y0 y1 w46
        else
          f_q_condition_132 y0 y1 w43
      else
        f_q_condition_132 y0 y1 w40
    else
      f_q_condition_132 y0 y1 w37
  else
    f_q_condition_132 y0 y1 w21
def f_q_condition (a0 : Nat) (a1 : Int32) (w : WW) : Option WW :=
  if kb w a0 9 = true then
    (gN w a0 9 12).bind fun x1 =>
    bd2 (f_q_expression a0 w) fun x3 w2 =>
    (sI w2 x1 0 a1 x3).bind fun w4 =>
    (gN w4 a0 9 13).bind fun x5 =>
    (gI w4 a0 9 32).bind fun x6 =>
    (gN w4 a0 9 23).bind fun x7 =>
    (gI w4 a0 9 32).bind fun x8 =>
    (rI w4 x7 0 x8).bind fun x9 =>
    (sI w4 x5 0 a1 (((220 : Int32) * x6) + x9)).bind fun w10 =>
    (gN w10 a0 9 16).bind fun x11 =>
    bd2 (f_q_is a0 (1000 : Int32) w10) fun x13 w12 =>
    if x13 = 0 then
      bd2 (f_q_is a0 (1001 : Int32) w12) fun x16 w15 =>
      if x16 = 0 then
        bd2 (f_q_is a0 (60 : Int32) w15) fun x19 w18 =>
        if x19 = 0 then
          f_q_condition_81 a0 a1 x11 a1 (3 : Int32) w18
        else
          f_q_condition_81 a0 a1 x11 a1 (2 : Int32) w18
      else
        f_q_condition_81 a0 a1 x11 a1 (1 : Int32) w15
    else
      f_q_condition_81 a0 a1 x11 a1 (0 : Int32) w12
  else none
def f_q_byWord_71   (w : WW) : Option WW :=
  some w
def f_q_byWord_25  (y0 : Nat) (z0 : Nat) (z1 : Int32) (w : WW) : Option WW :=
  bd2 (f_q_statement z0 z1 w) fun x6 w5 =>
  (f_q_expect y0 (40 : Int32) w5).bind fun w7 =>
  (f_q_condition y0 x6 w7).bind fun w8 =>
  (f_q_expect y0 (41 : Int32) w8).bind fun w9 =>
  (gN w9 y0 9 9).bind fun x10 =>
  (rI w9 x10 0 x6).bind fun x11 =>
  if x11 = (5 : Int32) then
    (f_q_expect y0 (59 : Int32) w9).bind fun w14 =>
    f_q_byWord_71 w14
  else
    (f_q_openBlock y0 x6 (0 : Int32) w9).bind fun w13 =>
    f_q_byWord_71 w13
def f_q_byWord (a0 : Nat) (w : WW) : Option WW :=
  if kb w a0 9 = true then
    (gI w a0 9 31).bind fun x1 =>
    if x1 = 0 then
      f_q_byWord_25 a0 a0 (3 : Int32) w
    else
      (gI w a0 9 31).bind fun x3 =>
      if x3 = (2 : Int32) then
        f_q_byWord_25 a0 a0 (4 : Int32) w
      else
        f_q_byWord_25 a0 a0 (5 : Int32) w
  else none
def f_q_parse_177  (y0 : Nat) (w : WW) : Option (Int32 × WW) :=
  (gI w y0 9 34).bind fun x22 =>
  if x22 = 0 then
    (pv w y0 9 5 (.int (0 : Int32))).bind fun w24 =>
    (gI w24 y0 9 32).bind fun x25 =>
    (pv w24 y0 9 27 (.int x25)).bind fun w26 =>
    if (1 : Int32) = 0 ∨ (1 : Int32) = 1 then
      (pv w26 y0 9 8 (.int (1 : Int32))).bind fun w27 =>
      (gN w27 y0 9 22).bind fun x29 =>
      (gI w27 y0 9 27).bind fun x30 =>
      (rI w27 x29 0 x30).bind fun x31 =>
      some (x31, w27)
    else none
  else
    bd2 (f_q_fail y0 (1 : Int32) w) fun x33 w32 =>
    some (x33, w32)
def f_q_parse_170 (k_72 : Nat → WW → Option (Int32 × WW)) (y0 : Nat) (w : WW) : Option (Int32 × WW) :=
  (f_q_wrong y0 w).bind fun w45 =>
  k_72 y0 w45
def f_q_parse_93 (k_72 : Nat → WW → Option (Int32 × WW)) (y0 : Nat) (w : WW) : Option (Int32 × WW) :=
  bd2 (f_q_is y0 (125 : Int32) w) fun x37 w36 =>
  if x37 = 0 then
    (gI w36 y0 9 30).bind fun x39 =>
    if x39 = (2 : Int32) then
      (f_q_assignment y0 w36).bind fun w52 =>
      k_72 y0 w52
    else
      (gI w36 y0 9 30).bind fun x41 =>
      if x41 = (3 : Int32) then
        (f_q_storing y0 w36).bind fun w51 =>
        k_72 y0 w51
      else
        (gI w36 y0 9 30).bind fun x43 =>
        if x43 = (4 : Int32) then
          (gI w36 y0 9 31).bind fun x46 =>
          if x46 = (1 : Int32) then
            f_q_parse_170 k_72 y0 w36
          else
            (gI w36 y0 9 31).bind fun x48 =>
            if x48 = (4 : Int32) then
              f_q_parse_170 k_72 y0 w36
            else
              (f_q_byWord y0 w36).bind fun w50 =>
              k_72 y0 w50
        else
          f_q_parse_170 k_72 y0 w36
  else
    (f_q_endBlock y0 w36).bind fun w53 =>
    k_72 y0 w53
def f_q_parse_72  : Nat → Nat → WW → Option (Int32 × WW)
  | 0, _, _ => none
  | n + 1, y0, w =>
    (gI w y0 9 34).bind fun x20 =>
    if x20 = 0 then
      (gI w y0 9 30).bind fun x34 =>
      if x34 = 0 then
        (gI w y0 9 33).bind fun x54 =>
        if x54 ≤ 0 then
          f_q_parse_177 y0 w
        else
          f_q_parse_93 (f_q_parse_72 n) y0 w
      else
        f_q_parse_93 (f_q_parse_72 n) y0 w
    else
      f_q_parse_177 y0 w
def f_q_parse (a0 : Nat) (w : WW) : Option (Int32 × WW) :=
  if kb w a0 9 = true then
    (gI w a0 9 27).bind fun x1 =>
    (pv w a0 9 32 (.int ((1 : Int32) - x1))).bind fun w2 =>
    (gN w2 a0 9 21).bind fun x3 =>
    (gI w2 a0 9 32).bind fun x4 =>
    (sI w2 x3 0 x4 (-1 : Int32)).bind fun w5 =>
    (gN w5 a0 9 22).bind fun x6 =>
    (gI w5 a0 9 32).bind fun x7 =>
    (sI w5 x6 0 x7 (0 : Int32)).bind fun w8 =>
    (gN w8 a0 9 23).bind fun x9 =>
    (gI w8 a0 9 32).bind fun x10 =>
    (sI w8 x9 0 x10 (0 : Int32)).bind fun w11 =>
    (pv w11 a0 9 33 (.int (0 : Int32))).bind fun w12 =>
    (gN w12 a0 9 37).bind fun x13 =>
    (sI w12 x13 0 (0 : Int32) (-1 : Int32)).bind fun w14 =>
    (pv w14 a0 9 28 (.int (0 : Int32))).bind fun w15 =>
    if (0 : Int32) = 0 ∨ (0 : Int32) = 1 then
      (pv w15 a0 9 34 (.int (0 : Int32))).bind fun w16 =>
      (pv w16 a0 9 4 (.int (-2 : Int32))).bind fun w18 =>
      (f_q_read a0 w18).bind fun w19 =>
      f_q_parse_72 KK a0 w19
    else none
  else none
def f_q_where (a0 : Nat) (w : WW) : Option (Int32 × WW) :=
  if kb w a0 9 = true then
    (pv w a0 9 5 (.int (0 : Int32))).bind fun w1 =>
    (gI w1 a0 9 4).bind fun x2 =>
    some (x2, w1)
  else none
def f_q_choose_22  (y0 : Nat) (w : WW) : Option (Int32 × WW) :=
  bd2 (f_q_fail y0 (1 : Int32) w) fun x5 w4 =>
  some (x5, w4)
def f_q_choose_66  (y3 : Int32) (w : WW) : Option (Int32 × WW) :=
  some (y3, w)
def f_q_choose_48  (y0 : Nat) (y1 : Int32) (y2 : Int32) (z0 : Int32) (w : WW) : Option (Int32 × WW) :=
  if y1 = 0 then
    (pv w y0 9 6 (.int y2)).bind fun w14 =>
    f_q_choose_66 z0 w14
  else
    (pv w y0 9 7 (.int y2)).bind fun w13 =>
    f_q_choose_66 z0 w13
def f_q_choose (a0 : Nat) (a1 : Int32) (a2 : Int32) (w : WW) : Option (Int32 × WW) :=
  if kb w a0 9 = true then
    bd2 (f_q_in (Int32.toInt64 a1) (0 : Int64) (1 : Int64) w) fun x2 w1 =>
    if x2 = 0 then
      f_q_choose_22 a0 w1
    else
      bd2 (f_q_in (Int32.toInt64 a2) (0 : Int64) (5 : Int64) w1) fun x7 w6 =>
      if x7 = 0 then
        f_q_choose_22 a0 w6
      else
        (pv w6 a0 9 5 (.int (0 : Int32))).bind fun w9 =>
        if a1 = 0 then
          (gI w9 a0 9 6).bind fun x15 =>
          f_q_choose_48 a0 a1 a2 x15 w9
        else
          (gI w9 a0 9 7).bind fun x11 =>
          f_q_choose_48 a0 a1 a2 x11 w9
  else none
def f_q_input (a0 : Nat) (a1 : Int32) (w : WW) : Option (Int32 × WW) :=
  if kb w a0 9 = true then
    (gI w a0 9 3).bind fun x1 =>
    if x1 = (8 : Int32) then
      bd2 (f_q_fail a0 (1 : Int32) w) fun x11 w10 =>
      some (x11, w10)
    else
      (pv w a0 9 5 (.int (0 : Int32))).bind fun w3 =>
      (gN w3 a0 9 1).bind fun x4 =>
      (gI w3 a0 9 3).bind fun x5 =>
      (sI w3 x4 0 x5 a1).bind fun w6 =>
      (gI w6 a0 9 3).bind fun x7 =>
      (pv w6 a0 9 3 (.int (x7 + (1 : Int32)))).bind fun w8 =>
      (gI w8 a0 9 3).bind fun x9 =>
      some (x9, w8)
  else none
def f_q_forget (a0 : Nat) (w : WW) : Option (Int32 × WW) :=
  if kb w a0 9 = true then
    (pv w a0 9 5 (.int (0 : Int32))).bind fun w1 =>
    (gI w1 a0 9 3).bind fun x2 =>
    (pv w1 a0 9 3 (.int (0 : Int32))).bind fun w3 =>
    some (x2, w3)
  else none
def f_q_stop (a0 : Nat) (a1 : Int32) (a2 : Int32) (w : WW) : Option (Int32 × WW) :=
  if kb w a0 9 = true then
    (pv w a0 9 51 (.int (((1024 : Int32) * a1) + a2))).bind fun w1 =>
    if (0 : Int32) = 0 ∨ (0 : Int32) = 1 then some ((0 : Int32), w1) else none
  else none
def f_q_work_345 (k_5 : Nat → Int32 → Int32 → Int32 → WW → Option (Int32 × WW)) (y0 : Nat) (y2 : Int32) (y3 : Int32) (y4 : Int32) (w : WW) : Option (Int32 × WW) :=
  k_5 y0 y2 y3 (y4 + (1 : Int32)) w
def f_q_work_334 (k_5 : Nat → Int32 → Int32 → Int32 → WW → Option (Int32 × WW)) (y0 : Nat) (y2 : Int32) (y3 : Int32) (y4 : Int32) (y11 : Int64) (w : WW) : Option (Int32 × WW) :=
  (gN w y0 9 47).bind fun x25 =>
  (sI w x25 0 (y3 - (1 : Int32)) (Int64.toInt32 y11)).bind fun w26 =>
  f_q_work_345 k_5 y0 y2 y3 y4 w26
def f_q_work_296 (k_5 : Nat → Int32 → Int32 → Int32 → WW → Option (Int32 × WW)) (y0 : Nat) (y2 : Int32) (y3 : Int32) (y4 : Int32) (y5 : Int32) (z0 : Int64) (w : WW) : Option (Int32 × WW) :=
  bd2 (f_q_in z0 (-2147483648 : Int64) (2147483647 : Int64) w) fun x22 w21 =>
  if x22 = 0 then
    (gN w21 y0 9 26).bind fun x27 =>
    (rI w21 x27 0 y4).bind fun x28 =>
    bd2 (f_q_stop y0 (3 : Int32) x28 w21) fun x30 w29 =>
    if x30 = 0 ∨ x30 = 1 then some (x30, w29) else none
  else
    if y5 = (4 : Int32) then
      f_q_work_334 k_5 y0 y2 y3 y4 z0 w21
    else
      f_q_work_334 k_5 y0 y2 (y3 + (-1 : Int32)) y4 z0 w21
def f_q_work_253 (k_5 : Nat → Int32 → Int32 → Int32 → WW → Option (Int32 × WW)) (y0 : Nat) (y2 : Int32) (y3 : Int32) (y4 : Int32) (y5 : Int32) (y7 : Int64) (y9 : Int64) (w : WW) : Option (Int32 × WW) :=
  f_q_work_296 k_5 y0 y2 y3 y4 y5 (y9 - y7) w
def f_q_work_226 (k_5 : Nat → Int32 → Int32 → Int32 → WW → Option (Int32 × WW)) (y0 : Nat) (y2 : Int32) (y3 : Int32) (y4 : Int32) (y5 : Int32) (y7 : Int64) (y9 : Int64) (w : WW) : Option (Int32 × WW) :=
  if y5 = (5 : Int32) then
    f_q_work_296 k_5 y0 y2 y3 y4 y5 (y9 + y7) w
  else
    if y5 = (6 : Int32) then
      f_q_work_253 k_5 y0 y2 y3 y4 y5 y7 y9 w
    else
      if y5 = (4 : Int32) then
        f_q_work_253 k_5 y0 y2 y3 y4 y5 y7 y9 w
      else
        if y5 = (7 : Int32) then
          f_q_work_296 k_5 y0 y2 y3 y4 y5 (y9 * y7) w
        else
          if y5 = (8 : Int32) then
            if ¬ y7 = 0 then
              f_q_work_296 k_5 y0 y2 y3 y4 y5 (y9 / y7) w
            else none
          else
            if ¬ y7 = 0 then
              f_q_work_296 k_5 y0 y2 y3 y4 y5 (y9 - y9 / y7 * y7) w
            else none
def f_q_work_194 (k_5 : Nat → Int32 → Int32 → Int32 → WW → Option (Int32 × WW)) (y0 : Nat) (y2 : Int32) (y3 : Int32) (y4 : Int32) (y5 : Int32) (y7 : Int64) (z0 : Int64) (w : WW) : Option (Int32 × WW) :=
  if y5 < (8 : Int32) then
    f_q_work_226 k_5 y0 y2 y3 y4 y5 y7 z0 w
  else
    if y7 = (0 : Int64) then
      (gN w y0 9 26).bind fun x38 =>
      (rI w x38 0 y4).bind fun x39 =>
      bd2 (f_q_stop y0 (4 : Int32) x39 w) fun x41 w40 =>
      if x41 = 0 ∨ x41 = 1 then some (x41, w40) else none
    else
      f_q_work_226 k_5 y0 y2 y3 y4 y5 y7 z0 w
def f_q_work_5  : Nat → Nat → Int32 → Int32 → Int32 → WW → Option (Int32 × WW)
  | 0, _, _, _, _, _ => none
  | n + 1, y0, y2, y3, y4, w =>
    if y2 ≤ y4 then
      (gN w y0 9 47).bind fun x2 =>
      (rI w x2 0 (0 : Int32)).bind fun x3 =>
      (pv w y0 9 50 (.int x3)).bind fun w4 =>
      if (1 : Int32) = 0 ∨ (1 : Int32) = 1 then some ((1 : Int32), w4) else none
    else
      (gN w y0 9 24).bind fun x6 =>
      (rI w x6 0 y4).bind fun x7 =>
      (gN w y0 9 25).bind fun x8 =>
      (rI w x8 0 y4).bind fun x9 =>
      if x7 = (1 : Int32) then
        (gN w y0 9 47).bind fun x71 =>
        (sI w x71 0 y3 x9).bind fun w72 =>
        f_q_work_345 (f_q_work_5 n) y0 y2 (y3 + (1 : Int32)) y4 w72
      else
        if x7 = (2 : Int32) then
          (gN w y0 9 49).bind fun x59 =>
          (rI w x59 2 x9).bind fun x60 =>
          if x60 = 0 then
            (gN w y0 9 26).bind fun x66 =>
            (rI w x66 0 y4).bind fun x67 =>
            bd2 (f_q_stop y0 (1 : Int32) x67 w) fun x69 w68 =>
            if x69 = 0 ∨ x69 = 1 then some (x69, w68) else none
          else
            (gN w y0 9 47).bind fun x62 =>
            (gN w y0 9 45).bind fun x63 =>
            (rI w x63 0 x9).bind fun x64 =>
            (sI w x62 0 y3 x64).bind fun w65 =>
            f_q_work_345 (f_q_work_5 n) y0 y2 (y3 + (1 : Int32)) y4 w65
        else
          if x7 = (3 : Int32) then
            (gN w y0 9 47).bind fun x43 =>
            (rI w x43 0 (y3 - (1 : Int32))).bind fun x44 =>
            bd2 (f_q_in (Int32.toInt64 x44) (0 : Int64) (3 : Int64) w) fun x46 w45 =>
            if x46 = 0 then
              (gN w45 y0 9 26).bind fun x54 =>
              (rI w45 x54 0 y4).bind fun x55 =>
              bd2 (f_q_stop y0 (2 : Int32) x55 w45) fun x57 w56 =>
              if x57 = 0 ∨ x57 = 1 then some (x57, w56) else none
            else
              (gN w45 y0 9 47).bind fun x48 =>
              (gN w45 y0 9 46).bind fun x49 =>
              (gN w45 y0 9 47).bind fun x50 =>
              (rI w45 x50 0 (y3 - (1 : Int32))).bind fun x51 =>
              (rI w45 x49 0 (((4 : Int32) * x9) + x51)).bind fun x52 =>
              (sI w45 x48 0 (y3 - (1 : Int32)) x52).bind fun w53 =>
              f_q_work_345 (f_q_work_5 n) y0 y2 y3 y4 w53
          else
            (gN w y0 9 47).bind fun x13 =>
            (rI w x13 0 (y3 - (1 : Int32))).bind fun x14 =>
            if x7 = (4 : Int32) then
              f_q_work_194 (f_q_work_5 n) y0 y2 y3 y4 x7 (Int32.toInt64 x14) (0 : Int64) w
            else
              (gN w y0 9 47).bind fun x16 =>
              (rI w x16 0 (y3 - (2 : Int32))).bind fun x17 =>
              f_q_work_194 (f_q_work_5 n) y0 y2 y3 y4 x7 (Int32.toInt64 x14) (Int32.toInt64 x17) w
def f_q_work (a0 : Nat) (a1 : Int32) (a2 : Int32) (w : WW) : Option (Int32 × WW) :=
  if kb w a0 9 = true then
    f_q_work_5 KK a0 a2 (0 : Int32) a1 w
  else none
def f_q_holds_63  (z0 : Int32) (w : WW) : Option (Int32 × WW) :=
  if z0 = 0 ∨ z0 = 1 then some (z0, w) else none
def f_q_holds (a0 : Int32) (a1 : Int32) (a2 : Int32) (w : WW) : Option (Int32 × WW) :=
  if a0 = 0 then
    if a1 = a2 then
      f_q_holds_63 (1 : Int32) w
    else
      f_q_holds_63 (0 : Int32) w
  else
    if a0 = (1 : Int32) then
      if a1 = a2 then
        f_q_holds_63 (0 : Int32) w
      else
        f_q_holds_63 (1 : Int32) w
    else
      if a0 = (2 : Int32) then
        if a2 ≤ a1 then
          f_q_holds_63 (0 : Int32) w
        else
          f_q_holds_63 (1 : Int32) w
      else
        if a2 < a1 then
          f_q_holds_63 (0 : Int32) w
        else
          f_q_holds_63 (1 : Int32) w
def f_q_ask_81  (z0 : Int32) (w : WW) : Option (Int32 × WW) :=
  some (z0, w)
def f_q_ask_50  (y0 : Nat) (y1 : Int32) (y3 : Int32) (z0 : Int32) (w : WW) : Option (Int32 × WW) :=
  if z0 = 0 then
    f_q_ask_81 (-1 : Int32) w
  else
    (gN w y0 9 16).bind fun x10 =>
    (rI w x10 0 y1).bind fun x11 =>
    (gI w y0 9 50).bind fun x12 =>
    bd2 (f_q_holds x11 y3 x12 w) fun x14 w13 =>
    if x14 = 0 then
      f_q_ask_81 (0 : Int32) w13
    else
      f_q_ask_81 (1 : Int32) w13
def f_q_ask_49  (y0 : Nat) (y1 : Int32) (y3 : Int32) (w : WW) : Option (Int32 × WW) :=
  f_q_ask_50 y0 y1 y3 (0 : Int32) w
def f_q_ask (a0 : Nat) (a1 : Int32) (w : WW) : Option (Int32 × WW) :=
  if kb w a0 9 = true then
    (gN w a0 9 12).bind fun x1 =>
    (rI w x1 0 a1).bind fun x2 =>
    (gN w a0 9 13).bind fun x3 =>
    (rI w x3 0 a1).bind fun x4 =>
    bd2 (f_q_work a0 x2 x4 w) fun x6 w5 =>
    (gI w5 a0 9 50).bind fun x7 =>
    if x6 = 0 then
      f_q_ask_49 a0 a1 x7 w5
    else
      (gN w5 a0 9 14).bind fun x16 =>
      (rI w5 x16 0 a1).bind fun x17 =>
      (gN w5 a0 9 15).bind fun x18 =>
      (rI w5 x18 0 a1).bind fun x19 =>
      bd2 (f_q_work a0 x17 x19 w5) fun x21 w20 =>
      if x21 = 0 then
        f_q_ask_49 a0 a1 x7 w20
      else
        f_q_ask_50 a0 a1 x7 (1 : Int32) w20
  else none
def f_q_simple_254  (y2 : Int32) (w : WW) : Option (Int32 × WW) :=
  if y2 = 0 ∨ y2 = 1 then some (y2, w) else none
def f_q_simple_123  (z0 : Int32) (w : WW) : Option (Int32 × WW) :=
  if z0 = 0 ∨ z0 = 1 then some (z0, w) else none
def f_q_simple_66  (y0 : Nat) (y1 : Int32) (w : WW) : Option (Int32 × WW) :=
  (gN w y0 9 49).bind fun x69 =>
  (gN w y0 9 10).bind fun x70 =>
  (rI w x70 0 y1).bind fun x71 =>
  (sI w x69 2 x71 (vp_nar .boolean (1 : Int32))).bind fun w72 =>
  if (1 : Int32) = 0 ∨ (1 : Int32) = 1 then some ((1 : Int32), w72) else none
def f_q_simple_44  (y0 : Nat) (y1 : Int32) (z0 : Nat) (z1 : Int32) (z2 : Int32) (w : WW) : Option (Int32 × WW) :=
  (sI w z0 0 z1 z2).bind fun w65 =>
  (gI w65 y0 9 53).bind fun x66 =>
  (gI w65 y0 9 3).bind fun x67 =>
  if x67 ≤ x66 then
    f_q_simple_66 y0 y1 w65
  else
    (gI w65 y0 9 53).bind fun x74 =>
    (pv w65 y0 9 53 (.int (x74 + (1 : Int32)))).bind fun w75 =>
    f_q_simple_66 y0 y1 w75
def f_q_simple (a0 : Nat) (a1 : Int32) (w : WW) : Option (Int32 × WW) :=
  if kb w a0 9 = true then
    (gN w a0 9 9).bind fun x1 =>
    (rI w x1 0 a1).bind fun x2 =>
    if x2 = (1 : Int32) then
      (gN w a0 9 45).bind fun x59 =>
      (gN w a0 9 10).bind fun x60 =>
      (rI w x60 0 a1).bind fun x61 =>
      (gI w a0 9 53).bind fun x62 =>
      (gI w a0 9 3).bind fun x63 =>
      if x63 ≤ x62 then
        f_q_simple_44 a0 a1 x59 x61 (0 : Int32) w
      else
        (gN w a0 9 1).bind fun x76 =>
        (gI w a0 9 53).bind fun x77 =>
        (rI w x76 0 x77).bind fun x78 =>
        f_q_simple_44 a0 a1 x59 x61 x78 w
    else
      (gN w a0 9 9).bind fun x4 =>
      (rI w x4 0 a1).bind fun x5 =>
      if x5 = (5 : Int32) then
        bd2 (f_q_ask a0 a1 w) fun x51 w50 =>
        if x51 = 0 then
          (gN w50 a0 9 11).bind fun x55 =>
          (rI w50 x55 0 a1).bind fun x56 =>
          bd2 (f_q_stop a0 (5 : Int32) x56 w50) fun x58 w57 =>
          f_q_simple_123 x58 w57
        else
          if x51 ≤ 0 then
            f_q_simple_123 (0 : Int32) w50
          else
            f_q_simple_123 (1 : Int32) w50
      else
        (gN w a0 9 12).bind fun x7 =>
        (rI w x7 0 a1).bind fun x8 =>
        (gN w a0 9 13).bind fun x9 =>
        (rI w x9 0 a1).bind fun x10 =>
        bd2 (f_q_work a0 x8 x10 w) fun x12 w11 =>
        if x12 = 0 then
          if (0 : Int32) = 0 ∨ (0 : Int32) = 1 then some ((0 : Int32), w11) else none
        else
          (gN w11 a0 9 9).bind fun x14 =>
          (rI w11 x14 0 a1).bind fun x15 =>
          if x15 = 0 then
            (gN w11 a0 9 45).bind fun x39 =>
            (gN w11 a0 9 10).bind fun x40 =>
            (rI w11 x40 0 a1).bind fun x41 =>
            (gI w11 a0 9 50).bind fun x42 =>
            (sI w11 x39 0 x41 x42).bind fun w43 =>
            (gN w43 a0 9 49).bind fun x44 =>
            (gN w43 a0 9 10).bind fun x45 =>
            (rI w43 x45 0 a1).bind fun x46 =>
            (sI w43 x44 2 x46 (vp_nar .boolean (1 : Int32))).bind fun w47 =>
            if (1 : Int32) = 0 ∨ (1 : Int32) = 1 then some ((1 : Int32), w47) else none
          else
            (gI w11 a0 9 50).bind fun x17 =>
            bd2 (f_q_in (Int32.toInt64 x17) (0 : Int64) (3 : Int64) w11) fun x19 w18 =>
            if x19 = 0 then
              (gN w18 a0 9 11).bind fun x34 =>
              (rI w18 x34 0 a1).bind fun x35 =>
              bd2 (f_q_stop a0 (2 : Int32) x35 w18) fun x37 w36 =>
              if x37 = 0 ∨ x37 = 1 then some (x37, w36) else none
            else
              (gN w18 a0 9 14).bind fun x21 =>
              (rI w18 x21 0 a1).bind fun x22 =>
              (gN w18 a0 9 15).bind fun x23 =>
              (rI w18 x23 0 a1).bind fun x24 =>
              bd2 (f_q_work a0 x22 x24 w18) fun x26 w25 =>
              if x26 = 0 then
                f_q_simple_254 x26 w25
              else
                (gN w25 a0 9 46).bind fun x29 =>
                (gN w25 a0 9 10).bind fun x30 =>
                (rI w25 x30 0 a1).bind fun x31 =>
                (gI w25 a0 9 50).bind fun x32 =>
                (sI w25 x29 0 (((4 : Int32) * x31) + x17) x32).bind fun w33 =>
                f_q_simple_254 x26 w33
  else none
def f_q_go_318  (z0 : Nat) (z1 : Int32) (w : WW) : Option (Int32 × WW) :=
  (pv w z0 9 5 (.int z1)).bind fun w15 =>
  some ((0 : Int32), w15)
def f_q_go_256 (k_79 : Nat → Int32 → Int32 → Int32 → Int32 → WW → Option (Int32 × WW)) (y0 : Nat) (y1 : Int32) (y2 : Int32) (y3 : Int32) (y4 : Int32) (w : WW) : Option (Int32 × WW) :=
  k_79 y0 y1 y2 y3 y4 w
def f_q_go_245 (k_79 : Nat → Int32 → Int32 → Int32 → Int32 → WW → Option (Int32 × WW)) (y0 : Nat) (y1 : Int32) (y3 : Int32) (y4 : Int32) (z0 : Int32) (w : WW) : Option (Int32 × WW) :=
  f_q_go_256 k_79 y0 y1 z0 y3 y4 w
def f_q_go_215 (k_79 : Nat → Int32 → Int32 → Int32 → Int32 → WW → Option (Int32 × WW)) (y0 : Nat) (y1 : Int32) (y2 : Int32) (y3 : Int32) (y4 : Int32) (y5 : Int32) (w : WW) : Option (Int32 × WW) :=
  (gN w y0 9 48).bind fun x28 =>
  (sI w x28 0 y3 y2).bind fun w29 =>
  if y5 ≤ 0 then
    (gN w29 y0 9 18).bind fun x31 =>
    (rI w29 x31 0 y2).bind fun x32 =>
    f_q_go_245 k_79 y0 y1 (y3 + (1 : Int32)) y4 x32 w29
  else
    (gN w29 y0 9 17).bind fun x33 =>
    (rI w29 x33 0 y2).bind fun x34 =>
    f_q_go_245 k_79 y0 y1 (y3 + (1 : Int32)) y4 x34 w29
def f_q_go_249 (k_79 : Nat → Int32 → Int32 → Int32 → Int32 → WW → Option (Int32 × WW)) (y0 : Nat) (y1 : Int32) (y2 : Int32) (y3 : Int32) (y4 : Int32) (w : WW) : Option (Int32 × WW) :=
  (gN w y0 9 19).bind fun x36 =>
  (rI w x36 0 y2).bind fun x37 =>
  f_q_go_256 k_79 y0 y1 x37 y3 y4 w
def f_q_go_194 (k_79 : Nat → Int32 → Int32 → Int32 → Int32 → WW → Option (Int32 × WW)) (y0 : Nat) (y1 : Int32) (y2 : Int32) (y3 : Int32) (y5 : Int32) (z0 : Int32) (w : WW) : Option (Int32 × WW) :=
  if 0 < y5 then
    f_q_go_215 k_79 y0 y1 y2 y3 z0 y5 w
  else
    if y5 = 0 then
      (gN w y0 9 20).bind fun x38 =>
      (rI w x38 2 y2).bind fun x39 =>
      if x39 = 0 then
        f_q_go_249 k_79 y0 y1 y2 y3 z0 w
      else
        f_q_go_215 k_79 y0 y1 y2 y3 z0 y5 w
    else
      f_q_go_249 k_79 y0 y1 y2 y3 z0 w
def f_q_go_177 (k_79 : Nat → Int32 → Int32 → Int32 → Int32 → WW → Option (Int32 × WW)) (y0 : Nat) (y1 : Int32) (y2 : Int32) (y3 : Int32) (w : WW) : Option (Int32 × WW) :=
  bd2 (f_q_ask y0 y2 w) fun x25 w24 =>
  if x25 < 0 then
    f_q_go_194 k_79 y0 y1 y2 y3 x25 (0 : Int32) w24
  else
    f_q_go_194 k_79 y0 y1 y2 y3 x25 (1 : Int32) w24
def f_q_go_132 (k_79 : Nat → Int32 → Int32 → Int32 → Int32 → WW → Option (Int32 × WW)) (y0 : Nat) (y1 : Int32) (y3 : Int32) (y4 : Int32) (z0 : Int32) (w : WW) : Option (Int32 × WW) :=
  k_79 y0 y1 z0 y3 y4 w
def f_q_go_79  : Nat → Nat → Int32 → Int32 → Int32 → Int32 → WW → Option (Int32 × WW)
  | 0, _, _, _, _, _, _ => none
  | n + 1, y0, y1, y2, y3, y4, w =>
    if y4 = 0 then
      (gI w y0 9 51).bind fun x10 =>
      if ¬ (1024 : Int32) = 0 then
        if (x10 / (1024 : Int32)) = (1 : Int32) then
          f_q_go_318 y0 (2 : Int32) w
        else
          if (x10 / (1024 : Int32)) = (2 : Int32) then
            f_q_go_318 y0 (3 : Int32) w
          else
            if (x10 / (1024 : Int32)) = (5 : Int32) then
              f_q_go_318 y0 (5 : Int32) w
            else
              f_q_go_318 y0 (4 : Int32) w
      else none
    else
      if 0 ≤ y2 then
        (gI w y0 9 52).bind fun x17 =>
        if x17 = y1 then
          some ((-5 : Int32), w)
        else
          (gI w y0 9 52).bind fun x19 =>
          (pv w y0 9 52 (.int (x19 + (1 : Int32)))).bind fun w20 =>
          (gN w20 y0 9 9).bind fun x21 =>
          (rI w20 x21 0 y2).bind fun x22 =>
          if x22 = (3 : Int32) then
            f_q_go_177 (f_q_go_79 n) y0 y1 y2 y3 w20
          else
            (gN w20 y0 9 9).bind fun x41 =>
            (rI w20 x41 0 y2).bind fun x42 =>
            if x42 = (4 : Int32) then
              f_q_go_177 (f_q_go_79 n) y0 y1 y2 y3 w20
            else
              bd2 (f_q_simple y0 y2 w20) fun x45 w44 =>
              (gN w44 y0 9 19).bind fun x46 =>
              (rI w44 x46 0 y2).bind fun x47 =>
              f_q_go_79 n y0 y1 x47 y3 x45 w44
      else
        if y3 = 0 then
          some ((0 : Int32), w)
        else
          (gN w y0 9 9).bind fun x49 =>
          (gN w y0 9 48).bind fun x50 =>
          (rI w x50 0 (y3 + (-1 : Int32))).bind fun x51 =>
          (rI w x49 0 x51).bind fun x52 =>
          if x52 = (4 : Int32) then
            (gN w y0 9 48).bind fun x58 =>
            (rI w x58 0 (y3 + (-1 : Int32))).bind fun x59 =>
            f_q_go_132 (f_q_go_79 n) y0 y1 (y3 + (-1 : Int32)) y4 x59 w
          else
            (gN w y0 9 19).bind fun x54 =>
            (gN w y0 9 48).bind fun x55 =>
            (rI w x55 0 (y3 + (-1 : Int32))).bind fun x56 =>
            (rI w x54 0 x56).bind fun x57 =>
            f_q_go_132 (f_q_go_79 n) y0 y1 (y3 + (-1 : Int32)) y4 x57 w
def f_q_go_30  : Nat → Nat → Int32 → Int32 → WW → Option (Int32 × WW)
  | 0, _, _, _, _ => none
  | n + 1, y0, y1, y2, w =>
    if (8 : Int32) ≤ y2 then
      (pv w y0 9 52 (.int (0 : Int32))).bind fun w3 =>
      (pv w3 y0 9 53 (.int (0 : Int32))).bind fun w4 =>
      (pv w4 y0 9 51 (.int (0 : Int32))).bind fun w5 =>
      (gN w5 y0 9 21).bind fun x6 =>
      (gI w5 y0 9 27).bind fun x7 =>
      (rI w5 x6 0 x7).bind fun x8 =>
      f_q_go_79 KK y0 y1 x8 (0 : Int32) (1 : Int32) w5
    else
      (gN w y0 9 46).bind fun x60 =>
      (sI w x60 0 y2 (0 : Int32)).bind fun w61 =>
      f_q_go_30 n y0 y1 (y2 + (1 : Int32)) w61
def f_q_go_2  : Nat → Nat → Int32 → Int32 → WW → Option (Int32 × WW)
  | 0, _, _, _, _ => none
  | n + 1, y0, y1, y2, w =>
    if (6 : Int32) ≤ y2 then
      f_q_go_30 KK y0 y1 (0 : Int32) w
    else
      (gN w y0 9 49).bind fun x62 =>
      (sI w x62 2 y2 (vp_nar .boolean (0 : Int32))).bind fun w63 =>
      (gN w63 y0 9 45).bind fun x64 =>
      (sI w63 x64 0 y2 (0 : Int32)).bind fun w65 =>
      f_q_go_2 n y0 y1 (y2 + (1 : Int32)) w65
def f_q_go (a0 : Nat) (a1 : Int32) (w : WW) : Option (Int32 × WW) :=
  if kb w a0 9 = true then
    f_q_go_2 KK a0 a1 (0 : Int32) w
  else none
def f_q_run (a0 : Nat) (a1 : Int32) (w : WW) : Option (Int32 × WW) :=
  if kb w a0 9 = true then
    bd2 (f_q_in (Int32.toInt64 a1) (0 : Int64) (500 : Int64) w) fun x2 w1 =>
    if x2 = 0 then
      bd2 (f_q_fail a0 (1 : Int32) w1) fun x12 w11 =>
      some (x12, w11)
    else
      (gI w1 a0 9 8).bind fun x4 =>
      if x4 = 0 then
        bd2 (f_q_fail a0 (2 : Int32) w1) fun x10 w9 =>
        some (x10, w9)
      else
        (pv w1 a0 9 5 (.int (0 : Int32))).bind fun w6 =>
        bd2 (f_q_go a0 a1 w6) fun x8 w7 =>
        some (x8, w7)
  else none
def f_q_ran_151  (z0 : Int32) (w : WW) : Option (Int32 × WW) :=
  some (z0, w)
def f_q_ran_97  (z0 : Int32) (w : WW) : Option (Int32 × WW) :=
  some (z0, w)
def f_q_ran_60  (y0 : Nat) (y1 : Int32) (w : WW) : Option (Int32 × WW) :=
  (pv w y0 9 5 (.int (0 : Int32))).bind fun w4 =>
  if (3 : Int32) ≤ y1 then
    if (16 : Int32) ≤ y1 then
      if (28 : Int32) ≤ y1 then
        (gN w4 y0 9 49).bind fun x8 =>
        (rI w4 x8 2 (y1 - (30 : Int32))).bind fun x9 =>
        if x9 = 0 then
          f_q_ran_151 (1 : Int32) w4
        else
          f_q_ran_151 (0 : Int32) w4
      else
        (gN w4 y0 9 46).bind fun x11 =>
        (rI w4 x11 0 (y1 - (20 : Int32))).bind fun x12 =>
        f_q_ran_151 x12 w4
    else
      (gN w4 y0 9 45).bind fun x13 =>
      (rI w4 x13 0 (y1 - (10 : Int32))).bind fun x14 =>
      f_q_ran_151 x14 w4
  else
    if y1 = 0 then
      (gI w4 y0 9 51).bind fun x19 =>
      f_q_ran_97 x19 w4
    else
      if y1 = (1 : Int32) then
        (gI w4 y0 9 52).bind fun x18 =>
        f_q_ran_97 x18 w4
      else
        (gI w4 y0 9 53).bind fun x17 =>
        f_q_ran_97 x17 w4
def f_q_ran (a0 : Nat) (a1 : Int32) (w : WW) : Option (Int32 × WW) :=
  if kb w a0 9 = true then
    bd2 (f_q_in (Int32.toInt64 a1) (0 : Int64) (2 : Int64) w) fun x2 w1 =>
    if x2 = 0 then
      bd2 (f_q_in (Int32.toInt64 a1) (10 : Int64) (15 : Int64) w1) fun x21 w20 =>
      if x21 = 0 then
        bd2 (f_q_in (Int32.toInt64 a1) (20 : Int64) (27 : Int64) w20) fun x24 w23 =>
        if x24 = 0 then
          bd2 (f_q_in (Int32.toInt64 a1) (30 : Int64) (35 : Int64) w23) fun x27 w26 =>
          if x27 = 0 then
            bd2 (f_q_fail a0 (1 : Int32) w26) fun x30 w29 =>
            some (x30, w29)
          else
            f_q_ran_60 a0 a1 w26
        else
          f_q_ran_60 a0 a1 w23
      else
        f_q_ran_60 a0 a1 w20
    else
      f_q_ran_60 a0 a1 w1
  else none
def f_q_none (a0 : Nat) (a1 : Int32) (w : WW) : Option WW :=
  if kb w a0 9 = true then
    (gN w a0 9 54).bind fun x1 =>
    (sL w x1 1 a1 (0 : Int64)).bind fun w2 =>
    (gN w2 a0 9 55).bind fun x3 =>
    (sL w2 x3 1 a1 (0 : Int64)).bind fun w4 =>
    (gN w4 a0 9 56).bind fun x5 =>
    (sL w4 x5 1 a1 (-1 : Int64)).bind fun w6 =>
    (gN w6 a0 9 57).bind fun x7 =>
    (sL w6 x7 1 a1 (0 : Int64)).bind fun w8 =>
    some w8
  else none
def f_q_put4 (a0 : Nat) (a1 : Int32) (a2 : Int64) (a4 : Int64) (a6 : Int64) (a8 : Int64) (w : WW) : Option WW :=
  if kb w a0 9 = true then
    (gN w a0 9 54).bind fun x1 =>
    (sL w x1 1 a1 a2).bind fun w2 =>
    (gN w2 a0 9 55).bind fun x3 =>
    (sL w2 x3 1 a1 a4).bind fun w4 =>
    (gN w4 a0 9 56).bind fun x5 =>
    (sL w4 x5 1 a1 a6).bind fun w6 =>
    (gN w6 a0 9 57).bind fun x7 =>
    (sL w6 x7 1 a1 a8).bind fun w8 =>
    some w8
  else none
def f_q_copy (a0 : Nat) (a1 : Int32) (a2 : Int32) (w : WW) : Option WW :=
  if kb w a0 9 = true then
    (gN w a0 9 54).bind fun x1 =>
    (gN w a0 9 54).bind fun x2 =>
    (rL w x2 1 a2).bind fun x3 =>
    (sL w x1 1 a1 x3).bind fun w4 =>
    (gN w4 a0 9 55).bind fun x5 =>
    (gN w4 a0 9 55).bind fun x6 =>
    (rL w4 x6 1 a2).bind fun x7 =>
    (sL w4 x5 1 a1 x7).bind fun w8 =>
    (gN w8 a0 9 56).bind fun x9 =>
    (gN w8 a0 9 56).bind fun x10 =>
    (rL w8 x10 1 a2).bind fun x11 =>
    (sL w8 x9 1 a1 x11).bind fun w12 =>
    (gN w12 a0 9 57).bind fun x13 =>
    (gN w12 a0 9 57).bind fun x14 =>
    (rL w12 x14 1 a2).bind fun x15 =>
    (sL w12 x13 1 a1 x15).bind fun w16 =>
    some w16
  else none
def f_q_copyState_44  : Nat → Nat → Int32 → Int32 → Int32 → WW → Option WW
  | 0, _, _, _, _, _ => none
  | n + 1, y0, y1, y2, y3, w =>
    if (6 : Int32) ≤ y3 then
      some w
    else
      (gN w y0 9 58).bind fun x7 =>
      (gN w y0 9 58).bind fun x8 =>
      (rI w x8 2 (((6 : Int32) * y2) + y3)).bind fun x9 =>
      (sI w x7 2 (((6 : Int32) * y1) + y3) (vp_nar .boolean x9)).bind fun w10 =>
      f_q_copyState_44 n y0 y1 y2 (y3 + (1 : Int32)) w10
def f_q_copyState_14  : Nat → Nat → Int32 → Int32 → Int32 → WW → Option WW
  | 0, _, _, _, _, _ => none
  | n + 1, y0, y1, y2, y3, w =>
    if (14 : Int32) ≤ y3 then
      f_q_copyState_44 KK y0 y1 y2 (0 : Int32) w
    else
      (f_q_copy y0 (((14 : Int32) * y1) + y3) (((14 : Int32) * y2) + y3) w).bind fun w11 =>
      f_q_copyState_14 n y0 y1 y2 (y3 + (1 : Int32)) w11
def f_q_copyState (a0 : Nat) (a1 : Int32) (a2 : Int32) (w : WW) : Option WW :=
  if kb w a0 9 = true then
    (gN w a0 9 59).bind fun x1 =>
    (gN w a0 9 59).bind fun x2 =>
    (rI w x2 2 a2).bind fun x3 =>
    (sI w x1 2 a1 (vp_nar .boolean x3)).bind fun w4 =>
    f_q_copyState_14 KK a0 a1 a2 (0 : Int32) w4
  else none
def f_q_warn_20   (w : WW) : Option WW :=
  some w
def f_q_warn (a0 : Nat) (a1 : Int32) (a2 : Int32) (w : WW) : Option WW :=
  if kb w a0 9 = true then
    (gI w a0 9 65).bind fun x1 =>
    if x1 = 0 then
      (gN w a0 9 60).bind fun x3 =>
      (sI w x3 2 (((200 : Int32) * a1) + a2) (vp_nar .boolean (1 : Int32))).bind fun w4 =>
      f_q_warn_20 w4
    else
      f_q_warn_20 w
  else none
def f_q_isBeyond_29  (z0 : Int32) (w : WW) : Option (Int32 × WW) :=
  if z0 = 0 ∨ z0 = 1 then some (z0, w) else none
def f_q_isBeyond_24   (w : WW) : Option (Int32 × WW) :=
  f_q_isBeyond_29 (1 : Int32) w
def f_q_isBeyond (a0 : Nat) (a1 : Int32) (w : WW) : Option (Int32 × WW) :=
  if kb w a0 9 = true then
    (gN w a0 9 54).bind fun x1 =>
    (rL w x1 1 a1).bind fun x2 =>
    if x2 < (0 : Int64) then
      f_q_isBeyond_24 w
    else
      (gN w a0 9 55).bind fun x5 =>
      (rL w x5 1 a1).bind fun x6 =>
      if x6 ≤ (3 : Int64) then
        f_q_isBeyond_29 (0 : Int32) w
      else
        f_q_isBeyond_24 w
  else none
def f_q_left_JJ_29  (z0 : Int64) (w : WW) : Option (Int64 × WW) :=
  some (z0, w)
def f_q_left_JJ (a0 : Int64) (a2 : Int64) (w : WW) : Option (Int64 × WW) :=
  if a2 = (0 : Int64) then
    some (a0, w)
  else
    if ¬ a2 = 0 then
      if (0 : Int64) ≤ (a0 - a0 / a2 * a2) then
        f_q_left_JJ_29 (a0 - a0 / a2 * a2) w
      else
        f_q_left_JJ_29 ((a0 - a0 / a2 * a2) + a2) w
    else none
def f_q_isOf_55  (z0 : Int32) (w : WW) : Option (Int32 × WW) :=
  if z0 = 0 ∨ z0 = 1 then some (z0, w) else none
def f_q_isOf_54   (w : WW) : Option (Int32 × WW) :=
  f_q_isOf_55 (0 : Int32) w
def f_q_isOf (a0 : Nat) (a1 : Int64) (a3 : Int32) (w : WW) : Option (Int32 × WW) :=
  if kb w a0 9 = true then
    (gN w a0 9 56).bind fun x1 =>
    (rL w x1 1 a3).bind fun x2 =>
    if x2 < (0 : Int64) then
      f_q_isOf_54 w
    else
      (gN w a0 9 54).bind fun x5 =>
      (rL w x5 1 a3).bind fun x6 =>
      (gN w a0 9 55).bind fun x7 =>
      (rL w x7 1 a3).bind fun x8 =>
      bd2 (f_q_in a1 x6 x8 w) fun x10 w9 =>
      if x10 = 0 then
        f_q_isOf_54 w9
      else
        (gN w9 a0 9 56).bind fun x12 =>
        (rL w9 x12 1 a3).bind fun x13 =>
        bd2 (f_q_left_JJ a1 x13 w9) fun x15 w14 =>
        (gN w14 a0 9 57).bind fun x16 =>
        (rL w14 x16 1 a3).bind fun x17 =>
        if x15 = x17 then
          f_q_isOf_55 (1 : Int32) w14
        else
          f_q_isOf_54 w14
  else none
def f_q_gcd_28  : Nat → Int64 → Int64 → WW → Option (Int64 × WW)
  | 0, _, _, _ => none
  | n + 1, y4, y6, w =>
    if y6 = (0 : Int64) then
      some (y4, w)
    else
      if ¬ y6 = 0 then
        f_q_gcd_28 n y6 (y4 - y4 / y6 * y6) w
      else none
def f_q_gcd_26  (y4 : Int64) (z0 : Int64) (w : WW) : Option (Int64 × WW) :=
  f_q_gcd_28 KK y4 z0 w
def f_q_gcd_12  (y2 : Int64) (z0 : Int64) (w : WW) : Option (Int64 × WW) :=
  if (0 : Int64) ≤ y2 then
    f_q_gcd_26 z0 y2 w
  else
    f_q_gcd_26 z0 (-y2) w
def f_q_gcd (a0 : Int64) (a2 : Int64) (w : WW) : Option (Int64 × WW) :=
  if (0 : Int64) ≤ a0 then
    f_q_gcd_12 a2 a0 w
  else
    f_q_gcd_12 a2 (-a0) w
def f_q_put_184   (w : WW) : Option WW :=
  some w
def f_q_put_101   (w : WW) : Option WW :=
  some w
def f_q_put_51  (y0 : Nat) (y1 : Int32) (y8 : Int64) (y10 : Int64) (y12 : Int64) (z0 : Int64) (w : WW) : Option WW :=
  bd2 (f_q_left_JJ y8 z0 w) fun x5 w4 =>
  if z0 = (0 : Int64) then
    bd2 (f_q_in x5 y10 y12 w4) fun x17 w16 =>
    if x17 = 0 then
      (f_q_none y0 y1 w16).bind fun w20 =>
      f_q_put_101 w20
    else
      (f_q_put4 y0 y1 x5 x5 (0 : Int64) x5 w16).bind fun w19 =>
      f_q_put_101 w19
  else
    bd2 (f_q_left_JJ (x5 - y10) z0 w4) fun x8 w7 =>
    bd2 (f_q_left_JJ (y12 - x5) z0 w7) fun x10 w9 =>
    if (y10 + x8) ≤ (y12 - x10) then
      if (y10 + x8) = (y12 - x10) then
        (f_q_put4 y0 y1 (y10 + x8) (y10 + x8) (0 : Int64) (y10 + x8) w9).bind fun w14 =>
        f_q_put_184 w14
      else
        (f_q_put4 y0 y1 (y10 + x8) (y12 - x10) z0 x5 w9).bind fun w13 =>
        f_q_put_184 w13
    else
      (f_q_none y0 y1 w9).bind fun w15 =>
      f_q_put_184 w15
def f_q_put_34  (y0 : Nat) (y1 : Int32) (y6 : Int64) (y8 : Int64) (y10 : Int64) (z0 : Int64) (w : WW) : Option WW :=
  if y6 ≤ (65536 : Int64) then
    f_q_put_51 y0 y1 y8 y10 z0 y6 w
  else
    f_q_put_51 y0 y1 y8 y10 z0 (1 : Int64) w
def f_q_put_15  (y0 : Nat) (y1 : Int32) (y4 : Int64) (y6 : Int64) (y8 : Int64) (z0 : Int64) (w : WW) : Option WW :=
  if y4 ≤ (2147483647 : Int64) then
    f_q_put_34 y0 y1 y6 y8 z0 y4 w
  else
    f_q_put_34 y0 y1 y6 y8 z0 (2147483647 : Int64) w
def f_q_put (a0 : Nat) (a1 : Int32) (a2 : Int64) (a4 : Int64) (a6 : Int64) (a8 : Int64) (w : WW) : Option WW :=
  if kb w a0 9 = true then
    if (-2147483648 : Int64) ≤ a2 then
      f_q_put_15 a0 a1 a4 a6 a8 a2 w
    else
      f_q_put_15 a0 a1 a4 a6 a8 (-2147483648 : Int64) w
  else none
def f_q_join_144   (w : WW) : Option WW :=
  some w
def f_q_join_104  (y0 : Nat) (y2 : Int32) (y3 : Int32) (z0 : Nat) (z1 : Int32) (z2 : Int64) (z3 : Int64) (w : WW) : Option WW :=
  (gN w y0 9 56).bind fun x21 =>
  (rL w x21 1 y2).bind fun x22 =>
  (gN w y0 9 56).bind fun x23 =>
  (rL w x23 1 y3).bind fun x24 =>
  bd2 (f_q_gcd x22 x24 w) fun x26 w25 =>
  (gN w25 y0 9 57).bind fun x27 =>
  (rL w25 x27 1 y2).bind fun x28 =>
  (gN w25 y0 9 57).bind fun x29 =>
  (rL w25 x29 1 y3).bind fun x30 =>
  bd2 (f_q_gcd x26 (x28 - x30) w25) fun x32 w31 =>
  (gN w31 y0 9 57).bind fun x33 =>
  (rL w31 x33 1 y2).bind fun x34 =>
  (f_q_put z0 z1 z2 z3 x32 x34 w31).bind fun w35 =>
  f_q_join_144 w35
def f_q_join_73  (y0 : Nat) (y2 : Int32) (y3 : Int32) (z0 : Nat) (z1 : Int32) (z2 : Int64) (w : WW) : Option WW :=
  (gN w y0 9 55).bind fun x14 =>
  (rL w x14 1 y2).bind fun x15 =>
  (gN w y0 9 55).bind fun x16 =>
  (rL w x16 1 y3).bind fun x17 =>
  if x15 ≤ x17 then
    (gN w y0 9 55).bind fun x19 =>
    (rL w x19 1 y3).bind fun x20 =>
    f_q_join_104 y0 y2 y3 z0 z1 z2 x20 w
  else
    (gN w y0 9 55).bind fun x36 =>
    (rL w x36 1 y2).bind fun x37 =>
    f_q_join_104 y0 y2 y3 z0 z1 z2 x37 w
def f_q_join (a0 : Nat) (a1 : Int32) (a2 : Int32) (a3 : Int32) (w : WW) : Option WW :=
  if kb w a0 9 = true then
    (gN w a0 9 56).bind fun x1 =>
    (rL w x1 1 a2).bind fun x2 =>
    if (0 : Int64) ≤ x2 then
      (gN w a0 9 56).bind fun x4 =>
      (rL w x4 1 a3).bind fun x5 =>
      if (0 : Int64) ≤ x5 then
        (gN w a0 9 54).bind fun x7 =>
        (rL w x7 1 a2).bind fun x8 =>
        (gN w a0 9 54).bind fun x9 =>
        (rL w x9 1 a3).bind fun x10 =>
        if x10 ≤ x8 then
          (gN w a0 9 54).bind fun x12 =>
          (rL w x12 1 a3).bind fun x13 =>
          f_q_join_73 a0 a2 a3 a0 a1 x13 w
        else
          (gN w a0 9 54).bind fun x38 =>
          (rL w x38 1 a2).bind fun x39 =>
          f_q_join_73 a0 a2 a3 a0 a1 x39 w
      else
        (f_q_copy a0 a1 a2 w).bind fun w40 =>
        f_q_join_144 w40
    else
      (f_q_copy a0 a1 a3 w).bind fun w41 =>
      f_q_join_144 w41
  else none
def f_q_readCells_52 (k_14 : Nat → Int32 → Int32 → Int32 → Int32 → Int32 → WW → Option WW) (y0 : Nat) (y1 : Int32) (y2 : Int32) (y3 : Int32) (y4 : Int32) (y5 : Int32) (w : WW) : Option WW :=
  k_14 y0 y1 y2 y3 y4 (y5 + (1 : Int32)) w
def f_q_readCells_14  : Nat → Nat → Int32 → Int32 → Int32 → Int32 → Int32 → WW → Option WW
  | 0, _, _, _, _, _, _, _ => none
  | n + 1, y0, y1, y2, y3, y4, y5, w =>
    if (4 : Int32) ≤ y5 then
      (f_q_copy y0 y1 y4 w).bind fun w3 =>
      some w3
    else
      bd2 (f_q_isOf y0 (Int32.toInt64 y5) y3 w) fun x5 w4 =>
      if x5 = 0 then
        f_q_readCells_52 (f_q_readCells_14 n) y0 y1 y2 y3 y4 y5 w4
      else
        (f_q_join y0 y4 y4 (((6 : Int32) + ((4 : Int32) * y2)) + y5) w4).bind fun w7 =>
        f_q_readCells_52 (f_q_readCells_14 n) y0 y1 y2 y3 y4 y5 w7
def f_q_readCells (a0 : Nat) (a1 : Int32) (a2 : Int32) (a3 : Int32) (w : WW) : Option WW :=
  if kb w a0 9 = true then
    (f_q_none a0 (359 : Int32) w).bind fun w1 =>
    f_q_readCells_14 KK a0 a1 a2 a3 (359 : Int32) (0 : Int32) w1
  else none
def f_q_min_11  (z0 : Int64) (w : WW) : Option (Int64 × WW) :=
  some (z0, w)
def f_q_min (a0 : Int64) (a2 : Int64) (w : WW) : Option (Int64 × WW) :=
  if a2 ≤ a0 then
    f_q_min_11 a2 w
  else
    f_q_min_11 a0 w
def f_q_max_11  (z0 : Int64) (w : WW) : Option (Int64 × WW) :=
  some (z0, w)
def f_q_max (a0 : Int64) (a2 : Int64) (w : WW) : Option (Int64 × WW) :=
  if a0 ≤ a2 then
    f_q_max_11 a2 w
  else
    f_q_max_11 a0 w
def f_q_isWide_21  (z0 : Int32) (w : WW) : Option (Int32 × WW) :=
  if z0 = 0 ∨ z0 = 1 then some (z0, w) else none
def f_q_isWide_16   (w : WW) : Option (Int32 × WW) :=
  f_q_isWide_21 (1 : Int32) w
def f_q_isWide (a0 : Nat) (a1 : Int64) (a3 : Int64) (w : WW) : Option (Int32 × WW) :=
  if kb w a0 9 = true then
    if a1 < (-2147483648 : Int64) then
      f_q_isWide_16 w
    else
      if a3 ≤ (2147483647 : Int64) then
        f_q_isWide_21 (0 : Int32) w
      else
        f_q_isWide_16 w
  else none
def f_q_sum_324  (y0 : Nat) (y2 : Int32) (y5 : Int64) (y7 : Int64) (y9 : Int64) (y11 : Int64) (w : WW) : Option WW :=
  (f_q_put y0 y2 y5 y7 y9 y11 w).bind fun w27 =>
  some w27
def f_q_sum_306  (y0 : Nat) (y2 : Int32) (y4 : Int32) (y5 : Int64) (y7 : Int64) (y9 : Int64) (y11 : Int64) (w : WW) : Option WW :=
  bd2 (f_q_isWide y0 y5 y7 w) fun x25 w24 =>
  if x25 = 0 then
    f_q_sum_324 y0 y2 y5 y7 y9 y11 w24
  else
    (f_q_warn y0 (3 : Int32) y4 w24).bind fun w28 =>
    f_q_sum_324 y0 y2 y5 y7 y9 y11 w28
def f_q_sum_304  (y0 : Nat) (y2 : Int32) (y4 : Int32) (y5 : Int64) (y7 : Int64) (y9 : Int64) (z0 : Int64) (w : WW) : Option WW :=
  f_q_sum_306 y0 y2 y4 y5 y7 y9 z0 w
def f_q_sum_251  (y0 : Nat) (y2 : Int32) (y3 : Int32) (y4 : Int32) (y5 : Int64) (y13 : Int32) (z0 : Int64) (w : WW) : Option WW :=
  (gN w y0 9 56).bind fun x13 =>
  (rL w x13 1 y2).bind fun x14 =>
  (gN w y0 9 56).bind fun x15 =>
  (rL w x15 1 y3).bind fun x16 =>
  bd2 (f_q_gcd x14 x16 w) fun x18 w17 =>
  if y13 = 0 then
    (gN w17 y0 9 57).bind fun x20 =>
    (rL w17 x20 1 y2).bind fun x21 =>
    (gN w17 y0 9 57).bind fun x22 =>
    (rL w17 x22 1 y3).bind fun x23 =>
    f_q_sum_304 y0 y2 y4 y5 z0 x18 (x21 - x23) w17
  else
    (gN w17 y0 9 57).bind fun x29 =>
    (rL w17 x29 1 y2).bind fun x30 =>
    (gN w17 y0 9 57).bind fun x31 =>
    (rL w17 x31 1 y3).bind fun x32 =>
    f_q_sum_304 y0 y2 y4 y5 z0 x18 (x30 + x32) w17
def f_q_sum_215  (y0 : Nat) (y2 : Int32) (y3 : Int32) (y4 : Int32) (y13 : Int32) (z0 : Int64) (w : WW) : Option WW :=
  if y13 = 0 then
    (gN w y0 9 55).bind fun x9 =>
    (rL w x9 1 y2).bind fun x10 =>
    (gN w y0 9 54).bind fun x11 =>
    (rL w x11 1 y3).bind fun x12 =>
    f_q_sum_251 y0 y2 y3 y4 z0 y13 (x10 - x12) w
  else
    (gN w y0 9 55).bind fun x33 =>
    (rL w x33 1 y2).bind fun x34 =>
    (gN w y0 9 55).bind fun x35 =>
    (rL w x35 1 y3).bind fun x36 =>
    f_q_sum_251 y0 y2 y3 y4 z0 y13 (x34 + x36) w
def f_q_sum_179  (y0 : Nat) (y2 : Int32) (y3 : Int32) (y4 : Int32) (z0 : Int32) (w : WW) : Option WW :=
  if z0 = 0 then
    (gN w y0 9 54).bind fun x4 =>
    (rL w x4 1 y2).bind fun x5 =>
    (gN w y0 9 55).bind fun x6 =>
    (rL w x6 1 y3).bind fun x7 =>
    f_q_sum_215 y0 y2 y3 y4 z0 (x5 - x7) w
  else
    (gN w y0 9 54).bind fun x37 =>
    (rL w x37 1 y2).bind fun x38 =>
    (gN w y0 9 54).bind fun x39 =>
    (rL w x39 1 y3).bind fun x40 =>
    f_q_sum_215 y0 y2 y3 y4 z0 (x38 + x40) w
def f_q_sum (a0 : Nat) (a1 : Int32) (a2 : Int32) (a3 : Int32) (a4 : Int32) (w : WW) : Option WW :=
  if kb w a0 9 = true then
    if a1 = (7 : Int32) then
      (gN w a0 9 54).bind fun x41 =>
      (rL w x41 1 a2).bind fun x42 =>
      (gN w a0 9 54).bind fun x43 =>
      (rL w x43 1 a3).bind fun x44 =>
      (gN w a0 9 54).bind fun x45 =>
      (rL w x45 1 a2).bind fun x46 =>
      (gN w a0 9 55).bind fun x47 =>
      (rL w x47 1 a3).bind fun x48 =>
      (gN w a0 9 55).bind fun x49 =>
      (rL w x49 1 a2).bind fun x50 =>
      (gN w a0 9 54).bind fun x51 =>
      (rL w x51 1 a3).bind fun x52 =>
      (gN w a0 9 55).bind fun x53 =>
      (rL w x53 1 a2).bind fun x54 =>
      (gN w a0 9 55).bind fun x55 =>
      (rL w x55 1 a3).bind fun x56 =>
      bd2 (f_q_min (x42 * x44) (x46 * x48) w) fun x58 w57 =>
      bd2 (f_q_min (x50 * x52) (x54 * x56) w57) fun x60 w59 =>
      bd2 (f_q_min x58 x60 w59) fun x62 w61 =>
      bd2 (f_q_max (x42 * x44) (x46 * x48) w61) fun x64 w63 =>
      bd2 (f_q_max (x50 * x52) (x54 * x56) w63) fun x66 w65 =>
      bd2 (f_q_max x64 x66 w65) fun x68 w67 =>
      (gN w67 a0 9 56).bind fun x69 =>
      (rL w67 x69 1 a2).bind fun x70 =>
      (gN w67 a0 9 56).bind fun x71 =>
      (rL w67 x71 1 a3).bind fun x72 =>
      (gN w67 a0 9 56).bind fun x73 =>
      (rL w67 x73 1 a2).bind fun x74 =>
      (gN w67 a0 9 57).bind fun x75 =>
      (rL w67 x75 1 a3).bind fun x76 =>
      bd2 (f_q_gcd (x70 * x72) (x74 * x76) w67) fun x78 w77 =>
      (gN w77 a0 9 56).bind fun x79 =>
      (rL w77 x79 1 a3).bind fun x80 =>
      (gN w77 a0 9 57).bind fun x81 =>
      (rL w77 x81 1 a2).bind fun x82 =>
      bd2 (f_q_gcd x78 (x80 * x82) w77) fun x84 w83 =>
      (gN w83 a0 9 57).bind fun x85 =>
      (rL w83 x85 1 a2).bind fun x86 =>
      (gN w83 a0 9 57).bind fun x87 =>
      (rL w83 x87 1 a3).bind fun x88 =>
      f_q_sum_306 a0 a2 a4 x62 x68 x84 (x86 * x88) w83
    else
      if a1 = (5 : Int32) then
        f_q_sum_179 a0 a2 a3 a4 (1 : Int32) w
      else
        f_q_sum_179 a0 a2 a3 a4 (0 : Int32) w
  else none
def f_q_quotient_488 (k_346 : Nat → Int32 → Int32 → Int32 → Int64 → Int64 → Int64 → Int64 → Int64 → Int64 → Int32 → Int32 → WW → Option WW) (y0 : Nat) (y2 : Int32) (y7 : Int32) (y8 : Int32) (y9 : Int64) (y11 : Int64) (y13 : Int64) (y15 : Int64) (y17 : Int64) (y19 : Int64) (y21 : Int32) (y22 : Int32) (w : WW) : Option WW :=
  k_346 y0 y2 y7 y8 y9 y11 y13 y15 y17 y19 y21 (y22 + (1 : Int32)) w
def f_q_quotient_483 (k_346 : Nat → Int32 → Int32 → Int32 → Int64 → Int64 → Int64 → Int64 → Int64 → Int64 → Int32 → Int32 → WW → Option WW) (y0 : Nat) (y2 : Int32) (y7 : Int32) (y8 : Int32) (y9 : Int64) (y11 : Int64) (y13 : Int64) (y15 : Int64) (y17 : Int64) (y22 : Int32) (z0 : Int64) (w : WW) : Option WW :=
  f_q_quotient_488 k_346 y0 y2 y7 y8 y9 y11 y13 y15 y17 z0 (1 : Int32) y22 w
def f_q_quotient_464 (k_346 : Nat → Int32 → Int32 → Int32 → Int64 → Int64 → Int64 → Int64 → Int64 → Int64 → Int32 → Int32 → WW → Option WW) (y0 : Nat) (y2 : Int32) (y7 : Int32) (y8 : Int32) (y9 : Int64) (y11 : Int64) (y13 : Int64) (y15 : Int64) (y19 : Int64) (y21 : Int32) (y22 : Int32) (y27 : Int64) (z0 : Int64) (w : WW) : Option WW :=
  if y21 = 0 then
    f_q_quotient_483 k_346 y0 y2 y7 y8 y9 y11 y13 y15 z0 y22 y27 w
  else
    bd2 (f_q_max y19 y27 w) fun x43 w42 =>
    f_q_quotient_483 k_346 y0 y2 y7 y8 y9 y11 y13 y15 z0 y22 x43 w42
def f_q_quotient_438 (k_346 : Nat → Int32 → Int32 → Int32 → Int64 → Int64 → Int64 → Int64 → Int64 → Int64 → Int32 → Int32 → WW → Option WW) (y0 : Nat) (y2 : Int32) (y7 : Int32) (y8 : Int32) (y9 : Int64) (y11 : Int64) (y13 : Int64) (y15 : Int64) (y17 : Int64) (y19 : Int64) (y21 : Int32) (y22 : Int32) (y23 : Int64) (z0 : Int64) (w : WW) : Option WW :=
  if ¬ z0 = 0 then
    if y21 = 0 then
      f_q_quotient_464 k_346 y0 y2 y7 y8 y9 y11 y13 y15 y19 y21 y22 (y23 / z0) (y23 / z0) w
    else
      bd2 (f_q_min y17 (y23 / z0) w) fun x45 w44 =>
      f_q_quotient_464 k_346 y0 y2 y7 y8 y9 y11 y13 y15 y19 y21 y22 (y23 / z0) x45 w44
  else none
def f_q_quotient_398 (k_346 : Nat → Int32 → Int32 → Int32 → Int64 → Int64 → Int64 → Int64 → Int64 → Int64 → Int32 → Int32 → WW → Option WW) (y0 : Nat) (y2 : Int32) (y7 : Int32) (y8 : Int32) (y9 : Int64) (y11 : Int64) (y13 : Int64) (y15 : Int64) (y17 : Int64) (y19 : Int64) (y21 : Int32) (y22 : Int32) (z0 : Int64) (w : WW) : Option WW :=
  if (y22 &&& (4 : Int32)) = 0 then
    if (y22 &&& (2 : Int32)) = 0 then
      f_q_quotient_438 k_346 y0 y2 y7 y8 y9 y11 y13 y15 y17 y19 y21 y22 z0 y9 w
    else
      f_q_quotient_438 k_346 y0 y2 y7 y8 y9 y11 y13 y15 y17 y19 y21 y22 z0 y11 w
  else
    if (y22 &&& (2 : Int32)) = 0 then
      f_q_quotient_438 k_346 y0 y2 y7 y8 y9 y11 y13 y15 y17 y19 y21 y22 z0 y13 w
    else
      f_q_quotient_438 k_346 y0 y2 y7 y8 y9 y11 y13 y15 y17 y19 y21 y22 z0 y15 w
def f_q_quotient_376 (k_346 : Nat → Int32 → Int32 → Int32 → Int64 → Int64 → Int64 → Int64 → Int64 → Int64 → Int32 → Int32 → WW → Option WW) (y0 : Nat) (y2 : Int32) (y7 : Int32) (y8 : Int32) (y9 : Int64) (y11 : Int64) (y13 : Int64) (y15 : Int64) (y17 : Int64) (y19 : Int64) (y21 : Int32) (y22 : Int32) (w : WW) : Option WW :=
  if (y22 &&& (1 : Int32)) = 0 then
    (gN w y0 9 54).bind fun x47 =>
    (rL w x47 1 y2).bind fun x48 =>
    f_q_quotient_398 k_346 y0 y2 y7 y8 y9 y11 y13 y15 y17 y19 y21 y22 x48 w
  else
    (gN w y0 9 55).bind fun x35 =>
    (rL w x35 1 y2).bind fun x36 =>
    f_q_quotient_398 k_346 y0 y2 y7 y8 y9 y11 y13 y15 y17 y19 y21 y22 x36 w
def f_q_quotient_346  : Nat → Nat → Int32 → Int32 → Int32 → Int64 → Int64 → Int64 → Int64 → Int64 → Int64 → Int32 → Int32 → WW → Option WW
  | 0, _, _, _, _, _, _, _, _, _, _, _, _, _ => none
  | n + 1, y0, y2, y7, y8, y9, y11, y13, y15, y17, y19, y21, y22, w =>
    if (8 : Int32) ≤ y22 then
      (f_q_put y0 y2 y17 y19 (1 : Int64) (0 : Int64) w).bind fun w31 =>
      some w31
    else
      if (y22 &&& (4 : Int32)) = 0 then
        if y7 = 0 then
          f_q_quotient_488 (f_q_quotient_346 n) y0 y2 y7 y8 y9 y11 y13 y15 y17 y19 y21 y22 w
        else
          f_q_quotient_376 (f_q_quotient_346 n) y0 y2 y7 y8 y9 y11 y13 y15 y17 y19 y21 y22 w
      else
        if y8 = 0 then
          f_q_quotient_488 (f_q_quotient_346 n) y0 y2 y7 y8 y9 y11 y13 y15 y17 y19 y21 y22 w
        else
          f_q_quotient_376 (f_q_quotient_346 n) y0 y2 y7 y8 y9 y11 y13 y15 y17 y19 y21 y22 w
def f_q_quotient_288  (y0 : Nat) (y2 : Int32) (z0 : Int64) (z1 : Int64) (w : WW) : Option WW :=
  bd2 (f_q_max z0 z1 w) fun x53 w52 =>
  (gN w52 y0 9 54).bind fun x54 =>
  (rL w52 x54 1 y2).bind fun x55 =>
  bd2 (f_q_min x55 (0 : Int64) w52) fun x57 w56 =>
  bd2 (f_q_max x57 (-(x53 - (1 : Int64))) w56) fun x59 w58 =>
  (gN w58 y0 9 55).bind fun x60 =>
  (rL w58 x60 1 y2).bind fun x61 =>
  bd2 (f_q_max x61 (0 : Int64) w58) fun x63 w62 =>
  bd2 (f_q_min x63 (x53 - (1 : Int64)) w62) fun x65 w64 =>
  (f_q_put y0 y2 x59 x65 (1 : Int64) (0 : Int64) w64).bind fun w66 =>
  some w66
def f_q_quotient_277  (y0 : Nat) (y2 : Int32) (y8 : Int32) (y15 : Int64) (z0 : Int64) (w : WW) : Option WW :=
  if y8 = 0 then
    f_q_quotient_288 y0 y2 z0 (0 : Int64) w
  else
    f_q_quotient_288 y0 y2 z0 y15 w
def f_q_quotient_217  (y0 : Nat) (y1 : Int32) (y2 : Int32) (y3 : Int32) (y7 : Int32) (y8 : Int32) (w : WW) : Option WW :=
  (gN w y0 9 54).bind fun x17 =>
  (rL w x17 1 y3).bind fun x18 =>
  (gN w y0 9 55).bind fun x19 =>
  (rL w x19 1 y3).bind fun x20 =>
  bd2 (f_q_min x20 (-1 : Int64) w) fun x22 w21 =>
  (gN w21 y0 9 54).bind fun x23 =>
  (rL w21 x23 1 y3).bind fun x24 =>
  bd2 (f_q_max x24 (1 : Int64) w21) fun x26 w25 =>
  (gN w25 y0 9 55).bind fun x27 =>
  (rL w25 x27 1 y3).bind fun x28 =>
  if y1 = (9 : Int32) then
    if y7 = 0 then
      f_q_quotient_277 y0 y2 y8 x28 (0 : Int64) w25
    else
      f_q_quotient_277 y0 y2 y8 x28 (-x18) w25
  else
    f_q_quotient_346 KK y0 y2 y7 y8 x18 x22 x26 x28 (0 : Int64) (0 : Int64) (0 : Int32) (0 : Int32) w25
def f_q_quotient_202  (y0 : Nat) (y2 : Int32) (z0 : Int64) (w : WW) : Option WW :=
  (f_q_put y0 y2 z0 z0 (0 : Int64) z0 w).bind fun w77 =>
  some w77
def f_q_quotient_167  (y0 : Nat) (y1 : Int32) (y2 : Int32) (y3 : Int32) (w : WW) : Option WW :=
  if y1 = (8 : Int32) then
    (gN w y0 9 57).bind fun x78 =>
    (rL w x78 1 y2).bind fun x79 =>
    (gN w y0 9 57).bind fun x80 =>
    (rL w x80 1 y3).bind fun x81 =>
    if ¬ x81 = 0 then
      f_q_quotient_202 y0 y2 (x79 / x81) w
    else none
  else
    (gN w y0 9 57).bind fun x72 =>
    (rL w x72 1 y2).bind fun x73 =>
    (gN w y0 9 57).bind fun x74 =>
    (rL w x74 1 y3).bind fun x75 =>
    if ¬ x75 = 0 then
      f_q_quotient_202 y0 y2 (x73 - x73 / x75 * x75) w
    else none
def f_q_quotient_113  (y0 : Nat) (y1 : Int32) (y2 : Int32) (y3 : Int32) (y7 : Int32) (y8 : Int32) (w : WW) : Option WW :=
  (gN w y0 9 56).bind fun x14 =>
  (rL w x14 1 y2).bind fun x15 =>
  if x15 = (0 : Int64) then
    (gN w y0 9 56).bind fun x67 =>
    (rL w x67 1 y3).bind fun x68 =>
    if x68 = (0 : Int64) then
      if y1 = (9 : Int32) then
        f_q_quotient_167 y0 y1 y2 y3 w
      else
        (gN w y0 9 57).bind fun x83 =>
        (rL w x83 1 y2).bind fun x84 =>
        if x84 = (-2147483648 : Int64) then
          (gN w y0 9 57).bind fun x86 =>
          (rL w x86 1 y3).bind fun x87 =>
          if x87 = (-1 : Int64) then
            f_q_quotient_217 y0 y1 y2 y3 y7 y8 w
          else
            f_q_quotient_167 y0 y1 y2 y3 w
        else
          f_q_quotient_167 y0 y1 y2 y3 w
    else
      f_q_quotient_217 y0 y1 y2 y3 y7 y8 w
  else
    f_q_quotient_217 y0 y1 y2 y3 y7 y8 w
def f_q_quotient_95  (y0 : Nat) (y1 : Int32) (y2 : Int32) (y3 : Int32) (y7 : Int32) (z0 : Int32) (w : WW) : Option WW :=
  if y7 = 0 then
    if z0 = 0 then
      (f_q_none y0 y2 w).bind fun w90 =>
      some w90
    else
      f_q_quotient_113 y0 y1 y2 y3 y7 z0 w
  else
    f_q_quotient_113 y0 y1 y2 y3 y7 z0 w
def f_q_quotient_77  (y0 : Nat) (y1 : Int32) (y2 : Int32) (y3 : Int32) (z0 : Int32) (w : WW) : Option WW :=
  (gN w y0 9 55).bind fun x10 =>
  (rL w x10 1 y3).bind fun x11 =>
  if x11 ≤ (0 : Int64) then
    f_q_quotient_95 y0 y1 y2 y3 z0 (0 : Int32) w
  else
    f_q_quotient_95 y0 y1 y2 y3 z0 (1 : Int32) w
def f_q_quotient_61  (y0 : Nat) (y1 : Int32) (y2 : Int32) (y3 : Int32) (w : WW) : Option WW :=
  (gN w y0 9 54).bind fun x7 =>
  (rL w x7 1 y3).bind fun x8 =>
  if (0 : Int64) ≤ x8 then
    f_q_quotient_77 y0 y1 y2 y3 (0 : Int32) w
  else
    f_q_quotient_77 y0 y1 y2 y3 (1 : Int32) w
def f_q_quotient_30  (y0 : Nat) (y1 : Int32) (y2 : Int32) (y3 : Int32) (y4 : Int32) (y6 : Int32) (w : WW) : Option WW :=
  if y1 = (8 : Int32) then
    (gN w y0 9 54).bind fun x91 =>
    (rL w x91 1 y2).bind fun x92 =>
    if x92 = (-2147483648 : Int64) then
      if y6 = 0 then
        f_q_quotient_61 y0 y1 y2 y3 w
      else
        (f_q_warn y0 (3 : Int32) y4 w).bind fun w95 =>
        f_q_quotient_61 y0 y1 y2 y3 w95
    else
      f_q_quotient_61 y0 y1 y2 y3 w
  else
    f_q_quotient_61 y0 y1 y2 y3 w
def f_q_quotient (a0 : Nat) (a1 : Int32) (a2 : Int32) (a3 : Int32) (a4 : Int32) (w : WW) : Option WW :=
  if kb w a0 9 = true then
    bd2 (f_q_isOf a0 (0 : Int64) a3 w) fun x2 w1 =>
    bd2 (f_q_isOf a0 (-1 : Int64) a3 w1) fun x4 w3 =>
    if x2 = 0 then
      f_q_quotient_30 a0 a1 a2 a3 a4 x4 w3
    else
      (f_q_warn a0 (4 : Int32) a4 w3).bind fun w96 =>
      f_q_quotient_30 a0 a1 a2 a3 a4 x4 w96
  else none
def f_q_look_247 (k_6 : Nat → Int32 → Int32 → Int32 → Int32 → WW → Option (Int32 × WW)) (y0 : Nat) (y2 : Int32) (y3 : Int32) (y4 : Int32) (y5 : Int32) (w : WW) : Option (Int32 × WW) :=
  (gN w y0 9 56).bind fun x15 =>
  (rL w x15 1 (y4 - (1 : Int32))).bind fun x16 =>
  if (0 : Int64) ≤ x16 then
    k_6 y0 y2 y3 y4 (y5 + (1 : Int32)) w
  else
    (f_q_none y0 y3 w).bind fun w18 =>
    if (0 : Int32) = 0 ∨ (0 : Int32) = 1 then some ((0 : Int32), w18) else none
def f_q_look_129 (k_6 : Nat → Int32 → Int32 → Int32 → Int32 → WW → Option (Int32 × WW)) (y0 : Nat) (y2 : Int32) (y3 : Int32) (y4 : Int32) (y5 : Int32) (y7 : Int32) (w : WW) : Option (Int32 × WW) :=
  (f_q_readCells y0 (y4 - (1 : Int32)) y7 (y4 - (1 : Int32)) w).bind fun w31 =>
  f_q_look_247 k_6 y0 y2 y3 y4 y5 w31
def f_q_look_86 (k_6 : Nat → Int32 → Int32 → Int32 → Int32 → WW → Option (Int32 × WW)) (y0 : Nat) (y2 : Int32) (y3 : Int32) (y4 : Int32) (y5 : Int32) (y7 : Int32) (w : WW) : Option (Int32 × WW) :=
  (f_q_copy y0 y4 y7 w).bind fun w38 =>
  f_q_look_247 k_6 y0 y2 y3 (y4 + (1 : Int32)) y5 w38
def f_q_look_6  : Nat → Nat → Int32 → Int32 → Int32 → Int32 → WW → Option (Int32 × WW)
  | 0, _, _, _, _, _, _ => none
  | n + 1, y0, y2, y3, y4, y5, w =>
    if y2 ≤ y5 then
      if (1 : Int32) = 0 ∨ (1 : Int32) = 1 then some ((1 : Int32), w) else none
    else
      (gN w y0 9 24).bind fun x3 =>
      (rI w x3 0 y5).bind fun x4 =>
      (gN w y0 9 25).bind fun x5 =>
      (rI w x5 0 y5).bind fun x6 =>
      if x4 = (1 : Int32) then
        (f_q_put4 y0 y4 (Int32.toInt64 x6) (Int32.toInt64 x6) (0 : Int64) (Int32.toInt64 x6) w).bind fun w42 =>
        f_q_look_247 (f_q_look_6 n) y0 y2 y3 (y4 + (1 : Int32)) y5 w42
      else
        if x4 = (2 : Int32) then
          (gN w y0 9 58).bind fun x35 =>
          (rI w x35 2 x6).bind fun x36 =>
          if x36 = 0 then
            f_q_look_86 (f_q_look_6 n) y0 y2 y3 y4 y5 x6 w
          else
            (gN w y0 9 26).bind fun x39 =>
            (rI w x39 0 y5).bind fun x40 =>
            (f_q_warn y0 (1 : Int32) x40 w).bind fun w41 =>
            f_q_look_86 (f_q_look_6 n) y0 y2 y3 y4 y5 x6 w41
        else
          if x4 = (3 : Int32) then
            bd2 (f_q_isBeyond y0 (y4 - (1 : Int32)) w) fun x29 w28 =>
            if x29 = 0 then
              f_q_look_129 (f_q_look_6 n) y0 y2 y3 y4 y5 x6 w28
            else
              (gN w28 y0 9 26).bind fun x32 =>
              (rI w28 x32 0 y5).bind fun x33 =>
              (f_q_warn y0 (2 : Int32) x33 w28).bind fun w34 =>
              f_q_look_129 (f_q_look_6 n) y0 y2 y3 y4 y5 x6 w34
          else
            if x4 = (4 : Int32) then
              (f_q_copy y0 y4 (y4 - (1 : Int32)) w).bind fun w23 =>
              (f_q_put4 y0 (y4 - (1 : Int32)) (0 : Int64) (0 : Int64) (0 : Int64) (0 : Int64) w23).bind fun w24 =>
              (gN w24 y0 9 26).bind fun x25 =>
              (rI w24 x25 0 y5).bind fun x26 =>
              (f_q_sum y0 (6 : Int32) (y4 - (1 : Int32)) y4 x26 w24).bind fun w27 =>
              f_q_look_247 (f_q_look_6 n) y0 y2 y3 y4 y5 w27
            else
              if (8 : Int32) ≤ x4 then
                (gN w y0 9 26).bind fun x12 =>
                (rI w x12 0 y5).bind fun x13 =>
                (f_q_quotient y0 x4 ((y4 + (-1 : Int32)) - (1 : Int32)) (y4 + (-1 : Int32)) x13 w).bind fun w14 =>
                f_q_look_247 (f_q_look_6 n) y0 y2 y3 (y4 + (-1 : Int32)) y5 w14
              else
                (gN w y0 9 26).bind fun x20 =>
                (rI w x20 0 y5).bind fun x21 =>
                (f_q_sum y0 x4 ((y4 + (-1 : Int32)) - (1 : Int32)) (y4 + (-1 : Int32)) x21 w).bind fun w22 =>
                f_q_look_247 (f_q_look_6 n) y0 y2 y3 (y4 + (-1 : Int32)) y5 w22
def f_q_look (a0 : Nat) (a1 : Int32) (a2 : Int32) (a3 : Int32) (w : WW) : Option (Int32 × WW) :=
  if kb w a0 9 = true then
    f_q_look_6 KK a0 a2 a3 a3 a1 w
  else none
def f_q_meet_22  (y0 : Nat) (y1 : Int32) (w : WW) : Option WW :=
  (f_q_none y0 y1 w).bind fun w4 =>
  some w4
def f_q_meet_321   (w : WW) : Option WW :=
  some w
def f_q_meet_318  (z0 : Nat) (z1 : Int32) (z2 : Int64) (z3 : Int64) (z4 : Int64) (z5 : Int64) (w : WW) : Option WW :=
  (f_q_put z0 z1 z2 z3 z4 z5 w).bind fun w43 =>
  f_q_meet_321 w43
def f_q_meet_298  (y0 : Nat) (y2 : Int32) (y3 : Int32) (y9 : Int32) (z0 : Nat) (z1 : Int32) (z2 : Int64) (z3 : Int64) (z4 : Int64) (w : WW) : Option WW :=
  if y9 = 0 then
    (gN w y0 9 57).bind fun x41 =>
    (rL w x41 1 y3).bind fun x42 =>
    f_q_meet_318 z0 z1 z2 z3 z4 x42 w
  else
    (gN w y0 9 57).bind fun x44 =>
    (rL w x44 1 y2).bind fun x45 =>
    f_q_meet_318 z0 z1 z2 z3 z4 x45 w
def f_q_meet_257  (y0 : Nat) (y1 : Int32) (y2 : Int32) (y3 : Int32) (y4 : Int64) (y6 : Int64) (y8 : Int32) (z0 : Int32) (w : WW) : Option WW :=
  if y8 = 0 then
    if z0 = 0 then
      (gN w y0 9 56).bind fun x38 =>
      (rL w x38 1 y3).bind fun x39 =>
      f_q_meet_298 y0 y2 y3 z0 y0 y1 y4 y6 x39 w
    else
      (gN w y0 9 56).bind fun x46 =>
      (rL w x46 1 y2).bind fun x47 =>
      f_q_meet_298 y0 y2 y3 z0 y0 y1 y4 y6 x47 w
  else
    (f_q_none y0 y1 w).bind fun w48 =>
    f_q_meet_321 w48
def f_q_meet_252  (y0 : Nat) (y1 : Int32) (y2 : Int32) (y3 : Int32) (y4 : Int64) (y6 : Int64) (y8 : Int32) (w : WW) : Option WW :=
  f_q_meet_257 y0 y1 y2 y3 y4 y6 y8 (1 : Int32) w
def f_q_meet_256  (y0 : Nat) (y1 : Int32) (y2 : Int32) (y3 : Int32) (y4 : Int64) (y6 : Int64) (y8 : Int32) (w : WW) : Option WW :=
  f_q_meet_257 y0 y1 y2 y3 y4 y6 y8 (0 : Int32) w
def f_q_meet_212  (y0 : Nat) (y1 : Int32) (y2 : Int32) (y3 : Int32) (y4 : Int64) (y6 : Int64) (z0 : Int32) (w : WW) : Option WW :=
  (gN w y0 9 56).bind fun x33 =>
  (rL w x33 1 y2).bind fun x34 =>
  if x34 = (0 : Int64) then
    f_q_meet_252 y0 y1 y2 y3 y4 y6 z0 w
  else
    (gN w y0 9 56).bind fun x49 =>
    (rL w x49 1 y3).bind fun x50 =>
    if x50 = (0 : Int64) then
      f_q_meet_256 y0 y1 y2 y3 y4 y6 z0 w
    else
      (gN w y0 9 56).bind fun x52 =>
      (rL w x52 1 y2).bind fun x53 =>
      (gN w y0 9 56).bind fun x54 =>
      (rL w x54 1 y3).bind fun x55 =>
      if x53 < x55 then
        f_q_meet_256 y0 y1 y2 y3 y4 y6 z0 w
      else
        f_q_meet_252 y0 y1 y2 y3 y4 y6 z0 w
def f_q_meet_160  (y0 : Nat) (y1 : Int32) (y2 : Int32) (y3 : Int32) (y4 : Int64) (y6 : Int64) (w : WW) : Option WW :=
  (gN w y0 9 56).bind fun x25 =>
  (rL w x25 1 y2).bind fun x26 =>
  if x26 = (0 : Int64) then
    (gN w y0 9 57).bind fun x57 =>
    (rL w x57 1 y2).bind fun x58 =>
    bd2 (f_q_isOf y0 x58 y3 w) fun x60 w59 =>
    if x60 = 0 then
      f_q_meet_212 y0 y1 y2 y3 y4 y6 (1 : Int32) w59
    else
      f_q_meet_212 y0 y1 y2 y3 y4 y6 (0 : Int32) w59
  else
    (gN w y0 9 57).bind fun x28 =>
    (rL w x28 1 y3).bind fun x29 =>
    bd2 (f_q_isOf y0 x29 y2 w) fun x31 w30 =>
    if x31 = 0 then
      f_q_meet_212 y0 y1 y2 y3 y4 y6 (1 : Int32) w30
    else
      f_q_meet_212 y0 y1 y2 y3 y4 y6 (0 : Int32) w30
def f_q_meet_92  (y0 : Nat) (y1 : Int32) (y2 : Int32) (y3 : Int32) (y4 : Int64) (z0 : Int64) (w : WW) : Option WW :=
  (gN w y0 9 56).bind fun x22 =>
  (rL w x22 1 y2).bind fun x23 =>
  if x23 = (0 : Int64) then
    f_q_meet_160 y0 y1 y2 y3 y4 z0 w
  else
    (gN w y0 9 56).bind fun x62 =>
    (rL w x62 1 y3).bind fun x63 =>
    if x63 = (0 : Int64) then
      f_q_meet_160 y0 y1 y2 y3 y4 z0 w
    else
      (gN w y0 9 57).bind fun x65 =>
      (rL w x65 1 y2).bind fun x66 =>
      (gN w y0 9 57).bind fun x67 =>
      (rL w x67 1 y3).bind fun x68 =>
      (gN w y0 9 56).bind fun x69 =>
      (rL w x69 1 y2).bind fun x70 =>
      (gN w y0 9 56).bind fun x71 =>
      (rL w x71 1 y3).bind fun x72 =>
      bd2 (f_q_gcd x70 x72 w) fun x74 w73 =>
      bd2 (f_q_left_JJ (x66 - x68) x74 w73) fun x76 w75 =>
      if x76 = (0 : Int64) then
        f_q_meet_212 y0 y1 y2 y3 y4 z0 (0 : Int32) w75
      else
        f_q_meet_212 y0 y1 y2 y3 y4 z0 (1 : Int32) w75
def f_q_meet_59  (y0 : Nat) (y1 : Int32) (y2 : Int32) (y3 : Int32) (z0 : Int64) (w : WW) : Option WW :=
  (gN w y0 9 55).bind fun x15 =>
  (rL w x15 1 y2).bind fun x16 =>
  (gN w y0 9 55).bind fun x17 =>
  (rL w x17 1 y3).bind fun x18 =>
  if x18 ≤ x16 then
    (gN w y0 9 55).bind fun x20 =>
    (rL w x20 1 y3).bind fun x21 =>
    f_q_meet_92 y0 y1 y2 y3 z0 x21 w
  else
    (gN w y0 9 55).bind fun x78 =>
    (rL w x78 1 y2).bind fun x79 =>
    f_q_meet_92 y0 y1 y2 y3 z0 x79 w
def f_q_meet (a0 : Nat) (a1 : Int32) (a2 : Int32) (a3 : Int32) (w : WW) : Option WW :=
  if kb w a0 9 = true then
    (gN w a0 9 56).bind fun x1 =>
    (rL w x1 1 a2).bind fun x2 =>
    if x2 < (0 : Int64) then
      f_q_meet_22 a0 a1 w
    else
      (gN w a0 9 56).bind fun x5 =>
      (rL w x5 1 a3).bind fun x6 =>
      if (0 : Int64) ≤ x6 then
        (gN w a0 9 54).bind fun x8 =>
        (rL w x8 1 a2).bind fun x9 =>
        (gN w a0 9 54).bind fun x10 =>
        (rL w x10 1 a3).bind fun x11 =>
        if x9 ≤ x11 then
          (gN w a0 9 54).bind fun x13 =>
          (rL w x13 1 a3).bind fun x14 =>
          f_q_meet_59 a0 a1 a2 a3 x14 w
        else
          (gN w a0 9 54).bind fun x80 =>
          (rL w x80 1 a2).bind fun x81 =>
          f_q_meet_59 a0 a1 a2 a3 x81 w
      else
        f_q_meet_22 a0 a1 w
  else none
def f_q_without_111   (w : WW) : Option WW :=
  some w
def f_q_without_74  (y0 : Nat) (y1 : Int32) (y2 : Int32) (y4 : Int64) (y6 : Int64) (w : WW) : Option WW :=
  if y4 ≤ y6 then
    (gN w y0 9 56).bind fun x12 =>
    (rL w x12 1 y2).bind fun x13 =>
    (gN w y0 9 57).bind fun x14 =>
    (rL w x14 1 y2).bind fun x15 =>
    (f_q_put y0 y1 y4 y6 x13 x15 w).bind fun w16 =>
    f_q_without_111 w16
  else
    (f_q_none y0 y1 w).bind fun w17 =>
    f_q_without_111 w17
def f_q_without_45  (y0 : Nat) (y1 : Int32) (y2 : Int32) (y3 : Int32) (y4 : Int64) (y6 : Int64) (w : WW) : Option WW :=
  (gN w y0 9 56).bind fun x8 =>
  (rL w x8 1 y3).bind fun x9 =>
  if x9 = (0 : Int64) then
    (gN w y0 9 57).bind fun x18 =>
    (rL w x18 1 y3).bind fun x19 =>
    if y6 = x19 then
      f_q_without_74 y0 y1 y2 y4 (y6 - (1 : Int64)) w
    else
      f_q_without_74 y0 y1 y2 y4 y6 w
  else
    f_q_without_74 y0 y1 y2 y4 y6 w
def f_q_without (a0 : Nat) (a1 : Int32) (a2 : Int32) (a3 : Int32) (w : WW) : Option WW :=
  if kb w a0 9 = true then
    (gN w a0 9 54).bind fun x1 =>
    (rL w x1 1 a2).bind fun x2 =>
    (gN w a0 9 55).bind fun x3 =>
    (rL w x3 1 a2).bind fun x4 =>
    (gN w a0 9 56).bind fun x5 =>
    (rL w x5 1 a3).bind fun x6 =>
    if x6 = (0 : Int64) then
      (gN w a0 9 57).bind fun x21 =>
      (rL w x21 1 a3).bind fun x22 =>
      if x2 = x22 then
        f_q_without_45 a0 a1 a2 a3 (x2 + (1 : Int64)) x4 w
      else
        f_q_without_45 a0 a1 a2 a3 x2 x4 w
    else
      f_q_without_45 a0 a1 a2 a3 x2 x4 w
  else none
def f_q_under_130   (w : WW) : Option WW :=
  some w
def f_q_under_85  (y0 : Nat) (y2 : Int32) (y6 : Int64) (w : WW) : Option WW :=
  (gN w y0 9 55).bind fun x23 =>
  (rL w x23 1 y2).bind fun x24 =>
  if y6 ≤ x24 then
    (gN w y0 9 55).bind fun x26 =>
    (rL w x26 1 y2).bind fun x27 =>
    (gN w y0 9 56).bind fun x28 =>
    (rL w x28 1 y2).bind fun x29 =>
    (gN w y0 9 57).bind fun x30 =>
    (rL w x30 1 y2).bind fun x31 =>
    (f_q_put y0 y2 y6 x27 x29 x31 w).bind fun w32 =>
    f_q_under_130 w32
  else
    (f_q_none y0 y2 w).bind fun w33 =>
    f_q_under_130 w33
def f_q_under (a0 : Nat) (a1 : Int32) (a2 : Int32) (a3 : Int32) (w : WW) : Option WW :=
  if kb w a0 9 = true then
    (gN w a0 9 55).bind fun x1 =>
    (rL w x1 1 a1).bind fun x2 =>
    (gN w a0 9 55).bind fun x3 =>
    (rL w x3 1 a2).bind fun x4 =>
    bd2 (f_q_min x2 (x4 - (Int32.toInt64 a3)) w) fun x6 w5 =>
    (gN w5 a0 9 54).bind fun x7 =>
    (rL w5 x7 1 a2).bind fun x8 =>
    (gN w5 a0 9 54).bind fun x9 =>
    (rL w5 x9 1 a1).bind fun x10 =>
    bd2 (f_q_max x8 (x10 + (Int32.toInt64 a3)) w5) fun x12 w11 =>
    (gN w11 a0 9 54).bind fun x13 =>
    (rL w11 x13 1 a1).bind fun x14 =>
    if x14 ≤ x6 then
      (gN w11 a0 9 54).bind fun x16 =>
      (rL w11 x16 1 a1).bind fun x17 =>
      (gN w11 a0 9 56).bind fun x18 =>
      (rL w11 x18 1 a1).bind fun x19 =>
      (gN w11 a0 9 57).bind fun x20 =>
      (rL w11 x20 1 a1).bind fun x21 =>
      (f_q_put a0 a1 x17 x6 x19 x21 w11).bind fun w22 =>
      f_q_under_85 a0 a2 x12 w22
    else
      (f_q_none a0 a1 w11).bind fun w34 =>
      f_q_under_85 a0 a2 x12 w34
  else none
def f_q_assume_250  (y0 : Nat) (w : WW) : Option WW :=
  (gN w y0 9 59).bind fun x22 =>
  (sI w x22 2 (0 : Int32) (vp_nar .boolean (1 : Int32))).bind fun w23 =>
  some w23
def f_q_assume_355   (w : WW) : Option WW :=
  some w
def f_q_assume_306  (y0 : Nat) (y1 : Int32) (y4 : Int32) (w : WW) : Option WW :=
  (gN w y0 9 15).bind fun x32 =>
  (rI w x32 0 y1).bind fun x33 =>
  (gN w y0 9 14).bind fun x34 =>
  (rI w x34 0 y1).bind fun x35 =>
  if x33 = (x35 + (1 : Int32)) then
    (gN w y0 9 24).bind fun x37 =>
    (gN w y0 9 14).bind fun x38 =>
    (rI w x38 0 y1).bind fun x39 =>
    (rI w x37 0 x39).bind fun x40 =>
    if x40 = (2 : Int32) then
      (gN w y0 9 25).bind fun x42 =>
      (gN w y0 9 14).bind fun x43 =>
      (rI w x43 0 y1).bind fun x44 =>
      (rI w x42 0 x44).bind fun x45 =>
      (f_q_copy y0 x45 y4 w).bind fun w46 =>
      f_q_assume_355 w46
    else
      f_q_assume_355 w
  else
    f_q_assume_355 w
def f_q_assume_227  (y0 : Nat) (y1 : Int32) (y3 : Int32) (y4 : Int32) (w : WW) : Option WW :=
  (gN w y0 9 56).bind fun x19 =>
  (rL w x19 1 y3).bind fun x20 =>
  if x20 < (0 : Int64) then
    f_q_assume_250 y0 w
  else
    (gN w y0 9 56).bind fun x24 =>
    (rL w x24 1 y4).bind fun x25 =>
    if (0 : Int64) ≤ x25 then
      (gN w y0 9 13).bind fun x27 =>
      (rI w x27 0 y1).bind fun x28 =>
      (gN w y0 9 12).bind fun x29 =>
      (rI w x29 0 y1).bind fun x30 =>
      if x28 = (x30 + (1 : Int32)) then
        (gN w y0 9 24).bind fun x47 =>
        (gN w y0 9 12).bind fun x48 =>
        (rI w x48 0 y1).bind fun x49 =>
        (rI w x47 0 x49).bind fun x50 =>
        if x50 = (2 : Int32) then
          (gN w y0 9 25).bind fun x52 =>
          (gN w y0 9 12).bind fun x53 =>
          (rI w x53 0 y1).bind fun x54 =>
          (rI w x52 0 x54).bind fun x55 =>
          (f_q_copy y0 x55 y3 w).bind fun w56 =>
          f_q_assume_306 y0 y1 y4 w56
        else
          f_q_assume_306 y0 y1 y4 w
      else
        f_q_assume_306 y0 y1 y4 w
    else
      f_q_assume_250 y0 w
def f_q_assume_224  (y0 : Nat) (y1 : Int32) (y3 : Int32) (y4 : Int32) (z0 : Nat) (z1 : Int32) (z2 : Int32) (z3 : Int32) (w : WW) : Option WW :=
  (f_q_under z0 z1 z2 z3 w).bind fun w18 =>
  f_q_assume_227 y0 y1 y3 y4 w18
def f_q_assume_203  (y0 : Nat) (y1 : Int32) (y3 : Int32) (y4 : Int32) (z0 : Nat) (z1 : Int32) (z2 : Int32) (z3 : Int32) (w : WW) : Option WW :=
  (f_q_under z0 z1 z2 z3 w).bind fun w58 =>
  f_q_assume_227 y0 y1 y3 y4 w58
def f_q_assume_138  (y0 : Nat) (y1 : Int32) (y2 : Int32) (y3 : Int32) (y4 : Int32) (y6 : Int32) (w : WW) : Option WW :=
  if (2 : Int32) ≤ y6 then
    if y2 = 0 then
      if y6 = (2 : Int32) then
        f_q_assume_224 y0 y1 y3 y4 y0 y4 y3 (0 : Int32) w
      else
        f_q_assume_224 y0 y1 y3 y4 y0 y4 y3 (1 : Int32) w
    else
      if y6 = (2 : Int32) then
        f_q_assume_203 y0 y1 y3 y4 y0 y3 y4 (1 : Int32) w
      else
        f_q_assume_203 y0 y1 y3 y4 y0 y3 y4 (0 : Int32) w
  else
    (f_q_without y0 (224 : Int32) y3 y4 w).bind fun w59 =>
    (f_q_without y0 (225 : Int32) y4 y3 w59).bind fun w60 =>
    (f_q_copy y0 y3 (224 : Int32) w60).bind fun w61 =>
    (f_q_copy y0 y4 (225 : Int32) w61).bind fun w62 =>
    f_q_assume_227 y0 y1 y3 y4 w62
def f_q_assume_104  (y0 : Nat) (y1 : Int32) (y2 : Int32) (y3 : Int32) (y4 : Int32) (y6 : Int32) (z0 : Int32) (w : WW) : Option WW :=
  if z0 = y2 then
    (f_q_meet y0 (224 : Int32) y3 y4 w).bind fun w65 =>
    (f_q_copy y0 y3 (224 : Int32) w65).bind fun w66 =>
    (f_q_copy y0 y4 (224 : Int32) w66).bind fun w67 =>
    f_q_assume_227 y0 y1 y3 y4 w67
  else
    f_q_assume_138 y0 y1 y2 y3 y4 y6 w
def f_q_assume_65  (y0 : Nat) (y1 : Int32) (y2 : Int32) (y3 : Int32) (y4 : Int32) (z0 : Int32) (w : WW) : Option WW :=
  if z0 = 0 then
    (gN w y0 9 59).bind fun x68 =>
    (sI w x68 2 (0 : Int32) (vp_nar .boolean (1 : Int32))).bind fun w69 =>
    some w69
  else
    (gN w y0 9 16).bind fun x12 =>
    (rI w x12 0 y1).bind fun x13 =>
    if (2 : Int32) ≤ x13 then
      f_q_assume_138 y0 y1 y2 y3 y4 x13 w
    else
      if x13 = 0 then
        f_q_assume_104 y0 y1 y2 y3 y4 x13 (1 : Int32) w
      else
        f_q_assume_104 y0 y1 y2 y3 y4 x13 (0 : Int32) w
def f_q_assume_64  (y0 : Nat) (y1 : Int32) (y2 : Int32) (y3 : Int32) (y4 : Int32) (w : WW) : Option WW :=
  f_q_assume_65 y0 y1 y2 y3 y4 (0 : Int32) w
def f_q_assume (a0 : Nat) (a1 : Int32) (a2 : Int32) (w : WW) : Option WW :=
  if kb w a0 9 = true then
    (gN w a0 9 59).bind fun x1 =>
    (rI w x1 2 (0 : Int32)).bind fun x2 =>
    if x2 = 0 then
      (gN w a0 9 12).bind fun x4 =>
      (rI w x4 0 a1).bind fun x5 =>
      (gN w a0 9 13).bind fun x6 =>
      (rI w x6 0 a1).bind fun x7 =>
      bd2 (f_q_look a0 x5 x7 (226 : Int32) w) fun x9 w8 =>
      if x9 = 0 then
        f_q_assume_64 a0 a1 a2 (226 : Int32) (290 : Int32) w8
      else
        (gN w8 a0 9 14).bind fun x70 =>
        (rI w8 x70 0 a1).bind fun x71 =>
        (gN w8 a0 9 15).bind fun x72 =>
        (rI w8 x72 0 a1).bind fun x73 =>
        bd2 (f_q_look a0 x71 x73 (290 : Int32) w8) fun x75 w74 =>
        if x75 = 0 then
          f_q_assume_64 a0 a1 a2 (226 : Int32) (290 : Int32) w74
        else
          f_q_assume_65 a0 a1 a2 (226 : Int32) (290 : Int32) (1 : Int32) w74
    else
      some w
  else none
def f_q_enter_123  (y0 : Nat) (y1 : Int32) (w : WW) : Option (Int32 × WW) :=
  (f_q_assume y0 y1 (1 : Int32) w).bind fun w24 =>
  (gN w24 y0 9 17).bind fun x25 =>
  (rI w24 x25 0 y1).bind fun x26 =>
  some (x26, w24)
def f_q_enter_78  (y0 : Nat) (y1 : Int32) (y2 : Int32) (z0 : Nat) (z1 : Int32) (z2 : Int32) (w : WW) : Option (Int32 × WW) :=
  (sI w z0 0 z1 z2).bind fun w16 =>
  (gI w16 y0 9 64).bind fun x17 =>
  (pv w16 y0 9 64 (.int (x17 + (1 : Int32)))).bind fun w18 =>
  (f_q_copyState y0 y2 (0 : Int32) w18).bind fun w19 =>
  (f_q_copyState y0 (y2 + (1 : Int32)) (0 : Int32) w19).bind fun w20 =>
  (gN w20 y0 9 9).bind fun x21 =>
  (rI w20 x21 0 y1).bind fun x22 =>
  if x22 = (4 : Int32) then
    (gI w20 y0 9 65).bind fun x27 =>
    (pv w20 y0 9 65 (.int (x27 + (1 : Int32)))).bind fun w28 =>
    f_q_enter_123 y0 y1 w28
  else
    f_q_enter_123 y0 y1 w20
def f_q_enter_35  (y0 : Nat) (y1 : Int32) (y2 : Int32) (w : WW) : Option (Int32 × WW) :=
  (gN w y0 9 61).bind fun x5 =>
  (gI w y0 9 64).bind fun x6 =>
  (sI w x5 0 x6 y1).bind fun w7 =>
  (gN w7 y0 9 63).bind fun x8 =>
  (gI w7 y0 9 64).bind fun x9 =>
  (sI w7 x8 0 x9 (1 : Int32)).bind fun w10 =>
  (gN w10 y0 9 62).bind fun x11 =>
  (gI w10 y0 9 64).bind fun x12 =>
  (gN w10 y0 9 9).bind fun x13 =>
  (rI w10 x13 0 y1).bind fun x14 =>
  if x14 = (3 : Int32) then
    f_q_enter_78 y0 y1 y2 x11 x12 (0 : Int32) w10
  else
    f_q_enter_78 y0 y1 y2 x11 x12 (2 : Int32) w10
def f_q_enter (a0 : Nat) (a1 : Int32) (w : WW) : Option (Int32 × WW) :=
  if kb w a0 9 = true then
    (gI w a0 9 64).bind fun x1 =>
    (gN w a0 9 9).bind fun x2 =>
    (rI w x2 0 a1).bind fun x3 =>
    if x3 = (4 : Int32) then
      (gN w a0 9 59).bind fun x29 =>
      (rI w x29 2 (0 : Int32)).bind fun x30 =>
      if x30 = 0 then
        f_q_enter_35 a0 a1 ((3 : Int32) + ((3 : Int32) * x1)) w
      else
        (gN w a0 9 19).bind fun x32 =>
        (rI w x32 0 a1).bind fun x33 =>
        some (x33, w)
    else
      f_q_enter_35 a0 a1 ((3 : Int32) + ((3 : Int32) * x1)) w
  else none
def f_q_all (a0 : Nat) (a1 : Int32) (w : WW) : Option WW :=
  if kb w a0 9 = true then
    (f_q_put4 a0 a1 (-2147483648 : Int64) (2147483647 : Int64) (1 : Int64) (0 : Int64) w).bind fun w1 =>
    some w1
  else none
def f_q_store_239   (w : WW) : Option WW :=
  some w
def f_q_store_233 (k_153 : Nat → Int32 → Int32 → Int32 → Int32 → Int32 → Int32 → WW → Option WW) (y0 : Nat) (y1 : Int32) (y2 : Int32) (y3 : Int32) (y4 : Int32) (y5 : Int32) (y7 : Int32) (w : WW) : Option WW :=
  k_153 y0 y1 y2 y3 y4 y5 (y7 + (1 : Int32)) w
def f_q_store_213 (k_153 : Nat → Int32 → Int32 → Int32 → Int32 → Int32 → Int32 → WW → Option WW) (y0 : Nat) (y1 : Int32) (y2 : Int32) (y3 : Int32) (y4 : Int32) (y5 : Int32) (y7 : Int32) (y8 : Int32) (y9 : Int32) (w : WW) : Option WW :=
  if y5 ≤ (1 : Int32) then
    f_q_store_233 k_153 y0 y1 y2 y3 y4 y5 y7 w
  else
    if y9 = 0 then
      f_q_store_233 k_153 y0 y1 y2 y3 y4 y5 y7 w
    else
      (f_q_join y0 y8 y8 y3 w).bind fun w22 =>
      f_q_store_233 k_153 y0 y1 y2 y3 y4 y5 y7 w22
def f_q_store_153  : Nat → Nat → Int32 → Int32 → Int32 → Int32 → Int32 → Int32 → WW → Option WW
  | 0, _, _, _, _, _, _, _, _ => none
  | n + 1, y0, y1, y2, y3, y4, y5, y7, w =>
    if (4 : Int32) ≤ y7 then
      f_q_store_239 w
    else
      if y5 ≤ 0 then
        f_q_store_239 w
      else
        (gN w y0 9 10).bind fun x15 =>
        (rI w x15 0 y1).bind fun x16 =>
        bd2 (f_q_isOf y0 (Int32.toInt64 y7) y2 w) fun x18 w17 =>
        if y5 = (1 : Int32) then
          if y7 = y4 then
            (f_q_copy y0 (((6 : Int32) + ((4 : Int32) * x16)) + y7) y3 w17).bind fun w24 =>
            f_q_store_233 (f_q_store_153 n) y0 y1 y2 y3 y4 y5 y7 w24
          else
            f_q_store_213 (f_q_store_153 n) y0 y1 y2 y3 y4 y5 y7 (((6 : Int32) + ((4 : Int32) * x16)) + y7) x18 w17
        else
          f_q_store_213 (f_q_store_153 n) y0 y1 y2 y3 y4 y5 y7 (((6 : Int32) + ((4 : Int32) * x16)) + y7) x18 w17
def f_q_store_149  (y0 : Nat) (y1 : Int32) (y2 : Int32) (y3 : Int32) (y4 : Int32) (y5 : Int32) (z0 : Nat) (z1 : Int32) (z2 : Int32) (w : WW) : Option WW :=
  (sI w z0 2 z1 (vp_nar .boolean z2)).bind fun w12 =>
  f_q_store_153 KK y0 y1 y2 y3 y4 y5 (0 : Int32) w12
def f_q_store_134  (y0 : Nat) (y1 : Int32) (y2 : Int32) (y3 : Int32) (y4 : Int32) (y5 : Int32) (w : WW) : Option WW :=
  (gN w y0 9 59).bind fun x10 =>
  if y5 = 0 then
    f_q_store_149 y0 y1 y2 y3 y4 y5 x10 (0 : Int32) (1 : Int32) w
  else
    f_q_store_149 y0 y1 y2 y3 y4 y5 x10 (0 : Int32) (0 : Int32) w
def f_q_store_128 (k_92 : Nat → Int32 → Int32 → Int32 → Int32 → Int32 → Int32 → Int32 → WW → Option WW) (y0 : Nat) (y1 : Int32) (y2 : Int32) (y3 : Int32) (y4 : Int32) (y5 : Int32) (y6 : Int32) (y7 : Int32) (w : WW) : Option WW :=
  k_92 y0 y1 y2 y3 y4 y5 y6 (y7 + (1 : Int32)) w
def f_q_store_92  : Nat → Nat → Int32 → Int32 → Int32 → Int32 → Int32 → Int32 → Int32 → WW → Option WW
  | 0, _, _, _, _, _, _, _, _, _ => none
  | n + 1, y0, y1, y2, y3, y4, y5, y6, y7, w =>
    if (4 : Int32) ≤ y7 then
      f_q_store_134 y0 y1 y2 y3 y4 y5 w
    else
      if y6 = 0 then
        f_q_store_134 y0 y1 y2 y3 y4 y5 w
      else
        bd2 (f_q_isOf y0 (Int32.toInt64 y7) y2 w) fun x27 w26 =>
        if x27 = 0 then
          f_q_store_128 (f_q_store_92 n) y0 y1 y2 y3 y4 y5 y6 y7 w26
        else
          f_q_store_128 (f_q_store_92 n) y0 y1 y2 y3 y7 (y5 + (1 : Int32)) y6 y7 w26
def f_q_store_87  (y0 : Nat) (y1 : Int32) (y2 : Int32) (y3 : Int32) (y4 : Int32) (y5 : Int32) (z0 : Int32) (w : WW) : Option WW :=
  f_q_store_92 KK y0 y1 y2 y3 y4 y5 z0 (0 : Int32) w
def f_q_store_86  (y0 : Nat) (y1 : Int32) (y2 : Int32) (y3 : Int32) (y4 : Int32) (y5 : Int32) (w : WW) : Option WW :=
  f_q_store_87 y0 y1 y2 y3 y4 y5 (0 : Int32) w
def f_q_store_57  (y0 : Nat) (y1 : Int32) (y2 : Int32) (y3 : Int32) (y4 : Int32) (y5 : Int32) (y6 : Int32) (w : WW) : Option WW :=
  if y6 = 0 then
    f_q_store_86 y0 y1 y2 y3 y4 y5 w
  else
    (gN w y0 9 14).bind fun x29 =>
    (rI w x29 0 y1).bind fun x30 =>
    (gN w y0 9 15).bind fun x31 =>
    (rI w x31 0 y1).bind fun x32 =>
    bd2 (f_q_look y0 x30 x32 y3 w) fun x34 w33 =>
    if x34 = 0 then
      f_q_store_86 y0 y1 y2 y3 y4 y5 w33
    else
      f_q_store_87 y0 y1 y2 y3 y4 y5 (1 : Int32) w33
def f_q_store (a0 : Nat) (a1 : Int32) (w : WW) : Option WW :=
  if kb w a0 9 = true then
    (gN w a0 9 12).bind fun x1 =>
    (rI w x1 0 a1).bind fun x2 =>
    (gN w a0 9 13).bind fun x3 =>
    (rI w x3 0 a1).bind fun x4 =>
    bd2 (f_q_look a0 x2 x4 (226 : Int32) w) fun x6 w5 =>
    if x6 = 0 then
      f_q_store_57 a0 a1 (226 : Int32) (290 : Int32) (-1 : Int32) (0 : Int32) x6 w5
    else
      bd2 (f_q_isBeyond a0 (226 : Int32) w5) fun x37 w36 =>
      if x37 = 0 then
        f_q_store_57 a0 a1 (226 : Int32) (290 : Int32) (-1 : Int32) (0 : Int32) x6 w36
      else
        (gN w36 a0 9 11).bind fun x39 =>
        (rI w36 x39 0 a1).bind fun x40 =>
        (f_q_warn a0 (2 : Int32) x40 w36).bind fun w41 =>
        f_q_store_57 a0 a1 (226 : Int32) (290 : Int32) (-1 : Int32) (0 : Int32) x6 w41
  else none
def f_q_pass_184   (w : WW) : Option WW :=
  some w
def f_q_pass_172  (y0 : Nat) (y1 : Int32) (w : WW) : Option WW :=
  (f_q_copyState y0 (0 : Int32) (1 : Int32) w).bind fun w18 =>
  (f_q_assume y0 y1 (1 : Int32) w18).bind fun w19 =>
  f_q_pass_184 w19
def f_q_pass_88  (y0 : Nat) (y1 : Int32) (y2 : Int32) (z0 : Nat) (z1 : Int32) (z2 : Int32) (w : WW) : Option WW :=
  (sI w z0 2 z1 (vp_nar .boolean z2)).bind fun w32 =>
  if y2 = 0 then
    some w32
  else
    (gN w32 y0 9 10).bind fun x34 =>
    (rI w32 x34 0 y1).bind fun x35 =>
    (f_q_copy y0 x35 (226 : Int32) w32).bind fun w36 =>
    (gN w36 y0 9 58).bind fun x37 =>
    (gN w36 y0 9 10).bind fun x38 =>
    (rI w36 x38 0 y1).bind fun x39 =>
    (sI w36 x37 2 x39 (vp_nar .boolean (0 : Int32))).bind fun w40 =>
    f_q_pass_184 w40
def f_q_pass (a0 : Nat) (a1 : Int32) (w : WW) : Option WW :=
  if kb w a0 9 = true then
    (gN w a0 9 59).bind fun x1 =>
    (rI w x1 2 (0 : Int32)).bind fun x2 =>
    if x2 = 0 then
      (gN w a0 9 9).bind fun x4 =>
      (rI w x4 0 a1).bind fun x5 =>
      if x5 = (1 : Int32) then
        (gN w a0 9 10).bind fun x41 =>
        (rI w x41 0 a1).bind fun x42 =>
        (f_q_all a0 x42 w).bind fun w43 =>
        (gN w43 a0 9 58).bind fun x44 =>
        (gN w43 a0 9 10).bind fun x45 =>
        (rI w43 x45 0 a1).bind fun x46 =>
        (sI w43 x44 2 x46 (vp_nar .boolean (0 : Int32))).bind fun w47 =>
        f_q_pass_184 w47
      else
        (gN w a0 9 9).bind fun x7 =>
        (rI w x7 0 a1).bind fun x8 =>
        if x8 = 0 then
          (gN w a0 9 12).bind fun x24 =>
          (rI w x24 0 a1).bind fun x25 =>
          (gN w a0 9 13).bind fun x26 =>
          (rI w x26 0 a1).bind fun x27 =>
          bd2 (f_q_look a0 x25 x27 (226 : Int32) w) fun x29 w28 =>
          (gN w28 a0 9 59).bind fun x30 =>
          if x29 = 0 then
            f_q_pass_88 a0 a1 x29 x30 (0 : Int32) (1 : Int32) w28
          else
            f_q_pass_88 a0 a1 x29 x30 (0 : Int32) (0 : Int32) w28
        else
          (gN w a0 9 9).bind fun x10 =>
          (rI w x10 0 a1).bind fun x11 =>
          if x11 = (2 : Int32) then
            (f_q_store a0 a1 w).bind fun w23 =>
            f_q_pass_184 w23
          else
            (f_q_copyState a0 (1 : Int32) (0 : Int32) w).bind fun w13 =>
            (f_q_assume a0 a1 (0 : Int32) w13).bind fun w14 =>
            (gN w14 a0 9 59).bind fun x15 =>
            (rI w14 x15 2 (0 : Int32)).bind fun x16 =>
            if x16 = 0 then
              (gN w14 a0 9 11).bind fun x20 =>
              (rI w14 x20 0 a1).bind fun x21 =>
              (f_q_warn a0 (5 : Int32) x21 w14).bind fun w22 =>
              f_q_pass_172 a0 a1 w22
            else
              f_q_pass_172 a0 a1 w14
    else
      some w
  else none
def f_q_below_93  (z0 : Int64) (w : WW) : Option (Int64 × WW) :=
  some (z0, w)
def f_q_below (a0 : Int64) (w : WW) : Option (Int64 × WW) :=
  if a0 < (100 : Int64) then
    if a0 < (10 : Int64) then
      if a0 < (1 : Int64) then
        if a0 < (0 : Int64) then
          if a0 < (-1 : Int64) then
            if a0 < (-10 : Int64) then
              if a0 < (-100 : Int64) then
                f_q_below_93 (-2147483648 : Int64) w
              else
                f_q_below_93 (-100 : Int64) w
            else
              f_q_below_93 (-10 : Int64) w
          else
            f_q_below_93 (-1 : Int64) w
        else
          f_q_below_93 (0 : Int64) w
      else
        f_q_below_93 (1 : Int64) w
    else
      f_q_below_93 (10 : Int64) w
  else
    f_q_below_93 (100 : Int64) w
def f_q_above_93  (z0 : Int64) (w : WW) : Option (Int64 × WW) :=
  some (z0, w)
def f_q_above (a0 : Int64) (w : WW) : Option (Int64 × WW) :=
  if (-100 : Int64) < a0 then
    if (-10 : Int64) < a0 then
      if (-1 : Int64) < a0 then
        if (0 : Int64) < a0 then
          if (1 : Int64) < a0 then
            if (10 : Int64) < a0 then
              if (100 : Int64) < a0 then
                f_q_above_93 (2147483647 : Int64) w
              else
                f_q_above_93 (100 : Int64) w
            else
              f_q_above_93 (10 : Int64) w
          else
            f_q_above_93 (1 : Int64) w
        else
          f_q_above_93 (0 : Int64) w
      else
        f_q_above_93 (-1 : Int64) w
    else
      f_q_above_93 (-10 : Int64) w
  else
    f_q_above_93 (-100 : Int64) w
def f_q_widen_57   (w : WW) : Option WW :=
  some w
def f_q_widen_120  (y0 : Nat) (y1 : Int32) (z0 : Nat) (z1 : Int32) (z2 : Int64) (z3 : Int64) (w : WW) : Option WW :=
  (gN w y0 9 56).bind fun x23 =>
  (rL w x23 1 y1).bind fun x24 =>
  (gN w y0 9 57).bind fun x25 =>
  (rL w x25 1 y1).bind fun x26 =>
  (f_q_put z0 z1 z2 z3 x24 x26 w).bind fun w27 =>
  some w27
def f_q_widen_90  (y0 : Nat) (y1 : Int32) (y6 : Int64) (z0 : Nat) (z1 : Int32) (z2 : Int64) (w : WW) : Option WW :=
  (gN w y0 9 55).bind fun x18 =>
  (rL w x18 1 y1).bind fun x19 =>
  if x19 ≤ y6 then
    (gN w y0 9 55).bind fun x21 =>
    (rL w x21 1 y1).bind fun x22 =>
    f_q_widen_120 y0 y1 z0 z1 z2 x22 w
  else
    (gN w y0 9 55).bind fun x28 =>
    (rL w x28 1 y1).bind fun x29 =>
    bd2 (f_q_above x29 w) fun x31 w30 =>
    f_q_widen_120 y0 y1 z0 z1 z2 x31 w30
def f_q_widen_32  (y0 : Nat) (y1 : Int32) (y2 : Int32) (y3 : Int32) (y4 : Int64) (y6 : Int64) (z0 : Int32) (w : WW) : Option WW :=
  (f_q_join y0 y1 y2 y3 w).bind fun w8 =>
  if z0 = 0 then
    f_q_widen_57 w8
  else
    (gN w8 y0 9 56).bind fun x10 =>
    (rL w8 x10 1 y1).bind fun x11 =>
    if (0 : Int64) ≤ x11 then
      (gN w8 y0 9 54).bind fun x13 =>
      (rL w8 x13 1 y1).bind fun x14 =>
      if y4 ≤ x14 then
        (gN w8 y0 9 54).bind fun x16 =>
        (rL w8 x16 1 y1).bind fun x17 =>
        f_q_widen_90 y0 y1 y6 y0 y1 x17 w8
      else
        (gN w8 y0 9 54).bind fun x32 =>
        (rL w8 x32 1 y1).bind fun x33 =>
        bd2 (f_q_below x33 w8) fun x35 w34 =>
        f_q_widen_90 y0 y1 y6 y0 y1 x35 w34
    else
      f_q_widen_57 w8
def f_q_widen (a0 : Nat) (a1 : Int32) (a2 : Int32) (a3 : Int32) (w : WW) : Option WW :=
  if kb w a0 9 = true then
    (gN w a0 9 54).bind fun x1 =>
    (rL w x1 1 a2).bind fun x2 =>
    (gN w a0 9 55).bind fun x3 =>
    (rL w x3 1 a2).bind fun x4 =>
    (gN w a0 9 56).bind fun x5 =>
    (rL w x5 1 a2).bind fun x6 =>
    if x6 < (0 : Int64) then
      f_q_widen_32 a0 a1 a2 a3 x2 x4 (0 : Int32) w
    else
      f_q_widen_32 a0 a1 a2 a3 x2 x4 (1 : Int32) w
  else none
def f_q_joinState_34  (z0 : Nat) (z1 : Int32) (z2 : Int32) (w : WW) : Option WW :=
  (f_q_copyState z0 z1 z2 w).bind fun w7 =>
  some w7
def f_q_joinState_18  (y0 : Nat) (y1 : Int32) (y2 : Int32) (y3 : Int32) (w : WW) : Option WW :=
  (gN w y0 9 59).bind fun x4 =>
  (rI w x4 2 y2).bind fun x5 =>
  if x5 = 0 then
    f_q_joinState_34 y0 y1 y2 w
  else
    f_q_joinState_34 y0 y1 y3 w
def f_q_joinState_175 (k_122 : Nat → Int32 → Int32 → Int32 → Int32 → WW → Option WW) (y0 : Nat) (y1 : Int32) (y2 : Int32) (y3 : Int32) (y5 : Int32) (z0 : Nat) (z1 : Int32) (z2 : Int32) (w : WW) : Option WW :=
  (sI w z0 2 z1 (vp_nar .boolean z2)).bind fun w19 =>
  k_122 y0 y1 y2 y3 (y5 + (1 : Int32)) w19
def f_q_joinState_170 (k_122 : Nat → Int32 → Int32 → Int32 → Int32 → WW → Option WW) (y0 : Nat) (y1 : Int32) (y2 : Int32) (y3 : Int32) (y5 : Int32) (z0 : Nat) (z1 : Int32) (w : WW) : Option WW :=
  f_q_joinState_175 k_122 y0 y1 y2 y3 y5 z0 z1 (1 : Int32) w
def f_q_joinState_122  : Nat → Nat → Int32 → Int32 → Int32 → Int32 → WW → Option WW
  | 0, _, _, _, _, _, _ => none
  | n + 1, y0, y1, y2, y3, y5, w =>
    if (6 : Int32) ≤ y5 then
      some w
    else
      (gN w y0 9 58).bind fun x15 =>
      (gN w y0 9 58).bind fun x16 =>
      (rI w x16 2 (((6 : Int32) * y2) + y5)).bind fun x17 =>
      if x17 = 0 then
        (gN w y0 9 58).bind fun x20 =>
        (rI w x20 2 (((6 : Int32) * y3) + y5)).bind fun x21 =>
        if x21 = 0 then
          f_q_joinState_175 (f_q_joinState_122 n) y0 y1 y2 y3 y5 x15 (((6 : Int32) * y1) + y5) (0 : Int32) w
        else
          f_q_joinState_170 (f_q_joinState_122 n) y0 y1 y2 y3 y5 x15 (((6 : Int32) * y1) + y5) w
      else
        f_q_joinState_170 (f_q_joinState_122 n) y0 y1 y2 y3 y5 x15 (((6 : Int32) * y1) + y5) w
def f_q_joinState_113 (k_48 : Nat → Int32 → Int32 → Int32 → Int32 → Int32 → WW → Option WW) (y0 : Nat) (y1 : Int32) (y2 : Int32) (y3 : Int32) (y4 : Int32) (y5 : Int32) (w : WW) : Option WW :=
  k_48 y0 y1 y2 y3 y4 (y5 + (1 : Int32)) w
def f_q_joinState_48  : Nat → Nat → Int32 → Int32 → Int32 → Int32 → Int32 → WW → Option WW
  | 0, _, _, _, _, _, _, _ => none
  | n + 1, y0, y1, y2, y3, y4, y5, w =>
    if (14 : Int32) ≤ y5 then
      f_q_joinState_122 KK y0 y1 y2 y3 (0 : Int32) w
    else
      if y4 = 0 then
        (f_q_join y0 (((14 : Int32) * y1) + y5) (((14 : Int32) * y2) + y5) (((14 : Int32) * y3) + y5) w).bind fun w24 =>
        f_q_joinState_113 (f_q_joinState_48 n) y0 y1 y2 y3 y4 y5 w24
      else
        (f_q_widen y0 (((14 : Int32) * y1) + y5) (((14 : Int32) * y2) + y5) (((14 : Int32) * y3) + y5) w).bind fun w25 =>
        f_q_joinState_113 (f_q_joinState_48 n) y0 y1 y2 y3 y4 y5 w25
def f_q_joinState (a0 : Nat) (a1 : Int32) (a2 : Int32) (a3 : Int32) (a4 : Int32) (w : WW) : Option WW :=
  if kb w a0 9 = true then
    (gN w a0 9 59).bind fun x1 =>
    (rI w x1 2 a2).bind fun x2 =>
    if x2 = 0 then
      (gN w a0 9 59).bind fun x8 =>
      (rI w x8 2 a3).bind fun x9 =>
      if x9 = 0 then
        (gN w a0 9 59).bind fun x11 =>
        (sI w x11 2 a1 (vp_nar .boolean (0 : Int32))).bind fun w12 =>
        f_q_joinState_48 KK a0 a1 a2 a3 a4 (0 : Int32) w12
      else
        f_q_joinState_18 a0 a1 a2 a3 w
    else
      f_q_joinState_18 a0 a1 a2 a3 w
  else none
def f_q_endIf_62  (y0 : Nat) (y1 : Int32) (y2 : Int32) (w : WW) : Option (Int32 × WW) :=
  (f_q_joinState y0 (1 : Int32) (y2 + (2 : Int32)) (0 : Int32) (0 : Int32) w).bind fun w5 =>
  (f_q_copyState y0 (0 : Int32) (1 : Int32) w5).bind fun w6 =>
  (gI w6 y0 9 64).bind fun x7 =>
  (pv w6 y0 9 64 (.int (x7 - (1 : Int32)))).bind fun w8 =>
  (gN w8 y0 9 19).bind fun x9 =>
  (rI w8 x9 0 y1).bind fun x10 =>
  some (x10, w8)
def f_q_endIf (a0 : Nat) (a1 : Int32) (a2 : Int32) (w : WW) : Option (Int32 × WW) :=
  if kb w a0 9 = true then
    (gN w a0 9 62).bind fun x1 =>
    (gI w a0 9 64).bind fun x2 =>
    (rI w x1 0 (x2 - (1 : Int32))).bind fun x3 =>
    if x3 = 0 then
      (f_q_copyState a0 (a2 + (2 : Int32)) (0 : Int32) w).bind fun w11 =>
      (f_q_copyState a0 (0 : Int32) a2 w11).bind fun w12 =>
      (f_q_assume a0 a1 (0 : Int32) w12).bind fun w13 =>
      (gN w13 a0 9 62).bind fun x14 =>
      (gI w13 a0 9 64).bind fun x15 =>
      (sI w13 x14 0 (x15 - (1 : Int32)) (1 : Int32)).bind fun w16 =>
      (gN w16 a0 9 20).bind fun x17 =>
      (rI w16 x17 2 a1).bind fun x18 =>
      if x18 = 0 then
        f_q_endIf_62 a0 a1 a2 w16
      else
        (gN w16 a0 9 18).bind fun x20 =>
        (rI w16 x20 0 a1).bind fun x21 =>
        some (x21, w16)
    else
      f_q_endIf_62 a0 a1 a2 w
  else none
def f_q_same_80  (z0 : Int32) (w : WW) : Option (Int32 × WW) :=
  if z0 = 0 ∨ z0 = 1 then some (z0, w) else none
def f_q_same_79   (w : WW) : Option (Int32 × WW) :=
  f_q_same_80 (0 : Int32) w
def f_q_same_75   (w : WW) : Option (Int32 × WW) :=
  f_q_same_80 (1 : Int32) w
def f_q_same (a0 : Nat) (a1 : Int32) (a2 : Int32) (w : WW) : Option (Int32 × WW) :=
  if kb w a0 9 = true then
    (gN w a0 9 56).bind fun x1 =>
    (rL w x1 1 a1).bind fun x2 =>
    (gN w a0 9 56).bind fun x3 =>
    (rL w x3 1 a2).bind fun x4 =>
    if x2 = x4 then
      (gN w a0 9 56).bind fun x7 =>
      (rL w x7 1 a1).bind fun x8 =>
      if x8 < (0 : Int64) then
        f_q_same_75 w
      else
        (gN w a0 9 54).bind fun x10 =>
        (rL w x10 1 a1).bind fun x11 =>
        (gN w a0 9 54).bind fun x12 =>
        (rL w x12 1 a2).bind fun x13 =>
        if x11 = x13 then
          (gN w a0 9 55).bind fun x15 =>
          (rL w x15 1 a1).bind fun x16 =>
          (gN w a0 9 55).bind fun x17 =>
          (rL w x17 1 a2).bind fun x18 =>
          if x16 = x18 then
            (gN w a0 9 57).bind fun x20 =>
            (rL w x20 1 a1).bind fun x21 =>
            (gN w a0 9 57).bind fun x22 =>
            (rL w x22 1 a2).bind fun x23 =>
            if x21 = x23 then
              f_q_same_75 w
            else
              f_q_same_79 w
          else
            f_q_same_79 w
        else
          f_q_same_79 w
    else
      f_q_same_79 w
  else none
def f_q_sameState_38  (z0 : Int32) (w : WW) : Option (Int32 × WW) :=
  if z0 = 0 ∨ z0 = 1 then some (z0, w) else none
def f_q_sameState_18  (y0 : Nat) (y1 : Int32) (y2 : Int32) (w : WW) : Option (Int32 × WW) :=
  (gN w y0 9 59).bind fun x4 =>
  (rI w x4 2 y1).bind fun x5 =>
  (gN w y0 9 59).bind fun x6 =>
  (rI w x6 2 y2).bind fun x7 =>
  if x5 = x7 then
    f_q_sameState_38 (1 : Int32) w
  else
    f_q_sameState_38 (0 : Int32) w
def f_q_sameState_80  : Nat → Nat → Int32 → Int32 → Int32 → WW → Option (Int32 × WW)
  | 0, _, _, _, _, _ => none
  | n + 1, y0, y1, y2, y3, w =>
    if (6 : Int32) ≤ y3 then
      if (1 : Int32) = 0 ∨ (1 : Int32) = 1 then some ((1 : Int32), w) else none
    else
      (gN w y0 9 58).bind fun x16 =>
      (rI w x16 2 (((6 : Int32) * y1) + y3)).bind fun x17 =>
      (gN w y0 9 58).bind fun x18 =>
      (rI w x18 2 (((6 : Int32) * y2) + y3)).bind fun x19 =>
      if x17 = x19 then
        f_q_sameState_80 n y0 y1 y2 (y3 + (1 : Int32)) w
      else
        if (0 : Int32) = 0 ∨ (0 : Int32) = 1 then some ((0 : Int32), w) else none
def f_q_sameState_41  : Nat → Nat → Int32 → Int32 → Int32 → WW → Option (Int32 × WW)
  | 0, _, _, _, _, _ => none
  | n + 1, y0, y1, y2, y3, w =>
    if (14 : Int32) ≤ y3 then
      f_q_sameState_80 KK y0 y1 y2 (0 : Int32) w
    else
      bd2 (f_q_same y0 (((14 : Int32) * y1) + y3) (((14 : Int32) * y2) + y3) w) fun x23 w22 =>
      if x23 = 0 then
        if (0 : Int32) = 0 ∨ (0 : Int32) = 1 then some ((0 : Int32), w22) else none
      else
        f_q_sameState_41 n y0 y1 y2 (y3 + (1 : Int32)) w22
def f_q_sameState (a0 : Nat) (a1 : Int32) (a2 : Int32) (w : WW) : Option (Int32 × WW) :=
  if kb w a0 9 = true then
    (gN w a0 9 59).bind fun x1 =>
    (rI w x1 2 a1).bind fun x2 =>
    if x2 = 0 then
      (gN w a0 9 59).bind fun x10 =>
      (rI w x10 2 a2).bind fun x11 =>
      if x11 = 0 then
        f_q_sameState_41 KK a0 a1 a2 (0 : Int32) w
      else
        f_q_sameState_18 a0 a1 a2 w
    else
      f_q_sameState_18 a0 a1 a2 w
  else none
def f_q_again (a0 : Nat) (a1 : Int32) (a2 : Int32) (w : WW) : Option (Int32 × WW) :=
  if kb w a0 9 = true then
    (f_q_copyState a0 (0 : Int32) (a2 + (1 : Int32)) w).bind fun w1 =>
    (f_q_assume a0 a1 (1 : Int32) w1).bind fun w2 =>
    (gN w2 a0 9 17).bind fun x3 =>
    (rI w2 x3 0 a1).bind fun x4 =>
    some (x4, w2)
  else none
def f_q_endWhile_250  (y0 : Nat) (y1 : Int32) (y2 : Int32) (w : WW) : Option (Int32 × WW) :=
  bd2 (f_q_again y0 y1 y2 w) fun x20 w19 =>
  some (x20, w19)
def f_q_endWhile_220  (y0 : Nat) (y1 : Int32) (y2 : Int32) (y3 : Int32) (w : WW) : Option (Int32 × WW) :=
  (gN w y0 9 63).bind fun x15 =>
  (rI w x15 0 y3).bind fun x16 =>
  (gI w y0 9 7).bind fun x17 =>
  if x16 = x17 then
    (gN w y0 9 62).bind fun x21 =>
    (sI w x21 0 y3 (4 : Int32)).bind fun w22 =>
    (gI w22 y0 9 65).bind fun x23 =>
    (pv w22 y0 9 65 (.int (x23 - (1 : Int32)))).bind fun w24 =>
    f_q_endWhile_250 y0 y1 y2 w24
  else
    f_q_endWhile_250 y0 y1 y2 w
def f_q_endWhile_160  (y0 : Nat) (y1 : Int32) (y2 : Int32) (y3 : Int32) (w : WW) : Option (Int32 × WW) :=
  (f_q_copyState y0 (y2 + (1 : Int32)) (2 : Int32) w).bind fun w38 =>
  (gN w38 y0 9 63).bind fun x39 =>
  (rI w38 x39 0 y3).bind fun x40 =>
  (sI w38 x39 0 y3 (x40 + (1 : Int32))).bind fun w41 =>
  bd2 (f_q_again y0 y1 y2 w41) fun x43 w42 =>
  some (x43, w42)
def f_q_endWhile_127  : Nat → Nat → Int32 → Int32 → Int32 → Int32 → WW → Option (Int32 × WW)
  | 0, _, _, _, _, _, _ => none
  | n + 1, y0, y1, y2, y3, y5, w =>
    if (14 : Int32) ≤ y5 then
      f_q_endWhile_160 y0 y1 y2 y3 w
    else
      (gN w y0 9 63).bind fun x44 =>
      (rI w x44 0 y3).bind fun x45 =>
      if x45 ≤ (20 : Int32) then
        f_q_endWhile_160 y0 y1 y2 y3 w
      else
        (f_q_all y0 ((28 : Int32) + y5) w).bind fun w47 =>
        f_q_endWhile_127 n y0 y1 y2 y3 (y5 + (1 : Int32)) w47
def f_q_endWhile_124  (y0 : Nat) (y1 : Int32) (y2 : Int32) (y3 : Int32) (w : WW) : Option (Int32 × WW) :=
  f_q_endWhile_127 KK y0 y1 y2 y3 (0 : Int32) w
def f_q_endWhile (a0 : Nat) (a1 : Int32) (a2 : Int32) (w : WW) : Option (Int32 × WW) :=
  if kb w a0 9 = true then
    (gI w a0 9 64).bind fun x1 =>
    (gI w a0 9 66).bind fun x2 =>
    (pv w a0 9 66 (.int (x2 + (1 : Int32)))).bind fun w3 =>
    (gN w3 a0 9 62).bind fun x4 =>
    (rI w3 x4 0 (x1 - (1 : Int32))).bind fun x5 =>
    if x5 = (4 : Int32) then
      (f_q_copyState a0 (0 : Int32) (a2 + (1 : Int32)) w3).bind fun w49 =>
      (f_q_assume a0 a1 (0 : Int32) w49).bind fun w50 =>
      (gI w50 a0 9 64).bind fun x51 =>
      (pv w50 a0 9 64 (.int (x51 - (1 : Int32)))).bind fun w52 =>
      (gN w52 a0 9 19).bind fun x53 =>
      (rI w52 x53 0 a1).bind fun x54 =>
      some (x54, w52)
    else
      (f_q_joinState a0 (1 : Int32) a2 (0 : Int32) (0 : Int32) w3).bind fun w7 =>
      (gN w7 a0 9 62).bind fun x8 =>
      (rI w7 x8 0 (x1 - (1 : Int32))).bind fun x9 =>
      if x9 = (2 : Int32) then
        (f_q_joinState a0 (2 : Int32) (a2 + (1 : Int32)) (1 : Int32) (0 : Int32) w7).bind fun w25 =>
        bd2 (f_q_sameState a0 (2 : Int32) (a2 + (1 : Int32)) w25) fun x27 w26 =>
        if x27 = 0 then
          (gN w26 a0 9 63).bind fun x33 =>
          (rI w26 x33 0 (x1 - (1 : Int32))).bind fun x34 =>
          (gI w26 a0 9 6).bind fun x35 =>
          if x34 ≤ x35 then
            f_q_endWhile_124 a0 a1 a2 (x1 - (1 : Int32)) w26
          else
            (f_q_joinState a0 (2 : Int32) (a2 + (1 : Int32)) (1 : Int32) (1 : Int32) w26).bind fun w48 =>
            f_q_endWhile_124 a0 a1 a2 (x1 - (1 : Int32)) w48
        else
          (gN w26 a0 9 62).bind fun x29 =>
          (sI w26 x29 0 (x1 - (1 : Int32)) (3 : Int32)).bind fun w30 =>
          (gN w30 a0 9 63).bind fun x31 =>
          (sI w30 x31 0 (x1 - (1 : Int32)) (0 : Int32)).bind fun w32 =>
          f_q_endWhile_220 a0 a1 a2 (x1 - (1 : Int32)) w32
      else
        (f_q_copyState a0 (a2 + (1 : Int32)) (1 : Int32) w7).bind fun w11 =>
        (gN w11 a0 9 63).bind fun x12 =>
        (rI w11 x12 0 (x1 - (1 : Int32))).bind fun x13 =>
        (sI w11 x12 0 (x1 - (1 : Int32)) (x13 + (1 : Int32))).bind fun w14 =>
        f_q_endWhile_220 a0 a1 a2 (x1 - (1 : Int32)) w14
  else none
def f_q_warnings_23 (k_4 : Nat → Int32 → Int32 → WW → Option (Int32 × WW)) (y0 : Nat) (y1 : Int32) (y2 : Int32) (w : WW) : Option (Int32 × WW) :=
  k_4 y0 y1 (y2 + (1 : Int32)) w
def f_q_warnings_4  : Nat → Nat → Int32 → Int32 → WW → Option (Int32 × WW)
  | 0, _, _, _, _ => none
  | n + 1, y0, y1, y2, w =>
    if (1200 : Int32) ≤ y2 then
      some (y1, w)
    else
      (gN w y0 9 60).bind fun x2 =>
      (rI w x2 2 y2).bind fun x3 =>
      if x3 = 0 then
        f_q_warnings_23 (f_q_warnings_4 n) y0 y1 y2 w
      else
        f_q_warnings_23 (f_q_warnings_4 n) y0 (y1 + (1 : Int32)) y2 w
def f_q_warnings (a0 : Nat) (w : WW) : Option (Int32 × WW) :=
  if kb w a0 9 = true then
    f_q_warnings_4 KK a0 (0 : Int32) (0 : Int32) w
  else none
def f_q_analyse_252 (k_127 : Nat → Int32 → WW → Option (Int32 × WW)) (y0 : Nat) (z0 : Int32) (w : WW) : Option (Int32 × WW) :=
  k_127 y0 z0 w
def f_q_analyse_171 (k_127 : Nat → Int32 → WW → Option (Int32 × WW)) (y0 : Nat) (y1 : Int32) (w : WW) : Option (Int32 × WW) :=
  if y1 < 0 then
    (gI w y0 9 64).bind fun x20 =>
    (gN w y0 9 9).bind fun x21 =>
    (gN w y0 9 61).bind fun x22 =>
    (gI w y0 9 64).bind fun x23 =>
    (rI w x22 0 (x23 - (1 : Int32))).bind fun x24 =>
    (rI w x21 0 x24).bind fun x25 =>
    if x25 = (3 : Int32) then
      (gN w y0 9 61).bind fun x32 =>
      (gI w y0 9 64).bind fun x33 =>
      (rI w x32 0 (x33 - (1 : Int32))).bind fun x34 =>
      bd2 (f_q_endIf y0 x34 ((3 : Int32) * x20) w) fun x36 w35 =>
      f_q_analyse_252 k_127 y0 x36 w35
    else
      (gN w y0 9 61).bind fun x27 =>
      (gI w y0 9 64).bind fun x28 =>
      (rI w x27 0 (x28 - (1 : Int32))).bind fun x29 =>
      bd2 (f_q_endWhile y0 x29 ((3 : Int32) * x20) w) fun x31 w30 =>
      f_q_analyse_252 k_127 y0 x31 w30
  else
    (f_q_pass y0 y1 w).bind fun w37 =>
    (gN w37 y0 9 19).bind fun x38 =>
    (rI w37 x38 0 y1).bind fun x39 =>
    k_127 y0 x39 w37
def f_q_analyse_162 (k_127 : Nat → Int32 → WW → Option (Int32 × WW)) (y0 : Nat) (y1 : Int32) (w : WW) : Option (Int32 × WW) :=
  bd2 (f_q_enter y0 y1 w) fun x44 w43 =>
  k_127 y0 x44 w43
def f_q_analyse_138 (k_127 : Nat → Int32 → WW → Option (Int32 × WW)) (y0 : Nat) (y1 : Int32) (w : WW) : Option (Int32 × WW) :=
  if y1 < 0 then
    f_q_analyse_171 k_127 y0 y1 w
  else
    (gN w y0 9 9).bind fun x40 =>
    (rI w x40 0 y1).bind fun x41 =>
    if x41 = (3 : Int32) then
      f_q_analyse_162 k_127 y0 y1 w
    else
      (gN w y0 9 9).bind fun x45 =>
      (rI w x45 0 y1).bind fun x46 =>
      if x46 = (4 : Int32) then
        f_q_analyse_162 k_127 y0 y1 w
      else
        f_q_analyse_171 k_127 y0 y1 w
def f_q_analyse_127  : Nat → Nat → Int32 → WW → Option (Int32 × WW)
  | 0, _, _, _ => none
  | n + 1, y0, y1, w =>
    if 0 ≤ y1 then
      f_q_analyse_138 (f_q_analyse_127 n) y0 y1 w
    else
      (gI w y0 9 64).bind fun x48 =>
      if x48 ≤ 0 then
        bd2 (f_q_warnings y0 w) fun x51 w50 =>
        some (x51, w50)
      else
        f_q_analyse_138 (f_q_analyse_127 n) y0 y1 w
def f_q_analyse_96  : Nat → Nat → Int32 → WW → Option (Int32 × WW)
  | 0, _, _, _ => none
  | n + 1, y0, y1, w =>
    if (14 : Int32) ≤ y1 then
      (gN w y0 9 21).bind fun x14 =>
      (gI w y0 9 27).bind fun x15 =>
      (rI w x14 0 x15).bind fun x16 =>
      f_q_analyse_127 KK y0 x16 w
    else
      (f_q_put4 y0 y1 (0 : Int64) (0 : Int64) (0 : Int64) (0 : Int64) w).bind fun w52 =>
      f_q_analyse_96 n y0 (y1 + (1 : Int32)) w52
def f_q_analyse_69  : Nat → Nat → Int32 → WW → Option (Int32 × WW)
  | 0, _, _, _ => none
  | n + 1, y0, y1, w =>
    if (6 : Int32) ≤ y1 then
      f_q_analyse_96 KK y0 (6 : Int32) w
    else
      (f_q_none y0 y1 w).bind fun w53 =>
      (gN w53 y0 9 58).bind fun x54 =>
      (sI w53 x54 2 y1 (vp_nar .boolean (1 : Int32))).bind fun w55 =>
      f_q_analyse_69 n y0 (y1 + (1 : Int32)) w55
def f_q_analyse_40  : Nat → Nat → Int32 → WW → Option (Int32 × WW)
  | 0, _, _, _ => none
  | n + 1, y0, y1, w =>
    if (1200 : Int32) ≤ y1 then
      (gN w y0 9 59).bind fun x10 =>
      (sI w x10 2 (0 : Int32) (vp_nar .boolean (0 : Int32))).bind fun w11 =>
      f_q_analyse_69 KK y0 (0 : Int32) w11
    else
      (gN w y0 9 60).bind fun x56 =>
      (sI w x56 2 y1 (vp_nar .boolean (0 : Int32))).bind fun w57 =>
      f_q_analyse_40 n y0 (y1 + (1 : Int32)) w57
def f_q_analyse (a0 : Nat) (w : WW) : Option (Int32 × WW) :=
  if kb w a0 9 = true then
    (gI w a0 9 8).bind fun x1 =>
    if x1 = 0 then
      bd2 (f_q_fail a0 (1 : Int32) w) fun x59 w58 =>
      some (x59, w58)
    else
      (pv w a0 9 5 (.int (0 : Int32))).bind fun w3 =>
      if (1 : Int32) = 0 ∨ (1 : Int32) = 1 then
        (pv w3 a0 9 67 (.int (1 : Int32))).bind fun w4 =>
        (pv w4 a0 9 64 (.int (0 : Int32))).bind fun w6 =>
        (pv w6 a0 9 65 (.int (0 : Int32))).bind fun w7 =>
        (pv w7 a0 9 66 (.int (0 : Int32))).bind fun w8 =>
        f_q_analyse_40 KK a0 (0 : Int32) w8
      else none
  else none
def f_q_warning_12  (y0 : Nat) (w : WW) : Option (Int32 × WW) :=
  bd2 (f_q_fail y0 (1 : Int32) w) fun x3 w2 =>
  some (x3, w2)
def f_q_warning_80 (k_37 : Nat → Int32 → Int32 → Int32 → Int32 → WW → Option (Int32 × WW)) (y0 : Nat) (y1 : Int32) (y2 : Int32) (y3 : Int32) (y4 : Int32) (w : WW) : Option (Int32 × WW) :=
  k_37 y0 y1 y2 y3 (y4 + (1 : Int32)) w
def f_q_warning_37 (k_27 : Nat → Int32 → Int32 → Int32 → WW → Option (Int32 × WW)) : Nat → Nat → Int32 → Int32 → Int32 → Int32 → WW → Option (Int32 × WW)
  | 0, _, _, _, _, _, _ => none
  | n + 1, y0, y1, y2, y3, y4, w =>
    if (6 : Int32) ≤ y4 then
      k_27 y0 y1 y2 (y3 + (1 : Int32)) w
    else
      (gN w y0 9 60).bind fun x10 =>
      (rI w x10 2 (((200 : Int32) * y4) + y3)).bind fun x11 =>
      if x11 = 0 then
        f_q_warning_80 (f_q_warning_37 k_27 n) y0 y1 y2 y3 y4 w
      else
        if y2 = y1 then
          some ((((1024 : Int32) * y4) + y3), w)
        else
          f_q_warning_80 (f_q_warning_37 k_27 n) y0 y1 (y2 + (1 : Int32)) y3 y4 w
def f_q_warning_27  : Nat → Nat → Int32 → Int32 → Int32 → WW → Option (Int32 × WW)
  | 0, _, _, _, _, _ => none
  | n + 1, y0, y1, y2, y3, w =>
    if (200 : Int32) ≤ y3 then
      some ((0 : Int32), w)
    else
      f_q_warning_37 (f_q_warning_27 n) KK y0 y1 y2 y3 (1 : Int32) w
def f_q_warning (a0 : Nat) (a1 : Int32) (w : WW) : Option (Int32 × WW) :=
  if kb w a0 9 = true then
    if a1 < 0 then
      f_q_warning_12 a0 w
    else
      bd2 (f_q_warnings a0 w) fun x5 w4 =>
      if a1 < x5 then
        (pv w4 a0 9 5 (.int (0 : Int32))).bind fun w7 =>
        f_q_warning_27 KK a0 a1 (0 : Int32) (0 : Int32) w7
      else
        f_q_warning_12 a0 w4
  else none
def f_q_left_II_102  (y0 : Nat) (w : WW) : Option (Int32 × WW) :=
  bd2 (f_q_fail y0 (4 : Int32) w) fun x14 w13 =>
  some (x14, w13)
def f_q_left_II_186  (z0 : Int64) (w : WW) : Option (Int32 × WW) :=
  some ((Int64.toInt32 z0), w)
def f_q_left_II_138  (z0 : Int32) (w : WW) : Option (Int32 × WW) :=
  some (z0, w)
def f_q_left_II_137   (w : WW) : Option (Int32 × WW) :=
  f_q_left_II_138 (0 : Int32) w
def f_q_left_II_108  (y0 : Nat) (y1 : Int32) (y2 : Int32) (y3 : Int32) (w : WW) : Option (Int32 × WW) :=
  (pv w y0 9 5 (.int (0 : Int32))).bind fun w16 =>
  if y2 = (4 : Int32) then
    if (6 : Int32) ≤ y1 then
      f_q_left_II_137 w16
    else
      (gN w16 y0 9 58).bind fun x30 =>
      (rI w16 x30 2 y1).bind fun x31 =>
      if x31 = 0 then
        f_q_left_II_137 w16
      else
        f_q_left_II_138 (1 : Int32) w16
  else
    if y2 = 0 then
      (gN w16 y0 9 54).bind fun x27 =>
      (rL w16 x27 1 y3).bind fun x28 =>
      f_q_left_II_186 x28 w16
    else
      if y2 = (1 : Int32) then
        (gN w16 y0 9 55).bind fun x25 =>
        (rL w16 x25 1 y3).bind fun x26 =>
        f_q_left_II_186 x26 w16
      else
        if y2 = (2 : Int32) then
          (gN w16 y0 9 56).bind fun x23 =>
          (rL w16 x23 1 y3).bind fun x24 =>
          f_q_left_II_186 x24 w16
        else
          (gN w16 y0 9 57).bind fun x21 =>
          (rL w16 x21 1 y3).bind fun x22 =>
          f_q_left_II_186 x22 w16
def f_q_left_II_76  (y0 : Nat) (y1 : Int32) (y2 : Int32) (z0 : Int32) (w : WW) : Option (Int32 × WW) :=
  (gN w y0 9 59).bind fun x10 =>
  (rI w x10 2 (0 : Int32)).bind fun x11 =>
  if x11 = 0 then
    if (4 : Int32) ≤ y2 then
      f_q_left_II_108 y0 y1 y2 z0 w
    else
      (gN w y0 9 56).bind fun x33 =>
      (rL w x33 1 z0).bind fun x34 =>
      if (0 : Int64) ≤ x34 then
        f_q_left_II_108 y0 y1 y2 z0 w
      else
        f_q_left_II_102 y0 w
  else
    f_q_left_II_102 y0 w
def f_q_left_II_50  (y0 : Nat) (y1 : Int32) (y2 : Int32) (w : WW) : Option (Int32 × WW) :=
  (gI w y0 9 67).bind fun x7 =>
  if x7 = 0 then
    bd2 (f_q_fail y0 (3 : Int32) w) fun x37 w36 =>
    some (x37, w36)
  else
    if (6 : Int32) ≤ y1 then
      f_q_left_II_76 y0 y1 y2 (y1 - (4 : Int32)) w
    else
      f_q_left_II_76 y0 y1 y2 y1 w
def f_q_left_II (a0 : Nat) (a1 : Int32) (a2 : Int32) (w : WW) : Option (Int32 × WW) :=
  if kb w a0 9 = true then
    bd2 (f_q_in (Int32.toInt64 a2) (0 : Int64) (4 : Int64) w) fun x2 w1 =>
    if x2 = 0 then
      bd2 (f_q_fail a0 (1 : Int32) w1) fun x44 w43 =>
      some (x44, w43)
    else
      bd2 (f_q_in (Int32.toInt64 a1) (0 : Int64) (5 : Int64) w1) fun x5 w4 =>
      if x5 = 0 then
        bd2 (f_q_in (Int32.toInt64 a1) (10 : Int64) (17 : Int64) w4) fun x39 w38 =>
        if x39 = 0 then
          bd2 (f_q_fail a0 (2 : Int32) w38) fun x42 w41 =>
          some (x42, w41)
        else
          f_q_left_II_50 a0 a1 a2 w38
      else
        f_q_left_II_50 a0 a1 a2 w4
  else none
def f_q_count_94  (z0 : Int32) (w : WW) : Option (Int32 × WW) :=
  some (z0, w)
def f_q_count (a0 : Nat) (a1 : Int32) (w : WW) : Option (Int32 × WW) :=
  if kb w a0 9 = true then
    bd2 (f_q_in (Int32.toInt64 a1) (0 : Int64) (6 : Int64) w) fun x2 w1 =>
    if x2 = 0 then
      bd2 (f_q_fail a0 (1 : Int32) w1) fun x24 w23 =>
      some (x24, w23)
    else
      (pv w1 a0 9 5 (.int (0 : Int32))).bind fun w4 =>
      if a1 = (0 : Int32) then
        (gI w4 a0 9 2).bind fun x6 =>
        some (x6, w4)
      else
        if a1 = (1 : Int32) then
          (gI w4 a0 9 3).bind fun x8 =>
          some (x8, w4)
        else
          if a1 = (2 : Int32) then
            (gI w4 a0 9 8).bind fun x10 =>
            if x10 = 0 then
              f_q_count_94 (0 : Int32) w4
            else
              (gN w4 a0 9 22).bind fun x12 =>
              (gI w4 a0 9 27).bind fun x13 =>
              (rI w4 x12 0 x13).bind fun x14 =>
              f_q_count_94 x14 w4
          else
            if a1 = (3 : Int32) then
              (gI w4 a0 9 66).bind fun x16 =>
              some (x16, w4)
            else
              if a1 = (4 : Int32) then
                bd2 (f_q_warnings a0 w4) fun x19 w18 =>
                some (x19, w18)
              else
                if a1 = (5 : Int32) then
                  (gI w4 a0 9 6).bind fun x21 =>
                  some (x21, w4)
                else
                  (gI w4 a0 9 7).bind fun x22 =>
                  some (x22, w4)
  else none
def f_lw_text (a0 : Nat) (a1 : Int64) (a3 : Nat) (w : WW) : Option (Int32 × WW) :=
  bdh (f_a_text a0 a1 w)
    (fun x1 w2 =>
      (sL w2 a3 1 (0 : Int32) (Int32.toInt64 x1)).bind fun w3 =>
      some ((0 : Int32), w3))
    (fun X w2 =>
      if X = "java/lang/IllegalArgumentException" then
        some ((1 : Int32), w2)
      else
        if X = "java/lang/IllegalStateException" then
          some ((2 : Int32), w2)
        else
          none)
def f_lw_parse (a0 : Nat) (a1 : Nat) (w : WW) : Option (Int32 × WW) :=
  bdh (f_a_parse a0 w)
    (fun x1 w2 =>
      (sL w2 a1 1 (0 : Int32) (Int32.toInt64 x1)).bind fun w3 =>
      some ((0 : Int32), w3))
    (fun X w2 =>
      if X = "java/lang/IllegalArgumentException" then
        some ((1 : Int32), w2)
      else
        none)
def f_lw_choose (a0 : Nat) (a1 : Int32) (a2 : Int32) (a3 : Nat) (w : WW) : Option (Int32 × WW) :=
  bdh (f_a_choose a0 a1 a2 w)
    (fun x1 w2 =>
      (sL w2 a3 1 (0 : Int32) (Int32.toInt64 x1)).bind fun w3 =>
      some ((0 : Int32), w3))
    (fun X w2 =>
      if X = "java/lang/IllegalArgumentException" then
        some ((1 : Int32), w2)
      else
        none)
def f_lw_input (a0 : Nat) (a1 : Int32) (a2 : Nat) (w : WW) : Option (Int32 × WW) :=
  bdh (f_a_input a0 a1 w)
    (fun x1 w2 =>
      (sL w2 a2 1 (0 : Int32) (Int32.toInt64 x1)).bind fun w3 =>
      some ((0 : Int32), w3))
    (fun X w2 =>
      if X = "java/lang/IllegalStateException" then
        some ((1 : Int32), w2)
      else
        none)
def f_lw_run (a0 : Nat) (a1 : Int32) (a2 : Nat) (w : WW) : Option (Int32 × WW) :=
  bdh (f_a_run a0 a1 w)
    (fun x1 w2 =>
      (sL w2 a2 1 (0 : Int32) (Int32.toInt64 x1)).bind fun w3 =>
      some ((0 : Int32), w3))
    (fun X w2 =>
      if X = "java/lang/IllegalArgumentException" then
        some ((1 : Int32), w2)
      else
        if X = "java/lang/IllegalStateException" then
          some ((2 : Int32), w2)
        else
          if X = "java/lang/IndexOutOfBoundsException" then
            some ((3 : Int32), w2)
          else
            if X = "java/lang/ArithmeticException" then
              some ((4 : Int32), w2)
            else
              if X = "java/lang/UnsupportedOperationException" then
                some ((5 : Int32), w2)
              else
                none)
def f_lw_ran (a0 : Nat) (a1 : Int32) (a2 : Nat) (w : WW) : Option (Int32 × WW) :=
  bdh (f_a_ran a0 a1 w)
    (fun x1 w2 =>
      (sL w2 a2 1 (0 : Int32) (Int32.toInt64 x1)).bind fun w3 =>
      some ((0 : Int32), w3))
    (fun X w2 =>
      if X = "java/lang/IllegalArgumentException" then
        some ((1 : Int32), w2)
      else
        none)
def f_lw_analyse (a0 : Nat) (a1 : Nat) (w : WW) : Option (Int32 × WW) :=
  bdh (f_a_analyse a0 w)
    (fun x1 w2 =>
      (sL w2 a1 1 (0 : Int32) (Int32.toInt64 x1)).bind fun w3 =>
      some ((0 : Int32), w3))
    (fun X w2 =>
      if X = "java/lang/IllegalStateException" then
        some ((1 : Int32), w2)
      else
        none)
def f_lw_warning (a0 : Nat) (a1 : Int32) (a2 : Nat) (w : WW) : Option (Int32 × WW) :=
  bdh (f_a_warning a0 a1 w)
    (fun x1 w2 =>
      (sL w2 a2 1 (0 : Int32) (Int32.toInt64 x1)).bind fun w3 =>
      some ((0 : Int32), w3))
    (fun X w2 =>
      if X = "java/lang/IndexOutOfBoundsException" then
        some ((1 : Int32), w2)
      else
        none)
def f_lw_left (a0 : Nat) (a1 : Int32) (a2 : Int32) (a3 : Nat) (w : WW) : Option (Int32 × WW) :=
  bdh (f_a_left a0 a1 a2 w)
    (fun x1 w2 =>
      (sL w2 a3 1 (0 : Int32) (Int32.toInt64 x1)).bind fun w3 =>
      some ((0 : Int32), w3))
    (fun X w2 =>
      if X = "java/lang/IllegalArgumentException" then
        some ((1 : Int32), w2)
      else
        if X = "java/lang/IndexOutOfBoundsException" then
          some ((2 : Int32), w2)
        else
          if X = "java/lang/IllegalStateException" then
            some ((3 : Int32), w2)
          else
            if X = "java/lang/UnsupportedOperationException" then
              some ((4 : Int32), w2)
            else
              none)
def f_lw_count (a0 : Nat) (a1 : Int32) (a2 : Nat) (w : WW) : Option (Int32 × WW) :=
  bdh (f_a_count a0 a1 w)
    (fun x1 w2 =>
      (sL w2 a2 1 (0 : Int32) (Int32.toInt64 x1)).bind fun w3 =>
      some ((0 : Int32), w3))
    (fun X w2 =>
      if X = "java/lang/IllegalArgumentException" then
        some ((1 : Int32), w2)
      else
        none)
def f_lw_loop (L : Nat) (xs : Nat → Int32) : Nat → Nat → Nat → Nat → Int32 → WW → Option (Int32 × WW)
  | 0, _, _, _, _, _ => none
  | n + 1, y1, y2, y3, y4, w =>
    if ((Int32.ofNat L) - (3 : Int32)) < y4 then
      some ((1 : Int32), w)
    else
      (sc L xs y4).bind fun x2 =>
      if (x2 &&& (15 : Int32)) = (0 : Int32) then
        (sc L xs (y4 + (1 : Int32))).bind fun x4 =>
        (sc L xs (y4 + (2 : Int32))).bind fun x5 =>
        bd2 (f_lw_text y1 (((Int32.toInt64 x4) <<< (Int32.toInt64 (32 : Int32) &&& 63)) ||| ((Int32.toInt64 x5) &&& (4294967295 : Int64))) y3 w) fun x6 w7 =>
        (sc L xs (y4 + (1 : Int32))).bind fun x8 =>
        (sc L xs (y4 + (2 : Int32))).bind fun x9 =>
        bd2 (f_q_text y2 (((Int32.toInt64 x8) <<< (Int32.toInt64 (32 : Int32) &&& 63)) ||| ((Int32.toInt64 x9) &&& (4294967295 : Int64))) w7) fun x10 w11 =>
        f_lw_loop L xs n y1 y2 y3 (y4 + (3 : Int32)) w11
      else
        if (x2 &&& (15 : Int32)) = (1 : Int32) then
          bd2 (f_a_clear y1 w) fun x13 w14 =>
          bd2 (f_q_clear y2 w14) fun x15 w16 =>
          f_lw_loop L xs n y1 y2 y3 (y4 + (3 : Int32)) w16
        else
          if (x2 &&& (15 : Int32)) = (2 : Int32) then
            bd2 (f_lw_parse y1 y3 w) fun x18 w19 =>
            bd2 (f_q_parse y2 w19) fun x20 w21 =>
            f_lw_loop L xs n y1 y2 y3 (y4 + (3 : Int32)) w21
          else
            if (x2 &&& (15 : Int32)) = (3 : Int32) then
              bd2 (f_a_where y1 w) fun x23 w24 =>
              bd2 (f_q_where y2 w24) fun x25 w26 =>
              f_lw_loop L xs n y1 y2 y3 (y4 + (3 : Int32)) w26
            else
              if (x2 &&& (15 : Int32)) = (4 : Int32) then
                (sc L xs (y4 + (1 : Int32))).bind fun x28 =>
                (sc L xs (y4 + (2 : Int32))).bind fun x29 =>
                bd2 (f_lw_choose y1 x28 x29 y3 w) fun x30 w31 =>
                (sc L xs (y4 + (1 : Int32))).bind fun x32 =>
                (sc L xs (y4 + (2 : Int32))).bind fun x33 =>
                bd2 (f_q_choose y2 x32 x33 w31) fun x34 w35 =>
                f_lw_loop L xs n y1 y2 y3 (y4 + (3 : Int32)) w35
              else
                if (x2 &&& (15 : Int32)) = (5 : Int32) then
                  (sc L xs (y4 + (1 : Int32))).bind fun x37 =>
                  bd2 (f_lw_input y1 x37 y3 w) fun x38 w39 =>
                  (sc L xs (y4 + (1 : Int32))).bind fun x40 =>
                  bd2 (f_q_input y2 x40 w39) fun x41 w42 =>
                  f_lw_loop L xs n y1 y2 y3 (y4 + (3 : Int32)) w42
                else
                  if (x2 &&& (15 : Int32)) = (6 : Int32) then
                    bd2 (f_a_forget y1 w) fun x44 w45 =>
                    bd2 (f_q_forget y2 w45) fun x46 w47 =>
                    f_lw_loop L xs n y1 y2 y3 (y4 + (3 : Int32)) w47
                  else
                    if (x2 &&& (15 : Int32)) = (7 : Int32) then
                      (sc L xs (y4 + (1 : Int32))).bind fun x49 =>
                      bd2 (f_lw_run y1 x49 y3 w) fun x50 w51 =>
                      (sc L xs (y4 + (1 : Int32))).bind fun x52 =>
                      bd2 (f_q_run y2 x52 w51) fun x53 w54 =>
                      f_lw_loop L xs n y1 y2 y3 (y4 + (3 : Int32)) w54
                    else
                      if (x2 &&& (15 : Int32)) = (8 : Int32) then
                        (sc L xs (y4 + (1 : Int32))).bind fun x56 =>
                        bd2 (f_lw_ran y1 x56 y3 w) fun x57 w58 =>
                        (sc L xs (y4 + (1 : Int32))).bind fun x59 =>
                        bd2 (f_q_ran y2 x59 w58) fun x60 w61 =>
                        bd2 (f_q_thrown y2 w61) fun x62 w63 =>
                        if x62 = x57 then
                          if x57 = 0 then
                            (rL w63 y3 1 (0 : Int32)).bind fun x66 =>
                            if x66 = (Int32.toInt64 x60) then
                              f_lw_loop L xs n y1 y2 y3 (y4 + (3 : Int32)) w63
                            else
                              some ((0 : Int32), w63)
                          else
                            f_lw_loop L xs n y1 y2 y3 (y4 + (3 : Int32)) w63
                        else
                          some ((0 : Int32), w63)
                      else
                        if (x2 &&& (15 : Int32)) = (9 : Int32) then
                          bd2 (f_lw_analyse y1 y3 w) fun x69 w70 =>
                          bd2 (f_q_analyse y2 w70) fun x71 w72 =>
                          f_lw_loop L xs n y1 y2 y3 (y4 + (3 : Int32)) w72
                        else
                          if (x2 &&& (15 : Int32)) = (10 : Int32) then
                            (sc L xs (y4 + (1 : Int32))).bind fun x74 =>
                            bd2 (f_lw_warning y1 x74 y3 w) fun x75 w76 =>
                            (sc L xs (y4 + (1 : Int32))).bind fun x77 =>
                            bd2 (f_q_warning y2 x77 w76) fun x78 w79 =>
                            f_lw_loop L xs n y1 y2 y3 (y4 + (3 : Int32)) w79
                          else
                            if (x2 &&& (15 : Int32)) = (11 : Int32) then
                              (sc L xs (y4 + (1 : Int32))).bind fun x81 =>
                              (sc L xs (y4 + (2 : Int32))).bind fun x82 =>
                              bd2 (f_lw_left y1 x81 x82 y3 w) fun x83 w84 =>
                              (sc L xs (y4 + (1 : Int32))).bind fun x85 =>
                              (sc L xs (y4 + (2 : Int32))).bind fun x86 =>
                              bd2 (f_q_left_II y2 x85 x86 w84) fun x87 w88 =>
                              f_lw_loop L xs n y1 y2 y3 (y4 + (3 : Int32)) w88
                            else
                              if (x2 &&& (15 : Int32)) = (12 : Int32) then
                                (sc L xs (y4 + (1 : Int32))).bind fun x90 =>
                                bd2 (f_lw_count y1 x90 y3 w) fun x91 w92 =>
                                (sc L xs (y4 + (1 : Int32))).bind fun x93 =>
                                bd2 (f_q_count y2 x93 w92) fun x94 w95 =>
                                f_lw_loop L xs n y1 y2 y3 (y4 + (3 : Int32)) w95
                              else
                                f_lw_loop L xs n y1 y2 y3 (y4 + (3 : Int32)) w
def f_lw_pre : Option WW :=
  (some (wo_up (fun _ => none) 0 (.inr (0, [.int 0, .int 0, .null, .null, .null, .null, .int 0, .null, .null])))).bind fun w1 =>
  (f_a_init 0 1 373 w1).bind fun w2 =>
  (some (wo_up w2 373 (.inr (9, [.null, .null, .int 0, .int 0, .int 0, .int 0, .int 0, .int 0, .int 0, .null, .null, .null, .null, .null, .null, .null, .null, .null, .null, .null, .null, .null, .null, .null, .null, .null, .null, .int 0, .int 0, .int 0, .int 0, .int 0, .int 0, .int 0, .int 0, .null, .null, .null, .null, .null, .null, .null, .int 0, .int 0, .int 0, .null, .null, .null, .null, .null, .int 0, .int 0, .int 0, .int 0, .null, .null, .null, .null, .null, .null, .null, .null, .null, .null, .int 0, .int 0, .int 0, .int 0])))).bind fun w3 =>
  (f_q_init 373 374 416 w3).bind fun w4 =>
  some (wo_up w4 416 (.inl (1, 1, .inr (.inl (fun _ => 0)))))
def f_lw_law (L : Nat) (xs : Nat → Int32) : Option (Int32 × WW) := f_lw_pre.bind fun w => f_lw_loop L xs 513 0 373 416 0 w
