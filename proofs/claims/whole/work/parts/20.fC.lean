-- X0_enter
def f_X0_enter (N : Nat) (p1 : Int32) (p2 : Int32) (s : o_S) : Option o_S :=
  o_bv (o_push s 5 p1) fun s1 =>
  o_bv (o_push s1 6 p2) fun s3 =>
  o_bv (o_push s3 7 (-1 : Int32)) fun s5 =>
  some s5
-- X0_startAgain
def f_X0_startAgain (N : Nat) (s : o_S) : Option o_S :=
  o_do (o_cut s 5 (0 : Int32)) fun s1 =>
  o_do (o_cut s1 6 (0 : Int32)) fun s2 =>
  o_do (o_cut s2 7 (0 : Int32)) fun s3 =>
  o_do (o_setF s3 13 (0 : Int32)) fun s4 =>
  o_do (o_setF s4 14 (0 : Int32)) fun s5 =>
  o_bv (f_X0_enter N (0 : Int32) (0 : Int32) s5) fun s6 =>
  some s6
-- X0_innermost
def f_X0_innermost (N : Nat) (s : o_S) : Option (Int32 × o_S) :=
  some (((nI (o_R s 5).length) - (1 : Int32)), s)
-- X5_is
def f_X5_is (N : Nat) (p1 : Int32) (p2 : Int32) (s : o_S) : Option (Int32 × o_S) :=
  o_do (o_at s 3 ((p1 * (7 : Int32)) + (0 : Int32))) fun x1 =>
  if x1 = p2 then
    (some ((1 : Int32), s))
  else
    (some ((0 : Int32), s))
-- X5_get
def f_X5_get (N : Nat) (p1 : Int32) (p2 : Int32) (s : o_S) : Option (Int32 × o_S) :=
  o_do (o_at s 3 ((p1 * (7 : Int32)) + p2)) fun x1 =>
  some (x1, s)
-- X5_add
def f_X5_add_b78 (N : Nat) (l3 : Int32) (l4 : Int32) (l5 : Int32) (y0 : Int32) (s : o_S) : Option (Int32 × o_S) :=
  o_bv (o_push s 3 y0) fun s18 =>
  o_bv (o_push s18 3 l3) fun s20 =>
  o_bv (o_push s20 3 l4) fun s22 =>
  o_bv (o_push s22 3 l5) fun s24 =>
  o_bv (o_push s24 3 (nI (o_R s24 4).length)) fun s26 =>
  o_do (o_setF s26 1 ((o_F s26 1) + (1 : Int32))) fun s28 =>
  some (((o_F s28 1) - (1 : Int32)), s28)
def f_X5_add_b41 (N : Nat) (l1 : Int32) (l3 : Int32) (l4 : Int32) (l5 : Int32) (l6 : Int32) (y0 : Int32) (s : o_S) : Option (Int32 × o_S) :=
  o_bv (o_push s 3 y0) fun s8 =>
  if l6 = 0 then
    (o_bi (f_X5_get N l1 (2 : Int32) s8) fun x13 s11 =>
     o_bi (f_X5_is N l1 (0 : Int32) s11) fun x16 s14 =>
     if x16 = 0 then
       (f_X5_add_b78 N l3 l4 l5 (x13 + (0 : Int32)) s14)
     else
       (f_X5_add_b78 N l3 l4 l5 (x13 + (1 : Int32)) s14))
  else
    (f_X5_add_b78 N l3 l4 l5 (0 : Int32) s8)
def f_X5_add_b10 (N : Nat) (l1 : Int32) (l2 : Int32) (l3 : Int32) (l4 : Int32) (l5 : Int32) (y0 : Int32) (s : o_S) : Option (Int32 × o_S) :=
  o_bv (o_push s 3 l2) fun s2 =>
  if y0 = 0 then
    (o_bi (f_X5_get N l1 (1 : Int32) s2) fun x7 s5 =>
     f_X5_add_b41 N l1 l3 l4 l5 y0 (x7 + (1 : Int32)) s5)
  else
    (f_X5_add_b41 N l1 l3 l4 l5 y0 (0 : Int32) s2)
def f_X5_add (N : Nat) (p1 : Int32) (p2 : Int32) (p3 : Int32) (p4 : Int32) (p5 : Int32) (s : o_S) : Option (Int32 × o_S) :=
  if p1 = (-1 : Int32) then
    (f_X5_add_b10 N p1 p2 p3 p4 p5 (1 : Int32) s)
  else
    (f_X5_add_b10 N p1 p2 p3 p4 p5 (0 : Int32) s)
-- X0_addPart
def f_X0_addPart_b83 (N : Nat) (l1 : Int32) (l2 : Int32) (l4 : Int32) (s : o_S) : Option (Int32 × o_S) :=
  o_bi (f_X5_add N l4 l1 (o_F s 10) (o_F s 11) l2 s) fun x11 s9 =>
  some (x11, s9)
def f_X0_addPart (N : Nat) (p1 : Int32) (p2 : Int32) (s : o_S) : Option (Int32 × o_S) :=
  o_bi (f_X0_innermost N  s) fun x3 s1 =>
  o_do (o_at s1 5 x3) fun x4 =>
  o_bi (f_X5_is N x4 (0 : Int32) s1) fun x7 s5 =>
  if x7 = 0 then
    (f_X0_addPart_b83 N p1 p2 x4 s5)
  else
    (o_do (o_at s5 7 x3) fun x12 =>
     if x12 = (-1 : Int32) then
       (o_bi (f_X5_add N x4 (1 : Int32) (o_F s5 10) (o_F s5 11) (0 : Int32) s5) fun x17 s15 =>
        o_do (o_put s15 7 x3 x17) fun s18 =>
        o_do (o_at s18 7 x3) fun x19 =>
        f_X0_addPart_b83 N p1 p2 x19 s18)
     else
       (o_do (o_at s5 7 x3) fun x14 =>
        f_X0_addPart_b83 N p1 p2 x14 s5))
-- X5_set
def f_X5_set (N : Nat) (p1 : Int32) (p2 : Int32) (p3 : Int32) (s : o_S) : Option o_S :=
  o_do (o_put s 3 ((p1 * (7 : Int32)) + p2) p3) fun s1 =>
  some s1
-- X5_spell
def f_X5_spell_L49 (N : Nat) : Nat → Int32 → Int32 → Int32 → Int32 → o_S → Option o_S
  | 0, _, _, _, _, _ => none
  | n + 1, l1, l3, l4, l5, s =>
    if (8 : Int32) ≤ l5 then
      (o_bv (f_X5_set N l1 (5 : Int32) (l4 - l3) s) fun s5 =>
       some s5)
    else
      (o_bv (o_push s 4 (0 : Int32)) fun s7 =>
       f_X5_spell_L49 N n l1 l3 l4 (l5 + 1) s7)
def f_X5_spell_L17 (N : Nat) : Nat → Int32 → Int32 → Int32 → Int32 → o_S → Option o_S
  | 0, _, _, _, _, _ => none
  | n + 1, l1, l3, l4, l5, s =>
    if l4 ≤ l5 then
      (f_X5_spell_L49 N N l1 l3 l4 (l4 - l3) s)
    else
      (o_do (o_at s 0 l5) fun x9 =>
       o_bv (o_push s 4 x9) fun s10 =>
       f_X5_spell_L17 N n l1 l3 l4 (l5 + 1) s10)
def f_X5_spell (N : Nat) (p1 : Int32) (p3 : Int32) (p4 : Int32) (s : o_S) : Option o_S :=
  o_bv (f_X5_set N p1 (6 : Int32) (nI (o_R s 4).length) s) fun s1 =>
  f_X5_spell_L17 N N p1 p3 p4 p3 s1
-- X0_addWord
def f_X0_addWord (N : Nat) (s : o_S) : Option o_S :=
  o_bi (f_X0_addPart N (2 : Int32) (0 : Int32) s) fun x3 s1 =>
  o_bv (f_X5_spell N x3 (o_F s1 9) (o_F s1 2) s1) fun s4 =>
  some s4
-- X1_numberRead
def f_X1_numberRead_L7 (N : Nat) : Nat → Int64 → Int32 → o_S → Option (Int32 × o_S)
  | 0, _, _, _ => none
  | n + 1, l1, l3, s =>
    if (o_F s 2) ≤ l3 then
      (some ((Int64.toInt32 l1), s))
    else
      (o_do (o_at s 0 l3) fun x2 =>
       f_X1_numberRead_L7 N n (((l1 * (10 : Int64)) + (Int32.toInt64 (x2 - (48 : Int32)))) - ((l1 * (10 : Int64)) + (Int32.toInt64 (x2 - (48 : Int32)))) / (1000000000 : Int64) * (1000000000 : Int64)) (l3 + 1) s)
def f_X1_numberRead (N : Nat) (s : o_S) : Option (Int32 × o_S) :=
  f_X1_numberRead_L7 N N (0 : Int64) (o_F s 9) s
-- X0_isDeep
def f_X0_isDeep (N : Nat) (s : o_S) : Option (Int32 × o_S) :=
  o_bi (f_X0_innermost N  s) fun x3 s1 =>
  if x3 < (30 : Int32) then
    (some ((0 : Int32), s1))
  else
    (some ((1 : Int32), s1))
-- X3_add
def f_X3_add (N : Nat) (p1 : Int32) (p2 : Int32) (p3 : Int32) (s : o_S) : Option o_S :=
  o_bv (o_push s 2 p1) fun s1 =>
  o_bv (o_push s1 2 p2) fun s3 =>
  o_bv (o_push s3 2 p3) fun s5 =>
  o_do (o_setF s5 0 ((o_F s5 0) + (1 : Int32))) fun s7 =>
  some s7
-- X0_report
def f_X0_report (N : Nat) (p1 : Int32) (s : o_S) : Option o_S :=
  o_bv (f_X3_add N p1 (o_F s 10) (o_F s 11) s) fun s1 =>
  some s1
-- X0_openGroup
def f_X0_openGroup (N : Nat) (s : o_S) : Option o_S :=
  o_bi (f_X0_isDeep N  s) fun x3 s1 =>
  if x3 = 0 then
    (o_bi (f_X0_addPart N (4 : Int32) (0 : Int32) s1) fun x7 s5 =>
     o_bv (f_X0_enter N x7 (-1 : Int32) s5) fun s8 =>
     some s8)
  else
    (o_bv (f_X0_report N (5 : Int32) s1) fun s10 =>
     some s10)
-- X0_close
def f_X0_close (N : Nat) (p1 : Int32) (s : o_S) : Option o_S :=
  o_do (o_cut s 5 p1) fun s1 =>
  o_do (o_cut s1 6 p1) fun s2 =>
  o_do (o_cut s2 7 p1) fun s3 =>
  some s3
-- X0_placeInGroup
def f_X0_placeInGroup (N : Nat) (s : o_S) : Option o_S :=
  if (o_F s 8) = 2 then
    (o_bv (f_X0_addWord N  s) fun s2 =>
     some s2)
  else
    (if (o_F s 8) = 3 then
       (o_bi (f_X1_numberRead N  s) fun x7 s5 =>
        o_bi (f_X0_addPart N (3 : Int32) x7 s5) fun x10 s8 =>
        some s8)
     else
       (if (o_F s 8) = 40 then
          (o_bv (f_X0_openGroup N  s) fun s12 =>
           some s12)
        else
          (if (o_F s 8) = 41 then
             (o_bi (f_X0_innermost N  s) fun x17 s15 =>
              o_bv (f_X0_close N x17 s15) fun s18 =>
              some s18)
           else
             (o_bv (f_X0_report N (1 : Int32) s) fun s20 =>
              some s20))))
-- X0_beginsBlock
def f_X0_beginsBlock_b39 (N : Nat) (y0 : Int32) (s : o_S) : Option (Int32 × o_S) :=
  if y0 = 0 then
    (some ((0 : Int32), s))
  else
    (o_bi (f_X0_innermost N  s) fun x5 s3 =>
     o_do (o_at s3 6 x5) fun x6 =>
     if (o_F s3 11) ≤ x6 then
       (some ((0 : Int32), s3))
     else
       (some ((1 : Int32), s3)))
def f_X0_beginsBlock (N : Nat) (s : o_S) : Option (Int32 × o_S) :=
  if (o_F s 8) = (2 : Int32) then
    (f_X0_beginsBlock_b39 N (1 : Int32) s)
  else
    (if (o_F s 8) = (3 : Int32) then
       (f_X0_beginsBlock_b39 N (1 : Int32) s)
     else
       (if (o_F s 8) = (40 : Int32) then
          (f_X0_beginsBlock_b39 N (1 : Int32) s)
        else
          (f_X0_beginsBlock_b39 N (0 : Int32) s)))
-- X0_endItem
def f_X0_endItem (N : Nat) (s : o_S) : Option o_S :=
  o_bi (f_X0_innermost N  s) fun x3 s1 =>
  o_do (o_put s1 7 x3 (-1 : Int32)) fun s4 =>
  some s4
-- X0_alignToColumn
def f_X0_alignToColumn_b46 (N : Nat) (l1 : Int32) (l2 : Int32) (s : o_S) : Option o_S :=
  o_bv (f_X0_close N (l2 + (1 : Int32)) s) fun s6 =>
  o_do (o_at s6 6 l2) fun x8 =>
  if x8 = (o_F s6 11) then
    (o_bv (f_X0_endItem N  s6) fun s21 =>
     some s21)
  else
    (if (o_F s6 11) < x8 then
       (o_bv (f_X0_report N (2 : Int32) s6) fun s11 =>
        o_bv (f_X0_endItem N  s11) fun s13 =>
        some s13)
     else
       (if x8 = (-1 : Int32) then
          (some s6)
        else
          (if l1 ≤ l2 then
             (some s6)
           else
             (o_bv (f_X0_report N (2 : Int32) s6) fun s17 =>
              o_bv (f_X0_endItem N  s17) fun s19 =>
              some s19))))
def f_X0_alignToColumn_L18 (N : Nat) : Nat → Int32 → Int32 → o_S → Option o_S
  | 0, _, _, _ => none
  | n + 1, l1, l2, s =>
    if l2 ≤ 0 then
      (f_X0_alignToColumn_b46 N l1 l2 s)
    else
      (o_do (o_at s 6 l2) fun x23 =>
       if x23 ≤ (o_F s 11) then
         (f_X0_alignToColumn_b46 N l1 l2 s)
       else
         (f_X0_alignToColumn_L18 N n l1 (l2 + (-1)) s))
def f_X0_alignToColumn (N : Nat) (s : o_S) : Option o_S :=
  if (o_F s 12) = 0 then
    (some s)
  else
    (o_bi (f_X0_innermost N  s) fun x4 s2 =>
     f_X0_alignToColumn_L18 N N x4 x4 s2)
-- X0_takeColon
def f_X0_takeColon (N : Nat) (s : o_S) : Option o_S :=
  o_bi (f_X0_innermost N  s) fun x3 s1 =>
  o_do (o_at s1 7 x3) fun x4 =>
  if x4 = (-1 : Int32) then
    (o_bv (f_X0_report N (3 : Int32) s1) fun s13 =>
     some s13)
  else
    (o_bi (f_X0_isDeep N  s1) fun x8 s6 =>
     if x8 = 0 then
       (o_do (o_setF s6 14 (1 : Int32)) fun s10 =>
        some s10)
     else
       (o_bv (f_X0_report N (5 : Int32) s6) fun s11 =>
        some s11))
-- X0_closeBraces
def f_X0_closeBraces_b27 (N : Nat) (l1 : Int32) (s : o_S) : Option o_S :=
  if l1 ≤ 0 then
    (o_bv (f_X0_report N (4 : Int32) s) fun s6 =>
     some s6)
  else
    (o_bv (f_X0_close N l1 s) fun s8 =>
     some s8)
def f_X0_closeBraces_L5 (N : Nat) : Nat → Int32 → o_S → Option o_S
  | 0, _, _ => none
  | n + 1, l1, s =>
    if l1 ≤ 0 then
      (f_X0_closeBraces_b27 N l1 s)
    else
      (o_do (o_at s 6 l1) fun x10 =>
       if x10 = (-1 : Int32) then
         (f_X0_closeBraces_b27 N l1 s)
       else
         (f_X0_closeBraces_L5 N n (l1 + (-1)) s))
def f_X0_closeBraces (N : Nat) (s : o_S) : Option o_S :=
  o_bi (f_X0_innermost N  s) fun x3 s1 =>
  f_X0_closeBraces_L5 N N x3 s1
-- X0_placeInBlock
def f_X0_placeInBlock (N : Nat) (s : o_S) : Option o_S :=
  if (o_F s 8) = 2 then
    (o_bv (f_X0_addWord N  s) fun s2 =>
     some s2)
  else
    (if (o_F s 8) = 3 then
       (o_bi (f_X1_numberRead N  s) fun x7 s5 =>
        o_bi (f_X0_addPart N (3 : Int32) x7 s5) fun x10 s8 =>
        some s8)
     else
       (if (o_F s 8) = 40 then
          (o_bv (f_X0_openGroup N  s) fun s12 =>
           some s12)
        else
          (if (o_F s 8) = 58 then
             (o_bv (f_X0_takeColon N  s) fun s15 =>
              some s15)
           else
             (if (o_F s 8) = 59 then
                (o_bv (f_X0_endItem N  s) fun s18 =>
                 some s18)
              else
                (if (o_F s 8) = 123 then
                   (o_bv (f_X0_report N (3 : Int32) s) fun s21 =>
                    some s21)
                 else
                   (if (o_F s 8) = 125 then
                      (o_bv (f_X0_closeBraces N  s) fun s24 =>
                       some s24)
                    else
                      (o_bv (f_X0_report N (4 : Int32) s) fun s26 =>
                       some s26)))))))
-- X0_take
def f_X0_take_b127 (N : Nat) (l1 : Int32) (s : o_S) : Option o_S :=
  if l1 = 0 then
    (o_bv (f_X0_alignToColumn N  s) fun s14 =>
     o_bv (f_X0_placeInBlock N  s14) fun s16 =>
     some s16)
  else
    (o_bi (f_X0_addPart N (0 : Int32) (0 : Int32) s) fun x20 s18 =>
     o_bv (f_X0_alignToColumn N  s18) fun s21 =>
     o_bv (f_X0_placeInBlock N  s21) fun s23 =>
     some s23)
def f_X0_take_b96 (N : Nat) (l1 : Int32) (s : o_S) : Option o_S :=
  if l1 = 0 then
    (f_X0_take_b127 N l1 s)
  else
    (o_bi (f_X0_beginsBlock N  s) fun x27 s25 =>
     if x27 = 0 then
       (f_X0_take_b127 N l1 s25)
     else
       (o_bi (f_X0_addPart N (0 : Int32) (0 : Int32) s25) fun x31 s29 =>
        o_bv (f_X0_enter N x31 (o_F s29 11) s29) fun s32 =>
        o_bv (f_X0_placeInBlock N  s32) fun s34 =>
        some s34))
def f_X0_take_b37 (N : Nat) (l1 : Int32) (s : o_S) : Option o_S :=
  o_bi (f_X0_innermost N  s) fun x5 s3 =>
  o_do (o_at s3 5 x5) fun x6 =>
  o_bi (f_X5_is N x6 (4 : Int32) s3) fun x9 s7 =>
  if x9 = 0 then
    (if l1 = 0 then
       (f_X0_take_b96 N l1 s7)
     else
       (if (o_F s7 8) = (123 : Int32) then
          (o_bi (f_X0_addPart N (0 : Int32) (1 : Int32) s7) fun x39 s37 =>
           o_bv (f_X0_enter N x39 (-1 : Int32) s37) fun s40 =>
           some s40)
        else
          (f_X0_take_b96 N l1 s7)))
  else
    (o_bv (f_X0_placeInGroup N  s7) fun s42 =>
     some s42)
def f_X0_take (N : Nat) (s : o_S) : Option o_S :=
  o_do (o_setF s 14 (0 : Int32)) fun s1 =>
  if (o_F s1 13) = 0 then
    (o_do (o_setF s1 13 (1 : Int32)) fun s44 =>
     o_do (o_put s44 6 (0 : Int32) (o_F s44 11)) fun s45 =>
     f_X0_take_b37 N (o_F s 14) s45)
  else
    (f_X0_take_b37 N (o_F s 14) s1)
-- X0_finish
def f_X0_finish_L19 (N : Nat) : Nat → Int32 → o_S → Option o_S
  | 0, _, _ => none
  | n + 1, l1, s =>
    if l1 ≤ 0 then
      (some s)
    else
      (o_do (o_at s 6 l1) fun x6 =>
       if x6 = (-1 : Int32) then
         (o_bv (f_X0_report N (6 : Int32) s) fun s8 =>
          f_X0_finish_L19 N n (l1 + (-1)) s8)
       else
         (f_X0_finish_L19 N n (l1 + (-1)) s))
def f_X0_finish (N : Nat) (s : o_S) : Option o_S :=
  if (o_F s 14) = 0 then
    (o_bi (f_X0_innermost N  s) fun x4 s2 =>
     f_X0_finish_L19 N N x4 s2)
  else
    (o_bi (f_X0_addPart N (0 : Int32) (0 : Int32) s) fun x12 s10 =>
     o_bi (f_X0_innermost N  s10) fun x15 s13 =>
     f_X0_finish_L19 N N x15 s13)
-- X1_startAgain
def f_X1_startAgain (N : Nat) (s : o_S) : Option o_S :=
  o_do (o_setF s 2 (0 : Int32)) fun s1 =>
  o_do (o_setF s1 3 (0 : Int32)) fun s2 =>
  o_do (o_setF s2 4 (0 : Int32)) fun s3 =>
  o_do (o_setF s3 5 (0 : Int32)) fun s4 =>
  o_do (o_setF s4 6 (0 : Int32)) fun s5 =>
  o_do (o_setF s5 7 (0 : Int32)) fun s6 =>
  some s6
-- X1_beginLine
def f_X1_beginLine (N : Nat) (p1 : Int32) (s : o_S) : Option o_S :=
  o_do (o_setF s 3 ((o_F s 3) + (1 : Int32))) fun s1 =>
  o_do (o_setF s1 4 p1) fun s2 =>
  o_do (o_setF s2 5 (0 : Int32)) fun s3 =>
  if ¬ ((o_F s3 6) = 0 ∨ (o_F s3 6) = 1) then none else
  o_do (o_setF s3 7 (o_F s3 6)) fun s5 =>
  o_do (o_setF s5 6 (0 : Int32)) fun s6 =>
  some s6
-- X6_isLetter
def f_X6_isLetter_b12 (N : Nat) (l0 : Int32) (s : o_S) : Option (Int32 × o_S) :=
  if l0 < (97 : Int32) then
    (some ((0 : Int32), s))
  else
    (if (122 : Int32) < l0 then
       (some ((0 : Int32), s))
     else
       (some ((1 : Int32), s)))
def f_X6_isLetter (N : Nat) (p1 : Int32) (s : o_S) : Option (Int32 × o_S) :=
  if p1 < (65 : Int32) then
    (f_X6_isLetter_b12 N p1 s)
  else
    (if p1 ≤ (90 : Int32) then
       (some ((1 : Int32), s))
     else
       (f_X6_isLetter_b12 N p1 s))
-- X6_isDigit
def f_X6_isDigit (N : Nat) (p1 : Int32) (s : o_S) : Option (Int32 × o_S) :=
  if p1 < (48 : Int32) then
    (some ((0 : Int32), s))
  else
    (if (57 : Int32) < p1 then
       (some ((0 : Int32), s))
     else
       (some ((1 : Int32), s)))
-- X1_startsToken
def f_X1_startsToken (N : Nat) (p1 : Int32) (s : o_S) : Option (Int32 × o_S) :=
  o_bi (f_X6_isLetter N p1 s) fun x3 s1 =>
  if x3 = 0 then
    (o_bi (f_X6_isDigit N p1 s1) fun x7 s5 =>
     if x7 = 0 then
       (if p1 = (123 : Int32) then
          (some ((1 : Int32), s5))
        else
          (if p1 = (125 : Int32) then
             (some ((1 : Int32), s5))
           else
             (if p1 = (40 : Int32) then
                (some ((1 : Int32), s5))
              else
                (if p1 = (41 : Int32) then
                   (some ((1 : Int32), s5))
                 else
                   (if p1 = (58 : Int32) then
                      (some ((1 : Int32), s5))
                    else
                      (if p1 = (59 : Int32) then
                         (some ((1 : Int32), s5))
                       else
                         (some ((0 : Int32), s5))))))))
     else
       (some ((1 : Int32), s5)))
  else
    (some ((1 : Int32), s1))
-- X1_endOfRun
def f_X1_endOfRun_L2 (N : Nat) : Nat → Int32 → Int32 → o_S → Option (Int32 × o_S)
  | 0, _, _, _ => none
  | n + 1, l2, l3, s =>
    if (nI (o_R s 0).length) ≤ l3 then
      (some (l3, s))
    else
      (o_do (o_at s 0 l3) fun x2 =>
       o_bi (f_X6_isDigit N x2 s) fun x5 s3 =>
       if x5 = 0 then
         (if l2 = 0 then
            (some (l3, s3))
          else
            (o_do (o_at s3 0 l3) fun x8 =>
             o_bi (f_X6_isLetter N x8 s3) fun x11 s9 =>
             if x11 = 0 then
               (some (l3, s9))
             else
               (f_X1_endOfRun_L2 N n l2 (l3 + 1) s9)))
       else
         (f_X1_endOfRun_L2 N n l2 (l3 + 1) s3))
def f_X1_endOfRun (N : Nat) (p1 : Int32) (p2 : Int32) (s : o_S) : Option (Int32 × o_S) :=
  f_X1_endOfRun_L2 N N p2 p1 s
-- X1_takeToken
def f_X1_takeToken_b94 (N : Nat) (l1 : Int32) (s : o_S) : Option o_S :=
  if (o_F s 8) = (2 : Int32) then
    (o_bi (f_X1_endOfRun N l1 (1 : Int32) s) fun x26 s24 =>
     o_do (o_setF s24 2 x26) fun s27 =>
     some s27)
  else
    (o_bi (f_X1_endOfRun N l1 (0 : Int32) s) fun x22 s20 =>
     o_do (o_setF s20 2 x22) fun s23 =>
     some s23)
def f_X1_takeToken_b68 (N : Nat) (l1 : Int32) (y0 : Int32) (s : o_S) : Option o_S :=
  o_do (o_setF s 8 y0) fun s16 =>
  o_do (o_setF s16 2 (l1 + (1 : Int32))) fun s17 =>
  if (o_F s17 8) = (2 : Int32) then
    (f_X1_takeToken_b94 N l1 s17)
  else
    (if (o_F s17 8) = (3 : Int32) then
       (f_X1_takeToken_b94 N l1 s17)
     else
       (some s17))
def f_X1_takeToken_b36 (N : Nat) (l1 : Int32) (l2 : Int32) (y0 : Int32) (s : o_S) : Option o_S :=
  if ¬ (y0 = 0 ∨ y0 = 1) then none else
  o_do (o_setF s 12 y0) fun s6 =>
  o_do (o_setF s6 7 (1 : Int32)) fun s7 =>
  o_bi (f_X6_isLetter N l2 s7) fun x10 s8 =>
  if x10 = 0 then
    (o_bi (f_X6_isDigit N l2 s8) fun x14 s12 =>
     if x14 = 0 then
       (f_X1_takeToken_b68 N l1 l2 s12)
     else
       (f_X1_takeToken_b68 N l1 (3 : Int32) s12))
  else
    (f_X1_takeToken_b68 N l1 (2 : Int32) s8)
def f_X1_takeToken (N : Nat) (p1 : Int32) (p2 : Int32) (s : o_S) : Option o_S :=
  o_do (o_setF s 9 p1) fun s1 =>
  o_do (o_setF s1 10 (o_F s1 3)) fun s2 =>
  o_do (o_setF s2 11 (p1 - (o_F s2 4))) fun s3 =>
  if (o_F s3 7) = 0 then
    (f_X1_takeToken_b36 N p1 p2 (1 : Int32) s3)
  else
    (f_X1_takeToken_b36 N p1 p2 (0 : Int32) s3)
-- X1_takeOtherByte
def f_X1_takeOtherByte_b29 (N : Nat) (l1 : Int32) (s : o_S) : Option o_S :=
  o_bv (f_X3_add N (1 : Int32) (o_F s 3) (l1 - (o_F s 4)) s) fun s2 =>
  some s2
def f_X1_takeOtherByte (N : Nat) (p1 : Int32) (p2 : Int32) (s : o_S) : Option o_S :=
  if p2 = (92 : Int32) then
    (o_do (o_at s 0 (p1 + (1 : Int32))) fun x4 =>
     if x4 = (10 : Int32) then
       (o_do (o_setF s 6 (1 : Int32)) fun s6 =>
        some s6)
     else
       (f_X1_takeOtherByte_b29 N p1 s))
  else
    (f_X1_takeOtherByte_b29 N p1 s)
-- X1_readToken
def f_X1_readToken_b77 (N : Nat) (k5 : Int32 → o_S → Option (Int32 × o_S)) (l1 : Int32) (l2 : Int32) (s : o_S) : Option (Int32 × o_S) :=
  if (o_F s 5) = 0 then
    (if l2 = (32 : Int32) then
       (k5 (l1 + 1) s)
     else
       (o_bv (f_X1_takeOtherByte N l1 l2 s) fun s12 =>
        k5 (l1 + 1) s12))
  else
    (k5 (l1 + 1) s)
def f_X1_readToken_L5 (N : Nat) : Nat → Int32 → o_S → Option (Int32 × o_S)
  | 0, _, _ => none
  | n + 1, l1, s =>
    if (nI (o_R s 0).length) ≤ l1 then
      (o_do (o_setF s 2 (nI (o_R s 0).length)) fun s2 =>
       o_do (o_setF s2 8 (-1 : Int32)) fun s3 =>
       o_do (o_setF s3 10 (o_F s3 3)) fun s4 =>
       o_do (o_setF s4 11 ((o_F s4 2) - (o_F s4 4))) fun s5 =>
       some ((0 : Int32), s5))
    else
      (o_do (o_at s 0 l1) fun x6 =>
       if x6 = (10 : Int32) then
         (o_bv (f_X1_beginLine N (l1 + (1 : Int32)) s) fun s21 =>
          f_X1_readToken_L5 N n (l1 + 1) s21)
       else
         (if x6 = (35 : Int32) then
            (o_do (o_setF s 5 (1 : Int32)) fun s20 =>
             f_X1_readToken_L5 N n (l1 + 1) s20)
          else
            (if (o_F s 5) = 0 then
               (o_bi (f_X1_startsToken N x6 s) fun x16 s14 =>
                if x16 = 0 then
                  (f_X1_readToken_b77 N (f_X1_readToken_L5 N n) l1 x6 s14)
                else
                  (o_bv (f_X1_takeToken N l1 x6 s14) fun s18 =>
                   some ((1 : Int32), s18)))
             else
               (f_X1_readToken_b77 N (f_X1_readToken_L5 N n) l1 x6 s))))
def f_X1_readToken (N : Nat) (s : o_S) : Option (Int32 × o_S) :=
  f_X1_readToken_L5 N N (o_F s 2) s
-- X2_size
def f_X2_size (N : Nat) (s : o_S) : Option (Int32 × o_S) :=
  some ((nI (o_R s 8).length), s)
-- X2_get
def f_X2_get (N : Nat) (p1 : Int32) (s : o_S) : Option (Int32 × o_S) :=
  o_do (o_at s 8 p1) fun x1 =>
  some (x1, s)
-- X2_startAgain
def f_X2_startAgain (N : Nat) (s : o_S) : Option o_S :=
  o_do (o_cut s 8 (0 : Int32)) fun s1 =>
  some s1
-- X5_size
def f_X5_size (N : Nat) (s : o_S) : Option (Int32 × o_S) :=
  some ((o_F s 1), s)
-- X5_after
def f_X5_after_L18 (N : Nat) : Nat → Int32 → Int32 → o_S → Option (Int32 × o_S)
  | 0, _, _, _ => none
  | n + 1, l2, l3, s =>
    if (o_F s 1) ≤ l3 then
      (some (l3, s))
    else
      (o_do (o_at s 3 ((l3 * (7 : Int32)) + (1 : Int32))) fun x3 =>
       if x3 ≤ l2 then
         (some (l3, s))
       else
         (f_X5_after_L18 N n l2 (l3 + 1) s))
def f_X5_after (N : Nat) (p1 : Int32) (s : o_S) : Option (Int32 × o_S) :=
  o_do (o_at s 3 ((p1 * (7 : Int32)) + (1 : Int32))) fun x1 =>
  f_X5_after_L18 N N x1 (p1 + (1 : Int32)) s
-- X5_letterOf
def f_X5_letterOf_b26 (N : Nat) (l1 : Int32) (l2 : Int32) (y0 : Int32) (s : o_S) : Option (Int32 × o_S) :=
  if y0 = 0 then
    (some ((-1 : Int32), s))
  else
    (o_do (o_at s 3 ((l1 * (7 : Int32)) + (6 : Int32))) fun x3 =>
     o_do (o_at s 4 (x3 + l2)) fun x4 =>
     some (x4, s))
def f_X5_letterOf (N : Nat) (p1 : Int32) (p2 : Int32) (s : o_S) : Option (Int32 × o_S) :=
  if p2 < 0 then
    (f_X5_letterOf_b26 N p1 p2 (0 : Int32) s)
  else
    (o_do (o_at s 3 ((p1 * (7 : Int32)) + (5 : Int32))) fun x5 =>
     if x5 ≤ p2 then
       (f_X5_letterOf_b26 N p1 p2 (0 : Int32) s)
     else
       (f_X5_letterOf_b26 N p1 p2 (1 : Int32) s))
-- X2_printWord
def f_X2_printWord_L12 (N : Nat) : Nat → Int32 → Int32 → Int32 → o_S → Option o_S
  | 0, _, _, _, _ => none
  | n + 1, l1, l2, l3, s =>
    if l2 ≤ l3 then
      (some s)
    else
      (o_bi (f_X5_letterOf N l1 l3 s) fun x7 s5 =>
       o_bv (o_push s5 8 x7) fun s8 =>
       f_X2_printWord_L12 N n l1 l2 (l3 + 1) s8)
def f_X2_printWord (N : Nat) (p1 : Int32) (s : o_S) : Option o_S :=
  o_bi (f_X5_get N p1 (5 : Int32) s) fun x3 s1 =>
  f_X2_printWord_L12 N N p1 x3 (0 : Int32) s1
-- X2_printNumber
def f_X2_printNumber_b17 (N : Nat) (k3 : Int32 → Int32 → o_S → Option o_S) (l1 : Int32) (l2 : Int32) (s : o_S) : Option o_S :=
  if l2 = 0 then none else
  o_bv (o_push s 8 ((48 : Int32) + ((l1 / l2) - (l1 / l2) / (10 : Int32) * (10 : Int32)))) fun s4 =>
  k3 l1 (l2 / (10 : Int32)) s4
def f_X2_printNumber_L3 (N : Nat) : Nat → Int32 → Int32 → o_S → Option o_S
  | 0, _, _, _ => none
  | n + 1, l1, l2, s =>
    if l2 ≤ 0 then
      (some s)
    else
      (if l2 ≤ l1 then
         (f_X2_printNumber_b17 N (f_X2_printNumber_L3 N n) l1 l2 s)
       else
         (if l2 = (1 : Int32) then
            (f_X2_printNumber_b17 N (f_X2_printNumber_L3 N n) l1 l2 s)
          else
            (f_X2_printNumber_L3 N n l1 (l2 / (10 : Int32)) s)))
def f_X2_printNumber (N : Nat) (p1 : Int32) (s : o_S) : Option o_S :=
  f_X2_printNumber_L3 N N p1 (100000000 : Int32) s
-- gP
def f_X2_printParts_L25 (N : Nat) (rec : Nat → Int32 → Int32 → Int32 → o_S → Option o_S) : Nat → Int32 → Int32 → Int32 → Int32 → Int32 → o_S → Option o_S
  | 0, _, _, _, _, _, _ => none
  | n + 1, l1, l2, l3, l4, l5, s =>
    if l2 ≤ l5 then
      (some s)
    else
      (o_bi (f_X5_get N l5 (1 : Int32) s) fun x8 s6 =>
       if x8 = l4 then
         (if l5 ≤ (l1 + (1 : Int32)) then
            (o_bv (rec 1 l5 l3 0 s6) fun s11 =>
             f_X2_printParts_L25 N rec n l1 l2 l3 l4 (l5 + 1) s11)
          else
            (o_bi (f_X5_is N l5 (0 : Int32) s6) fun x15 s13 =>
             if x15 = 0 then
               (o_bv (o_push s13 8 (32 : Int32)) fun s19 =>
                o_bv (rec 1 l5 l3 0 s19) fun s21 =>
                f_X2_printParts_L25 N rec n l1 l2 l3 l4 (l5 + 1) s21)
             else
               (o_bv (rec 1 l5 l3 0 s13) fun s17 =>
                f_X2_printParts_L25 N rec n l1 l2 l3 l4 (l5 + 1) s17)))
       else
         (f_X2_printParts_L25 N rec n l1 l2 l3 l4 (l5 + 1) s6))
def f_X2_printParts (N : Nat) (rec : Nat → Int32 → Int32 → Int32 → o_S → Option o_S) (p1 : Int32) (p2 : Int32) (p3 : Int32) (s : o_S) : Option o_S :=
  if p3 ≤ (40 : Int32) then
    (o_bi (f_X5_get N p1 (1 : Int32) s) fun x4 s2 =>
     f_X2_printParts_L25 N rec N p1 p2 p3 (x4 + (1 : Int32)) (p1 + (1 : Int32)) s2)
  else
    (some s)
def f_X2_printPart (N : Nat) (rec : Nat → Int32 → Int32 → Int32 → o_S → Option o_S) (p1 : Int32) (p2 : Int32) (s : o_S) : Option o_S :=
  o_bi (f_X5_get N p1 (0 : Int32) s) fun x3 s1 =>
  if x3 = 2 then
    (o_bv (f_X2_printWord N p1 s1) fun s5 =>
     some s5)
  else
    (if x3 = 3 then
       (o_bi (f_X5_get N p1 (5 : Int32) s1) fun x10 s8 =>
        o_bv (f_X2_printNumber N x10 s8) fun s11 =>
        some s11)
     else
       (if x3 = 4 then
          (o_bv (o_push s1 8 (40 : Int32)) fun s14 =>
           o_bi (f_X5_after N p1 s14) fun x18 s16 =>
           o_bv (rec 0 p1 x18 (p2 + (1 : Int32)) s16) fun s19 =>
           o_bv (o_push s19 8 (41 : Int32)) fun s21 =>
           some s21)
        else
          (o_bv (rec 2 p1 (p2 + (1 : Int32)) 0 s1) fun s23 =>
           some s23)))
def f_X2_printBraces_b92 (N : Nat) (rec : Nat → Int32 → Int32 → Int32 → o_S → Option o_S) (k54 : Int32 → Int32 → Int32 → Int32 → Int32 → o_S → Option o_S) (l1 : Int32) (l2 : Int32) (l3 : Int32) (l4 : Int32) (l5 : Int32) (s : o_S) : Option o_S :=
  o_bv (o_push s 8 (32 : Int32)) fun s23 =>
  o_bi (f_X5_after N l5 s23) fun x27 s25 =>
  o_bv (rec 0 l5 x27 l2 s25) fun s28 =>
  k54 l1 l2 l3 l4 (l5 + 1) s28
def f_X2_printBraces_L54 (N : Nat) (rec : Nat → Int32 → Int32 → Int32 → o_S → Option o_S) : Nat → Int32 → Int32 → Int32 → Int32 → Int32 → o_S → Option o_S
  | 0, _, _, _, _, _, _ => none
  | n + 1, l1, l2, l3, l4, l5, s =>
    if l3 ≤ l5 then
      (o_bv (o_push s 8 (32 : Int32)) fun s14 =>
       o_bv (o_push s14 8 (125 : Int32)) fun s16 =>
       some s16)
    else
      (o_bi (f_X5_get N l5 (1 : Int32) s) fun x20 s18 =>
       if x20 = l4 then
         (if l5 ≤ (l1 + (1 : Int32)) then
            (f_X2_printBraces_b92 N rec (f_X2_printBraces_L54 N rec n) l1 l2 l3 l4 l5 s18)
          else
            (o_bv (o_push s18 8 (59 : Int32)) fun s30 =>
             f_X2_printBraces_b92 N rec (f_X2_printBraces_L54 N rec n) l1 l2 l3 l4 l5 s30))
       else
         (f_X2_printBraces_L54 N rec n l1 l2 l3 l4 (l5 + 1) s18))
def f_X2_printBraces (N : Nat) (rec : Nat → Int32 → Int32 → Int32 → o_S → Option o_S) (p1 : Int32) (p2 : Int32) (s : o_S) : Option o_S :=
  o_bv (o_push s 8 (58 : Int32)) fun s1 =>
  o_bv (o_push s1 8 (32 : Int32)) fun s3 =>
  o_bv (o_push s3 8 (123 : Int32)) fun s5 =>
  o_bi (f_X5_after N p1 s5) fun x9 s7 =>
  o_bi (f_X5_get N p1 (1 : Int32) s7) fun x12 s10 =>
  f_X2_printBraces_L54 N rec N p1 p2 x9 (x12 + (1 : Int32)) (p1 + (1 : Int32)) s10
def f_gP (N : Nat) : Nat → Nat → Int32 → Int32 → Int32 → o_S → Option o_S
  | 0, _, _, _, _, _ => none
  | d + 1, sel, a, b, c, s => if sel = 0 then f_X2_printParts N (f_gP N d) a b c s else if sel = 1 then f_X2_printPart N (f_gP N d) a b s else f_X2_printBraces N (f_gP N d) a b s
-- X2_printItems
def f_X2_printItems_L2 (N : Nat) : Nat → Int32 → o_S → Option o_S
  | 0, _, _ => none
  | n + 1, l1, s =>
    o_bi (f_X5_size N  s) fun x3 s1 =>
    if x3 ≤ l1 then
      (some s1)
    else
      (o_bi (f_X5_get N l1 (1 : Int32) s1) fun x7 s5 =>
       if x7 = (1 : Int32) then
         (o_bi (f_X5_after N l1 s5) fun x11 s9 =>
          o_bv (f_gP N 200 0 l1 x11 (0 : Int32) s9) fun s12 =>
          o_bv (o_push s12 8 (10 : Int32)) fun s14 =>
          f_X2_printItems_L2 N n (l1 + 1) s14)
       else
         (f_X2_printItems_L2 N n (l1 + 1) s5))
def f_X2_printItems (N : Nat) (s : o_S) : Option o_S :=
  f_X2_printItems_L2 N N (1 : Int32) s
-- X5_lastChild
def f_X5_lastChild_L20 (N : Nat) : Nat → Int32 → Int32 → Int32 → o_S → Option (Int32 × o_S)
  | 0, _, _, _, _ => none
  | n + 1, l1, l3, l4, s =>
    if l4 ≤ l1 then
      (some ((-1 : Int32), s))
    else
      (o_bi (f_X5_get N l4 (1 : Int32) s) fun x10 s8 =>
       if x10 = l3 then
         (some (l4, s8))
       else
         (f_X5_lastChild_L20 N n l1 l3 (l4 + (-1)) s8))
def f_X5_lastChild (N : Nat) (p1 : Int32) (s : o_S) : Option (Int32 × o_S) :=
  o_bi (f_X5_after N p1 s) fun x3 s1 =>
  o_bi (f_X5_get N p1 (1 : Int32) s1) fun x6 s4 =>
  f_X5_lastChild_L20 N N p1 (x6 + (1 : Int32)) (x3 - (1 : Int32)) s4
-- gQ
def f_X2_printLines_L34 (N : Nat) (rec : Nat → Int32 → Int32 → Int32 → o_S → Option o_S) : Nat → Int32 → Int32 → Int32 → Int32 → o_S → Option o_S
  | 0, _, _, _, _, _ => none
  | n + 1, l2, l3, l4, l5, s =>
    if l3 ≤ l5 then
      (some s)
    else
      (o_bi (f_X5_get N l5 (1 : Int32) s) fun x11 s9 =>
       if x11 = l4 then
         (o_bv (rec 1 l5 l2 0 s9) fun s13 =>
          f_X2_printLines_L34 N rec n l2 l3 l4 (l5 + 1) s13)
       else
         (f_X2_printLines_L34 N rec n l2 l3 l4 (l5 + 1) s9))
def f_X2_printLines (N : Nat) (rec : Nat → Int32 → Int32 → Int32 → o_S → Option o_S) (p1 : Int32) (p2 : Int32) (s : o_S) : Option o_S :=
  if p2 ≤ (40 : Int32) then
    (o_bi (f_X5_after N p1 s) fun x4 s2 =>
     o_bi (f_X5_get N p1 (1 : Int32) s2) fun x7 s5 =>
     f_X2_printLines_L34 N rec N p2 x4 (x7 + (1 : Int32)) (p1 + (1 : Int32)) s5)
  else
    (some s)
def f_X2_printLinesOfItem_b88 (N : Nat) (rec : Nat → Int32 → Int32 → Int32 → o_S → Option o_S) (l2 : Int32) (l3 : Int32) (l4 : Int32) (s : o_S) : Option o_S :=
  o_bv (o_push s 8 (10 : Int32)) fun s15 =>
  if l4 = 0 then
    (some s15)
  else
    (o_bv (rec 0 l3 (l2 + (1 : Int32)) 0 s15) fun s18 =>
     some s18)
def f_X2_printLinesOfItem_b70 (N : Nat) (rec : Nat → Int32 → Int32 → Int32 → o_S → Option o_S) (l2 : Int32) (l3 : Int32) (l4 : Int32) (y0 : Int32) (y1 : Int32) (s : o_S) : Option o_S :=
  o_bv (f_gP N 200 0 y1 y0 l2 s) fun s12 =>
  if l4 = 0 then
    (f_X2_printLinesOfItem_b88 N rec l2 l3 l4 s12)
  else
    (o_bv (o_push s12 8 (58 : Int32)) fun s20 =>
     f_X2_printLinesOfItem_b88 N rec l2 l3 l4 s20)
def f_X2_printLinesOfItem_L2 (N : Nat) (rec : Nat → Int32 → Int32 → Int32 → o_S → Option o_S) : Nat → Int32 → Int32 → Int32 → o_S → Option o_S
  | 0, _, _, _, _ => none
  | n + 1, l1, l2, l3, s =>
    if l2 ≤ l3 then
      (o_bi (f_X5_lastChild N l1 s) fun x4 s2 =>
       o_bi (f_X5_is N x4 (0 : Int32) s2) fun x7 s5 =>
       if x7 = 0 then
         (o_bi (f_X5_after N l1 s5) fun x11 s9 =>
          f_X2_printLinesOfItem_b70 N rec l2 x4 x7 x11 l1 s9)
       else
         (f_X2_printLinesOfItem_b70 N rec l2 x4 x7 x4 l1 s5))
    else
      (o_bv (o_push s 8 (32 : Int32)) fun s22 =>
       o_bv (o_push s22 8 (32 : Int32)) fun s24 =>
       f_X2_printLinesOfItem_L2 N rec n l1 l2 (l3 + 1) s24)
def f_X2_printLinesOfItem (N : Nat) (rec : Nat → Int32 → Int32 → Int32 → o_S → Option o_S) (p1 : Int32) (p2 : Int32) (s : o_S) : Option o_S :=
  f_X2_printLinesOfItem_L2 N rec N p1 p2 (0 : Int32) s
def f_gQ (N : Nat) : Nat → Nat → Int32 → Int32 → Int32 → o_S → Option o_S
  | 0, _, _, _, _, _ => none
  | d + 1, sel, a, b, c, s => if sel = 0 then f_X2_printLines N (f_gQ N d) a b s else f_X2_printLinesOfItem N (f_gQ N d) a b s
-- X3_startAgain
def f_X3_startAgain (N : Nat) (s : o_S) : Option o_S :=
  o_do (o_cut s 2 (0 : Int32)) fun s1 =>
  o_do (o_setF s1 0 (0 : Int32)) fun s2 =>
  some s2
-- X3_size
def f_X3_size (N : Nat) (s : o_S) : Option (Int32 × o_S) :=
  some ((o_F s 0), s)
-- X3_get
def f_X3_get (N : Nat) (p1 : Int32) (p2 : Int32) (s : o_S) : Option (Int32 × o_S) :=
  o_do (o_at s 2 ((p1 * (3 : Int32)) + p2)) fun x1 =>
  some (x1, s)
-- X5_startAgain
def f_X5_startAgain (N : Nat) (s : o_S) : Option o_S :=
  o_do (o_cut s 3 (0 : Int32)) fun s1 =>
  o_do (o_cut s1 4 (0 : Int32)) fun s2 =>
  o_do (o_setF s2 1 (0 : Int32)) fun s3 =>
  o_bi (f_X5_add N (-1 : Int32) (0 : Int32) (0 : Int32) (0 : Int32) (0 : Int32) s3) fun x6 s4 =>
  some s4
-- X5_respell
def f_X5_respell_L11 (N : Nat) : Nat → Int32 → Int32 → Int32 → o_S → Option o_S
  | 0, _, _, _, _ => none
  | n + 1, l1, l3, l4, s =>
    if (nI (o_R s 1).length) ≤ l4 then
      (o_bv (f_X5_set N l1 (5 : Int32) (nI (o_R s 1).length) s) fun s5 =>
       some s5)
    else
      (o_do (o_at s 1 l4) fun x7 =>
       o_do (o_put s 4 (l3 + l4) x7) fun s8 =>
       f_X5_respell_L11 N n l1 l3 (l4 + 1) s8)
def f_X5_respell (N : Nat) (p1 : Int32) (s : o_S) : Option o_S :=
  o_bi (f_X5_get N p1 (6 : Int32) s) fun x3 s1 =>
  f_X5_respell_L11 N N p1 x3 (0 : Int32) s1
-- X5_holder
def f_X5_holder_L11 (N : Nat) : Nat → Int32 → Int32 → o_S → Option (Int32 × o_S)
  | 0, _, _, _ => none
  | n + 1, l2, l3, s =>
    if l3 < 0 then
      (some ((-1 : Int32), s))
    else
      (o_bi (f_X5_get N l3 (1 : Int32) s) fun x7 s5 =>
       if l2 ≤ x7 then
         (f_X5_holder_L11 N n l2 (l3 + (-1)) s5)
       else
         (some (l3, s5)))
def f_X5_holder (N : Nat) (p1 : Int32) (s : o_S) : Option (Int32 × o_S) :=
  o_bi (f_X5_get N p1 (1 : Int32) s) fun x3 s1 =>
  f_X5_holder_L11 N N x3 (p1 - (1 : Int32)) s1
-- X5_countChildren
def f_X5_countChildren_L23 (N : Nat) : Nat → Int32 → Int32 → Int32 → Int32 → o_S → Option (Int32 × o_S)
  | 0, _, _, _, _, _ => none
  | n + 1, l2, l3, l4, l5, s =>
    if l2 ≤ l5 then
      (some (l4, s))
    else
      (o_bi (f_X5_get N l5 (1 : Int32) s) fun x10 s8 =>
       if x10 = l3 then
         (f_X5_countChildren_L23 N n l2 l3 (l4 + 1) (l5 + 1) s8)
       else
         (f_X5_countChildren_L23 N n l2 l3 l4 (l5 + 1) s8))
def f_X5_countChildren (N : Nat) (p1 : Int32) (s : o_S) : Option (Int32 × o_S) :=
  o_bi (f_X5_after N p1 s) fun x3 s1 =>
  o_bi (f_X5_get N p1 (1 : Int32) s1) fun x6 s4 =>
  f_X5_countChildren_L23 N N x3 (x6 + (1 : Int32)) (0 : Int32) (p1 + (1 : Int32)) s4
-- X5_nthChild
def f_X5_nthChild_L24 (N : Nat) : Nat → Int32 → Int32 → Int32 → Int32 → Int32 → o_S → Option (Int32 × o_S)
  | 0, _, _, _, _, _, _ => none
  | n + 1, l2, l3, l4, l5, l6, s =>
    if l3 ≤ l6 then
      (some ((-1 : Int32), s))
    else
      (o_bi (f_X5_get N l6 (1 : Int32) s) fun x10 s8 =>
       if x10 = l4 then
         (if l5 = l2 then
            (some (l6, s8))
          else
            (f_X5_nthChild_L24 N n l2 l3 l4 (l5 + 1) (l6 + 1) s8))
       else
         (f_X5_nthChild_L24 N n l2 l3 l4 l5 (l6 + 1) s8))
def f_X5_nthChild (N : Nat) (p1 : Int32) (p2 : Int32) (s : o_S) : Option (Int32 × o_S) :=
  o_bi (f_X5_after N p1 s) fun x3 s1 =>
  o_bi (f_X5_get N p1 (1 : Int32) s1) fun x6 s4 =>
  f_X5_nthChild_L24 N N p2 x3 (x6 + (1 : Int32)) (0 : Int32) (p1 + (1 : Int32)) s4
-- X5_isSpelled
def f_X5_isSpelled_L17 (N : Nat) : Nat → Int32 → Int32 → o_S → Option (Int32 × o_S)
  | 0, _, _, _ => none
  | n + 1, l1, l3, s =>
    if (nI (o_R s 1).length) ≤ l3 then
      (some ((1 : Int32), s))
    else
      (o_bi (f_X5_letterOf N l1 l3 s) fun x8 s6 =>
       o_do (o_at s6 1 l3) fun x9 =>
       if x8 = x9 then
         (f_X5_isSpelled_L17 N n l1 (l3 + 1) s6)
       else
         (some ((0 : Int32), s6)))
def f_X5_isSpelled (N : Nat) (p1 : Int32) (s : o_S) : Option (Int32 × o_S) :=
  o_bi (f_X5_get N p1 (5 : Int32) s) fun x3 s1 =>
  if x3 = (nI (o_R s1 1).length) then
    (f_X5_isSpelled_L17 N N p1 (0 : Int32) s1)
  else
    (some ((0 : Int32), s1))
-- X5_nthWord
def f_X5_nthWord_L5 (N : Nat) : Nat → Int32 → Int32 → Int32 → o_S → Option (Int32 × o_S)
  | 0, _, _, _, _ => none
  | n + 1, l2, l3, l4, s =>
    if (o_F s 1) ≤ l4 then
      (some ((-1 : Int32), s))
    else
      (o_bi (f_X5_is N l4 (2 : Int32) s) fun x4 s2 =>
       if x4 = 0 then
         (f_X5_nthWord_L5 N n l2 l3 (l4 + 1) s2)
       else
         (o_bi (f_X5_isSpelled N l4 s2) fun x8 s6 =>
          if x8 = 0 then
            (f_X5_nthWord_L5 N n l2 l3 (l4 + 1) s6)
          else
            (if l3 = l2 then
               (some (l4, s6))
             else
               (f_X5_nthWord_L5 N n l2 (l3 + 1) (l4 + 1) s6))))
def f_X5_nthWord (N : Nat) (p2 : Int32) (s : o_S) : Option (Int32 × o_S) :=
  f_X5_nthWord_L5 N N p2 (0 : Int32) (0 : Int32) s
-- X5_areSame
def f_X5_areSame_L22 (N : Nat) : Nat → Int32 → Int32 → Int32 → Int32 → o_S → Option (Int32 × o_S)
  | 0, _, _, _, _, _ => none
  | n + 1, l1, l2, l3, l4, s =>
    if l3 ≤ l4 then
      (some ((1 : Int32), s))
    else
      (o_bi (f_X5_letterOf N l1 l4 s) fun x11 s9 =>
       o_bi (f_X5_letterOf N l2 l4 s9) fun x14 s12 =>
       if x11 = x14 then
         (f_X5_areSame_L22 N n l1 l2 l3 (l4 + 1) s12)
       else
         (some ((0 : Int32), s12)))
def f_X5_areSame (N : Nat) (p1 : Int32) (p2 : Int32) (s : o_S) : Option (Int32 × o_S) :=
  o_bi (f_X5_get N p1 (5 : Int32) s) fun x3 s1 =>
  o_bi (f_X5_get N p2 (5 : Int32) s1) fun x6 s4 =>
  if x3 = x6 then
    (f_X5_areSame_L22 N N p1 p2 x3 (0 : Int32) s4)
  else
    (some ((0 : Int32), s4))
-- X5_isNewWord
def f_X5_isNewWord_L2 (N : Nat) : Nat → Int32 → Int32 → o_S → Option (Int32 × o_S)
  | 0, _, _, _ => none
  | n + 1, l1, l2, s =>
    if l1 ≤ l2 then
      (some ((1 : Int32), s))
    else
      (o_bi (f_X5_is N l2 (2 : Int32) s) fun x4 s2 =>
       if x4 = 0 then
         (f_X5_isNewWord_L2 N n l1 (l2 + 1) s2)
       else
         (o_bi (f_X5_areSame N l2 l1 s2) fun x8 s6 =>
          if x8 = 0 then
            (f_X5_isNewWord_L2 N n l1 (l2 + 1) s6)
          else
            (some ((0 : Int32), s6))))
def f_X5_isNewWord (N : Nat) (p1 : Int32) (s : o_S) : Option (Int32 × o_S) :=
  f_X5_isNewWord_L2 N N p1 (0 : Int32) s
-- X5_countDifferentWords
def f_X5_countDifferentWords_L4 (N : Nat) : Nat → Int32 → Int32 → o_S → Option (Int32 × o_S)
  | 0, _, _, _ => none
  | n + 1, l1, l2, s =>
    if (o_F s 1) ≤ l2 then
      (some (l1, s))
    else
      (o_bi (f_X5_is N l2 (2 : Int32) s) fun x4 s2 =>
       if x4 = 0 then
         (f_X5_countDifferentWords_L4 N n l1 (l2 + 1) s2)
       else
         (o_bi (f_X5_isNewWord N l2 s2) fun x8 s6 =>
          if x8 = 0 then
            (f_X5_countDifferentWords_L4 N n l1 (l2 + 1) s6)
          else
            (f_X5_countDifferentWords_L4 N n (l1 + 1) (l2 + 1) s6)))
def f_X5_countDifferentWords (N : Nat) (s : o_S) : Option (Int32 × o_S) :=
  f_X5_countDifferentWords_L4 N N (0 : Int32) (0 : Int32) s
-- X5_nesting
def f_X5_nesting (N : Nat) (p1 : Int32) (s : o_S) : Option (Int32 × o_S) :=
  o_bi (f_X5_get N p1 (1 : Int32) s) fun x3 s1 =>
  o_bi (f_X5_get N p1 (2 : Int32) s1) fun x6 s4 =>
  some ((x3 - x6), s4)
-- X5_innerNesting
def f_X5_innerNesting_b49 (N : Nat) (k23 : Int32 → Int32 → Int32 → Int32 → o_S → Option (Int32 × o_S)) (l2 : Int32) (l3 : Int32) (l4 : Int32) (l5 : Int32) (s : o_S) : Option (Int32 × o_S) :=
  o_bi (f_X5_nesting N l5 s) fun x14 s12 =>
  k23 l2 l3 (if l4 < (x14 - l3) then (x14 - l3) else l4) (l5 + 1) s12
def f_X5_innerNesting_L23 (N : Nat) : Nat → Int32 → Int32 → Int32 → Int32 → o_S → Option (Int32 × o_S)
  | 0, _, _, _, _, _ => none
  | n + 1, l2, l3, l4, l5, s =>
    if l2 ≤ l5 then
      (some (l4, s))
    else
      (o_bi (f_X5_is N l5 (0 : Int32) s) fun x10 s8 =>
       if x10 = 0 then
         (o_bi (f_X5_is N l5 (4 : Int32) s8) fun x17 s15 =>
          if x17 = 0 then
            (f_X5_innerNesting_L23 N n l2 l3 l4 (l5 + 1) s15)
          else
            (f_X5_innerNesting_b49 N (f_X5_innerNesting_L23 N n) l2 l3 l4 l5 s15))
       else
         (f_X5_innerNesting_b49 N (f_X5_innerNesting_L23 N n) l2 l3 l4 l5 s8))
def f_X5_innerNesting (N : Nat) (p1 : Int32) (s : o_S) : Option (Int32 × o_S) :=
  o_bi (f_X5_after N p1 s) fun x3 s1 =>
  o_bi (f_X5_get N p1 (2 : Int32) s1) fun x6 s4 =>
  f_X5_innerNesting_L23 N N x3 (x6 - (1 : Int32)) (0 : Int32) (p1 + (1 : Int32)) s4
-- X5_erase
def f_X5_erase (N : Nat) (p1 : Int32) (s : o_S) : Option o_S :=
  o_bi (f_X5_after N p1 s) fun x3 s1 =>
  o_bv (o_turn N 3 (p1 * (7 : Int32)) (x3 * (7 : Int32)) ((o_F s1 1) * (7 : Int32)) s1) fun s4 =>
  o_do (o_setF s4 1 ((o_F s4 1) - (x3 - p1))) fun s6 =>
  o_do (o_cut s6 3 ((o_F s6 1) * (7 : Int32))) fun s7 =>
  some s7
-- X5_placeFor
def f_X5_placeFor_L25 (N : Nat) : Nat → Int32 → Int32 → Int32 → Int32 → Int32 → Int32 → o_S → Option (Int32 × o_S)
  | 0, _, _, _, _, _, _, _ => none
  | n + 1, l1, l3, l4, l5, l6, l7, s =>
    if l4 ≤ l7 then
      (if l6 = l3 then
         (some (l4, s))
       else
         (some ((-1 : Int32), s)))
    else
      (if l7 = l1 then
         (f_X5_placeFor_L25 N n l1 l3 l4 l5 l6 (l7 + 1) s)
       else
         (o_bi (f_X5_get N l7 (1 : Int32) s) fun x12 s10 =>
          if x12 = l5 then
            (if l6 = l3 then
               (some (l7, s10))
             else
               (f_X5_placeFor_L25 N n l1 l3 l4 l5 (l6 + 1) (l7 + 1) s10))
          else
            (f_X5_placeFor_L25 N n l1 l3 l4 l5 l6 (l7 + 1) s10)))
def f_X5_placeFor (N : Nat) (p1 : Int32) (p2 : Int32) (p3 : Int32) (s : o_S) : Option (Int32 × o_S) :=
  o_bi (f_X5_after N p2 s) fun x3 s1 =>
  o_bi (f_X5_get N p2 (1 : Int32) s1) fun x6 s4 =>
  f_X5_placeFor_L25 N N p1 p3 x3 (x6 + (1 : Int32)) (0 : Int32) (p2 + (1 : Int32)) s4
-- X5_carry
def f_X5_carry_L44 (N : Nat) : Nat → Int32 → Int32 → Int32 → Int32 → Int32 → Int32 → o_S → Option (Int32 × o_S)
  | 0, _, _, _, _, _, _, _ => none
  | n + 1, l1, l3, l4, l5, l6, l7, s =>
    if l4 ≤ l7 then
      (if l1 < l3 then
         (o_bv (o_turn N 3 (l1 * (7 : Int32)) (l4 * (7 : Int32)) (l3 * (7 : Int32)) s) fun s18 =>
          some ((l3 - (l4 - l1)), s18))
       else
         (o_bv (o_turn N 3 (l3 * (7 : Int32)) (l1 * (7 : Int32)) (l4 * (7 : Int32)) s) fun s20 =>
          some (l3, s20)))
    else
      (o_bi (f_X5_get N l7 (1 : Int32) s) fun x24 s22 =>
       o_bv (f_X5_set N l7 (1 : Int32) (x24 + l5) s22) fun s25 =>
       o_bi (f_X5_get N l7 (2 : Int32) s25) fun x29 s27 =>
       o_bv (f_X5_set N l7 (2 : Int32) (x29 + l6) s27) fun s30 =>
       f_X5_carry_L44 N n l1 l3 l4 l5 l6 (l7 + 1) s30)
def f_X5_carry (N : Nat) (p1 : Int32) (p2 : Int32) (p3 : Int32) (s : o_S) : Option (Int32 × o_S) :=
  o_bi (f_X5_after N p1 s) fun x3 s1 =>
  o_bi (f_X5_get N p2 (1 : Int32) s1) fun x6 s4 =>
  o_bi (f_X5_get N p1 (1 : Int32) s4) fun x9 s7 =>
  o_bi (f_X5_get N p2 (2 : Int32) s7) fun x12 s10 =>
  o_bi (f_X5_get N p1 (2 : Int32) s10) fun x15 s13 =>
  f_X5_carry_L44 N N p1 p3 x3 ((x6 + (1 : Int32)) - x9) ((x12 + (1 : Int32)) - x15) p1 s13
-- X6_unpack
def f_X6_unpack_L11 (N : Nat) : Nat → Int64 → Int32 → o_S → Option o_S
  | 0, _, _, _ => none
  | n + 1, l1, l3, s =>
    if l3 < 0 then
      (some s)
    else
      (if ((Int64.toInt32 ((Int64.toUInt64 l1 >>> ((Int32.toInt64 l3).toUInt64 &&& Int64.toUInt64 63)).toInt64)) &&& (255 : Int32)) = 0 then
         (f_X6_unpack_L11 N n l1 (l3 + (-8)) s)
       else
         (o_bv (o_push s 1 ((Int64.toInt32 ((Int64.toUInt64 l1 >>> ((Int32.toInt64 l3).toUInt64 &&& Int64.toUInt64 63)).toInt64)) &&& (255 : Int32))) fun s4 =>
          f_X6_unpack_L11 N n l1 (l3 + (-8)) s4))
def f_X6_unpack (N : Nat) (p1 : Int64) (s : o_S) : Option o_S :=
  o_do (o_cut s 1 (0 : Int32)) fun s1 =>
  f_X6_unpack_L11 N N p1 (56 : Int32) s1
-- X6_isTextByte
def f_X6_isTextByte (N : Nat) (p1 : Int32) (s : o_S) : Option (Int32 × o_S) :=
  if p1 = (10 : Int32) then
    (some ((1 : Int32), s))
  else
    (if p1 < (32 : Int32) then
       (some ((0 : Int32), s))
     else
       (if (126 : Int32) < p1 then
          (some ((0 : Int32), s))
        else
          (some ((1 : Int32), s))))
-- X6_feed
def f_X6_feed_L81 (N : Nat) : Nat → Int32 → o_S → Option ((Nat ⊕ Int32) × o_S)
  | 0, _, _ => none
  | n + 1, l3, s =>
    if (nI (o_R s 1).length) ≤ l3 then
      (some (.inr (nI (o_R s 0).length), s))
    else
      (o_do (o_at s 1 l3) fun x6 =>
       o_bv (o_push s 0 x6) fun s7 =>
       f_X6_feed_L81 N n (l3 + 1) s7)
def f_X6_feed_L7 (N : Nat) : Nat → Int32 → o_S → Option ((Nat ⊕ Int32) × o_S)
  | 0, _, _ => none
  | n + 1, l3, s =>
    if (nI (o_R s 1).length) ≤ l3 then
      (if ((nI (o_R s 0).length) + (nI (o_R s 1).length)) ≤ (600 : Int32) then
         (f_X6_feed_L81 N N (0 : Int32) s)
       else
         (some (.inl 2, o_addK s 3)))
    else
      (o_do (o_at s 1 l3) fun x9 =>
       o_bi (f_X6_isTextByte N x9 s) fun x12 s10 =>
       if x12 = 0 then
         (some (.inl 1, o_addK s10 3))
       else
         (f_X6_feed_L7 N n (l3 + 1) s10))
def f_X6_feed (N : Nat) (p1 : Int64) (s : o_S) : Option ((Nat ⊕ Int32) × o_S) :=
  o_bv (f_X6_unpack N p1 s) fun s1 =>
  f_X6_feed_L7 N N (0 : Int32) s1
-- X6_trim
def f_X6_trim (N : Nat) (p1 : Int32) (s : o_S) : Option ((Nat ⊕ Int32) × o_S) :=
  if p1 < 0 then
    (some (.inl 1, o_addK s 3))
  else
    (if p1 ≤ (nI (o_R s 0).length) then
       (o_do (o_cut s 0 p1) fun s3 =>
        some (.inr (nI (o_R s 0).length), s3))
     else
       (some (.inl 1, o_addK s 3)))
-- X6_length
def f_X6_length (N : Nat) (s : o_S) : Option (Int32 × o_S) :=
  some ((nI (o_R s 0).length), s)
-- X6_parse
def f_X6_parse_L30 (N : Nat) : Nat → Int32 → o_S → Option (Int32 × o_S)
  | 0, _, _ => none
  | n + 1, l1, s =>
    if (600 : Int32) < l1 then
      (o_bv (f_X0_finish N  s) fun s10 =>
       o_bi (f_X5_size N  s10) fun x14 s12 =>
       some (x14, s12))
    else
      (o_bi (f_X1_readToken N  s) fun x17 s15 =>
       if x17 = 0 then
         (o_bv (f_X0_finish N  s15) fun s19 =>
          o_bi (f_X5_size N  s19) fun x23 s21 =>
          some (x23, s21))
       else
         (o_bv (f_X0_take N  s15) fun s24 =>
          f_X6_parse_L30 N n (l1 + 1) s24))
def f_X6_parse (N : Nat) (s : o_S) : Option (Int32 × o_S) :=
  o_bv (f_X3_startAgain N  s) fun s1 =>
  o_bv (f_X5_startAgain N  s1) fun s3 =>
  o_bv (f_X1_startAgain N  s3) fun s5 =>
  o_bv (f_X0_startAgain N  s5) fun s7 =>
  f_X6_parse_L30 N N (0 : Int32) s7
-- X6_repairCount
def f_X6_repairCount (N : Nat) (s : o_S) : Option (Int32 × o_S) :=
  o_bi (f_X3_size N  s) fun x3 s1 =>
  some (x3, s1)
-- X6_repair
def f_X6_repair (N : Nat) (p1 : Int32) (p2 : Int32) (s : o_S) : Option ((Nat ⊕ Int32) × o_S) :=
  if p1 < 0 then
    (some (.inl 3, o_addK s 3))
  else
    (o_bi (f_X3_size N  s) fun x4 s2 =>
     if x4 ≤ p1 then
       (some (.inl 3, o_addK s2 3))
     else
       (if p2 < 0 then
          (some (.inl 3, o_addK s2 3))
        else
          (if p2 < (3 : Int32) then
             (o_bi (f_X3_get N p1 p2 s2) fun x10 s8 =>
              some (.inr (x10), s8))
           else
             (some (.inl 3, o_addK s2 3)))))
-- X6_nodeCount
def f_X6_nodeCount (N : Nat) (s : o_S) : Option (Int32 × o_S) :=
  o_bi (f_X5_size N  s) fun x3 s1 =>
  some (x3, s1)
-- X6_checkNode
def f_X6_checkNode (N : Nat) (p1 : Int32) (s : o_S) : Option ((Nat ⊕ Unit) × o_S) :=
  if p1 < 0 then
    (some (.inl 3, o_addK s 3))
  else
    (o_bi (f_X5_size N  s) fun x4 s2 =>
     if p1 < x4 then
       (some (.inr (), s2))
     else
       (some (.inl 3, o_addK s2 3)))
-- X6_kind
def f_X6_kind (N : Nat) (p1 : Int32) (s : o_S) : Option ((Nat ⊕ Int32) × o_S) :=
  o_bx (f_X6_checkNode N p1 s) (fun e s => some (.inl e, s)) fun v3 s1 =>
  o_bi (f_X5_get N p1 (0 : Int32) s1) fun x6 s4 =>
  some (.inr (x6), s4)
-- X6_parent
def f_X6_parent (N : Nat) (p1 : Int32) (s : o_S) : Option ((Nat ⊕ Int32) × o_S) :=
  o_bx (f_X6_checkNode N p1 s) (fun e s => some (.inl e, s)) fun v3 s1 =>
  o_bi (f_X5_holder N p1 s1) fun x6 s4 =>
  some (.inr (x6), s4)
-- X6_childCount
def f_X6_childCount (N : Nat) (p1 : Int32) (s : o_S) : Option ((Nat ⊕ Int32) × o_S) :=
  o_bx (f_X6_checkNode N p1 s) (fun e s => some (.inl e, s)) fun v3 s1 =>
  o_bi (f_X5_countChildren N p1 s1) fun x6 s4 =>
  some (.inr (x6), s4)
-- X6_child
def f_X6_child (N : Nat) (p1 : Int32) (p2 : Int32) (s : o_S) : Option ((Nat ⊕ Int32) × o_S) :=
  o_bx (f_X6_checkNode N p1 s) (fun e s => some (.inl e, s)) fun v3 s1 =>
  o_bi (f_X5_nthChild N p1 p2 s1) fun x6 s4 =>
  if x6 = (-1 : Int32) then
    (some (.inl 3, o_addK s4 3))
  else
    (some (.inr (x6), s4))
-- X6_line
def f_X6_line (N : Nat) (p1 : Int32) (s : o_S) : Option ((Nat ⊕ Int32) × o_S) :=
  o_bx (f_X6_checkNode N p1 s) (fun e s => some (.inl e, s)) fun v3 s1 =>
  o_bi (f_X5_get N p1 (3 : Int32) s1) fun x6 s4 =>
  some (.inr (x6), s4)
-- X6_column
def f_X6_column (N : Nat) (p1 : Int32) (s : o_S) : Option ((Nat ⊕ Int32) × o_S) :=
  o_bx (f_X6_checkNode N p1 s) (fun e s => some (.inl e, s)) fun v3 s1 =>
  o_bi (f_X5_get N p1 (4 : Int32) s1) fun x6 s4 =>
  some (.inr (x6), s4)
-- X6_value
def f_X6_value (N : Nat) (p1 : Int32) (s : o_S) : Option ((Nat ⊕ Int32) × o_S) :=
  o_bx (f_X6_checkNode N p1 s) (fun e s => some (.inl e, s)) fun v3 s1 =>
  o_bi (f_X5_get N p1 (5 : Int32) s1) fun x6 s4 =>
  some (.inr (x6), s4)
-- X6_letter
def f_X6_letter (N : Nat) (p1 : Int32) (p2 : Int32) (s : o_S) : Option ((Nat ⊕ Int32) × o_S) :=
  o_bx (f_X6_checkNode N p1 s) (fun e s => some (.inl e, s)) fun v3 s1 =>
  o_bi (f_X5_is N p1 (2 : Int32) s1) fun x6 s4 =>
  if x6 = 0 then
    (some (.inr ((-1 : Int32)), s4))
  else
    (o_bi (f_X5_letterOf N p1 p2 s4) fun x10 s8 =>
     some (.inr (x10), s8))
-- X6_depth
def f_X6_depth (N : Nat) (p1 : Int32) (s : o_S) : Option ((Nat ⊕ Int32) × o_S) :=
  o_bx (f_X6_checkNode N p1 s) (fun e s => some (.inl e, s)) fun v3 s1 =>
  o_bi (f_X5_get N p1 (2 : Int32) s1) fun x6 s4 =>
  some (.inr (x6), s4)
-- X6_find
def f_X6_find (N : Nat) (p1 : Int64) (p2 : Int32) (s : o_S) : Option (Int32 × o_S) :=
  o_bv (f_X6_unpack N p1 s) fun s1 =>
  o_bi (f_X5_nthWord N p2 s1) fun x5 s3 =>
  some (x5, s3)
-- X6_wordCount
def f_X6_wordCount (N : Nat) (s : o_S) : Option (Int32 × o_S) :=
  o_bi (f_X5_countDifferentWords N  s) fun x3 s1 =>
  some (x3, s1)
-- X6_remove
def f_X6_remove (N : Nat) (p1 : Int32) (s : o_S) : Option ((Nat ⊕ Int32) × o_S) :=
  o_bx (f_X6_checkNode N p1 s) (fun e s => some (.inl e, s)) fun v3 s1 =>
  o_bi (f_X5_is N p1 (1 : Int32) s1) fun x6 s4 =>
  if x6 = 0 then
    (some (.inl 1, o_addK s4 3))
  else
    (o_bv (f_X5_erase N p1 s4) fun s8 =>
     o_bi (f_X5_size N  s8) fun x12 s10 =>
     some (.inr (x12), s10))
-- X6_move
def f_X6_move_b71 (N : Nat) (l1 : Int32) (l2 : Int32) (l3 : Int32) (s : o_S) : Option ((Nat ⊕ Int32) × o_S) :=
  o_bi (f_X5_nesting N l2 s) fun x18 s16 =>
  o_bi (f_X5_innerNesting N l1 s16) fun x21 s19 =>
  if (x18 + x21) ≤ (30 : Int32) then
    (o_bi (f_X5_placeFor N l1 l2 l3 s19) fun x25 s23 =>
     if x25 = (-1 : Int32) then
       (some (.inl 1, o_addK s23 3))
     else
       (o_bi (f_X5_carry N l1 l2 x25 s23) fun x29 s27 =>
        some (.inr (x29), s27)))
  else
    (some (.inl 1, o_addK s19 3))
def f_X6_move (N : Nat) (p1 : Int32) (p2 : Int32) (p3 : Int32) (s : o_S) : Option ((Nat ⊕ Int32) × o_S) :=
  o_bx (f_X6_checkNode N p1 s) (fun e s => some (.inl e, s)) fun v3 s1 =>
  o_bx (f_X6_checkNode N p2 s1) (fun e s => some (.inl e, s)) fun v6 s4 =>
  o_bi (f_X5_is N p1 (1 : Int32) s4) fun x9 s7 =>
  if x9 = 0 then
    (some (.inl 1, o_addK s7 3))
  else
    (o_bi (f_X5_is N p2 (0 : Int32) s7) fun x13 s11 =>
     if x13 = 0 then
       (some (.inl 1, o_addK s11 3))
     else
       (if p2 ≤ p1 then
          (f_X6_move_b71 N p1 p2 p3 s11)
        else
          (o_bi (f_X5_after N p1 s11) fun x32 s30 =>
           if x32 ≤ p2 then
             (f_X6_move_b71 N p1 p2 p3 s30)
           else
             (some (.inl 1, o_addK s30 3)))))
-- X6_isWord
def f_X6_isWord_b36 (N : Nat) (k2 : Int32 → o_S → Option (Int32 × o_S)) (l1 : Int32) (s : o_S) : Option (Int32 × o_S) :=
  if (1 : Int32) = 0 then
    (some ((0 : Int32), s))
  else
    (k2 (l1 + 1) s)
def f_X6_isWord_L2 (N : Nat) : Nat → Int32 → o_S → Option (Int32 × o_S)
  | 0, _, _ => none
  | n + 1, l1, s =>
    if (nI (o_R s 1).length) ≤ l1 then
      (if (nI (o_R s 1).length) ≤ 0 then
         (some ((0 : Int32), s))
       else
         (some ((1 : Int32), s)))
    else
      (o_do (o_at s 1 l1) fun x3 =>
       o_bi (f_X6_isLetter N x3 s) fun x6 s4 =>
       if x6 = 0 then
         (if l1 ≤ 0 then
            (if (0 : Int32) = 0 then
               (some ((0 : Int32), s4))
             else
               (f_X6_isWord_L2 N n (l1 + 1) s4))
          else
            (o_do (o_at s4 1 l1) fun x11 =>
             o_bi (f_X6_isDigit N x11 s4) fun x14 s12 =>
             if x14 = 0 then
               (if (0 : Int32) = 0 then
                  (some ((0 : Int32), s12))
                else
                  (f_X6_isWord_L2 N n (l1 + 1) s12))
             else
               (f_X6_isWord_b36 N (f_X6_isWord_L2 N n) l1 s12)))
       else
         (f_X6_isWord_b36 N (f_X6_isWord_L2 N n) l1 s4))
def f_X6_isWord (N : Nat) (s : o_S) : Option (Int32 × o_S) :=
  f_X6_isWord_L2 N N (0 : Int32) s
-- X6_rename
def f_X6_rename (N : Nat) (p1 : Int32) (p2 : Int64) (s : o_S) : Option ((Nat ⊕ Int32) × o_S) :=
  o_bx (f_X6_checkNode N p1 s) (fun e s => some (.inl e, s)) fun v3 s1 =>
  o_bv (f_X6_unpack N p2 s1) fun s4 =>
  o_bi (f_X5_is N p1 (2 : Int32) s4) fun x8 s6 =>
  if x8 = 0 then
    (some (.inl 1, o_addK s6 3))
  else
    (o_bi (f_X6_isWord N  s6) fun x12 s10 =>
     if x12 = 0 then
       (some (.inl 1, o_addK s10 3))
     else
       (o_bv (f_X5_respell N p1 s10) fun s14 =>
        some (.inr (nI (o_R s14 1).length), s14)))
-- X6_write
def f_X6_write (N : Nat) (p1 : Int32) (s : o_S) : Option (Int32 × o_S) :=
  o_bv (f_X2_startAgain N  s) fun s1 =>
  if p1 = 0 then
    (o_bv (f_X2_printItems N  s1) fun s4 =>
     o_bi (f_X2_size N  s4) fun x8 s6 =>
     some (x8, s6))
  else
    (o_bv (f_gQ N 200 0 (0 : Int32) (0 : Int32) 0 s1) fun s9 =>
     o_bi (f_X2_size N  s9) fun x13 s11 =>
     some (x13, s11))
-- X6_written
def f_X6_written (N : Nat) (p1 : Int32) (s : o_S) : Option ((Nat ⊕ Int32) × o_S) :=
  if p1 < 0 then
    (some (.inl 3, o_addK s 3))
  else
    (o_bi (f_X2_size N  s) fun x4 s2 =>
     if p1 < x4 then
       (o_bi (f_X2_get N p1 s2) fun x8 s6 =>
        some (.inr (x8), s6))
     else
       (some (.inl 3, o_addK s2 3)))
-- X6_mix
def f_X6_mix (N : Nat) (p1 : Int64) (p2 : Int64) (s : o_S) : Option (Int64 × o_S) :=
  some (((p1 * (31 : Int64)) + p2), s)
-- X6_digest
def f_X6_digest_L117 (N : Nat) (k32 : Int64 → Int32 → o_S → Option (Int64 × o_S)) : Nat → Int64 → Int32 → Int32 → Int32 → o_S → Option (Int64 × o_S)
  | 0, _, _, _, _, _ => none
  | n + 1, l1, l3, l4, l5, s =>
    if l4 ≤ l5 then
      (k32 l1 (l3 + 1) s)
    else
      (o_bi (f_X5_letterOf N l3 l5 s) fun x51 s49 =>
       o_bi (f_X6_mix N l1 (Int32.toInt64 x51) s49) fun x54 s52 =>
       f_X6_digest_L117 N k32 n x54 l3 l4 (l5 + 1) s52)
def f_X6_digest_L32 (N : Nat) : Nat → Int64 → Int32 → o_S → Option (Int64 × o_S)
  | 0, _, _, _ => none
  | n + 1, l1, l3, s =>
    o_bi (f_X5_size N  s) fun x12 s10 =>
    if x12 ≤ l3 then
      (o_bi (f_X3_size N  s10) fun x16 s14 =>
       o_bi (f_X6_mix N l1 (Int32.toInt64 x16) s14) fun x19 s17 =>
       o_bi (f_X5_countDifferentWords N  s17) fun x22 s20 =>
       o_bi (f_X6_mix N x19 (Int32.toInt64 x22) s20) fun x25 s23 =>
       some (x25, s23))
    else
      (o_bi (f_X5_get N l3 (0 : Int32) s10) fun x28 s26 =>
       o_bi (f_X6_mix N l1 (Int32.toInt64 x28) s26) fun x31 s29 =>
       o_bi (f_X5_countChildren N l3 s29) fun x34 s32 =>
       o_bi (f_X6_mix N x31 (Int32.toInt64 x34) s32) fun x37 s35 =>
       o_bi (f_X5_get N l3 (5 : Int32) s35) fun x40 s38 =>
       o_bi (f_X6_mix N x37 (Int32.toInt64 x40) s38) fun x43 s41 =>
       o_bi (f_X5_is N l3 (2 : Int32) s41) fun x46 s44 =>
       if x46 = 0 then
         (f_X6_digest_L117 N (f_X6_digest_L32 N n) N x43 l3 (0 : Int32) (0 : Int32) s44)
       else
         (o_bi (f_X5_get N l3 (5 : Int32) s44) fun x57 s55 =>
          f_X6_digest_L117 N (f_X6_digest_L32 N n) N x43 l3 x57 (0 : Int32) s55))
def f_X6_digest (N : Nat) (s : o_S) : Option (Int64 × o_S) :=
  o_bi (f_X6_mix N (73 : Int64) (Int32.toInt64 (nI (o_R s 0).length)) s) fun x3 s1 =>
  o_bi (f_X5_size N  s1) fun x6 s4 =>
  o_bi (f_X6_mix N x3 (Int32.toInt64 x6) s4) fun x9 s7 =>
  f_X6_digest_L32 N N x9 (0 : Int32) s7
