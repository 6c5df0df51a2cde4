-- X7_thrown
def f_X7_thrown (N : Nat) (s : o_S) : Option (Int32 × o_S) :=
  some ((o_F s 15), s)
-- X7_fail
def f_X7_fail (N : Nat) (p1 : Int32) (s : o_S) : Option (Int32 × o_S) :=
  o_do (o_setF s 15 p1) fun s1 =>
  some ((0 : Int32), s1)
-- X7_byteOf
def f_X7_byteOf (N : Nat) (p1 : Int64) (p2 : Int32) (s : o_S) : Option (Int32 × o_S) :=
  some ((Int64.toInt32 ((p1 >>> (Int32.toInt64 ((56 : Int32) - ((8 : Int32) * p2)) &&& 63)) &&& (255 : Int64))), s)
-- X7_take
def f_X7_take_L5 (N : Nat) : Nat → Int64 → Int32 → Int32 → o_S → Option (Int32 × o_S)
  | 0, _, _, _, _ => none
  | n + 1, l1, l3, l4, s =>
    if (8 : Int32) ≤ l4 then
      (some (l3, s))
    else
      (o_bi (f_X7_byteOf N l1 l4 s) fun x4 s2 =>
       if x4 = 0 then
         (f_X7_take_L5 N n l1 l3 (l4 + 1) s2)
       else
         (o_bi (f_X7_byteOf N l1 l4 s2) fun x8 s6 =>
          if l3 < 0 ∨ 8 ≤ Int32.toNatClampNeg l3 then none else
          o_do (o_setA s6 14 (Int32.toNatClampNeg l3) x8) fun s10 =>
          f_X7_take_L5 N n l1 (l3 + 1) (l4 + 1) s10))
def f_X7_take (N : Nat) (p1 : Int64) (s : o_S) : Option (Int32 × o_S) :=
  f_X7_take_L5 N N p1 (0 : Int32) (0 : Int32) s
-- X7_feed
def f_X7_feed_L89 (N : Nat) : Nat → Int32 → Int32 → o_S → Option (Int32 × o_S)
  | 0, _, _, _ => none
  | n + 1, l3, l4, s =>
    if l3 ≤ l4 then
      (some ((o_F s 16), s))
    else
      (if l4 < 0 ∨ 8 ≤ Int32.toNatClampNeg l4 then none else
       o_do (o_A s 14 (Int32.toNatClampNeg l4)) fun x9 =>
       if (o_F s 16) < 0 ∨ 600 ≤ Int32.toNatClampNeg (o_F s 16) then none else
       o_do (o_setA s 0 (Int32.toNatClampNeg (o_F s 16)) x9) fun s11 =>
       o_do (o_setF s11 16 ((o_F s11 16) + (1 : Int32))) fun s12 =>
       f_X7_feed_L89 N n l3 (l4 + 1) s12)
def f_X7_feed_L14 (N : Nat) : Nat → Int32 → Int32 → o_S → Option (Int32 × o_S)
  | 0, _, _, _ => none
  | n + 1, l3, l4, s =>
    if l3 ≤ l4 then
      (if ((o_F s 16) + l3) ≤ (600 : Int32) then
         (f_X7_feed_L89 N N l3 (0 : Int32) s)
       else
         (o_bi (f_X7_fail N (2 : Int32) s) fun x15 s13 =>
          some (x15, s13)))
    else
      (if l4 < 0 ∨ 8 ≤ Int32.toNatClampNeg l4 then none else
       o_do (o_A s 14 (Int32.toNatClampNeg l4)) fun x17 =>
       if x17 = (10 : Int32) then
         (f_X7_feed_L14 N n l3 (l4 + 1) s)
       else
         (if l4 < 0 ∨ 8 ≤ Int32.toNatClampNeg l4 then none else
          o_do (o_A s 14 (Int32.toNatClampNeg l4)) fun x20 =>
          if x20 < (32 : Int32) then
            (o_bi (f_X7_fail N (1 : Int32) s) fun x24 s22 =>
             some (x24, s22))
          else
            (if l4 < 0 ∨ 8 ≤ Int32.toNatClampNeg l4 then none else
             o_do (o_A s 14 (Int32.toNatClampNeg l4)) fun x26 =>
             if x26 ≤ (126 : Int32) then
               (f_X7_feed_L14 N n l3 (l4 + 1) s)
             else
               (o_bi (f_X7_fail N (1 : Int32) s) fun x30 s28 =>
                some (x30, s28)))))
def f_X7_feed (N : Nat) (p1 : Int64) (s : o_S) : Option (Int32 × o_S) :=
  o_do (o_setF s 15 (0 : Int32)) fun s1 =>
  o_bi (f_X7_take N p1 s1) fun x4 s2 =>
  f_X7_feed_L14 N N x4 (0 : Int32) s2
-- X7_trim
def f_X7_trim (N : Nat) (p1 : Int32) (s : o_S) : Option (Int32 × o_S) :=
  o_do (o_setF s 15 (0 : Int32)) fun s1 =>
  if p1 < 0 then
    (o_bi (f_X7_fail N (1 : Int32) s1) fun x5 s3 =>
     some (x5, s3))
  else
    (if p1 ≤ (o_F s1 16) then
       (o_do (o_setF s1 16 p1) fun s7 =>
        some ((o_F s1 16), s7))
     else
       (o_bi (f_X7_fail N (1 : Int32) s1) fun x10 s8 =>
        some (x10, s8)))
-- X7_length
def f_X7_length (N : Nat) (s : o_S) : Option (Int32 × o_S) :=
  o_do (o_setF s 15 (0 : Int32)) fun s1 =>
  some ((o_F s1 16), s1)
-- X7_countOf
def f_X7_countOf_L9 (N : Nat) : Nat → Int32 → Int32 → o_S → Option (Int32 × o_S)
  | 0, _, _, _ => none
  | n + 1, l2, l3, s =>
    if l3 = (-1 : Int32) then
      (some (l2, s))
    else
      (if l3 < 0 ∨ 1500 ≤ Int32.toNatClampNeg l3 then none else
       o_do (o_A s 4 (Int32.toNatClampNeg l3)) fun x5 =>
       f_X7_countOf_L9 N n (l2 + 1) x5 s)
def f_X7_countOf (N : Nat) (p1 : Int32) (s : o_S) : Option (Int32 × o_S) :=
  if p1 < 0 ∨ 1500 ≤ Int32.toNatClampNeg p1 then none else
  o_do (o_A s 3 (Int32.toNatClampNeg p1)) fun x2 =>
  f_X7_countOf_L9 N N (0 : Int32) x2 s
-- X7_childOf
def f_X7_childOf_L10 (N : Nat) : Nat → Int32 → Int32 → Int32 → o_S → Option (Int32 × o_S)
  | 0, _, _, _, _ => none
  | n + 1, l2, l3, l4, s =>
    if l2 ≤ l4 then
      (some (l3, s))
    else
      (if l3 = (-1 : Int32) then
         (some (l3, s))
       else
         (if l3 < 0 ∨ 1500 ≤ Int32.toNatClampNeg l3 then none else
          o_do (o_A s 4 (Int32.toNatClampNeg l3)) fun x6 =>
          f_X7_childOf_L10 N n l2 x6 (l4 + 1) s))
def f_X7_childOf (N : Nat) (p1 : Int32) (p2 : Int32) (s : o_S) : Option (Int32 × o_S) :=
  if p1 < 0 ∨ 1500 ≤ Int32.toNatClampNeg p1 then none else
  o_do (o_A s 3 (Int32.toNatClampNeg p1)) fun x2 =>
  f_X7_childOf_L10 N N p2 x2 (0 : Int32) s
-- X7_insert
def f_X7_insert (N : Nat) (p1 : Int32) (p2 : Int32) (p3 : Int32) (s : o_S) : Option o_S :=
  if p1 < 0 ∨ 1500 ≤ Int32.toNatClampNeg p1 then none else
  o_do (o_setA s 2 (Int32.toNatClampNeg p1) p2) fun s2 =>
  if p3 = 0 then
    (if p2 < 0 ∨ 1500 ≤ Int32.toNatClampNeg p2 then none else
     o_do (o_A s2 3 (Int32.toNatClampNeg p2)) fun x14 =>
     if p1 < 0 ∨ 1500 ≤ Int32.toNatClampNeg p1 then none else
     o_do (o_setA s2 4 (Int32.toNatClampNeg p1) x14) fun s16 =>
     if p2 < 0 ∨ 1500 ≤ Int32.toNatClampNeg p2 then none else
     o_do (o_setA s16 3 (Int32.toNatClampNeg p2) p1) fun s18 =>
     some s18)
  else
    (o_bi (f_X7_childOf N p2 (p3 - (1 : Int32)) s2) fun x6 s4 =>
     if x6 < 0 ∨ 1500 ≤ Int32.toNatClampNeg x6 then none else
     o_do (o_A s4 4 (Int32.toNatClampNeg x6)) fun x8 =>
     if p1 < 0 ∨ 1500 ≤ Int32.toNatClampNeg p1 then none else
     o_do (o_setA s4 4 (Int32.toNatClampNeg p1) x8) fun s10 =>
     if x6 < 0 ∨ 1500 ≤ Int32.toNatClampNeg x6 then none else
     o_do (o_setA s10 4 (Int32.toNatClampNeg x6) p1) fun s12 =>
     some s12)
-- X7_add
def f_X7_add (N : Nat) (p1 : Int32) (p2 : Int32) (p3 : Int32) (p4 : Int32) (p5 : Int32) (s : o_S) : Option (Int32 × o_S) :=
  o_do (o_setF s 17 ((o_F s 17) + (1 : Int32))) fun s1 =>
  if (o_F s 17) < 0 ∨ 1500 ≤ Int32.toNatClampNeg (o_F s 17) then none else
  o_do (o_setA s1 1 (Int32.toNatClampNeg (o_F s 17)) p1) fun s3 =>
  if (o_F s 17) < 0 ∨ 1500 ≤ Int32.toNatClampNeg (o_F s 17) then none else
  o_do (o_setA s3 5 (Int32.toNatClampNeg (o_F s 17)) p3) fun s5 =>
  if (o_F s 17) < 0 ∨ 1500 ≤ Int32.toNatClampNeg (o_F s 17) then none else
  o_do (o_setA s5 6 (Int32.toNatClampNeg (o_F s 17)) p4) fun s7 =>
  if (o_F s 17) < 0 ∨ 1500 ≤ Int32.toNatClampNeg (o_F s 17) then none else
  o_do (o_setA s7 7 (Int32.toNatClampNeg (o_F s 17)) p5) fun s9 =>
  if (o_F s 17) < 0 ∨ 1500 ≤ Int32.toNatClampNeg (o_F s 17) then none else
  o_do (o_setA s9 3 (Int32.toNatClampNeg (o_F s 17)) (-1 : Int32)) fun s11 =>
  if (o_F s 17) < 0 ∨ 1500 ≤ Int32.toNatClampNeg (o_F s 17) then none else
  o_do (o_setA s11 2 (Int32.toNatClampNeg (o_F s 17)) (-1 : Int32)) fun s13 =>
  if (o_F s 17) < 0 ∨ 1500 ≤ Int32.toNatClampNeg (o_F s 17) then none else
  o_do (o_setA s13 4 (Int32.toNatClampNeg (o_F s 17)) (-1 : Int32)) fun s15 =>
  if p2 = (-1 : Int32) then
    (some ((o_F s 17), s15))
  else
    (o_bi (f_X7_countOf N p2 s15) fun x19 s17 =>
     o_bv (f_X7_insert N (o_F s 17) p2 x19 s17) fun s20 =>
     some ((o_F s 17), s20))
-- X7_begin
def f_X7_begin (N : Nat) (s : o_S) : Option o_S :=
  o_do (o_setF s 17 (0 : Int32)) fun s1 =>
  o_do (o_setF s1 19 (0 : Int32)) fun s2 =>
  o_bi (f_X7_add N (0 : Int32) (-1 : Int32) (0 : Int32) (0 : Int32) (0 : Int32) s2) fun x5 s3 =>
  some s3
-- X7_takeOut
def f_X7_takeOut_L39 (N : Nat) : Nat → Int32 → Int32 → o_S → Option o_S
  | 0, _, _, _ => none
  | n + 1, l1, l3, s =>
    if l3 < 0 ∨ 1500 ≤ Int32.toNatClampNeg l3 then none else
    o_do (o_A s 4 (Int32.toNatClampNeg l3)) fun x9 =>
    if x9 = l1 then
      (if l1 < 0 ∨ 1500 ≤ Int32.toNatClampNeg l1 then none else
       o_do (o_A s 4 (Int32.toNatClampNeg l1)) fun x12 =>
       if l3 < 0 ∨ 1500 ≤ Int32.toNatClampNeg l3 then none else
       o_do (o_setA s 4 (Int32.toNatClampNeg l3) x12) fun s14 =>
       some s14)
    else
      (if l3 < 0 ∨ 1500 ≤ Int32.toNatClampNeg l3 then none else
       o_do (o_A s 4 (Int32.toNatClampNeg l3)) fun x16 =>
       f_X7_takeOut_L39 N n l1 x16 s)
def f_X7_takeOut (N : Nat) (p1 : Int32) (s : o_S) : Option o_S :=
  if p1 < 0 ∨ 1500 ≤ Int32.toNatClampNeg p1 then none else
  o_do (o_A s 2 (Int32.toNatClampNeg p1)) fun x2 =>
  if x2 < 0 ∨ 1500 ≤ Int32.toNatClampNeg x2 then none else
  o_do (o_A s 3 (Int32.toNatClampNeg x2)) fun x4 =>
  if x4 = p1 then
    (if p1 < 0 ∨ 1500 ≤ Int32.toNatClampNeg p1 then none else
     o_do (o_A s 4 (Int32.toNatClampNeg p1)) fun x18 =>
     if x2 < 0 ∨ 1500 ≤ Int32.toNatClampNeg x2 then none else
     o_do (o_setA s 3 (Int32.toNatClampNeg x2) x18) fun s20 =>
     some s20)
  else
    (if x2 < 0 ∨ 1500 ≤ Int32.toNatClampNeg x2 then none else
     o_do (o_A s 3 (Int32.toNatClampNeg x2)) fun x7 =>
     f_X7_takeOut_L39 N N p1 x7 s)
-- X7_following
def f_X7_following_b44 (N : Nat) (l2 : Int32) (l3 : Int32) (s : o_S) : Option (Int32 × o_S) :=
  if l3 = l2 then
    (some ((-1 : Int32), s))
  else
    (if l3 < 0 ∨ 1500 ≤ Int32.toNatClampNeg l3 then none else
     o_do (o_A s 4 (Int32.toNatClampNeg l3)) fun x7 =>
     some (x7, s))
def f_X7_following_L19 (N : Nat) : Nat → Int32 → Int32 → o_S → Option (Int32 × o_S)
  | 0, _, _, _ => none
  | n + 1, l2, l3, s =>
    if l3 = l2 then
      (f_X7_following_b44 N l2 l3 s)
    else
      (if l3 < 0 ∨ 1500 ≤ Int32.toNatClampNeg l3 then none else
       o_do (o_A s 4 (Int32.toNatClampNeg l3)) fun x9 =>
       if x9 = (-1 : Int32) then
         (if l3 < 0 ∨ 1500 ≤ Int32.toNatClampNeg l3 then none else
          o_do (o_A s 2 (Int32.toNatClampNeg l3)) fun x12 =>
          f_X7_following_L19 N n l2 x12 s)
       else
         (f_X7_following_b44 N l2 l3 s))
def f_X7_following (N : Nat) (p1 : Int32) (p2 : Int32) (s : o_S) : Option (Int32 × o_S) :=
  if p1 < 0 ∨ 1500 ≤ Int32.toNatClampNeg p1 then none else
  o_do (o_A s 3 (Int32.toNatClampNeg p1)) fun x2 =>
  if x2 = (-1 : Int32) then
    (f_X7_following_L19 N N p2 p1 s)
  else
    (if p1 < 0 ∨ 1500 ≤ Int32.toNatClampNeg p1 then none else
     o_do (o_A s 3 (Int32.toNatClampNeg p1)) fun x14 =>
     some (x14, s))
-- X7_number
def f_X7_number_L7 (N : Nat) : Nat → Int32 → o_S → Option o_S
  | 0, _, _ => none
  | n + 1, l1, s =>
    if l1 = (-1 : Int32) then
      (some s)
    else
      (if (o_F s 18) < 0 ∨ 1500 ≤ Int32.toNatClampNeg (o_F s 18) then none else
       o_do (o_setA s 10 (Int32.toNatClampNeg (o_F s 18)) l1) fun s4 =>
       if l1 < 0 ∨ 1500 ≤ Int32.toNatClampNeg l1 then none else
       o_do (o_setA s4 11 (Int32.toNatClampNeg l1) (o_F s4 18)) fun s6 =>
       o_do (o_setF s6 18 ((o_F s6 18) + (1 : Int32))) fun s7 =>
       o_bi (f_X7_following N l1 (0 : Int32) s7) fun x10 s8 =>
       f_X7_number_L7 N n x10 s8)
def f_X7_number (N : Nat) (s : o_S) : Option o_S :=
  o_do (o_setF s 18 (0 : Int32)) fun s1 =>
  f_X7_number_L7 N N (0 : Int32) s1
-- X7_repair
def f_X7_repair (N : Nat) (p1 : Int32) (s : o_S) : Option o_S :=
  if ((3 : Int32) * (o_F s 19)) < 0 ∨ 3900 ≤ Int32.toNatClampNeg ((3 : Int32) * (o_F s 19)) then none else
  o_do (o_setA s 12 (Int32.toNatClampNeg ((3 : Int32) * (o_F s 19))) p1) fun s2 =>
  if (((3 : Int32) * (o_F s2 19)) + (1 : Int32)) < 0 ∨ 3900 ≤ Int32.toNatClampNeg (((3 : Int32) * (o_F s2 19)) + (1 : Int32)) then none else
  o_do (o_setA s2 12 (Int32.toNatClampNeg (((3 : Int32) * (o_F s2 19)) + (1 : Int32))) (o_F s2 26)) fun s4 =>
  if (((3 : Int32) * (o_F s4 19)) + (2 : Int32)) < 0 ∨ 3900 ≤ Int32.toNatClampNeg (((3 : Int32) * (o_F s4 19)) + (2 : Int32)) then none else
  o_do (o_setA s4 12 (Int32.toNatClampNeg (((3 : Int32) * (o_F s4 19)) + (2 : Int32))) (o_F s4 27)) fun s6 =>
  o_do (o_setF s6 19 ((o_F s6 19) + (1 : Int32))) fun s7 =>
  some s7
-- X7_push
def f_X7_push (N : Nat) (p1 : Int32) (p2 : Int32) (s : o_S) : Option o_S :=
  if (o_F s 21) < 0 ∨ 32 ≤ Int32.toNatClampNeg (o_F s 21) then none else
  o_do (o_setA s 15 (Int32.toNatClampNeg (o_F s 21)) p1) fun s2 =>
  if (o_F s2 21) < 0 ∨ 32 ≤ Int32.toNatClampNeg (o_F s2 21) then none else
  o_do (o_setA s2 16 (Int32.toNatClampNeg (o_F s2 21)) p2) fun s4 =>
  if (o_F s4 21) < 0 ∨ 32 ≤ Int32.toNatClampNeg (o_F s4 21) then none else
  o_do (o_setA s4 17 (Int32.toNatClampNeg (o_F s4 21)) (-1 : Int32)) fun s6 =>
  o_do (o_setF s6 21 ((o_F s6 21) + (1 : Int32))) fun s7 =>
  some s7
-- X7_top
def f_X7_top (N : Nat) (s : o_S) : Option (Int32 × o_S) :=
  some (((o_F s 21) - (1 : Int32)), s)
-- X7_isGroupOpen
def f_X7_isGroupOpen (N : Nat) (s : o_S) : Option (Int32 × o_S) :=
  o_bi (f_X7_top N  s) fun x3 s1 =>
  if x3 < 0 ∨ 32 ≤ Int32.toNatClampNeg x3 then none else
  o_do (o_A s1 15 (Int32.toNatClampNeg x3)) fun x5 =>
  if x5 < 0 ∨ 1500 ≤ Int32.toNatClampNeg x5 then none else
  o_do (o_A s1 1 (Int32.toNatClampNeg x5)) fun x7 =>
  if x7 = (4 : Int32) then
    (some ((1 : Int32), s1))
  else
    (some ((0 : Int32), s1))
-- X7_isDigit
def f_X7_isDigit (N : Nat) (p1 : Int32) (s : o_S) : Option (Int32 × o_S) :=
  if p1 < (48 : Int32) then
    (some ((0 : Int32), s))
  else
    (if (57 : Int32) < p1 then
       (some ((0 : Int32), s))
     else
       (some ((1 : Int32), s)))
-- X7_isLetter
def f_X7_isLetter_b12 (N : Nat) (l0 : Int32) (s : o_S) : Option (Int32 × o_S) :=
  if l0 < (65 : Int32) then
    (some ((0 : Int32), s))
  else
    (if (90 : Int32) < l0 then
       (some ((0 : Int32), s))
     else
       (some ((1 : Int32), s)))
def f_X7_isLetter (N : Nat) (p1 : Int32) (s : o_S) : Option (Int32 × o_S) :=
  if p1 < (97 : Int32) then
    (f_X7_isLetter_b12 N p1 s)
  else
    (if p1 ≤ (122 : Int32) then
       (some ((1 : Int32), s))
     else
       (f_X7_isLetter_b12 N p1 s))
-- X7_isSign
def f_X7_isSign (N : Nat) (p1 : Int32) (s : o_S) : Option (Int32 × o_S) :=
  if p1 = (123 : Int32) then
    (some ((1 : Int32), s))
  else
    (if p1 = (125 : Int32) then
       (some ((1 : Int32), s))
     else
       (if p1 = (40 : Int32) then
          (some ((1 : Int32), s))
        else
          (if p1 = (41 : Int32) then
             (some ((1 : Int32), s))
           else
             (if p1 = (58 : Int32) then
                (some ((1 : Int32), s))
              else
                (if p1 = (59 : Int32) then
                   (some ((1 : Int32), s))
                 else
                   (some ((0 : Int32), s)))))))
-- X7_isPart
def f_X7_isPart (N : Nat) (s : o_S) : Option (Int32 × o_S) :=
  if (o_F s 23) = (2 : Int32) then
    (some ((1 : Int32), s))
  else
    (if (o_F s 23) = (3 : Int32) then
       (some ((1 : Int32), s))
     else
       (if (o_F s 23) = (40 : Int32) then
          (some ((1 : Int32), s))
        else
          (some ((0 : Int32), s))))
-- X7_addPart
def f_X7_addPart_L98 (N : Nat) : Nat → Int32 → Int64 → Int32 → o_S → Option o_S
  | 0, _, _, _, _ => none
  | n + 1, l1, l2, l4, s =>
    if (o_F s 25) ≤ l4 then
      (o_bi (f_X7_add N (3 : Int32) l1 (o_F s 26) (o_F s 27) (Int64.toInt32 l2) s) fun x6 s4 =>
       some s4)
    else
      (if l4 < 0 ∨ 600 ≤ Int32.toNatClampNeg l4 then none else
       o_do (o_A s 0 (Int32.toNatClampNeg l4)) fun x8 =>
       f_X7_addPart_L98 N n l1 (((((10 : Int64) * l2) + (Int32.toInt64 x8)) - (48 : Int64)) - ((((10 : Int64) * l2) + (Int32.toInt64 x8)) - (48 : Int64)) / (1000000000 : Int64) * (1000000000 : Int64)) (l4 + 1) s)
def f_X7_addPart (N : Nat) (p1 : Int32) (s : o_S) : Option o_S :=
  if (o_F s 23) = (40 : Int32) then
    (if (o_F s 21) ≤ (30 : Int32) then
       (o_bi (f_X7_add N (4 : Int32) p1 (o_F s 26) (o_F s 27) (0 : Int32) s) fun x17 s15 =>
        o_bv (f_X7_push N x17 (-1 : Int32) s15) fun s18 =>
        some s18)
     else
       (o_bv (f_X7_repair N (5 : Int32) s) fun s20 =>
        some s20))
  else
    (if (o_F s 23) = (2 : Int32) then
       (o_bi (f_X7_add N (2 : Int32) p1 (o_F s 26) (o_F s 27) ((o_F s 25) - (o_F s 24)) s) fun x11 s9 =>
        if x11 < 0 ∨ 1500 ≤ Int32.toNatClampNeg x11 then none else
        o_do (o_setA s9 8 (Int32.toNatClampNeg x11) (o_F s9 24)) fun s13 =>
        some s13)
     else
       (f_X7_addPart_L98 N N p1 (0 : Int64) (o_F s 24) s))
-- X7_align
def f_X7_align_b68 (N : Nat) (l2 : Int32) (s : o_S) : Option o_S :=
  if l2 = (o_F s 27) then
    (o_bi (f_X7_top N  s) fun x15 s13 =>
     if x15 < 0 ∨ 32 ≤ Int32.toNatClampNeg x15 then none else
     o_do (o_setA s13 17 (Int32.toNatClampNeg x15) (-1 : Int32)) fun s17 =>
     some s17)
  else
    (o_bv (f_X7_repair N (2 : Int32) s) fun s18 =>
     o_bi (f_X7_top N  s18) fun x22 s20 =>
     if x22 < 0 ∨ 32 ≤ Int32.toNatClampNeg x22 then none else
     o_do (o_setA s20 17 (Int32.toNatClampNeg x22) (-1 : Int32)) fun s24 =>
     some s24)
def f_X7_align_b40 (N : Nat) (l1 : Int32) (s : o_S) : Option o_S :=
  o_bi (f_X7_top N  s) fun x7 s5 =>
  if x7 < 0 ∨ 32 ≤ Int32.toNatClampNeg x7 then none else
  o_do (o_A s5 16 (Int32.toNatClampNeg x7)) fun x9 =>
  if x9 = (-1 : Int32) then
    (some s5)
  else
    (if (o_F s5 27) ≤ x9 then
       (f_X7_align_b68 N x9 s5)
     else
       (if l1 = 0 then
          (some s5)
        else
          (f_X7_align_b68 N x9 s5)))
def f_X7_align_L2 (N : Nat) : Nat → Int32 → o_S → Option o_S
  | 0, _, _ => none
  | n + 1, l1, s =>
    o_bi (f_X7_top N  s) fun x3 s1 =>
    if x3 ≤ 0 then
      (f_X7_align_b40 N l1 s1)
    else
      (o_bi (f_X7_top N  s1) fun x28 s26 =>
       if x28 < 0 ∨ 32 ≤ Int32.toNatClampNeg x28 then none else
       o_do (o_A s26 16 (Int32.toNatClampNeg x28)) fun x30 =>
       if x30 ≤ (o_F s26 27) then
         (f_X7_align_b40 N l1 s26)
       else
         (o_do (o_setF s26 21 ((o_F s26 21) - (1 : Int32))) fun s32 =>
          f_X7_align_L2 N n (1 : Int32) s32))
def f_X7_align (N : Nat) (s : o_S) : Option o_S :=
  f_X7_align_L2 N N (0 : Int32) s
-- X7_addToItem
def f_X7_addToItem_b24 (N : Nat) (s : o_S) : Option o_S :=
  o_bi (f_X7_top N  s) fun x4 s2 =>
  if x4 < 0 ∨ 32 ≤ Int32.toNatClampNeg x4 then none else
  o_do (o_A s2 17 (Int32.toNatClampNeg x4)) fun x6 =>
  if x6 = (-1 : Int32) then
    (o_bi (f_X7_top N  s2) fun x17 s15 =>
     o_bi (f_X7_top N  s15) fun x20 s18 =>
     if x20 < 0 ∨ 32 ≤ Int32.toNatClampNeg x20 then none else
     o_do (o_A s18 15 (Int32.toNatClampNeg x20)) fun x22 =>
     o_bi (f_X7_add N (1 : Int32) x22 (o_F s18 26) (o_F s18 27) (0 : Int32) s18) fun x25 s23 =>
     if x17 < 0 ∨ 32 ≤ Int32.toNatClampNeg x17 then none else
     o_do (o_setA s23 17 (Int32.toNatClampNeg x17) x25) fun s27 =>
     o_bi (f_X7_top N  s27) fun x30 s28 =>
     if x30 < 0 ∨ 32 ≤ Int32.toNatClampNeg x30 then none else
     o_do (o_A s28 17 (Int32.toNatClampNeg x30)) fun x32 =>
     o_bv (f_X7_addPart N x32 s28) fun s33 =>
     some s33)
  else
    (o_bi (f_X7_top N  s2) fun x10 s8 =>
     if x10 < 0 ∨ 32 ≤ Int32.toNatClampNeg x10 then none else
     o_do (o_A s8 17 (Int32.toNatClampNeg x10)) fun x12 =>
     o_bv (f_X7_addPart N x12 s8) fun s13 =>
     some s13)
def f_X7_addToItem (N : Nat) (s : o_S) : Option o_S :=
  if (o_F s 23) = (40 : Int32) then
    (if (o_F s 21) ≤ (30 : Int32) then
       (f_X7_addToItem_b24 N  s)
     else
       (o_bv (f_X7_repair N (5 : Int32) s) fun s36 =>
        some s36))
  else
    (f_X7_addToItem_b24 N  s)
-- X7_close
def f_X7_close_b25 (N : Nat) (l1 : Int32) (s : o_S) : Option o_S :=
  if l1 = 0 then
    (o_bv (f_X7_repair N (4 : Int32) s) fun s7 =>
     some s7)
  else
    (o_do (o_setF s 21 l1) fun s6 =>
     some s6)
def f_X7_close_L5 (N : Nat) : Nat → Int32 → o_S → Option o_S
  | 0, _, _ => none
  | n + 1, l1, s =>
    if l1 ≤ 0 then
      (f_X7_close_b25 N l1 s)
    else
      (if l1 < 0 ∨ 32 ≤ Int32.toNatClampNeg l1 then none else
       o_do (o_A s 16 (Int32.toNatClampNeg l1)) fun x10 =>
       if x10 = (-1 : Int32) then
         (f_X7_close_b25 N l1 s)
       else
         (f_X7_close_L5 N n (l1 + (-1)) s))
def f_X7_close (N : Nat) (s : o_S) : Option o_S :=
  o_bi (f_X7_top N  s) fun x3 s1 =>
  f_X7_close_L5 N N x3 s1
-- X7_act
def f_X7_act (N : Nat) (s : o_S) : Option o_S :=
  o_bi (f_X7_isPart N  s) fun x3 s1 =>
  if x3 = 0 then
    (if (o_F s1 23) = (59 : Int32) then
       (o_bi (f_X7_top N  s1) fun x29 s27 =>
        if x29 < 0 ∨ 32 ≤ Int32.toNatClampNeg x29 then none else
        o_do (o_setA s27 17 (Int32.toNatClampNeg x29) (-1 : Int32)) fun s31 =>
        some s31)
     else
       (if (o_F s1 23) = (58 : Int32) then
          (o_bi (f_X7_top N  s1) fun x17 s15 =>
           if x17 < 0 ∨ 32 ≤ Int32.toNatClampNeg x17 then none else
           o_do (o_A s15 17 (Int32.toNatClampNeg x17)) fun x19 =>
           if x19 = (-1 : Int32) then
             (o_bv (f_X7_repair N (3 : Int32) s15) fun s25 =>
              some s25)
           else
             (if (o_F s15 21) ≤ (30 : Int32) then
                (o_do (o_setF s15 22 (1 : Int32)) fun s22 =>
                 some s22)
              else
                (o_bv (f_X7_repair N (5 : Int32) s15) fun s23 =>
                 some s23)))
        else
          (if (o_F s1 23) = (123 : Int32) then
             (o_bv (f_X7_repair N (3 : Int32) s1) fun s13 =>
              some s13)
           else
             (if (o_F s1 23) = (41 : Int32) then
                (o_bv (f_X7_repair N (4 : Int32) s1) fun s11 =>
                 some s11)
              else
                (o_bv (f_X7_close N  s1) fun s9 =>
                 some s9)))))
  else
    (o_bv (f_X7_addToItem N  s1) fun s32 =>
     some s32)
-- X7_accept
def f_X7_accept_b209 (N : Nat) (l2 : Int32) (s : o_S) : Option o_S :=
  if l2 = 0 then
    (if (o_F s 28) = 0 then
       (o_bv (f_X7_act N  s) fun s14 =>
        some s14)
     else
       (o_bi (f_X7_top N  s) fun x18 s16 =>
        if x18 < 0 ∨ 32 ≤ Int32.toNatClampNeg x18 then none else
        o_do (o_A s16 16 (Int32.toNatClampNeg x18)) fun x20 =>
        if x20 = (-1 : Int32) then
          (o_bv (f_X7_act N  s16) fun s22 =>
           some s22)
        else
          (o_bv (f_X7_align N  s16) fun s24 =>
           o_bv (f_X7_act N  s24) fun s26 =>
           some s26)))
  else
    (o_bv (f_X7_act N  s) fun s11 =>
     some s11)
def f_X7_accept_b142 (N : Nat) (l1 : Int32) (y0 : Int32) (s : o_S) : Option o_S :=
  if y0 = 0 then
    (if l1 = 0 then
       (f_X7_accept_b209 N y0 s)
     else
       (o_bi (f_X7_top N  s) fun x30 s28 =>
        if x30 < 0 ∨ 32 ≤ Int32.toNatClampNeg x30 then none else
        o_do (o_A s28 17 (Int32.toNatClampNeg x30)) fun x32 =>
        o_bi (f_X7_add N (0 : Int32) x32 (o_F s28 26) (o_F s28 27) (0 : Int32) s28) fun x35 s33 =>
        f_X7_accept_b209 N y0 s33))
  else
    (o_bi (f_X7_top N  s) fun x38 s36 =>
     if x38 < 0 ∨ 32 ≤ Int32.toNatClampNeg x38 then none else
     o_do (o_A s36 17 (Int32.toNatClampNeg x38)) fun x40 =>
     o_bi (f_X7_add N (0 : Int32) x40 (o_F s36 26) (o_F s36 27) (0 : Int32) s36) fun x43 s41 =>
     o_bv (f_X7_push N x43 (o_F s41 27) s41) fun s44 =>
     f_X7_accept_b209 N y0 s44)
def f_X7_accept_b110 (N : Nat) (l1 : Int32) (s : o_S) : Option o_S :=
  if l1 = 0 then
    (f_X7_accept_b142 N l1 (0 : Int32) s)
  else
    (o_bi (f_X7_isPart N  s) fun x48 s46 =>
     if x48 = 0 then
       (f_X7_accept_b142 N l1 (0 : Int32) s46)
     else
       (o_bi (f_X7_top N  s46) fun x52 s50 =>
        if x52 < 0 ∨ 32 ≤ Int32.toNatClampNeg x52 then none else
        o_do (o_A s50 16 (Int32.toNatClampNeg x52)) fun x54 =>
        if (o_F s50 27) ≤ x54 then
          (f_X7_accept_b142 N l1 (0 : Int32) s50)
        else
          (f_X7_accept_b142 N l1 (1 : Int32) s50)))
def f_X7_accept (N : Nat) (s : o_S) : Option o_S :=
  o_do (o_setF s 22 (0 : Int32)) fun s1 =>
  o_bi (f_X7_isGroupOpen N  s1) fun x4 s2 =>
  if x4 = 0 then
    (if (o_F s 22) = 0 then
       (f_X7_accept_b110 N (o_F s 22) s2)
     else
       (if (o_F s2 23) = (123 : Int32) then
          (o_bi (f_X7_top N  s2) fun x59 s57 =>
           if x59 < 0 ∨ 32 ≤ Int32.toNatClampNeg x59 then none else
           o_do (o_A s57 17 (Int32.toNatClampNeg x59)) fun x61 =>
           o_bi (f_X7_add N (0 : Int32) x61 (o_F s57 26) (o_F s57 27) (1 : Int32) s57) fun x64 s62 =>
           o_bv (f_X7_push N x64 (-1 : Int32) s62) fun s65 =>
           some s65)
        else
          (f_X7_accept_b110 N (o_F s 22) s2)))
  else
    (if (o_F s2 23) = (41 : Int32) then
       (o_do (o_setF s2 21 ((o_F s2 21) - (1 : Int32))) fun s81 =>
        some s81)
     else
       (o_bi (f_X7_isPart N  s2) fun x70 s68 =>
        if x70 = 0 then
          (o_bv (f_X7_repair N (1 : Int32) s68) fun s72 =>
           some s72)
        else
          (o_bi (f_X7_top N  s68) fun x76 s74 =>
           if x76 < 0 ∨ 32 ≤ Int32.toNatClampNeg x76 then none else
           o_do (o_A s74 15 (Int32.toNatClampNeg x76)) fun x78 =>
           o_bv (f_X7_addPart N x78 s74) fun s79 =>
           some s79)))
-- X7_parse
def f_X7_parse_L456 (N : Nat) : Nat → Int32 → o_S → Option (Int32 × o_S)
  | 0, _, _ => none
  | n + 1, l5, s =>
    if l5 < 0 then
      (o_bv (f_X7_number N  s) fun s18 =>
       some ((o_F s18 18), s18))
    else
      (if l5 ≤ 0 then
         (f_X7_parse_L456 N n (l5 + (-1)) s)
       else
         (if l5 < 0 ∨ 32 ≤ Int32.toNatClampNeg l5 then none else
          o_do (o_A s 16 (Int32.toNatClampNeg l5)) fun x22 =>
          if x22 = (-1 : Int32) then
            (o_bv (f_X7_repair N (6 : Int32) s) fun s24 =>
             f_X7_parse_L456 N n (l5 + (-1)) s24)
          else
            (f_X7_parse_L456 N n (l5 + (-1)) s)))
def f_X7_parse_b409 (N : Nat) (l2 : Int32) (s : o_S) : Option (Int32 × o_S) :=
  o_do (o_setF s 27 ((o_F s 16) - l2)) fun s12 =>
  if (o_F s12 22) = 0 then
    (o_bi (f_X7_top N  s12) fun x16 s14 =>
     f_X7_parse_L456 N N x16 s14)
  else
    (o_bi (f_X7_top N  s12) fun x28 s26 =>
     if x28 < 0 ∨ 32 ≤ Int32.toNatClampNeg x28 then none else
     o_do (o_A s26 17 (Int32.toNatClampNeg x28)) fun x30 =>
     o_bi (f_X7_add N (0 : Int32) x30 (o_F s26 26) (o_F s26 27) (0 : Int32) s26) fun x33 s31 =>
     o_bi (f_X7_top N  s31) fun x36 s34 =>
     f_X7_parse_L456 N N x36 s34)
def f_X7_parse_b162 (N : Nat) (k67 : Int32 → Int32 → Int32 → Int32 → o_S → Option (Int32 × o_S)) (l1 : Int32) (l7 : Int32) (y0 : Int32) (s : o_S) : Option (Int32 × o_S) :=
  o_do (o_setF s 26 ((o_F s 26) + (1 : Int32))) fun s45 =>
  if l7 = 0 then
    (k67 l1 y0 (1 : Int32) y0 s45)
  else
    (k67 l1 y0 (0 : Int32) y0 s45)
def f_X7_parse_b146 (N : Nat) (k67 : Int32 → Int32 → Int32 → Int32 → o_S → Option (Int32 × o_S)) (l1 : Int32) (l4 : Int32) (l7 : Int32) (s : o_S) : Option (Int32 × o_S) :=
  if l7 = 0 then
    (f_X7_parse_b162 N k67 l1 l7 (l4 + (1 : Int32)) s)
  else
    (f_X7_parse_b162 N k67 l1 l7 (l4 + (2 : Int32)) s)
def f_X7_parse_b336 (N : Nat) (k67 : Int32 → Int32 → Int32 → Int32 → o_S → Option (Int32 × o_S)) (l1 : Int32) (l2 : Int32) (l3 : Int32) (l4 : Int32) (l6 : Int32) (s : o_S) : Option (Int32 × o_S) :=
  o_do (o_setF s 24 l4) fun s63 =>
  o_do (o_setF s63 25 l6) fun s64 =>
  if ¬ (l3 = 0 ∨ l3 = 1) then none else
  o_do (o_setF s64 28 l3) fun s66 =>
  if l1 = 0 then
    (if (0 : Int32) < 0 ∨ 32 ≤ Int32.toNatClampNeg (0 : Int32) then none else
     o_do (o_setA s66 16 (Int32.toNatClampNeg (0 : Int32)) (o_F s66 27)) fun s71 =>
     o_bv (f_X7_accept N  s71) fun s72 =>
     k67 (l1 + 1) l2 (0 : Int32) l6 s72)
  else
    (o_bv (f_X7_accept N  s66) fun s68 =>
     k67 (l1 + 1) l2 (0 : Int32) l6 s68)
def f_X7_parse_b309 (N : Nat) (k67 : Int32 → Int32 → Int32 → Int32 → o_S → Option (Int32 × o_S)) (k279 : Int32 → Int32 → Int32 → Int32 → Int32 → o_S → Option (Int32 × o_S)) (l1 : Int32) (l2 : Int32) (l3 : Int32) (l4 : Int32) (l6 : Int32) (s : o_S) : Option (Int32 × o_S) :=
  if (3 : Int32) < (o_F s 23) then
    (f_X7_parse_b336 N k67 l1 l2 l3 l4 l6 s)
  else
    (if l6 < 0 ∨ 600 ≤ Int32.toNatClampNeg l6 then none else
     o_do (o_A s 0 (Int32.toNatClampNeg l6)) fun x77 =>
     o_bi (f_X7_isDigit N x77 s) fun x80 s78 =>
     if x80 = 0 then
       (f_X7_parse_b336 N k67 l1 l2 l3 l4 l6 s78)
     else
       (k279 l1 l2 l3 l4 (l6 + 1) s78))
def f_X7_parse_L279 (N : Nat) (k67 : Int32 → Int32 → Int32 → Int32 → o_S → Option (Int32 × o_S)) : Nat → Int32 → Int32 → Int32 → Int32 → Int32 → o_S → Option (Int32 × o_S)
  | 0, _, _, _, _, _, _ => none
  | n + 1, l1, l2, l3, l4, l6, s =>
    if (o_F s 16) ≤ l6 then
      (f_X7_parse_b336 N k67 l1 l2 l3 l4 l6 s)
    else
      (if (o_F s 23) = (2 : Int32) then
         (if l6 < 0 ∨ 600 ≤ Int32.toNatClampNeg l6 then none else
          o_do (o_A s 0 (Int32.toNatClampNeg l6)) fun x83 =>
          o_bi (f_X7_isLetter N x83 s) fun x86 s84 =>
          if x86 = 0 then
            (f_X7_parse_b309 N k67 (f_X7_parse_L279 N k67 n) l1 l2 l3 l4 l6 s84)
          else
            (f_X7_parse_L279 N k67 n l1 l2 l3 l4 (l6 + 1) s84))
       else
         (f_X7_parse_b309 N k67 (f_X7_parse_L279 N k67 n) l1 l2 l3 l4 l6 s))
def f_X7_parse_b249 (N : Nat) (k67 : Int32 → Int32 → Int32 → Int32 → o_S → Option (Int32 × o_S)) (l1 : Int32) (l2 : Int32) (l3 : Int32) (l4 : Int32) (l5 : Int32) (l6 : Int32) (s : o_S) : Option (Int32 × o_S) :=
  o_bi (f_X7_isLetter N l5 s) fun x55 s53 =>
  if x55 = 0 then
    (o_bi (f_X7_isDigit N l5 s53) fun x59 s57 =>
     if x59 = 0 then
       (o_do (o_setF s57 23 l5) fun s61 =>
        f_X7_parse_L279 N k67 N l1 l2 l3 l4 l6 s61)
     else
       (o_do (o_setF s57 23 (3 : Int32)) fun s88 =>
        f_X7_parse_L279 N k67 N l1 l2 l3 l4 l6 s88))
  else
    (o_do (o_setF s53 23 (2 : Int32)) fun s89 =>
     f_X7_parse_L279 N k67 N l1 l2 l3 l4 l6 s89)
def f_X7_parse_L198 (N : Nat) (k67 : Int32 → Int32 → Int32 → Int32 → o_S → Option (Int32 × o_S)) : Nat → Int32 → Int32 → Int32 → Int32 → o_S → Option (Int32 × o_S)
  | 0, _, _, _, _, _ => none
  | n + 1, l1, l2, l3, l6, s =>
    if (o_F s 16) ≤ l6 then
      (k67 l1 l2 l3 l6 s)
    else
      (if l6 < 0 ∨ 600 ≤ Int32.toNatClampNeg l6 then none else
       o_do (o_A s 0 (Int32.toNatClampNeg l6)) fun x103 =>
       if x103 = (10 : Int32) then
         (k67 l1 l2 l3 l6 s)
       else
         (f_X7_parse_L198 N k67 n l1 l2 l3 (l6 + 1) s))
def f_X7_parse_b132 (N : Nat) (k67 : Int32 → Int32 → Int32 → Int32 → o_S → Option (Int32 × o_S)) (l1 : Int32) (l2 : Int32) (l3 : Int32) (l4 : Int32) (l5 : Int32) (l6 : Int32) (y0 : Int32) (s : o_S) : Option (Int32 × o_S) :=
  if y0 = 0 then
    (if l5 = (10 : Int32) then
       (f_X7_parse_b146 N k67 l1 l4 y0 s)
     else
       (if l5 = (35 : Int32) then
          (f_X7_parse_L198 N k67 N l1 l2 l3 l6 s)
        else
          (o_bi (f_X7_isLetter N l5 s) fun x51 s49 =>
           if x51 = 0 then
             (o_bi (f_X7_isDigit N l5 s49) fun x92 s90 =>
              if x92 = 0 then
                (o_bi (f_X7_isSign N l5 s90) fun x96 s94 =>
                 if x96 = 0 then
                   (if l5 = (32 : Int32) then
                      (k67 l1 l2 l3 l6 s94)
                    else
                      (o_bv (f_X7_repair N (1 : Int32) s94) fun s99 =>
                       k67 l1 l2 l3 l6 s99))
                 else
                   (f_X7_parse_b249 N k67 l1 l2 l3 l4 l5 l6 s94))
              else
                (f_X7_parse_b249 N k67 l1 l2 l3 l4 l5 l6 s90))
           else
             (f_X7_parse_b249 N k67 l1 l2 l3 l4 l5 l6 s49))))
  else
    (f_X7_parse_b146 N k67 l1 l4 y0 s)
def f_X7_parse_L67 (N : Nat) : Nat → Int32 → Int32 → Int32 → Int32 → o_S → Option (Int32 × o_S)
  | 0, _, _, _, _, _ => none
  | n + 1, l1, l2, l3, l4, s =>
    if (o_F s 16) ≤ l4 then
      (if l1 = 0 then
         (if (0 : Int32) < 0 ∨ 32 ≤ Int32.toNatClampNeg (0 : Int32) then none else
          o_do (o_setA s 16 (Int32.toNatClampNeg (0 : Int32)) (0 : Int32)) fun s38 =>
          f_X7_parse_b409 N l2 s38)
       else
         (f_X7_parse_b409 N l2 s))
    else
      (if l4 < 0 ∨ 600 ≤ Int32.toNatClampNeg l4 then none else
       o_do (o_A s 0 (Int32.toNatClampNeg l4)) fun x40 =>
       o_do (o_setF s 27 (l4 - l2)) fun s41 =>
       if x40 = (92 : Int32) then
         (if (o_F s41 16) ≤ (l4 + (1 : Int32)) then
            (f_X7_parse_b132 N (f_X7_parse_L67 N n) l1 l2 l3 l4 x40 (l4 + (1 : Int32)) (0 : Int32) s41)
          else
            (if (l4 + (1 : Int32)) < 0 ∨ 600 ≤ Int32.toNatClampNeg (l4 + (1 : Int32)) then none else
             o_do (o_A s41 0 (Int32.toNatClampNeg (l4 + (1 : Int32)))) fun x107 =>
             if x107 = (10 : Int32) then
               (f_X7_parse_b132 N (f_X7_parse_L67 N n) l1 l2 l3 l4 x40 (l4 + (1 : Int32)) (1 : Int32) s41)
             else
               (f_X7_parse_b132 N (f_X7_parse_L67 N n) l1 l2 l3 l4 x40 (l4 + (1 : Int32)) (0 : Int32) s41)))
       else
         (f_X7_parse_b132 N (f_X7_parse_L67 N n) l1 l2 l3 l4 x40 (l4 + (1 : Int32)) (0 : Int32) s41))
def f_X7_parse_L11 (N : Nat) : Nat → Int32 → o_S → Option (Int32 × o_S)
  | 0, _, _ => none
  | n + 1, l1, s =>
    if (o_F s 16) ≤ l1 then
      (o_do (o_setF s 21 (0 : Int32)) fun s5 =>
       o_bv (f_X7_push N (0 : Int32) (-1 : Int32) s5) fun s6 =>
       o_do (o_setF s6 22 (0 : Int32)) fun s8 =>
       o_do (o_setF s8 26 (0 : Int32)) fun s9 =>
       f_X7_parse_L67 N N (0 : Int32) (0 : Int32) (1 : Int32) (0 : Int32) s9)
    else
      (if l1 < 0 ∨ 600 ≤ Int32.toNatClampNeg l1 then none else
       o_do (o_A s 0 (Int32.toNatClampNeg l1)) fun x110 =>
       if l1 < 0 ∨ 12600 ≤ Int32.toNatClampNeg l1 then none else
       o_do (o_setA s 9 (Int32.toNatClampNeg l1) x110) fun s112 =>
       f_X7_parse_L11 N n (l1 + 1) s112)
def f_X7_parse (N : Nat) (s : o_S) : Option (Int32 × o_S) :=
  o_do (o_setF s 15 (0 : Int32)) fun s1 =>
  o_bv (f_X7_begin N  s1) fun s2 =>
  f_X7_parse_L11 N N (0 : Int32) s2
-- X7_repairCount
def f_X7_repairCount (N : Nat) (s : o_S) : Option (Int32 × o_S) :=
  o_do (o_setF s 15 (0 : Int32)) fun s1 =>
  some ((o_F s1 19), s1)
-- X7_repair_
def f_X7_repair_ (N : Nat) (p1 : Int32) (p2 : Int32) (s : o_S) : Option (Int32 × o_S) :=
  o_do (o_setF s 15 (0 : Int32)) fun s1 =>
  if p1 < 0 then
    (o_bi (f_X7_fail N (1 : Int32) s1) fun x5 s3 =>
     some (x5, s3))
  else
    (if (o_F s1 19) ≤ p1 then
       (o_bi (f_X7_fail N (1 : Int32) s1) fun x9 s7 =>
        some (x9, s7))
     else
       (if p2 < 0 then
          (o_bi (f_X7_fail N (1 : Int32) s1) fun x13 s11 =>
           some (x13, s11))
        else
          (if (2 : Int32) < p2 then
             (o_bi (f_X7_fail N (1 : Int32) s1) fun x17 s15 =>
              some (x17, s15))
           else
             (if (((3 : Int32) * p1) + p2) < 0 ∨ 3900 ≤ Int32.toNatClampNeg (((3 : Int32) * p1) + p2) then none else
              o_do (o_A s1 12 (Int32.toNatClampNeg (((3 : Int32) * p1) + p2))) fun x19 =>
              some (x19, s1)))))
-- X7_isNode
def f_X7_isNode (N : Nat) (p1 : Int32) (s : o_S) : Option (Int32 × o_S) :=
  if p1 < 0 then
    (some ((0 : Int32), s))
  else
    (if (o_F s 18) ≤ p1 then
       (some ((0 : Int32), s))
     else
       (some ((1 : Int32), s)))
-- X7_nodeCount
def f_X7_nodeCount (N : Nat) (s : o_S) : Option (Int32 × o_S) :=
  o_do (o_setF s 15 (0 : Int32)) fun s1 =>
  some ((o_F s1 18), s1)
-- X7_kind
def f_X7_kind (N : Nat) (p1 : Int32) (s : o_S) : Option (Int32 × o_S) :=
  o_do (o_setF s 15 (0 : Int32)) fun s1 =>
  o_bi (f_X7_isNode N p1 s1) fun x4 s2 =>
  if x4 = 0 then
    (o_bi (f_X7_fail N (1 : Int32) s2) fun x8 s6 =>
     some (x8, s6))
  else
    (if p1 < 0 ∨ 1500 ≤ Int32.toNatClampNeg p1 then none else
     o_do (o_A s2 10 (Int32.toNatClampNeg p1)) fun x10 =>
     if x10 < 0 ∨ 1500 ≤ Int32.toNatClampNeg x10 then none else
     o_do (o_A s2 1 (Int32.toNatClampNeg x10)) fun x12 =>
     some (x12, s2))
-- X7_parent
def f_X7_parent (N : Nat) (p1 : Int32) (s : o_S) : Option (Int32 × o_S) :=
  o_do (o_setF s 15 (0 : Int32)) fun s1 =>
  o_bi (f_X7_isNode N p1 s1) fun x4 s2 =>
  if x4 = 0 then
    (o_bi (f_X7_fail N (1 : Int32) s2) fun x15 s13 =>
     some (x15, s13))
  else
    (if p1 = 0 then
       (some ((-1 : Int32), s2))
     else
       (if p1 < 0 ∨ 1500 ≤ Int32.toNatClampNeg p1 then none else
        o_do (o_A s2 10 (Int32.toNatClampNeg p1)) fun x8 =>
        if x8 < 0 ∨ 1500 ≤ Int32.toNatClampNeg x8 then none else
        o_do (o_A s2 2 (Int32.toNatClampNeg x8)) fun x10 =>
        if x10 < 0 ∨ 1500 ≤ Int32.toNatClampNeg x10 then none else
        o_do (o_A s2 11 (Int32.toNatClampNeg x10)) fun x12 =>
        some (x12, s2)))
-- X7_childCount
def f_X7_childCount (N : Nat) (p1 : Int32) (s : o_S) : Option (Int32 × o_S) :=
  o_do (o_setF s 15 (0 : Int32)) fun s1 =>
  o_bi (f_X7_isNode N p1 s1) fun x4 s2 =>
  if x4 = 0 then
    (o_bi (f_X7_fail N (1 : Int32) s2) fun x8 s6 =>
     some (x8, s6))
  else
    (if p1 < 0 ∨ 1500 ≤ Int32.toNatClampNeg p1 then none else
     o_do (o_A s2 10 (Int32.toNatClampNeg p1)) fun x10 =>
     o_bi (f_X7_countOf N x10 s2) fun x13 s11 =>
     some (x13, s11))
-- X7_child
def f_X7_child (N : Nat) (p1 : Int32) (p2 : Int32) (s : o_S) : Option (Int32 × o_S) :=
  o_do (o_setF s 15 (0 : Int32)) fun s1 =>
  o_bi (f_X7_isNode N p1 s1) fun x4 s2 =>
  if x4 = 0 then
    (o_bi (f_X7_fail N (1 : Int32) s2) fun x8 s6 =>
     some (x8, s6))
  else
    (if p2 < 0 then
       (o_bi (f_X7_fail N (1 : Int32) s2) fun x12 s10 =>
        some (x12, s10))
     else
       (if p1 < 0 ∨ 1500 ≤ Int32.toNatClampNeg p1 then none else
        o_do (o_A s2 10 (Int32.toNatClampNeg p1)) fun x14 =>
        o_bi (f_X7_countOf N x14 s2) fun x17 s15 =>
        if x17 ≤ p2 then
          (o_bi (f_X7_fail N (1 : Int32) s15) fun x21 s19 =>
           some (x21, s19))
        else
          (if p1 < 0 ∨ 1500 ≤ Int32.toNatClampNeg p1 then none else
           o_do (o_A s15 10 (Int32.toNatClampNeg p1)) fun x23 =>
           o_bi (f_X7_childOf N x23 p2 s15) fun x26 s24 =>
           if x26 < 0 ∨ 1500 ≤ Int32.toNatClampNeg x26 then none else
           o_do (o_A s24 11 (Int32.toNatClampNeg x26)) fun x28 =>
           some (x28, s24))))
-- X7_line
def f_X7_line (N : Nat) (p1 : Int32) (s : o_S) : Option (Int32 × o_S) :=
  o_do (o_setF s 15 (0 : Int32)) fun s1 =>
  o_bi (f_X7_isNode N p1 s1) fun x4 s2 =>
  if x4 = 0 then
    (o_bi (f_X7_fail N (1 : Int32) s2) fun x8 s6 =>
     some (x8, s6))
  else
    (if p1 < 0 ∨ 1500 ≤ Int32.toNatClampNeg p1 then none else
     o_do (o_A s2 10 (Int32.toNatClampNeg p1)) fun x10 =>
     if x10 < 0 ∨ 1500 ≤ Int32.toNatClampNeg x10 then none else
     o_do (o_A s2 5 (Int32.toNatClampNeg x10)) fun x12 =>
     some (x12, s2))
-- X7_column
def f_X7_column (N : Nat) (p1 : Int32) (s : o_S) : Option (Int32 × o_S) :=
  o_do (o_setF s 15 (0 : Int32)) fun s1 =>
  o_bi (f_X7_isNode N p1 s1) fun x4 s2 =>
  if x4 = 0 then
    (o_bi (f_X7_fail N (1 : Int32) s2) fun x8 s6 =>
     some (x8, s6))
  else
    (if p1 < 0 ∨ 1500 ≤ Int32.toNatClampNeg p1 then none else
     o_do (o_A s2 10 (Int32.toNatClampNeg p1)) fun x10 =>
     if x10 < 0 ∨ 1500 ≤ Int32.toNatClampNeg x10 then none else
     o_do (o_A s2 6 (Int32.toNatClampNeg x10)) fun x12 =>
     some (x12, s2))
-- X7_value
def f_X7_value (N : Nat) (p1 : Int32) (s : o_S) : Option (Int32 × o_S) :=
  o_do (o_setF s 15 (0 : Int32)) fun s1 =>
  o_bi (f_X7_isNode N p1 s1) fun x4 s2 =>
  if x4 = 0 then
    (o_bi (f_X7_fail N (1 : Int32) s2) fun x8 s6 =>
     some (x8, s6))
  else
    (if p1 < 0 ∨ 1500 ≤ Int32.toNatClampNeg p1 then none else
     o_do (o_A s2 10 (Int32.toNatClampNeg p1)) fun x10 =>
     if x10 < 0 ∨ 1500 ≤ Int32.toNatClampNeg x10 then none else
     o_do (o_A s2 7 (Int32.toNatClampNeg x10)) fun x12 =>
     some (x12, s2))
-- X7_letter
def f_X7_letter (N : Nat) (p1 : Int32) (p2 : Int32) (s : o_S) : Option (Int32 × o_S) :=
  o_do (o_setF s 15 (0 : Int32)) fun s1 =>
  o_bi (f_X7_isNode N p1 s1) fun x4 s2 =>
  if x4 = 0 then
    (o_bi (f_X7_fail N (1 : Int32) s2) fun x21 s19 =>
     some (x21, s19))
  else
    (if p1 < 0 ∨ 1500 ≤ Int32.toNatClampNeg p1 then none else
     o_do (o_A s2 10 (Int32.toNatClampNeg p1)) fun x7 =>
     if x7 < 0 ∨ 1500 ≤ Int32.toNatClampNeg x7 then none else
     o_do (o_A s2 1 (Int32.toNatClampNeg x7)) fun x9 =>
     if x9 = (2 : Int32) then
       (if p2 < 0 then
          (some ((-1 : Int32), s2))
        else
          (if x7 < 0 ∨ 1500 ≤ Int32.toNatClampNeg x7 then none else
           o_do (o_A s2 7 (Int32.toNatClampNeg x7)) fun x13 =>
           if x13 ≤ p2 then
             (some ((-1 : Int32), s2))
           else
             (if x7 < 0 ∨ 1500 ≤ Int32.toNatClampNeg x7 then none else
              o_do (o_A s2 8 (Int32.toNatClampNeg x7)) fun x16 =>
              if (x16 + p2) < 0 ∨ 12600 ≤ Int32.toNatClampNeg (x16 + p2) then none else
              o_do (o_A s2 9 (Int32.toNatClampNeg (x16 + p2))) fun x18 =>
              some (x18, s2))))
     else
       (some ((-1 : Int32), s2)))
-- X7_depthOf
def f_X7_depthOf_b42 (N : Nat) (k10 : Int32 → Int32 → Int32 → o_S → Option (Int32 × o_S)) (l2 : Int32) (l4 : Int32) (y0 : Int32) (s : o_S) : Option (Int32 × o_S) :=
  if l4 < 0 ∨ 1500 ≤ Int32.toNatClampNeg l4 then none else
  o_do (o_A s 2 (Int32.toNatClampNeg l4)) fun x8 =>
  k10 l2 (y0 + (1 : Int32)) x8 s
def f_X7_depthOf_b46 (N : Nat) (k10 : Int32 → Int32 → Int32 → o_S → Option (Int32 × o_S)) (l2 : Int32) (l4 : Int32) (y0 : Int32) (s : o_S) : Option (Int32 × o_S) :=
  if l4 < 0 ∨ 1500 ≤ Int32.toNatClampNeg l4 then none else
  o_do (o_A s 2 (Int32.toNatClampNeg l4)) fun x11 =>
  k10 l2 (y0 + (0 : Int32)) x11 s
def f_X7_depthOf_L10 (N : Nat) : Nat → Int32 → Int32 → Int32 → o_S → Option (Int32 × o_S)
  | 0, _, _, _, _ => none
  | n + 1, l2, l3, l4, s =>
    if l4 = (-1 : Int32) then
      (some (l3, s))
    else
      (if l4 < 0 ∨ 1500 ≤ Int32.toNatClampNeg l4 then none else
       o_do (o_A s 1 (Int32.toNatClampNeg l4)) fun x5 =>
       if x5 = 0 then
         (f_X7_depthOf_b42 N (f_X7_depthOf_L10 N n) l2 l4 l3 s)
       else
         (if l2 = 0 then
            (f_X7_depthOf_b46 N (f_X7_depthOf_L10 N n) l2 l4 l3 s)
          else
            (if l4 < 0 ∨ 1500 ≤ Int32.toNatClampNeg l4 then none else
             o_do (o_A s 1 (Int32.toNatClampNeg l4)) fun x13 =>
             if x13 = (4 : Int32) then
               (f_X7_depthOf_b42 N (f_X7_depthOf_L10 N n) l2 l4 l3 s)
             else
               (f_X7_depthOf_b46 N (f_X7_depthOf_L10 N n) l2 l4 l3 s))))
def f_X7_depthOf (N : Nat) (p1 : Int32) (p2 : Int32) (s : o_S) : Option (Int32 × o_S) :=
  if p1 < 0 ∨ 1500 ≤ Int32.toNatClampNeg p1 then none else
  o_do (o_A s 2 (Int32.toNatClampNeg p1)) fun x2 =>
  f_X7_depthOf_L10 N N p2 (0 : Int32) x2 s
-- X7_depth
def f_X7_depth (N : Nat) (p1 : Int32) (s : o_S) : Option (Int32 × o_S) :=
  o_do (o_setF s 15 (0 : Int32)) fun s1 =>
  o_bi (f_X7_isNode N p1 s1) fun x4 s2 =>
  if x4 = 0 then
    (o_bi (f_X7_fail N (1 : Int32) s2) fun x8 s6 =>
     some (x8, s6))
  else
    (if p1 < 0 ∨ 1500 ≤ Int32.toNatClampNeg p1 then none else
     o_do (o_A s2 10 (Int32.toNatClampNeg p1)) fun x10 =>
     o_bi (f_X7_depthOf N x10 (0 : Int32) s2) fun x13 s11 =>
     some (x13, s11))
-- X7_isFed
def f_X7_isFed_L24 (N : Nat) : Nat → Int32 → Int32 → Int32 → o_S → Option (Int32 × o_S)
  | 0, _, _, _, _ => none
  | n + 1, l1, l2, l3, s =>
    if l2 ≤ l3 then
      (some ((1 : Int32), s))
    else
      (if l1 < 0 ∨ 1500 ≤ Int32.toNatClampNeg l1 then none else
       o_do (o_A s 8 (Int32.toNatClampNeg l1)) fun x9 =>
       if (x9 + l3) < 0 ∨ 12600 ≤ Int32.toNatClampNeg (x9 + l3) then none else
       o_do (o_A s 9 (Int32.toNatClampNeg (x9 + l3))) fun x11 =>
       if l3 < 0 ∨ 8 ≤ Int32.toNatClampNeg l3 then none else
       o_do (o_A s 14 (Int32.toNatClampNeg l3)) fun x13 =>
       if x11 = x13 then
         (f_X7_isFed_L24 N n l1 l2 (l3 + 1) s)
       else
         (some ((0 : Int32), s)))
def f_X7_isFed (N : Nat) (p1 : Int32) (p2 : Int32) (s : o_S) : Option (Int32 × o_S) :=
  if p1 < 0 ∨ 1500 ≤ Int32.toNatClampNeg p1 then none else
  o_do (o_A s 1 (Int32.toNatClampNeg p1)) fun x2 =>
  if x2 = (2 : Int32) then
    (if p1 < 0 ∨ 1500 ≤ Int32.toNatClampNeg p1 then none else
     o_do (o_A s 7 (Int32.toNatClampNeg p1)) fun x5 =>
     if x5 = p2 then
       (f_X7_isFed_L24 N N p1 p2 (0 : Int32) s)
     else
       (some ((0 : Int32), s)))
  else
    (some ((0 : Int32), s))
-- X7_find
def f_X7_find_L18 (N : Nat) : Nat → Int32 → Int32 → Int32 → o_S → Option (Int32 × o_S)
  | 0, _, _, _, _ => none
  | n + 1, l4, l5, l6, s =>
    if (o_F s 18) ≤ l6 then
      (some ((-1 : Int32), s))
    else
      (if l5 < 0 then
         (some ((-1 : Int32), s))
       else
         (if l6 < 0 ∨ 1500 ≤ Int32.toNatClampNeg l6 then none else
          o_do (o_A s 10 (Int32.toNatClampNeg l6)) fun x8 =>
          o_bi (f_X7_isFed N x8 l4 s) fun x11 s9 =>
          if x11 = 0 then
            (f_X7_find_L18 N n l4 l5 (l6 + 1) s9)
          else
            (if l5 = 0 then
               (some (l6, s9))
             else
               (f_X7_find_L18 N n l4 (l5 + (-1)) (l6 + 1) s9))))
def f_X7_find (N : Nat) (p1 : Int64) (p2 : Int32) (s : o_S) : Option (Int32 × o_S) :=
  o_do (o_setF s 15 (0 : Int32)) fun s1 =>
  o_bi (f_X7_take N p1 s1) fun x4 s2 =>
  f_X7_find_L18 N N x4 p2 (0 : Int32) s2
-- X7_areSame
def f_X7_areSame_L34 (N : Nat) : Nat → Int32 → Int32 → Int32 → o_S → Option (Int32 × o_S)
  | 0, _, _, _, _ => none
  | n + 1, l1, l2, l3, s =>
    if l1 < 0 ∨ 1500 ≤ Int32.toNatClampNeg l1 then none else
    o_do (o_A s 7 (Int32.toNatClampNeg l1)) fun x12 =>
    if x12 ≤ l3 then
      (some ((1 : Int32), s))
    else
      (if l1 < 0 ∨ 1500 ≤ Int32.toNatClampNeg l1 then none else
       o_do (o_A s 8 (Int32.toNatClampNeg l1)) fun x15 =>
       if (x15 + l3) < 0 ∨ 12600 ≤ Int32.toNatClampNeg (x15 + l3) then none else
       o_do (o_A s 9 (Int32.toNatClampNeg (x15 + l3))) fun x17 =>
       if l2 < 0 ∨ 1500 ≤ Int32.toNatClampNeg l2 then none else
       o_do (o_A s 8 (Int32.toNatClampNeg l2)) fun x19 =>
       if (x19 + l3) < 0 ∨ 12600 ≤ Int32.toNatClampNeg (x19 + l3) then none else
       o_do (o_A s 9 (Int32.toNatClampNeg (x19 + l3))) fun x21 =>
       if x17 = x21 then
         (f_X7_areSame_L34 N n l1 l2 (l3 + 1) s)
       else
         (some ((0 : Int32), s)))
def f_X7_areSame (N : Nat) (p1 : Int32) (p2 : Int32) (s : o_S) : Option (Int32 × o_S) :=
  if p1 < 0 ∨ 1500 ≤ Int32.toNatClampNeg p1 then none else
  o_do (o_A s 1 (Int32.toNatClampNeg p1)) fun x2 =>
  if p2 < 0 ∨ 1500 ≤ Int32.toNatClampNeg p2 then none else
  o_do (o_A s 1 (Int32.toNatClampNeg p2)) fun x4 =>
  if x2 = x4 then
    (if p1 < 0 ∨ 1500 ≤ Int32.toNatClampNeg p1 then none else
     o_do (o_A s 7 (Int32.toNatClampNeg p1)) fun x7 =>
     if p2 < 0 ∨ 1500 ≤ Int32.toNatClampNeg p2 then none else
     o_do (o_A s 7 (Int32.toNatClampNeg p2)) fun x9 =>
     if x7 = x9 then
       (f_X7_areSame_L34 N N p1 p2 (0 : Int32) s)
     else
       (some ((0 : Int32), s)))
  else
    (some ((0 : Int32), s))
-- X7_words
def f_X7_words_b78 (N : Nat) (k4 : Int32 → Int32 → o_S → Option (Int32 × o_S)) (l1 : Int32) (l2 : Int32) (l3 : Int32) (s : o_S) : Option (Int32 × o_S) :=
  if l3 = 0 then
    (k4 (l1 + (0 : Int32)) (l2 + 1) s)
  else
    (k4 (l1 + (1 : Int32)) (l2 + 1) s)
def f_X7_words_L36 (N : Nat) (k4 : Int32 → Int32 → o_S → Option (Int32 × o_S)) : Nat → Int32 → Int32 → Int32 → Int32 → o_S → Option (Int32 × o_S)
  | 0, _, _, _, _, _ => none
  | n + 1, l1, l2, l3, l4, s =>
    if l2 ≤ l4 then
      (f_X7_words_b78 N k4 l1 l2 l3 s)
    else
      (if l3 = 0 then
         (f_X7_words_b78 N k4 l1 l2 l3 s)
       else
         (if l4 < 0 ∨ 1500 ≤ Int32.toNatClampNeg l4 then none else
          o_do (o_A s 10 (Int32.toNatClampNeg l4)) fun x11 =>
          if l2 < 0 ∨ 1500 ≤ Int32.toNatClampNeg l2 then none else
          o_do (o_A s 10 (Int32.toNatClampNeg l2)) fun x13 =>
          o_bi (f_X7_areSame N x11 x13 s) fun x16 s14 =>
          if x16 = 0 then
            (f_X7_words_L36 N k4 n l1 l2 (1 : Int32) (l4 + 1) s14)
          else
            (f_X7_words_L36 N k4 n l1 l2 (0 : Int32) (l4 + 1) s14)))
def f_X7_words_L4 (N : Nat) : Nat → Int32 → Int32 → o_S → Option (Int32 × o_S)
  | 0, _, _, _ => none
  | n + 1, l1, l2, s =>
    if (o_F s 18) ≤ l2 then
      (some (l1, s))
    else
      (if l2 < 0 ∨ 1500 ≤ Int32.toNatClampNeg l2 then none else
       o_do (o_A s 10 (Int32.toNatClampNeg l2)) fun x3 =>
       if x3 < 0 ∨ 1500 ≤ Int32.toNatClampNeg x3 then none else
       o_do (o_A s 1 (Int32.toNatClampNeg x3)) fun x5 =>
       if x5 = (2 : Int32) then
         (f_X7_words_L36 N (f_X7_words_L4 N n) N l1 l2 (1 : Int32) (0 : Int32) s)
       else
         (f_X7_words_L36 N (f_X7_words_L4 N n) N l1 l2 (0 : Int32) (0 : Int32) s))
def f_X7_words (N : Nat) (s : o_S) : Option (Int32 × o_S) :=
  f_X7_words_L4 N N (0 : Int32) (0 : Int32) s
-- X7_wordCount
def f_X7_wordCount (N : Nat) (s : o_S) : Option (Int32 × o_S) :=
  o_do (o_setF s 15 (0 : Int32)) fun s1 =>
  o_bi (f_X7_words N  s1) fun x4 s2 =>
  some (x4, s2)
-- X7_isItem
def f_X7_isItem (N : Nat) (p1 : Int32) (s : o_S) : Option (Int32 × o_S) :=
  if p1 < 0 ∨ 1500 ≤ Int32.toNatClampNeg p1 then none else
  o_do (o_A s 10 (Int32.toNatClampNeg p1)) fun x2 =>
  if x2 < 0 ∨ 1500 ≤ Int32.toNatClampNeg x2 then none else
  o_do (o_A s 1 (Int32.toNatClampNeg x2)) fun x4 =>
  if x4 = (1 : Int32) then
    (some ((1 : Int32), s))
  else
    (some ((0 : Int32), s))
-- X7_remove
def f_X7_remove (N : Nat) (p1 : Int32) (s : o_S) : Option (Int32 × o_S) :=
  o_do (o_setF s 15 (0 : Int32)) fun s1 =>
  o_bi (f_X7_isNode N p1 s1) fun x4 s2 =>
  if x4 = 0 then
    (o_bi (f_X7_fail N (1 : Int32) s2) fun x21 s19 =>
     some (x21, s19))
  else
    (o_bi (f_X7_isItem N p1 s2) fun x8 s6 =>
     if x8 = 0 then
       (o_bi (f_X7_fail N (2 : Int32) s6) fun x18 s16 =>
        some (x18, s16))
     else
       (if p1 < 0 ∨ 1500 ≤ Int32.toNatClampNeg p1 then none else
        o_do (o_A s6 10 (Int32.toNatClampNeg p1)) fun x11 =>
        o_bv (f_X7_takeOut N x11 s6) fun s12 =>
        o_bv (f_X7_number N  s12) fun s14 =>
        some ((o_F s14 18), s14)))
-- X7_isWithin
def f_X7_isWithin_L2 (N : Nat) : Nat → Int32 → Int32 → o_S → Option (Int32 × o_S)
  | 0, _, _, _ => none
  | n + 1, l2, l3, s =>
    if l3 = (-1 : Int32) then
      (if l3 = l2 then
         (some ((1 : Int32), s))
       else
         (some ((0 : Int32), s)))
    else
      (if l3 = l2 then
         (if l3 = l2 then
            (some ((1 : Int32), s))
          else
            (some ((0 : Int32), s)))
       else
         (if l3 < 0 ∨ 1500 ≤ Int32.toNatClampNeg l3 then none else
          o_do (o_A s 2 (Int32.toNatClampNeg l3)) fun x6 =>
          f_X7_isWithin_L2 N n l2 x6 s))
def f_X7_isWithin (N : Nat) (p1 : Int32) (p2 : Int32) (s : o_S) : Option (Int32 × o_S) :=
  f_X7_isWithin_L2 N N p2 p1 s
-- X7_heightOf
def f_X7_heightOf_b28 (N : Nat) (k4 : Int32 → Int32 → Int32 → o_S → Option (Int32 × o_S)) (l1 : Int32) (l2 : Int32) (l3 : Int32) (s : o_S) : Option (Int32 × o_S) :=
  o_bi (f_X7_depthOf N l3 (1 : Int32) s) fun x7 s5 =>
  o_bi (f_X7_depthOf N l1 (1 : Int32) s5) fun x10 s8 =>
  o_bi (f_X7_following N l3 l1 s8) fun x13 s11 =>
  k4 l1 (if l2 < ((x7 - x10) + (1 : Int32)) then ((x7 - x10) + (1 : Int32)) else l2) x13 s11
def f_X7_heightOf_L4 (N : Nat) : Nat → Int32 → Int32 → Int32 → o_S → Option (Int32 × o_S)
  | 0, _, _, _, _ => none
  | n + 1, l1, l2, l3, s =>
    if l3 = (-1 : Int32) then
      (some (l2, s))
    else
      (if l3 < 0 ∨ 1500 ≤ Int32.toNatClampNeg l3 then none else
       o_do (o_A s 1 (Int32.toNatClampNeg l3)) fun x3 =>
       if x3 = 0 then
         (f_X7_heightOf_b28 N (f_X7_heightOf_L4 N n) l1 l2 l3 s)
       else
         (if l3 < 0 ∨ 1500 ≤ Int32.toNatClampNeg l3 then none else
          o_do (o_A s 1 (Int32.toNatClampNeg l3)) fun x15 =>
          if x15 = (4 : Int32) then
            (f_X7_heightOf_b28 N (f_X7_heightOf_L4 N n) l1 l2 l3 s)
          else
            (o_bi (f_X7_following N l3 l1 s) fun x19 s17 =>
             f_X7_heightOf_L4 N n l1 l2 x19 s17)))
def f_X7_heightOf (N : Nat) (p1 : Int32) (s : o_S) : Option (Int32 × o_S) :=
  f_X7_heightOf_L4 N N p1 (0 : Int32) p1 s
-- X7_move
def f_X7_move_b123 (N : Nat) (l3 : Int32) (l4 : Int32) (l5 : Int32) (y0 : Int32) (y1 : Int32) (s : o_S) : Option (Int32 × o_S) :=
  if l3 < 0 then
    (o_bi (f_X7_fail N (2 : Int32) s) fun x52 s50 =>
     some (x52, s50))
  else
    (if l3 ≤ (y1 - y0) then
       (o_bv (f_X7_takeOut N l4 s) fun s54 =>
        o_bv (f_X7_insert N l4 l5 l3 s54) fun s56 =>
        o_bv (f_X7_number N  s56) fun s58 =>
        if l4 < 0 ∨ 1500 ≤ Int32.toNatClampNeg l4 then none else
        o_do (o_A s58 11 (Int32.toNatClampNeg l4)) fun x61 =>
        some (x61, s58))
     else
       (o_bi (f_X7_fail N (2 : Int32) s) fun x64 s62 =>
        some (x64, s62)))
def f_X7_move (N : Nat) (p1 : Int32) (p2 : Int32) (p3 : Int32) (s : o_S) : Option (Int32 × o_S) :=
  o_do (o_setF s 15 (0 : Int32)) fun s1 =>
  o_bi (f_X7_isNode N p1 s1) fun x4 s2 =>
  if x4 = 0 then
    (o_bi (f_X7_fail N (1 : Int32) s2) fun x8 s6 =>
     some (x8, s6))
  else
    (o_bi (f_X7_isNode N p2 s2) fun x11 s9 =>
     if x11 = 0 then
       (o_bi (f_X7_fail N (1 : Int32) s9) fun x70 s68 =>
        some (x70, s68))
     else
       (if p1 < 0 ∨ 1500 ≤ Int32.toNatClampNeg p1 then none else
        o_do (o_A s9 10 (Int32.toNatClampNeg p1)) fun x14 =>
        if p2 < 0 ∨ 1500 ≤ Int32.toNatClampNeg p2 then none else
        o_do (o_A s9 10 (Int32.toNatClampNeg p2)) fun x16 =>
        if x14 < 0 ∨ 1500 ≤ Int32.toNatClampNeg x14 then none else
        o_do (o_A s9 1 (Int32.toNatClampNeg x14)) fun x18 =>
        if x18 = (1 : Int32) then
          (if x16 < 0 ∨ 1500 ≤ Int32.toNatClampNeg x16 then none else
           o_do (o_A s9 1 (Int32.toNatClampNeg x16)) fun x24 =>
           if x24 = 0 then
             (o_bi (f_X7_isWithin N x16 x14 s9) fun x31 s29 =>
              if x31 = 0 then
                (o_bi (f_X7_depthOf N x16 (1 : Int32) s29) fun x38 s36 =>
                 o_bi (f_X7_heightOf N x14 s36) fun x41 s39 =>
                 if (x38 + x41) ≤ (30 : Int32) then
                   (o_bi (f_X7_countOf N x16 s39) fun x45 s43 =>
                    if x14 < 0 ∨ 1500 ≤ Int32.toNatClampNeg x14 then none else
                    o_do (o_A s43 2 (Int32.toNatClampNeg x14)) fun x47 =>
                    if x47 = x16 then
                      (f_X7_move_b123 N p3 x14 x16 (1 : Int32) x45 s43)
                    else
                      (f_X7_move_b123 N p3 x14 x16 (0 : Int32) x45 s43))
                 else
                   (o_bi (f_X7_fail N (2 : Int32) s39) fun x67 s65 =>
                    some (x67, s65)))
              else
                (o_bi (f_X7_fail N (2 : Int32) s29) fun x35 s33 =>
                 some (x35, s33)))
           else
             (o_bi (f_X7_fail N (2 : Int32) s9) fun x28 s26 =>
              some (x28, s26)))
        else
          (o_bi (f_X7_fail N (2 : Int32) s9) fun x22 s20 =>
           some (x22, s20))))
-- X7_rename
def f_X7_rename_L162 (N : Nat) : Nat → Int32 → Int32 → Int32 → o_S → Option (Int32 × o_S)
  | 0, _, _, _, _ => none
  | n + 1, l4, l6, l7, s =>
    if l4 ≤ l7 then
      (some (l4, s))
    else
      (if l6 < 0 ∨ 1500 ≤ Int32.toNatClampNeg l6 then none else
       o_do (o_A s 8 (Int32.toNatClampNeg l6)) fun x26 =>
       if l7 < 0 ∨ 8 ≤ Int32.toNatClampNeg l7 then none else
       o_do (o_A s 14 (Int32.toNatClampNeg l7)) fun x28 =>
       if (x26 + l7) < 0 ∨ 12600 ≤ Int32.toNatClampNeg (x26 + l7) then none else
       o_do (o_setA s 9 (Int32.toNatClampNeg (x26 + l7)) x28) fun s30 =>
       f_X7_rename_L162 N n l4 l6 (l7 + 1) s30)
def f_X7_rename_L53 (N : Nat) : Nat → Int32 → Int32 → Int32 → Int32 → o_S → Option (Int32 × o_S)
  | 0, _, _, _, _, _ => none
  | n + 1, l1, l4, l5, l6, s =>
    if l4 ≤ l6 then
      (if l1 < 0 ∨ 1500 ≤ Int32.toNatClampNeg l1 then none else
       o_do (o_A s 10 (Int32.toNatClampNeg l1)) fun x12 =>
       if x12 < 0 ∨ 1500 ≤ Int32.toNatClampNeg x12 then none else
       o_do (o_A s 1 (Int32.toNatClampNeg x12)) fun x14 =>
       if x14 = (2 : Int32) then
         (if l5 = 0 then
            (o_bi (f_X7_fail N (2 : Int32) s) fun x33 s31 =>
             some (x33, s31))
          else
            (if x12 < 0 ∨ 1500 ≤ Int32.toNatClampNeg x12 then none else
             o_do (o_setA s 8 (Int32.toNatClampNeg x12) ((600 : Int32) + ((8 : Int32) * x12))) fun s21 =>
             if x12 < 0 ∨ 1500 ≤ Int32.toNatClampNeg x12 then none else
             o_do (o_setA s21 7 (Int32.toNatClampNeg x12) l4) fun s23 =>
             f_X7_rename_L162 N N l4 x12 (0 : Int32) s23))
       else
         (o_bi (f_X7_fail N (2 : Int32) s) fun x18 s16 =>
          some (x18, s16)))
    else
      (if l5 = 0 then
         (f_X7_rename_L53 N n l1 l4 (0 : Int32) (l6 + 1) s)
       else
         (if l6 < 0 ∨ 8 ≤ Int32.toNatClampNeg l6 then none else
          o_do (o_A s 14 (Int32.toNatClampNeg l6)) fun x36 =>
          o_bi (f_X7_isLetter N x36 s) fun x39 s37 =>
          if x39 = 0 then
            (if l6 < 0 ∨ 8 ≤ Int32.toNatClampNeg l6 then none else
             o_do (o_A s37 14 (Int32.toNatClampNeg l6)) fun x42 =>
             o_bi (f_X7_isDigit N x42 s37) fun x45 s43 =>
             if x45 = 0 then
               (f_X7_rename_L53 N n l1 l4 (0 : Int32) (l6 + 1) s43)
             else
               (f_X7_rename_L53 N n l1 l4 (1 : Int32) (l6 + 1) s43))
          else
            (f_X7_rename_L53 N n l1 l4 (1 : Int32) (l6 + 1) s37)))
def f_X7_rename (N : Nat) (p1 : Int32) (p2 : Int64) (s : o_S) : Option (Int32 × o_S) :=
  o_do (o_setF s 15 (0 : Int32)) fun s1 =>
  o_bi (f_X7_isNode N p1 s1) fun x4 s2 =>
  if x4 = 0 then
    (o_bi (f_X7_fail N (1 : Int32) s2) fun x55 s53 =>
     some (x55, s53))
  else
    (o_bi (f_X7_take N p2 s2) fun x8 s6 =>
     if x8 ≤ 0 then
       (f_X7_rename_L53 N N p1 x8 (0 : Int32) (0 : Int32) s6)
     else
       (if (0 : Int32) < 0 ∨ 8 ≤ Int32.toNatClampNeg (0 : Int32) then none else
        o_do (o_A s6 14 (Int32.toNatClampNeg (0 : Int32))) fun x48 =>
        o_bi (f_X7_isLetter N x48 s6) fun x51 s49 =>
        if x51 = 0 then
          (f_X7_rename_L53 N N p1 x8 (0 : Int32) (0 : Int32) s49)
        else
          (f_X7_rename_L53 N N p1 x8 (1 : Int32) (0 : Int32) s49)))
-- X7_put
def f_X7_put (N : Nat) (p1 : Int32) (s : o_S) : Option o_S :=
  if (o_F s 20) < 0 ∨ 60000 ≤ Int32.toNatClampNeg (o_F s 20) then none else
  o_do (o_setA s 13 (Int32.toNatClampNeg (o_F s 20)) p1) fun s2 =>
  o_do (o_setF s2 20 ((o_F s2 20) + (1 : Int32))) fun s3 =>
  some s3
-- gN
def f_X7_putNumber (N : Nat) (rec : Nat → Int32 → Int32 → Int32 → o_S → Option o_S) (p1 : Int32) (s : o_S) : Option o_S :=
  if p1 ≤ (9 : Int32) then
    (o_bv (f_X7_put N ((p1 - p1 / (10 : Int32) * (10 : Int32)) + (48 : Int32)) s) fun s2 =>
     some s2)
  else
    (o_bv (rec 0 (p1 / (10 : Int32)) 0 0 s) fun s4 =>
     o_bv (f_X7_put N ((p1 - p1 / (10 : Int32) * (10 : Int32)) + (48 : Int32)) s4) fun s6 =>
     some s6)
def f_gN (N : Nat) : Nat → Nat → Int32 → Int32 → Int32 → o_S → Option o_S
  | 0, _, _, _, _, _ => none
  | d + 1, sel, a, b, c, s => f_X7_putNumber N (f_gN N d) a s
-- gA
def f_X7_putAll_b62 (N : Nat) (rec : Nat → Int32 → Int32 → Int32 → o_S → Option o_S) (k8 : Int32 → Int32 → Int32 → Int32 → o_S → Option o_S) (l1 : Int32) (l2 : Int32) (l3 : Int32) (l4 : Int32) (s : o_S) : Option o_S :=
  o_bv (rec 1 l4 0 0 s) fun s10 =>
  if l4 < 0 ∨ 1500 ≤ Int32.toNatClampNeg l4 then none else
  o_do (o_A s10 4 (Int32.toNatClampNeg l4)) fun x13 =>
  k8 l1 l2 l3 x13 s10
def f_X7_putAll_b35 (N : Nat) (rec : Nat → Int32 → Int32 → Int32 → o_S → Option o_S) (k8 : Int32 → Int32 → Int32 → Int32 → o_S → Option o_S) (l1 : Int32) (l2 : Int32) (l3 : Int32) (l4 : Int32) (s : o_S) : Option o_S :=
  if l1 < 0 ∨ 1500 ≤ Int32.toNatClampNeg l1 then none else
  o_do (o_A s 3 (Int32.toNatClampNeg l1)) fun x8 =>
  if l4 = x8 then
    (f_X7_putAll_b62 N rec k8 l1 l2 l3 l4 s)
  else
    (if l4 < 0 ∨ 1500 ≤ Int32.toNatClampNeg l4 then none else
     o_do (o_A s 1 (Int32.toNatClampNeg l4)) fun x15 =>
     if x15 = 0 then
       (f_X7_putAll_b62 N rec k8 l1 l2 l3 l4 s)
     else
       (o_bv (f_X7_put N (32 : Int32) s) fun s17 =>
        f_X7_putAll_b62 N rec k8 l1 l2 l3 l4 s17))
def f_X7_putAll_L8 (N : Nat) (rec : Nat → Int32 → Int32 → Int32 → o_S → Option o_S) : Nat → Int32 → Int32 → Int32 → Int32 → o_S → Option o_S
  | 0, _, _, _, _, _ => none
  | n + 1, l1, l2, l3, l4, s =>
    if l4 = l3 then
      (some s)
    else
      (if l1 < 0 ∨ 1500 ≤ Int32.toNatClampNeg l1 then none else
       o_do (o_A s 3 (Int32.toNatClampNeg l1)) fun x5 =>
       if l4 = x5 then
         (f_X7_putAll_b35 N rec (f_X7_putAll_L8 N rec n) l1 l2 l3 l4 s)
       else
         (if l2 = 0 then
            (f_X7_putAll_b35 N rec (f_X7_putAll_L8 N rec n) l1 l2 l3 l4 s)
          else
            (o_bv (f_X7_put N (59 : Int32) s) fun s20 =>
             f_X7_putAll_b35 N rec (f_X7_putAll_L8 N rec n) l1 l2 l3 l4 s20)))
def f_X7_putAll (N : Nat) (rec : Nat → Int32 → Int32 → Int32 → o_S → Option o_S) (p1 : Int32) (p2 : Int32) (p3 : Int32) (s : o_S) : Option o_S :=
  if p1 < 0 ∨ 1500 ≤ Int32.toNatClampNeg p1 then none else
  o_do (o_A s 3 (Int32.toNatClampNeg p1)) fun x2 =>
  f_X7_putAll_L8 N rec N p1 p2 p3 x2 s
def f_X7_putNode_b155 (N : Nat) (rec : Nat → Int32 → Int32 → Int32 → o_S → Option o_S) (l1 : Int32) (s : o_S) : Option o_S :=
  o_bv (rec 0 l1 (1 : Int32) (-1 : Int32) s) fun s25 =>
  o_bv (f_X7_put N (32 : Int32) s25) fun s27 =>
  o_bv (f_X7_put N (125 : Int32) s27) fun s29 =>
  some s29
def f_X7_putNode_b111 (N : Nat) (rec : Nat → Int32 → Int32 → Int32 → o_S → Option o_S) (l1 : Int32) (s : o_S) : Option o_S :=
  if l1 < 0 ∨ 1500 ≤ Int32.toNatClampNeg l1 then none else
  o_do (o_A s 1 (Int32.toNatClampNeg l1)) fun x14 =>
  if x14 = 0 then
    (o_bv (f_X7_put N (58 : Int32) s) fun s16 =>
     o_bv (f_X7_put N (32 : Int32) s16) fun s18 =>
     o_bv (f_X7_put N (123 : Int32) s18) fun s20 =>
     if l1 < 0 ∨ 1500 ≤ Int32.toNatClampNeg l1 then none else
     o_do (o_A s20 3 (Int32.toNatClampNeg l1)) fun x23 =>
     if x23 = (-1 : Int32) then
       (f_X7_putNode_b155 N rec l1 s20)
     else
       (o_bv (f_X7_put N (32 : Int32) s20) fun s31 =>
        f_X7_putNode_b155 N rec l1 s31))
  else
    (some s)
def f_X7_putNode_b82 (N : Nat) (rec : Nat → Int32 → Int32 → Int32 → o_S → Option o_S) (l1 : Int32) (s : o_S) : Option o_S :=
  if l1 < 0 ∨ 1500 ≤ Int32.toNatClampNeg l1 then none else
  o_do (o_A s 1 (Int32.toNatClampNeg l1)) fun x11 =>
  if x11 = (4 : Int32) then
    (o_bv (f_X7_put N (40 : Int32) s) fun s33 =>
     o_bv (rec 0 l1 (0 : Int32) (-1 : Int32) s33) fun s35 =>
     o_bv (f_X7_put N (41 : Int32) s35) fun s37 =>
     f_X7_putNode_b111 N rec l1 s37)
  else
    (f_X7_putNode_b111 N rec l1 s)
def f_X7_putNode_b65 (N : Nat) (rec : Nat → Int32 → Int32 → Int32 → o_S → Option o_S) (l1 : Int32) (s : o_S) : Option o_S :=
  if l1 < 0 ∨ 1500 ≤ Int32.toNatClampNeg l1 then none else
  o_do (o_A s 1 (Int32.toNatClampNeg l1)) fun x8 =>
  if x8 = (1 : Int32) then
    (o_bv (rec 0 l1 (0 : Int32) (-1 : Int32) s) fun s39 =>
     f_X7_putNode_b82 N rec l1 s39)
  else
    (f_X7_putNode_b82 N rec l1 s)
def f_X7_putNode_b45 (N : Nat) (rec : Nat → Int32 → Int32 → Int32 → o_S → Option o_S) (l1 : Int32) (s : o_S) : Option o_S :=
  if l1 < 0 ∨ 1500 ≤ Int32.toNatClampNeg l1 then none else
  o_do (o_A s 1 (Int32.toNatClampNeg l1)) fun x5 =>
  if x5 = (3 : Int32) then
    (if l1 < 0 ∨ 1500 ≤ Int32.toNatClampNeg l1 then none else
     o_do (o_A s 7 (Int32.toNatClampNeg l1)) fun x42 =>
     o_bv (f_gN N 200 0 x42 0 0 s) fun s43 =>
     f_X7_putNode_b65 N rec l1 s43)
  else
    (f_X7_putNode_b65 N rec l1 s)
def f_X7_putNode_L12 (N : Nat) (rec : Nat → Int32 → Int32 → Int32 → o_S → Option o_S) : Nat → Int32 → Int32 → o_S → Option o_S
  | 0, _, _, _ => none
  | n + 1, l1, l2, s =>
    if l1 < 0 ∨ 1500 ≤ Int32.toNatClampNeg l1 then none else
    o_do (o_A s 7 (Int32.toNatClampNeg l1)) fun x46 =>
    if x46 ≤ l2 then
      (f_X7_putNode_b45 N rec l1 s)
    else
      (if l1 < 0 ∨ 1500 ≤ Int32.toNatClampNeg l1 then none else
       o_do (o_A s 8 (Int32.toNatClampNeg l1)) fun x49 =>
       if (x49 + l2) < 0 ∨ 12600 ≤ Int32.toNatClampNeg (x49 + l2) then none else
       o_do (o_A s 9 (Int32.toNatClampNeg (x49 + l2))) fun x51 =>
       o_bv (f_X7_put N x51 s) fun s52 =>
       f_X7_putNode_L12 N rec n l1 (l2 + 1) s52)
def f_X7_putNode (N : Nat) (rec : Nat → Int32 → Int32 → Int32 → o_S → Option o_S) (p1 : Int32) (s : o_S) : Option o_S :=
  if p1 < 0 ∨ 1500 ≤ Int32.toNatClampNeg p1 then none else
  o_do (o_A s 1 (Int32.toNatClampNeg p1)) fun x2 =>
  if x2 = (2 : Int32) then
    (f_X7_putNode_L12 N rec N p1 (0 : Int32) s)
  else
    (f_X7_putNode_b45 N rec p1 s)
def f_gA (N : Nat) : Nat → Nat → Int32 → Int32 → Int32 → o_S → Option o_S
  | 0, _, _, _, _, _ => none
  | d + 1, sel, a, b, c, s => if sel = 0 then f_X7_putAll N (f_gA N d) a b c s else f_X7_putNode N (f_gA N d) a s
-- X7_lastOf
def f_X7_lastOf (N : Nat) (p1 : Int32) (s : o_S) : Option (Int32 × o_S) :=
  o_bi (f_X7_countOf N p1 s) fun x3 s1 =>
  o_bi (f_X7_childOf N p1 (x3 - (1 : Int32)) s1) fun x6 s4 =>
  some (x6, s4)
-- gL
def f_X7_putLine_L97 (N : Nat) (rec : Nat → Int32 → Int32 → Int32 → o_S → Option o_S) : Nat → Int32 → Int32 → o_S → Option o_S
  | 0, _, _, _ => none
  | n + 1, l2, l6, s =>
    if l6 = (-1 : Int32) then
      (some s)
    else
      (o_bv (rec 0 l6 (l2 + (2 : Int32)) (1 : Int32) s) fun s16 =>
       if l6 < 0 ∨ 1500 ≤ Int32.toNatClampNeg l6 then none else
       o_do (o_A s16 4 (Int32.toNatClampNeg l6)) fun x19 =>
       f_X7_putLine_L97 N rec n l2 x19 s16)
def f_X7_putLine_b77 (N : Nat) (rec : Nat → Int32 → Int32 → Int32 → o_S → Option o_S) (l2 : Int32) (l4 : Int32) (l5 : Int32) (s : o_S) : Option o_S :=
  o_bv (f_X7_put N (10 : Int32) s) fun s10 =>
  if l5 = 0 then
    (some s10)
  else
    (if l4 < 0 ∨ 1500 ≤ Int32.toNatClampNeg l4 then none else
     o_do (o_A s10 3 (Int32.toNatClampNeg l4)) fun x14 =>
     f_X7_putLine_L97 N rec N l2 x14 s10)
def f_X7_putLine_b47 (N : Nat) (rec : Nat → Int32 → Int32 → Int32 → o_S → Option o_S) (l1 : Int32) (l2 : Int32) (l4 : Int32) (y0 : Int32) (s : o_S) : Option o_S :=
  if y0 = 0 then
    (o_bv (f_gA N 200 0 l1 (0 : Int32) (-1 : Int32) s) fun s7 =>
     if y0 = 0 then
       (f_X7_putLine_b77 N rec l2 l4 y0 s7)
     else
       (o_bv (f_X7_put N (58 : Int32) s7) fun s20 =>
        f_X7_putLine_b77 N rec l2 l4 y0 s20))
  else
    (o_bv (f_gA N 200 0 l1 (0 : Int32) l4 s) fun s22 =>
     if y0 = 0 then
       (f_X7_putLine_b77 N rec l2 l4 y0 s22)
     else
       (o_bv (f_X7_put N (58 : Int32) s22) fun s25 =>
        f_X7_putLine_b77 N rec l2 l4 y0 s25))
def f_X7_putLine_L3 (N : Nat) (rec : Nat → Int32 → Int32 → Int32 → o_S → Option o_S) : Nat → Int32 → Int32 → Int32 → Int32 → o_S → Option o_S
  | 0, _, _, _, _, _ => none
  | n + 1, l1, l2, l3, l4, s =>
    if l2 ≤ l4 then
      (o_bi (f_X7_lastOf N l1 s) fun x4 s2 =>
       if l3 = 0 then
         (f_X7_putLine_b47 N rec l1 l2 x4 (0 : Int32) s2)
       else
         (if x4 < 0 ∨ 1500 ≤ Int32.toNatClampNeg x4 then none else
          o_do (o_A s2 1 (Int32.toNatClampNeg x4)) fun x28 =>
          if x28 = 0 then
            (f_X7_putLine_b47 N rec l1 l2 x4 (1 : Int32) s2)
          else
            (f_X7_putLine_b47 N rec l1 l2 x4 (0 : Int32) s2)))
    else
      (o_bv (f_X7_put N (32 : Int32) s) fun s30 =>
       f_X7_putLine_L3 N rec n l1 l2 l3 (l4 + 1) s30)
def f_X7_putLine (N : Nat) (rec : Nat → Int32 → Int32 → Int32 → o_S → Option o_S) (p1 : Int32) (p2 : Int32) (p3 : Int32) (s : o_S) : Option o_S :=
  f_X7_putLine_L3 N rec N p1 p2 p3 (0 : Int32) s
def f_gL (N : Nat) : Nat → Nat → Int32 → Int32 → Int32 → o_S → Option o_S
  | 0, _, _, _, _, _ => none
  | d + 1, sel, a, b, c, s => f_X7_putLine N (f_gL N d) a b c s
-- X7_write
def f_X7_write_L17 (N : Nat) : Nat → Int32 → Int32 → o_S → Option (Int32 × o_S)
  | 0, _, _, _ => none
  | n + 1, l1, l2, s =>
    if l2 = (-1 : Int32) then
      (some ((o_F s 20), s))
    else
      (o_bv (f_gL N 200 0 l2 (0 : Int32) l1 s) fun s6 =>
       if l2 < 0 ∨ 1500 ≤ Int32.toNatClampNeg l2 then none else
       o_do (o_A s6 4 (Int32.toNatClampNeg l2)) fun x9 =>
       f_X7_write_L17 N n l1 x9 s6)
def f_X7_write (N : Nat) (p1 : Int32) (s : o_S) : Option (Int32 × o_S) :=
  o_do (o_setF s 15 (0 : Int32)) fun s1 =>
  o_do (o_setF s1 20 (0 : Int32)) fun s2 =>
  if (0 : Int32) < 0 ∨ 1500 ≤ Int32.toNatClampNeg (0 : Int32) then none else
  o_do (o_A s2 3 (Int32.toNatClampNeg (0 : Int32))) fun x4 =>
  f_X7_write_L17 N N p1 x4 s2
-- X7_written
def f_X7_written (N : Nat) (p1 : Int32) (s : o_S) : Option (Int32 × o_S) :=
  o_do (o_setF s 15 (0 : Int32)) fun s1 =>
  if p1 < 0 then
    (o_bi (f_X7_fail N (1 : Int32) s1) fun x5 s3 =>
     some (x5, s3))
  else
    (if (o_F s1 20) ≤ p1 then
       (o_bi (f_X7_fail N (1 : Int32) s1) fun x9 s7 =>
        some (x9, s7))
     else
       (if p1 < 0 ∨ 60000 ≤ Int32.toNatClampNeg p1 then none else
        o_do (o_A s1 13 (Int32.toNatClampNeg p1)) fun x11 =>
        some (x11, s1)))
-- X7_digest
def f_X7_digest_L86 (N : Nat) (k27 : Int64 → Int32 → o_S → Option (Int64 × o_S)) : Nat → Int64 → Int32 → Int32 → Int32 → o_S → Option (Int64 × o_S)
  | 0, _, _, _, _, _ => none
  | n + 1, l1, l3, l4, l5, s =>
    if l4 < 0 ∨ 1500 ≤ Int32.toNatClampNeg l4 then none else
    o_do (o_A s 7 (Int32.toNatClampNeg l4)) fun x16 =>
    if x16 ≤ l5 then
      (k27 l1 (l3 + 1) s)
    else
      (if l4 < 0 ∨ 1500 ≤ Int32.toNatClampNeg l4 then none else
       o_do (o_A s 1 (Int32.toNatClampNeg l4)) fun x19 =>
       if x19 = (2 : Int32) then
         (if l4 < 0 ∨ 1500 ≤ Int32.toNatClampNeg l4 then none else
          o_do (o_A s 8 (Int32.toNatClampNeg l4)) fun x22 =>
          if (x22 + l5) < 0 ∨ 12600 ≤ Int32.toNatClampNeg (x22 + l5) then none else
          o_do (o_A s 9 (Int32.toNatClampNeg (x22 + l5))) fun x24 =>
          f_X7_digest_L86 N k27 n ((l1 * (31 : Int64)) + (Int32.toInt64 x24)) l3 l4 (l5 + 1) s)
       else
         (k27 l1 (l3 + 1) s))
def f_X7_digest_L27 (N : Nat) : Nat → Int64 → Int32 → o_S → Option (Int64 × o_S)
  | 0, _, _, _ => none
  | n + 1, l1, l3, s =>
    if (o_F s 18) ≤ l3 then
      (o_bi (f_X7_words N  s) fun x5 s3 =>
       some (((((l1 * (31 : Int64)) + (Int32.toInt64 (o_F s 19))) * (31 : Int64)) + (Int32.toInt64 x5)), s3))
    else
      (if l3 < 0 ∨ 1500 ≤ Int32.toNatClampNeg l3 then none else
       o_do (o_A s 10 (Int32.toNatClampNeg l3)) fun x7 =>
       if x7 < 0 ∨ 1500 ≤ Int32.toNatClampNeg x7 then none else
       o_do (o_A s 1 (Int32.toNatClampNeg x7)) fun x9 =>
       o_bi (f_X7_countOf N x7 s) fun x12 s10 =>
       if x7 < 0 ∨ 1500 ≤ Int32.toNatClampNeg x7 then none else
       o_do (o_A s10 7 (Int32.toNatClampNeg x7)) fun x14 =>
       f_X7_digest_L86 N (f_X7_digest_L27 N n) N ((((((l1 * (31 : Int64)) + (Int32.toInt64 x9)) * (31 : Int64)) + (Int32.toInt64 x12)) * (31 : Int64)) + (Int32.toInt64 x14)) l3 x7 (0 : Int32) s10)
def f_X7_digest (N : Nat) (s : o_S) : Option (Int64 × o_S) :=
  o_do (o_setF s 15 (0 : Int32)) fun s1 =>
  f_X7_digest_L27 N N ((((2263 : Int64) + (Int32.toInt64 (o_F s1 16))) * (31 : Int64)) + (Int32.toInt64 (o_F s1 18))) (0 : Int32) s1
