def f_L_law_L23 (N : Nat) (Ls : Nat) (xs : Nat → Int32) : Nat → Int32 → o_S → Option (Int32 × o_S)
  | 0, _, _ => none
  | n + 1, l4, s =>
    if ((Int32.ofNat Ls) - (4 : Int32)) < l4 then
      (some ((1 : Int32), s))
    else
      (if l4 < 0 ∨ Ls ≤ Int32.toNatClampNeg l4 then none else
       o_do (xs (Int32.toNatClampNeg l4)) fun x3 =>
       if (x3 &&& (31 : Int32)) = 0 then
         (if (l4 + (1 : Int32)) < 0 ∨ Ls ≤ Int32.toNatClampNeg (l4 + (1 : Int32)) then none else
          o_do (xs (Int32.toNatClampNeg (l4 + (1 : Int32)))) fun x6 =>
          if (l4 + (2 : Int32)) < 0 ∨ Ls ≤ Int32.toNatClampNeg (l4 + (2 : Int32)) then none else
          o_do (xs (Int32.toNatClampNeg (l4 + (2 : Int32)))) fun x8 =>
          o_bi (f_L_feed N (((Int32.toInt64 x6) <<< (Int32.toInt64 (32 : Int32) &&& 63)) ||| ((Int32.toInt64 x8) &&& (4294967295 : Int64))) s) fun x11 s9 =>
          if (l4 + (1 : Int32)) < 0 ∨ Ls ≤ Int32.toNatClampNeg (l4 + (1 : Int32)) then none else
          o_do (xs (Int32.toNatClampNeg (l4 + (1 : Int32)))) fun x13 =>
          if (l4 + (2 : Int32)) < 0 ∨ Ls ≤ Int32.toNatClampNeg (l4 + (2 : Int32)) then none else
          o_do (xs (Int32.toNatClampNeg (l4 + (2 : Int32)))) fun x15 =>
          o_bi (f_X7_feed N (((Int32.toInt64 x13) <<< (Int32.toInt64 (32 : Int32) &&& 63)) ||| ((Int32.toInt64 x15) &&& (4294967295 : Int64))) s9) fun x18 s16 =>
          o_bi (f_X7_thrown N  s16) fun x21 s19 =>
          if x21 = x11 then
            (if x11 = 0 then
               (if (lg_cmp (o_O s19 (Int32.toNatClampNeg (0 : Int32))) (Int32.toInt64 x18)) = 0 then
                  (f_L_law_L23 N Ls xs n (l4 + 4) s19)
                else
                  (some ((0 : Int32), s19)))
             else
               (f_L_law_L23 N Ls xs n (l4 + 4) s19))
          else
            (some ((0 : Int32), s19)))
       else
         (if (x3 &&& (31 : Int32)) = 1 then
            (if (l4 + (1 : Int32)) < 0 ∨ Ls ≤ Int32.toNatClampNeg (l4 + (1 : Int32)) then none else
             o_do (xs (Int32.toNatClampNeg (l4 + (1 : Int32)))) fun x27 =>
             o_bi (f_L_trim N x27 s) fun x30 s28 =>
             if (l4 + (1 : Int32)) < 0 ∨ Ls ≤ Int32.toNatClampNeg (l4 + (1 : Int32)) then none else
             o_do (xs (Int32.toNatClampNeg (l4 + (1 : Int32)))) fun x32 =>
             o_bi (f_X7_trim N x32 s28) fun x35 s33 =>
             o_bi (f_X7_thrown N  s33) fun x38 s36 =>
             if x38 = x30 then
               (if x30 = 0 then
                  (if (lg_cmp (o_O s36 (Int32.toNatClampNeg (0 : Int32))) (Int32.toInt64 x35)) = 0 then
                     (f_L_law_L23 N Ls xs n (l4 + 4) s36)
                   else
                     (some ((0 : Int32), s36)))
                else
                  (f_L_law_L23 N Ls xs n (l4 + 4) s36))
             else
               (some ((0 : Int32), s36)))
          else
            (if (x3 &&& (31 : Int32)) = 2 then
               (o_bi (f_X6_length N  s) fun x45 s43 =>
                o_bi (f_X7_length N  s43) fun x48 s46 =>
                if x45 = x48 then
                  (f_L_law_L23 N Ls xs n (l4 + 4) s46)
                else
                  (some ((0 : Int32), s46)))
             else
               (if (x3 &&& (31 : Int32)) = 3 then
                  (o_bi (f_X6_parse N  s) fun x53 s51 =>
                   o_bi (f_X7_parse N  s51) fun x56 s54 =>
                   if x53 = x56 then
                     (f_L_law_L23 N Ls xs n (l4 + 4) s54)
                   else
                     (some ((0 : Int32), s54)))
                else
                  (if (x3 &&& (31 : Int32)) = 4 then
                     (o_bi (f_X6_repairCount N  s) fun x61 s59 =>
                      o_bi (f_X7_repairCount N  s59) fun x64 s62 =>
                      if x61 = x64 then
                        (f_L_law_L23 N Ls xs n (l4 + 4) s62)
                      else
                        (some ((0 : Int32), s62)))
                   else
                     (if (x3 &&& (31 : Int32)) = 5 then
                        (if (l4 + (1 : Int32)) < 0 ∨ Ls ≤ Int32.toNatClampNeg (l4 + (1 : Int32)) then none else
                         o_do (xs (Int32.toNatClampNeg (l4 + (1 : Int32)))) fun x68 =>
                         if (l4 + (2 : Int32)) < 0 ∨ Ls ≤ Int32.toNatClampNeg (l4 + (2 : Int32)) then none else
                         o_do (xs (Int32.toNatClampNeg (l4 + (2 : Int32)))) fun x70 =>
                         o_bi (f_L_repair N x68 x70 s) fun x73 s71 =>
                         if (l4 + (1 : Int32)) < 0 ∨ Ls ≤ Int32.toNatClampNeg (l4 + (1 : Int32)) then none else
                         o_do (xs (Int32.toNatClampNeg (l4 + (1 : Int32)))) fun x75 =>
                         if (l4 + (2 : Int32)) < 0 ∨ Ls ≤ Int32.toNatClampNeg (l4 + (2 : Int32)) then none else
                         o_do (xs (Int32.toNatClampNeg (l4 + (2 : Int32)))) fun x77 =>
                         o_bi (f_X7_repair_ N x75 x77 s71) fun x80 s78 =>
                         o_bi (f_X7_thrown N  s78) fun x83 s81 =>
                         if x83 = x73 then
                           (if x73 = 0 then
                              (if (lg_cmp (o_O s81 (Int32.toNatClampNeg (0 : Int32))) (Int32.toInt64 x80)) = 0 then
                                 (f_L_law_L23 N Ls xs n (l4 + 4) s81)
                               else
                                 (some ((0 : Int32), s81)))
                            else
                              (f_L_law_L23 N Ls xs n (l4 + 4) s81))
                         else
                           (some ((0 : Int32), s81)))
                      else
                        (if (x3 &&& (31 : Int32)) = 6 then
                           (o_bi (f_X6_nodeCount N  s) fun x90 s88 =>
                            o_bi (f_X7_nodeCount N  s88) fun x93 s91 =>
                            if x90 = x93 then
                              (f_L_law_L23 N Ls xs n (l4 + 4) s91)
                            else
                              (some ((0 : Int32), s91)))
                         else
                           (if (x3 &&& (31 : Int32)) = 7 then
                              (if (l4 + (1 : Int32)) < 0 ∨ Ls ≤ Int32.toNatClampNeg (l4 + (1 : Int32)) then none else
                               o_do (xs (Int32.toNatClampNeg (l4 + (1 : Int32)))) fun x97 =>
                               o_bi (f_L_kind N x97 s) fun x100 s98 =>
                               if (l4 + (1 : Int32)) < 0 ∨ Ls ≤ Int32.toNatClampNeg (l4 + (1 : Int32)) then none else
                               o_do (xs (Int32.toNatClampNeg (l4 + (1 : Int32)))) fun x102 =>
                               o_bi (f_X7_kind N x102 s98) fun x105 s103 =>
                               o_bi (f_X7_thrown N  s103) fun x108 s106 =>
                               if x108 = x100 then
                                 (if x100 = 0 then
                                    (if (lg_cmp (o_O s106 (Int32.toNatClampNeg (0 : Int32))) (Int32.toInt64 x105)) = 0 then
                                       (f_L_law_L23 N Ls xs n (l4 + 4) s106)
                                     else
                                       (some ((0 : Int32), s106)))
                                  else
                                    (f_L_law_L23 N Ls xs n (l4 + 4) s106))
                               else
                                 (some ((0 : Int32), s106)))
                            else
                              (if (x3 &&& (31 : Int32)) = 8 then
                                 (if (l4 + (1 : Int32)) < 0 ∨ Ls ≤ Int32.toNatClampNeg (l4 + (1 : Int32)) then none else
                                  o_do (xs (Int32.toNatClampNeg (l4 + (1 : Int32)))) fun x114 =>
                                  o_bi (f_L_parent N x114 s) fun x117 s115 =>
                                  if (l4 + (1 : Int32)) < 0 ∨ Ls ≤ Int32.toNatClampNeg (l4 + (1 : Int32)) then none else
                                  o_do (xs (Int32.toNatClampNeg (l4 + (1 : Int32)))) fun x119 =>
                                  o_bi (f_X7_parent N x119 s115) fun x122 s120 =>
                                  o_bi (f_X7_thrown N  s120) fun x125 s123 =>
                                  if x125 = x117 then
                                    (if x117 = 0 then
                                       (if (lg_cmp (o_O s123 (Int32.toNatClampNeg (0 : Int32))) (Int32.toInt64 x122)) = 0 then
                                          (f_L_law_L23 N Ls xs n (l4 + 4) s123)
                                        else
                                          (some ((0 : Int32), s123)))
                                     else
                                       (f_L_law_L23 N Ls xs n (l4 + 4) s123))
                                  else
                                    (some ((0 : Int32), s123)))
                               else
                                 (if (x3 &&& (31 : Int32)) = 9 then
                                    (if (l4 + (1 : Int32)) < 0 ∨ Ls ≤ Int32.toNatClampNeg (l4 + (1 : Int32)) then none else
                                     o_do (xs (Int32.toNatClampNeg (l4 + (1 : Int32)))) fun x131 =>
                                     o_bi (f_L_childCount N x131 s) fun x134 s132 =>
                                     if (l4 + (1 : Int32)) < 0 ∨ Ls ≤ Int32.toNatClampNeg (l4 + (1 : Int32)) then none else
                                     o_do (xs (Int32.toNatClampNeg (l4 + (1 : Int32)))) fun x136 =>
                                     o_bi (f_X7_childCount N x136 s132) fun x139 s137 =>
                                     o_bi (f_X7_thrown N  s137) fun x142 s140 =>
                                     if x142 = x134 then
                                       (if x134 = 0 then
                                          (if (lg_cmp (o_O s140 (Int32.toNatClampNeg (0 : Int32))) (Int32.toInt64 x139)) = 0 then
                                             (f_L_law_L23 N Ls xs n (l4 + 4) s140)
                                           else
                                             (some ((0 : Int32), s140)))
                                        else
                                          (f_L_law_L23 N Ls xs n (l4 + 4) s140))
                                     else
                                       (some ((0 : Int32), s140)))
                                  else
                                    (if (x3 &&& (31 : Int32)) = 10 then
                                       (if (l4 + (1 : Int32)) < 0 ∨ Ls ≤ Int32.toNatClampNeg (l4 + (1 : Int32)) then none else
                                        o_do (xs (Int32.toNatClampNeg (l4 + (1 : Int32)))) fun x148 =>
                                        if (l4 + (2 : Int32)) < 0 ∨ Ls ≤ Int32.toNatClampNeg (l4 + (2 : Int32)) then none else
                                        o_do (xs (Int32.toNatClampNeg (l4 + (2 : Int32)))) fun x150 =>
                                        o_bi (f_L_child N x148 x150 s) fun x153 s151 =>
                                        if (l4 + (1 : Int32)) < 0 ∨ Ls ≤ Int32.toNatClampNeg (l4 + (1 : Int32)) then none else
                                        o_do (xs (Int32.toNatClampNeg (l4 + (1 : Int32)))) fun x155 =>
                                        if (l4 + (2 : Int32)) < 0 ∨ Ls ≤ Int32.toNatClampNeg (l4 + (2 : Int32)) then none else
                                        o_do (xs (Int32.toNatClampNeg (l4 + (2 : Int32)))) fun x157 =>
                                        o_bi (f_X7_child N x155 x157 s151) fun x160 s158 =>
                                        o_bi (f_X7_thrown N  s158) fun x163 s161 =>
                                        if x163 = x153 then
                                          (if x153 = 0 then
                                             (if (lg_cmp (o_O s161 (Int32.toNatClampNeg (0 : Int32))) (Int32.toInt64 x160)) = 0 then
                                                (f_L_law_L23 N Ls xs n (l4 + 4) s161)
                                              else
                                                (some ((0 : Int32), s161)))
                                           else
                                             (f_L_law_L23 N Ls xs n (l4 + 4) s161))
                                        else
                                          (some ((0 : Int32), s161)))
                                     else
                                       (if (x3 &&& (31 : Int32)) = 11 then
                                          (if (l4 + (1 : Int32)) < 0 ∨ Ls ≤ Int32.toNatClampNeg (l4 + (1 : Int32)) then none else
                                           o_do (xs (Int32.toNatClampNeg (l4 + (1 : Int32)))) fun x169 =>
                                           o_bi (f_L_line N x169 s) fun x172 s170 =>
                                           if (l4 + (1 : Int32)) < 0 ∨ Ls ≤ Int32.toNatClampNeg (l4 + (1 : Int32)) then none else
                                           o_do (xs (Int32.toNatClampNeg (l4 + (1 : Int32)))) fun x174 =>
                                           o_bi (f_X7_line N x174 s170) fun x177 s175 =>
                                           o_bi (f_X7_thrown N  s175) fun x180 s178 =>
                                           if x180 = x172 then
                                             (if x172 = 0 then
                                                (if (lg_cmp (o_O s178 (Int32.toNatClampNeg (0 : Int32))) (Int32.toInt64 x177)) = 0 then
                                                   (f_L_law_L23 N Ls xs n (l4 + 4) s178)
                                                 else
                                                   (some ((0 : Int32), s178)))
                                              else
                                                (f_L_law_L23 N Ls xs n (l4 + 4) s178))
                                           else
                                             (some ((0 : Int32), s178)))
                                        else
                                          (if (x3 &&& (31 : Int32)) = 12 then
                                             (if (l4 + (1 : Int32)) < 0 ∨ Ls ≤ Int32.toNatClampNeg (l4 + (1 : Int32)) then none else
                                              o_do (xs (Int32.toNatClampNeg (l4 + (1 : Int32)))) fun x186 =>
                                              o_bi (f_L_column N x186 s) fun x189 s187 =>
                                              if (l4 + (1 : Int32)) < 0 ∨ Ls ≤ Int32.toNatClampNeg (l4 + (1 : Int32)) then none else
                                              o_do (xs (Int32.toNatClampNeg (l4 + (1 : Int32)))) fun x191 =>
                                              o_bi (f_X7_column N x191 s187) fun x194 s192 =>
                                              o_bi (f_X7_thrown N  s192) fun x197 s195 =>
                                              if x197 = x189 then
                                                (if x189 = 0 then
                                                   (if (lg_cmp (o_O s195 (Int32.toNatClampNeg (0 : Int32))) (Int32.toInt64 x194)) = 0 then
                                                      (f_L_law_L23 N Ls xs n (l4 + 4) s195)
                                                    else
                                                      (some ((0 : Int32), s195)))
                                                 else
                                                   (f_L_law_L23 N Ls xs n (l4 + 4) s195))
                                              else
                                                (some ((0 : Int32), s195)))
                                           else
                                             (if (x3 &&& (31 : Int32)) = 13 then
                                                (if (l4 + (1 : Int32)) < 0 ∨ Ls ≤ Int32.toNatClampNeg (l4 + (1 : Int32)) then none else
                                                 o_do (xs (Int32.toNatClampNeg (l4 + (1 : Int32)))) fun x203 =>
                                                 o_bi (f_L_value N x203 s) fun x206 s204 =>
                                                 if (l4 + (1 : Int32)) < 0 ∨ Ls ≤ Int32.toNatClampNeg (l4 + (1 : Int32)) then none else
                                                 o_do (xs (Int32.toNatClampNeg (l4 + (1 : Int32)))) fun x208 =>
                                                 o_bi (f_X7_value N x208 s204) fun x211 s209 =>
                                                 o_bi (f_X7_thrown N  s209) fun x214 s212 =>
                                                 if x214 = x206 then
                                                   (if x206 = 0 then
                                                      (if (lg_cmp (o_O s212 (Int32.toNatClampNeg (0 : Int32))) (Int32.toInt64 x211)) = 0 then
                                                         (f_L_law_L23 N Ls xs n (l4 + 4) s212)
                                                       else
                                                         (some ((0 : Int32), s212)))
                                                    else
                                                      (f_L_law_L23 N Ls xs n (l4 + 4) s212))
                                                 else
                                                   (some ((0 : Int32), s212)))
                                              else
                                                (if (x3 &&& (31 : Int32)) = 14 then
                                                   (if (l4 + (1 : Int32)) < 0 ∨ Ls ≤ Int32.toNatClampNeg (l4 + (1 : Int32)) then none else
                                                    o_do (xs (Int32.toNatClampNeg (l4 + (1 : Int32)))) fun x220 =>
                                                    if (l4 + (2 : Int32)) < 0 ∨ Ls ≤ Int32.toNatClampNeg (l4 + (2 : Int32)) then none else
                                                    o_do (xs (Int32.toNatClampNeg (l4 + (2 : Int32)))) fun x222 =>
                                                    o_bi (f_L_letter N x220 x222 s) fun x225 s223 =>
                                                    if (l4 + (1 : Int32)) < 0 ∨ Ls ≤ Int32.toNatClampNeg (l4 + (1 : Int32)) then none else
                                                    o_do (xs (Int32.toNatClampNeg (l4 + (1 : Int32)))) fun x227 =>
                                                    if (l4 + (2 : Int32)) < 0 ∨ Ls ≤ Int32.toNatClampNeg (l4 + (2 : Int32)) then none else
                                                    o_do (xs (Int32.toNatClampNeg (l4 + (2 : Int32)))) fun x229 =>
                                                    o_bi (f_X7_letter N x227 x229 s223) fun x232 s230 =>
                                                    o_bi (f_X7_thrown N  s230) fun x235 s233 =>
                                                    if x235 = x225 then
                                                      (if x225 = 0 then
                                                         (if (lg_cmp (o_O s233 (Int32.toNatClampNeg (0 : Int32))) (Int32.toInt64 x232)) = 0 then
                                                            (f_L_law_L23 N Ls xs n (l4 + 4) s233)
                                                          else
                                                            (some ((0 : Int32), s233)))
                                                       else
                                                         (f_L_law_L23 N Ls xs n (l4 + 4) s233))
                                                    else
                                                      (some ((0 : Int32), s233)))
                                                 else
                                                   (if (x3 &&& (31 : Int32)) = 15 then
                                                      (if (l4 + (1 : Int32)) < 0 ∨ Ls ≤ Int32.toNatClampNeg (l4 + (1 : Int32)) then none else
                                                       o_do (xs (Int32.toNatClampNeg (l4 + (1 : Int32)))) fun x241 =>
                                                       o_bi (f_L_depth N x241 s) fun x244 s242 =>
                                                       if (l4 + (1 : Int32)) < 0 ∨ Ls ≤ Int32.toNatClampNeg (l4 + (1 : Int32)) then none else
                                                       o_do (xs (Int32.toNatClampNeg (l4 + (1 : Int32)))) fun x246 =>
                                                       o_bi (f_X7_depth N x246 s242) fun x249 s247 =>
                                                       o_bi (f_X7_thrown N  s247) fun x252 s250 =>
                                                       if x252 = x244 then
                                                         (if x244 = 0 then
                                                            (if (lg_cmp (o_O s250 (Int32.toNatClampNeg (0 : Int32))) (Int32.toInt64 x249)) = 0 then
                                                               (f_L_law_L23 N Ls xs n (l4 + 4) s250)
                                                             else
                                                               (some ((0 : Int32), s250)))
                                                          else
                                                            (f_L_law_L23 N Ls xs n (l4 + 4) s250))
                                                       else
                                                         (some ((0 : Int32), s250)))
                                                    else
                                                      (if (x3 &&& (31 : Int32)) = 16 then
                                                         (if (l4 + (1 : Int32)) < 0 ∨ Ls ≤ Int32.toNatClampNeg (l4 + (1 : Int32)) then none else
                                                          o_do (xs (Int32.toNatClampNeg (l4 + (1 : Int32)))) fun x258 =>
                                                          if (l4 + (2 : Int32)) < 0 ∨ Ls ≤ Int32.toNatClampNeg (l4 + (2 : Int32)) then none else
                                                          o_do (xs (Int32.toNatClampNeg (l4 + (2 : Int32)))) fun x260 =>
                                                          if (l4 + (3 : Int32)) < 0 ∨ Ls ≤ Int32.toNatClampNeg (l4 + (3 : Int32)) then none else
                                                          o_do (xs (Int32.toNatClampNeg (l4 + (3 : Int32)))) fun x262 =>
                                                          o_bi (f_X6_find N (((Int32.toInt64 x258) <<< (Int32.toInt64 (32 : Int32) &&& 63)) ||| ((Int32.toInt64 x260) &&& (4294967295 : Int64))) x262 s) fun x265 s263 =>
                                                          if (l4 + (1 : Int32)) < 0 ∨ Ls ≤ Int32.toNatClampNeg (l4 + (1 : Int32)) then none else
                                                          o_do (xs (Int32.toNatClampNeg (l4 + (1 : Int32)))) fun x267 =>
                                                          if (l4 + (2 : Int32)) < 0 ∨ Ls ≤ Int32.toNatClampNeg (l4 + (2 : Int32)) then none else
                                                          o_do (xs (Int32.toNatClampNeg (l4 + (2 : Int32)))) fun x269 =>
                                                          if (l4 + (3 : Int32)) < 0 ∨ Ls ≤ Int32.toNatClampNeg (l4 + (3 : Int32)) then none else
                                                          o_do (xs (Int32.toNatClampNeg (l4 + (3 : Int32)))) fun x271 =>
                                                          o_bi (f_X7_find N (((Int32.toInt64 x267) <<< (Int32.toInt64 (32 : Int32) &&& 63)) ||| ((Int32.toInt64 x269) &&& (4294967295 : Int64))) x271 s263) fun x274 s272 =>
                                                          if x265 = x274 then
                                                            (f_L_law_L23 N Ls xs n (l4 + 4) s272)
                                                          else
                                                            (some ((0 : Int32), s272)))
                                                       else
                                                         (if (x3 &&& (31 : Int32)) = 17 then
                                                            (o_bi (f_X6_wordCount N  s) fun x279 s277 =>
                                                             o_bi (f_X7_wordCount N  s277) fun x282 s280 =>
                                                             if x279 = x282 then
                                                               (f_L_law_L23 N Ls xs n (l4 + 4) s280)
                                                             else
                                                               (some ((0 : Int32), s280)))
                                                          else
                                                            (if (x3 &&& (31 : Int32)) = 18 then
                                                               (if (l4 + (1 : Int32)) < 0 ∨ Ls ≤ Int32.toNatClampNeg (l4 + (1 : Int32)) then none else
                                                                o_do (xs (Int32.toNatClampNeg (l4 + (1 : Int32)))) fun x286 =>
                                                                o_bi (f_L_remove N x286 s) fun x289 s287 =>
                                                                if (l4 + (1 : Int32)) < 0 ∨ Ls ≤ Int32.toNatClampNeg (l4 + (1 : Int32)) then none else
                                                                o_do (xs (Int32.toNatClampNeg (l4 + (1 : Int32)))) fun x291 =>
                                                                o_bi (f_X7_remove N x291 s287) fun x294 s292 =>
                                                                o_bi (f_X7_thrown N  s292) fun x297 s295 =>
                                                                if x297 = x289 then
                                                                  (if x289 = 0 then
                                                                     (if (lg_cmp (o_O s295 (Int32.toNatClampNeg (0 : Int32))) (Int32.toInt64 x294)) = 0 then
                                                                        (f_L_law_L23 N Ls xs n (l4 + 4) s295)
                                                                      else
                                                                        (some ((0 : Int32), s295)))
                                                                   else
                                                                     (f_L_law_L23 N Ls xs n (l4 + 4) s295))
                                                                else
                                                                  (some ((0 : Int32), s295)))
                                                             else
                                                               (if (x3 &&& (31 : Int32)) = 19 then
                                                                  (if (l4 + (1 : Int32)) < 0 ∨ Ls ≤ Int32.toNatClampNeg (l4 + (1 : Int32)) then none else
                                                                   o_do (xs (Int32.toNatClampNeg (l4 + (1 : Int32)))) fun x303 =>
                                                                   if (l4 + (2 : Int32)) < 0 ∨ Ls ≤ Int32.toNatClampNeg (l4 + (2 : Int32)) then none else
                                                                   o_do (xs (Int32.toNatClampNeg (l4 + (2 : Int32)))) fun x305 =>
                                                                   if (l4 + (3 : Int32)) < 0 ∨ Ls ≤ Int32.toNatClampNeg (l4 + (3 : Int32)) then none else
                                                                   o_do (xs (Int32.toNatClampNeg (l4 + (3 : Int32)))) fun x307 =>
                                                                   o_bi (f_L_move N x303 x305 x307 s) fun x310 s308 =>
                                                                   if (l4 + (1 : Int32)) < 0 ∨ Ls ≤ Int32.toNatClampNeg (l4 + (1 : Int32)) then none else
                                                                   o_do (xs (Int32.toNatClampNeg (l4 + (1 : Int32)))) fun x312 =>
                                                                   if (l4 + (2 : Int32)) < 0 ∨ Ls ≤ Int32.toNatClampNeg (l4 + (2 : Int32)) then none else
                                                                   o_do (xs (Int32.toNatClampNeg (l4 + (2 : Int32)))) fun x314 =>
                                                                   if (l4 + (3 : Int32)) < 0 ∨ Ls ≤ Int32.toNatClampNeg (l4 + (3 : Int32)) then none else
                                                                   o_do (xs (Int32.toNatClampNeg (l4 + (3 : Int32)))) fun x316 =>
                                                                   o_bi (f_X7_move N x312 x314 x316 s308) fun x319 s317 =>
                                                                   o_bi (f_X7_thrown N  s317) fun x322 s320 =>
                                                                   if x322 = x310 then
                                                                     (if x310 = 0 then
                                                                        (if (lg_cmp (o_O s320 (Int32.toNatClampNeg (0 : Int32))) (Int32.toInt64 x319)) = 0 then
                                                                           (f_L_law_L23 N Ls xs n (l4 + 4) s320)
                                                                         else
                                                                           (some ((0 : Int32), s320)))
                                                                      else
                                                                        (f_L_law_L23 N Ls xs n (l4 + 4) s320))
                                                                   else
                                                                     (some ((0 : Int32), s320)))
                                                                else
                                                                  (if (x3 &&& (31 : Int32)) = 20 then
                                                                     (if (l4 + (1 : Int32)) < 0 ∨ Ls ≤ Int32.toNatClampNeg (l4 + (1 : Int32)) then none else
                                                                      o_do (xs (Int32.toNatClampNeg (l4 + (1 : Int32)))) fun x328 =>
                                                                      if (l4 + (2 : Int32)) < 0 ∨ Ls ≤ Int32.toNatClampNeg (l4 + (2 : Int32)) then none else
                                                                      o_do (xs (Int32.toNatClampNeg (l4 + (2 : Int32)))) fun x330 =>
                                                                      if (l4 + (3 : Int32)) < 0 ∨ Ls ≤ Int32.toNatClampNeg (l4 + (3 : Int32)) then none else
                                                                      o_do (xs (Int32.toNatClampNeg (l4 + (3 : Int32)))) fun x332 =>
                                                                      o_bi (f_L_rename N x328 (((Int32.toInt64 x330) <<< (Int32.toInt64 (32 : Int32) &&& 63)) ||| ((Int32.toInt64 x332) &&& (4294967295 : Int64))) s) fun x335 s333 =>
                                                                      if (l4 + (1 : Int32)) < 0 ∨ Ls ≤ Int32.toNatClampNeg (l4 + (1 : Int32)) then none else
                                                                      o_do (xs (Int32.toNatClampNeg (l4 + (1 : Int32)))) fun x337 =>
                                                                      if (l4 + (2 : Int32)) < 0 ∨ Ls ≤ Int32.toNatClampNeg (l4 + (2 : Int32)) then none else
                                                                      o_do (xs (Int32.toNatClampNeg (l4 + (2 : Int32)))) fun x339 =>
                                                                      if (l4 + (3 : Int32)) < 0 ∨ Ls ≤ Int32.toNatClampNeg (l4 + (3 : Int32)) then none else
                                                                      o_do (xs (Int32.toNatClampNeg (l4 + (3 : Int32)))) fun x341 =>
                                                                      o_bi (f_X7_rename N x337 (((Int32.toInt64 x339) <<< (Int32.toInt64 (32 : Int32) &&& 63)) ||| ((Int32.toInt64 x341) &&& (4294967295 : Int64))) s333) fun x344 s342 =>
                                                                      o_bi (f_X7_thrown N  s342) fun x347 s345 =>
                                                                      if x347 = x335 then
                                                                        (if x335 = 0 then
                                                                           (if (lg_cmp (o_O s345 (Int32.toNatClampNeg (0 : Int32))) (Int32.toInt64 x344)) = 0 then
                                                                              (f_L_law_L23 N Ls xs n (l4 + 4) s345)
                                                                            else
                                                                              (some ((0 : Int32), s345)))
                                                                         else
                                                                           (f_L_law_L23 N Ls xs n (l4 + 4) s345))
                                                                      else
                                                                        (some ((0 : Int32), s345)))
                                                                   else
                                                                     (if (x3 &&& (31 : Int32)) = 21 then
                                                                        (if (l4 + (1 : Int32)) < 0 ∨ Ls ≤ Int32.toNatClampNeg (l4 + (1 : Int32)) then none else
                                                                         o_do (xs (Int32.toNatClampNeg (l4 + (1 : Int32)))) fun x353 =>
                                                                         if x353 = 0 then
                                                                           (o_bi (f_X6_write N (0 : Int32) s) fun x357 s355 =>
                                                                            if (l4 + (1 : Int32)) < 0 ∨ Ls ≤ Int32.toNatClampNeg (l4 + (1 : Int32)) then none else
                                                                            o_do (xs (Int32.toNatClampNeg (l4 + (1 : Int32)))) fun x359 =>
                                                                            if x359 = 0 then
                                                                              (o_bi (f_X7_write N (0 : Int32) s355) fun x363 s361 =>
                                                                               if x357 = x363 then
                                                                                 (f_L_law_L23 N Ls xs n (l4 + 4) s361)
                                                                               else
                                                                                 (some ((0 : Int32), s361)))
                                                                            else
                                                                              (o_bi (f_X7_write N (1 : Int32) s355) fun x367 s365 =>
                                                                               if x357 = x367 then
                                                                                 (f_L_law_L23 N Ls xs n (l4 + 4) s365)
                                                                               else
                                                                                 (some ((0 : Int32), s365))))
                                                                         else
                                                                           (o_bi (f_X6_write N (1 : Int32) s) fun x371 s369 =>
                                                                            if (l4 + (1 : Int32)) < 0 ∨ Ls ≤ Int32.toNatClampNeg (l4 + (1 : Int32)) then none else
                                                                            o_do (xs (Int32.toNatClampNeg (l4 + (1 : Int32)))) fun x373 =>
                                                                            if x373 = 0 then
                                                                              (o_bi (f_X7_write N (0 : Int32) s369) fun x377 s375 =>
                                                                               if x371 = x377 then
                                                                                 (f_L_law_L23 N Ls xs n (l4 + 4) s375)
                                                                               else
                                                                                 (some ((0 : Int32), s375)))
                                                                            else
                                                                              (o_bi (f_X7_write N (1 : Int32) s369) fun x381 s379 =>
                                                                               if x371 = x381 then
                                                                                 (f_L_law_L23 N Ls xs n (l4 + 4) s379)
                                                                               else
                                                                                 (some ((0 : Int32), s379)))))
                                                                      else
                                                                        (if (x3 &&& (31 : Int32)) = 22 then
                                                                           (if (l4 + (1 : Int32)) < 0 ∨ Ls ≤ Int32.toNatClampNeg (l4 + (1 : Int32)) then none else
                                                                            o_do (xs (Int32.toNatClampNeg (l4 + (1 : Int32)))) fun x385 =>
                                                                            o_bi (f_L_written N x385 s) fun x388 s386 =>
                                                                            if (l4 + (1 : Int32)) < 0 ∨ Ls ≤ Int32.toNatClampNeg (l4 + (1 : Int32)) then none else
                                                                            o_do (xs (Int32.toNatClampNeg (l4 + (1 : Int32)))) fun x390 =>
                                                                            o_bi (f_X7_written N x390 s386) fun x393 s391 =>
                                                                            o_bi (f_X7_thrown N  s391) fun x396 s394 =>
                                                                            if x396 = x388 then
                                                                              (if x388 = 0 then
                                                                                 (if (lg_cmp (o_O s394 (Int32.toNatClampNeg (0 : Int32))) (Int32.toInt64 x393)) = 0 then
                                                                                    (f_L_law_L23 N Ls xs n (l4 + 4) s394)
                                                                                  else
                                                                                    (some ((0 : Int32), s394)))
                                                                               else
                                                                                 (f_L_law_L23 N Ls xs n (l4 + 4) s394))
                                                                            else
                                                                              (some ((0 : Int32), s394)))
                                                                         else
                                                                           (if (x3 &&& (31 : Int32)) = 23 then
                                                                              (o_bi (f_X6_digest N  s) fun x403 s401 =>
                                                                               o_bi (f_X7_digest N  s401) fun x406 s404 =>
                                                                               if (lg_cmp x403 x406) = 0 then
                                                                                 (f_L_law_L23 N Ls xs n (l4 + 4) s404)
                                                                               else
                                                                                 (some ((0 : Int32), s404)))
                                                                            else
                                                                              (f_L_law_L23 N Ls xs n (l4 + 4) s)))))))))))))))))))))))))
def f_L_law (N : Nat) (Ls : Nat) (xs : Nat → Int32) (s : o_S) : Option (Int32 × o_S) :=
  f_L_law_L23 N Ls xs N (0 : Int32) s
