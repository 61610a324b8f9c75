def prf_T_bytes (σ : pr_St)  : Option Int32 :=
  some (σ.1 1 1)
def prf_T_addBytes_3 (fu : Nat) (σ : pr_St) (x1 : Int32) (x2 : Int32) : Option pr_St := match fu with
  | 0 => none
  | n + 1 =>
    if x2 < 0 then
     some σ
    else
     if (σ.1 1 1) < 0 then
      prf_T_addBytes_3 n σ x1 (x2 + (-8))
     else
      if 8000 ≤ (σ.1 1 1) then
       prf_T_addBytes_3 n σ x1 (x2 + (-8))
      else
       pr_ck (σ.1 1 1) 8000 <|
       prf_T_addBytes_3 n (pr_sI (pr_sA σ 8 (upd (σ.2.1 8) (σ.1 1 1).toNatClampNeg ((x1 >>> (x2 &&& 31)).toInt8.toInt32).toInt8.toInt32)) 1 1 ((σ.1 1 1) + 1)) x1 (x2 + (-8))
def prf_T_addBytes (σ : pr_St) (x1 : Int32) : Option pr_St :=
  prf_T_addBytes_3 pr_FU σ x1 24
def prf_P_feed (σ : pr_St) (x1 : Int32) (x2 : Int32) (x3 : Int32) (x4 : Int32) (x5 : Int32) : Option (Int32 × pr_St) :=
  (prf_T_bytes σ).bind fun r9 =>
  if (r9 + 20) ≤ 8000 then
   (prf_T_addBytes σ x1).bind fun r11 =>
   (prf_T_addBytes r11 x2).bind fun r12 =>
   (prf_T_addBytes r12 x3).bind fun r13 =>
   (prf_T_addBytes r13 x4).bind fun r14 =>
   (prf_T_addBytes r14 x5).bind fun r15 =>
   (prf_T_bytes r15).bind fun r16 =>
   some (r16, r15)
  else
   some ((-1), σ)
def prf_M_forget (σ : pr_St)  : Option pr_St :=
  some (pr_sI (pr_sI (pr_sI (pr_sI σ 7 8 0) 7 9 0) 7 10 0) 7 11 0)
def prf_T_byteAt (σ : pr_St) (x1 : Int32) : Option Int32 :=
  if x1 < 0 then
   some 0
  else
   if (σ.1 1 5) ≤ x1 then
    some 0
   else
    if 8000 ≤ x1 then
     some 0
    else
     pr_ck x1 8000 <|
     some (((σ.2.1 8) x1.toNatClampNeg) &&& 255)
def prf_T_behindBlanks_63 (kk4 : pr_St → Int32 → Int32 → Option Int32) (σ : pr_St) (x2 : Int32) (x3 : Int32) (x4 : Int32) : Option Int32 :=
  if x4 = 9 then
   kk4 σ x2 (x3 + 1)
  else
   if x4 = 10 then
    kk4 σ x2 (x3 + 1)
   else
    if x4 = 13 then
     kk4 σ x2 (x3 + 1)
    else
     if x4 = 32 then
      kk4 σ x2 (x3 + 1)
     else
      some x3
def prf_T_behindBlanks_4 (fu : Nat) (σ : pr_St) (x2 : Int32) (x3 : Int32) : Option Int32 := match fu with
  | 0 => none
  | n + 1 =>
    if (σ.1 1 5) ≤ x3 then
     some (σ.1 1 5)
    else
     (prf_T_byteAt σ x3).bind fun r17 =>
     if x2 = 0 then
      if r17 = 47 then
       (prf_T_byteAt σ (x3 + 1)).bind fun r20 =>
       if r20 = 47 then
        prf_T_behindBlanks_4 n σ 1 (x3 + 1)
       else
        prf_T_behindBlanks_63 (prf_T_behindBlanks_4 n) σ x2 x3 r17
      else
       prf_T_behindBlanks_63 (prf_T_behindBlanks_4 n) σ x2 x3 r17
     else
      if r17 = 10 then
       prf_T_behindBlanks_4 n σ 0 (x3 + 1)
      else
       prf_T_behindBlanks_4 n σ 1 (x3 + 1)
def prf_T_behindBlanks (σ : pr_St) (x1 : Int32) : Option Int32 :=
  prf_T_behindBlanks_4 pr_FU σ 0 x1
def prf_T_isDigit (σ : pr_St) (x0 : Int32) : Option Int32 :=
  if x0 < 48 then
   some 0
  else
   if 57 < x0 then
    some 0
   else
    some 1
def prf_T_isInName_12 (σ : pr_St) (x0 : Int32) : Option Int32 :=
  if x0 < 65 then
   if x0 = 95 then
    some 1
   else
    (prf_T_isDigit σ x0).bind fun r13 =>
    if r13 = 0 then
     some 0
    else
     some 1
  else
   if x0 ≤ 90 then
    some 1
   else
    if x0 = 95 then
     some 1
    else
     (prf_T_isDigit σ x0).bind fun r17 =>
     if r17 = 0 then
      some 0
     else
      some 1
def prf_T_isInName (σ : pr_St) (x0 : Int32) : Option Int32 :=
  if x0 < 97 then
   prf_T_isInName_12 σ x0
  else
   if x0 ≤ 122 then
    some 1
   else
    prf_T_isInName_12 σ x0
def prf_T_add (σ : pr_St) (x1 : Int32) (x2 : Int32) (x3 : Int32) : Option pr_St :=
  if 8001 ≤ (σ.1 1 6) then
   some σ
  else
   pr_ck (σ.1 1 6) 8001 <|
   pr_ck (σ.1 1 6) 8001 <|
   pr_ck (σ.1 1 6) 8001 <|
   some (pr_sI (pr_sA (pr_sA (pr_sA σ 9 (upd (σ.2.1 9) (σ.1 1 6).toNatClampNeg x1.toInt8.toInt32.toInt8.toInt32)) 10 (upd (σ.2.1 10) (σ.1 1 6).toNatClampNeg x2)) 11 (upd (σ.2.1 11) (σ.1 1 6).toNatClampNeg x3)) 1 6 ((σ.1 1 6) + 1))
def prf_T_readNumber_80 (σ : pr_St) (x1 : Int32) (x2 : Int32) (x3 : Int64) : Option (Int32 × pr_St) :=
  if 10 < x2 then
   some (0, σ)
  else
   if (0 : Int32) = 0 then
    if 0 < (lg_cmp x3 2147483647) then
     some (0, σ)
    else
     (prf_T_byteAt σ (x1 + x2)).bind fun r27 =>
     (prf_T_isInName σ r27).bind fun r28 =>
     if r28 = 0 then
      (prf_T_add σ 3 x1 x3.toInt32).bind fun r30 =>
      some (x2, r30)
     else
      some (0, σ)
   else
    some (0, σ)
def prf_T_readNumber_61 (σ : pr_St) (x1 : Int32) (x2 : Int32) (x3 : Int64) : Option (Int32 × pr_St) :=
  if x2 ≤ 1 then
   prf_T_readNumber_80 σ x1 x2 x3
  else
   (prf_T_byteAt σ x1).bind fun r32 =>
   if r32 = 48 then
    if 10 < x2 then
     some (0, σ)
    else
     if (1 : Int32) = 0 then
      if 0 < (lg_cmp x3 2147483647) then
       some (0, σ)
      else
       (prf_T_byteAt σ (x1 + x2)).bind fun r37 =>
       (prf_T_isInName σ r37).bind fun r38 =>
       if r38 = 0 then
        (prf_T_add σ 3 x1 x3.toInt32).bind fun r40 =>
        some (x2, r40)
       else
        some (0, σ)
     else
      some (0, σ)
   else
    prf_T_readNumber_80 σ x1 x2 x3
def prf_T_readNumber_7 (fu : Nat) (σ : pr_St) (x1 : Int32) (x2 : Int32) (x3 : Int64) (x5 : Int32) : Option (Int32 × pr_St) := match fu with
  | 0 => none
  | n + 1 =>
    if (σ.1 1 5) ≤ x5 then
     prf_T_readNumber_61 σ x1 x2 x3
    else
     (prf_T_byteAt σ x5).bind fun r42 =>
     (prf_T_isDigit σ r42).bind fun r43 =>
     if r43 = 0 then
      prf_T_readNumber_61 σ x1 x2 x3
     else
      if 10 ≤ x2 then
       prf_T_readNumber_7 n σ x1 (x2 + 1) x3 (x5 + 1)
      else
       (prf_T_byteAt σ x5).bind fun r46 =>
       prf_T_readNumber_7 n σ x1 (x2 + 1) (((x3 * 10) + r46.toInt64) - 48) (x5 + 1)
def prf_T_readNumber (σ : pr_St) (x1 : Int32) : Option (Int32 × pr_St) :=
  prf_T_readNumber_7 pr_FU σ x1 0 0 x1
def prf_T_wordOrName_8 (fu : Nat) (σ : pr_St) (x1 : Int32) (x2 : Int32) (x3 : Int32) (x4 : Int32) (x5 : Int32) : Option Int32 := match fu with
  | 0 => none
  | n + 1 =>
    if 40 ≤ x5 then
     some 2
    else
     pr_ck x5 40 <|
     if (pr_wd x5.toNatClampNeg) = 32 then
      if x4 = x2 then
       some x3
      else
       prf_T_wordOrName_8 n σ x1 x2 (x3 + 1) 0 (x5 + 1)
     else
      if x4 < 0 then
       prf_T_wordOrName_8 n σ x1 x2 x3 (-1) (x5 + 1)
      else
       if x2 ≤ x4 then
        prf_T_wordOrName_8 n σ x1 x2 x3 (-1) (x5 + 1)
       else
        (prf_T_byteAt σ (x1 + x4)).bind fun r15 =>
        pr_ck x5 40 <|
        if r15 = (pr_wd x5.toNatClampNeg) then
         prf_T_wordOrName_8 n σ x1 x2 x3 (x4 + 1) (x5 + 1)
        else
         prf_T_wordOrName_8 n σ x1 x2 x3 (-1) (x5 + 1)
def prf_T_wordOrName (σ : pr_St) (x1 : Int32) (x2 : Int32) : Option Int32 :=
  prf_T_wordOrName_8 pr_FU σ x1 x2 4 0 0
def prf_T_readName_32 (σ : pr_St) (x1 : Int32) (x2 : Int32) : Option (Int32 × pr_St) :=
  if x2 ≤ 30 then
   (prf_T_wordOrName σ x1 x2).bind fun r9 =>
   (prf_T_add σ r9 x1 x2).bind fun r10 =>
   some (x2, r10)
  else
   some (0, σ)
def prf_T_readName_4 (fu : Nat) (σ : pr_St) (x1 : Int32) (x2 : Int32) (x3 : Int32) : Option (Int32 × pr_St) := match fu with
  | 0 => none
  | n + 1 =>
    if (σ.1 1 5) ≤ x3 then
     prf_T_readName_32 σ x1 x2
    else
     (prf_T_byteAt σ x3).bind fun r12 =>
     (prf_T_isInName σ r12).bind fun r13 =>
     if r13 = 0 then
      prf_T_readName_32 σ x1 x2
     else
      prf_T_readName_4 n σ x1 (x2 + 1) (x3 + 1)
def prf_T_readName (σ : pr_St) (x1 : Int32) : Option (Int32 × pr_St) :=
  prf_T_readName_4 pr_FU σ x1 0 x1
def prf_T_signOfTwo (σ : pr_St) (x0 : Int32) (x1 : Int32) : Option Int32 :=
  if x1 = 61 then
   if x0 = 33 then
    some 31
   else
     if x0 = 60 then
      some 27
     else
       if x0 = 61 then
        some 30
       else
         if x0 = 62 then
          some 29
         else
           some 1
  else
   if x0 = 38 then
    if x1 = 38 then
     some 32
    else
     if x0 = 124 then
      if x1 = 124 then
       some 33
      else
       some 1
     else
      some 1
   else
    if x0 = 124 then
     if x1 = 124 then
      some 33
     else
      some 1
    else
     some 1
def prf_T_signOfOne (σ : pr_St) (x0 : Int32) : Option Int32 :=
  if x0 = 33 then
   some 34
  else
    if x0 = 37 then
     some 25
    else
      if x0 = 40 then
       some 12
      else
        if x0 = 41 then
         some 13
        else
          if x0 = 42 then
           some 23
          else
            if x0 = 43 then
             some 21
            else
              if x0 = 44 then
               some 18
              else
                if x0 = 45 then
                 some 22
                else
                  if x0 = 47 then
                   some 24
                  else
                    if x0 = 59 then
                     some 19
                    else
                      if x0 = 60 then
                       some 26
                      else
                        if x0 = 61 then
                         some 20
                        else
                          if x0 = 62 then
                           some 28
                          else
                            if x0 = 91 then
                             some 16
                            else
                              if x0 = 93 then
                               some 17
                              else
                                if x0 = 123 then
                                 some 14
                                else
                                  if x0 = 125 then
                                   some 15
                                  else
                                    some 1
def prf_T_readSign (σ : pr_St) (x1 : Int32) : Option (Int32 × pr_St) :=
  (prf_T_byteAt σ x1).bind fun r9 =>
  (prf_T_byteAt σ (x1 + 1)).bind fun r10 =>
  (prf_T_signOfTwo σ r9 r10).bind fun r11 =>
  if r11 = 1 then
   (prf_T_signOfOne σ r9).bind fun r13 =>
   if r13 = 1 then
    some (0, σ)
   else
    (prf_T_add σ r13 x1 0).bind fun r15 =>
    some (1, r15)
  else
   (prf_T_add σ r11 x1 0).bind fun r16 =>
   some (2, r16)
def prf_T_readToken (σ : pr_St) (x1 : Int32) : Option (Int32 × pr_St) :=
  (prf_T_byteAt σ x1).bind fun r9 =>
  (prf_T_isDigit σ r9).bind fun r10 =>
  if r10 = 0 then
   (prf_T_isInName σ r9).bind fun r12 =>
   if r12 = 0 then
    (prf_T_readSign σ x1).bind fun r14 =>
    some (r14.1, r14.2)
   else
    (prf_T_readName σ x1).bind fun r15 =>
    some (r15.1, r15.2)
  else
   (prf_T_readNumber σ x1).bind fun r16 =>
   some (r16.1, r16.2)
def prf_T_readText_23 (fu : Nat) (σ : pr_St) (x2 : Int32) (x3 : Int32) : Option pr_St := match fu with
  | 0 => none
  | n + 1 =>
    if 8000 ≤ x3 then
     (prf_T_add σ 0 (σ.1 1 5) 0).bind fun r11 =>
     some r11
    else
     if (σ.1 1 5) ≤ x2 then
      (prf_T_add σ 0 (σ.1 1 5) 0).bind fun r13 =>
      some r13
     else
      (prf_T_readToken σ x2).bind fun r14 =>
      if r14.1 = 0 then
       (prf_T_add r14.2 1 x2 0).bind fun r17 =>
       some r17
      else
       (prf_T_behindBlanks r14.2 (x2 + r14.1)).bind fun r16 =>
       prf_T_readText_23 n r14.2 r16 (x3 + 1)
def prf_T_readText (σ : pr_St) (x1 : Int32) : Option pr_St :=
  (prf_T_behindBlanks (pr_sI (pr_sI (pr_sI σ 1 1 0) 1 5 x1) 1 6 0) 0).bind fun r18 =>
  prf_T_readText_23 pr_FU (pr_sI (pr_sI (pr_sI σ 1 1 0) 1 5 x1) 1 6 0) r18 0
def prf_G_clear (σ : pr_St)  : Option pr_St :=
  some (pr_sI (pr_sI (pr_sI σ 2 5 0) 2 11 0) 2 14 0)
def prf_T_kindAt (σ : pr_St) (x1 : Int32) : Option Int32 :=
  if x1 < 0 then
   some 0
  else
   if (σ.1 1 6) ≤ x1 then
    some 0
   else
    pr_ck x1 8001 <|
    some ((σ.2.1 9) x1.toNatClampNeg)
def prf_R_take (σ : pr_St) (x1 : Int32) : Option (Int32 × pr_St) :=
  (prf_T_kindAt σ (σ.1 3 2)).bind fun r3 =>
  if r3 = x1 then
   some (1, (pr_sI σ 3 2 ((σ.1 3 2) + 1)))
  else
   some (0, σ)
def prf_R_now (σ : pr_St)  : Option Int32 :=
  (prf_T_kindAt σ (σ.1 3 2)).bind fun r2 =>
  some r2
def prf_R_readNames_14 (fu : Nat) (σ : pr_St) (x1 : Int32) (x2 : Int32) : Option (Int32 × pr_St) := match fu with
  | 0 => none
  | n + 1 =>
    if 8000 ≤ x2 then
     some (x1, σ)
    else
     (prf_R_take σ 18).bind fun r9 =>
     if r9.1 = 0 then
      some (x1, r9.2)
     else
      (prf_R_take r9.2 2).bind fun r11 =>
      if r11.1 = 0 then
       some ((-1), r11.2)
      else
       prf_R_readNames_14 n r11.2 (x1 + 1) (x2 + 1)
def prf_R_readNames (σ : pr_St)  : Option (Int32 × pr_St) :=
  (prf_R_take σ 2).bind fun r13 =>
  if r13.1 = 0 then
   some ((-1), r13.2)
  else
   prf_R_readNames_14 pr_FU r13.2 1 0
def prf_G_openFunction (σ : pr_St) (x1 : Int32) (x2 : Int32) : Option (Int32 × pr_St) :=
  if (σ.1 2 5) < 889 then
   pr_ck (σ.1 2 5) 889 <|
   pr_ck (σ.1 2 5) 889 <|
   pr_ck (σ.1 2 5) 889 <|
   some (1, (pr_sI (pr_sA (pr_sA (pr_sA σ 12 (upd (σ.2.1 12) (σ.1 2 5).toNatClampNeg x1)) 13 (upd (σ.2.1 13) (σ.1 2 5).toNatClampNeg x2)) 14 (upd (σ.2.1 14) (σ.1 2 5).toNatClampNeg (σ.1 2 11))) 2 5 ((σ.1 2 5) + 1)))
  else
   some (0, σ)
def prf_R_readHead_50 (σ : pr_St) (x1 : Int32) (x2 : Int32) : Option (Int32 × pr_St) :=
  if x2 = (-1) then
   some (0, σ)
  else
   (prf_R_take σ 13).bind fun r16 =>
   if r16.1 = 0 then
    some (0, r16.2)
   else
    (prf_G_openFunction r16.2 x1 x2).bind fun r18 =>
    if r18.1 = 0 then
     some (0, r18.2)
    else
     some (1, r18.2)
def prf_R_readHead (σ : pr_St)  : Option (Int32 × pr_St) :=
  (prf_R_take σ 4).bind fun r20 =>
  if r20.1 = 0 then
   some (0, r20.2)
  else
   (prf_R_take r20.2 2).bind fun r22 =>
   if r22.1 = 0 then
    some (0, r22.2)
   else
    (prf_R_take r22.2 12).bind fun r24 =>
    if r24.1 = 0 then
     some (0, r24.2)
    else
     (prf_R_now r24.2).bind fun r26 =>
     if r26 = 13 then
      prf_R_readHead_50 r24.2 (r20.2.1 3 2) 0
     else
      (prf_R_readNames r24.2).bind fun r28 =>
      prf_R_readHead_50 r28.2 (r20.2.1 3 2) r28.1
def prf_R_isCallAt (σ : pr_St) (x1 : Int32) : Option Int32 :=
  (prf_T_kindAt σ x1).bind fun r5 =>
  if r5 = 2 then
   (prf_T_kindAt σ (x1 + 1)).bind fun r7 =>
   if r7 = 12 then
    some 1
   else
    some 0
  else
   some 0
def prf_R_kindBehindName (σ : pr_St)  : Option Int32 :=
  (prf_T_kindAt σ ((σ.1 3 2) + 1)).bind fun r8 =>
  if r8 = 12 then
   some 4
  else
   if r8 = 20 then
    (prf_R_isCallAt σ ((σ.1 3 2) + 2)).bind fun r12 =>
    if r12 = 0 then
     if r8 = 16 then
      some 3
     else
      some 2
    else
     some 4
   else
    if r8 = 16 then
     some 3
    else
     some 2
def prf_R_statementKind (σ : pr_St)  : Option Int32 :=
  (prf_R_now σ).bind fun r12 =>
  if r12 = 2 then
   (prf_R_kindBehindName σ).bind fun r14 =>
   some r14
  else
    if r12 = 3 then
     some 0
    else
      if r12 = 4 then
       some 0
      else
        if r12 = 5 then
         some 1
        else
          if r12 = 6 then
           some 5
          else
            if r12 = 7 then
             some 0
            else
              if r12 = 8 then
               some 6
              else
                if r12 = 9 then
                 some 7
                else
                  if r12 = 10 then
                   some 8
                  else
                    some 0
def prf_G_openStatement (σ : pr_St) (x1 : Int32) (x2 : Int32) : Option (Int32 × pr_St) :=
  if (σ.1 2 11) < 2001 then
   pr_ck (σ.1 2 11) 2001 <|
   pr_ck (σ.1 2 11) 2001 <|
   pr_ck (σ.1 2 11) 2001 <|
   pr_ck (σ.1 2 11) 2001 <|
   some ((σ.1 2 11), (pr_sI (pr_sA (pr_sA (pr_sA (pr_sA σ 17 (upd (σ.2.1 17) (σ.1 2 11).toNatClampNeg x1.toInt8.toInt32.toInt8.toInt32)) 18 (upd (σ.2.1 18) (σ.1 2 11).toNatClampNeg x2)) 19 (upd (σ.2.1 19) (σ.1 2 11).toNatClampNeg (σ.1 2 14))) 20 (upd (σ.2.1 20) (σ.1 2 11).toNatClampNeg 0)) 2 11 ((σ.1 2 11) + 1)))
  else
   some ((-1), σ)
def prf_G_addOperation (σ : pr_St) (x1 : Int32) (x2 : Int32) : Option pr_St :=
  if 8001 ≤ (σ.1 2 14) then
   some σ
  else
   pr_ck (σ.1 2 14) 8001 <|
   pr_ck (σ.1 2 14) 8001 <|
   some (pr_sI (pr_sA (pr_sA σ 22 (upd (σ.2.1 22) (σ.1 2 14).toNatClampNeg x1.toInt8.toInt32.toInt8.toInt32)) 23 (upd (σ.2.1 23) (σ.1 2 14).toNatClampNeg x2)) 2 14 ((σ.1 2 14) + 1))
def prf_R_readLimit (σ : pr_St)  : Option (Int32 × pr_St) :=
  (prf_R_now σ).bind fun r7 =>
  if r7 = 22 then
   (prf_R_take (pr_sI σ 3 2 ((σ.1 3 2) + 1)) 3).bind fun r11 =>
   pr_z r11.1 <|
   some (r11.1, r11.2)
  else
   (prf_R_take σ 3).bind fun r9 =>
   pr_z r9.1 <|
   some (r9.1, r9.2)
def prf_R_readTerm_12 (rc : pr_St → Int32 → Option (Int32 × pr_St)) (fu : Nat) (σ : pr_St) (x1 : Int32) (x2 : Int32) : Option (Int32 × pr_St) := match fu with
  | 0 => none
  | n + 1 =>
    if 8000 ≤ x2 then
     some (1, σ)
    else
     (prf_R_now σ).bind fun r13 =>
     if r13 < 23 then
      some (1, σ)
     else
      (prf_R_now σ).bind fun r15 =>
      if 25 < r15 then
       some (1, σ)
      else
       (prf_R_now σ).bind fun r17 =>
       (rc (pr_sI σ 3 2 ((σ.1 3 2) + 1)) x1).bind fun r18 =>
       if r18.1 = 0 then
        some (0, r18.2)
       else
        (prf_G_addOperation r18.2 r17 (-1)).bind fun r20 =>
        prf_R_readTerm_12 rc n r20 x1 (x2 + 1)
def prf_R_readTerm (rc : pr_St → Int32 → Option (Int32 × pr_St)) (σ : pr_St) (x1 : Int32) : Option (Int32 × pr_St) :=
  (rc σ x1).bind fun r21 =>
  if r21.1 = 0 then
   some (0, r21.2)
  else
   prf_R_readTerm_12 rc pr_FU r21.2 x1 0
def prf_R_readSum_43 (rc : pr_St → Int32 → Option (Int32 × pr_St)) (kk18 : pr_St → Int32 → Int32 → Option (Int32 × pr_St)) (σ : pr_St) (x1 : Int32) (x2 : Int32) : Option (Int32 × pr_St) :=
  (prf_R_now σ).bind fun r13 =>
  (prf_R_readTerm rc (pr_sI σ 3 2 ((σ.1 3 2) + 1)) x1).bind fun r14 =>
  if r14.1 = 0 then
   some (0, r14.2)
  else
   (prf_G_addOperation r14.2 r13 (-1)).bind fun r16 =>
   kk18 r16 x1 (x2 + 1)
def prf_R_readSum_18 (rc : pr_St → Int32 → Option (Int32 × pr_St)) (fu : Nat) (σ : pr_St) (x1 : Int32) (x2 : Int32) : Option (Int32 × pr_St) := match fu with
  | 0 => none
  | n + 1 =>
    if 8000 ≤ x2 then
     some (1, σ)
    else
     (prf_R_now σ).bind fun r18 =>
     if r18 = 21 then
      prf_R_readSum_43 rc (prf_R_readSum_18 rc n) σ x1 x2
     else
      (prf_R_now σ).bind fun r20 =>
      if r20 = 22 then
       prf_R_readSum_43 rc (prf_R_readSum_18 rc n) σ x1 x2
      else
       some (1, σ)
def prf_R_readSum (rc : pr_St → Int32 → Option (Int32 × pr_St)) (σ : pr_St) (x1 : Int32) : Option (Int32 × pr_St) :=
  if 60 < x1 then
   some (0, σ)
  else
   (prf_R_readTerm rc σ x1).bind fun r23 =>
   if r23.1 = 0 then
    some (0, r23.2)
   else
    prf_R_readSum_18 rc pr_FU r23.2 x1 0
def prf_R_readFactor (rc : pr_St → Int32 → Option (Int32 × pr_St)) (σ : pr_St) (x1 : Int32) : Option (Int32 × pr_St) :=
  (prf_R_now σ).bind fun r38 =>
  if r38 = 2 then
   (prf_R_take (pr_sI σ 3 2 ((σ.1 3 2) + 1)) 16).bind fun r40 =>
   if r40.1 = 0 then
    (prf_G_addOperation r40.2 2 (σ.1 3 2)).bind fun r48 =>
    some (1, r48)
   else
    (prf_G_addOperation r40.2 36 (σ.1 3 2)).bind fun r42 =>
    (prf_R_readSum rc r42 (x1 + 1)).bind fun r43 =>
    if r43.1 = 0 then
     some (0, r43.2)
    else
     (prf_R_take r43.2 17).bind fun r45 =>
     if r45.1 = 0 then
      some (0, r45.2)
     else
      (prf_G_addOperation r45.2 38 (-1)).bind fun r47 =>
      some (1, r47)
  else
    if r38 = 3 then
     (prf_G_addOperation σ 3 (σ.1 3 2)).bind fun r50 =>
     (prf_R_take r50 3).bind fun r51 =>
     pr_z r51.1 <|
     some (r51.1, r51.2)
    else
      if r38 = 11 then
       (prf_G_addOperation σ 11 (σ.1 3 2)).bind fun r54 =>
       (prf_R_take (pr_sI r54 3 2 ((r54.1 3 2) + 1)) 12).bind fun r55 =>
       if r55.1 = 0 then
        some (1, r55.2)
       else
        (prf_R_readLimit r55.2).bind fun r57 =>
        if r57.1 = 0 then
         some (0, r57.2)
        else
         (prf_R_take r57.2 18).bind fun r59 =>
         if r59.1 = 0 then
          some (0, r59.2)
         else
          (prf_R_readLimit r59.2).bind fun r61 =>
          if r61.1 = 0 then
           some (0, r61.2)
          else
           (prf_R_take r61.2 13).bind fun r63 =>
           if r63.1 = 0 then
            some (0, r63.2)
           else
            some (1, r63.2)
      else
        if r38 = 12 then
         (prf_R_readSum rc (pr_sI σ 3 2 ((σ.1 3 2) + 1)) (x1 + 1)).bind fun r66 =>
         if r66.1 = 0 then
          some (0, r66.2)
         else
          (prf_R_take r66.2 13).bind fun r68 =>
          if r68.1 = 0 then
           some (0, r68.2)
          else
           some (1, r68.2)
        else
          if r38 = 22 then
           if 60 ≤ x1 then
            some (0, (pr_sI σ 3 2 ((σ.1 3 2) + 1)))
           else
            (rc (pr_sI σ 3 2 ((σ.1 3 2) + 1)) (x1 + 1)).bind fun r72 =>
            if r72.1 = 0 then
             some (0, r72.2)
            else
             (prf_G_addOperation r72.2 35 (-1)).bind fun r74 =>
             some (1, r74)
          else
            some (0, σ)
def prF_R_readFactor : Nat → pr_St → Int32 → Option (Int32 × pr_St)
  | 0 => fun _ _ => none
  | n + 1 => fun σ x1 => prf_R_readFactor (prF_R_readFactor n) σ x1

def prf_R_readVar (σ : pr_St) (x1 : Int32) : Option (Int32 × pr_St) :=
  (prf_R_take σ 5).bind fun r15 =>
  if r15.1 = 0 then
   some (0, r15.2)
  else
   (prf_R_take r15.2 2).bind fun r17 =>
   if r17.1 = 0 then
    some (0, r17.2)
   else
    (prf_R_take r17.2 16).bind fun r19 =>
    if r19.1 = 0 then
     (prf_R_take r19.2 20).bind fun r21 =>
     if r21.1 = 0 then
      some (1, r21.2)
     else
      (prf_R_readSum (prF_R_readFactor 70) r21.2 (x1 + 1)).bind fun r23 =>
      if r23.1 = 0 then
       some (0, r23.2)
      else
       some (1, r23.2)
    else
     (prf_R_take r19.2 3).bind fun r25 =>
     if r25.1 = 0 then
      some (0, r25.2)
     else
      (prf_R_take r25.2 17).bind fun r27 =>
      if r27.1 = 0 then
       some (0, r27.2)
      else
       some (1, r27.2)
def prf_R_readSetPlace (σ : pr_St) (x1 : Int32) : Option (Int32 × pr_St) :=
  (prf_G_addOperation σ 36 (σ.1 3 2)).bind fun r15 =>
  (prf_R_take r15 2).bind fun r16 =>
  if r16.1 = 0 then
   some (0, r16.2)
  else
   (prf_R_take r16.2 16).bind fun r18 =>
   if r18.1 = 0 then
    some (0, r18.2)
   else
    (prf_R_readSum (prF_R_readFactor 70) r18.2 (x1 + 1)).bind fun r20 =>
    if r20.1 = 0 then
     some (0, r20.2)
    else
     (prf_R_take r20.2 17).bind fun r22 =>
     if r22.1 = 0 then
      some (0, r22.2)
     else
      (prf_G_addOperation r22.2 37 (-1)).bind fun r24 =>
      (prf_R_take r24 20).bind fun r25 =>
      if r25.1 = 0 then
       some (0, r25.2)
      else
       (prf_R_readSum (prF_R_readFactor 70) r25.2 (x1 + 1)).bind fun r27 =>
       if r27.1 = 0 then
        some (0, r27.2)
       else
        some (1, r27.2)
def prf_G_isStatement (σ : pr_St) (x1 : Int32) : Option Int32 :=
  if x1 < 0 then
   some 0
  else
   if (σ.1 2 11) ≤ x1 then
    some 0
   else
    some 1
def prf_G_setDetail (σ : pr_St) (x1 : Int32) (x2 : Int32) : Option pr_St :=
  (prf_G_isStatement σ x1).bind fun r4 =>
  if r4 = 0 then
   some σ
  else
   pr_ck x1 2001 <|
   some (pr_sA σ 20 (upd (σ.2.1 20) x1.toNatClampNeg x2))
def prf_R_readCall_60 (fu : Nat) (σ : pr_St) (x1 : Int32) (x2 : Int32) (x3 : Int32) (x4 : Int32) : Option (Int32 × pr_St) := match fu with
  | 0 => none
  | n + 1 =>
    if 8000 ≤ x4 then
     (prf_G_setDetail σ x1 x3).bind fun r29 =>
     (prf_R_take r29 13).bind fun r30 =>
     pr_z r30.1 <|
     some (r30.1, r30.2)
    else
     (prf_R_take σ 18).bind fun r32 =>
     if r32.1 = 0 then
      (prf_G_setDetail r32.2 x1 x3).bind fun r34 =>
      (prf_R_take r34 13).bind fun r35 =>
      pr_z r35.1 <|
      some (r35.1, r35.2)
     else
      (prf_R_readSum (prF_R_readFactor 70) r32.2 (x2 + 1)).bind fun r37 =>
      if r37.1 = 0 then
       some (0, r37.2)
      else
       prf_R_readCall_60 n r37.2 x1 x2 (x3 + 1) (x4 + 1)
def prf_R_readCall (σ : pr_St) (x1 : Int32) (x2 : Int32) : Option (Int32 × pr_St) :=
  (prf_T_kindAt σ ((σ.1 3 2) + 1)).bind fun r39 =>
  if r39 = 20 then
   (prf_R_now (pr_sI σ 3 2 ((σ.1 3 2) + 4))).bind fun r48 =>
   if r48 = 13 then
    (prf_G_setDetail (pr_sI σ 3 2 ((σ.1 3 2) + 4)) x1 0).bind fun r50 =>
    (prf_R_take r50 13).bind fun r51 =>
    pr_z r51.1 <|
    some (r51.1, r51.2)
   else
    (prf_R_readSum (prF_R_readFactor 70) (pr_sI σ 3 2 ((σ.1 3 2) + 4)) (x2 + 1)).bind fun r53 =>
    if r53.1 = 0 then
     some (0, r53.2)
    else
     prf_R_readCall_60 pr_FU r53.2 x1 x2 1 0
  else
   (prf_R_now (pr_sI σ 3 2 ((σ.1 3 2) + 2))).bind fun r41 =>
   if r41 = 13 then
    (prf_G_setDetail (pr_sI σ 3 2 ((σ.1 3 2) + 2)) x1 0).bind fun r43 =>
    (prf_R_take r43 13).bind fun r44 =>
    pr_z r44.1 <|
    some (r44.1, r44.2)
   else
    (prf_R_readSum (prF_R_readFactor 70) (pr_sI σ 3 2 ((σ.1 3 2) + 2)) (x2 + 1)).bind fun r46 =>
    if r46.1 = 0 then
     some (0, r46.2)
    else
     prf_R_readCall_60 pr_FU r46.2 x1 x2 1 0
def prf_G_operationCount (σ : pr_St)  : Option Int32 :=
  some (σ.1 2 14)
def prf_G_isOperation (σ : pr_St) (x1 : Int32) : Option Int32 :=
  if x1 < 0 then
   some 0
  else
   if (σ.1 2 14) ≤ x1 then
    some 0
   else
    some 1
def prf_G_leapToHere (σ : pr_St) (x1 : Int32) : Option pr_St :=
  (prf_G_isOperation σ x1).bind fun r4 =>
  if r4 = 0 then
   some σ
  else
   pr_ck x1 8001 <|
   some (pr_sA σ 23 (upd (σ.2.1 23) x1.toNatClampNeg (σ.1 2 14)))
def prf_R_readBoth_12 (rc : pr_St → Int32 → Option (Int32 × pr_St)) (fu : Nat) (σ : pr_St) (x1 : Int32) (x2 : Int32) : Option (Int32 × pr_St) := match fu with
  | 0 => none
  | n + 1 =>
    if 8000 ≤ x2 then
     some (1, σ)
    else
     (prf_R_take σ 32).bind fun r12 =>
     if r12.1 = 0 then
      some (1, r12.2)
     else
      (prf_G_operationCount r12.2).bind fun r14 =>
      (prf_G_addOperation r12.2 32 (-1)).bind fun r15 =>
      (rc r15 x1).bind fun r16 =>
      if r16.1 = 0 then
       some (0, r16.2)
      else
       (prf_G_leapToHere r16.2 r14).bind fun r18 =>
       prf_R_readBoth_12 rc n r18 x1 (x2 + 1)
def prf_R_readBoth (rc : pr_St → Int32 → Option (Int32 × pr_St)) (σ : pr_St) (x1 : Int32) : Option (Int32 × pr_St) :=
  (rc σ x1).bind fun r19 =>
  if r19.1 = 0 then
   some (0, r19.2)
  else
   prf_R_readBoth_12 rc pr_FU r19.2 x1 0
def prf_R_readCond_18 (rc : pr_St → Int32 → Option (Int32 × pr_St)) (fu : Nat) (σ : pr_St) (x1 : Int32) (x2 : Int32) : Option (Int32 × pr_St) := match fu with
  | 0 => none
  | n + 1 =>
    if 8000 ≤ x2 then
     some (1, σ)
    else
     (prf_R_take σ 33).bind fun r13 =>
     if r13.1 = 0 then
      some (1, r13.2)
     else
      (prf_G_operationCount r13.2).bind fun r15 =>
      (prf_G_addOperation r13.2 33 (-1)).bind fun r16 =>
      (prf_R_readBoth rc r16 x1).bind fun r17 =>
      if r17.1 = 0 then
       some (0, r17.2)
      else
       (prf_G_leapToHere r17.2 r15).bind fun r19 =>
       prf_R_readCond_18 rc n r19 x1 (x2 + 1)
def prf_R_readCond (rc : pr_St → Int32 → Option (Int32 × pr_St)) (σ : pr_St) (x1 : Int32) : Option (Int32 × pr_St) :=
  if 60 < x1 then
   some (0, σ)
  else
   (prf_R_readBoth rc σ x1).bind fun r21 =>
   if r21.1 = 0 then
    some (0, r21.2)
   else
    prf_R_readCond_18 rc pr_FU r21.2 x1 0
def prf_R_readTest (rc : pr_St → Int32 → Option (Int32 × pr_St)) (σ : pr_St) (x1 : Int32) : Option (Int32 × pr_St) :=
  (prf_R_take σ 34).bind fun r21 =>
  if r21.1 = 0 then
   (prf_R_take r21.2 16).bind fun r23 =>
   if r23.1 = 0 then
    (prf_R_readSum (prF_R_readFactor 70) r23.2 (x1 + 1)).bind fun r25 =>
    if r25.1 = 0 then
     some (0, r25.2)
    else
     (prf_R_now r25.2).bind fun r27 =>
     if r27 < 26 then
      some (0, r25.2)
     else
      if r27 ≤ 31 then
       (prf_R_readSum (prF_R_readFactor 70) (pr_sI r25.2 3 2 ((r25.2.1 3 2) + 1)) (x1 + 1)).bind fun r30 =>
       if r30.1 = 0 then
        some (0, r30.2)
       else
        (prf_G_addOperation r30.2 r27 (-1)).bind fun r32 =>
        some (1, r32)
      else
       some (0, r25.2)
   else
    (prf_R_readCond rc r23.2 (x1 + 1)).bind fun r33 =>
    if r33.1 = 0 then
     some (0, r33.2)
    else
     (prf_R_take r33.2 17).bind fun r35 =>
     if r35.1 = 0 then
      some (0, r35.2)
     else
      some (1, r35.2)
  else
   if 60 ≤ x1 then
    some (0, r21.2)
   else
    (rc r21.2 (x1 + 1)).bind fun r38 =>
    if r38.1 = 0 then
     some (0, r38.2)
    else
     (prf_G_addOperation r38.2 34 (-1)).bind fun r40 =>
     some (1, r40)
def prF_R_readTest : Nat → pr_St → Int32 → Option (Int32 × pr_St)
  | 0 => fun _ _ => none
  | n + 1 => fun σ x1 => prf_R_readTest (prF_R_readTest n) σ x1

def prf_G_closeFirstBlock (σ : pr_St) (x1 : Int32) : Option pr_St :=
  (prf_G_setDetail σ x1 (σ.1 2 11)).bind fun r2 =>
  some r2
def prf_G_closeStatement (σ : pr_St) (x1 : Int32) : Option pr_St :=
  (prf_G_isStatement σ x1).bind fun r4 =>
  if r4 = 0 then
   some σ
  else
   pr_ck x1 2001 <|
   some (pr_sA σ 21 (upd (σ.2.1 21) x1.toNatClampNeg (σ.1 2 11)))
def prf_R_readBlock_19 (rc : pr_St → Int32 → Option (Int32 × pr_St)) (fu : Nat) (σ : pr_St) (x1 : Int32) (x2 : Int32) : Option (Int32 × pr_St) := match fu with
  | 0 => none
  | n + 1 =>
    if 8000 ≤ x2 then
     (prf_R_take σ 15).bind fun r14 =>
     pr_z r14.1 <|
     some (r14.1, r14.2)
    else
     (prf_R_now σ).bind fun r16 =>
     if r16 = 15 then
      (prf_R_take σ 15).bind fun r18 =>
      pr_z r18.1 <|
      some (r18.1, r18.2)
     else
      (rc σ x1).bind fun r20 =>
      if r20.1 = 0 then
       some (0, r20.2)
      else
       prf_R_readBlock_19 rc n r20.2 x1 (x2 + 1)
def prf_R_readBlock (rc : pr_St → Int32 → Option (Int32 × pr_St)) (σ : pr_St) (x1 : Int32) : Option (Int32 × pr_St) :=
  if 60 < x1 then
   some (0, σ)
  else
   (prf_R_take σ 14).bind fun r23 =>
   if r23.1 = 0 then
    some (0, r23.2)
   else
    prf_R_readBlock_19 rc pr_FU r23.2 x1 0
def prf_R_readBranch (rc : pr_St → Int32 → Option (Int32 × pr_St)) (σ : pr_St) (x1 : Int32) (x2 : Int32) (x3 : Int32) : Option (Int32 × pr_St) :=
  (prf_R_take (pr_sI σ 3 2 ((σ.1 3 2) + 1)) 12).bind fun r15 =>
  if r15.1 = 0 then
   some (0, r15.2)
  else
   (prf_R_readCond (prF_R_readTest 70) r15.2 (x3 + 1)).bind fun r17 =>
   if r17.1 = 0 then
    some (0, r17.2)
   else
    (prf_R_take r17.2 13).bind fun r19 =>
    if r19.1 = 0 then
     some (0, r19.2)
    else
     (prf_R_readBlock rc r19.2 (x3 + 1)).bind fun r21 =>
     if r21.1 = 0 then
      some (0, r21.2)
     else
      (prf_G_closeFirstBlock r21.2 x1).bind fun r23 =>
      if x2 = 6 then
       some (1, r23)
      else
       (prf_R_take r23 7).bind fun r25 =>
       if r25.1 = 0 then
        some (1, r25.2)
       else
        (prf_R_readBlock rc r25.2 (x3 + 1)).bind fun r27 =>
        if r27.1 = 0 then
         some (0, r27.2)
        else
         some (1, r27.2)
def prf_R_readStatement (rc : pr_St → Int32 → Option (Int32 × pr_St)) (σ : pr_St) (x1 : Int32) : Option (Int32 × pr_St) :=
  (prf_R_statementKind σ).bind fun r160 =>
  if r160 = 0 then
   if ((-1) : Int32) = (-1) then
    some (0, σ)
   else
    if r160 = 1 then
     (prf_R_readVar σ x1).bind fun r243 =>
     if r243.1 = 0 then
      (prf_G_closeStatement r243.2 (-1)).bind fun r245 =>
      some (0, (pr_sI r245 3 3 r160))
     else
      (prf_R_take r243.2 19).bind fun r246 =>
      if r246.1 = 0 then
       (prf_G_closeStatement r246.2 (-1)).bind fun r248 =>
       some (0, (pr_sI r248 3 3 r160))
      else
       (prf_G_closeStatement r246.2 (-1)).bind fun r249 =>
       some (1, (pr_sI r249 3 3 r160))
    else
      if r160 = 2 then
       (prf_R_take σ 2).bind fun r251 =>
       if r251.1 = 0 then
        (prf_G_closeStatement r251.2 (-1)).bind fun r253 =>
        some (0, (pr_sI r253 3 3 r160))
       else
        (prf_R_take r251.2 20).bind fun r254 =>
        if r254.1 = 0 then
         (prf_G_closeStatement r254.2 (-1)).bind fun r256 =>
         some (0, (pr_sI r256 3 3 r160))
        else
         (prf_R_readSum (prF_R_readFactor 70) r254.2 (x1 + 1)).bind fun r257 =>
         if r257.1 = 0 then
          (prf_G_closeStatement r257.2 (-1)).bind fun r259 =>
          some (0, (pr_sI r259 3 3 r160))
         else
          (prf_R_take r257.2 19).bind fun r260 =>
          if r260.1 = 0 then
           (prf_G_closeStatement r260.2 (-1)).bind fun r262 =>
           some (0, (pr_sI r262 3 3 r160))
          else
           (prf_G_closeStatement r260.2 (-1)).bind fun r263 =>
           some (1, (pr_sI r263 3 3 r160))
      else
        if r160 = 3 then
         (prf_R_readSetPlace σ x1).bind fun r265 =>
         if r265.1 = 0 then
          (prf_G_closeStatement r265.2 (-1)).bind fun r267 =>
          some (0, (pr_sI r267 3 3 r160))
         else
          (prf_R_take r265.2 19).bind fun r268 =>
          if r268.1 = 0 then
           (prf_G_closeStatement r268.2 (-1)).bind fun r270 =>
           some (0, (pr_sI r270 3 3 r160))
          else
           (prf_G_closeStatement r268.2 (-1)).bind fun r271 =>
           some (1, (pr_sI r271 3 3 r160))
        else
          if r160 = 4 then
           (prf_R_readCall σ (-1) x1).bind fun r273 =>
           if r273.1 = 0 then
            (prf_G_closeStatement r273.2 (-1)).bind fun r275 =>
            some (0, (pr_sI r275 3 3 r160))
           else
            (prf_R_take r273.2 19).bind fun r276 =>
            if r276.1 = 0 then
             (prf_G_closeStatement r276.2 (-1)).bind fun r278 =>
             some (0, (pr_sI r278 3 3 r160))
            else
             (prf_G_closeStatement r276.2 (-1)).bind fun r279 =>
             some (1, (pr_sI r279 3 3 r160))
          else
            if r160 = 5 then
             (prf_R_readBranch rc σ (-1) r160 x1).bind fun r281 =>
             (prf_G_closeStatement r281.2 (-1)).bind fun r282 =>
             pr_z r281.1 <|
             some (r281.1, (pr_sI r282 3 3 r160))
            else
              if r160 = 6 then
               (prf_R_readBranch rc σ (-1) r160 x1).bind fun r285 =>
               (prf_G_closeStatement r285.2 (-1)).bind fun r286 =>
               pr_z r285.1 <|
               some (r285.1, (pr_sI r286 3 3 r160))
              else
                if r160 = 7 then
                 (prf_R_take σ 9).bind fun r289 =>
                 if r289.1 = 0 then
                  (prf_G_closeStatement r289.2 (-1)).bind fun r291 =>
                  some (0, (pr_sI r291 3 3 r160))
                 else
                  (prf_R_take r289.2 12).bind fun r292 =>
                  if r292.1 = 0 then
                   (prf_G_closeStatement r292.2 (-1)).bind fun r294 =>
                   some (0, (pr_sI r294 3 3 r160))
                  else
                   (prf_R_readCond (prF_R_readTest 70) r292.2 (x1 + 1)).bind fun r295 =>
                   if r295.1 = 0 then
                    (prf_G_closeStatement r295.2 (-1)).bind fun r297 =>
                    some (0, (pr_sI r297 3 3 r160))
                   else
                    (prf_R_take r295.2 13).bind fun r298 =>
                    if r298.1 = 0 then
                     (prf_G_closeStatement r298.2 (-1)).bind fun r300 =>
                     some (0, (pr_sI r300 3 3 r160))
                    else
                     (prf_R_take r298.2 19).bind fun r301 =>
                     if r301.1 = 0 then
                      (prf_G_closeStatement r301.2 (-1)).bind fun r303 =>
                      some (0, (pr_sI r303 3 3 r160))
                     else
                      (prf_G_closeStatement r301.2 (-1)).bind fun r304 =>
                      some (1, (pr_sI r304 3 3 r160))
                else
                  if r160 = 8 then
                   (prf_R_take σ 10).bind fun r306 =>
                   if r306.1 = 0 then
                    (prf_G_closeStatement r306.2 (-1)).bind fun r308 =>
                    some (0, (pr_sI r308 3 3 r160))
                   else
                    (prf_R_readSum (prF_R_readFactor 70) r306.2 (x1 + 1)).bind fun r309 =>
                    if r309.1 = 0 then
                     (prf_G_closeStatement r309.2 (-1)).bind fun r311 =>
                     some (0, (pr_sI r311 3 3 r160))
                    else
                     (prf_R_take r309.2 19).bind fun r312 =>
                     if r312.1 = 0 then
                      (prf_G_closeStatement r312.2 (-1)).bind fun r314 =>
                      some (0, (pr_sI r314 3 3 r160))
                     else
                      (prf_G_closeStatement r312.2 (-1)).bind fun r315 =>
                      some (1, (pr_sI r315 3 3 r160))
                  else
                    (prf_R_readBranch rc σ (-1) r160 x1).bind fun r316 =>
                    (prf_G_closeStatement r316.2 (-1)).bind fun r317 =>
                    pr_z r316.1 <|
                    some (r316.1, (pr_sI r317 3 3 r160))
  else
   (prf_G_openStatement σ r160 (σ.1 3 2)).bind fun r162 =>
   if r162.1 = (-1) then
    some (0, r162.2)
   else
    if r160 = 1 then
     (prf_R_readVar r162.2 x1).bind fun r165 =>
     if r165.1 = 0 then
      (prf_G_closeStatement r165.2 r162.1).bind fun r167 =>
      some (0, (pr_sI r167 3 3 r160))
     else
      (prf_R_take r165.2 19).bind fun r168 =>
      if r168.1 = 0 then
       (prf_G_closeStatement r168.2 r162.1).bind fun r170 =>
       some (0, (pr_sI r170 3 3 r160))
      else
       (prf_G_closeStatement r168.2 r162.1).bind fun r171 =>
       some (1, (pr_sI r171 3 3 r160))
    else
      if r160 = 2 then
       (prf_R_take r162.2 2).bind fun r173 =>
       if r173.1 = 0 then
        (prf_G_closeStatement r173.2 r162.1).bind fun r175 =>
        some (0, (pr_sI r175 3 3 r160))
       else
        (prf_R_take r173.2 20).bind fun r176 =>
        if r176.1 = 0 then
         (prf_G_closeStatement r176.2 r162.1).bind fun r178 =>
         some (0, (pr_sI r178 3 3 r160))
        else
         (prf_R_readSum (prF_R_readFactor 70) r176.2 (x1 + 1)).bind fun r179 =>
         if r179.1 = 0 then
          (prf_G_closeStatement r179.2 r162.1).bind fun r181 =>
          some (0, (pr_sI r181 3 3 r160))
         else
          (prf_R_take r179.2 19).bind fun r182 =>
          if r182.1 = 0 then
           (prf_G_closeStatement r182.2 r162.1).bind fun r184 =>
           some (0, (pr_sI r184 3 3 r160))
          else
           (prf_G_closeStatement r182.2 r162.1).bind fun r185 =>
           some (1, (pr_sI r185 3 3 r160))
      else
        if r160 = 3 then
         (prf_R_readSetPlace r162.2 x1).bind fun r187 =>
         if r187.1 = 0 then
          (prf_G_closeStatement r187.2 r162.1).bind fun r189 =>
          some (0, (pr_sI r189 3 3 r160))
         else
          (prf_R_take r187.2 19).bind fun r190 =>
          if r190.1 = 0 then
           (prf_G_closeStatement r190.2 r162.1).bind fun r192 =>
           some (0, (pr_sI r192 3 3 r160))
          else
           (prf_G_closeStatement r190.2 r162.1).bind fun r193 =>
           some (1, (pr_sI r193 3 3 r160))
        else
          if r160 = 4 then
           (prf_R_readCall r162.2 r162.1 x1).bind fun r195 =>
           if r195.1 = 0 then
            (prf_G_closeStatement r195.2 r162.1).bind fun r197 =>
            some (0, (pr_sI r197 3 3 r160))
           else
            (prf_R_take r195.2 19).bind fun r198 =>
            if r198.1 = 0 then
             (prf_G_closeStatement r198.2 r162.1).bind fun r200 =>
             some (0, (pr_sI r200 3 3 r160))
            else
             (prf_G_closeStatement r198.2 r162.1).bind fun r201 =>
             some (1, (pr_sI r201 3 3 r160))
          else
            if r160 = 5 then
             (prf_R_readBranch rc r162.2 r162.1 r160 x1).bind fun r203 =>
             (prf_G_closeStatement r203.2 r162.1).bind fun r204 =>
             pr_z r203.1 <|
             some (r203.1, (pr_sI r204 3 3 r160))
            else
              if r160 = 6 then
               (prf_R_readBranch rc r162.2 r162.1 r160 x1).bind fun r207 =>
               (prf_G_closeStatement r207.2 r162.1).bind fun r208 =>
               pr_z r207.1 <|
               some (r207.1, (pr_sI r208 3 3 r160))
              else
                if r160 = 7 then
                 (prf_R_take r162.2 9).bind fun r211 =>
                 if r211.1 = 0 then
                  (prf_G_closeStatement r211.2 r162.1).bind fun r213 =>
                  some (0, (pr_sI r213 3 3 r160))
                 else
                  (prf_R_take r211.2 12).bind fun r214 =>
                  if r214.1 = 0 then
                   (prf_G_closeStatement r214.2 r162.1).bind fun r216 =>
                   some (0, (pr_sI r216 3 3 r160))
                  else
                   (prf_R_readCond (prF_R_readTest 70) r214.2 (x1 + 1)).bind fun r217 =>
                   if r217.1 = 0 then
                    (prf_G_closeStatement r217.2 r162.1).bind fun r219 =>
                    some (0, (pr_sI r219 3 3 r160))
                   else
                    (prf_R_take r217.2 13).bind fun r220 =>
                    if r220.1 = 0 then
                     (prf_G_closeStatement r220.2 r162.1).bind fun r222 =>
                     some (0, (pr_sI r222 3 3 r160))
                    else
                     (prf_R_take r220.2 19).bind fun r223 =>
                     if r223.1 = 0 then
                      (prf_G_closeStatement r223.2 r162.1).bind fun r225 =>
                      some (0, (pr_sI r225 3 3 r160))
                     else
                      (prf_G_closeStatement r223.2 r162.1).bind fun r226 =>
                      some (1, (pr_sI r226 3 3 r160))
                else
                  if r160 = 8 then
                   (prf_R_take r162.2 10).bind fun r228 =>
                   if r228.1 = 0 then
                    (prf_G_closeStatement r228.2 r162.1).bind fun r230 =>
                    some (0, (pr_sI r230 3 3 r160))
                   else
                    (prf_R_readSum (prF_R_readFactor 70) r228.2 (x1 + 1)).bind fun r231 =>
                    if r231.1 = 0 then
                     (prf_G_closeStatement r231.2 r162.1).bind fun r233 =>
                     some (0, (pr_sI r233 3 3 r160))
                    else
                     (prf_R_take r231.2 19).bind fun r234 =>
                     if r234.1 = 0 then
                      (prf_G_closeStatement r234.2 r162.1).bind fun r236 =>
                      some (0, (pr_sI r236 3 3 r160))
                     else
                      (prf_G_closeStatement r234.2 r162.1).bind fun r237 =>
                      some (1, (pr_sI r237 3 3 r160))
                  else
                    (prf_R_readBranch rc r162.2 r162.1 r160 x1).bind fun r238 =>
                    (prf_G_closeStatement r238.2 r162.1).bind fun r239 =>
                    pr_z r238.1 <|
                    some (r238.1, (pr_sI r239 3 3 r160))
def prF_R_readStatement : Nat → pr_St → Int32 → Option (Int32 × pr_St)
  | 0 => fun _ _ => none
  | n + 1 => fun σ x1 => prf_R_readStatement (prF_R_readStatement n) σ x1

def prf_G_isFunction (σ : pr_St) (x1 : Int32) : Option Int32 :=
  if x1 < 0 then
   some 0
  else
   if (σ.1 2 5) ≤ x1 then
    some 0
   else
    some 1
def prf_G_closeFunction (σ : pr_St) (x1 : Int32) : Option pr_St :=
  (prf_G_isFunction σ ((σ.1 2 5) - 1)).bind fun r6 =>
  if r6 = 0 then
   some σ
  else
   pr_ck ((σ.1 2 5) - 1) 889 <|
   pr_ck ((σ.1 2 5) - 1) 889 <|
   pr_z x1 <|
   some (pr_sA (pr_sA σ 15 (upd (σ.2.1 15) ((σ.1 2 5) - 1).toNatClampNeg (σ.1 2 11))) 16 (upd (σ.2.1 16) ((σ.1 2 5) - 1).toNatClampNeg x1))
def prf_R_readText_14 (fu : Nat) (σ : pr_St) (x1 : Int32) : Option (Int32 × pr_St) := match fu with
  | 0 => none
  | n + 1 =>
    if 889 ≤ x1 then
     some (0, σ)
    else
     (prf_R_readHead (pr_sI σ 3 3 0)).bind fun r15 =>
     if r15.1 = 0 then
      some (0, r15.2)
     else
      (prf_R_readBlock (prF_R_readStatement 70) r15.2 1).bind fun r17 =>
      if r17.1 = 0 then
       some (0, r17.2)
      else
       if (r17.2.1 3 3) = 8 then
        (prf_G_closeFunction r17.2 1).bind fun r23 =>
        (prf_R_now r23).bind fun r24 =>
        if r24 = 0 then
         some (1, r23)
        else
         prf_R_readText_14 n r23 (x1 + 1)
       else
        (prf_G_closeFunction r17.2 0).bind fun r20 =>
        (prf_R_now r20).bind fun r21 =>
        if r21 = 0 then
         some (1, r20)
        else
         prf_R_readText_14 n r20 (x1 + 1)
def prf_R_readText (σ : pr_St)  : Option (Int32 × pr_St) :=
  (prf_G_clear (pr_sI σ 3 2 0)).bind fun r26 =>
  prf_R_readText_14 pr_FU r26 0
def prf_T_placeAt (σ : pr_St) (x1 : Int32) : Option Int32 :=
  if x1 < 0 then
   some (σ.1 1 5)
  else
   if (σ.1 1 6) ≤ x1 then
    some (σ.1 1 5)
   else
    pr_ck x1 8001 <|
    some ((σ.2.1 10) x1.toNatClampNeg)
def prf_R_faultPlace (σ : pr_St)  : Option Int32 :=
  (prf_T_placeAt σ (σ.1 3 2)).bind fun r2 =>
  some r2
def prf_O_clear (σ : pr_St)  : Option pr_St :=
  some (pr_sI σ 4 14 0)
def prf_O_add (σ : pr_St) (x1 : Int32) (x2 : Int32) (x3 : Int32) : Option (Int32 × pr_St) :=
  if (σ.1 4 14) < 250 then
   pr_ck (σ.1 4 14) 250 <|
   pr_ck (σ.1 4 14) 250 <|
   pr_ck (σ.1 4 14) 250 <|
   pr_ck (σ.1 4 14) 250 <|
   pr_ck (σ.1 4 14) 250 <|
   pr_ck (σ.1 4 14) 250 <|
   pr_ck (σ.1 4 14) 250 <|
   some ((σ.1 4 14), (pr_sI (pr_sA (pr_sA (pr_sA (pr_sA (pr_sA (pr_sA (pr_sA σ 25 (upd (σ.2.1 25) (σ.1 4 14).toNatClampNeg x1.toInt8.toInt32.toInt8.toInt32)) 26 (upd (σ.2.1 26) (σ.1 4 14).toNatClampNeg x2)) 27 (upd (σ.2.1 27) (σ.1 4 14).toNatClampNeg x3)) 34 (upd (σ.2.1 34) (σ.1 4 14).toNatClampNeg (-1))) 35 (upd (σ.2.1 35) (σ.1 4 14).toNatClampNeg ((σ.1 4 14) + 1))) 36 (upd (σ.2.1 36) (σ.1 4 14).toNatClampNeg (-1))) 37 (upd (σ.2.1 37) (σ.1 4 14).toNatClampNeg (-1))) 4 14 ((σ.1 4 14) + 1)))
  else
   some ((-1), σ)
def prf_O_isPoint (σ : pr_St) (x1 : Int32) : Option Int32 :=
  if x1 < 0 then
   some 0
  else
   if (σ.1 4 14) ≤ x1 then
    some 0
   else
    some 1
def prf_O_setParent (σ : pr_St) (x1 : Int32) (x2 : Int32) (x3 : Int32) : Option pr_St :=
  (prf_O_isPoint σ x1).bind fun r6 =>
  if r6 = 0 then
   some σ
  else
   pr_ck x1 250 <|
   pr_ck x1 250 <|
   pr_z x3 <|
   some (pr_sA (pr_sA σ 32 (upd (σ.2.1 32) x1.toNatClampNeg x2)) 33 (upd (σ.2.1 33) x1.toNatClampNeg x3))
def prf_O_setThere (σ : pr_St) (x1 : Int32) (x2 : Int32) (x3 : Int32) : Option pr_St :=
  (prf_O_isPoint σ x1).bind fun r5 =>
  if r5 = 0 then
   some σ
  else
   pr_ck x1 250 <|
   pr_ck x1 250 <|
   some (pr_sA (pr_sA σ 28 (upd (σ.2.1 28) x1.toNatClampNeg x2)) 29 (upd (σ.2.1 29) x1.toNatClampNeg x3))
def prf_O_setForeign (σ : pr_St) (x1 : Int32) (x2 : Int32) (x3 : Int32) : Option pr_St :=
  (prf_O_isPoint σ x1).bind fun r5 =>
  if r5 = 0 then
   some σ
  else
   pr_ck x1 250 <|
   pr_ck x1 250 <|
   some (pr_sA (pr_sA σ 30 (upd (σ.2.1 30) x1.toNatClampNeg x2)) 31 (upd (σ.2.1 31) x1.toNatClampNeg x3))
def prf_O_addTheEnd (σ : pr_St)  : Option pr_St :=
  (prf_O_add σ 0 0 (-1)).bind fun r8 =>
  (prf_O_setParent r8.2 r8.1 (-1) 1).bind fun r9 =>
  (prf_O_setThere r9 r8.1 0 0).bind fun r10 =>
  (prf_O_setForeign r10 r8.1 0 0).bind fun r11 =>
  (prf_O_isPoint r11 r8.1).bind fun r12 =>
  if r12 = 0 then
   some r11
  else
   pr_ck r8.1 250 <|
   some (pr_sA r11 38 (upd (r11.2.1 38) r8.1.toNatClampNeg r8.1))
def prf_O_leaveOnlyTheEnd (σ : pr_St)  : Option pr_St :=
  (prf_O_clear σ).bind fun r3 =>
  (prf_O_addTheEnd r3).bind fun r4 =>
  some r4
def prf_S_cutTo (σ : pr_St) (x1 : Int32) (x2 : Int32) : Option pr_St :=
  some (pr_sI (pr_sI σ 5 4 x1) 5 5 x2)
def prf_G_functions (σ : pr_St)  : Option Int32 :=
  some (σ.1 2 5)
def prf_G_parametersOf (σ : pr_St) (x1 : Int32) : Option Int32 :=
  (prf_G_isFunction σ x1).bind fun r4 =>
  if r4 = 0 then
   some 0
  else
   pr_ck x1 889 <|
   some ((σ.2.1 13) x1.toNatClampNeg)
def prf_G_nameOf (σ : pr_St) (x1 : Int32) : Option Int32 :=
  (prf_G_isFunction σ x1).bind fun r4 =>
  if r4 = 0 then
   some (-1)
  else
   pr_ck x1 889 <|
   some ((σ.2.1 12) x1.toNatClampNeg)
def prf_Y_isWrong (σ : pr_St) (x1 : Int32) (x2 : Int32) : Option (Int32 × pr_St) :=
  (prf_T_placeAt (pr_sI σ 6 14 x1) x2).bind fun r2 =>
  some (0, (pr_sI (pr_sI σ 6 14 x1) 6 15 r2))
def prf_G_beginOf (σ : pr_St) (x1 : Int32) : Option Int32 :=
  (prf_G_isFunction σ x1).bind fun r4 =>
  if r4 = 0 then
   some 0
  else
   pr_ck x1 889 <|
   some ((σ.2.1 14) x1.toNatClampNeg)
def prf_G_endOf (σ : pr_St) (x1 : Int32) : Option Int32 :=
  (prf_G_isFunction σ x1).bind fun r4 =>
  if r4 = 0 then
   some 0
  else
   pr_ck x1 889 <|
   some ((σ.2.1 15) x1.toNatClampNeg)
def prf_O_goInto (σ : pr_St) (x1 : Int32) : Option pr_St :=
  (prf_O_isPoint σ x1).bind fun r4 =>
  if r4 = 0 then
   some σ
  else
   pr_ck x1 250 <|
   some (pr_sA σ 36 (upd (σ.2.1 36) x1.toNatClampNeg (x1 + 1)))
def prf_Y_openBlock (σ : pr_St) (x1 : Int32) (x2 : Int32) (x3 : Int32) (x4 : Int32) (x5 : Int32) : Option pr_St :=
  if (σ.1 6 9) < 0 then
   some σ
  else
   if (σ.1 6 9) < 250 then
    pr_ck (σ.1 6 9) 250 <|
    pr_ck (σ.1 6 9) 250 <|
    pr_ck (σ.1 6 9) 250 <|
    pr_ck (σ.1 6 9) 250 <|
    pr_ck (σ.1 6 9) 250 <|
    if x4 ≤ x3 then
     some (pr_sI (pr_sA (pr_sA (pr_sA (pr_sA (pr_sA σ 45 (upd (σ.2.1 45) (σ.1 6 9).toNatClampNeg x1)) 46 (upd (σ.2.1 46) (σ.1 6 9).toNatClampNeg x2)) 42 (upd (σ.2.1 42) (σ.1 6 9).toNatClampNeg x3)) 43 (upd (σ.2.1 43) (σ.1 6 9).toNatClampNeg x4)) 44 (upd (σ.2.1 44) (σ.1 6 9).toNatClampNeg x5)) 6 9 ((σ.1 6 9) + 1))
    else
     (prf_O_goInto (pr_sI (pr_sA (pr_sA (pr_sA (pr_sA (pr_sA σ 45 (upd (σ.2.1 45) (σ.1 6 9).toNatClampNeg x1)) 46 (upd (σ.2.1 46) (σ.1 6 9).toNatClampNeg x2)) 42 (upd (σ.2.1 42) (σ.1 6 9).toNatClampNeg x3)) 43 (upd (σ.2.1 43) (σ.1 6 9).toNatClampNeg x4)) 44 (upd (σ.2.1 44) (σ.1 6 9).toNatClampNeg x5)) 6 9 ((σ.1 6 9) + 1)) x1).bind fun r18 =>
     some r18
   else
    some σ
def prf_Y_openFunction (σ : pr_St) (x1 : Int32) (x2 : Int32) : Option pr_St :=
  (prf_G_beginOf σ x1).bind fun r5 =>
  (prf_G_endOf σ x1).bind fun r6 =>
  (prf_G_endOf σ x1).bind fun r7 =>
  (prf_Y_openBlock σ x2 x1 r5 r6 r7).bind fun r8 =>
  some r8
def prf_Y_isOpen (σ : pr_St)  : Option Int32 :=
  if (σ.1 6 10) < 0 then
   some 0
  else
   if (σ.1 6 9) ≤ (σ.1 6 10) then
    some 0
   else
    if 250 ≤ (σ.1 6 10) then
     some 0
    else
     some 1
def prf_G_behind (σ : pr_St) (x1 : Int32) : Option Int32 :=
  (prf_G_isStatement σ x1).bind fun r4 =>
  if r4 = 0 then
   some (σ.1 2 11)
  else
   pr_ck x1 2001 <|
   some ((σ.2.1 21) x1.toNatClampNeg)
def prf_Y_takeStatement (σ : pr_St)  : Option (Int32 × pr_St) :=
  (prf_Y_isOpen σ).bind fun r9 =>
  if r9 = 0 then
   some ((-1), σ)
  else
   pr_ck (σ.1 6 10) 250 <|
   pr_ck (σ.1 6 10) 250 <|
   if ((σ.2.1 42) (σ.1 6 10).toNatClampNeg) < ((σ.2.1 43) (σ.1 6 10).toNatClampNeg) then
    pr_ck (σ.1 6 10) 250 <|
    (prf_G_behind σ ((σ.2.1 42) (σ.1 6 10).toNatClampNeg)).bind fun r15 =>
    pr_ck (σ.1 6 10) 250 <|
    some (((σ.2.1 42) (σ.1 6 10).toNatClampNeg), (pr_sA σ 42 (upd (σ.2.1 42) (σ.1 6 10).toNatClampNeg r15)))
   else
    some ((-1), σ)
def prf_Y_parent (σ : pr_St)  : Option Int32 :=
  (prf_Y_isOpen σ).bind fun r4 =>
  if r4 = 0 then
   some (-1)
  else
   pr_ck (σ.1 6 10) 250 <|
   some ((σ.2.1 45) (σ.1 6 10).toNatClampNeg)
def prf_O_numbersAt (σ : pr_St) (x1 : Int32) : Option Int32 :=
  (prf_O_isPoint σ x1).bind fun r4 =>
  if r4 = 0 then
   some 0
  else
   pr_ck x1 250 <|
   some ((σ.2.1 28) x1.toNatClampNeg)
def prf_O_arraysAt (σ : pr_St) (x1 : Int32) : Option Int32 :=
  (prf_O_isPoint σ x1).bind fun r4 =>
  if r4 = 0 then
   some 0
  else
   pr_ck x1 250 <|
   some ((σ.2.1 29) x1.toNatClampNeg)
def prf_O_beginOther (σ : pr_St) (x1 : Int32) : Option pr_St :=
  (prf_O_isPoint σ x1).bind fun r4 =>
  if r4 = 0 then
   some σ
  else
   pr_ck x1 250 <|
   some (pr_sA σ 37 (upd (σ.2.1 37) x1.toNatClampNeg (σ.1 4 14)))
def prf_O_close (σ : pr_St) (x1 : Int32) : Option pr_St :=
  (prf_O_isPoint σ x1).bind fun r4 =>
  if r4 = 0 then
   some σ
  else
   pr_ck x1 250 <|
   some (pr_sA σ 35 (upd (σ.2.1 35) x1.toNatClampNeg (σ.1 4 14)))
def prf_Y_endBlock (σ : pr_St)  : Option pr_St :=
  (prf_Y_parent σ).bind fun r15 =>
  (prf_O_numbersAt σ r15).bind fun r16 =>
  (prf_O_arraysAt σ r15).bind fun r17 =>
  (prf_S_cutTo σ r16 r17).bind fun r18 =>
  (prf_Y_isOpen r18).bind fun r19 =>
  if r19 = 0 then
   (prf_O_close r18 r15).bind fun r21 =>
   some (pr_sI r21 6 9 ((r21.1 6 9) - 1))
  else
   pr_ck (r18.1 6 10) 250 <|
   pr_ck (r18.1 6 10) 250 <|
   if ((r18.2.1 44) (r18.1 6 10).toNatClampNeg) ≤ ((r18.2.1 43) (r18.1 6 10).toNatClampNeg) then
    (prf_O_close r18 r15).bind fun r25 =>
    some (pr_sI r25 6 9 ((r25.1 6 9) - 1))
   else
    pr_ck (r18.1 6 10) 250 <|
    pr_ck (r18.1 6 10) 250 <|
    (prf_O_beginOther (pr_sA r18 43 (upd (r18.2.1 43) (r18.1 6 10).toNatClampNeg ((r18.2.1 44) (r18.1 6 10).toNatClampNeg))) r15).bind fun r28 =>
    some r28
def prf_G_kindOf (σ : pr_St) (x1 : Int32) : Option Int32 :=
  (prf_G_isStatement σ x1).bind fun r4 =>
  if r4 = 0 then
   some 0
  else
   pr_ck x1 2001 <|
   some ((σ.2.1 17) x1.toNatClampNeg)
def prf_G_firstTokenOf (σ : pr_St) (x1 : Int32) : Option Int32 :=
  (prf_G_isStatement σ x1).bind fun r4 =>
  if r4 = 0 then
   some (-1)
  else
   pr_ck x1 2001 <|
   some ((σ.2.1 18) x1.toNatClampNeg)
def prf_O_count (σ : pr_St)  : Option Int32 :=
  some (σ.1 4 14)
def prf_O_kindOf (σ : pr_St) (x1 : Int32) : Option Int32 :=
  (prf_O_isPoint σ x1).bind fun r4 =>
  if r4 = 0 then
   some 0
  else
   pr_ck x1 250 <|
   some ((σ.2.1 25) x1.toNatClampNeg)
def prf_O_foreignNumbersAt (σ : pr_St) (x1 : Int32) : Option Int32 :=
  (prf_O_isPoint σ x1).bind fun r4 =>
  if r4 = 0 then
   some 0
  else
   pr_ck x1 250 <|
   some ((σ.2.1 30) x1.toNatClampNeg)
def prf_O_foreignArraysAt (σ : pr_St) (x1 : Int32) : Option Int32 :=
  (prf_O_isPoint σ x1).bind fun r4 =>
  if r4 = 0 then
   some 0
  else
   pr_ck x1 250 <|
   some ((σ.2.1 31) x1.toNatClampNeg)
def prf_Y_findForeign (σ : pr_St)  : Option pr_St :=
  (prf_Y_parent σ).bind fun r22 =>
  (prf_O_kindOf σ r22).bind fun r23 =>
  if r23 = 4 then
   if (1 : Int32) = 0 then
    (prf_O_foreignNumbersAt σ r22).bind fun r35 =>
    if (1 : Int32) = 0 then
     (prf_O_foreignArraysAt (pr_sI σ 6 11 r35) r22).bind fun r37 =>
     some (pr_sI (pr_sI σ 6 11 r35) 6 12 r37)
    else
     (prf_O_arraysAt (pr_sI σ 6 11 r35) r22).bind fun r38 =>
     some (pr_sI (pr_sI σ 6 11 r35) 6 12 r38)
   else
    (prf_O_numbersAt σ r22).bind fun r39 =>
    if (1 : Int32) = 0 then
     (prf_O_foreignArraysAt (pr_sI σ 6 11 r39) r22).bind fun r41 =>
     some (pr_sI (pr_sI σ 6 11 r39) 6 12 r41)
    else
     (prf_O_arraysAt (pr_sI σ 6 11 r39) r22).bind fun r42 =>
     some (pr_sI (pr_sI σ 6 11 r39) 6 12 r42)
  else
   if (0 : Int32) = 0 then
    (prf_O_foreignNumbersAt σ r22).bind fun r26 =>
    if (0 : Int32) = 0 then
     (prf_O_foreignArraysAt (pr_sI σ 6 11 r26) r22).bind fun r28 =>
     some (pr_sI (pr_sI σ 6 11 r26) 6 12 r28)
    else
     (prf_O_arraysAt (pr_sI σ 6 11 r26) r22).bind fun r29 =>
     some (pr_sI (pr_sI σ 6 11 r26) 6 12 r29)
   else
    (prf_O_numbersAt σ r22).bind fun r30 =>
    if (0 : Int32) = 0 then
     (prf_O_foreignArraysAt (pr_sI σ 6 11 r30) r22).bind fun r32 =>
     some (pr_sI (pr_sI σ 6 11 r30) 6 12 r32)
    else
     (prf_O_arraysAt (pr_sI σ 6 11 r30) r22).bind fun r33 =>
     some (pr_sI (pr_sI σ 6 11 r30) 6 12 r33)
def prf_Y_isLast (σ : pr_St) (x1 : Int32) : Option Int32 :=
  (prf_Y_isOpen σ).bind fun r6 =>
  if r6 = 0 then
   some 0
  else
   (prf_G_behind σ x1).bind fun r8 =>
   pr_ck (σ.1 6 10) 250 <|
   if r8 = ((σ.2.1 43) (σ.1 6 10).toNatClampNeg) then
    some 1
   else
    some 0
def prf_Y_returnHolds_33 (σ : pr_St) (x1 : Int32) (x2 : Int32) (x3 : Int32) : Option (Int32 × pr_St) :=
  if (1 : Int32) = 0 then
   (prf_Y_isWrong σ 6 x2).bind fun r42 =>
   pr_z r42.1 <|
   some (r42.1, r42.2)
  else
   (prf_Y_isLast σ x1).bind fun r44 =>
   if r44 = 0 then
    (prf_Y_isWrong σ 6 x2).bind fun r49 =>
    pr_z r49.1 <|
    some (r49.1, r49.2)
   else
    if x3 = 0 then
     some (1, σ)
    else
     (prf_Y_isWrong σ 7 x2).bind fun r47 =>
     if r47.1 = 0 then
      some (0, r47.2)
     else
      some (1, r47.2)
def prf_Y_returnHolds (σ : pr_St) (x1 : Int32) (x2 : Int32) : Option (Int32 × pr_St) :=
  (prf_Y_parent σ).bind fun r51 =>
  if r51 = (-1) then
   if (1 : Int32) = 0 then
    (prf_Y_parent σ).bind fun r68 =>
    (prf_O_kindOf σ r68).bind fun r69 =>
    if r69 = 4 then
     prf_Y_returnHolds_33 σ x1 x2 1
    else
     if (0 : Int32) = 0 then
      (prf_Y_isWrong σ 6 x2).bind fun r72 =>
      pr_z r72.1 <|
      some (r72.1, r72.2)
     else
      (prf_Y_isLast σ x1).bind fun r74 =>
      if r74 = 0 then
       (prf_Y_isWrong σ 6 x2).bind fun r79 =>
       pr_z r79.1 <|
       some (r79.1, r79.2)
      else
       if (1 : Int32) = 0 then
        some (1, σ)
       else
        (prf_Y_isWrong σ 7 x2).bind fun r77 =>
        if r77.1 = 0 then
         some (0, r77.2)
        else
         some (1, r77.2)
   else
    prf_Y_returnHolds_33 σ x1 x2 1
  else
   if (0 : Int32) = 0 then
    (prf_Y_parent σ).bind fun r54 =>
    (prf_O_kindOf σ r54).bind fun r55 =>
    if r55 = 4 then
     prf_Y_returnHolds_33 σ x1 x2 0
    else
     if (0 : Int32) = 0 then
      (prf_Y_isWrong σ 6 x2).bind fun r58 =>
      pr_z r58.1 <|
      some (r58.1, r58.2)
     else
      (prf_Y_isLast σ x1).bind fun r60 =>
      if r60 = 0 then
       (prf_Y_isWrong σ 6 x2).bind fun r65 =>
       pr_z r65.1 <|
       some (r65.1, r65.2)
      else
       if (0 : Int32) = 0 then
        some (1, σ)
       else
        (prf_Y_isWrong σ 7 x2).bind fun r63 =>
        if r63.1 = 0 then
         some (0, r63.2)
        else
         some (1, r63.2)
   else
    prf_Y_returnHolds_33 σ x1 x2 0
def prf_Y_blockBegin (σ : pr_St)  : Option Int32 :=
  (prf_Y_parent σ).bind fun r5 =>
  (prf_O_numbersAt σ r5).bind fun r6 =>
  (prf_Y_parent σ).bind fun r7 =>
  (prf_O_arraysAt σ r7).bind fun r8 =>
  some (r6 + r8)
def prf_S_isVariable (σ : pr_St) (x1 : Int32) : Option Int32 :=
  if x1 < 0 then
   some 0
  else
   if 18 ≤ x1 then
    some 0
   else
    some 1
def prf_T_valueAt (σ : pr_St) (x1 : Int32) : Option Int32 :=
  if x1 < 0 then
   some 0
  else
   if (σ.1 1 6) ≤ x1 then
    some 0
   else
    pr_ck x1 8001 <|
    some ((σ.2.1 11) x1.toNatClampNeg)
def prf_T_sameName_63 (fu : Nat) (σ : pr_St) (x3 : Int32) (x4 : Int32) (x5 : Int32) (x6 : Int32) (x7 : Int32) : Option Int32 := match fu with
  | 0 => none
  | n + 1 =>
    if x3 ≤ x7 then
     pr_z x6 <|
     some x6
    else
     if x6 = 0 then
      pr_z x6 <|
      some x6
     else
      pr_ck (x4 + x7) 8000 <|
      pr_ck (x5 + x7) 8000 <|
      if ((σ.2.1 8) (x4 + x7).toNatClampNeg) = ((σ.2.1 8) (x5 + x7).toNatClampNeg) then
       prf_T_sameName_63 n σ x3 x4 x5 1 (x7 + 1)
      else
       prf_T_sameName_63 n σ x3 x4 x5 0 (x7 + 1)
def prf_T_sameName (σ : pr_St) (x1 : Int32) (x2 : Int32) : Option Int32 :=
  (prf_T_valueAt σ x1).bind fun r22 =>
  (prf_T_placeAt σ x1).bind fun r23 =>
  (prf_T_placeAt σ x2).bind fun r24 =>
  (prf_T_valueAt σ x2).bind fun r25 =>
  if r22 = r25 then
   if 8000 < (r23 + r22) then
    prf_T_sameName_63 pr_FU σ r22 r23 r24 0 0
   else
    if 8000 < (r24 + r22) then
     prf_T_sameName_63 pr_FU σ r22 r23 r24 0 0
    else
     prf_T_sameName_63 pr_FU σ r22 r23 r24 1 0
  else
   prf_T_sameName_63 pr_FU σ r22 r23 r24 0 0
def prf_S_find_12 (fu : Nat) (σ : pr_St) (x1 : Int32) (x2 : Int32) (x3 : Int32) : Option Int32 := match fu with
  | 0 => none
  | n + 1 =>
    if x3 < x2 then
     some (-1)
    else
     (prf_S_isVariable σ x3).bind fun r8 =>
     if r8 = 0 then
      prf_S_find_12 n σ x1 x2 (x3 + (-1))
     else
      pr_ck x3 18 <|
      (prf_T_sameName σ ((σ.2.1 39) x3.toNatClampNeg) x1).bind fun r11 =>
      if r11 = 0 then
       prf_S_find_12 n σ x1 x2 (x3 + (-1))
      else
       some x3
def prf_S_find (σ : pr_St) (x1 : Int32) (x2 : Int32) : Option Int32 :=
  prf_S_find_12 pr_FU σ x1 x2 (((σ.1 5 4) + (σ.1 5 5)) - 1)
def prf_Y_varHolds (σ : pr_St) (x1 : Int32) : Option (Int32 × pr_St) :=
  (prf_Y_blockBegin σ).bind fun r15 =>
  (prf_S_find σ (x1 + 1) r15).bind fun r16 =>
  if r16 = (-1) then
   (prf_T_kindAt σ (x1 + 2)).bind fun r18 =>
   if r18 = 16 then
    (prf_T_valueAt σ (x1 + 3)).bind fun r20 =>
    if r20 < 1 then
     (prf_Y_isWrong σ 9 (x1 + 3)).bind fun r22 =>
     if r22.1 = 0 then
      some (0, r22.2)
     else
      some (1, r22.2)
    else
     if r20 ≤ 64 then
      some (1, σ)
     else
      (prf_Y_isWrong σ 9 (x1 + 3)).bind fun r25 =>
      if r25.1 = 0 then
       some (0, r25.2)
      else
       some (1, r25.2)
   else
    some (1, σ)
  else
   (prf_Y_isWrong σ 2 (x1 + 1)).bind fun r27 =>
   pr_z r27.1 <|
   some (r27.1, r27.2)
def prf_T_count (σ : pr_St)  : Option Int32 :=
  some (σ.1 1 6)
def prf_Y_function (σ : pr_St)  : Option Int32 :=
  (prf_Y_isOpen σ).bind fun r4 =>
  if r4 = 0 then
   some (-1)
  else
   pr_ck (σ.1 6 10) 250 <|
   some ((σ.2.1 46) (σ.1 6 10).toNatClampNeg)
def prf_Y_functionMeant_7 (fu : Nat) (σ : pr_St) (x1 : Int32) (x2 : Int32) : Option Int32 := match fu with
  | 0 => none
  | n + 1 =>
    if x2 < 0 then
     some (-1)
    else
     (prf_G_nameOf σ x2).bind fun r7 =>
     (prf_T_sameName σ r7 x1).bind fun r8 =>
     if r8 = 0 then
      prf_Y_functionMeant_7 n σ x1 (x2 + (-1))
     else
      some x2
def prf_Y_functionMeant (σ : pr_St) (x1 : Int32) : Option Int32 :=
  (prf_Y_function σ).bind fun r10 =>
  prf_Y_functionMeant_7 pr_FU σ x1 (r10 - 1)
def prf_G_detailOf (σ : pr_St) (x1 : Int32) : Option Int32 :=
  (prf_G_isStatement σ x1).bind fun r4 =>
  if r4 = 0 then
   some 0
  else
   pr_ck x1 2001 <|
   some ((σ.2.1 20) x1.toNatClampNeg)
def prf_G_returns (σ : pr_St) (x1 : Int32) : Option Int32 :=
  (prf_G_isFunction σ x1).bind fun r5 =>
  if r5 = 0 then
   some 0
  else
   pr_ck x1 889 <|
   if ((σ.2.1 16) x1.toNatClampNeg) = 0 then
    some 0
   else
    some 1
def prf_Y_callHolds (σ : pr_St) (x1 : Int32) (x2 : Int32) : Option (Int32 × pr_St) :=
  (prf_Y_functionMeant σ x2).bind fun r22 =>
  if r22 = (-1) then
   (prf_Y_isWrong σ 4 x2).bind fun r41 =>
   pr_z r41.1 <|
   some (r41.1, r41.2)
  else
   (prf_G_detailOf σ x1).bind fun r24 =>
   (prf_G_parametersOf σ r22).bind fun r25 =>
   if r24 = r25 then
    (prf_G_firstTokenOf σ x1).bind fun r27 =>
    if x2 = r27 then
     if (0 : Int32) = 0 then
      some (1, (pr_sI σ 6 13 r22))
     else
      (prf_G_returns σ r22).bind fun r30 =>
      if r30 = 0 then
       (prf_Y_isWrong σ 6 x2).bind fun r32 =>
       pr_z r32.1 <|
       some (r32.1, r32.2)
      else
       some (1, (pr_sI σ 6 13 r22))
    else
     if (1 : Int32) = 0 then
      some (1, (pr_sI σ 6 13 r22))
     else
      (prf_G_returns σ r22).bind fun r35 =>
      if r35 = 0 then
       (prf_Y_isWrong σ 6 x2).bind fun r37 =>
       pr_z r37.1 <|
       some (r37.1, r37.2)
      else
       some (1, (pr_sI σ 6 13 r22))
   else
    (prf_Y_isWrong σ 5 x2).bind fun r39 =>
    pr_z r39.1 <|
    some (r39.1, r39.2)
def prf_S_isArray (σ : pr_St) (x1 : Int32) : Option Int32 :=
  (prf_S_isVariable σ x1).bind fun r5 =>
  if r5 = 0 then
   some 0
  else
   pr_ck x1 18 <|
   if ((σ.2.1 41) x1.toNatClampNeg) = 0 then
    some 0
   else
    some 1
def prf_S_slotOf (σ : pr_St) (x1 : Int32) : Option Int32 :=
  (prf_S_isVariable σ x1).bind fun r4 =>
  if r4 = 0 then
   some (-1)
  else
   pr_ck x1 18 <|
   some ((σ.2.1 40) x1.toNatClampNeg)
def prf_G_setSlot (σ : pr_St) (x1 : Int32) (x2 : Int32) : Option pr_St :=
  if x1 < 0 then
   some σ
  else
   if 8001 ≤ x1 then
    some σ
   else
    pr_ck x1 8001 <|
    some (pr_sA σ 24 (upd (σ.2.1 24) x1.toNatClampNeg x2))
def prf_Y_nameHolds (σ : pr_St) (x1 : Int32) (x2 : Int32) : Option (Int32 × pr_St) :=
  (prf_S_find σ x1 ((σ.1 6 11) + (σ.1 6 12))).bind fun r13 =>
  if r13 = (-1) then
   (prf_Y_isWrong σ 1 x1).bind fun r23 =>
   pr_z r23.1 <|
   some (r23.1, r23.2)
  else
   (prf_S_isArray σ r13).bind fun r15 =>
   if r15 = x2 then
    (prf_S_slotOf σ r13).bind fun r17 =>
    if x2 = 0 then
     (prf_G_setSlot σ x1 (r17 - (σ.1 6 11))).bind fun r19 =>
     some (1, r19)
    else
     (prf_G_setSlot σ x1 (r17 - (σ.1 6 12))).bind fun r20 =>
     some (1, r20)
   else
    (prf_Y_isWrong σ 3 x1).bind fun r21 =>
    pr_z r21.1 <|
    some (r21.1, r21.2)
def prf_T_secondLimit (σ : pr_St) (x1 : Int32) : Option Int32 :=
  (prf_T_kindAt σ x1).bind fun r3 =>
  if r3 = 22 then
   some (x1 + 3)
  else
   some (x1 + 2)
def prf_T_limitAt (σ : pr_St) (x1 : Int32) : Option Int32 :=
  (prf_T_kindAt σ x1).bind fun r5 =>
  if r5 = 22 then
   (prf_T_valueAt σ (x1 + 1)).bind fun r8 =>
   some (-r8)
  else
   (prf_T_valueAt σ x1).bind fun r7 =>
   some r7
def prf_Y_limitsHold (σ : pr_St) (x1 : Int32) : Option (Int32 × pr_St) :=
  (prf_T_secondLimit σ x1).bind fun r7 =>
  (prf_T_limitAt σ x1).bind fun r8 =>
  (prf_T_limitAt σ r7).bind fun r9 =>
  if r8 ≤ r9 then
   some (1, σ)
  else
   (prf_Y_isWrong σ 8 x1).bind fun r11 =>
   if r11.1 = 0 then
    some (0, r11.2)
   else
    some (1, r11.2)
def prf_Y_tokensHold_5 (fu : Nat) (σ : pr_St) (x1 : Int32) (x3 : Int32) (x4 : Int32) : Option (Int32 × pr_St) := match fu with
  | 0 => none
  | n + 1 =>
    (prf_T_count σ).bind fun r19 =>
    if r19 ≤ x4 then
     pr_z x3 <|
     some (x3, σ)
    else
     if x3 = 0 then
      pr_z x3 <|
      some (x3, σ)
     else
      (prf_T_kindAt σ x4).bind fun r24 =>
      if r24 = 19 then
       some (1, σ)
      else
       if r24 = 14 then
        some (1, σ)
       else
        (prf_T_kindAt σ (x4 + 1)).bind fun r27 =>
        if r24 = 2 then
         if r27 = 12 then
          (prf_Y_callHolds σ x1 x4).bind fun r36 =>
          prf_Y_tokensHold_5 n r36.2 x1 r36.1 (x4 + 1)
         else
          if r27 = 16 then
           (prf_Y_nameHolds σ x4 1).bind fun r35 =>
           prf_Y_tokensHold_5 n r35.2 x1 r35.1 (x4 + 1)
          else
           (prf_Y_nameHolds σ x4 0).bind fun r34 =>
           prf_Y_tokensHold_5 n r34.2 x1 r34.1 (x4 + 1)
        else
         if r24 = 11 then
          if r27 = 12 then
           (prf_Y_limitsHold σ (x4 + 2)).bind fun r31 =>
           prf_Y_tokensHold_5 n r31.2 x1 r31.1 (x4 + 1)
          else
           prf_Y_tokensHold_5 n σ x1 x3 (x4 + 1)
         else
          prf_Y_tokensHold_5 n σ x1 x3 (x4 + 1)
def prf_Y_tokensHold (σ : pr_St) (x1 : Int32) (x2 : Int32) : Option (Int32 × pr_St) :=
  prf_Y_tokensHold_5 pr_FU σ x1 1 x2
def prf_G_parameterToken (σ : pr_St) (x1 : Int32) (x2 : Int32) : Option Int32 :=
  (prf_G_nameOf σ x1).bind fun r2 =>
  some ((r2 + 2) + (2 * x2))
def prf_Y_parametersHold_32 (kk2 : pr_St → Int32 → Option (Int32 × pr_St)) (fu : Nat) (σ : pr_St) (x1 : Int32) (x2 : Int32) (x3 : Int32) : Option (Int32 × pr_St) := match fu with
  | 0 => none
  | n + 1 =>
    if x1 ≤ x3 then
     kk2 σ (x1 + 1)
    else
     (prf_G_parameterToken σ (σ.1 6 13) x3).bind fun r11 =>
     (prf_T_sameName σ x2 r11).bind fun r12 =>
     if r12 = 0 then
      prf_Y_parametersHold_32 kk2 n σ x1 x2 (x3 + 1)
     else
      (prf_Y_isWrong σ 2 x2).bind fun r14 =>
      pr_z r14.1 <|
      some (r14.1, r14.2)
def prf_Y_parametersHold_2 (fu : Nat) (σ : pr_St) (x1 : Int32) : Option (Int32 × pr_St) := match fu with
  | 0 => none
  | n + 1 =>
    (prf_G_parametersOf σ (σ.1 6 13)).bind fun r16 =>
    if r16 ≤ x1 then
     some (1, σ)
    else
     (prf_G_parameterToken σ (σ.1 6 13) x1).bind fun r18 =>
     prf_Y_parametersHold_32 (prf_Y_parametersHold_2 n) pr_FU σ x1 r18 0
def prf_Y_parametersHold (σ : pr_St)  : Option (Int32 × pr_St) :=
  prf_Y_parametersHold_2 pr_FU σ 1
def prf_S_arrays (σ : pr_St)  : Option Int32 :=
  some (σ.1 5 5)
def prf_S_numbers (σ : pr_St)  : Option Int32 :=
  some (σ.1 5 4)
def prf_Y_thereIsRoom_48 (σ : pr_St) (x1 : Int32) (x2 : Int32) : Option (Int32 × pr_St) :=
  if x1 = 1 then
   (prf_S_numbers σ).bind fun r24 =>
   if (r24 + 1) ≤ 12 then
    some (1, σ)
   else
    (prf_Y_isWrong σ 10 x2).bind fun r26 =>
    if r26.1 = 0 then
     some (0, r26.2)
    else
     some (1, r26.2)
  else
   (prf_G_parametersOf σ (σ.1 6 13)).bind fun r19 =>
   (prf_S_numbers σ).bind fun r20 =>
   if (r20 + r19) ≤ 12 then
    some (1, σ)
   else
    (prf_Y_isWrong σ 10 x2).bind fun r22 =>
    if r22.1 = 0 then
     some (0, r22.2)
    else
     some (1, r22.2)
def prf_Y_thereIsRoom (σ : pr_St) (x1 : Int32) (x2 : Int32) : Option (Int32 × pr_St) :=
  if x1 = 1 then
   (prf_T_kindAt σ (x2 + 2)).bind fun r29 =>
   if r29 = 16 then
    (prf_S_arrays σ).bind fun r31 =>
    if r31 < 6 then
     some (1, σ)
    else
     (prf_Y_isWrong σ 13 x2).bind fun r33 =>
     if r33.1 = 0 then
      some (0, r33.2)
     else
      some (1, r33.2)
   else
    prf_Y_thereIsRoom_48 σ x1 x2
  else
   prf_Y_thereIsRoom_48 σ x1 x2
def prf_Y_holds_82 (σ : pr_St) (x1 : Int32) (x2 : Int32) (x3 : Int32) : Option (Int32 × pr_St) :=
  if x2 = 1 then
   (prf_Y_tokensHold σ x1 (x3 + 2)).bind fun r34 =>
   if r34.1 = 0 then
    some (0, r34.2)
   else
    (prf_Y_parametersHold r34.2).bind fun r36 =>
    if r36.1 = 0 then
     some (0, r36.2)
    else
     (prf_Y_thereIsRoom r36.2 x2 x3).bind fun r38 =>
     if r38.1 = 0 then
      some (0, r38.2)
     else
      some (1, r38.2)
  else
   (prf_Y_tokensHold σ x1 x3).bind fun r28 =>
   if r28.1 = 0 then
    some (0, r28.2)
   else
    (prf_Y_parametersHold r28.2).bind fun r30 =>
    if r30.1 = 0 then
     some (0, r30.2)
    else
     (prf_Y_thereIsRoom r30.2 x2 x3).bind fun r32 =>
     if r32.1 = 0 then
      some (0, r32.2)
     else
      some (1, r32.2)
def prf_Y_holds_67 (σ : pr_St) (x1 : Int32) (x2 : Int32) (x3 : Int32) : Option (Int32 × pr_St) :=
  if x2 = 1 then
   (prf_Y_varHolds σ x3).bind fun r41 =>
   if r41.1 = 0 then
    some (0, r41.2)
   else
    prf_Y_holds_82 r41.2 x1 x2 x3
  else
   prf_Y_holds_82 σ x1 x2 x3
def prf_Y_holds (σ : pr_St) (x1 : Int32) : Option (Int32 × pr_St) :=
  (prf_G_kindOf σ x1).bind fun r43 =>
  (prf_G_firstTokenOf σ x1).bind fun r44 =>
  (prf_O_count σ).bind fun r45 =>
  if (r45 + 2) ≤ 250 then
   (prf_Y_findForeign (pr_sI σ 6 13 (-1))).bind fun r47 =>
   if r43 = 8 then
    (prf_Y_returnHolds r47 x1 r44).bind fun r49 =>
    if r49.1 = 0 then
     some (0, r49.2)
    else
     prf_Y_holds_67 r49.2 x1 r43 r44
   else
    prf_Y_holds_67 r47 x1 r43 r44
  else
   (prf_Y_isWrong σ 11 r44).bind fun r51 =>
   pr_z r51.1 <|
   some (r51.1, r51.2)
def prf_S_add (σ : pr_St) (x1 : Int32) (x2 : Int32) : Option pr_St :=
  if ((σ.1 5 4) + (σ.1 5 5)) < 0 then
   some σ
  else
   if ((σ.1 5 4) + (σ.1 5 5)) < 18 then
    pr_ck ((σ.1 5 4) + (σ.1 5 5)) 18 <|
    pr_ck ((σ.1 5 4) + (σ.1 5 5)) 18 <|
    pr_z x2 <|
    if x2 = 0 then
     pr_ck ((σ.1 5 4) + (σ.1 5 5)) 18 <|
     some (pr_sI (pr_sA (pr_sA (pr_sA σ 39 (upd (σ.2.1 39) ((σ.1 5 4) + (σ.1 5 5)).toNatClampNeg x1)) 41 (upd (σ.2.1 41) ((σ.1 5 4) + (σ.1 5 5)).toNatClampNeg x2)) 40 (upd (σ.2.1 40) ((σ.1 5 4) + (σ.1 5 5)).toNatClampNeg (σ.1 5 4))) 5 4 ((σ.1 5 4) + 1))
    else
     pr_ck ((σ.1 5 4) + (σ.1 5 5)) 18 <|
     some (pr_sI (pr_sA (pr_sA (pr_sA σ 39 (upd (σ.2.1 39) ((σ.1 5 4) + (σ.1 5 5)).toNatClampNeg x1)) 41 (upd (σ.2.1 41) ((σ.1 5 4) + (σ.1 5 5)).toNatClampNeg x2)) 40 (upd (σ.2.1 40) ((σ.1 5 4) + (σ.1 5 5)).toNatClampNeg (σ.1 5 5))) 5 5 ((σ.1 5 5) + 1))
   else
    some σ
def prf_G_slotOf (σ : pr_St) (x1 : Int32) : Option Int32 :=
  if x1 < 0 then
   some (-1)
  else
   if 8001 ≤ x1 then
    some (-1)
   else
    pr_ck x1 8001 <|
    some ((σ.2.1 24) x1.toNatClampNeg)
def prf_O_setTarget (σ : pr_St) (x1 : Int32) (x2 : Int32) : Option pr_St :=
  (prf_O_isPoint σ x1).bind fun r4 =>
  if r4 = 0 then
   some σ
  else
   pr_ck x1 250 <|
   some (pr_sA σ 34 (upd (σ.2.1 34) x1.toNatClampNeg x2))
def prf_Y_layCall_38 (fu : Nat) (σ : pr_St) (x1 : Int32) (x3 : Int32) : Option pr_St := match fu with
  | 0 => none
  | n + 1 =>
    (prf_G_parametersOf σ (σ.1 6 13)).bind fun r10 =>
    if r10 ≤ x3 then
     (prf_Y_openFunction σ (σ.1 6 13) x1).bind fun r12 =>
     some r12
    else
     (prf_G_parameterToken σ (σ.1 6 13) x3).bind fun r13 =>
     (prf_S_add σ r13 0).bind fun r14 =>
     prf_Y_layCall_38 n r14 x1 (x3 + 1)
def prf_Y_layCall (σ : pr_St) (x1 : Int32) (x2 : Int32) : Option pr_St :=
  (prf_T_kindAt σ (x2 + 1)).bind fun r15 =>
  if r15 = 20 then
   (prf_G_slotOf σ x2).bind fun r17 =>
   (prf_O_setTarget σ x1 ((σ.1 6 11) + r17)).bind fun r18 =>
   prf_Y_layCall_38 pr_FU r18 x1 0
  else
   prf_Y_layCall_38 pr_FU σ x1 0
def prf_Y_layStatement (σ : pr_St) (x1 : Int32) : Option pr_St :=
  (prf_G_firstTokenOf σ x1).bind fun r32 =>
  (prf_G_kindOf σ x1).bind fun r33 =>
  (prf_T_placeAt σ r32).bind fun r34 =>
  (prf_O_add σ r33 r34 x1).bind fun r35 =>
  (prf_Y_parent r35.2).bind fun r36 =>
  (prf_Y_isLast r35.2 x1).bind fun r37 =>
  (prf_O_setParent r35.2 r35.1 r36 r37).bind fun r38 =>
  (prf_S_numbers r38).bind fun r39 =>
  (prf_S_arrays r38).bind fun r40 =>
  (prf_O_setThere r38 r35.1 r39 r40).bind fun r41 =>
  (prf_O_setForeign r41 r35.1 (r41.1 6 11) (r41.1 6 12)).bind fun r42 =>
  (prf_G_kindOf r42 x1).bind fun r43 =>
  if r43 = 1 then
   (prf_T_kindAt r42 (r32 + 2)).bind fun r45 =>
   if r45 = 16 then
    (prf_S_add r42 (r32 + 1) 1).bind fun r48 =>
    some r48
   else
    (prf_S_add r42 (r32 + 1) 0).bind fun r47 =>
    some r47
  else
    if r43 = 2 then
     some r42
    else
      if r43 = 3 then
       some r42
      else
        if r43 = 4 then
         (prf_Y_layCall r42 r35.1 r32).bind fun r52 =>
         some r52
        else
          if r43 = 5 then
           (prf_Y_function r42).bind fun r54 =>
           (prf_G_detailOf r42 x1).bind fun r55 =>
           (prf_G_behind r42 x1).bind fun r56 =>
           (prf_Y_openBlock r42 r35.1 r54 (x1 + 1) r55 r56).bind fun r57 =>
           some r57
          else
            if r43 = 6 then
             (prf_Y_function r42).bind fun r59 =>
             (prf_G_behind r42 x1).bind fun r60 =>
             (prf_G_behind r42 x1).bind fun r61 =>
             (prf_Y_openBlock r42 r35.1 r59 (x1 + 1) r60 r61).bind fun r62 =>
             some r62
            else
              some r42
def prf_O_behindBlock (σ : pr_St) (x1 : Int32) (x2 : Int32) : Option Int32 :=
  (prf_O_isPoint σ x1).bind fun r6 =>
  if r6 = 0 then
   some x2
  else
   pr_ck x1 250 <|
   if ((σ.2.1 25) x1.toNatClampNeg) = 6 then
    some x1
   else
    pr_ck x1 250 <|
    some ((σ.2.1 38) x1.toNatClampNeg)
def prf_O_finish_11 (fu : Nat) (σ : pr_St) (x1 : Int32) (x2 : Int32) : Option pr_St := match fu with
  | 0 => none
  | n + 1 =>
    if x1 ≤ x2 then
     some σ
    else
     if 250 ≤ x2 then
      some σ
     else
      pr_ck x2 250 <|
      if ((σ.2.1 33) x2.toNatClampNeg) = 0 then
       pr_ck x2 250 <|
       pr_ck x2 250 <|
       pr_ck x2 250 <|
       if ((σ.2.1 25) x2.toNatClampNeg) = 6 then
        pr_ck x2 250 <|
        if ((σ.2.1 36) x2.toNatClampNeg) = (-1) then
         pr_ck x2 250 <|
         pr_ck x2 250 <|
         if ((σ.2.1 37) x2.toNatClampNeg) = (-1) then
          pr_ck x2 250 <|
          pr_ck x2 250 <|
          prf_O_finish_11 n (pr_sA (pr_sA (pr_sA σ 38 (upd (σ.2.1 38) x2.toNatClampNeg ((σ.2.1 35) x2.toNatClampNeg))) 36 (upd (σ.2.1 36) x2.toNatClampNeg x2)) 37 (upd (σ.2.1 37) x2.toNatClampNeg ((upd (σ.2.1 38) x2.toNatClampNeg ((σ.2.1 35) x2.toNatClampNeg)) x2.toNatClampNeg))) x1 (x2 + 1)
         else
          pr_ck x2 250 <|
          pr_ck x2 250 <|
          prf_O_finish_11 n (pr_sA (pr_sA (pr_sA σ 38 (upd (σ.2.1 38) x2.toNatClampNeg ((σ.2.1 35) x2.toNatClampNeg))) 36 (upd (σ.2.1 36) x2.toNatClampNeg x2)) 37 (upd (σ.2.1 37) x2.toNatClampNeg ((σ.2.1 37) x2.toNatClampNeg))) x1 (x2 + 1)
        else
         pr_ck x2 250 <|
         pr_ck x2 250 <|
         pr_ck x2 250 <|
         if ((σ.2.1 37) x2.toNatClampNeg) = (-1) then
          pr_ck x2 250 <|
          pr_ck x2 250 <|
          prf_O_finish_11 n (pr_sA (pr_sA (pr_sA σ 38 (upd (σ.2.1 38) x2.toNatClampNeg ((σ.2.1 35) x2.toNatClampNeg))) 36 (upd (σ.2.1 36) x2.toNatClampNeg ((σ.2.1 36) x2.toNatClampNeg))) 37 (upd (σ.2.1 37) x2.toNatClampNeg ((upd (σ.2.1 38) x2.toNatClampNeg ((σ.2.1 35) x2.toNatClampNeg)) x2.toNatClampNeg))) x1 (x2 + 1)
         else
          pr_ck x2 250 <|
          pr_ck x2 250 <|
          prf_O_finish_11 n (pr_sA (pr_sA (pr_sA σ 38 (upd (σ.2.1 38) x2.toNatClampNeg ((σ.2.1 35) x2.toNatClampNeg))) 36 (upd (σ.2.1 36) x2.toNatClampNeg ((σ.2.1 36) x2.toNatClampNeg))) 37 (upd (σ.2.1 37) x2.toNatClampNeg ((σ.2.1 37) x2.toNatClampNeg))) x1 (x2 + 1)
       else
        pr_ck x2 250 <|
        pr_ck x2 250 <|
        if ((σ.2.1 36) x2.toNatClampNeg) = (-1) then
         pr_ck x2 250 <|
         pr_ck x2 250 <|
         if ((σ.2.1 37) x2.toNatClampNeg) = (-1) then
          pr_ck x2 250 <|
          pr_ck x2 250 <|
          prf_O_finish_11 n (pr_sA (pr_sA (pr_sA σ 38 (upd (σ.2.1 38) x2.toNatClampNeg ((σ.2.1 35) x2.toNatClampNeg))) 36 (upd (σ.2.1 36) x2.toNatClampNeg ((upd (σ.2.1 38) x2.toNatClampNeg ((σ.2.1 35) x2.toNatClampNeg)) x2.toNatClampNeg))) 37 (upd (σ.2.1 37) x2.toNatClampNeg ((upd (σ.2.1 38) x2.toNatClampNeg ((σ.2.1 35) x2.toNatClampNeg)) x2.toNatClampNeg))) x1 (x2 + 1)
         else
          pr_ck x2 250 <|
          pr_ck x2 250 <|
          prf_O_finish_11 n (pr_sA (pr_sA (pr_sA σ 38 (upd (σ.2.1 38) x2.toNatClampNeg ((σ.2.1 35) x2.toNatClampNeg))) 36 (upd (σ.2.1 36) x2.toNatClampNeg ((upd (σ.2.1 38) x2.toNatClampNeg ((σ.2.1 35) x2.toNatClampNeg)) x2.toNatClampNeg))) 37 (upd (σ.2.1 37) x2.toNatClampNeg ((σ.2.1 37) x2.toNatClampNeg))) x1 (x2 + 1)
        else
         pr_ck x2 250 <|
         pr_ck x2 250 <|
         pr_ck x2 250 <|
         if ((σ.2.1 37) x2.toNatClampNeg) = (-1) then
          pr_ck x2 250 <|
          pr_ck x2 250 <|
          prf_O_finish_11 n (pr_sA (pr_sA (pr_sA σ 38 (upd (σ.2.1 38) x2.toNatClampNeg ((σ.2.1 35) x2.toNatClampNeg))) 36 (upd (σ.2.1 36) x2.toNatClampNeg ((σ.2.1 36) x2.toNatClampNeg))) 37 (upd (σ.2.1 37) x2.toNatClampNeg ((upd (σ.2.1 38) x2.toNatClampNeg ((σ.2.1 35) x2.toNatClampNeg)) x2.toNatClampNeg))) x1 (x2 + 1)
         else
          pr_ck x2 250 <|
          pr_ck x2 250 <|
          prf_O_finish_11 n (pr_sA (pr_sA (pr_sA σ 38 (upd (σ.2.1 38) x2.toNatClampNeg ((σ.2.1 35) x2.toNatClampNeg))) 36 (upd (σ.2.1 36) x2.toNatClampNeg ((σ.2.1 36) x2.toNatClampNeg))) 37 (upd (σ.2.1 37) x2.toNatClampNeg ((σ.2.1 37) x2.toNatClampNeg))) x1 (x2 + 1)
      else
       pr_ck x2 250 <|
       (prf_O_behindBlock σ ((σ.2.1 32) x2.toNatClampNeg) x1).bind fun r129 =>
       pr_ck x2 250 <|
       pr_ck x2 250 <|
       if ((σ.2.1 25) x2.toNatClampNeg) = 6 then
        pr_ck x2 250 <|
        if ((σ.2.1 36) x2.toNatClampNeg) = (-1) then
         pr_ck x2 250 <|
         pr_ck x2 250 <|
         if ((σ.2.1 37) x2.toNatClampNeg) = (-1) then
          pr_ck x2 250 <|
          pr_ck x2 250 <|
          prf_O_finish_11 n (pr_sA (pr_sA (pr_sA σ 38 (upd (σ.2.1 38) x2.toNatClampNeg r129)) 36 (upd (σ.2.1 36) x2.toNatClampNeg x2)) 37 (upd (σ.2.1 37) x2.toNatClampNeg ((upd (σ.2.1 38) x2.toNatClampNeg r129) x2.toNatClampNeg))) x1 (x2 + 1)
         else
          pr_ck x2 250 <|
          pr_ck x2 250 <|
          prf_O_finish_11 n (pr_sA (pr_sA (pr_sA σ 38 (upd (σ.2.1 38) x2.toNatClampNeg r129)) 36 (upd (σ.2.1 36) x2.toNatClampNeg x2)) 37 (upd (σ.2.1 37) x2.toNatClampNeg ((σ.2.1 37) x2.toNatClampNeg))) x1 (x2 + 1)
        else
         pr_ck x2 250 <|
         pr_ck x2 250 <|
         pr_ck x2 250 <|
         if ((σ.2.1 37) x2.toNatClampNeg) = (-1) then
          pr_ck x2 250 <|
          pr_ck x2 250 <|
          prf_O_finish_11 n (pr_sA (pr_sA (pr_sA σ 38 (upd (σ.2.1 38) x2.toNatClampNeg r129)) 36 (upd (σ.2.1 36) x2.toNatClampNeg ((σ.2.1 36) x2.toNatClampNeg))) 37 (upd (σ.2.1 37) x2.toNatClampNeg ((upd (σ.2.1 38) x2.toNatClampNeg r129) x2.toNatClampNeg))) x1 (x2 + 1)
         else
          pr_ck x2 250 <|
          pr_ck x2 250 <|
          prf_O_finish_11 n (pr_sA (pr_sA (pr_sA σ 38 (upd (σ.2.1 38) x2.toNatClampNeg r129)) 36 (upd (σ.2.1 36) x2.toNatClampNeg ((σ.2.1 36) x2.toNatClampNeg))) 37 (upd (σ.2.1 37) x2.toNatClampNeg ((σ.2.1 37) x2.toNatClampNeg))) x1 (x2 + 1)
       else
        pr_ck x2 250 <|
        pr_ck x2 250 <|
        if ((σ.2.1 36) x2.toNatClampNeg) = (-1) then
         pr_ck x2 250 <|
         pr_ck x2 250 <|
         if ((σ.2.1 37) x2.toNatClampNeg) = (-1) then
          pr_ck x2 250 <|
          pr_ck x2 250 <|
          prf_O_finish_11 n (pr_sA (pr_sA (pr_sA σ 38 (upd (σ.2.1 38) x2.toNatClampNeg r129)) 36 (upd (σ.2.1 36) x2.toNatClampNeg ((upd (σ.2.1 38) x2.toNatClampNeg r129) x2.toNatClampNeg))) 37 (upd (σ.2.1 37) x2.toNatClampNeg ((upd (σ.2.1 38) x2.toNatClampNeg r129) x2.toNatClampNeg))) x1 (x2 + 1)
         else
          pr_ck x2 250 <|
          pr_ck x2 250 <|
          prf_O_finish_11 n (pr_sA (pr_sA (pr_sA σ 38 (upd (σ.2.1 38) x2.toNatClampNeg r129)) 36 (upd (σ.2.1 36) x2.toNatClampNeg ((upd (σ.2.1 38) x2.toNatClampNeg r129) x2.toNatClampNeg))) 37 (upd (σ.2.1 37) x2.toNatClampNeg ((σ.2.1 37) x2.toNatClampNeg))) x1 (x2 + 1)
        else
         pr_ck x2 250 <|
         pr_ck x2 250 <|
         pr_ck x2 250 <|
         if ((σ.2.1 37) x2.toNatClampNeg) = (-1) then
          pr_ck x2 250 <|
          pr_ck x2 250 <|
          prf_O_finish_11 n (pr_sA (pr_sA (pr_sA σ 38 (upd (σ.2.1 38) x2.toNatClampNeg r129)) 36 (upd (σ.2.1 36) x2.toNatClampNeg ((σ.2.1 36) x2.toNatClampNeg))) 37 (upd (σ.2.1 37) x2.toNatClampNeg ((upd (σ.2.1 38) x2.toNatClampNeg r129) x2.toNatClampNeg))) x1 (x2 + 1)
         else
          pr_ck x2 250 <|
          pr_ck x2 250 <|
          prf_O_finish_11 n (pr_sA (pr_sA (pr_sA σ 38 (upd (σ.2.1 38) x2.toNatClampNeg r129)) 36 (upd (σ.2.1 36) x2.toNatClampNeg ((σ.2.1 36) x2.toNatClampNeg))) 37 (upd (σ.2.1 37) x2.toNatClampNeg ((σ.2.1 37) x2.toNatClampNeg))) x1 (x2 + 1)
def prf_O_finish (σ : pr_St)  : Option pr_St :=
  (prf_O_addTheEnd σ).bind fun r168 =>
  prf_O_finish_11 pr_FU r168 (σ.1 4 14) 0
def prf_Y_layProgram_65 (fu : Nat) (σ : pr_St) (x2 : Int32) : Option (Int32 × pr_St) := match fu with
  | 0 => none
  | n + 1 =>
    if 1000 ≤ x2 then
     (prf_O_finish σ).bind fun r21 =>
     some (1, r21)
    else
     if (σ.1 6 9) ≤ 0 then
      (prf_O_finish σ).bind fun r23 =>
      some (1, r23)
     else
      (prf_Y_takeStatement (pr_sI σ 6 10 ((σ.1 6 9) - 1))).bind fun r24 =>
      if r24.1 = (-1) then
       (prf_Y_endBlock r24.2).bind fun r29 =>
       prf_Y_layProgram_65 n r29 (x2 + 1)
      else
       (prf_Y_holds r24.2 r24.1).bind fun r26 =>
       if r26.1 = 0 then
        some (0, r26.2)
       else
        (prf_Y_layStatement r26.2 r24.1).bind fun r28 =>
        prf_Y_layProgram_65 n r28 (x2 + 1)
def prf_Y_layProgram (σ : pr_St)  : Option (Int32 × pr_St) :=
  (prf_O_clear σ).bind fun r30 =>
  (prf_S_cutTo r30 0 0).bind fun r31 =>
  (prf_G_functions (pr_sI r31 6 9 0)).bind fun r32 =>
  (prf_G_parametersOf (pr_sI r31 6 9 0) (r32 - 1)).bind fun r33 =>
  if r33 ≤ 0 then
   (prf_Y_openFunction (pr_sI r31 6 9 0) (r32 - 1) (-1)).bind fun r35 =>
   prf_Y_layProgram_65 pr_FU r35 0
  else
   (prf_G_nameOf (pr_sI r31 6 9 0) (r32 - 1)).bind fun r36 =>
   (prf_Y_isWrong (pr_sI r31 6 9 0) 7 r36).bind fun r37 =>
   pr_z r37.1 <|
   some (r37.1, r37.2)
def prf_Y_whatIsWrong (σ : pr_St)  : Option Int32 :=
  some (σ.1 6 14)
def prf_Y_whereItIs (σ : pr_St)  : Option Int32 :=
  some (σ.1 6 15)
def prf_P_end (σ : pr_St) (x1 : Int32) : Option (Int32 × pr_St) :=
  if x1 < 0 then
   some ((-1), σ)
  else
   (prf_T_bytes σ).bind fun r16 =>
   if x1 ≤ r16 then
    (prf_M_forget (pr_sI (pr_sI (pr_sI σ 0 5 1) 0 6 0) 0 7 0)).bind fun r18 =>
    (prf_T_readText r18 x1).bind fun r19 =>
    (prf_R_readText r19).bind fun r20 =>
    if r20.1 = 0 then
     (prf_R_faultPlace r20.2).bind fun r27 =>
     (prf_O_leaveOnlyTheEnd (pr_sI r20.2 0 7 r27)).bind fun r28 =>
     some (1, r28)
    else
     (prf_Y_layProgram r20.2).bind fun r22 =>
     if r22.1 = 0 then
      (prf_Y_whatIsWrong r22.2).bind fun r24 =>
      (prf_Y_whereItIs (pr_sI r22.2 0 6 r24)).bind fun r25 =>
      (prf_O_leaveOnlyTheEnd (pr_sI (pr_sI r22.2 0 6 r24) 0 7 r25)).bind fun r26 =>
      some (2, r26)
     else
      some (0, r22.2)
   else
    some ((-1), σ)
def prf_P_told (σ : pr_St) (x1 : Int32) : Option Int32 :=
  if (σ.1 0 5) = 0 then
   some (-1)
  else
   if x1 < 0 then
    some (-1)
   else
    if x1 ≤ 1 then
     if x1 = 0 then
      some (σ.1 0 6)
     else
      some (σ.1 0 7)
    else
     some (-1)
def prf_P_points (σ : pr_St)  : Option Int32 :=
  (prf_O_count σ).bind fun r2 =>
  some r2
def prf_O_placeOf (σ : pr_St) (x1 : Int32) : Option Int32 :=
  (prf_O_isPoint σ x1).bind fun r4 =>
  if r4 = 0 then
   some 0
  else
   pr_ck x1 250 <|
   some ((σ.2.1 26) x1.toNatClampNeg)
def prf_O_nextOf (σ : pr_St) (x1 : Int32) : Option Int32 :=
  (prf_O_isPoint σ x1).bind fun r4 =>
  if r4 = 0 then
   some (-1)
  else
   pr_ck x1 250 <|
   some ((σ.2.1 38) x1.toNatClampNeg)
def prf_P_point (σ : pr_St) (x1 : Int32) (x2 : Int32) : Option Int32 :=
  if x1 < 0 then
   some (-1)
  else
   (prf_O_count σ).bind fun r15 =>
   if x1 < r15 then
    if x2 = 0 then
     (prf_O_kindOf σ x1).bind fun r18 =>
     some r18
    else
      if x2 = 1 then
       (prf_O_placeOf σ x1).bind fun r20 =>
       some r20
      else
        if x2 = 2 then
         (prf_O_numbersAt σ x1).bind fun r22 =>
         some r22
        else
          if x2 = 3 then
           (prf_O_arraysAt σ x1).bind fun r24 =>
           some r24
          else
            if x2 = 4 then
             (prf_O_nextOf σ x1).bind fun r26 =>
             some r26
            else
              some (-1)
   else
    some (-1)
def prf_M_addInput (σ : pr_St) (x1 : Int32) : Option (Int32 × pr_St) :=
  if (σ.1 7 4) < 0 then
   some ((-1), σ)
  else
   if (σ.1 7 4) < 400 then
    pr_ck (σ.1 7 4) 400 <|
    some (((σ.1 7 4) + 1), (pr_sI (pr_sA σ 47 (upd (σ.2.1 47) (σ.1 7 4).toNatClampNeg x1)) 7 4 ((σ.1 7 4) + 1)))
   else
    some ((-1), σ)
def prf_P_input (σ : pr_St) (x1 : Int32) : Option (Int32 × pr_St) :=
  (prf_M_addInput σ x1).bind fun r2 =>
  some (r2.1, r2.2)
def prf_M_dropInputs (σ : pr_St)  : Option (Int32 × pr_St) :=
  some ((σ.1 7 4), (pr_sI σ 7 4 0))
def prf_P_drop (σ : pr_St)  : Option (Int32 × pr_St) :=
  (prf_M_dropInputs σ).bind fun r2 =>
  some (r2.1, r2.2)
def prf_O_statementOf (σ : pr_St) (x1 : Int32) : Option Int32 :=
  (prf_O_isPoint σ x1).bind fun r4 =>
  if r4 = 0 then
   some (-1)
  else
   pr_ck x1 250 <|
   some ((σ.2.1 27) x1.toNatClampNeg)
def prf_G_firstOperationOf (σ : pr_St) (x1 : Int32) : Option Int32 :=
  (prf_G_isStatement σ x1).bind fun r4 =>
  if r4 = 0 then
   some (σ.1 2 14)
  else
   pr_ck x1 2001 <|
   some ((σ.2.1 19) x1.toNatClampNeg)
def prf_G_operationAt (σ : pr_St) (x1 : Int32) : Option Int32 :=
  (prf_G_isOperation σ x1).bind fun r4 =>
  if r4 = 0 then
   some 0
  else
   pr_ck x1 8001 <|
   some ((σ.2.1 22) x1.toNatClampNeg)
def prf_G_operandAt (σ : pr_St) (x1 : Int32) : Option Int32 :=
  (prf_G_isOperation σ x1).bind fun r4 =>
  if r4 = 0 then
   some (-1)
  else
   pr_ck x1 8001 <|
   some ((σ.2.1 23) x1.toNatClampNeg)
def prf_M_waitingAt (σ : pr_St) (x1 : Int32) : Option Int32 :=
  if x1 < 0 then
   some 0
  else
   if (σ.1 7 13) ≤ x1 then
    some 0
   else
    if 256 ≤ x1 then
     some 0
    else
     pr_ck x1 256 <|
     some ((σ.2.1 51) x1.toNatClampNeg)
def prf_M_pop (σ : pr_St)  : Option (Int32 × pr_St) :=
  if (σ.1 7 13) ≤ 0 then
   some (0, σ)
  else
   if (σ.1 7 13) ≤ 256 then
    pr_ck ((σ.1 7 13) - 1) 256 <|
    some (((σ.2.1 51) ((σ.1 7 13) - 1).toNatClampNeg), (pr_sI σ 7 13 ((σ.1 7 13) - 1)))
   else
    some (0, σ)
def prf_M_push (σ : pr_St) (x1 : Int32) : Option pr_St :=
  if (σ.1 7 13) < 0 then
   some σ
  else
   if 256 ≤ (σ.1 7 13) then
    some σ
   else
    pr_ck (σ.1 7 13) 256 <|
    some (pr_sI (pr_sA σ 51 (upd (σ.2.1 51) (σ.1 7 13).toNatClampNeg x1)) 7 13 ((σ.1 7 13) + 1))
def prf_M_pushIfInt (σ : pr_St) (x1 : Int64) : Option pr_St :=
  if (lg_cmp x1 (-2147483648)) < 0 then
   some (pr_sI σ 7 11 1)
  else
   if (lg_cmp x1 2147483647) ≤ 0 then
    (prf_M_push σ x1.toInt32).bind fun r6 =>
    some r6
   else
    some (pr_sI σ 7 11 1)
def prf_M_reckonTwo (σ : pr_St) (x1 : Int32) : Option pr_St :=
  (prf_M_pop σ).bind fun r15 =>
  (prf_M_pop r15.2).bind fun r16 =>
  if x1 = 21 then
   (prf_M_pushIfInt r16.2 (r16.1.toInt64 + r15.1.toInt64)).bind fun r18 =>
   some r18
  else
    if x1 = 22 then
     (prf_M_pushIfInt r16.2 (r16.1.toInt64 - r15.1.toInt64)).bind fun r20 =>
     some r20
    else
      if x1 = 23 then
       (prf_M_pushIfInt r16.2 (r16.1.toInt64 * r15.1.toInt64)).bind fun r22 =>
       some r22
      else
        if r15.1 = 0 then
         some (pr_sI r16.2 7 11 2)
        else
         if x1 = 24 then
          pr_nzl r15.1.toInt64 <|
          (prf_M_pushIfInt r16.2 (r16.1.toInt64 / r15.1.toInt64)).bind fun r28 =>
          some r28
         else
          pr_nzl r15.1.toInt64 <|
          (prf_M_pushIfInt r16.2 (r16.1.toInt64 - r16.1.toInt64 / r15.1.toInt64 * r15.1.toInt64)).bind fun r26 =>
          some r26
def prf_M_pushTruth (σ : pr_St) (x1 : Int32) : Option pr_St :=
  if x1 = 0 then
   (prf_M_push σ 0).bind fun r5 =>
   some r5
  else
   (prf_M_push σ 1).bind fun r6 =>
   some r6
def prf_M_compareTwo (σ : pr_St) (x1 : Int32) : Option pr_St :=
  (prf_M_pop σ).bind fun r26 =>
  (prf_M_pop r26.2).bind fun r27 =>
  if x1 = 26 then
   if r26.1 ≤ r27.1 then
    (prf_M_pushTruth r27.2 0).bind fun r30 =>
    some r30
   else
    (prf_M_pushTruth r27.2 1).bind fun r31 =>
    some r31
  else
    if x1 = 27 then
     if r26.1 < r27.1 then
      (prf_M_pushTruth r27.2 0).bind fun r34 =>
      some r34
     else
      (prf_M_pushTruth r27.2 1).bind fun r35 =>
      some r35
    else
      if x1 = 28 then
       if r27.1 ≤ r26.1 then
        (prf_M_pushTruth r27.2 0).bind fun r38 =>
        some r38
       else
        (prf_M_pushTruth r27.2 1).bind fun r39 =>
        some r39
      else
        if x1 = 29 then
         if r27.1 < r26.1 then
          (prf_M_pushTruth r27.2 0).bind fun r42 =>
          some r42
         else
          (prf_M_pushTruth r27.2 1).bind fun r43 =>
          some r43
        else
          if x1 = 30 then
           if r27.1 = r26.1 then
            (prf_M_pushTruth r27.2 1).bind fun r47 =>
            some r47
           else
            (prf_M_pushTruth r27.2 0).bind fun r46 =>
            some r46
          else
            if r27.1 = r26.1 then
             (prf_M_pushTruth r27.2 0).bind fun r49 =>
             some r49
            else
             (prf_M_pushTruth r27.2 1).bind fun r50 =>
             some r50
def prf_M_slotOfName (σ : pr_St) (x1 : Int32) (x2 : Int32) : Option Int32 :=
  (prf_O_foreignNumbersAt σ x1).bind fun r3 =>
  (prf_G_slotOf σ x2).bind fun r4 =>
  some (r3 + r4)
def prf_M_getNumber (σ : pr_St) (x1 : Int32) : Option Int32 :=
  if x1 < 0 then
   some 0
  else
   if 12 ≤ x1 then
    some 0
   else
    pr_ck x1 12 <|
    some ((σ.2.1 48) x1.toNatClampNeg)
def prf_M_hasPlace (σ : pr_St) (x1 : Int32) (x2 : Int32) : Option Int32 :=
  if x1 < 0 then
   some 0
  else
   if 6 ≤ x1 then
    some 0
   else
    if x2 < 0 then
     some 0
    else
     pr_ck x1 6 <|
     if ((σ.2.1 49) x1.toNatClampNeg) ≤ x2 then
      some 0
     else
      if 64 ≤ x2 then
       some 0
      else
       some 1
def prf_M_lookAtPlace (σ : pr_St)  : Option pr_St :=
  (prf_M_waitingAt σ ((σ.1 7 13) - 2)).bind fun r5 =>
  (prf_M_waitingAt σ ((σ.1 7 13) - 1)).bind fun r6 =>
  (prf_M_hasPlace σ r5 r6).bind fun r7 =>
  if r7 = 0 then
   some (pr_sI σ 7 11 4)
  else
   some σ
def prf_M_getPlace (σ : pr_St) (x1 : Int32) (x2 : Int32) : Option Int32 :=
  (prf_M_hasPlace σ x1 x2).bind fun r4 =>
  if r4 = 0 then
   some 0
  else
   pr_ck ((x1 * 64) + x2) 384 <|
   some ((σ.2.1 50) ((x1 * 64) + x2).toNatClampNeg)
def prf_M_takePlace (σ : pr_St)  : Option pr_St :=
  (prf_M_lookAtPlace σ).bind fun r6 =>
  (prf_M_pop r6).bind fun r7 =>
  (prf_M_pop r7.2).bind fun r8 =>
  (prf_M_getPlace r8.2 r8.1 r7.1).bind fun r9 =>
  (prf_M_push r8.2 r9).bind fun r10 =>
  some r10
def prf_M_takeAny_52 (σ : pr_St) (x1 : Int32) (x2 : Int32) : Option (Int32 × pr_St) :=
  (prf_T_kindAt σ (x1 + 1)).bind fun r12 =>
  if r12 = 12 then
   (prf_T_limitAt σ (x1 + 2)).bind fun r14 =>
   (prf_T_secondLimit σ (x1 + 2)).bind fun r15 =>
   (prf_T_limitAt σ r15).bind fun r16 =>
   if x2 < r14 then
    some (r14, σ)
   else
    if r16 < x2 then
     some (r14, σ)
    else
     some (x2, σ)
  else
   some (x2, σ)
def prf_M_takeAny (σ : pr_St) (x1 : Int32) : Option (Int32 × pr_St) :=
  if (σ.1 7 10) < 0 then
   prf_M_takeAny_52 σ x1 0
  else
   if (σ.1 7 4) ≤ (σ.1 7 10) then
    prf_M_takeAny_52 σ x1 0
   else
    if 400 ≤ (σ.1 7 10) then
     prf_M_takeAny_52 σ x1 0
    else
     pr_ck (σ.1 7 10) 400 <|
     prf_M_takeAny_52 (pr_sI σ 7 10 ((σ.1 7 10) + 1)) x1 ((σ.2.1 47) (σ.1 7 10).toNatClampNeg)
def prf_M_reckonOne (σ : pr_St) (x1 : Int32) (x2 : Int32) (x3 : Int32) : Option pr_St :=
  if x2 = 2 then
   (prf_M_slotOfName σ x1 x3).bind fun r27 =>
   (prf_M_getNumber σ r27).bind fun r28 =>
   (prf_M_push σ r28).bind fun r29 =>
   some r29
  else
    if x2 = 3 then
     (prf_T_valueAt σ x3).bind fun r31 =>
     (prf_M_push σ r31).bind fun r32 =>
     some r32
    else
      if x2 = 34 then
       (prf_M_pop σ).bind fun r34 =>
       if r34.1 = 0 then
        (prf_M_pushTruth r34.2 1).bind fun r37 =>
        some r37
       else
        (prf_M_pushTruth r34.2 0).bind fun r36 =>
        some r36
      else
        if x2 = 35 then
         (prf_M_pop σ).bind fun r39 =>
         (prf_M_pushIfInt r39.2 (-r39.1.toInt64)).bind fun r40 =>
         some r40
        else
          if x2 = 36 then
           (prf_O_foreignArraysAt σ x1).bind fun r42 =>
           (prf_G_slotOf σ x3).bind fun r43 =>
           (prf_M_push σ (r42 + r43)).bind fun r44 =>
           some r44
          else
            if x2 = 37 then
             (prf_M_lookAtPlace σ).bind fun r46 =>
             some r46
            else
              if x2 = 38 then
               (prf_M_takePlace σ).bind fun r48 =>
               some r48
              else
                (prf_M_takeAny σ x3).bind fun r49 =>
                (prf_M_push r49.2 r49.1).bind fun r50 =>
                some r50
def prf_M_reckon_84 (kk35 : pr_St → Int32 → Int32 → Int32 → Option pr_St) (σ : pr_St) (x1 : Int32) (x3 : Int32) (x4 : Int32) (x5 : Int32) (x6 : Int32) : Option pr_St :=
  (prf_M_waitingAt σ ((σ.1 7 13) - 1)).bind fun r30 =>
  if r30 = 0 then
   if x5 = 33 then
    if (0 : Int32) = 1 then
     kk35 σ x1 x3 ((if x4 < (x6 - 1) then (x6 - 1) else x4) + 1)
    else
     (prf_M_pop σ).bind fun r36 =>
     kk35 r36.2 x1 x3 (x4 + 1)
   else
    if (0 : Int32) = 0 then
     kk35 σ x1 x3 ((if x4 < (x6 - 1) then (x6 - 1) else x4) + 1)
    else
     (prf_M_pop σ).bind fun r34 =>
     kk35 r34.2 x1 x3 (x4 + 1)
  else
   if x5 = 33 then
    if (1 : Int32) = 1 then
     kk35 σ x1 x3 ((if x4 < (x6 - 1) then (x6 - 1) else x4) + 1)
    else
     (prf_M_pop σ).bind fun r41 =>
     kk35 r41.2 x1 x3 (x4 + 1)
   else
    if (1 : Int32) = 0 then
     kk35 σ x1 x3 ((if x4 < (x6 - 1) then (x6 - 1) else x4) + 1)
    else
     (prf_M_pop σ).bind fun r39 =>
     kk35 r39.2 x1 x3 (x4 + 1)
def prf_M_reckon_166 (kk35 : pr_St → Int32 → Int32 → Int32 → Option pr_St) (σ : pr_St) (x1 : Int32) (x3 : Int32) (x4 : Int32) (x5 : Int32) (x6 : Int32) : Option pr_St :=
  if x5 < 26 then
   (prf_M_reckonOne σ x1 x5 x6).bind fun r43 =>
   kk35 r43 x1 x3 (x4 + 1)
  else
   if 31 < x5 then
    (prf_M_reckonOne σ x1 x5 x6).bind fun r45 =>
    kk35 r45 x1 x3 (x4 + 1)
   else
    (prf_M_compareTwo σ x5).bind fun r46 =>
    kk35 r46 x1 x3 (x4 + 1)
def prf_M_reckon_35 (fu : Nat) (σ : pr_St) (x1 : Int32) (x3 : Int32) (x4 : Int32) : Option pr_St := match fu with
  | 0 => none
  | n + 1 =>
    if x3 ≤ x4 then
     some σ
    else
     if (σ.1 7 11) = 0 then
      (prf_G_operationAt σ x4).bind fun r49 =>
      (prf_G_operandAt σ x4).bind fun r50 =>
      if r49 = 32 then
       prf_M_reckon_84 (prf_M_reckon_35 n) σ x1 x3 x4 r49 r50
      else
       if r49 = 33 then
        prf_M_reckon_84 (prf_M_reckon_35 n) σ x1 x3 x4 r49 r50
       else
        if r49 < 21 then
         prf_M_reckon_166 (prf_M_reckon_35 n) σ x1 x3 x4 r49 r50
        else
         if 25 < r49 then
          prf_M_reckon_166 (prf_M_reckon_35 n) σ x1 x3 x4 r49 r50
         else
          (prf_M_reckonTwo σ r49).bind fun r55 =>
          prf_M_reckon_35 n r55 x1 x3 (x4 + 1)
     else
      some σ
def prf_M_reckon (σ : pr_St) (x1 : Int32) : Option pr_St :=
  (prf_O_statementOf (pr_sI σ 7 13 0) x1).bind fun r56 =>
  (prf_G_firstOperationOf (pr_sI σ 7 13 0) (r56 + 1)).bind fun r57 =>
  (prf_G_firstOperationOf (pr_sI σ 7 13 0) r56).bind fun r58 =>
  prf_M_reckon_35 pr_FU (pr_sI σ 7 13 0) x1 r57 r58
def prf_M_firstToken (σ : pr_St) (x1 : Int32) : Option Int32 :=
  (prf_O_statementOf σ x1).bind fun r3 =>
  (prf_G_firstTokenOf σ r3).bind fun r4 =>
  some r4
def prf_M_beginArray_23 (fu : Nat) (σ : pr_St) (x1 : Int32) (x3 : Int32) : Option pr_St := match fu with
  | 0 => none
  | n + 1 =>
    if 64 ≤ x3 then
     some σ
    else
     pr_ck ((x1 * 64) + x3) 384 <|
     prf_M_beginArray_23 n (pr_sA σ 50 (upd (σ.2.1 50) ((x1 * 64) + x3).toNatClampNeg 0)) x1 (x3 + 1)
def prf_M_beginArray (σ : pr_St) (x1 : Int32) (x2 : Int32) : Option pr_St :=
  if x1 < 0 then
   some σ
  else
   if x1 < 6 then
    pr_ck x1 6 <|
    prf_M_beginArray_23 pr_FU (pr_sA σ 49 (upd (σ.2.1 49) x1.toNatClampNeg x2)) x1 0
   else
    some σ
def prf_M_setNumber (σ : pr_St) (x1 : Int32) (x2 : Int32) : Option pr_St :=
  if x1 < 0 then
   some σ
  else
   if 12 ≤ x1 then
    some σ
   else
    pr_ck x1 12 <|
    some (pr_sA σ 48 (upd (σ.2.1 48) x1.toNatClampNeg x2))
def prf_M_beginVariable (σ : pr_St) (x1 : Int32) : Option pr_St :=
  (prf_M_firstToken σ x1).bind fun r12 =>
  (prf_T_kindAt σ (r12 + 2)).bind fun r13 =>
  if r13 = 16 then
   (prf_O_arraysAt σ x1).bind fun r20 =>
   (prf_T_valueAt σ (r12 + 3)).bind fun r21 =>
   (prf_M_beginArray σ r20 r21).bind fun r22 =>
   some r22
  else
   (prf_O_numbersAt σ x1).bind fun r15 =>
   if (σ.1 7 13) ≤ 0 then
    (prf_M_setNumber σ r15 0).bind fun r17 =>
    some r17
   else
    (prf_M_waitingAt σ 0).bind fun r18 =>
    (prf_M_setNumber σ r15 r18).bind fun r19 =>
    some r19
def prf_M_setPlace (σ : pr_St) (x1 : Int32) (x2 : Int32) (x3 : Int32) : Option pr_St :=
  (prf_M_hasPlace σ x1 x2).bind fun r4 =>
  if r4 = 0 then
   some σ
  else
   pr_ck ((x1 * 64) + x2) 384 <|
   some (pr_sA σ 50 (upd (σ.2.1 50) ((x1 * 64) + x2).toNatClampNeg x3))
def prf_O_intoOf (σ : pr_St) (x1 : Int32) : Option Int32 :=
  (prf_O_isPoint σ x1).bind fun r4 =>
  if r4 = 0 then
   some (-1)
  else
   pr_ck x1 250 <|
   some ((σ.2.1 36) x1.toNatClampNeg)
def prf_O_otherOf (σ : pr_St) (x1 : Int32) : Option Int32 :=
  (prf_O_isPoint σ x1).bind fun r4 =>
  if r4 = 0 then
   some (-1)
  else
   pr_ck x1 250 <|
   some ((σ.2.1 37) x1.toNatClampNeg)
def prf_O_parentOf (σ : pr_St) (x1 : Int32) : Option Int32 :=
  (prf_O_isPoint σ x1).bind fun r4 =>
  if r4 = 0 then
   some (-1)
  else
   pr_ck x1 250 <|
   some ((σ.2.1 32) x1.toNatClampNeg)
def prf_O_targetOf (σ : pr_St) (x1 : Int32) : Option Int32 :=
  (prf_O_isPoint σ x1).bind fun r4 =>
  if r4 = 0 then
   some (-1)
  else
   pr_ck x1 250 <|
   some ((σ.2.1 34) x1.toNatClampNeg)
def prf_M_step_136 (fu : Nat) (σ : pr_St) (x1 : Int32) (x2 : Int32) : Option (Int32 × pr_St) := match fu with
  | 0 => none
  | n + 1 =>
    if (σ.1 7 13) ≤ x2 then
     (prf_O_intoOf σ x1).bind fun r48 =>
     some (r48, σ)
    else
     (prf_O_numbersAt σ x1).bind fun r49 =>
     (prf_M_waitingAt σ x2).bind fun r50 =>
     (prf_M_setNumber σ (r49 + x2) r50).bind fun r51 =>
     prf_M_step_136 n r51 x1 (x2 + 1)
def prf_M_step (σ : pr_St) (x1 : Int32) : Option (Int32 × pr_St) :=
  (prf_M_reckon σ x1).bind fun r52 =>
  if (r52.1 7 11) = 0 then
   (prf_O_kindOf r52 x1).bind fun r54 =>
   if r54 = 1 then
    (prf_M_beginVariable r52 x1).bind fun r56 =>
    (prf_O_nextOf r56 x1).bind fun r57 =>
    some (r57, r56)
   else
     if r54 = 2 then
      (prf_M_firstToken r52 x1).bind fun r59 =>
      (prf_M_slotOfName r52 x1 r59).bind fun r60 =>
      (prf_M_waitingAt r52 0).bind fun r61 =>
      (prf_M_setNumber r52 r60 r61).bind fun r62 =>
      (prf_O_nextOf r62 x1).bind fun r63 =>
      some (r63, r62)
     else
       if r54 = 3 then
        (prf_M_waitingAt r52 0).bind fun r65 =>
        (prf_M_waitingAt r52 1).bind fun r66 =>
        (prf_M_waitingAt r52 2).bind fun r67 =>
        (prf_M_setPlace r52 r65 r66 r67).bind fun r68 =>
        (prf_O_nextOf r68 x1).bind fun r69 =>
        some (r69, r68)
       else
         if r54 = 4 then
          prf_M_step_136 pr_FU r52 x1 0
         else
           if r54 = 5 then
            (prf_M_waitingAt r52 0).bind fun r72 =>
            if r72 = 0 then
             (prf_O_otherOf r52 x1).bind fun r74 =>
             some (r74, r52)
            else
             (prf_O_intoOf r52 x1).bind fun r75 =>
             some (r75, r52)
           else
             if r54 = 6 then
              (prf_M_waitingAt r52 0).bind fun r77 =>
              if r77 = 0 then
               (prf_O_nextOf r52 x1).bind fun r79 =>
               some (r79, r52)
              else
               (prf_O_intoOf r52 x1).bind fun r80 =>
               some (r80, r52)
             else
               if r54 = 7 then
                (prf_M_waitingAt r52 0).bind fun r82 =>
                if r82 = 0 then
                 if (8 : Int32) = 0 then
                  (prf_O_nextOf (pr_sI r52 7 11 8) x1).bind fun r85 =>
                  some (r85, (pr_sI r52 7 11 8))
                 else
                  some (x1, (pr_sI r52 7 11 8))
                else
                 if (0 : Int32) = 0 then
                  (prf_O_nextOf (pr_sI r52 7 11 0) x1).bind fun r87 =>
                  some (r87, (pr_sI r52 7 11 0))
                 else
                  some (x1, (pr_sI r52 7 11 0))
               else
                 (prf_O_parentOf r52 x1).bind fun r88 =>
                 (prf_O_targetOf r52 r88).bind fun r89 =>
                 (prf_M_waitingAt r52 0).bind fun r90 =>
                 (prf_M_setNumber r52 r89 r90).bind fun r91 =>
                 (prf_O_nextOf r91 x1).bind fun r92 =>
                 some (r92, r91)
  else
   some (x1, r52)
def prf_M_runSteps_60 (σ : pr_St)  : Option (Int32 × pr_St) :=
  if (σ.1 7 11) = 0 then
   (prf_O_kindOf σ (σ.1 7 8)).bind fun r11 =>
   if r11 = 0 then
    some (0, σ)
   else
    some (16, σ)
  else
   some ((σ.1 7 11), σ)
def prf_M_runSteps_6 (fu : Nat) (σ : pr_St) (x1 : Int32) (x2 : Int32) : Option (Int32 × pr_St) := match fu with
  | 0 => none
  | n + 1 =>
    if x1 ≤ x2 then
     prf_M_runSteps_60 σ
    else
     if (σ.1 7 11) = 0 then
      (prf_O_kindOf σ (σ.1 7 8)).bind fun r15 =>
      if r15 = 0 then
       prf_M_runSteps_60 σ
      else
       (prf_M_step (pr_sI σ 7 9 ((σ.1 7 9) + 1)) (σ.1 7 8)).bind fun r17 =>
       prf_M_runSteps_6 n (pr_sI r17.2 7 8 r17.1) x1 (x2 + 1)
     else
      prf_M_runSteps_60 σ
def prf_M_runSteps (σ : pr_St) (x1 : Int32) : Option (Int32 × pr_St) :=
  (prf_M_forget σ).bind fun r18 =>
  prf_M_runSteps_6 pr_FU r18 x1 0
def prf_P_run (σ : pr_St) (x1 : Int32) : Option (Int32 × pr_St) :=
  if x1 < 0 then
   some ((-1), σ)
  else
   if x1 ≤ 2000 then
    (prf_M_runSteps σ x1).bind fun r6 =>
    some (r6.1, r6.2)
   else
    some ((-1), σ)
def prf_M_standsAt (σ : pr_St)  : Option Int32 :=
  some (σ.1 7 8)
def prf_M_stepsDone (σ : pr_St)  : Option Int32 :=
  some (σ.1 7 9)
def prf_M_inputsTaken (σ : pr_St)  : Option Int32 :=
  some (σ.1 7 10)
def prf_P_ran (σ : pr_St) (x1 : Int32) : Option Int32 :=
  if x1 = 0 then
   (prf_M_standsAt σ).bind fun r8 =>
   some r8
  else
    if x1 = 1 then
     (prf_M_stepsDone σ).bind fun r10 =>
     some r10
    else
      if x1 = 2 then
       (prf_M_inputsTaken σ).bind fun r12 =>
       some r12
      else
        some (-1)
def prf_M_numberIn (σ : pr_St) (x1 : Int32) : Option Int32 :=
  if x1 < 0 then
   some 0
  else
   (prf_O_numbersAt σ (σ.1 7 8)).bind fun r6 =>
   if r6 ≤ x1 then
    some 0
   else
    (prf_M_getNumber σ x1).bind fun r8 =>
    some r8
def prf_P_value (σ : pr_St) (x1 : Int32) : Option Int32 :=
  (prf_M_numberIn σ x1).bind fun r2 =>
  some r2
def prf_M_placeIn (σ : pr_St) (x1 : Int32) (x2 : Int32) : Option Int32 :=
  if x1 < 0 then
   if (0 : Int32) = 0 then
    some 0
   else
    (prf_M_getPlace σ x1 x2).bind fun r16 =>
    some r16
  else
   (prf_O_arraysAt σ (σ.1 7 8)).bind fun r17 =>
   if r17 ≤ x1 then
    if (0 : Int32) = 0 then
     some 0
    else
     (prf_M_getPlace σ x1 x2).bind fun r20 =>
     some r20
   else
    (prf_M_hasPlace σ x1 x2).bind fun r21 =>
    if r21 = 0 then
     if (0 : Int32) = 0 then
      some 0
     else
      (prf_M_getPlace σ x1 x2).bind fun r24 =>
      some r24
    else
     if (1 : Int32) = 0 then
      some 0
     else
      (prf_M_getPlace σ x1 x2).bind fun r26 =>
      some r26
def prf_P_place (σ : pr_St) (x1 : Int32) (x2 : Int32) : Option Int32 :=
  (prf_M_placeIn σ x1 x2).bind fun r2 =>
  some r2
