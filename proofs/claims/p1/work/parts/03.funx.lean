def prf_X_nothing (σ : pr_St)  : Option pr_St :=
  pr_ck 0 250 <|
  pr_ck 0 250 <|
  pr_ck 0 250 <|
  pr_ck 0 250 <|
  pr_ck 0 250 <|
  some (pr_sI (pr_sI (pr_sI (pr_sA (pr_sA (pr_sA (pr_sA (pr_sA (pr_sI σ 0 33 1) 20 (upd (σ.2.1 20) (0 : Int32).toNatClampNeg (-1))) 21 (upd (σ.2.1 21) (0 : Int32).toNatClampNeg (-1))) 22 (upd (σ.2.1 22) (0 : Int32).toNatClampNeg 1)) 23 (upd (σ.2.1 23) (0 : Int32).toNatClampNeg 0)) 24 (upd (σ.2.1 24) (0 : Int32).toNatClampNeg 0)) 0 55 0) 0 56 0) 0 57 0)
def prf_X_add_55 (fu : Nat) (σ : pr_St) (x5 : Int32) : Option (Int32 × pr_St) := match fu with
  | 0 => none
  | n + 1 =>
    if x5 = (-1) then
     some ((((σ.1 0 24) + 1) - 1), (pr_sI σ 0 24 ((σ.1 0 24) + 1)))
    else
     pr_ck x5 13000 <|
     pr_ck x5 13000 <|
     pr_ck x5 13000 <|
     prf_X_add_55 n (pr_sA σ 17 (upd (σ.2.1 17) x5.toNatClampNeg (((σ.2.1 17) x5.toNatClampNeg) + 1))) ((σ.2.1 16) x5.toNatClampNeg)
def prf_X_add (σ : pr_St) (x1 : Int32) (x2 : Int32) (x3 : Int32) (x4 : Int32) : Option (Int32 × pr_St) :=
  pr_ck (σ.1 0 24) 13000 <|
  pr_ck (σ.1 0 24) 13000 <|
  pr_ck (σ.1 0 24) 13000 <|
  pr_ck (σ.1 0 24) 13000 <|
  pr_ck (σ.1 0 24) 13000 <|
  prf_X_add_55 pr_FU (pr_sA (pr_sA (pr_sA (pr_sA (pr_sA σ 13 (upd (σ.2.1 13) (σ.1 0 24).toNatClampNeg x1)) 14 (upd (σ.2.1 14) (σ.1 0 24).toNatClampNeg x2)) 15 (upd (σ.2.1 15) (σ.1 0 24).toNatClampNeg x3)) 16 (upd (σ.2.1 16) (σ.1 0 24).toNatClampNeg x4)) 17 (upd (σ.2.1 17) (σ.1 0 24).toNatClampNeg 1)) x4
def prf_X_feed_18 (fu : Nat) (σ : pr_St) (x1 : Int32) (x2 : Int32) (x3 : Int32) (x4 : Int32) (x5 : Int32) (x6 : Int32) : Option (Int32 × pr_St) := match fu with
  | 0 => none
  | n + 1 =>
    if 20 ≤ x6 then
     some ((σ.1 0 2), σ)
    else
     if 4 ≤ x6 then
      if 8 ≤ x6 then
       if 12 ≤ x6 then
        if 16 ≤ x6 then
         pr_nz 4 <|
         pr_ck (σ.1 0 2) 8000 <|
         prf_X_feed_18 n (pr_sI (pr_sA σ 2 (upd (σ.2.1 2) (σ.1 0 2).toNatClampNeg ((x5 >>> ((24 - (8 * (x6 - x6 / 4 * 4))) &&& 31)) &&& 255))) 0 2 ((σ.1 0 2) + 1)) x1 x2 x3 x4 x5 (x6 + 1)
        else
         pr_nz 4 <|
         pr_ck (σ.1 0 2) 8000 <|
         prf_X_feed_18 n (pr_sI (pr_sA σ 2 (upd (σ.2.1 2) (σ.1 0 2).toNatClampNeg ((x4 >>> ((24 - (8 * (x6 - x6 / 4 * 4))) &&& 31)) &&& 255))) 0 2 ((σ.1 0 2) + 1)) x1 x2 x3 x4 x5 (x6 + 1)
       else
        pr_nz 4 <|
        pr_ck (σ.1 0 2) 8000 <|
        prf_X_feed_18 n (pr_sI (pr_sA σ 2 (upd (σ.2.1 2) (σ.1 0 2).toNatClampNeg ((x3 >>> ((24 - (8 * (x6 - x6 / 4 * 4))) &&& 31)) &&& 255))) 0 2 ((σ.1 0 2) + 1)) x1 x2 x3 x4 x5 (x6 + 1)
      else
       pr_nz 4 <|
       pr_ck (σ.1 0 2) 8000 <|
       prf_X_feed_18 n (pr_sI (pr_sA σ 2 (upd (σ.2.1 2) (σ.1 0 2).toNatClampNeg ((x2 >>> ((24 - (8 * (x6 - x6 / 4 * 4))) &&& 31)) &&& 255))) 0 2 ((σ.1 0 2) + 1)) x1 x2 x3 x4 x5 (x6 + 1)
     else
      pr_nz 4 <|
      pr_ck (σ.1 0 2) 8000 <|
      prf_X_feed_18 n (pr_sI (pr_sA σ 2 (upd (σ.2.1 2) (σ.1 0 2).toNatClampNeg ((x1 >>> ((24 - (8 * (x6 - x6 / 4 * 4))) &&& 31)) &&& 255))) 0 2 ((σ.1 0 2) + 1)) x1 x2 x3 x4 x5 (x6 + 1)
def prf_X_feed (σ : pr_St) (x1 : Int32) (x2 : Int32) (x3 : Int32) (x4 : Int32) (x5 : Int32) : Option (Int32 × pr_St) :=
  if ((σ.1 0 2) + 20) ≤ 8000 then
   prf_X_feed_18 pr_FU σ x1 x2 x3 x4 x5 0
  else
   some ((-1), σ)
def prf_X_isAt (σ : pr_St) (x1 : Int32) (x2 : Int32) (x3 : Int32) : Option Int32 :=
  if (σ.1 0 3) ≤ (x1 + 1) then
   some 0
  else
   pr_ck x1 8000 <|
   if ((σ.2.1 2) x1.toNatClampNeg) = x2 then
    pr_ck (x1 + 1) 8000 <|
    if ((σ.2.1 2) (x1 + 1).toNatClampNeg) = x3 then
     some 1
    else
     some 0
   else
    some 0
def prf_X_isLetter (σ : pr_St) (x0 : Int32) : Option Int32 :=
  if x0 < 97 then
   if x0 < 65 then
    if x0 = 95 then
     some 1
    else
     some 0
   else
    if x0 ≤ 90 then
     some 1
    else
     if x0 = 95 then
      some 1
     else
      some 0
  else
   if x0 ≤ 122 then
    some 1
   else
    if x0 < 65 then
     if x0 = 95 then
      some 1
     else
      some 0
    else
     if x0 ≤ 90 then
      some 1
     else
      if x0 = 95 then
       some 1
      else
       some 0
def prf_X_isDigit (σ : pr_St) (x0 : Int32) : Option Int32 :=
  if x0 < 48 then
   some 0
  else
   if 57 < x0 then
    some 0
   else
    some 1
def prf_X_isWord (σ : pr_St) (x1 : Int32) : Option Int32 :=
  if (σ.1 0 3) ≤ x1 then
   some 0
  else
   pr_ck x1 8000 <|
   (prf_X_isLetter σ ((σ.2.1 2) x1.toNatClampNeg)).bind fun r10 =>
   if r10 = 0 then
    pr_ck x1 8000 <|
    (prf_X_isDigit σ ((σ.2.1 2) x1.toNatClampNeg)).bind fun r13 =>
    if r13 = 0 then
     some 0
    else
     some 1
   else
    some 1
def prf_X_behindBlanks_70 (kk4 : pr_St → Int32 → Int32 → Option Int32) (fu : Nat) (σ : pr_St) (x2 : Int32) (x3 : Int32) : Option Int32 := match fu with
  | 0 => none
  | n + 1 =>
    if (σ.1 0 3) ≤ x2 then
     kk4 σ x2 x3
    else
     pr_ck x2 8000 <|
     if ((σ.2.1 2) x2.toNatClampNeg) = 10 then
      kk4 σ x2 x3
     else
      prf_X_behindBlanks_70 kk4 n σ (x2 + 1) x3
def prf_X_behindBlanks_4 (fu : Nat) (σ : pr_St) (x2 : Int32) (x3 : Int32) : Option Int32 := match fu with
  | 0 => none
  | n + 1 =>
    if x3 = 0 then
     some x2
    else
     if (σ.1 0 3) ≤ x2 then
      some x2
     else
      pr_ck x2 8000 <|
      if ((σ.2.1 2) x2.toNatClampNeg) = 9 then
       prf_X_behindBlanks_4 n σ (x2 + 1) x3
      else
       if ((σ.2.1 2) x2.toNatClampNeg) = 10 then
        prf_X_behindBlanks_4 n σ (x2 + 1) x3
       else
        if ((σ.2.1 2) x2.toNatClampNeg) = 13 then
         prf_X_behindBlanks_4 n σ (x2 + 1) x3
        else
         if ((σ.2.1 2) x2.toNatClampNeg) = 32 then
          prf_X_behindBlanks_4 n σ (x2 + 1) x3
         else
          (prf_X_isAt σ x2 47 47).bind fun r23 =>
          if r23 = 0 then
           prf_X_behindBlanks_4 n σ x2 0
          else
           prf_X_behindBlanks_70 (prf_X_behindBlanks_4 n) pr_FU σ x2 x3
def prf_X_behindBlanks (σ : pr_St) (x1 : Int32) : Option Int32 :=
  prf_X_behindBlanks_4 pr_FU σ x1 1
def prf_X_wordOf_34 (kk2 : pr_St → Int32 → Int32 → Int32 → Option Int32) (fu : Nat) (σ : pr_St) (x1 : Int32) (x2 : Int32) (x3 : Int32) (x4 : Int32) (x5 : Int32) : Option Int32 := match fu with
  | 0 => none
  | n + 1 =>
    if x2 ≤ x5 then
     if x4 = 0 then
      kk2 σ x1 x2 (x3 + 1)
     else
      some (300 + x3)
    else
     if x4 = 0 then
      if x4 = 0 then
       kk2 σ x1 x2 (x3 + 1)
      else
       some (300 + x3)
     else
      pr_ck (x1 + x5) 8000 <|
      pr_ck x3 8 <|
      pr_ck x5 (prs_ln x3.toNatClampNeg) <|
      if ((σ.2.1 2) (x1 + x5).toNatClampNeg) = (prs_ch x3.toNatClampNeg x5.toNatClampNeg) then
       prf_X_wordOf_34 kk2 n σ x1 x2 x3 1 (x5 + 1)
      else
       prf_X_wordOf_34 kk2 n σ x1 x2 x3 0 (x5 + 1)
def prf_X_wordOf_2 (fu : Nat) (σ : pr_St) (x1 : Int32) (x2 : Int32) (x3 : Int32) : Option Int32 := match fu with
  | 0 => none
  | n + 1 =>
    if 8 ≤ x3 then
     if x2 ≤ 30 then
      some 2
     else
      some 1
    else
     pr_ck x3 8 <|
     if x2 = (Int32.ofNat (prs_ln x3.toNatClampNeg)) then
      prf_X_wordOf_34 (prf_X_wordOf_2 n) pr_FU σ x1 x2 x3 1 0
     else
      prf_X_wordOf_34 (prf_X_wordOf_2 n) pr_FU σ x1 x2 x3 0 0
def prf_X_wordOf (σ : pr_St) (x1 : Int32) (x2 : Int32) : Option Int32 :=
  prf_X_wordOf_2 pr_FU σ x1 x2 0
def prf_X_isNumber_46 (σ : pr_St) (x1 : Int32) (x2 : Int32) (x3 : Int64) : Option Int32 :=
  if 0 < (lg_cmp x3 2147483647) then
   some 0
  else
   if x2 = 1 then
    (prf_X_isWord σ (x1 + x2)).bind fun r14 =>
    if r14 = 0 then
     some 1
    else
     some 0
   else
    pr_ck x1 8000 <|
    if ((σ.2.1 2) x1.toNatClampNeg) = 48 then
     some 0
    else
     (prf_X_isWord σ (x1 + x2)).bind fun r18 =>
     if r18 = 0 then
      some 1
     else
      some 0
def prf_X_isNumber_5 (fu : Nat) (σ : pr_St) (x1 : Int32) (x2 : Int32) (x3 : Int64) (x5 : Int32) : Option Int32 := match fu with
  | 0 => none
  | n + 1 =>
    if x2 ≤ x5 then
     prf_X_isNumber_46 σ x1 x2 x3
    else
     if 0 < (lg_cmp x3 2147483647) then
      prf_X_isNumber_46 σ x1 x2 x3
     else
      pr_ck (x1 + x5) 8000 <|
      prf_X_isNumber_5 n σ x1 x2 (((10 * x3) + ((σ.2.1 2) (x1 + x5).toNatClampNeg).toInt64) - 48) (x5 + 1)
def prf_X_isNumber (σ : pr_St) (x1 : Int32) (x2 : Int32) : Option Int32 :=
  prf_X_isNumber_5 pr_FU σ x1 x2 0 0
def prf_X_scan_420 (kk13 : pr_St → Int32 → Int32 → Option pr_St) (σ : pr_St) (x1 : Int32) (x3 : Int32) (x4 : Int32) : Option pr_St :=
  pr_ck (σ.1 0 7) 8002 <|
  pr_ck (σ.1 0 7) 8002 <|
  pr_ck (σ.1 0 7) 8002 <|
  if x4 = 1 then
   (prf_X_behindBlanks (pr_sI (pr_sA (pr_sA (pr_sA σ 3 (upd (σ.2.1 3) (σ.1 0 7).toNatClampNeg x4)) 4 (upd (σ.2.1 4) (σ.1 0 7).toNatClampNeg x1)) 5 (upd (σ.2.1 5) (σ.1 0 7).toNatClampNeg x3)) 0 7 ((σ.1 0 7) + 1)) (x1 + x3)).bind fun r99 =>
   kk13 (pr_sI (pr_sA (pr_sA (pr_sA σ 3 (upd (σ.2.1 3) (σ.1 0 7).toNatClampNeg x4)) 4 (upd (σ.2.1 4) (σ.1 0 7).toNatClampNeg x1)) 5 (upd (σ.2.1 5) (σ.1 0 7).toNatClampNeg x3)) 0 7 ((σ.1 0 7) + 1)) r99 0
  else
   if x4 = 0 then
    (prf_X_behindBlanks (pr_sI (pr_sA (pr_sA (pr_sA σ 3 (upd (σ.2.1 3) (σ.1 0 7).toNatClampNeg x4)) 4 (upd (σ.2.1 4) (σ.1 0 7).toNatClampNeg x1)) 5 (upd (σ.2.1 5) (σ.1 0 7).toNatClampNeg x3)) 0 7 ((σ.1 0 7) + 1)) (x1 + x3)).bind fun r101 =>
    kk13 (pr_sI (pr_sA (pr_sA (pr_sA σ 3 (upd (σ.2.1 3) (σ.1 0 7).toNatClampNeg x4)) 4 (upd (σ.2.1 4) (σ.1 0 7).toNatClampNeg x1)) 5 (upd (σ.2.1 5) (σ.1 0 7).toNatClampNeg x3)) 0 7 ((σ.1 0 7) + 1)) r101 0
   else
    (prf_X_behindBlanks (pr_sI (pr_sA (pr_sA (pr_sA σ 3 (upd (σ.2.1 3) (σ.1 0 7).toNatClampNeg x4)) 4 (upd (σ.2.1 4) (σ.1 0 7).toNatClampNeg x1)) 5 (upd (σ.2.1 5) (σ.1 0 7).toNatClampNeg x3)) 0 7 ((σ.1 0 7) + 1)) (x1 + x3)).bind fun r102 =>
    kk13 (pr_sI (pr_sA (pr_sA (pr_sA σ 3 (upd (σ.2.1 3) (σ.1 0 7).toNatClampNeg x4)) 4 (upd (σ.2.1 4) (σ.1 0 7).toNatClampNeg x1)) 5 (upd (σ.2.1 5) (σ.1 0 7).toNatClampNeg x3)) 0 7 ((σ.1 0 7) + 1)) r102 1
def prf_X_scan_66 (kk13 : pr_St → Int32 → Int32 → Option pr_St) (fu : Nat) (σ : pr_St) (x1 : Int32) (x3 : Int32) : Option pr_St := match fu with
  | 0 => none
  | n + 1 =>
    (prf_X_isWord σ (x1 + x3)).bind fun r103 =>
    if r103 = 0 then
     (prf_X_wordOf σ x1 x3).bind fun r105 =>
     prf_X_scan_420 kk13 σ x1 x3 r105
    else
     prf_X_scan_66 kk13 n σ x1 (x3 + 1)
def prf_X_scan_131 (kk13 : pr_St → Int32 → Int32 → Option pr_St) (σ : pr_St) (x1 : Int32) (x3 : Int32) : Option pr_St :=
  (prf_X_isNumber σ x1 x3).bind fun r106 =>
  if r106 = 0 then
   prf_X_scan_420 kk13 σ x1 x3 1
  else
   prf_X_scan_420 kk13 σ x1 x3 3
def prf_X_scan_101 (kk13 : pr_St → Int32 → Int32 → Option pr_St) (fu : Nat) (σ : pr_St) (x1 : Int32) (x3 : Int32) : Option pr_St := match fu with
  | 0 => none
  | n + 1 =>
    if (σ.1 0 3) ≤ (x1 + x3) then
     prf_X_scan_131 kk13 σ x1 x3
    else
     pr_ck (x1 + x3) 8000 <|
     (prf_X_isDigit σ ((σ.2.1 2) (x1 + x3).toNatClampNeg)).bind fun r110 =>
     if r110 = 0 then
      prf_X_scan_131 kk13 σ x1 x3
     else
      prf_X_scan_101 kk13 n σ x1 (x3 + 1)
def prf_X_scan_222 (kk13 : pr_St → Int32 → Int32 → Option pr_St) (σ : pr_St) (x1 : Int32) (x5 : Int32) : Option pr_St :=
  if x5 = 60 then
   prf_X_scan_420 kk13 σ x1 2 256
  else
   if x5 = 62 then
    prf_X_scan_420 kk13 σ x1 2 257
   else
    if x5 = 61 then
     prf_X_scan_420 kk13 σ x1 2 258
    else
     if x5 = 33 then
      prf_X_scan_420 kk13 σ x1 2 259
     else
      if x5 = 38 then
       prf_X_scan_420 kk13 σ x1 2 260
      else
       prf_X_scan_420 kk13 σ x1 2 261
def prf_X_scan_416 (kk13 : pr_St → Int32 → Int32 → Option pr_St) (σ : pr_St) (x1 : Int32) (x3 : Int32) (x5 : Int32) : Option pr_St :=
  prf_X_scan_420 kk13 σ x1 x3 x5
def prf_X_scan_13 (fu : Nat) (σ : pr_St) (x1 : Int32) (x2 : Int32) : Option pr_St := match fu with
  | 0 => none
  | n + 1 =>
    if x2 = 0 then
     some σ
    else
     if (σ.1 0 3) ≤ x1 then
      if x1 < (σ.1 0 3) then
       (prf_X_isLetter σ 0).bind fun r120 =>
       if r120 = 0 then
        (prf_X_isDigit σ 0).bind fun r122 =>
        if r122 = 0 then
         (prf_X_isAt σ x1 60 61).bind fun r124 =>
         if r124 = 0 then
          (prf_X_isAt σ x1 62 61).bind fun r126 =>
          if r126 = 0 then
           (prf_X_isAt σ x1 61 61).bind fun r128 =>
           if r128 = 0 then
            (prf_X_isAt σ x1 33 61).bind fun r130 =>
            if r130 = 0 then
             (prf_X_isAt σ x1 38 38).bind fun r132 =>
             if r132 = 0 then
              (prf_X_isAt σ x1 124 124).bind fun r134 =>
              if r134 = 0 then
               if (0 : Int32) = 40 then
                prf_X_scan_416 (prf_X_scan_13 n) σ x1 1 0
               else
                if (0 : Int32) = 41 then
                 prf_X_scan_416 (prf_X_scan_13 n) σ x1 1 0
                else
                 if (0 : Int32) = 123 then
                  prf_X_scan_416 (prf_X_scan_13 n) σ x1 1 0
                 else
                  if (0 : Int32) = 125 then
                   prf_X_scan_416 (prf_X_scan_13 n) σ x1 1 0
                  else
                   if (0 : Int32) = 91 then
                    prf_X_scan_416 (prf_X_scan_13 n) σ x1 1 0
                   else
                    if (0 : Int32) = 93 then
                     prf_X_scan_416 (prf_X_scan_13 n) σ x1 1 0
                    else
                     if (0 : Int32) = 44 then
                      prf_X_scan_416 (prf_X_scan_13 n) σ x1 1 0
                     else
                      if (0 : Int32) = 59 then
                       prf_X_scan_416 (prf_X_scan_13 n) σ x1 1 0
                      else
                       if (0 : Int32) = 61 then
                        prf_X_scan_416 (prf_X_scan_13 n) σ x1 1 0
                       else
                        if (0 : Int32) = 43 then
                         prf_X_scan_416 (prf_X_scan_13 n) σ x1 1 0
                        else
                         if (0 : Int32) = 45 then
                          prf_X_scan_416 (prf_X_scan_13 n) σ x1 1 0
                         else
                          if (0 : Int32) = 42 then
                           prf_X_scan_416 (prf_X_scan_13 n) σ x1 1 0
                          else
                           if (0 : Int32) = 47 then
                            prf_X_scan_416 (prf_X_scan_13 n) σ x1 1 0
                           else
                            if (0 : Int32) = 37 then
                             prf_X_scan_416 (prf_X_scan_13 n) σ x1 1 0
                            else
                             if (0 : Int32) = 60 then
                              prf_X_scan_416 (prf_X_scan_13 n) σ x1 1 0
                             else
                              if (0 : Int32) = 62 then
                               prf_X_scan_416 (prf_X_scan_13 n) σ x1 1 0
                              else
                               if (0 : Int32) = 33 then
                                prf_X_scan_416 (prf_X_scan_13 n) σ x1 1 0
                               else
                                prf_X_scan_420 (prf_X_scan_13 n) σ x1 1 1
              else
               prf_X_scan_222 (prf_X_scan_13 n) σ x1 0
             else
              prf_X_scan_222 (prf_X_scan_13 n) σ x1 0
            else
             prf_X_scan_222 (prf_X_scan_13 n) σ x1 0
           else
            prf_X_scan_222 (prf_X_scan_13 n) σ x1 0
          else
           prf_X_scan_222 (prf_X_scan_13 n) σ x1 0
         else
          prf_X_scan_222 (prf_X_scan_13 n) σ x1 0
        else
         prf_X_scan_101 (prf_X_scan_13 n) pr_FU σ x1 1
       else
        prf_X_scan_66 (prf_X_scan_13 n) pr_FU σ x1 1
      else
       prf_X_scan_420 (prf_X_scan_13 n) σ x1 0 0
     else
      pr_ck x1 8000 <|
      if x1 < (σ.1 0 3) then
       (prf_X_isLetter σ ((σ.2.1 2) x1.toNatClampNeg)).bind fun r155 =>
       if r155 = 0 then
        (prf_X_isDigit σ ((σ.2.1 2) x1.toNatClampNeg)).bind fun r157 =>
        if r157 = 0 then
         (prf_X_isAt σ x1 60 61).bind fun r159 =>
         if r159 = 0 then
          (prf_X_isAt σ x1 62 61).bind fun r161 =>
          if r161 = 0 then
           (prf_X_isAt σ x1 61 61).bind fun r163 =>
           if r163 = 0 then
            (prf_X_isAt σ x1 33 61).bind fun r165 =>
            if r165 = 0 then
             (prf_X_isAt σ x1 38 38).bind fun r167 =>
             if r167 = 0 then
              (prf_X_isAt σ x1 124 124).bind fun r169 =>
              if r169 = 0 then
               if ((σ.2.1 2) x1.toNatClampNeg) = 40 then
                prf_X_scan_416 (prf_X_scan_13 n) σ x1 1 ((σ.2.1 2) x1.toNatClampNeg)
               else
                if ((σ.2.1 2) x1.toNatClampNeg) = 41 then
                 prf_X_scan_416 (prf_X_scan_13 n) σ x1 1 ((σ.2.1 2) x1.toNatClampNeg)
                else
                 if ((σ.2.1 2) x1.toNatClampNeg) = 123 then
                  prf_X_scan_416 (prf_X_scan_13 n) σ x1 1 ((σ.2.1 2) x1.toNatClampNeg)
                 else
                  if ((σ.2.1 2) x1.toNatClampNeg) = 125 then
                   prf_X_scan_416 (prf_X_scan_13 n) σ x1 1 ((σ.2.1 2) x1.toNatClampNeg)
                  else
                   if ((σ.2.1 2) x1.toNatClampNeg) = 91 then
                    prf_X_scan_416 (prf_X_scan_13 n) σ x1 1 ((σ.2.1 2) x1.toNatClampNeg)
                   else
                    if ((σ.2.1 2) x1.toNatClampNeg) = 93 then
                     prf_X_scan_416 (prf_X_scan_13 n) σ x1 1 ((σ.2.1 2) x1.toNatClampNeg)
                    else
                     if ((σ.2.1 2) x1.toNatClampNeg) = 44 then
                      prf_X_scan_416 (prf_X_scan_13 n) σ x1 1 ((σ.2.1 2) x1.toNatClampNeg)
                     else
                      if ((σ.2.1 2) x1.toNatClampNeg) = 59 then
                       prf_X_scan_416 (prf_X_scan_13 n) σ x1 1 ((σ.2.1 2) x1.toNatClampNeg)
                      else
                       if ((σ.2.1 2) x1.toNatClampNeg) = 61 then
                        prf_X_scan_416 (prf_X_scan_13 n) σ x1 1 ((σ.2.1 2) x1.toNatClampNeg)
                       else
                        if ((σ.2.1 2) x1.toNatClampNeg) = 43 then
                         prf_X_scan_416 (prf_X_scan_13 n) σ x1 1 ((σ.2.1 2) x1.toNatClampNeg)
                        else
                         if ((σ.2.1 2) x1.toNatClampNeg) = 45 then
                          prf_X_scan_416 (prf_X_scan_13 n) σ x1 1 ((σ.2.1 2) x1.toNatClampNeg)
                         else
                          if ((σ.2.1 2) x1.toNatClampNeg) = 42 then
                           prf_X_scan_416 (prf_X_scan_13 n) σ x1 1 ((σ.2.1 2) x1.toNatClampNeg)
                          else
                           if ((σ.2.1 2) x1.toNatClampNeg) = 47 then
                            prf_X_scan_416 (prf_X_scan_13 n) σ x1 1 ((σ.2.1 2) x1.toNatClampNeg)
                           else
                            if ((σ.2.1 2) x1.toNatClampNeg) = 37 then
                             prf_X_scan_416 (prf_X_scan_13 n) σ x1 1 ((σ.2.1 2) x1.toNatClampNeg)
                            else
                             if ((σ.2.1 2) x1.toNatClampNeg) = 60 then
                              prf_X_scan_416 (prf_X_scan_13 n) σ x1 1 ((σ.2.1 2) x1.toNatClampNeg)
                             else
                              if ((σ.2.1 2) x1.toNatClampNeg) = 62 then
                               prf_X_scan_416 (prf_X_scan_13 n) σ x1 1 ((σ.2.1 2) x1.toNatClampNeg)
                              else
                               if ((σ.2.1 2) x1.toNatClampNeg) = 33 then
                                prf_X_scan_416 (prf_X_scan_13 n) σ x1 1 ((σ.2.1 2) x1.toNatClampNeg)
                               else
                                prf_X_scan_420 (prf_X_scan_13 n) σ x1 1 1
              else
               prf_X_scan_222 (prf_X_scan_13 n) σ x1 ((σ.2.1 2) x1.toNatClampNeg)
             else
              prf_X_scan_222 (prf_X_scan_13 n) σ x1 ((σ.2.1 2) x1.toNatClampNeg)
            else
             prf_X_scan_222 (prf_X_scan_13 n) σ x1 ((σ.2.1 2) x1.toNatClampNeg)
           else
            prf_X_scan_222 (prf_X_scan_13 n) σ x1 ((σ.2.1 2) x1.toNatClampNeg)
          else
           prf_X_scan_222 (prf_X_scan_13 n) σ x1 ((σ.2.1 2) x1.toNatClampNeg)
         else
          prf_X_scan_222 (prf_X_scan_13 n) σ x1 ((σ.2.1 2) x1.toNatClampNeg)
        else
         prf_X_scan_101 (prf_X_scan_13 n) pr_FU σ x1 1
       else
        prf_X_scan_66 (prf_X_scan_13 n) pr_FU σ x1 1
      else
       prf_X_scan_420 (prf_X_scan_13 n) σ x1 0 0
def prf_X_scan (σ : pr_St)  : Option pr_St :=
  (prf_X_behindBlanks (pr_sI σ 0 7 0) 0).bind fun r188 =>
  prf_X_scan_13 pr_FU (pr_sI σ 0 7 0) r188 1
def prf_X_look (σ : pr_St)  : Option Int32 :=
  if (σ.1 0 9) = 0 then
   pr_ck (σ.1 0 8) 8002 <|
   some ((σ.2.1 3) (σ.1 0 8).toNatClampNeg)
  else
   some 1
def prf_X_need (σ : pr_St) (x1 : Int32) : Option pr_St :=
  if x1 = 0 then
   if (σ.1 0 9) = 0 then
    pr_ck (σ.1 0 8) 8002 <|
    some (pr_sI (pr_sI σ 0 9 1) 0 10 ((σ.2.1 4) (σ.1 0 8).toNatClampNeg))
   else
    some σ
  else
   some σ
def prf_X_take (σ : pr_St) (x1 : Int32) : Option pr_St :=
  (prf_X_look σ).bind fun r7 =>
  if r7 = x1 then
   (prf_X_need σ 1).bind fun r11 =>
   if (r11.1 0 9) = 0 then
    some (pr_sI r11 0 8 ((r11.1 0 8) + 1))
   else
    some (pr_sI r11 0 8 (r11.1 0 8))
  else
   (prf_X_need σ 0).bind fun r9 =>
   if (r9.1 0 9) = 0 then
    some (pr_sI r9 0 8 ((r9.1 0 8) + 1))
   else
    some (pr_sI r9 0 8 (r9.1 0 8))
def prf_X_draft (σ : pr_St) (x1 : Int32) (x2 : Int32) (x3 : Int32) : Option (Int32 × pr_St) :=
  pr_ck (σ.1 0 17) 26000 <|
  pr_ck (σ.1 0 17) 26000 <|
  pr_ck (σ.1 0 17) 26000 <|
  pr_ck (σ.1 0 17) 26000 <|
  pr_ck (σ.1 0 17) 26000 <|
  pr_ck (σ.1 0 17) 26000 <|
  some ((((σ.1 0 17) + 1) - 1), (pr_sI (pr_sA (pr_sA (pr_sA (pr_sA (pr_sA (pr_sA σ 6 (upd (σ.2.1 6) (σ.1 0 17).toNatClampNeg x1)) 7 (upd (σ.2.1 7) (σ.1 0 17).toNatClampNeg x2)) 8 (upd (σ.2.1 8) (σ.1 0 17).toNatClampNeg x3)) 9 (upd (σ.2.1 9) (σ.1 0 17).toNatClampNeg (-1))) 10 (upd (σ.2.1 10) (σ.1 0 17).toNatClampNeg (-1))) 11 (upd (σ.2.1 11) (σ.1 0 17).toNatClampNeg (-1))) 0 17 ((σ.1 0 17) + 1)))
def prf_X_join (σ : pr_St) (x1 : Int32) (x2 : Int32) : Option pr_St :=
  if x2 = (-1) then
   some σ
  else
   pr_ck x1 26000 <|
   if ((σ.2.1 9) x1.toNatClampNeg) = (-1) then
    pr_ck x1 26000 <|
    pr_ck x1 26000 <|
    some (pr_sA (pr_sA σ 9 (upd (σ.2.1 9) x1.toNatClampNeg x2)) 10 (upd (σ.2.1 10) x1.toNatClampNeg x2))
   else
    pr_ck x1 26000 <|
    pr_ck ((σ.2.1 10) x1.toNatClampNeg) 26000 <|
    pr_ck x1 26000 <|
    some (pr_sA (pr_sA σ 11 (upd (σ.2.1 11) ((σ.2.1 10) x1.toNatClampNeg).toNatClampNeg x2)) 10 (upd (σ.2.1 10) x1.toNatClampNeg x2))
def prf_X_name (σ : pr_St)  : Option (Int32 × pr_St) :=
  pr_ck (σ.1 0 8) 8002 <|
  (prf_X_draft σ 13 ((σ.2.1 4) (σ.1 0 8).toNatClampNeg) (σ.1 0 8)).bind fun r5 =>
  (prf_X_take r5.2 2).bind fun r6 =>
  some (r5.1, r6)
def prf_X_number_47 (fu : Nat) (σ : pr_St) (x2 : Int32) (x3 : Int32) (x4 : Int32) (x5 : Int32) : Option (Int32 × pr_St) := match fu with
  | 0 => none
  | n + 1 =>
    pr_ck (σ.1 0 8) 8002 <|
    if ((σ.2.1 5) (σ.1 0 8).toNatClampNeg) ≤ x5 then
     (prf_X_take σ 3).bind fun r18 =>
     (prf_X_draft r18 12 x2 (x3 * x4)).bind fun r19 =>
     some (r19.1, r19.2)
    else
     pr_ck (σ.1 0 8) 8002 <|
     pr_ck (((σ.2.1 4) (σ.1 0 8).toNatClampNeg) + x5) 8000 <|
     prf_X_number_47 n σ x2 x3 (((10 * x4) + ((σ.2.1 2) (((σ.2.1 4) (σ.1 0 8).toNatClampNeg) + x5).toNatClampNeg)) - 48) (x5 + 1)
def prf_X_number_33 (σ : pr_St) (x2 : Int32) (x3 : Int32) : Option (Int32 × pr_St) :=
  (prf_X_look σ).bind fun r22 =>
  if r22 = 3 then
   prf_X_number_47 pr_FU σ x2 x3 0 0
  else
   (prf_X_take σ 3).bind fun r24 =>
   (prf_X_draft r24 12 x2 (x3 * 0)).bind fun r25 =>
   some (r25.1, r25.2)
def prf_X_number (σ : pr_St) (x1 : Int32) : Option (Int32 × pr_St) :=
  pr_ck (σ.1 0 8) 8002 <|
  if x1 = 0 then
   prf_X_number_33 σ ((σ.2.1 4) (σ.1 0 8).toNatClampNeg) 1
  else
   (prf_X_look σ).bind fun r28 =>
   if r28 = 45 then
    (prf_X_take σ 45).bind fun r30 =>
    prf_X_number_33 r30 ((σ.2.1 4) (σ.1 0 8).toNatClampNeg) (-1)
   else
    prf_X_number_33 σ ((σ.2.1 4) (σ.1 0 8).toNatClampNeg) 1
def prf_X_deep (σ : pr_St) (x1 : Int32) : Option pr_St :=
  if 60 < x1 then
   (prf_X_need σ 0).bind fun r5 =>
   some r5
  else
   (prf_X_need σ 1).bind fun r6 =>
   some r6
def prf_X_term_82 (rc : pr_St → Int32 → Option (Int32 × pr_St)) (kk55 : pr_St → Int32 → Int32 → Option (Int32 × pr_St)) (σ : pr_St) (x1 : Int32) (x3 : Int32) : Option (Int32 × pr_St) :=
  (prf_X_look σ).bind fun r57 =>
  if r57 = 42 then
   pr_ck (σ.1 0 8) 8002 <|
   (prf_X_draft σ 21 ((σ.2.1 4) (σ.1 0 8).toNatClampNeg) 0).bind fun r82 =>
   (prf_X_look r82.2).bind fun r83 =>
   (prf_X_take r82.2 r83).bind fun r84 =>
   if (r84.1 0 9) = 0 then
    (rc r84 x1).bind fun r86 =>
    (prf_X_join r86.2 r82.1 r86.1).bind fun r87 =>
    (prf_X_join r87 x3 r82.1).bind fun r88 =>
    kk55 r88 x1 x3
   else
    (prf_X_join r84 r82.1 (-1)).bind fun r89 =>
    (prf_X_join r89 x3 r82.1).bind fun r90 =>
    kk55 r90 x1 x3
  else
   (prf_X_look σ).bind fun r59 =>
   if r59 = 47 then
    pr_ck (σ.1 0 8) 8002 <|
    (prf_X_draft σ 22 ((σ.2.1 4) (σ.1 0 8).toNatClampNeg) 0).bind fun r72 =>
    (prf_X_look r72.2).bind fun r73 =>
    (prf_X_take r72.2 r73).bind fun r74 =>
    if (r74.1 0 9) = 0 then
     (rc r74 x1).bind fun r76 =>
     (prf_X_join r76.2 r72.1 r76.1).bind fun r77 =>
     (prf_X_join r77 x3 r72.1).bind fun r78 =>
     kk55 r78 x1 x3
    else
     (prf_X_join r74 r72.1 (-1)).bind fun r79 =>
     (prf_X_join r79 x3 r72.1).bind fun r80 =>
     kk55 r80 x1 x3
   else
    pr_ck (σ.1 0 8) 8002 <|
    (prf_X_draft σ 23 ((σ.2.1 4) (σ.1 0 8).toNatClampNeg) 0).bind fun r62 =>
    (prf_X_look r62.2).bind fun r63 =>
    (prf_X_take r62.2 r63).bind fun r64 =>
    if (r64.1 0 9) = 0 then
     (rc r64 x1).bind fun r66 =>
     (prf_X_join r66.2 r62.1 r66.1).bind fun r67 =>
     (prf_X_join r67 x3 r62.1).bind fun r68 =>
     kk55 r68 x1 x3
    else
     (prf_X_join r64 r62.1 (-1)).bind fun r69 =>
     (prf_X_join r69 x3 r62.1).bind fun r70 =>
     kk55 r70 x1 x3
def prf_X_term_55 (rc : pr_St → Int32 → Option (Int32 × pr_St)) (fu : Nat) (σ : pr_St) (x1 : Int32) (x3 : Int32) : Option (Int32 × pr_St) := match fu with
  | 0 => none
  | n + 1 =>
    (prf_X_look σ).bind fun r91 =>
    if r91 = 42 then
     prf_X_term_82 rc (prf_X_term_55 rc n) σ x1 x3
    else
     (prf_X_look σ).bind fun r93 =>
     if r93 = 47 then
      prf_X_term_82 rc (prf_X_term_55 rc n) σ x1 x3
     else
      (prf_X_look σ).bind fun r95 =>
      if r95 = 37 then
       prf_X_term_82 rc (prf_X_term_55 rc n) σ x1 x3
      else
       some (x3, σ)
def prf_X_term (rc : pr_St → Int32 → Option (Int32 × pr_St)) (σ : pr_St) (x1 : Int32) : Option (Int32 × pr_St) :=
  (rc σ x1).bind fun r97 =>
  (prf_X_look r97.2).bind fun r98 =>
  if r98 = 42 then
   pr_ck r97.1 26000 <|
   (prf_X_draft r97.2 20 ((r97.2.2.1 7) r97.1.toNatClampNeg) 0).bind fun r101 =>
   (prf_X_join r101.2 r101.1 r97.1).bind fun r102 =>
   prf_X_term_55 rc pr_FU r102 x1 r101.1
  else
   (prf_X_look r97.2).bind fun r103 =>
   if r103 = 47 then
    pr_ck r97.1 26000 <|
    (prf_X_draft r97.2 20 ((r97.2.2.1 7) r97.1.toNatClampNeg) 0).bind fun r106 =>
    (prf_X_join r106.2 r106.1 r97.1).bind fun r107 =>
    prf_X_term_55 rc pr_FU r107 x1 r106.1
   else
    (prf_X_look r97.2).bind fun r108 =>
    if r108 = 37 then
     pr_ck r97.1 26000 <|
     (prf_X_draft r97.2 20 ((r97.2.2.1 7) r97.1.toNatClampNeg) 0).bind fun r111 =>
     (prf_X_join r111.2 r111.1 r97.1).bind fun r112 =>
     prf_X_term_55 rc pr_FU r112 x1 r111.1
    else
     some (r97.1, r97.2)
def prf_X_sum_80 (rc : pr_St → Int32 → Option (Int32 × pr_St)) (kk62 : pr_St → Int32 → Int32 → Option (Int32 × pr_St)) (σ : pr_St) (x1 : Int32) (x3 : Int32) : Option (Int32 × pr_St) :=
  (prf_X_look σ).bind fun r50 =>
  if r50 = 43 then
   pr_ck (σ.1 0 8) 8002 <|
   (prf_X_draft σ 18 ((σ.2.1 4) (σ.1 0 8).toNatClampNeg) 0).bind fun r63 =>
   (prf_X_look r63.2).bind fun r64 =>
   (prf_X_take r63.2 r64).bind fun r65 =>
   if (r65.1 0 9) = 0 then
    (prf_X_term rc r65 x1).bind fun r67 =>
    (prf_X_join r67.2 r63.1 r67.1).bind fun r68 =>
    (prf_X_join r68 x3 r63.1).bind fun r69 =>
    kk62 r69 x1 x3
   else
    (prf_X_join r65 r63.1 (-1)).bind fun r70 =>
    (prf_X_join r70 x3 r63.1).bind fun r71 =>
    kk62 r71 x1 x3
  else
   pr_ck (σ.1 0 8) 8002 <|
   (prf_X_draft σ 19 ((σ.2.1 4) (σ.1 0 8).toNatClampNeg) 0).bind fun r53 =>
   (prf_X_look r53.2).bind fun r54 =>
   (prf_X_take r53.2 r54).bind fun r55 =>
   if (r55.1 0 9) = 0 then
    (prf_X_term rc r55 x1).bind fun r57 =>
    (prf_X_join r57.2 r53.1 r57.1).bind fun r58 =>
    (prf_X_join r58 x3 r53.1).bind fun r59 =>
    kk62 r59 x1 x3
   else
    (prf_X_join r55 r53.1 (-1)).bind fun r60 =>
    (prf_X_join r60 x3 r53.1).bind fun r61 =>
    kk62 r61 x1 x3
def prf_X_sum_62 (rc : pr_St → Int32 → Option (Int32 × pr_St)) (fu : Nat) (σ : pr_St) (x1 : Int32) (x3 : Int32) : Option (Int32 × pr_St) := match fu with
  | 0 => none
  | n + 1 =>
    (prf_X_look σ).bind fun r72 =>
    if r72 = 43 then
     prf_X_sum_80 rc (prf_X_sum_62 rc n) σ x1 x3
    else
     (prf_X_look σ).bind fun r74 =>
     if r74 = 45 then
      prf_X_sum_80 rc (prf_X_sum_62 rc n) σ x1 x3
     else
      some (x3, σ)
def prf_X_sum (rc : pr_St → Int32 → Option (Int32 × pr_St)) (σ : pr_St) (x1 : Int32) : Option (Int32 × pr_St) :=
  (prf_X_deep σ x1).bind fun r76 =>
  if (r76.1 0 9) = 0 then
   (prf_X_term rc r76 x1).bind fun r78 =>
   (prf_X_look r78.2).bind fun r79 =>
   if r79 = 43 then
    pr_ck r78.1 26000 <|
    (prf_X_draft r78.2 17 ((r78.2.2.1 7) r78.1.toNatClampNeg) 0).bind fun r82 =>
    (prf_X_join r82.2 r82.1 r78.1).bind fun r83 =>
    prf_X_sum_62 rc pr_FU r83 x1 r82.1
   else
    (prf_X_look r78.2).bind fun r84 =>
    if r84 = 45 then
     pr_ck r78.1 26000 <|
     (prf_X_draft r78.2 17 ((r78.2.2.1 7) r78.1.toNatClampNeg) 0).bind fun r87 =>
     (prf_X_join r87.2 r87.1 r78.1).bind fun r88 =>
     prf_X_sum_62 rc pr_FU r88 x1 r87.1
    else
     some (r78.1, r78.2)
  else
   (prf_X_look r76).bind fun r89 =>
   if r89 = 43 then
    pr_ck (-1) 26000 <|
    (prf_X_draft r76 17 ((r76.2.1 7) ((-1) : Int32).toNatClampNeg) 0).bind fun r92 =>
    (prf_X_join r92.2 r92.1 (-1)).bind fun r93 =>
    prf_X_sum_62 rc pr_FU r93 x1 r92.1
   else
    (prf_X_look r76).bind fun r94 =>
    if r94 = 45 then
     pr_ck (-1) 26000 <|
     (prf_X_draft r76 17 ((r76.2.1 7) ((-1) : Int32).toNatClampNeg) 0).bind fun r97 =>
     (prf_X_join r97.2 r97.1 (-1)).bind fun r98 =>
     prf_X_sum_62 rc pr_FU r98 x1 r97.1
    else
     some ((-1), r76)
def prf_X_factor (rc : pr_St → Int32 → Option (Int32 × pr_St)) (σ : pr_St) (x1 : Int32) : Option (Int32 × pr_St) :=
  (prf_X_look σ).bind fun r45 =>
  if r45 = 3 then
   (prf_X_number σ 0).bind fun r88 =>
   some (r88.1, r88.2)
  else
   if r45 = 2 then
    pr_ck (σ.1 0 8) 8002 <|
    (prf_X_name σ).bind fun r76 =>
    (prf_X_look r76.2).bind fun r77 =>
    if r77 = 91 then
     (prf_X_draft r76.2 14 ((σ.2.1 4) (σ.1 0 8).toNatClampNeg) 0).bind fun r79 =>
     (prf_X_join r79.2 r79.1 r76.1).bind fun r80 =>
     (prf_X_take r80 91).bind fun r81 =>
     if (r81.1 0 9) = 0 then
      (prf_X_sum rc r81 (x1 + 1)).bind fun r83 =>
      (prf_X_join r83.2 r79.1 r83.1).bind fun r84 =>
      (prf_X_take r84 93).bind fun r85 =>
      some (r79.1, r85)
     else
      (prf_X_join r81 r79.1 (-1)).bind fun r86 =>
      (prf_X_take r86 93).bind fun r87 =>
      some (r79.1, r87)
    else
     some (r76.1, r76.2)
   else
    if r45 = 45 then
     pr_ck (σ.1 0 8) 8002 <|
     (prf_X_draft σ 15 ((σ.2.1 4) (σ.1 0 8).toNatClampNeg) 0).bind fun r68 =>
     (prf_X_take r68.2 45).bind fun r69 =>
     (prf_X_deep r69 (x1 + 1)).bind fun r70 =>
     if (r70.1 0 9) = 0 then
      (rc r70 (x1 + 1)).bind fun r72 =>
      (prf_X_join r72.2 r68.1 r72.1).bind fun r73 =>
      some (r68.1, r73)
     else
      (prf_X_join r70 r68.1 (-1)).bind fun r74 =>
      some (r68.1, r74)
    else
     if r45 = 307 then
      pr_ck (σ.1 0 8) 8002 <|
      (prf_X_draft σ 16 ((σ.2.1 4) (σ.1 0 8).toNatClampNeg) 0).bind fun r56 =>
      (prf_X_take r56.2 307).bind fun r57 =>
      (prf_X_look r57).bind fun r58 =>
      if r58 = 40 then
       (prf_X_take r57 40).bind fun r60 =>
       (prf_X_number r60 1).bind fun r61 =>
       (prf_X_join r61.2 r56.1 r61.1).bind fun r62 =>
       (prf_X_take r62 44).bind fun r63 =>
       (prf_X_number r63 1).bind fun r64 =>
       (prf_X_join r64.2 r56.1 r64.1).bind fun r65 =>
       (prf_X_take r65 41).bind fun r66 =>
       some (r56.1, r66)
      else
       some (r56.1, r57)
     else
      (prf_X_take σ 40).bind fun r50 =>
      if (r50.1 0 9) = 0 then
       (prf_X_sum rc r50 (x1 + 1)).bind fun r52 =>
       (prf_X_take r52.2 41).bind fun r53 =>
       some (r52.1, r53)
      else
       (prf_X_take r50 41).bind fun r54 =>
       some ((-1), r54)
def prF_X_factor : Nat → pr_St → Int32 → Option (Int32 × pr_St)
  | 0 => fun _ _ => none
  | n + 1 => fun σ x1 => prf_X_factor (prF_X_factor n) σ x1

def prf_X_cond (rc : Nat → pr_St → Int32 → Int32 → Option (Int32 × pr_St)) (σ : pr_St) (x1 : Int32) : Option (Int32 × pr_St) :=
  (prf_X_deep σ x1).bind fun r4 =>
  if (r4.1 0 9) = 0 then
   (rc 1 r4 x1 24).bind fun r6 =>
   some (r6.1, r6.2)
  else
   some ((-1), r4)
def prf_X_test (rc : Nat → pr_St → Int32 → Int32 → Option (Int32 × pr_St)) (σ : pr_St) (x1 : Int32) : Option (Int32 × pr_St) :=
  (prf_X_look σ).bind fun r145 =>
  if r145 = 33 then
   pr_ck (σ.1 0 8) 8002 <|
   (prf_X_draft σ 26 ((σ.2.1 4) (σ.1 0 8).toNatClampNeg) 0).bind fun r282 =>
   (prf_X_take r282.2 33).bind fun r283 =>
   (prf_X_deep r283 (x1 + 1)).bind fun r284 =>
   if (r284.1 0 9) = 0 then
    (rc 0 r284 (x1 + 1) 0).bind fun r286 =>
    (prf_X_join r286.2 r282.1 r286.1).bind fun r287 =>
    some (r282.1, r287)
   else
    (prf_X_join r284 r282.1 (-1)).bind fun r288 =>
    some (r282.1, r288)
  else
   (prf_X_look σ).bind fun r147 =>
   if r147 = 91 then
    (prf_X_take σ 91).bind fun r276 =>
    if (r276.1 0 9) = 0 then
     (prf_X_cond rc r276 (x1 + 1)).bind fun r278 =>
     (prf_X_take r278.2 93).bind fun r279 =>
     some (r278.1, r279)
    else
     (prf_X_take r276 93).bind fun r280 =>
     some ((-1), r280)
   else
    (prf_X_sum (prF_X_factor 70) σ (x1 + 1)).bind fun r149 =>
    (prf_X_look r149.2).bind fun r150 =>
    if r150 = 60 then
     if (27 : Int32) ≤ 0 then
      (prf_X_need r149.2 0).bind fun r260 =>
      if (r260.1 0 9) = 0 then
       pr_ck r149.1 26000 <|
       (prf_X_draft r260 27 ((r260.2.1 7) r149.1.toNatClampNeg) 0).bind fun r263 =>
       (prf_X_take r263.2 r150).bind fun r264 =>
       (prf_X_join r264 r263.1 r149.1).bind fun r265 =>
       (prf_X_sum (prF_X_factor 70) r265 (x1 + 1)).bind fun r266 =>
       (prf_X_join r266.2 r263.1 r266.1).bind fun r267 =>
       some (r263.1, r267)
      else
       some ((-1), r260)
     else
      (prf_X_need r149.2 1).bind fun r268 =>
      if (r268.1 0 9) = 0 then
       pr_ck r149.1 26000 <|
       (prf_X_draft r268 27 ((r268.2.1 7) r149.1.toNatClampNeg) 0).bind fun r271 =>
       (prf_X_take r271.2 r150).bind fun r272 =>
       (prf_X_join r272 r271.1 r149.1).bind fun r273 =>
       (prf_X_sum (prF_X_factor 70) r273 (x1 + 1)).bind fun r274 =>
       (prf_X_join r274.2 r271.1 r274.1).bind fun r275 =>
       some (r271.1, r275)
      else
       some ((-1), r268)
    else
     if r150 = 256 then
      if (28 : Int32) ≤ 0 then
       (prf_X_need r149.2 0).bind fun r243 =>
       if (r243.1 0 9) = 0 then
        pr_ck r149.1 26000 <|
        (prf_X_draft r243 28 ((r243.2.1 7) r149.1.toNatClampNeg) 0).bind fun r246 =>
        (prf_X_take r246.2 r150).bind fun r247 =>
        (prf_X_join r247 r246.1 r149.1).bind fun r248 =>
        (prf_X_sum (prF_X_factor 70) r248 (x1 + 1)).bind fun r249 =>
        (prf_X_join r249.2 r246.1 r249.1).bind fun r250 =>
        some (r246.1, r250)
       else
        some ((-1), r243)
      else
       (prf_X_need r149.2 1).bind fun r251 =>
       if (r251.1 0 9) = 0 then
        pr_ck r149.1 26000 <|
        (prf_X_draft r251 28 ((r251.2.1 7) r149.1.toNatClampNeg) 0).bind fun r254 =>
        (prf_X_take r254.2 r150).bind fun r255 =>
        (prf_X_join r255 r254.1 r149.1).bind fun r256 =>
        (prf_X_sum (prF_X_factor 70) r256 (x1 + 1)).bind fun r257 =>
        (prf_X_join r257.2 r254.1 r257.1).bind fun r258 =>
        some (r254.1, r258)
       else
        some ((-1), r251)
     else
      if r150 = 62 then
       if (29 : Int32) ≤ 0 then
        (prf_X_need r149.2 0).bind fun r226 =>
        if (r226.1 0 9) = 0 then
         pr_ck r149.1 26000 <|
         (prf_X_draft r226 29 ((r226.2.1 7) r149.1.toNatClampNeg) 0).bind fun r229 =>
         (prf_X_take r229.2 r150).bind fun r230 =>
         (prf_X_join r230 r229.1 r149.1).bind fun r231 =>
         (prf_X_sum (prF_X_factor 70) r231 (x1 + 1)).bind fun r232 =>
         (prf_X_join r232.2 r229.1 r232.1).bind fun r233 =>
         some (r229.1, r233)
        else
         some ((-1), r226)
       else
        (prf_X_need r149.2 1).bind fun r234 =>
        if (r234.1 0 9) = 0 then
         pr_ck r149.1 26000 <|
         (prf_X_draft r234 29 ((r234.2.1 7) r149.1.toNatClampNeg) 0).bind fun r237 =>
         (prf_X_take r237.2 r150).bind fun r238 =>
         (prf_X_join r238 r237.1 r149.1).bind fun r239 =>
         (prf_X_sum (prF_X_factor 70) r239 (x1 + 1)).bind fun r240 =>
         (prf_X_join r240.2 r237.1 r240.1).bind fun r241 =>
         some (r237.1, r241)
        else
         some ((-1), r234)
      else
       if r150 = 257 then
        if (30 : Int32) ≤ 0 then
         (prf_X_need r149.2 0).bind fun r209 =>
         if (r209.1 0 9) = 0 then
          pr_ck r149.1 26000 <|
          (prf_X_draft r209 30 ((r209.2.1 7) r149.1.toNatClampNeg) 0).bind fun r212 =>
          (prf_X_take r212.2 r150).bind fun r213 =>
          (prf_X_join r213 r212.1 r149.1).bind fun r214 =>
          (prf_X_sum (prF_X_factor 70) r214 (x1 + 1)).bind fun r215 =>
          (prf_X_join r215.2 r212.1 r215.1).bind fun r216 =>
          some (r212.1, r216)
         else
          some ((-1), r209)
        else
         (prf_X_need r149.2 1).bind fun r217 =>
         if (r217.1 0 9) = 0 then
          pr_ck r149.1 26000 <|
          (prf_X_draft r217 30 ((r217.2.1 7) r149.1.toNatClampNeg) 0).bind fun r220 =>
          (prf_X_take r220.2 r150).bind fun r221 =>
          (prf_X_join r221 r220.1 r149.1).bind fun r222 =>
          (prf_X_sum (prF_X_factor 70) r222 (x1 + 1)).bind fun r223 =>
          (prf_X_join r223.2 r220.1 r223.1).bind fun r224 =>
          some (r220.1, r224)
         else
          some ((-1), r217)
       else
        if r150 = 258 then
         if (31 : Int32) ≤ 0 then
          (prf_X_need r149.2 0).bind fun r192 =>
          if (r192.1 0 9) = 0 then
           pr_ck r149.1 26000 <|
           (prf_X_draft r192 31 ((r192.2.1 7) r149.1.toNatClampNeg) 0).bind fun r195 =>
           (prf_X_take r195.2 r150).bind fun r196 =>
           (prf_X_join r196 r195.1 r149.1).bind fun r197 =>
           (prf_X_sum (prF_X_factor 70) r197 (x1 + 1)).bind fun r198 =>
           (prf_X_join r198.2 r195.1 r198.1).bind fun r199 =>
           some (r195.1, r199)
          else
           some ((-1), r192)
         else
          (prf_X_need r149.2 1).bind fun r200 =>
          if (r200.1 0 9) = 0 then
           pr_ck r149.1 26000 <|
           (prf_X_draft r200 31 ((r200.2.1 7) r149.1.toNatClampNeg) 0).bind fun r203 =>
           (prf_X_take r203.2 r150).bind fun r204 =>
           (prf_X_join r204 r203.1 r149.1).bind fun r205 =>
           (prf_X_sum (prF_X_factor 70) r205 (x1 + 1)).bind fun r206 =>
           (prf_X_join r206.2 r203.1 r206.1).bind fun r207 =>
           some (r203.1, r207)
          else
           some ((-1), r200)
        else
         if r150 = 259 then
          if (32 : Int32) ≤ 0 then
           (prf_X_need r149.2 0).bind fun r175 =>
           if (r175.1 0 9) = 0 then
            pr_ck r149.1 26000 <|
            (prf_X_draft r175 32 ((r175.2.1 7) r149.1.toNatClampNeg) 0).bind fun r178 =>
            (prf_X_take r178.2 r150).bind fun r179 =>
            (prf_X_join r179 r178.1 r149.1).bind fun r180 =>
            (prf_X_sum (prF_X_factor 70) r180 (x1 + 1)).bind fun r181 =>
            (prf_X_join r181.2 r178.1 r181.1).bind fun r182 =>
            some (r178.1, r182)
           else
            some ((-1), r175)
          else
           (prf_X_need r149.2 1).bind fun r183 =>
           if (r183.1 0 9) = 0 then
            pr_ck r149.1 26000 <|
            (prf_X_draft r183 32 ((r183.2.1 7) r149.1.toNatClampNeg) 0).bind fun r186 =>
            (prf_X_take r186.2 r150).bind fun r187 =>
            (prf_X_join r187 r186.1 r149.1).bind fun r188 =>
            (prf_X_sum (prF_X_factor 70) r188 (x1 + 1)).bind fun r189 =>
            (prf_X_join r189.2 r186.1 r189.1).bind fun r190 =>
            some (r186.1, r190)
           else
            some ((-1), r183)
         else
          if (0 : Int32) ≤ 0 then
           (prf_X_need r149.2 0).bind fun r158 =>
           if (r158.1 0 9) = 0 then
            pr_ck r149.1 26000 <|
            (prf_X_draft r158 0 ((r158.2.1 7) r149.1.toNatClampNeg) 0).bind fun r161 =>
            (prf_X_take r161.2 r150).bind fun r162 =>
            (prf_X_join r162 r161.1 r149.1).bind fun r163 =>
            (prf_X_sum (prF_X_factor 70) r163 (x1 + 1)).bind fun r164 =>
            (prf_X_join r164.2 r161.1 r164.1).bind fun r165 =>
            some (r161.1, r165)
           else
            some ((-1), r158)
          else
           (prf_X_need r149.2 1).bind fun r166 =>
           if (r166.1 0 9) = 0 then
            pr_ck r149.1 26000 <|
            (prf_X_draft r166 0 ((r166.2.1 7) r149.1.toNatClampNeg) 0).bind fun r169 =>
            (prf_X_take r169.2 r150).bind fun r170 =>
            (prf_X_join r170 r169.1 r149.1).bind fun r171 =>
            (prf_X_sum (prF_X_factor 70) r171 (x1 + 1)).bind fun r172 =>
            (prf_X_join r172.2 r169.1 r172.1).bind fun r173 =>
            some (r169.1, r173)
           else
            some ((-1), r166)
def prf_X_tests_73 (rc : Nat → pr_St → Int32 → Int32 → Option (Int32 × pr_St)) (fu : Nat) (σ : pr_St) (x1 : Int32) (x2 : Int32) (x3 : Int32) (x5 : Int32) : Option (Int32 × pr_St) := match fu with
  | 0 => none
  | n + 1 =>
    (prf_X_look σ).bind fun r38 =>
    if r38 = x3 then
     (prf_X_take σ x3).bind fun r40 =>
     if (r40.1 0 9) = 0 then
      if x2 = 24 then
       (rc 1 r40 x1 25).bind fun r45 =>
       (prf_X_join r45.2 x5 r45.1).bind fun r46 =>
       prf_X_tests_73 rc n r46 x1 x2 x3 x5
      else
       (rc 0 r40 x1 0).bind fun r43 =>
       (prf_X_join r43.2 x5 r43.1).bind fun r44 =>
       prf_X_tests_73 rc n r44 x1 x2 x3 x5
     else
      (prf_X_join r40 x5 (-1)).bind fun r47 =>
      prf_X_tests_73 rc n r47 x1 x2 x3 x5
    else
     some (x5, σ)
def prf_X_tests (rc : Nat → pr_St → Int32 → Int32 → Option (Int32 × pr_St)) (σ : pr_St) (x1 : Int32) (x2 : Int32) : Option (Int32 × pr_St) :=
  if x2 = 24 then
   if x2 = 24 then
    (rc 1 σ x1 25).bind fun r69 =>
    (prf_X_look r69.2).bind fun r70 =>
    if r70 = 261 then
     pr_ck r69.1 26000 <|
     (prf_X_draft r69.2 x2 ((r69.2.2.1 7) r69.1.toNatClampNeg) 0).bind fun r73 =>
     (prf_X_join r73.2 r73.1 r69.1).bind fun r74 =>
     prf_X_tests_73 rc pr_FU r74 x1 x2 261 r73.1
    else
     some (r69.1, r69.2)
   else
    (rc 0 σ x1 0).bind fun r63 =>
    (prf_X_look r63.2).bind fun r64 =>
    if r64 = 261 then
     pr_ck r63.1 26000 <|
     (prf_X_draft r63.2 x2 ((r63.2.2.1 7) r63.1.toNatClampNeg) 0).bind fun r67 =>
     (prf_X_join r67.2 r67.1 r63.1).bind fun r68 =>
     prf_X_tests_73 rc pr_FU r68 x1 x2 261 r67.1
    else
     some (r63.1, r63.2)
  else
   if x2 = 24 then
    (rc 1 σ x1 25).bind fun r56 =>
    (prf_X_look r56.2).bind fun r57 =>
    if r57 = 260 then
     pr_ck r56.1 26000 <|
     (prf_X_draft r56.2 x2 ((r56.2.2.1 7) r56.1.toNatClampNeg) 0).bind fun r60 =>
     (prf_X_join r60.2 r60.1 r56.1).bind fun r61 =>
     prf_X_tests_73 rc pr_FU r61 x1 x2 260 r60.1
    else
     some (r56.1, r56.2)
   else
    (rc 0 σ x1 0).bind fun r50 =>
    (prf_X_look r50.2).bind fun r51 =>
    if r51 = 260 then
     pr_ck r50.1 26000 <|
     (prf_X_draft r50.2 x2 ((r50.2.2.1 7) r50.1.toNatClampNeg) 0).bind fun r54 =>
     (prf_X_join r54.2 r54.1 r50.1).bind fun r55 =>
     prf_X_tests_73 rc pr_FU r55 x1 x2 260 r54.1
    else
     some (r50.1, r50.2)
def prF_X_test : Nat → Nat → pr_St → Int32 → Int32 → Option (Int32 × pr_St)
  | 0 => fun _ _ _ _ => none
  | n + 1 => fun t σ x1 x2 => match t with | 0 => prf_X_test (prF_X_test n) σ x1 | _ => prf_X_tests (prF_X_test n) σ x1 x2

def prf_X_sums_38 (fu : Nat) (σ : pr_St) (x1 : Int32) (x2 : Int32) : Option pr_St := match fu with
  | 0 => none
  | n + 1 =>
    (prf_X_look σ).bind fun r17 =>
    if r17 = 44 then
     (prf_X_take σ 44).bind fun r20 =>
     if (r20.1 0 9) = 0 then
      (prf_X_sum (prF_X_factor 70) r20 (x2 + 1)).bind fun r22 =>
      (prf_X_join r22.2 x1 r22.1).bind fun r23 =>
      prf_X_sums_38 n r23 x1 x2
     else
      (prf_X_join r20 x1 (-1)).bind fun r24 =>
      prf_X_sums_38 n r24 x1 x2
    else
     (prf_X_take σ 41).bind fun r19 =>
     some r19
def prf_X_sums (σ : pr_St) (x1 : Int32) (x2 : Int32) : Option pr_St :=
  (prf_X_take σ 40).bind fun r25 =>
  (prf_X_look r25).bind fun r26 =>
  if r26 = 41 then
   (prf_X_take r25 41).bind fun r28 =>
   some r28
  else
   if (r25.1 0 9) = 0 then
    (prf_X_sum (prF_X_factor 70) r25 (x2 + 1)).bind fun r30 =>
    (prf_X_join r30.2 x1 r30.1).bind fun r31 =>
    prf_X_sums_38 pr_FU r31 x1 x2
   else
    (prf_X_join r25 x1 (-1)).bind fun r32 =>
    prf_X_sums_38 pr_FU r32 x1 x2
def prf_X_named_217 (σ : pr_St) (x1 : Int32) (x2 : Int32) (x3 : Int32) : Option (Int32 × pr_St) :=
  (prf_X_draft σ 5 x1 0).bind fun r46 =>
  (prf_X_join r46.2 r46.1 x3).bind fun r47 =>
  if (r47.1 0 9) = 0 then
   (prf_X_sum (prF_X_factor 70) r47 (x2 + 1)).bind fun r49 =>
   (prf_X_join r49.2 r46.1 r49.1).bind fun r50 =>
   some (r46.1, r50)
  else
   (prf_X_join r47 r46.1 (-1)).bind fun r51 =>
   some (r46.1, r51)
def prf_X_named (σ : pr_St) (x1 : Int32) (x2 : Int32) : Option (Int32 × pr_St) :=
  (prf_X_name σ).bind fun r52 =>
  (prf_X_look r52.2).bind fun r53 =>
  if r53 = 40 then
   (prf_X_draft r52.2 7 x1 0).bind fun r86 =>
   (prf_X_draft r86.2 33 x1 0).bind fun r87 =>
   (prf_X_join r87.2 r86.1 r87.1).bind fun r88 =>
   (prf_X_join r88 r86.1 r52.1).bind fun r89 =>
   (prf_X_sums r89 r86.1 x2).bind fun r90 =>
   some (r86.1, r90)
  else
   (prf_X_look r52.2).bind fun r55 =>
   if r55 = 91 then
    (prf_X_draft r52.2 6 x1 0).bind fun r67 =>
    (prf_X_join r67.2 r67.1 r52.1).bind fun r68 =>
    (prf_X_take r68 91).bind fun r69 =>
    if (r69.1 0 9) = 0 then
     (prf_X_sum (prF_X_factor 70) r69 (x2 + 1)).bind fun r71 =>
     (prf_X_join r71.2 r67.1 r71.1).bind fun r72 =>
     (prf_X_take r72 93).bind fun r73 =>
     (prf_X_take r73 61).bind fun r74 =>
     if (r74.1 0 9) = 0 then
      (prf_X_sum (prF_X_factor 70) r74 (x2 + 1)).bind fun r76 =>
      (prf_X_join r76.2 r67.1 r76.1).bind fun r77 =>
      some (r67.1, r77)
     else
      (prf_X_join r74 r67.1 (-1)).bind fun r78 =>
      some (r67.1, r78)
    else
     (prf_X_join r69 r67.1 (-1)).bind fun r79 =>
     (prf_X_take r79 93).bind fun r80 =>
     (prf_X_take r80 61).bind fun r81 =>
     if (r81.1 0 9) = 0 then
      (prf_X_sum (prF_X_factor 70) r81 (x2 + 1)).bind fun r83 =>
      (prf_X_join r83.2 r67.1 r83.1).bind fun r84 =>
      some (r67.1, r84)
     else
      (prf_X_join r81 r67.1 (-1)).bind fun r85 =>
      some (r67.1, r85)
   else
    (prf_X_take r52.2 61).bind fun r57 =>
    (prf_X_look r57).bind fun r58 =>
    if r58 = 2 then
     pr_ck ((r57.1 0 8) + 1) 8002 <|
     if ((r57.2.1 3) ((r57.1 0 8) + 1).toNatClampNeg) = 40 then
      (prf_X_draft r57 7 x1 0).bind fun r62 =>
      (prf_X_join r62.2 r62.1 r52.1).bind fun r63 =>
      (prf_X_name r63).bind fun r64 =>
      (prf_X_join r64.2 r62.1 r64.1).bind fun r65 =>
      (prf_X_sums r65 r62.1 x2).bind fun r66 =>
      some (r62.1, r66)
     else
      prf_X_named_217 r57 x1 x2 r52.1
    else
     prf_X_named_217 r57 x1 x2 r52.1
def prf_X_block1_27 (rc : pr_St → Int32 → Option (Int32 × pr_St)) (fu : Nat) (σ : pr_St) (x1 : Int32) (x2 : Int32) : Option (Int32 × pr_St) := match fu with
  | 0 => none
  | n + 1 =>
    if (σ.1 0 9) = 0 then
     (prf_X_look σ).bind fun r14 =>
     if r14 = 125 then
      (prf_X_take σ 125).bind fun r16 =>
      some (x2, r16)
     else
      (rc σ x1).bind fun r17 =>
      (prf_X_join r17.2 x2 r17.1).bind fun r18 =>
      prf_X_block1_27 rc n r18 x1 x2
    else
     (prf_X_take σ 125).bind fun r13 =>
     some (x2, r13)
def prf_X_block1 (rc : pr_St → Int32 → Option (Int32 × pr_St)) (σ : pr_St) (x1 : Int32) : Option (Int32 × pr_St) :=
  (prf_X_deep σ x1).bind fun r19 =>
  pr_ck (r19.1 0 8) 8002 <|
  (prf_X_draft r19 2 ((r19.2.1 4) (r19.1 0 8).toNatClampNeg) 0).bind fun r21 =>
  (prf_X_take r21.2 123).bind fun r22 =>
  prf_X_block1_27 rc pr_FU r22 x1 r21.1
def prf_X_statement1_187 (rc : pr_St → Int32 → Option (Int32 × pr_St)) (σ : pr_St) (x1 : Int32) (x2 : Int32) (x3 : Int32) : Option (Int32 × pr_St) :=
  if x3 = 302 then
   (prf_X_draft σ 8 x2 0).bind fun r220 =>
   (prf_X_take r220.2 x3).bind fun r221 =>
   (prf_X_take r221 40).bind fun r222 =>
   if (r222.1 0 9) = 0 then
    (prf_X_cond (prF_X_test 200) r222 (x1 + 1)).bind fun r224 =>
    (prf_X_join r224.2 r220.1 r224.1).bind fun r225 =>
    (prf_X_take r225 41).bind fun r226 =>
    if (r226.1 0 9) = 0 then
     (prf_X_block1 rc r226 (x1 + 1)).bind fun r228 =>
     (prf_X_join r228.2 r220.1 r228.1).bind fun r229 =>
     if x3 = 302 then
      (prf_X_look r229).bind fun r231 =>
      if r231 = 303 then
       (prf_X_take r229 303).bind fun r233 =>
       if (r233.1 0 9) = 0 then
        (prf_X_block1 rc r233 (x1 + 1)).bind fun r235 =>
        (prf_X_join r235.2 r220.1 r235.1).bind fun r236 =>
        some (r220.1, r236)
       else
        (prf_X_join r233 r220.1 (-1)).bind fun r237 =>
        some (r220.1, r237)
      else
       some (r220.1, r229)
     else
      some (r220.1, r229)
    else
     (prf_X_join r226 r220.1 (-1)).bind fun r238 =>
     if x3 = 302 then
      (prf_X_look r238).bind fun r240 =>
      if r240 = 303 then
       (prf_X_take r238 303).bind fun r242 =>
       if (r242.1 0 9) = 0 then
        (prf_X_block1 rc r242 (x1 + 1)).bind fun r244 =>
        (prf_X_join r244.2 r220.1 r244.1).bind fun r245 =>
        some (r220.1, r245)
       else
        (prf_X_join r242 r220.1 (-1)).bind fun r246 =>
        some (r220.1, r246)
      else
       some (r220.1, r238)
     else
      some (r220.1, r238)
   else
    (prf_X_join r222 r220.1 (-1)).bind fun r247 =>
    (prf_X_take r247 41).bind fun r248 =>
    if (r248.1 0 9) = 0 then
     (prf_X_block1 rc r248 (x1 + 1)).bind fun r250 =>
     (prf_X_join r250.2 r220.1 r250.1).bind fun r251 =>
     if x3 = 302 then
      (prf_X_look r251).bind fun r253 =>
      if r253 = 303 then
       (prf_X_take r251 303).bind fun r255 =>
       if (r255.1 0 9) = 0 then
        (prf_X_block1 rc r255 (x1 + 1)).bind fun r257 =>
        (prf_X_join r257.2 r220.1 r257.1).bind fun r258 =>
        some (r220.1, r258)
       else
        (prf_X_join r255 r220.1 (-1)).bind fun r259 =>
        some (r220.1, r259)
      else
       some (r220.1, r251)
     else
      some (r220.1, r251)
    else
     (prf_X_join r248 r220.1 (-1)).bind fun r260 =>
     if x3 = 302 then
      (prf_X_look r260).bind fun r262 =>
      if r262 = 303 then
       (prf_X_take r260 303).bind fun r264 =>
       if (r264.1 0 9) = 0 then
        (prf_X_block1 rc r264 (x1 + 1)).bind fun r266 =>
        (prf_X_join r266.2 r220.1 r266.1).bind fun r267 =>
        some (r220.1, r267)
       else
        (prf_X_join r264 r220.1 (-1)).bind fun r268 =>
        some (r220.1, r268)
      else
       some (r220.1, r260)
     else
      some (r220.1, r260)
  else
   (prf_X_draft σ 9 x2 0).bind fun r171 =>
   (prf_X_take r171.2 x3).bind fun r172 =>
   (prf_X_take r172 40).bind fun r173 =>
   if (r173.1 0 9) = 0 then
    (prf_X_cond (prF_X_test 200) r173 (x1 + 1)).bind fun r175 =>
    (prf_X_join r175.2 r171.1 r175.1).bind fun r176 =>
    (prf_X_take r176 41).bind fun r177 =>
    if (r177.1 0 9) = 0 then
     (prf_X_block1 rc r177 (x1 + 1)).bind fun r179 =>
     (prf_X_join r179.2 r171.1 r179.1).bind fun r180 =>
     if x3 = 302 then
      (prf_X_look r180).bind fun r182 =>
      if r182 = 303 then
       (prf_X_take r180 303).bind fun r184 =>
       if (r184.1 0 9) = 0 then
        (prf_X_block1 rc r184 (x1 + 1)).bind fun r186 =>
        (prf_X_join r186.2 r171.1 r186.1).bind fun r187 =>
        some (r171.1, r187)
       else
        (prf_X_join r184 r171.1 (-1)).bind fun r188 =>
        some (r171.1, r188)
      else
       some (r171.1, r180)
     else
      some (r171.1, r180)
    else
     (prf_X_join r177 r171.1 (-1)).bind fun r189 =>
     if x3 = 302 then
      (prf_X_look r189).bind fun r191 =>
      if r191 = 303 then
       (prf_X_take r189 303).bind fun r193 =>
       if (r193.1 0 9) = 0 then
        (prf_X_block1 rc r193 (x1 + 1)).bind fun r195 =>
        (prf_X_join r195.2 r171.1 r195.1).bind fun r196 =>
        some (r171.1, r196)
       else
        (prf_X_join r193 r171.1 (-1)).bind fun r197 =>
        some (r171.1, r197)
      else
       some (r171.1, r189)
     else
      some (r171.1, r189)
   else
    (prf_X_join r173 r171.1 (-1)).bind fun r198 =>
    (prf_X_take r198 41).bind fun r199 =>
    if (r199.1 0 9) = 0 then
     (prf_X_block1 rc r199 (x1 + 1)).bind fun r201 =>
     (prf_X_join r201.2 r171.1 r201.1).bind fun r202 =>
     if x3 = 302 then
      (prf_X_look r202).bind fun r204 =>
      if r204 = 303 then
       (prf_X_take r202 303).bind fun r206 =>
       if (r206.1 0 9) = 0 then
        (prf_X_block1 rc r206 (x1 + 1)).bind fun r208 =>
        (prf_X_join r208.2 r171.1 r208.1).bind fun r209 =>
        some (r171.1, r209)
       else
        (prf_X_join r206 r171.1 (-1)).bind fun r210 =>
        some (r171.1, r210)
      else
       some (r171.1, r202)
     else
      some (r171.1, r202)
    else
     (prf_X_join r199 r171.1 (-1)).bind fun r211 =>
     if x3 = 302 then
      (prf_X_look r211).bind fun r213 =>
      if r213 = 303 then
       (prf_X_take r211 303).bind fun r215 =>
       if (r215.1 0 9) = 0 then
        (prf_X_block1 rc r215 (x1 + 1)).bind fun r217 =>
        (prf_X_join r217.2 r171.1 r217.1).bind fun r218 =>
        some (r171.1, r218)
       else
        (prf_X_join r215 r171.1 (-1)).bind fun r219 =>
        some (r171.1, r219)
      else
       some (r171.1, r211)
     else
      some (r171.1, r211)
def prf_X_statement1 (rc : pr_St → Int32 → Option (Int32 × pr_St)) (σ : pr_St) (x1 : Int32) : Option (Int32 × pr_St) :=
  pr_ck (σ.1 0 8) 8002 <|
  (prf_X_look σ).bind fun r270 =>
  if r270 = 301 then
   (prf_X_take σ 301).bind fun r297 =>
   (prf_X_name r297).bind fun r298 =>
   (prf_X_look r298.2).bind fun r299 =>
   if r299 = 91 then
    (prf_X_draft r298.2 4 ((σ.2.1 4) (σ.1 0 8).toNatClampNeg) 0).bind fun r320 =>
    (prf_X_join r320.2 r320.1 r298.1).bind fun r321 =>
    (prf_X_look r321).bind fun r322 =>
    if r322 = 91 then
     (prf_X_take r321 91).bind fun r334 =>
     (prf_X_number r334 0).bind fun r335 =>
     (prf_X_join r335.2 r320.1 r335.1).bind fun r336 =>
     (prf_X_take r336 93).bind fun r337 =>
     (prf_X_take r337 59).bind fun r338 =>
     some (r320.1, r338)
    else
     (prf_X_look r321).bind fun r324 =>
     if r324 = 61 then
      (prf_X_take r321 61).bind fun r327 =>
      if (r327.1 0 9) = 0 then
       (prf_X_sum (prF_X_factor 70) r327 (x1 + 1)).bind fun r329 =>
       (prf_X_join r329.2 r320.1 r329.1).bind fun r330 =>
       (prf_X_take r330 59).bind fun r331 =>
       some (r320.1, r331)
      else
       (prf_X_join r327 r320.1 (-1)).bind fun r332 =>
       (prf_X_take r332 59).bind fun r333 =>
       some (r320.1, r333)
     else
      (prf_X_take r321 59).bind fun r326 =>
      some (r320.1, r326)
   else
    (prf_X_draft r298.2 3 ((σ.2.1 4) (σ.1 0 8).toNatClampNeg) 0).bind fun r301 =>
    (prf_X_join r301.2 r301.1 r298.1).bind fun r302 =>
    (prf_X_look r302).bind fun r303 =>
    if r303 = 91 then
     (prf_X_take r302 91).bind fun r315 =>
     (prf_X_number r315 0).bind fun r316 =>
     (prf_X_join r316.2 r301.1 r316.1).bind fun r317 =>
     (prf_X_take r317 93).bind fun r318 =>
     (prf_X_take r318 59).bind fun r319 =>
     some (r301.1, r319)
    else
     (prf_X_look r302).bind fun r305 =>
     if r305 = 61 then
      (prf_X_take r302 61).bind fun r308 =>
      if (r308.1 0 9) = 0 then
       (prf_X_sum (prF_X_factor 70) r308 (x1 + 1)).bind fun r310 =>
       (prf_X_join r310.2 r301.1 r310.1).bind fun r311 =>
       (prf_X_take r311 59).bind fun r312 =>
       some (r301.1, r312)
      else
       (prf_X_join r308 r301.1 (-1)).bind fun r313 =>
       (prf_X_take r313 59).bind fun r314 =>
       some (r301.1, r314)
     else
      (prf_X_take r302 59).bind fun r307 =>
      some (r301.1, r307)
  else
   if r270 = 2 then
    (prf_X_named σ ((σ.2.1 4) (σ.1 0 8).toNatClampNeg) x1).bind fun r295 =>
    (prf_X_take r295.2 59).bind fun r296 =>
    some (r295.1, r296)
   else
    if r270 = 302 then
     prf_X_statement1_187 rc σ x1 ((σ.2.1 4) (σ.1 0 8).toNatClampNeg) r270
    else
     if r270 = 304 then
      prf_X_statement1_187 rc σ x1 ((σ.2.1 4) (σ.1 0 8).toNatClampNeg) r270
     else
      if r270 = 305 then
       (prf_X_draft σ 10 ((σ.2.1 4) (σ.1 0 8).toNatClampNeg) 0).bind fun r284 =>
       (prf_X_take r284.2 305).bind fun r285 =>
       (prf_X_take r285 40).bind fun r286 =>
       if (r286.1 0 9) = 0 then
        (prf_X_cond (prF_X_test 200) r286 (x1 + 1)).bind fun r288 =>
        (prf_X_join r288.2 r284.1 r288.1).bind fun r289 =>
        (prf_X_take r289 41).bind fun r290 =>
        (prf_X_take r290 59).bind fun r291 =>
        some (r284.1, r291)
       else
        (prf_X_join r286 r284.1 (-1)).bind fun r292 =>
        (prf_X_take r292 41).bind fun r293 =>
        (prf_X_take r293 59).bind fun r294 =>
        some (r284.1, r294)
      else
       (prf_X_take σ 306).bind fun r276 =>
       (prf_X_draft r276 11 ((σ.2.1 4) (σ.1 0 8).toNatClampNeg) 0).bind fun r277 =>
       if (r277.2.1 0 9) = 0 then
        (prf_X_sum (prF_X_factor 70) r277.2 (x1 + 1)).bind fun r279 =>
        (prf_X_join r279.2 r277.1 r279.1).bind fun r280 =>
        (prf_X_take r280 59).bind fun r281 =>
        some (r277.1, r281)
       else
        (prf_X_join r277.2 r277.1 (-1)).bind fun r282 =>
        (prf_X_take r282 59).bind fun r283 =>
        some (r277.1, r283)
def prF_X_statement1 : Nat → pr_St → Int32 → Option (Int32 × pr_St)
  | 0 => fun _ _ => none
  | n + 1 => fun σ x1 => prf_X_statement1 (prF_X_statement1 n) σ x1

def prf_X_function_83 (σ : pr_St) (x1 : Int32) : Option (Int32 × pr_St) :=
  (prf_X_take σ 41).bind fun r21 =>
  if (r21.1 0 9) = 0 then
   (prf_X_block1 (prF_X_statement1 70) r21 1).bind fun r23 =>
   (prf_X_join r23.2 x1 r23.1).bind fun r24 =>
   some (x1, r24)
  else
   (prf_X_join r21 x1 (-1)).bind fun r25 =>
   some (x1, r25)
def prf_X_function_56 (fu : Nat) (σ : pr_St) (x1 : Int32) : Option (Int32 × pr_St) := match fu with
  | 0 => none
  | n + 1 =>
    (prf_X_look σ).bind fun r26 =>
    if r26 = 44 then
     (prf_X_take σ 44).bind fun r28 =>
     (prf_X_name r28).bind fun r29 =>
     (prf_X_join r29.2 x1 r29.1).bind fun r30 =>
     prf_X_function_56 n r30 x1
    else
     prf_X_function_83 σ x1
def prf_X_function (σ : pr_St)  : Option (Int32 × pr_St) :=
  pr_ck (σ.1 0 8) 8002 <|
  (prf_X_draft σ 1 ((σ.2.1 4) (σ.1 0 8).toNatClampNeg) 0).bind fun r32 =>
  (prf_X_take r32.2 300).bind fun r33 =>
  (prf_X_name r33).bind fun r34 =>
  (prf_X_join r34.2 r32.1 r34.1).bind fun r35 =>
  (prf_X_take r35 40).bind fun r36 =>
  (prf_X_look r36).bind fun r37 =>
  if r37 = 41 then
   prf_X_function_83 r36 r32.1
  else
   (prf_X_name r36).bind fun r39 =>
   (prf_X_join r39.2 r32.1 r39.1).bind fun r40 =>
   prf_X_function_56 pr_FU r40 r32.1
def prf_X_nameOf_43 (kk2 : pr_St → Int32 → Int32 → Option (Int32 × pr_St)) (fu : Nat) (σ : pr_St) (x1 : Int32) (x2 : Int32) (x3 : Int32) (x4 : Int32) : Option (Int32 × pr_St) := match fu with
  | 0 => none
  | n + 1 =>
    pr_ck x1 8002 <|
    if ((σ.2.1 5) x1.toNatClampNeg) ≤ x4 then
     if x3 = 0 then
      kk2 σ x1 (x2 + 1)
     else
      some (x2, σ)
    else
     if x3 = 0 then
      if x3 = 0 then
       kk2 σ x1 (x2 + 1)
      else
       some (x2, σ)
     else
      pr_ck x2 6001 <|
      pr_ck (((σ.2.1 19) x2.toNatClampNeg) + x4) 12000 <|
      pr_ck x1 8002 <|
      pr_ck (((σ.2.1 4) x1.toNatClampNeg) + x4) 8000 <|
      if ((σ.2.1 18) (((σ.2.1 19) x2.toNatClampNeg) + x4).toNatClampNeg) = ((σ.2.1 2) (((σ.2.1 4) x1.toNatClampNeg) + x4).toNatClampNeg) then
       prf_X_nameOf_43 kk2 n σ x1 x2 1 (x4 + 1)
      else
       prf_X_nameOf_43 kk2 n σ x1 x2 0 (x4 + 1)
def prf_X_nameOf_115 (fu : Nat) (σ : pr_St) (x1 : Int32) (x2 : Int32) : Option (Int32 × pr_St) := match fu with
  | 0 => none
  | n + 1 =>
    pr_ck x1 8002 <|
    if ((σ.2.1 5) x1.toNatClampNeg) ≤ x2 then
     pr_ck (((σ.1 0 27) + 1) - 1) 6001 <|
     pr_ck x1 8002 <|
     pr_ck ((σ.1 0 27) + 1) 6001 <|
     some ((((σ.1 0 27) + 1) - 1), (pr_sA (pr_sI σ 0 27 ((σ.1 0 27) + 1)) 19 (upd (σ.2.1 19) ((σ.1 0 27) + 1).toNatClampNeg (((σ.2.1 19) (((σ.1 0 27) + 1) - 1).toNatClampNeg) + ((σ.2.1 5) x1.toNatClampNeg)))))
    else
     pr_ck (σ.1 0 27) 6001 <|
     pr_ck x1 8002 <|
     pr_ck (((σ.2.1 4) x1.toNatClampNeg) + x2) 8000 <|
     pr_ck (((σ.2.1 19) (σ.1 0 27).toNatClampNeg) + x2) 12000 <|
     prf_X_nameOf_115 n (pr_sA σ 18 (upd (σ.2.1 18) (((σ.2.1 19) (σ.1 0 27).toNatClampNeg) + x2).toNatClampNeg ((σ.2.1 2) (((σ.2.1 4) x1.toNatClampNeg) + x2).toNatClampNeg))) x1 (x2 + 1)
def prf_X_nameOf_2 (fu : Nat) (σ : pr_St) (x1 : Int32) (x2 : Int32) : Option (Int32 × pr_St) := match fu with
  | 0 => none
  | n + 1 =>
    if (σ.1 0 27) ≤ x2 then
     prf_X_nameOf_115 pr_FU σ x1 0
    else
     pr_ck (x2 + 1) 6001 <|
     pr_ck x2 6001 <|
     pr_ck x1 8002 <|
     if (((σ.2.1 19) (x2 + 1).toNatClampNeg) - ((σ.2.1 19) x2.toNatClampNeg)) = ((σ.2.1 5) x1.toNatClampNeg) then
      prf_X_nameOf_43 (prf_X_nameOf_2 n) pr_FU σ x1 x2 1 0
     else
      prf_X_nameOf_43 (prf_X_nameOf_2 n) pr_FU σ x1 x2 0 0
def prf_X_nameOf (σ : pr_St) (x1 : Int32) : Option (Int32 × pr_St) :=
  prf_X_nameOf_2 pr_FU σ x1 0
def prf_X_keep_102 (kk7 : pr_St → Int32 → Int32 → Int32 → Int32 → Option pr_St) (σ : pr_St) (x1 : Int32) (x2 : Int32) (x3 : Int32) (x4 : Int32) (x5 : Int32) : Option pr_St :=
  pr_ck x3 26000 <|
  if ((σ.2.1 9) x3.toNatClampNeg) = (-1) then
   if x2 ≤ 0 then
    kk7 σ x1 x2 (-1) x4
   else
    pr_ck (x2 + (-2)) 26000 <|
    pr_ck ((x2 + (-2)) + 1) 26000 <|
    kk7 σ x1 (x2 + (-2)) ((σ.2.1 12) (x2 + (-2)).toNatClampNeg) ((σ.2.1 12) ((x2 + (-2)) + 1).toNatClampNeg)
  else
   pr_ck x3 26000 <|
   kk7 σ x1 x2 ((σ.2.1 9) x3.toNatClampNeg) x5
def prf_X_keep_7 (fu : Nat) (σ : pr_St) (x1 : Int32) (x2 : Int32) (x3 : Int32) (x4 : Int32) : Option pr_St := match fu with
  | 0 => none
  | n + 1 =>
    if x3 = (-1) then
     some σ
    else
     pr_ck x3 26000 <|
     pr_ck x3 26000 <|
     pr_ck x3 26000 <|
     if ((σ.2.1 6) x3.toNatClampNeg) = 13 then
      pr_ck x3 26000 <|
      (prf_X_nameOf σ ((σ.2.1 8) x3.toNatClampNeg)).bind fun r49 =>
      (prf_X_add r49.2 ((σ.2.1 6) x3.toNatClampNeg) ((σ.2.1 7) x3.toNatClampNeg) r49.1 x4).bind fun r50 =>
      pr_ck x3 26000 <|
      if ((r50.2.2.1 11) x3.toNatClampNeg) = (-1) then
       prf_X_keep_102 (prf_X_keep_7 n) r50.2 x1 x2 x3 x4 r50.1
      else
       if x3 = x1 then
        prf_X_keep_102 (prf_X_keep_7 n) r50.2 x1 x2 x3 x4 r50.1
       else
        pr_ck x3 26000 <|
        pr_ck x2 26000 <|
        pr_ck (x2 + 1) 26000 <|
        prf_X_keep_102 (prf_X_keep_7 n) (pr_sA (pr_sA r50.2 12 (upd (r50.2.2.1 12) x2.toNatClampNeg ((r50.2.2.1 11) x3.toNatClampNeg))) 12 (upd (upd (r50.2.2.1 12) x2.toNatClampNeg ((r50.2.2.1 11) x3.toNatClampNeg)) (x2 + 1).toNatClampNeg x4)) x1 (x2 + 2) x3 x4 r50.1
     else
      pr_ck x3 26000 <|
      (prf_X_add σ ((σ.2.1 6) x3.toNatClampNeg) ((σ.2.1 7) x3.toNatClampNeg) ((σ.2.1 8) x3.toNatClampNeg) x4).bind fun r41 =>
      pr_ck x3 26000 <|
      if ((r41.2.2.1 11) x3.toNatClampNeg) = (-1) then
       prf_X_keep_102 (prf_X_keep_7 n) r41.2 x1 x2 x3 x4 r41.1
      else
       if x3 = x1 then
        prf_X_keep_102 (prf_X_keep_7 n) r41.2 x1 x2 x3 x4 r41.1
       else
        pr_ck x3 26000 <|
        pr_ck x2 26000 <|
        pr_ck (x2 + 1) 26000 <|
        prf_X_keep_102 (prf_X_keep_7 n) (pr_sA (pr_sA r41.2 12 (upd (r41.2.2.1 12) x2.toNatClampNeg ((r41.2.2.1 11) x3.toNatClampNeg))) 12 (upd (upd (r41.2.2.1 12) x2.toNatClampNeg ((r41.2.2.1 11) x3.toNatClampNeg)) (x2 + 1).toNatClampNeg x4)) x1 (x2 + 2) x3 x4 r41.1
def prf_X_keep (σ : pr_St) (x1 : Int32) : Option pr_St :=
  prf_X_keep_7 pr_FU σ x1 0 x1 0
def prf_X_behind (σ : pr_St) (x1 : Int32) : Option Int32 :=
  pr_ck x1 13000 <|
  some (x1 + ((σ.2.1 17) x1.toNatClampNeg))
def prf_X_wrong (σ : pr_St) (x1 : Int32) (x2 : Int32) : Option (Int32 × pr_St) :=
  if (σ.1 0 47) = 0 then
   pr_ck x2 13000 <|
   some (0, (pr_sI (pr_sI σ 0 47 x1) 0 48 ((σ.2.1 14) x2.toNatClampNeg)))
  else
   some (0, σ)
def prf_X_blockOf_4 (fu : Nat) (σ : pr_St) (x2 : Int32) : Option Int32 := match fu with
  | 0 => none
  | n + 1 =>
    pr_ck x2 13000 <|
    if ((σ.2.1 13) x2.toNatClampNeg) = 13 then
     prf_X_blockOf_4 n σ (x2 + 1)
    else
     some x2
def prf_X_blockOf (σ : pr_St) (x1 : Int32) : Option Int32 :=
  prf_X_blockOf_4 pr_FU σ (x1 + 1)
def prf_X_isNew_5 (fu : Nat) (σ : pr_St) (x1 : Int32) (x2 : Int32) (x3 : Int32) : Option (Int32 × pr_St) := match fu with
  | 0 => none
  | n + 1 =>
    if (σ.1 0 42) ≤ x3 then
     some (1, σ)
    else
     pr_ck x3 40 <|
     if ((σ.2.1 32) x3.toNatClampNeg) = x2 then
      pr_ck x3 40 <|
      pr_ck x1 13000 <|
      if ((σ.2.1 29) x3.toNatClampNeg) = ((σ.2.1 15) x1.toNatClampNeg) then
       (prf_X_wrong σ 2 x1).bind fun r15 =>
       pr_z r15.1 <|
       some (r15.1, r15.2)
      else
       prf_X_isNew_5 n σ x1 x2 (x3 + 1)
     else
      prf_X_isNew_5 n σ x1 x2 (x3 + 1)
def prf_X_isNew (σ : pr_St) (x1 : Int32) (x2 : Int32) : Option (Int32 × pr_St) :=
  prf_X_isNew_5 pr_FU σ x1 x2 (σ.1 0 43)
def prf_X_second (σ : pr_St) (x1 : Int32) : Option Int32 :=
  (prf_X_behind σ (x1 + 1)).bind fun r2 =>
  some r2
def prf_X_meantNow_7 (fu : Nat) (σ : pr_St) (x1 : Int32) (x2 : Int32) : Option Int32 := match fu with
  | 0 => none
  | n + 1 =>
    if x2 < (σ.1 0 43) then
     some (-1)
    else
     pr_ck x2 40 <|
     if ((σ.2.1 29) x2.toNatClampNeg) = x1 then
      some x2
     else
      prf_X_meantNow_7 n σ x1 (x2 + (-1))
def prf_X_meantNow (σ : pr_St) (x1 : Int32) : Option Int32 :=
  prf_X_meantNow_7 pr_FU σ x1 ((σ.1 0 42) - 1)
def prf_X_lookName (σ : pr_St) (x1 : Int32) (x2 : Int32) : Option (Int32 × pr_St) :=
  pr_ck x1 13000 <|
  (prf_X_meantNow σ ((σ.2.1 15) x1.toNatClampNeg)).bind fun r15 =>
  if r15 = (-1) then
   (prf_X_wrong σ 1 x1).bind fun r25 =>
   pr_z r25.1 <|
   some (r25.1, r25.2)
  else
   pr_ck r15 40 <|
   if ((σ.2.1 31) r15.toNatClampNeg) ≤ 0 then
    if (0 : Int32) = x2 then
     some (1, σ)
    else
     (prf_X_wrong σ 3 x1).bind fun r20 =>
     if r20.1 = 0 then
      some (0, r20.2)
     else
      some (1, r20.2)
   else
    if (1 : Int32) = x2 then
     some (1, σ)
    else
     (prf_X_wrong σ 3 x1).bind fun r23 =>
     if r23.1 = 0 then
      some (0, r23.2)
     else
      some (1, r23.2)
def prf_X_lookAll_76 (kk2 : pr_St → Int32 → Int32 → Option (Int32 × pr_St)) (σ : pr_St) (x1 : Int32) (x2 : Int32) : Option (Int32 × pr_St) :=
  pr_ck x2 13000 <|
  if ((σ.2.1 13) x2.toNatClampNeg) = 16 then
   pr_ck x2 13000 <|
   if ((σ.2.1 17) x2.toNatClampNeg) ≤ 1 then
    kk2 σ x1 (x2 + 1)
   else
    pr_ck (x2 + 1) 13000 <|
    pr_ck (x2 + 2) 13000 <|
    if ((σ.2.1 15) (x2 + 1).toNatClampNeg) ≤ ((σ.2.1 15) (x2 + 2).toNatClampNeg) then
     kk2 σ x1 (x2 + 1)
    else
     (prf_X_wrong σ 8 (x2 + 1)).bind fun r34 =>
     pr_z r34.1 <|
     some (r34.1, r34.2)
  else
   kk2 σ x1 (x2 + 1)
def prf_X_lookAll_52 (kk2 : pr_St → Int32 → Int32 → Option (Int32 × pr_St)) (σ : pr_St) (x1 : Int32) (x2 : Int32) : Option (Int32 × pr_St) :=
  pr_ck x2 13000 <|
  if ((σ.2.1 13) x2.toNatClampNeg) = 13 then
   (prf_X_lookName σ x2 0).bind fun r38 =>
   if r38.1 = 0 then
    some (0, r38.2)
   else
    prf_X_lookAll_76 kk2 r38.2 x1 x2
  else
   prf_X_lookAll_76 kk2 σ x1 x2
def prf_X_lookAll_2 (fu : Nat) (σ : pr_St) (x1 : Int32) (x2 : Int32) : Option (Int32 × pr_St) := match fu with
  | 0 => none
  | n + 1 =>
    (prf_X_behind σ x1).bind fun r40 =>
    if r40 ≤ x2 then
     some (1, σ)
    else
     pr_ck x2 13000 <|
     if ((σ.2.1 16) x2.toNatClampNeg) < 0 then
      prf_X_lookAll_52 (prf_X_lookAll_2 n) σ x1 x2
     else
      pr_ck x2 13000 <|
      pr_ck ((σ.2.1 16) x2.toNatClampNeg) 13000 <|
      if ((σ.2.1 13) ((σ.2.1 16) x2.toNatClampNeg).toNatClampNeg) = 14 then
       pr_ck x2 13000 <|
       if ((σ.2.1 16) x2.toNatClampNeg) = (x2 - 1) then
        pr_ck x2 13000 <|
        if ((σ.2.1 13) x2.toNatClampNeg) = 13 then
         (prf_X_lookName σ x2 1).bind fun r51 =>
         if r51.1 = 0 then
          some (0, r51.2)
         else
          prf_X_lookAll_76 (prf_X_lookAll_2 n) r51.2 x1 x2
        else
         prf_X_lookAll_76 (prf_X_lookAll_2 n) σ x1 x2
       else
        prf_X_lookAll_52 (prf_X_lookAll_2 n) σ x1 x2
      else
       prf_X_lookAll_52 (prf_X_lookAll_2 n) σ x1 x2
def prf_X_lookAll (σ : pr_St) (x1 : Int32) : Option (Int32 × pr_St) :=
  prf_X_lookAll_2 pr_FU σ x1 x1
def prf_X_give (σ : pr_St) (x1 : Int32) (x2 : Int32) (x3 : Int32) (x4 : Int32) : Option pr_St :=
  pr_ck (σ.1 0 42) 40 <|
  pr_ck (σ.1 0 42) 40 <|
  pr_ck (σ.1 0 42) 40 <|
  pr_ck (σ.1 0 42) 40 <|
  some (pr_sI (pr_sA (pr_sA (pr_sA (pr_sA σ 29 (upd (σ.2.1 29) (σ.1 0 42).toNatClampNeg x1)) 30 (upd (σ.2.1 30) (σ.1 0 42).toNatClampNeg x2)) 31 (upd (σ.2.1 31) (σ.1 0 42).toNatClampNeg x3)) 32 (upd (σ.2.1 32) (σ.1 0 42).toNatClampNeg x4)) 0 42 ((σ.1 0 42) + 1))
def prf_X_whichFunction_2 (fu : Nat) (σ : pr_St) (x2 : Int32) : Option Int32 := match fu with
  | 0 => none
  | n + 1 =>
    pr_ck x2 13000 <|
    if ((σ.2.1 16) x2.toNatClampNeg) = 0 then
     some x2
    else
     pr_ck x2 13000 <|
     prf_X_whichFunction_2 n σ ((σ.2.1 16) x2.toNatClampNeg)
def prf_X_whichFunction (σ : pr_St) (x1 : Int32) : Option Int32 :=
  prf_X_whichFunction_2 pr_FU σ x1
def prf_X_functionOf_5 (fu : Nat) (σ : pr_St) (x1 : Int32) (x2 : Int32) (x3 : Int32) (x4 : Int32) : Option Int32 := match fu with
  | 0 => none
  | n + 1 =>
    if (σ.1 0 24) ≤ x4 then
     some x3
    else
     (prf_X_behind σ x4).bind fun r10 =>
     if x2 < r10 then
      (prf_X_behind σ x4).bind fun r12 =>
      prf_X_functionOf_5 n σ x1 x2 x3 r12
     else
      pr_ck (x4 + 1) 13000 <|
      if ((σ.2.1 15) (x4 + 1).toNatClampNeg) = x1 then
       (prf_X_behind σ x4).bind fun r16 =>
       prf_X_functionOf_5 n σ x1 x2 x4 r16
      else
       (prf_X_behind σ x4).bind fun r15 =>
       prf_X_functionOf_5 n σ x1 x2 x3 r15
def prf_X_functionOf (σ : pr_St) (x1 : Int32) (x2 : Int32) : Option Int32 :=
  prf_X_functionOf_5 pr_FU σ x1 x2 (-1) 1
def prf_X_lastStatement_6 (fu : Nat) (σ : pr_St) (x1 : Int32) (x2 : Int32) (x3 : Int32) : Option Int32 := match fu with
  | 0 => none
  | n + 1 =>
    (prf_X_behind σ x1).bind fun r4 =>
    if r4 ≤ x3 then
     some x2
    else
     (prf_X_behind σ x3).bind fun r6 =>
     prf_X_lastStatement_6 n σ x1 x3 r6
def prf_X_lastStatement (σ : pr_St) (x1 : Int32) : Option Int32 :=
  prf_X_lastStatement_6 pr_FU σ x1 (-1) (x1 + 1)
def prf_X_returns (σ : pr_St) (x1 : Int32) : Option Int32 :=
  (prf_X_blockOf σ x1).bind fun r6 =>
  (prf_X_lastStatement σ r6).bind fun r7 =>
  if r7 = (-1) then
   some 0
  else
   pr_ck r7 13000 <|
   if ((σ.2.1 13) r7.toNatClampNeg) = 11 then
    some 1
   else
    some 0
def prf_X_call_252 (rc : pr_St → Int32 → Int32 → Int32 → Int32 → Option pr_St) (kk242 : pr_St → Int32 → Int32 → Int32 → Int32 → Int32 → Int32 → Int32 → Int32 → Int32 → Option pr_St) (fu : Nat) (σ : pr_St) (x1 : Int32) (x2 : Int32) (x4 : Int32) (x5 : Int32) (x7 : Int32) (x8 : Int32) (x9 : Int32) (x10 : Int32) (x11 : Int32) (x12 : Int32) : Option pr_St := match fu with
  | 0 => none
  | n + 1 =>
    if x11 ≤ x12 then
     kk242 σ x1 x2 x4 x5 x7 x8 x9 x10 (x11 + 1)
    else
     pr_ck ((x4 + 2) + x11) 13000 <|
     pr_ck ((x4 + 2) + x12) 13000 <|
     if ((σ.2.1 15) ((x4 + 2) + x11).toNatClampNeg) = ((σ.2.1 15) ((x4 + 2) + x12).toNatClampNeg) then
      (prf_X_wrong σ 2 ((x4 + 2) + x11)).bind fun r44 =>
      some r44.2
     else
      prf_X_call_252 rc kk242 n σ x1 x2 x4 x5 x7 x8 x9 x10 x11 (x12 + 1)
def prf_X_call_336 (rc : pr_St → Int32 → Int32 → Int32 → Int32 → Option pr_St) (fu : Nat) (σ : pr_St) (x2 : Int32) (x4 : Int32) (x5 : Int32) (x7 : Int32) (x8 : Int32) (x9 : Int32) (x10 : Int32) (x11 : Int32) : Option pr_St := match fu with
  | 0 => none
  | n + 1 =>
    if x5 ≤ x11 then
     (prf_X_blockOf σ x4).bind fun r46 =>
     (rc σ r46 x4 x2 x10).bind fun r47 =>
     some (pr_sI (pr_sI (pr_sI r47 0 42 x7) 0 43 x8) 0 45 x9)
    else
     pr_ck ((x4 + 2) + x11) 13000 <|
     (prf_X_give σ ((σ.2.1 15) ((x4 + 2) + x11).toNatClampNeg) (σ.1 0 45) 0 x10).bind fun r49 =>
     prf_X_call_336 rc n (pr_sI r49 0 45 ((r49.1 0 45) + 1)) x2 x4 x5 x7 x8 x9 x10 (x11 + 1)
def prf_X_call_242 (rc : pr_St → Int32 → Int32 → Int32 → Int32 → Option pr_St) (fu : Nat) (σ : pr_St) (x1 : Int32) (x2 : Int32) (x4 : Int32) (x5 : Int32) (x7 : Int32) (x8 : Int32) (x9 : Int32) (x10 : Int32) (x11 : Int32) : Option pr_St := match fu with
  | 0 => none
  | n + 1 =>
    if x5 ≤ x11 then
     if ((σ.1 0 45) + x5) ≤ 12 then
      prf_X_call_336 rc pr_FU σ x2 x4 x5 x7 x8 x9 x10 0
     else
      (prf_X_wrong σ 10 x1).bind fun r52 =>
      some r52.2
    else
     prf_X_call_252 rc (prf_X_call_242 rc n) pr_FU σ x1 x2 x4 x5 x7 x8 x9 x10 x11 0
def prf_X_call_166 (rc : pr_St → Int32 → Int32 → Int32 → Int32 → Option pr_St) (fu : Nat) (σ : pr_St) (x1 : Int32) (x2 : Int32) (x4 : Int32) (x5 : Int32) (x7 : Int32) : Option pr_St := match fu with
  | 0 => none
  | n + 1 =>
    (prf_X_behind σ x1).bind fun r53 =>
    if r53 ≤ x7 then
     prf_X_call_242 rc pr_FU (pr_sI (pr_sI σ 0 43 (σ.1 0 42)) 0 44 ((σ.1 0 44) + 1)) x1 x2 x4 x5 (σ.1 0 42) (σ.1 0 43) (σ.1 0 45) ((σ.1 0 44) + 1) 0
    else
     (prf_X_lookAll σ x7).bind fun r55 =>
     if r55.1 = 0 then
      some r55.2
     else
      (prf_X_behind r55.2 x7).bind fun r57 =>
      prf_X_call_166 rc n r55.2 x1 x2 x4 x5 r57
def prf_X_call_91 (rc : pr_St → Int32 → Int32 → Int32 → Int32 → Option pr_St) (fu : Nat) (σ : pr_St) (x1 : Int32) (x2 : Int32) (x3 : Int32) (x4 : Int32) (x5 : Int32) (x6 : Int32) (x7 : Int32) : Option pr_St := match fu with
  | 0 => none
  | n + 1 =>
    (prf_X_behind σ x1).bind fun r58 =>
    if r58 ≤ x7 then
     if x6 = x5 then
      pr_ck (x1 + 1) 13000 <|
      if ((σ.2.1 13) (x1 + 1).toNatClampNeg) = 13 then
       (prf_X_returns σ x4).bind fun r63 =>
       if r63 = 0 then
        (prf_X_wrong σ 6 x3).bind fun r65 =>
        some r65.2
       else
        prf_X_call_166 rc pr_FU σ x1 x2 x4 x5 (x3 + 1)
      else
       prf_X_call_166 rc pr_FU σ x1 x2 x4 x5 (x3 + 1)
     else
      (prf_X_wrong σ 5 x3).bind fun r66 =>
      some r66.2
    else
     (prf_X_behind σ x7).bind fun r67 =>
     prf_X_call_91 rc n σ x1 x2 x3 x4 x5 (x6 + 1) r67
def prf_X_call_48 (rc : pr_St → Int32 → Int32 → Int32 → Int32 → Option pr_St) (σ : pr_St) (x1 : Int32) (x2 : Int32) (x3 : Int32) (x4 : Int32) : Option pr_St :=
  if (σ.1 0 47) ≤ 0 then
   if x4 = (-1) then
    (prf_X_wrong σ 4 x3).bind fun r71 =>
    some r71.2
   else
    (prf_X_blockOf σ x4).bind fun r70 =>
    prf_X_call_91 rc pr_FU σ x1 x2 x3 x4 ((r70 - x4) - 2) 0 (x3 + 1)
  else
   some σ
def prf_X_call_31 (rc : pr_St → Int32 → Int32 → Int32 → Int32 → Option pr_St) (σ : pr_St) (x1 : Int32) (x2 : Int32) (x3 : Int32) : Option pr_St :=
  pr_ck x3 13000 <|
  (prf_X_whichFunction σ x1).bind fun r73 =>
  (prf_X_functionOf σ ((σ.2.1 15) x3.toNatClampNeg) r73).bind fun r74 =>
  prf_X_call_48 rc σ x1 x2 x3 r74
def prf_X_call (rc : pr_St → Int32 → Int32 → Int32 → Int32 → Option pr_St) (σ : pr_St) (x1 : Int32) (x2 : Int32) : Option pr_St :=
  pr_ck (x1 + 1) 13000 <|
  if ((σ.2.1 13) (x1 + 1).toNatClampNeg) = 33 then
   prf_X_call_31 rc σ x1 x2 (x1 + 2)
  else
   (prf_X_lookName σ (x1 + 1) 0).bind fun r77 =>
   if r77.1 = 0 then
    prf_X_call_48 rc r77.2 x1 x2 (x1 + 2) (-1)
   else
    prf_X_call_31 rc r77.2 x1 x2 (x1 + 2)
def prf_X_statement5_293 (rc : pr_St → Int32 → Int32 → Int32 → Int32 → Option pr_St) (σ : pr_St) (x1 : Int32) (x5 : Int32) (x6 : Int32) : Option pr_St :=
  pr_ck (x1 + 1) 13000 <|
  (prf_X_give σ ((σ.2.1 15) (x1 + 1).toNatClampNeg) (σ.1 0 45) 0 x5).bind fun r138 =>
  pr_ck x6 250 <|
  some (pr_sA (pr_sI r138 0 45 ((r138.1 0 45) + 1)) 22 (upd (r138.2.1 22) x6.toNatClampNeg (r138.1 0 33)))
def prf_X_statement5_274 (rc : pr_St → Int32 → Int32 → Int32 → Int32 → Option pr_St) (σ : pr_St) (x1 : Int32) (x5 : Int32) (x6 : Int32) : Option pr_St :=
  if (σ.1 0 45) < 12 then
   prf_X_statement5_293 rc σ x1 x5 x6
  else
   (prf_X_wrong σ 10 x1).bind fun r141 =>
   if r141.1 = 0 then
    pr_ck x6 250 <|
    some (pr_sA r141.2 22 (upd (r141.2.2.1 22) x6.toNatClampNeg (r141.2.1 0 33)))
   else
    prf_X_statement5_293 rc r141.2 x1 x5 x6
def prf_X_statement5_391 (rc : pr_St → Int32 → Int32 → Int32 → Int32 → Option pr_St) (σ : pr_St) (x1 : Int32) (x5 : Int32) (x6 : Int32) (x7 : Int32) : Option pr_St :=
  pr_ck (x1 + 1) 13000 <|
  (prf_X_give σ ((σ.2.1 15) (x1 + 1).toNatClampNeg) (σ.1 0 46) x7 x5).bind fun r145 =>
  pr_ck x6 250 <|
  some (pr_sA (pr_sI r145 0 46 ((r145.1 0 46) + 1)) 22 (upd (r145.2.1 22) x6.toNatClampNeg (r145.1 0 33)))
def prf_X_statement5_372 (rc : pr_St → Int32 → Int32 → Int32 → Int32 → Option pr_St) (σ : pr_St) (x1 : Int32) (x5 : Int32) (x6 : Int32) (x7 : Int32) : Option pr_St :=
  if (σ.1 0 46) < 6 then
   prf_X_statement5_391 rc σ x1 x5 x6 x7
  else
   (prf_X_wrong σ 13 x1).bind fun r148 =>
   if r148.1 = 0 then
    pr_ck x6 250 <|
    some (pr_sA r148.2 22 (upd (r148.2.2.1 22) x6.toNatClampNeg (r148.2.1 0 33)))
   else
    prf_X_statement5_391 rc r148.2 x1 x5 x6 x7
def prf_X_statement5_360 (rc : pr_St → Int32 → Int32 → Int32 → Int32 → Option pr_St) (σ : pr_St) (x1 : Int32) (x5 : Int32) (x6 : Int32) (x7 : Int32) : Option pr_St :=
  (prf_X_wrong σ 9 (x1 + 2)).bind fun r151 =>
  if r151.1 = 0 then
   pr_ck x6 250 <|
   some (pr_sA r151.2 22 (upd (r151.2.2.1 22) x6.toNatClampNeg (r151.2.1 0 33)))
  else
   prf_X_statement5_372 rc r151.2 x1 x5 x6 x7
def prf_X_statement5_654 (rc : pr_St → Int32 → Int32 → Int32 → Int32 → Option pr_St) (σ : pr_St) (x1 : Int32) (x6 : Int32) (x9 : Int32) : Option pr_St :=
  if x9 = 0 then
   (prf_X_lookAll σ (x1 + 1)).bind fun r155 =>
   pr_ck x6 250 <|
   some (pr_sA r155.2 22 (upd (r155.2.2.1 22) x6.toNatClampNeg (r155.2.1 0 33)))
  else
   (prf_X_wrong σ 7 x1).bind fun r157 =>
   if r157.1 = 0 then
    pr_ck x6 250 <|
    some (pr_sA r157.2 22 (upd (r157.2.2.1 22) x6.toNatClampNeg (r157.2.1 0 33)))
   else
    (prf_X_lookAll r157.2 (x1 + 1)).bind fun r160 =>
    pr_ck x6 250 <|
    some (pr_sA r160.2 22 (upd (r160.2.2.1 22) x6.toNatClampNeg (r160.2.1 0 33)))
def prf_X_statement5_617 (rc : pr_St → Int32 → Int32 → Int32 → Int32 → Option pr_St) (σ : pr_St) (x1 : Int32) (x3 : Int32) (x6 : Int32) : Option pr_St :=
  (prf_X_behind σ x3).bind fun r162 =>
  if r162 = (σ.1 0 24) then
   if (0 : Int32) = 0 then
    (prf_X_wrong σ 6 x1).bind fun r169 =>
    if r169.1 = 0 then
     pr_ck x6 250 <|
     some (pr_sA r169.2 22 (upd (r169.2.2.1 22) x6.toNatClampNeg (r169.2.1 0 33)))
    else
     prf_X_statement5_654 rc r169.2 x1 x6 1
   else
    prf_X_statement5_654 rc σ x1 x6 1
  else
   if (0 : Int32) = 0 then
    (prf_X_wrong σ 6 x1).bind fun r165 =>
    if r165.1 = 0 then
     pr_ck x6 250 <|
     some (pr_sA r165.2 22 (upd (r165.2.2.1 22) x6.toNatClampNeg (r165.2.1 0 33)))
    else
     prf_X_statement5_654 rc r165.2 x1 x6 0
   else
    prf_X_statement5_654 rc σ x1 x6 0
def prf_X_statement5_96 (rc : pr_St → Int32 → Int32 → Int32 → Int32 → Option pr_St) (fu : Nat) (σ : pr_St) (x1 : Int32) (x2 : Int32) (x3 : Int32) (x5 : Int32) (x6 : Int32) (x7 : Int32) : Option pr_St := match fu with
  | 0 => none
  | n + 1 =>
    if (σ.1 0 42) ≤ x7 then
     pr_ck x1 13000 <|
     if ((σ.2.1 13) x1.toNatClampNeg) = 3 then
      (prf_X_isNew σ (x1 + 1) x5).bind fun r175 =>
      if r175.1 = 0 then
       pr_ck x6 250 <|
       some (pr_sA r175.2 22 (upd (r175.2.2.1 22) x6.toNatClampNeg (r175.2.1 0 33)))
      else
       pr_ck x1 13000 <|
       if ((r175.2.2.1 17) x1.toNatClampNeg) = 2 then
        prf_X_statement5_274 rc r175.2 x1 x5 x6
       else
        (prf_X_second r175.2 x1).bind fun r180 =>
        (prf_X_lookAll r175.2 r180).bind fun r181 =>
        if r181.1 = 0 then
         pr_ck x6 250 <|
         some (pr_sA r181.2 22 (upd (r181.2.2.1 22) x6.toNatClampNeg (r181.2.1 0 33)))
        else
         prf_X_statement5_274 rc r181.2 x1 x5 x6
     else
       if ((σ.2.1 13) x1.toNatClampNeg) = 4 then
        pr_ck (x1 + 2) 13000 <|
        (prf_X_isNew σ (x1 + 1) x5).bind fun r186 =>
        if r186.1 = 0 then
         pr_ck x6 250 <|
         some (pr_sA r186.2 22 (upd (r186.2.2.1 22) x6.toNatClampNeg (r186.2.1 0 33)))
        else
         if ((σ.2.1 15) (x1 + 2).toNatClampNeg) < 1 then
          prf_X_statement5_360 rc r186.2 x1 x5 x6 ((σ.2.1 15) (x1 + 2).toNatClampNeg)
         else
          if ((σ.2.1 15) (x1 + 2).toNatClampNeg) ≤ 64 then
           prf_X_statement5_372 rc r186.2 x1 x5 x6 ((σ.2.1 15) (x1 + 2).toNatClampNeg)
          else
           prf_X_statement5_360 rc r186.2 x1 x5 x6 ((σ.2.1 15) (x1 + 2).toNatClampNeg)
       else
         if ((σ.2.1 13) x1.toNatClampNeg) = 5 then
          (prf_X_lookName σ (x1 + 1) 0).bind fun r192 =>
          if r192.1 = 0 then
           pr_ck x6 250 <|
           some (pr_sA r192.2 22 (upd (r192.2.2.1 22) x6.toNatClampNeg (r192.2.1 0 33)))
          else
           (prf_X_second r192.2 x1).bind fun r195 =>
           (prf_X_lookAll r192.2 r195).bind fun r196 =>
           pr_ck x6 250 <|
           some (pr_sA r196.2 22 (upd (r196.2.2.1 22) x6.toNatClampNeg (r196.2.1 0 33)))
         else
           if ((σ.2.1 13) x1.toNatClampNeg) = 6 then
            (prf_X_lookName σ (x1 + 1) 1).bind fun r199 =>
            if r199.1 = 0 then
             pr_ck x6 250 <|
             some (pr_sA r199.2 22 (upd (r199.2.2.1 22) x6.toNatClampNeg (r199.2.1 0 33)))
            else
             (prf_X_second r199.2 x1).bind fun r202 =>
             (prf_X_lookAll r199.2 r202).bind fun r203 =>
             if r203.1 = 0 then
              pr_ck x6 250 <|
              some (pr_sA r203.2 22 (upd (r203.2.2.1 22) x6.toNatClampNeg (r203.2.1 0 33)))
             else
              (prf_X_second r203.2 x1).bind fun r206 =>
              (prf_X_behind r203.2 r206).bind fun r207 =>
              (prf_X_lookAll r203.2 r207).bind fun r208 =>
              pr_ck x6 250 <|
              some (pr_sA r208.2 22 (upd (r208.2.2.1 22) x6.toNatClampNeg (r208.2.1 0 33)))
           else
             if ((σ.2.1 13) x1.toNatClampNeg) = 7 then
              (prf_X_call rc σ x1 x6).bind fun r211 =>
              pr_ck x6 250 <|
              some (pr_sA r211 22 (upd (r211.2.1 22) x6.toNatClampNeg (r211.1 0 33)))
             else
               if ((σ.2.1 13) x1.toNatClampNeg) = 8 then
                (prf_X_lookAll σ (x1 + 1)).bind fun r214 =>
                if r214.1 = 0 then
                 pr_ck x6 250 <|
                 some (pr_sA r214.2 22 (upd (r214.2.2.1 22) x6.toNatClampNeg (r214.2.1 0 33)))
                else
                 (prf_X_second (pr_sI r214.2 0 44 ((r214.2.1 0 44) + 1)) x1).bind fun r217 =>
                 (rc (pr_sI r214.2 0 44 ((r214.2.1 0 44) + 1)) r217 x3 x6 ((r214.2.1 0 44) + 1)).bind fun r218 =>
                 (prf_X_second r218 x1).bind fun r219 =>
                 (prf_X_behind r218 r219).bind fun r220 =>
                 (prf_X_behind r218 x1).bind fun r221 =>
                 if r221 ≤ r220 then
                  pr_ck x6 250 <|
                  some (pr_sA r218 22 (upd (r218.2.1 22) x6.toNatClampNeg (r218.1 0 33)))
                 else
                  (prf_X_second (pr_sI r218 0 44 ((r218.1 0 44) + 1)) x1).bind fun r224 =>
                  (prf_X_behind (pr_sI r218 0 44 ((r218.1 0 44) + 1)) r224).bind fun r225 =>
                  (rc (pr_sI r218 0 44 ((r218.1 0 44) + 1)) r225 x3 x6 ((r218.1 0 44) + 1)).bind fun r226 =>
                  pr_ck x6 250 <|
                  some (pr_sA r226 22 (upd (r226.2.1 22) x6.toNatClampNeg (r226.1 0 33)))
               else
                 if ((σ.2.1 13) x1.toNatClampNeg) = 9 then
                  (prf_X_lookAll σ (x1 + 1)).bind fun r229 =>
                  if r229.1 = 0 then
                   pr_ck x6 250 <|
                   some (pr_sA r229.2 22 (upd (r229.2.2.1 22) x6.toNatClampNeg (r229.2.1 0 33)))
                  else
                   (prf_X_second (pr_sI r229.2 0 44 ((r229.2.1 0 44) + 1)) x1).bind fun r232 =>
                   (rc (pr_sI r229.2 0 44 ((r229.2.1 0 44) + 1)) r232 x3 x6 ((r229.2.1 0 44) + 1)).bind fun r233 =>
                   (prf_X_second r233 x1).bind fun r234 =>
                   (prf_X_behind r233 r234).bind fun r235 =>
                   (prf_X_behind r233 x1).bind fun r236 =>
                   if r236 ≤ r235 then
                    pr_ck x6 250 <|
                    some (pr_sA r233 22 (upd (r233.2.1 22) x6.toNatClampNeg (r233.1 0 33)))
                   else
                    (prf_X_second (pr_sI r233 0 44 ((r233.1 0 44) + 1)) x1).bind fun r239 =>
                    (prf_X_behind (pr_sI r233 0 44 ((r233.1 0 44) + 1)) r239).bind fun r240 =>
                    (rc (pr_sI r233 0 44 ((r233.1 0 44) + 1)) r240 x3 x6 ((r233.1 0 44) + 1)).bind fun r241 =>
                    pr_ck x6 250 <|
                    some (pr_sA r241 22 (upd (r241.2.1 22) x6.toNatClampNeg (r241.1 0 33)))
                 else
                   if ((σ.2.1 13) x1.toNatClampNeg) = 10 then
                    (prf_X_lookAll σ (x1 + 1)).bind fun r244 =>
                    pr_ck x6 250 <|
                    some (pr_sA r244.2 22 (upd (r244.2.2.1 22) x6.toNatClampNeg (r244.2.1 0 33)))
                   else
                     (prf_X_blockOf σ x3).bind fun r246 =>
                     if r246 = x2 then
                      (prf_X_lastStatement σ x2).bind fun r248 =>
                      if r248 = x1 then
                       (prf_X_behind σ x3).bind fun r250 =>
                       if r250 = (σ.1 0 24) then
                        if (1 : Int32) = 0 then
                         (prf_X_wrong σ 6 x1).bind fun r257 =>
                         if r257.1 = 0 then
                          pr_ck x6 250 <|
                          some (pr_sA r257.2 22 (upd (r257.2.2.1 22) x6.toNatClampNeg (r257.2.1 0 33)))
                         else
                          prf_X_statement5_654 rc r257.2 x1 x6 1
                        else
                         prf_X_statement5_654 rc σ x1 x6 1
                       else
                        if (1 : Int32) = 0 then
                         (prf_X_wrong σ 6 x1).bind fun r253 =>
                         if r253.1 = 0 then
                          pr_ck x6 250 <|
                          some (pr_sA r253.2 22 (upd (r253.2.2.1 22) x6.toNatClampNeg (r253.2.1 0 33)))
                         else
                          prf_X_statement5_654 rc r253.2 x1 x6 0
                        else
                         prf_X_statement5_654 rc σ x1 x6 0
                      else
                       prf_X_statement5_617 rc σ x1 x3 x6
                     else
                      prf_X_statement5_617 rc σ x1 x3 x6
    else
     pr_ck x7 40 <|
     pr_ck (((40 * x6) + x7) - (σ.1 0 43)) 10040 <|
     pr_ck x7 40 <|
     pr_ck (((40 * x6) + x7) - (σ.1 0 43)) 10040 <|
     pr_ck x7 40 <|
     pr_ck (((40 * x6) + x7) - (σ.1 0 43)) 10040 <|
     prf_X_statement5_96 rc n (pr_sA (pr_sA (pr_sA σ 26 (upd (σ.2.1 26) (((40 * x6) + x7) - (σ.1 0 43)).toNatClampNeg ((σ.2.1 29) x7.toNatClampNeg))) 27 (upd (σ.2.1 27) (((40 * x6) + x7) - (σ.1 0 43)).toNatClampNeg ((σ.2.1 30) x7.toNatClampNeg))) 28 (upd (σ.2.1 28) (((40 * x6) + x7) - (σ.1 0 43)).toNatClampNeg ((σ.2.1 31) x7.toNatClampNeg))) x1 x2 x3 x5 x6 (x7 + 1)
def prf_X_statement5 (rc : pr_St → Int32 → Int32 → Int32 → Int32 → Option pr_St) (σ : pr_St) (x1 : Int32) (x2 : Int32) (x3 : Int32) (x4 : Int32) (x5 : Int32) : Option pr_St :=
  if (σ.1 0 33) = 249 then
   (prf_X_wrong σ 11 x1).bind fun r272 =>
   some r272.2
  else
   pr_ck (σ.1 0 33) 250 <|
   pr_ck (σ.1 0 33) 250 <|
   pr_ck (σ.1 0 33) 250 <|
   pr_ck (σ.1 0 33) 250 <|
   pr_ck (σ.1 0 33) 251 <|
   prf_X_statement5_96 rc pr_FU (pr_sA (pr_sA (pr_sA (pr_sA (pr_sA (pr_sI σ 0 33 ((σ.1 0 33) + 1)) 20 (upd (σ.2.1 20) (σ.1 0 33).toNatClampNeg x1)) 21 (upd (σ.2.1 21) (σ.1 0 33).toNatClampNeg x4)) 23 (upd (σ.2.1 23) (σ.1 0 33).toNatClampNeg (σ.1 0 45))) 24 (upd (σ.2.1 24) (σ.1 0 33).toNatClampNeg (σ.1 0 46))) 25 (upd (σ.2.1 25) (σ.1 0 33).toNatClampNeg ((σ.1 0 42) - (σ.1 0 43)))) x1 x2 x3 x5 (σ.1 0 33) (σ.1 0 43)
def prf_X_block4_23 (rc : pr_St → Int32 → Int32 → Int32 → Int32 → Option pr_St) (fu : Nat) (σ : pr_St) (x1 : Int32) (x2 : Int32) (x3 : Int32) (x4 : Int32) (x5 : Int32) (x6 : Int32) (x7 : Int32) (x8 : Int32) : Option pr_St := match fu with
  | 0 => none
  | n + 1 =>
    (prf_X_behind σ x1).bind fun r6 =>
    if r6 ≤ x8 then
     some (pr_sI (pr_sI (pr_sI σ 0 42 x5) 0 45 x6) 0 46 x7)
    else
     if (σ.1 0 47) = 0 then
      (prf_X_statement5 rc σ x8 x1 x2 x3 x4).bind fun r9 =>
      (prf_X_behind r9 x8).bind fun r10 =>
      prf_X_block4_23 rc n r9 x1 x2 x3 x4 x5 x6 x7 r10
     else
      some (pr_sI (pr_sI (pr_sI σ 0 42 x5) 0 45 x6) 0 46 x7)
def prf_X_block4 (rc : pr_St → Int32 → Int32 → Int32 → Int32 → Option pr_St) (σ : pr_St) (x1 : Int32) (x2 : Int32) (x3 : Int32) (x4 : Int32) : Option pr_St :=
  prf_X_block4_23 rc pr_FU σ x1 x2 x3 x4 (σ.1 0 42) (σ.1 0 45) (σ.1 0 46) (x1 + 1)
def prF_X_block4 : Nat → pr_St → Int32 → Int32 → Int32 → Int32 → Option pr_St
  | 0 => fun _ _ _ _ _ => none
  | n + 1 => fun σ x1 x2 x3 x4 => prf_X_block4 (prF_X_block4 n) σ x1 x2 x3 x4

def prf_X_layout_4 (fu : Nat) (σ : pr_St) (x1 : Int32) (x2 : Int32) : Option pr_St := match fu with
  | 0 => none
  | n + 1 =>
    if (σ.1 0 24) ≤ x2 then
     pr_ck (x1 + 2) 13000 <|
     if ((σ.2.1 13) (x1 + 2).toNatClampNeg) = 13 then
      (prf_X_wrong (pr_sI (pr_sI (pr_sI (pr_sI (pr_sI (pr_sI σ 0 33 0) 0 42 0) 0 43 0) 0 44 0) 0 45 0) 0 46 0) 7 (x1 + 1)).bind fun r27 =>
      some r27.2
     else
      (prf_X_blockOf (pr_sI (pr_sI (pr_sI (pr_sI (pr_sI (pr_sI σ 0 33 0) 0 42 0) 0 43 0) 0 44 0) 0 45 0) 0 46 0) x1).bind fun r18 =>
      (prf_X_block4 (prF_X_block4 260) (pr_sI (pr_sI (pr_sI (pr_sI (pr_sI (pr_sI σ 0 33 0) 0 42 0) 0 43 0) 0 44 0) 0 45 0) 0 46 0) r18 x1 (-1) 0).bind fun r19 =>
      if (r19.1 0 47) = 0 then
       pr_ck (r19.1 0 33) 250 <|
       pr_ck (r19.1 0 33) 250 <|
       pr_ck (r19.1 0 33) 250 <|
       pr_ck (r19.1 0 33) 250 <|
       pr_ck (r19.1 0 33) 250 <|
       pr_ck (r19.1 0 33) 251 <|
       some (pr_sI (pr_sA (pr_sA (pr_sA (pr_sA (pr_sA (pr_sA r19 20 (upd (r19.2.1 20) (r19.1 0 33).toNatClampNeg (-1))) 21 (upd (r19.2.1 21) (r19.1 0 33).toNatClampNeg (-1))) 23 (upd (r19.2.1 23) (r19.1 0 33).toNatClampNeg 0)) 24 (upd (r19.2.1 24) (r19.1 0 33).toNatClampNeg 0)) 22 (upd (r19.2.1 22) (r19.1 0 33).toNatClampNeg ((r19.1 0 33) + 1))) 25 (upd (r19.2.1 25) (r19.1 0 33).toNatClampNeg 0)) 0 33 ((r19.1 0 33) + 1))
      else
       some r19
    else
     (prf_X_behind σ x2).bind fun r28 =>
     prf_X_layout_4 n σ x2 r28
def prf_X_layout (σ : pr_St)  : Option pr_St :=
  prf_X_layout_4 pr_FU σ (-1) 1
def prf_X_end_93 (σ : pr_St)  : Option (Int32 × pr_St) :=
  if (σ.1 0 9) = 0 then
   (prf_X_nothing (pr_sI (pr_sI (pr_sI σ 0 2 0) 0 47 0) 0 48 0)).bind fun r41 =>
   if (r41.1 0 9) = 0 then
    if (r41.1 0 9) = 0 then
     (prf_X_layout (pr_sI r41 0 49 0)).bind fun r46 =>
     if (r46.1 0 47) ≤ 0 then
      some ((r46.1 0 49), r46)
     else
      (prf_X_nothing (pr_sI r46 0 49 2)).bind fun r48 =>
      some ((r48.1 0 49), r48)
    else
     if (r41.1 0 47) ≤ 0 then
      some (0, (pr_sI r41 0 49 0))
     else
      (prf_X_nothing (pr_sI (pr_sI r41 0 49 0) 0 49 2)).bind fun r45 =>
      some ((r45.1 0 49), r45)
   else
    if (r41.1 0 9) = 0 then
     (prf_X_layout (pr_sI r41 0 49 1)).bind fun r52 =>
     if (r52.1 0 47) ≤ 0 then
      some ((r52.1 0 49), r52)
     else
      (prf_X_nothing (pr_sI r52 0 49 2)).bind fun r54 =>
      some ((r54.1 0 49), r54)
    else
     if (r41.1 0 47) ≤ 0 then
      some (1, (pr_sI r41 0 49 1))
     else
      (prf_X_nothing (pr_sI (pr_sI r41 0 49 1) 0 49 2)).bind fun r51 =>
      some ((r51.1 0 49), r51)
  else
   (prf_X_nothing (pr_sI (pr_sI (pr_sI σ 0 2 0) 0 47 0) 0 48 (σ.1 0 10))).bind fun r55 =>
   if (r55.1 0 9) = 0 then
    if (r55.1 0 9) = 0 then
     (prf_X_layout (pr_sI r55 0 49 0)).bind fun r60 =>
     if (r60.1 0 47) ≤ 0 then
      some ((r60.1 0 49), r60)
     else
      (prf_X_nothing (pr_sI r60 0 49 2)).bind fun r62 =>
      some ((r62.1 0 49), r62)
    else
     if (r55.1 0 47) ≤ 0 then
      some (0, (pr_sI r55 0 49 0))
     else
      (prf_X_nothing (pr_sI (pr_sI r55 0 49 0) 0 49 2)).bind fun r59 =>
      some ((r59.1 0 49), r59)
   else
    if (r55.1 0 9) = 0 then
     (prf_X_layout (pr_sI r55 0 49 1)).bind fun r66 =>
     if (r66.1 0 47) ≤ 0 then
      some ((r66.1 0 49), r66)
     else
      (prf_X_nothing (pr_sI r66 0 49 2)).bind fun r68 =>
      some ((r68.1 0 49), r68)
    else
     if (r55.1 0 47) ≤ 0 then
      some (1, (pr_sI r55 0 49 1))
     else
      (prf_X_nothing (pr_sI (pr_sI r55 0 49 1) 0 49 2)).bind fun r65 =>
      some ((r65.1 0 49), r65)
def prf_X_end_79 (kk57 : pr_St → Option (Int32 × pr_St)) (σ : pr_St)  : Option (Int32 × pr_St) :=
  (prf_X_look σ).bind fun r69 =>
  if r69 = 0 then
   prf_X_end_93 σ
  else
   if (σ.1 0 9) = 0 then
    kk57 σ
   else
    prf_X_end_93 σ
def prf_X_end_57 (fu : Nat) (σ : pr_St)  : Option (Int32 × pr_St) := match fu with
  | 0 => none
  | n + 1 =>
    (prf_X_function (pr_sI σ 0 17 0)).bind fun r72 =>
    if (r72.2.1 0 9) = 0 then
     (prf_X_keep r72.2 r72.1).bind fun r74 =>
     prf_X_end_79 (prf_X_end_57 n) r74
    else
     prf_X_end_79 (prf_X_end_57 n) r72.2
def prf_X_end (σ : pr_St) (x1 : Int32) : Option (Int32 × pr_St) :=
  if x1 < 0 then
   some ((-1), σ)
  else
   if x1 ≤ (σ.1 0 2) then
    (prf_X_add (pr_sI (pr_sI (pr_sI σ 0 3 x1) 0 24 0) 0 27 0) 0 0 0 (-1)).bind fun r77 =>
    (prf_X_scan r77.2).bind fun r78 =>
    prf_X_end_57 pr_FU (pr_sI (pr_sI (pr_sI r78 0 8 0) 0 9 0) 0 10 (-1))
   else
    some ((-1), σ)
def prf_X_told (σ : pr_St) (x1 : Int32) : Option Int32 :=
  if (σ.1 0 49) = (-1) then
   some (-1)
  else
   if x1 < 0 then
    some (-1)
   else
    if x1 ≤ 1 then
     if x1 = 0 then
      some (σ.1 0 47)
     else
      some (σ.1 0 48)
    else
     some (-1)
def prf_X_points (σ : pr_St)  : Option Int32 :=
  some (σ.1 0 33)
def prf_X_after_2 (fu : Nat) (σ : pr_St) (x2 : Int32) : Option Int32 := match fu with
  | 0 => none
  | n + 1 =>
    pr_ck x2 250 <|
    if ((σ.2.1 20) x2.toNatClampNeg) = (-1) then
     some x2
    else
     pr_ck x2 250 <|
     (prf_X_behind σ ((σ.2.1 20) x2.toNatClampNeg)).bind fun r18 =>
     pr_ck ((σ.2.1 20) x2.toNatClampNeg) 13000 <|
     (prf_X_behind σ ((σ.2.1 16) ((σ.2.1 20) x2.toNatClampNeg).toNatClampNeg)).bind fun r20 =>
     if r20 ≤ r18 then
      pr_ck x2 250 <|
      if ((σ.2.1 21) x2.toNatClampNeg) = (-1) then
       some ((σ.1 0 33) - 1)
      else
       pr_ck x2 250 <|
       pr_ck ((σ.2.1 21) x2.toNatClampNeg) 250 <|
       pr_ck ((σ.2.1 20) ((σ.2.1 21) x2.toNatClampNeg).toNatClampNeg) 13000 <|
       if ((σ.2.1 13) ((σ.2.1 20) ((σ.2.1 21) x2.toNatClampNeg).toNatClampNeg).toNatClampNeg) = 9 then
        some ((σ.2.1 21) x2.toNatClampNeg)
       else
        prf_X_after_2 n σ ((σ.2.1 21) x2.toNatClampNeg)
     else
      pr_ck x2 250 <|
      some ((σ.2.1 22) x2.toNatClampNeg)
def prf_X_after (σ : pr_St) (x1 : Int32) : Option Int32 :=
  prf_X_after_2 pr_FU σ x1
def prf_X_point (σ : pr_St) (x1 : Int32) (x2 : Int32) : Option Int32 :=
  if x1 < 0 then
   some (-1)
  else
   if (σ.1 0 33) ≤ x1 then
    some (-1)
   else
    if x2 < 0 then
     some (-1)
    else
     if x2 ≤ 4 then
      pr_ck x1 250 <|
      if x2 = 0 then
       if ((σ.2.1 20) x1.toNatClampNeg) = (-1) then
        if (0 : Int32) = 0 then
         some 0
        else
         if 5 ≤ (0 : Int32) then
          some (0 - 3)
         else
          some 1
       else
        pr_ck ((σ.2.1 20) x1.toNatClampNeg) 13000 <|
        if ((σ.2.1 13) ((σ.2.1 20) x1.toNatClampNeg).toNatClampNeg) = 0 then
         some 0
        else
         if 5 ≤ ((σ.2.1 13) ((σ.2.1 20) x1.toNatClampNeg).toNatClampNeg) then
          some (((σ.2.1 13) ((σ.2.1 20) x1.toNatClampNeg).toNatClampNeg) - 3)
         else
          some 1
      else
       if x2 = 1 then
        if ((σ.2.1 20) x1.toNatClampNeg) = (-1) then
         some 0
        else
         pr_ck ((σ.2.1 20) x1.toNatClampNeg) 13000 <|
         some ((σ.2.1 14) ((σ.2.1 20) x1.toNatClampNeg).toNatClampNeg)
       else
        if x2 = 2 then
         pr_ck x1 250 <|
         some ((σ.2.1 23) x1.toNatClampNeg)
        else
         if x2 = 3 then
          pr_ck x1 250 <|
          some ((σ.2.1 24) x1.toNatClampNeg)
         else
          (prf_X_after σ x1).bind fun r30 =>
          some r30
     else
      some (-1)
def prf_X_input (σ : pr_St) (x1 : Int32) : Option (Int32 × pr_St) :=
  if (σ.1 0 51) = 400 then
   some ((-1), σ)
  else
   pr_ck (σ.1 0 51) 400 <|
   some (((σ.1 0 51) + 1), (pr_sI (pr_sA σ 33 (upd (σ.2.1 33) (σ.1 0 51).toNatClampNeg x1)) 0 51 ((σ.1 0 51) + 1)))
def prf_X_drop (σ : pr_St)  : Option (Int32 × pr_St) :=
  some ((σ.1 0 51), (pr_sI σ 0 51 0))
def prf_X_meantAt_12 (fu : Nat) (σ : pr_St) (x1 : Int32) (x2 : Int32) : Option Int32 := match fu with
  | 0 => none
  | n + 1 =>
    if x2 < 0 then
     some (-1)
    else
     pr_ck ((40 * (σ.1 0 55)) + x2) 10040 <|
     if ((σ.2.1 26) ((40 * (σ.1 0 55)) + x2).toNatClampNeg) = x1 then
      some ((40 * (σ.1 0 55)) + x2)
     else
      prf_X_meantAt_12 n σ x1 (x2 + (-1))
def prf_X_meantAt (σ : pr_St) (x1 : Int32) : Option Int32 :=
  pr_ck (σ.1 0 55) 251 <|
  prf_X_meantAt_12 pr_FU σ x1 (((σ.2.1 25) (σ.1 0 55).toNatClampNeg) - 1)
def prf_X_trapped (σ : pr_St) (x1 : Int32) : Option (Int64 × pr_St) :=
  if (σ.1 0 59) = 0 then
   some (0, (pr_sI σ 0 59 x1))
  else
   some (0, (pr_sI σ 0 59 (σ.1 0 59)))
def prf_X_whole (σ : pr_St) (x1 : Int64) : Option (Int64 × pr_St) :=
  if (lg_cmp x1 (-2147483648)) < 0 then
   (prf_X_trapped σ 1).bind fun r6 =>
   some (r6.1, r6.2)
  else
   if (lg_cmp x1 2147483647) ≤ 0 then
    some (x1, σ)
   else
    (prf_X_trapped σ 1).bind fun r8 =>
    some (r8.1, r8.2)
def prf_X_next (σ : pr_St)  : Option (Int32 × pr_St) :=
  if (σ.1 0 51) < ((σ.1 0 58) + 1) then
   some (0, (pr_sI σ 0 58 ((σ.1 0 58) + 1)))
  else
   pr_ck (((σ.1 0 58) + 1) - 1) 400 <|
   some (((σ.2.1 33) (((σ.1 0 58) + 1) - 1).toNatClampNeg), (pr_sI σ 0 58 ((σ.1 0 58) + 1)))
def prf_X_operated_19 (σ : pr_St) (x1 : Int32) (x2 : Int64) (x4 : Int64) : Option (Int64 × pr_St) :=
  if x1 = 18 then
   (prf_X_whole σ (x2 + x4)).bind fun r25 =>
   some (r25.1, r25.2)
  else
   if x1 = 19 then
    (prf_X_whole σ (x2 - x4)).bind fun r24 =>
    some (r24.1, r24.2)
   else
    if x1 = 21 then
     (prf_X_whole σ (x2 * x4)).bind fun r23 =>
     some (r23.1, r23.2)
    else
     if x1 = 22 then
      pr_nzl x4 <|
      (prf_X_whole σ (x2 / x4)).bind fun r22 =>
      some (r22.1, r22.2)
     else
      pr_nzl x4 <|
      (prf_X_whole σ (x2 - x2 / x4 * x4)).bind fun r20 =>
      some (r20.1, r20.2)
def prf_X_operated (σ : pr_St) (x1 : Int32) (x2 : Int64) (x4 : Int64) : Option (Int64 × pr_St) :=
  if x1 ≤ 21 then
   prf_X_operated_19 σ x1 x2 x4
  else
   if (lg_cmp x4 0) = 0 then
    (prf_X_trapped σ 2).bind fun r28 =>
    some (r28.1, r28.2)
   else
    prf_X_operated_19 σ x1 x2 x4
def prf_X_placeOf_50 (rc : pr_St → Int32 → Option (Int64 × pr_St)) (σ : pr_St) (x3 : Int64) (x5 : Int32) : Option (Int32 × pr_St) :=
  if (σ.1 0 59) ≤ 0 then
   pr_ck x5 10040 <|
   some (((64 * ((σ.2.1 27) x5.toNatClampNeg)) + x3.toInt32), σ)
  else
   some (0, σ)
def prf_X_placeOf_44 (rc : pr_St → Int32 → Option (Int64 × pr_St)) (σ : pr_St) (x3 : Int64) (x5 : Int32) : Option (Int32 × pr_St) :=
  (prf_X_trapped σ 4).bind fun r13 =>
  prf_X_placeOf_50 rc r13.2 x3 x5
def prf_X_placeOf (rc : pr_St → Int32 → Option (Int64 × pr_St)) (σ : pr_St) (x1 : Int32) (x2 : Int32) : Option (Int32 × pr_St) :=
  (rc σ x2).bind fun r14 =>
  pr_ck x1 13000 <|
  (prf_X_meantAt r14.2 ((r14.2.2.1 15) x1.toNatClampNeg)).bind fun r16 =>
  if (r14.2.1 0 59) = 0 then
   if (lg_cmp r14.1 0) < 0 then
    prf_X_placeOf_44 rc r14.2 r14.1 r16
   else
    pr_ck r16 10040 <|
    if (lg_cmp r14.1 (((r14.2.2.1 28) r16.toNatClampNeg).toInt64)) < 0 then
     prf_X_placeOf_50 rc r14.2 r14.1 r16
    else
     prf_X_placeOf_44 rc r14.2 r14.1 r16
  else
   prf_X_placeOf_50 rc r14.2 r14.1 r16
def prf_X_reckon_192 (rc : pr_St → Int32 → Option (Int64 × pr_St)) (fu : Nat) (σ : pr_St) (x1 : Int32) (x2 : Int64) (x4 : Int32) : Option (Int64 × pr_St) := match fu with
  | 0 => none
  | n + 1 =>
    (prf_X_behind σ x1).bind fun r39 =>
    if r39 ≤ x4 then
     some (x2, σ)
    else
     if (σ.1 0 59) = 0 then
      (rc σ (x4 + 1)).bind fun r42 =>
      if (r42.2.1 0 59) = 0 then
       pr_ck x4 13000 <|
       (prf_X_operated r42.2 ((r42.2.2.1 13) x4.toNatClampNeg) x2 r42.1).bind fun r46 =>
       (prf_X_behind r46.2 x4).bind fun r47 =>
       prf_X_reckon_192 rc n r46.2 x1 r46.1 r47
      else
       (prf_X_behind r42.2 x4).bind fun r44 =>
       prf_X_reckon_192 rc n r42.2 x1 x2 r44
     else
      some (x2, σ)
def prf_X_reckon (rc : pr_St → Int32 → Option (Int64 × pr_St)) (σ : pr_St) (x1 : Int32) : Option (Int64 × pr_St) :=
  if (σ.1 0 59) ≤ 0 then
   pr_ck x1 13000 <|
   if ((σ.2.1 13) x1.toNatClampNeg) = 12 then
    pr_ck x1 13000 <|
    some (((σ.2.1 15) x1.toNatClampNeg).toInt64, σ)
   else
     if ((σ.2.1 13) x1.toNatClampNeg) = 13 then
      pr_ck x1 13000 <|
      (prf_X_meantAt σ ((σ.2.1 15) x1.toNatClampNeg)).bind fun r54 =>
      pr_ck r54 10040 <|
      pr_ck ((σ.2.1 27) r54.toNatClampNeg) 12 <|
      some (((σ.2.1 34) ((σ.2.1 27) r54.toNatClampNeg).toNatClampNeg).toInt64, σ)
     else
       if ((σ.2.1 13) x1.toNatClampNeg) = 14 then
        (prf_X_second σ x1).bind fun r58 =>
        (prf_X_placeOf rc σ (x1 + 1) r58).bind fun r59 =>
        if (r59.2.1 0 59) ≤ 0 then
         pr_ck r59.1 384 <|
         some (((r59.2.2.1 35) r59.1.toNatClampNeg).toInt64, r59.2)
        else
         some (0, r59.2)
       else
         if ((σ.2.1 13) x1.toNatClampNeg) = 15 then
          (rc σ (x1 + 1)).bind fun r63 =>
          (prf_X_whole r63.2 (-r63.1)).bind fun r64 =>
          some (r64.1, r64.2)
         else
           if ((σ.2.1 13) x1.toNatClampNeg) = 16 then
            (prf_X_next σ).bind fun r66 =>
            pr_ck x1 13000 <|
            if ((r66.2.2.1 17) x1.toNatClampNeg) = 1 then
             some (r66.1.toInt64, r66.2)
            else
             pr_ck (x1 + 1) 13000 <|
             if r66.1 < ((r66.2.2.1 15) (x1 + 1).toNatClampNeg) then
              pr_ck (x1 + 1) 13000 <|
              some (((r66.2.2.1 15) (x1 + 1).toNatClampNeg).toInt64, r66.2)
             else
              pr_ck (x1 + 2) 13000 <|
              if ((r66.2.2.1 15) (x1 + 2).toNatClampNeg) < r66.1 then
               pr_ck (x1 + 1) 13000 <|
               some (((r66.2.2.1 15) (x1 + 1).toNatClampNeg).toInt64, r66.2)
              else
               some (r66.1.toInt64, r66.2)
           else
             (rc σ (x1 + 1)).bind fun r75 =>
             (prf_X_second r75.2 x1).bind fun r76 =>
             prf_X_reckon_192 rc pr_FU r75.2 x1 r75.1 r76
  else
   some (0, σ)
def prF_X_reckon : Nat → pr_St → Int32 → Option (Int64 × pr_St)
  | 0 => fun _ _ => none
  | n + 1 => fun σ x1 => prf_X_reckon (prF_X_reckon n) σ x1

def prf_X_holds_79 (rc : pr_St → Int32 → Option (Int32 × pr_St)) (fu : Nat) (σ : pr_St) (x1 : Int32) (x2 : Int32) (x3 : Int32) : Option (Int32 × pr_St) := match fu with
  | 0 => none
  | n + 1 =>
    (prf_X_behind σ x1).bind fun r36 =>
    if r36 ≤ x3 then
     pr_z x2 <|
     some (x2, σ)
    else
     if (σ.1 0 59) = 0 then
      (rc σ x3).bind fun r41 =>
      if r41.1 = x2 then
       (prf_X_behind r41.2 x3).bind fun r43 =>
       prf_X_holds_79 rc n r41.2 x1 x2 r43
      else
       if x2 = 0 then
        some (1, r41.2)
       else
        some (0, r41.2)
     else
      pr_z x2 <|
      some (x2, σ)
def prf_X_holds_58 (rc : pr_St → Int32 → Option (Int32 × pr_St)) (σ : pr_St) (x1 : Int32) : Option (Int32 × pr_St) :=
  pr_ck x1 13000 <|
  if ((σ.2.1 13) x1.toNatClampNeg) = 25 then
   prf_X_holds_79 rc pr_FU σ x1 1 (x1 + 1)
  else
   prf_X_holds_79 rc pr_FU σ x1 0 (x1 + 1)
def prf_X_holds (rc : pr_St → Int32 → Option (Int32 × pr_St)) (σ : pr_St) (x1 : Int32) : Option (Int32 × pr_St) :=
  if (σ.1 0 59) ≤ 0 then
   pr_ck x1 13000 <|
   if ((σ.2.1 13) x1.toNatClampNeg) = 26 then
    (rc σ (x1 + 1)).bind fun r69 =>
    if r69.1 = 0 then
     some (1, r69.2)
    else
     some (0, r69.2)
   else
    pr_ck x1 13000 <|
    if ((σ.2.1 13) x1.toNatClampNeg) = 24 then
     prf_X_holds_58 rc σ x1
    else
     pr_ck x1 13000 <|
     if ((σ.2.1 13) x1.toNatClampNeg) = 25 then
      prf_X_holds_58 rc σ x1
     else
      (prf_X_reckon (prF_X_reckon 200) σ (x1 + 1)).bind fun r54 =>
      (prf_X_second r54.2 x1).bind fun r55 =>
      (prf_X_reckon (prF_X_reckon 200) r54.2 r55).bind fun r56 =>
      pr_ck x1 13000 <|
      if ((r56.2.2.1 13) x1.toNatClampNeg) = 27 then
       if 0 ≤ (lg_cmp r54.1 r56.1) then
        some (0, r56.2)
       else
        some (1, r56.2)
      else
       if ((r56.2.2.1 13) x1.toNatClampNeg) = 28 then
        if 0 < (lg_cmp r54.1 r56.1) then
         some (0, r56.2)
        else
         some (1, r56.2)
       else
        if ((r56.2.2.1 13) x1.toNatClampNeg) = 29 then
         if (lg_cmp r54.1 r56.1) ≤ 0 then
          some (0, r56.2)
         else
          some (1, r56.2)
        else
         if ((r56.2.2.1 13) x1.toNatClampNeg) = 30 then
          if (lg_cmp r54.1 r56.1) < 0 then
           some (0, r56.2)
          else
           some (1, r56.2)
         else
          if ((r56.2.2.1 13) x1.toNatClampNeg) = 31 then
           if (lg_cmp r54.1 r56.1) = 0 then
            some (1, r56.2)
           else
            some (0, r56.2)
          else
           if (lg_cmp r54.1 r56.1) = 0 then
            some (0, r56.2)
           else
            some (1, r56.2)
  else
   some (0, σ)
def prF_X_holds : Nat → pr_St → Int32 → Option (Int32 × pr_St)
  | 0 => fun _ _ => none
  | n + 1 => fun σ x1 => prf_X_holds (prF_X_holds n) σ x1

def prf_X_goal_39 (fu : Nat) (σ : pr_St) (x2 : Int32) (x3 : Int32) (x4 : Int32) : Option Int32 := match fu with
  | 0 => none
  | n + 1 =>
    if x4 < 0 then
     some (-1)
    else
     pr_ck ((40 * x2) + x4) 10040 <|
     pr_ck (x3 + 1) 13000 <|
     if ((σ.2.1 26) ((40 * x2) + x4).toNatClampNeg) = ((σ.2.1 15) (x3 + 1).toNatClampNeg) then
      pr_ck ((40 * x2) + x4) 10040 <|
      some ((σ.2.1 27) ((40 * x2) + x4).toNatClampNeg)
     else
      prf_X_goal_39 n σ x2 x3 (x4 + (-1))
def prf_X_goal (σ : pr_St) (x1 : Int32) : Option Int32 :=
  pr_ck x1 250 <|
  pr_ck ((σ.2.1 21) x1.toNatClampNeg) 250 <|
  pr_ck (((σ.2.1 20) ((σ.2.1 21) x1.toNatClampNeg).toNatClampNeg) + 1) 13000 <|
  if ((σ.2.1 13) (((σ.2.1 20) ((σ.2.1 21) x1.toNatClampNeg).toNatClampNeg) + 1).toNatClampNeg) = 33 then
   some (-1)
  else
   pr_ck ((σ.2.1 21) x1.toNatClampNeg) 251 <|
   prf_X_goal_39 pr_FU σ ((σ.2.1 21) x1.toNatClampNeg) ((σ.2.1 20) ((σ.2.1 21) x1.toNatClampNeg).toNatClampNeg) (((σ.2.1 25) ((σ.2.1 21) x1.toNatClampNeg).toNatClampNeg) - 1)
def prf_X_otherBlock_19 (fu : Nat) (σ : pr_St) (x1 : Int32) (x2 : Int32) (x3 : Int32) : Option Int32 := match fu with
  | 0 => none
  | n + 1 =>
    pr_ck x3 250 <|
    if ((σ.2.1 21) x3.toNatClampNeg) = x1 then
     pr_ck x3 250 <|
     pr_ck ((σ.2.1 20) x3.toNatClampNeg) 13000 <|
     if ((σ.2.1 16) ((σ.2.1 20) x3.toNatClampNeg).toNatClampNeg) = x2 then
      some x3
     else
      prf_X_otherBlock_19 n σ x1 x2 (x3 + 1)
    else
     prf_X_otherBlock_19 n σ x1 x2 (x3 + 1)
def prf_X_otherBlock (σ : pr_St) (x1 : Int32) : Option Int32 :=
  pr_ck x1 250 <|
  (prf_X_second σ ((σ.2.1 20) x1.toNatClampNeg)).bind fun r15 =>
  (prf_X_behind σ r15).bind fun r16 =>
  prf_X_otherBlock_19 pr_FU σ x1 r16 (x1 + 1)
def prf_X_step_117 (fu : Nat) (σ : pr_St) (x1 : Int32) (x5 : Int32) : Option (Int32 × pr_St) := match fu with
  | 0 => none
  | n + 1 =>
    if 64 ≤ x5 then
     (prf_X_after σ x1).bind fun r99 =>
     some (r99, σ)
    else
     pr_ck x1 250 <|
     pr_ck ((64 * ((σ.2.1 24) x1.toNatClampNeg)) + x5) 384 <|
     prf_X_step_117 n (pr_sA σ 35 (upd (σ.2.1 35) ((64 * ((σ.2.1 24) x1.toNatClampNeg)) + x5).toNatClampNeg 0)) x1 (x5 + 1)
def prf_X_step_348 (σ : pr_St) (x1 : Int32) : Option (Int32 × pr_St) :=
  pr_ck x1 250 <|
  if ((σ.2.1 22) x1.toNatClampNeg) ≤ (x1 + 1) then
   (prf_X_after σ x1).bind fun r104 =>
   some (r104, σ)
  else
   some ((x1 + 1), σ)
def prf_X_step_306 (fu : Nat) (σ : pr_St) (x1 : Int32) (x6 : Int32) (x7 : Int32) : Option (Int32 × pr_St) := match fu with
  | 0 => none
  | n + 1 =>
    if x6 ≤ x7 then
     prf_X_step_348 σ x1
    else
     if (σ.1 0 59) = 0 then
      pr_ck x1 250 <|
      pr_ck x7 13 <|
      pr_ck (((σ.2.1 23) x1.toNatClampNeg) + x7) 12 <|
      prf_X_step_306 n (pr_sA σ 34 (upd (σ.2.1 34) (((σ.2.1 23) x1.toNatClampNeg) + x7).toNatClampNeg (((σ.2.2 36) x7.toNatClampNeg).toInt32))) x1 x6 (x7 + 1)
     else
      prf_X_step_348 σ x1
def prf_X_step_259 (fu : Nat) (σ : pr_St) (x1 : Int32) (x2 : Int32) (x6 : Int32) (x7 : Int32) : Option (Int32 × pr_St) := match fu with
  | 0 => none
  | n + 1 =>
    (prf_X_behind σ x2).bind fun r110 =>
    if r110 ≤ x7 then
     prf_X_step_306 pr_FU σ x1 x6 0
    else
     if (σ.1 0 59) = 0 then
      (prf_X_reckon (prF_X_reckon 200) σ x7).bind fun r113 =>
      pr_ck x6 13 <|
      (prf_X_behind (pr_sL r113.2 36 (vp_updL (r113.2.2.2 36) x6.toNatClampNeg r113.1)) x7).bind fun r115 =>
      prf_X_step_259 n (pr_sL r113.2 36 (vp_updL (r113.2.2.2 36) x6.toNatClampNeg r113.1)) x1 x2 (x6 + 1) r115
     else
      prf_X_step_306 pr_FU σ x1 x6 0
def prf_X_step (σ : pr_St)  : Option (Int32 × pr_St) :=
  pr_ck (σ.1 0 55) 250 <|
  pr_ck ((σ.2.1 20) (σ.1 0 55).toNatClampNeg) 13000 <|
  if ((σ.2.1 13) ((σ.2.1 20) (σ.1 0 55).toNatClampNeg).toNatClampNeg) = 3 then
   pr_ck ((σ.2.1 20) (σ.1 0 55).toNatClampNeg) 13000 <|
   if ((σ.2.1 17) ((σ.2.1 20) (σ.1 0 55).toNatClampNeg).toNatClampNeg) = 2 then
    if (σ.1 0 59) = 0 then
     pr_ck (σ.1 0 55) 250 <|
     pr_ck ((σ.2.1 23) (σ.1 0 55).toNatClampNeg) 12 <|
     (prf_X_after (pr_sA σ 34 (upd (σ.2.1 34) ((σ.2.1 23) (σ.1 0 55).toNatClampNeg).toNatClampNeg (Int64.toInt32 0))) (σ.1 0 55)).bind fun r132 =>
     some (r132, (pr_sA σ 34 (upd (σ.2.1 34) ((σ.2.1 23) (σ.1 0 55).toNatClampNeg).toNatClampNeg (Int64.toInt32 0))))
    else
     (prf_X_after σ (σ.1 0 55)).bind fun r129 =>
     some (r129, σ)
   else
    (prf_X_second σ ((σ.2.1 20) (σ.1 0 55).toNatClampNeg)).bind fun r121 =>
    (prf_X_reckon (prF_X_reckon 200) σ r121).bind fun r122 =>
    if (r122.2.1 0 59) = 0 then
     pr_ck (σ.1 0 55) 250 <|
     pr_ck ((r122.2.2.1 23) (σ.1 0 55).toNatClampNeg) 12 <|
     (prf_X_after (pr_sA r122.2 34 (upd (r122.2.2.1 34) ((r122.2.2.1 23) (σ.1 0 55).toNatClampNeg).toNatClampNeg r122.1.toInt32)) (σ.1 0 55)).bind fun r127 =>
     some (r127, (pr_sA r122.2 34 (upd (r122.2.2.1 34) ((r122.2.2.1 23) (σ.1 0 55).toNatClampNeg).toNatClampNeg r122.1.toInt32)))
    else
     (prf_X_after r122.2 (σ.1 0 55)).bind fun r124 =>
     some (r124, r122.2)
  else
    if ((σ.2.1 13) ((σ.2.1 20) (σ.1 0 55).toNatClampNeg).toNatClampNeg) = 4 then
     prf_X_step_117 pr_FU σ (σ.1 0 55) 0
    else
      if ((σ.2.1 13) ((σ.2.1 20) (σ.1 0 55).toNatClampNeg).toNatClampNeg) = 5 then
       (prf_X_second σ ((σ.2.1 20) (σ.1 0 55).toNatClampNeg)).bind fun r135 =>
       (prf_X_reckon (prF_X_reckon 200) σ r135).bind fun r136 =>
       if (r136.2.1 0 59) = 0 then
        pr_ck (((σ.2.1 20) (σ.1 0 55).toNatClampNeg) + 1) 13000 <|
        (prf_X_meantAt r136.2 ((r136.2.2.1 15) (((σ.2.1 20) (σ.1 0 55).toNatClampNeg) + 1).toNatClampNeg)).bind fun r140 =>
        pr_ck r140 10040 <|
        pr_ck ((r136.2.2.1 27) r140.toNatClampNeg) 12 <|
        (prf_X_after (pr_sA r136.2 34 (upd (r136.2.2.1 34) ((r136.2.2.1 27) r140.toNatClampNeg).toNatClampNeg r136.1.toInt32)) (σ.1 0 55)).bind fun r143 =>
        some (r143, (pr_sA r136.2 34 (upd (r136.2.2.1 34) ((r136.2.2.1 27) r140.toNatClampNeg).toNatClampNeg r136.1.toInt32)))
       else
        (prf_X_after r136.2 (σ.1 0 55)).bind fun r138 =>
        some (r138, r136.2)
      else
        if ((σ.2.1 13) ((σ.2.1 20) (σ.1 0 55).toNatClampNeg).toNatClampNeg) = 6 then
         (prf_X_second σ ((σ.2.1 20) (σ.1 0 55).toNatClampNeg)).bind fun r145 =>
         (prf_X_placeOf (prF_X_reckon 200) σ (((σ.2.1 20) (σ.1 0 55).toNatClampNeg) + 1) r145).bind fun r146 =>
         (prf_X_second r146.2 ((σ.2.1 20) (σ.1 0 55).toNatClampNeg)).bind fun r147 =>
         (prf_X_behind r146.2 r147).bind fun r148 =>
         (prf_X_reckon (prF_X_reckon 200) r146.2 r148).bind fun r149 =>
         if (r149.2.1 0 59) = 0 then
          pr_ck r146.1 384 <|
          (prf_X_after (pr_sA r149.2 35 (upd (r149.2.2.1 35) r146.1.toNatClampNeg r149.1.toInt32)) (σ.1 0 55)).bind fun r153 =>
          some (r153, (pr_sA r149.2 35 (upd (r149.2.2.1 35) r146.1.toNatClampNeg r149.1.toInt32)))
         else
          (prf_X_after r149.2 (σ.1 0 55)).bind fun r151 =>
          some (r151, r149.2)
        else
          if ((σ.2.1 13) ((σ.2.1 20) (σ.1 0 55).toNatClampNeg).toNatClampNeg) = 7 then
           prf_X_step_259 pr_FU σ (σ.1 0 55) ((σ.2.1 20) (σ.1 0 55).toNatClampNeg) 0 (((σ.2.1 20) (σ.1 0 55).toNatClampNeg) + 3)
          else
            if ((σ.2.1 13) ((σ.2.1 20) (σ.1 0 55).toNatClampNeg).toNatClampNeg) = 8 then
             (prf_X_holds (prF_X_holds 200) σ (((σ.2.1 20) (σ.1 0 55).toNatClampNeg) + 1)).bind fun r156 =>
             (prf_X_second r156.2 ((σ.2.1 20) (σ.1 0 55).toNatClampNeg)).bind fun r157 =>
             if (r156.2.1 0 59) ≤ 0 then
              if r156.1 = 0 then
               (prf_X_behind r156.2 r157).bind fun r160 =>
               (prf_X_behind r156.2 ((σ.2.1 20) (σ.1 0 55).toNatClampNeg)).bind fun r161 =>
               if r161 ≤ r160 then
                (prf_X_after r156.2 (σ.1 0 55)).bind fun r163 =>
                some (r163, r156.2)
               else
                (prf_X_behind r156.2 r157).bind fun r164 =>
                pr_ck r164 13000 <|
                if ((r156.2.2.1 17) r164.toNatClampNeg) ≤ 1 then
                 (prf_X_after r156.2 (σ.1 0 55)).bind fun r167 =>
                 some (r167, r156.2)
                else
                 (prf_X_otherBlock r156.2 (σ.1 0 55)).bind fun r168 =>
                 some (r168, r156.2)
              else
               pr_ck r157 13000 <|
               if ((r156.2.2.1 17) r157.toNatClampNeg) ≤ 1 then
                (prf_X_after r156.2 (σ.1 0 55)).bind fun r171 =>
                some (r171, r156.2)
               else
                some (((σ.1 0 55) + 1), r156.2)
             else
              some ((σ.1 0 55), r156.2)
            else
              if ((σ.2.1 13) ((σ.2.1 20) (σ.1 0 55).toNatClampNeg).toNatClampNeg) = 9 then
               (prf_X_holds (prF_X_holds 200) σ (((σ.2.1 20) (σ.1 0 55).toNatClampNeg) + 1)).bind fun r173 =>
               if (r173.2.1 0 59) ≤ 0 then
                if r173.1 = 0 then
                 (prf_X_after r173.2 (σ.1 0 55)).bind fun r179 =>
                 some (r179, r173.2)
                else
                 (prf_X_second r173.2 ((σ.2.1 20) (σ.1 0 55).toNatClampNeg)).bind fun r176 =>
                 pr_ck r176 13000 <|
                 if ((r173.2.2.1 17) r176.toNatClampNeg) ≤ 1 then
                  some ((σ.1 0 55), r173.2)
                 else
                  some (((σ.1 0 55) + 1), r173.2)
               else
                some ((σ.1 0 55), r173.2)
              else
                if ((σ.2.1 13) ((σ.2.1 20) (σ.1 0 55).toNatClampNeg).toNatClampNeg) = 10 then
                 (prf_X_holds (prF_X_holds 200) σ (((σ.2.1 20) (σ.1 0 55).toNatClampNeg) + 1)).bind fun r181 =>
                 if r181.1 = 0 then
                  (prf_X_trapped r181.2 8).bind fun r184 =>
                  (prf_X_after r184.2 (σ.1 0 55)).bind fun r185 =>
                  some (r185, r184.2)
                 else
                  (prf_X_after r181.2 (σ.1 0 55)).bind fun r183 =>
                  some (r183, r181.2)
                else
                  (prf_X_reckon (prF_X_reckon 200) σ (((σ.2.1 20) (σ.1 0 55).toNatClampNeg) + 1)).bind fun r186 =>
                  if (r186.2.1 0 59) = 0 then
                   (prf_X_goal r186.2 (σ.1 0 55)).bind fun r189 =>
                   if r189 = (-1) then
                    (prf_X_after r186.2 (σ.1 0 55)).bind fun r191 =>
                    some (r191, r186.2)
                   else
                    (prf_X_goal r186.2 (σ.1 0 55)).bind fun r192 =>
                    pr_ck r192 12 <|
                    (prf_X_after (pr_sA r186.2 34 (upd (r186.2.2.1 34) r192.toNatClampNeg r186.1.toInt32)) (σ.1 0 55)).bind fun r194 =>
                    some (r194, (pr_sA r186.2 34 (upd (r186.2.2.1 34) r192.toNatClampNeg r186.1.toInt32)))
                  else
                   (prf_X_after r186.2 (σ.1 0 55)).bind fun r188 =>
                   some (r188, r186.2)
def prf_X_run_98 (σ : pr_St)  : Option (Int32 × pr_St) :=
  if (σ.1 0 59) ≤ 0 then
   if (σ.1 0 55) = ((σ.1 0 33) - 1) then
    some (0, (pr_sI σ 0 57 (if (σ.1 0 51) < (σ.1 0 58) then (σ.1 0 51) else (σ.1 0 58))))
   else
    some (16, (pr_sI σ 0 57 (if (σ.1 0 51) < (σ.1 0 58) then (σ.1 0 51) else (σ.1 0 58))))
  else
   some ((σ.1 0 59), (pr_sI σ 0 57 (if (σ.1 0 51) < (σ.1 0 58) then (σ.1 0 51) else (σ.1 0 58))))
def prf_X_run_33 (fu : Nat) (σ : pr_St) (x1 : Int32) : Option (Int32 × pr_St) := match fu with
  | 0 => none
  | n + 1 =>
    if x1 ≤ (σ.1 0 56) then
     prf_X_run_98 σ
    else
     if (σ.1 0 59) = 0 then
      if ((σ.1 0 33) - 1) ≤ (σ.1 0 55) then
       prf_X_run_98 σ
      else
       (prf_X_step σ).bind fun r15 =>
       if (r15.2.1 0 59) = 0 then
        prf_X_run_33 n (pr_sI (pr_sI r15.2 0 56 ((r15.2.1 0 56) + 1)) 0 55 r15.1) x1
       else
        prf_X_run_33 n (pr_sI (pr_sI r15.2 0 56 ((r15.2.1 0 56) + 1)) 0 55 (r15.2.1 0 55)) x1
     else
      prf_X_run_98 σ
def prf_X_run (σ : pr_St) (x1 : Int32) : Option (Int32 × pr_St) :=
  if x1 < 0 then
   some ((-1), σ)
  else
   if x1 ≤ 2000 then
    prf_X_run_33 pr_FU (pr_sI (pr_sI (pr_sI (pr_sI σ 0 55 0) 0 56 0) 0 58 0) 0 59 0) x1
   else
    some ((-1), σ)
def prf_X_ran (σ : pr_St) (x1 : Int32) : Option Int32 :=
  if x1 = 0 then
   some (σ.1 0 55)
  else
   if x1 = 1 then
    some (σ.1 0 56)
   else
    if x1 = 2 then
     some (σ.1 0 57)
    else
     some (-1)
def prf_X_value (σ : pr_St) (x1 : Int32) : Option Int32 :=
  if x1 < 0 then
   some 0
  else
   pr_ck (σ.1 0 55) 250 <|
   if x1 < ((σ.2.1 23) (σ.1 0 55).toNatClampNeg) then
    pr_ck x1 12 <|
    some ((σ.2.1 34) x1.toNatClampNeg)
   else
    some 0
def prf_X_place (σ : pr_St) (x1 : Int32) (x2 : Int32) : Option Int32 :=
  if x1 < 0 then
   some 0
  else
   pr_ck (σ.1 0 55) 250 <|
   if ((σ.2.1 24) (σ.1 0 55).toNatClampNeg) ≤ x1 then
    some 0
   else
    if x2 < 0 then
     some 0
    else
     if x2 < 64 then
      pr_ck ((64 * x1) + x2) 384 <|
      some ((σ.2.1 35) ((64 * x1) + x2).toNatClampNeg)
     else
      some 0
