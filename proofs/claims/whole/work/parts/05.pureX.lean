noncomputable def f_X0_freePages (N : Nat → Nat) (fu : Nat) (S : es_St) : Option (Int32 × es_St) :=
  some (S.1 2, S)

noncomputable def f_X0_handOver_2 (N : Nat → Nat) (fu : Nat) : Nat → Int32 → Int32 → Int32 → es_St → Option (Int32 × es_St)
  | 0, _, _, _, _ => none
  | n + 1, x1, x2, x3, S =>
      if (nI (N 13)) ≤ x3 then
        some (0, S)
      else
        es_ck (vp_in x3 (N 13)) <|
        es_lt (es_rd S 13 x3) fun v3 =>
        if ¬ v3 = x1 then
          es_lt (x3 + 1) fun y5 =>
          (fun x1 x2 x3 S => f_X0_handOver_2 N fu n x1 x2 x3 S) x1 x2 y5 S
        else
          es_ck (vp_in x3 (N 13)) <|
          es_lt (es_wr S 13 x3 x2) fun S7 =>
          es_lt (x3 + 1) fun y8 =>
          (fun x1 x2 x3 S => f_X0_handOver_2 N fu n x1 x2 x3 S) x1 x2 y8 S7

noncomputable def f_X0_handOver (N : Nat → Nat) (fu : Nat) (S : es_St) (p1 : Int32) (p2 : Int32) : Option (Int32 × es_St) :=
  f_X0_handOver_2 N fu fu p1 p2 0 S

noncomputable def f_X0_isCell (N : Nat → Nat) (fu : Nat) (S : es_St) (p1 : Int32) (p2 : Int32) : Option (Int32 × es_St) :=
  if p1 < 0 then
    some (0, S)
  else
    if (S.1 0) ≤ p1 then
      some (0, S)
    else
      if p2 < 0 then
        some (0, S)
      else
        if (S.1 1) ≤ p2 then
          some (0, S)
        else
          some (1, S)

noncomputable def f_X0_isPage (N : Nat → Nat) (fu : Nat) (S : es_St) (p1 : Int32) : Option (Int32 × es_St) :=
  if p1 < 0 then
    some (0, S)
  else
    if (S.1 0) ≤ p1 then
      some (0, S)
    else
      some (1, S)

noncomputable def f_X0_keyAt (N : Nat → Nat) (fu : Nat) (S : es_St) (p1 : Int32) (p2 : Int32) : Option (Int32 × es_St) :=
  es_bd (f_X0_isCell N fu S p1 p2) fun r1 S2 =>
  if r1 = 0 then
    some (0, S2)
  else
    es_ck (vp_in ((p1 * (S2.1 1)) + p2) (N 11)) <|
    es_lt (es_rd S2 11 ((p1 * (S2.1 1)) + p2)) fun v6 =>
    some (v6, S2)

noncomputable def f_X0_link (N : Nat → Nat) (fu : Nat) (S : es_St) (p1 : Int32) (p2 : Int32) : Option (Int32 × es_St) :=
  es_bd (f_X0_isPage N fu S p1) fun r1 S2 =>
  if r1 = 0 then
    some (0, S2)
  else
    es_ck (vp_in p1 (N 14)) <|
    es_lt (es_wr S2 14 p1 p2) fun S6 =>
    some (0, S6)

noncomputable def f_X0_nextOf (N : Nat → Nat) (fu : Nat) (S : es_St) (p1 : Int32) : Option (Int32 × es_St) :=
  es_bd (f_X0_isPage N fu S p1) fun r1 S2 =>
  if r1 = 0 then
    some ((-1), S2)
  else
    es_ck (vp_in p1 (N 14)) <|
    es_lt (es_rd S2 14 p1) fun v6 =>
    some (v6, S2)

noncomputable def f_X0_pageOf_29 (N : Nat → Nat) (fu : Nat) : Nat → Int32 → Int32 → Int32 → es_St → Option (Int32 × es_St)
  | 0, _, _, _, _ => none
  | n + 1, x3, x4, x5, S =>
      if x3 ≤ x5 then
        some (x4, S)
      else
        es_bd (f_X0_nextOf N fu S x4) fun r3 S4 =>
        es_lt (x5 + 1) fun y6 =>
        (fun x3 x4 x5 S => f_X0_pageOf_29 N fu n x3 x4 x5 S) x3 r3 y6 S4

noncomputable def f_X0_pageOf (N : Nat → Nat) (fu : Nat) (S : es_St) (p1 : Int32) (p2 : Int32) : Option (Int32 × es_St) :=
  if (S.1 1) < 1 then
    f_X0_pageOf_29 N fu fu 0 p1 0 S
  else
    if 0 ≤ p2 then
      es_ck (¬ (S.1 1) = 0) <|
      es_lt (p2 / (S.1 1)) fun y9 =>
      f_X0_pageOf_29 N fu fu y9 p1 0 S
    else
      f_X0_pageOf_29 N fu fu 0 p1 0 S

noncomputable def f_X0_pagesFor (N : Nat → Nat) (fu : Nat) (S : es_St) (p1 : Int32) : Option (Int32 × es_St) :=
  if (S.1 1) < 1 then
    some (0, S)
  else
    if 1 ≤ p1 then
      es_ck (¬ (S.1 1) = 0) <|
      some (((p1 - 1) / (S.1 1)) + 1, S)
    else
      some (0, S)

noncomputable def f_X0_release (N : Nat → Nat) (fu : Nat) (S : es_St) (p1 : Int32) : Option (Int32 × es_St) :=
  es_bd (f_X0_isPage N fu S p1) fun r1 S2 =>
  if r1 = 0 then
    some (0, S2)
  else
    es_ck (vp_in p1 (N 13)) <|
    es_lt (es_rd S2 13 p1) fun v6 =>
    if v6 = (-1) then
      some (0, S2)
    else
      if (S2.1 2) < 0 then
        some (0, S2)
      else
        if (nI (N 15)) ≤ (S2.1 2) then
          some (0, S2)
        else
          es_ck (vp_in p1 (N 13)) <|
          es_lt (es_wr S2 13 p1 (-1)) fun S11 =>
          es_ck (vp_in (S11.1 2) (N 15)) <|
          es_lt (es_wr S11 15 (S11.1 2) p1) fun S13 =>
          es_lt ((S13.1 2) + 1) fun v14 =>
          es_lt (es_F S13 2 v14) fun S15 =>
          some (0, S15)

noncomputable def f_X0_releaseAll_7 (N : Nat → Nat) (fu : Nat) : Nat → Int32 → Int32 → Int32 → es_St → Option (Int32 × es_St)
  | 0, _, _, _, _ => none
  | n + 1, x1, x2, x3, S =>
      if (nI (N 13)) ≤ x3 then
        some ((S.1 2) - x2, S)
      else
        es_ck (vp_in x3 (N 13)) <|
        es_lt (es_rd S 13 x3) fun v3 =>
        if ¬ v3 = x1 then
          es_lt (x3 + 1) fun y5 =>
          (fun x1 x2 x3 S => f_X0_releaseAll_7 N fu n x1 x2 x3 S) x1 x2 y5 S
        else
          es_bd (f_X0_release N fu S x3) fun r6 S7 =>
          es_lt (x3 + 1) fun y9 =>
          (fun x1 x2 x3 S => f_X0_releaseAll_7 N fu n x1 x2 x3 S) x1 x2 y9 S7

noncomputable def f_X0_releaseAll (N : Nat → Nat) (fu : Nat) (S : es_St) (p1 : Int32) : Option (Int32 × es_St) :=
  f_X0_releaseAll_7 N fu fu p1 (S.1 2) 0 S

noncomputable def f_X0_slotOf (N : Nat → Nat) (fu : Nat) (S : es_St) (p1 : Int32) : Option (Int32 × es_St) :=
  if (S.1 1) < 1 then
    some (0, S)
  else
    if 0 ≤ p1 then
      es_ck (¬ (S.1 1) = 0) <|
      some (p1 - p1 / (S.1 1) * (S.1 1), S)
    else
      some (0, S)

noncomputable def f_X0_store (N : Nat → Nat) (fu : Nat) (S : es_St) (p1 : Int32) (p2 : Int32) (p3 : Int32) (p4 : Int32) : Option (Int32 × es_St) :=
  es_bd (f_X0_isCell N fu S p1 p2) fun r1 S2 =>
  if r1 = 0 then
    some (0, S2)
  else
    es_ck (vp_in ((p1 * (S2.1 1)) + p2) (N 11)) <|
    es_lt (es_wr S2 11 ((p1 * (S2.1 1)) + p2) p3) fun S6 =>
    es_ck (vp_in ((p1 * (S6.1 1)) + p2) (N 12)) <|
    es_lt (es_wr S6 12 ((p1 * (S6.1 1)) + p2) p4) fun S8 =>
    some (0, S8)

noncomputable def f_X0_tagAt (N : Nat → Nat) (fu : Nat) (S : es_St) (p1 : Int32) (p2 : Int32) : Option (Int32 × es_St) :=
  es_bd (f_X0_isCell N fu S p1 p2) fun r1 S2 =>
  if r1 = 0 then
    some (0, S2)
  else
    es_ck (vp_in ((p1 * (S2.1 1)) + p2) (N 12)) <|
    es_lt (es_rd S2 12 ((p1 * (S2.1 1)) + p2)) fun v6 =>
    some (v6, S2)

noncomputable def f_X0_take (N : Nat → Nat) (fu : Nat) (S : es_St) (p1 : Int32) : Option (Int32 × es_St) :=
  if (S.1 2) < 1 then
    some ((-1), S)
  else
    if (S.1 2) ≤ (nI (N 15)) then
      es_ck (vp_in ((S.1 2) - 1) (N 15)) <|
      es_lt (es_rd S 15 ((S.1 2) - 1)) fun v4 =>
      es_bd (f_X0_isPage N fu S v4) fun r5 S6 =>
      if ¬ r5 = 0 then
        es_lt ((S6.1 2) - 1) fun v9 =>
        es_lt (es_F S6 2 v9) fun S10 =>
        es_ck (vp_in v4 (N 13)) <|
        es_lt (es_wr S10 13 v4 p1) fun S12 =>
        es_ck (vp_in v4 (N 14)) <|
        es_lt (es_wr S12 14 v4 (-1)) fun S14 =>
        es_lt ((S14.1 0) - (S14.1 2)) fun y15 =>
        if y15 ≤ (S14.1 26) then
          es_lt (es_F S14 26 (S14.1 26)) fun S17 =>
          some (v4, S17)
        else
          es_lt (es_F S14 26 y15) fun S18 =>
          some (v4, S18)
      else
        some ((-1), S6)
    else
      some ((-1), S)

noncomputable def f_X0_usedPages (N : Nat → Nat) (fu : Nat) (S : es_St) : Option (Int32 × es_St) :=
  some ((S.1 0) - (S.1 2), S)

noncomputable def f_X1_hasMore (N : Nat → Nat) (fu : Nat) (S : es_St) (p1 : Int32) : Option (Int32 × es_St) :=
  if p1 < 0 then
    some (0, S)
  else
    if 15 ≤ p1 then
      some (0, S)
    else
      es_ck (vp_in p1 (N 28)) <|
      es_lt (es_rd S 28 p1) fun v4 =>
      es_ck (vp_in p1 (N 29)) <|
      es_lt (es_rd S 29 p1) fun v6 =>
      if v4 < v6 then
        some (1, S)
      else
        es_ck (vp_in p1 (N 27)) <|
        es_lt (es_rd S 27 p1) fun v9 =>
        if v9 ≤ 0 then
          some (0, S)
        else
          some (1, S)

noncomputable def f_X1_isUsedUp (N : Nat → Nat) (fu : Nat) (S : es_St) (p1 : Int32) : Option (Int32 × es_St) :=
  if p1 < 0 then
    some (1, S)
  else
    if 15 ≤ p1 then
      some (1, S)
    else
      es_ck (vp_in p1 (N 28)) <|
      es_lt (es_rd S 28 p1) fun v4 =>
      es_ck (vp_in p1 (N 29)) <|
      es_lt (es_rd S 29 p1) fun v6 =>
      if v4 < v6 then
        some (0, S)
      else
        some (1, S)

noncomputable def f_X1_keyOf (N : Nat → Nat) (fu : Nat) (S : es_St) (p1 : Int32) : Option (Int32 × es_St) :=
  es_bd (f_X1_isUsedUp N fu S p1) fun r1 S2 =>
  if r1 = 0 then
    es_ck (vp_in p1 (N 28)) <|
    es_lt (es_rd S2 28 p1) fun v6 =>
    es_lt ((p1 * (S2.1 1)) + v6) fun y7 =>
    if y7 < 0 then
      some (0, S2)
    else
      if (nI (N 24)) ≤ y7 then
        some (0, S2)
      else
        es_ck (vp_in y7 (N 24)) <|
        es_lt (es_rd S2 24 y7) fun v11 =>
        some (v11, S2)
  else
    some (0, S2)

noncomputable def f_X1_open (N : Nat → Nat) (fu : Nat) (S : es_St) (p1 : Int32) (p2 : Int32) (p3 : Int32) : Option (Int32 × es_St) :=
  if p1 < 0 then
    some (0, S)
  else
    if 15 ≤ p1 then
      some (0, S)
    else
      es_ck (vp_in p1 (N 26)) <|
      es_lt (es_wr S 26 p1 p2) fun S4 =>
      es_ck (vp_in p1 (N 27)) <|
      es_lt (es_wr S4 27 p1 p3) fun S6 =>
      es_ck (vp_in p1 (N 28)) <|
      es_lt (es_wr S6 28 p1 0) fun S8 =>
      es_ck (vp_in p1 (N 29)) <|
      es_lt (es_wr S8 29 p1 0) fun S10 =>
      some (0, S10)

noncomputable def f_X1_readPage_125 (N : Nat → Nat) (fu : Nat) (x1 : Int32) (x2 : Int32) (x3 : Int32) (S : es_St) : Option (Int32 × es_St) :=
    es_bd (f_X0_nextOf N fu S x2) fun r13 S14 =>
    es_ck (vp_in x1 (N 26)) <|
    es_lt (es_wr S14 26 x1 r13) fun S17 =>
    es_ck (vp_in x1 (N 27)) <|
    es_lt (es_rd S17 27 x1) fun v19 =>
    es_lt (v19 - x3) fun v20 =>
    es_ck (vp_in x1 (N 27)) <|
    es_lt (es_wr S17 27 x1 v20) fun S22 =>
    es_ck (vp_in x1 (N 28)) <|
    es_lt (es_wr S22 28 x1 0) fun S24 =>
    es_ck (vp_in x1 (N 29)) <|
    es_lt (es_wr S24 29 x1 x3) fun S26 =>
    es_lt ((S26.1 22) + 1) fun v27 =>
    es_lt (es_F S26 22 v27) fun S28 =>
    some (x2, S28)

noncomputable def f_X1_readPage_60 (N : Nat → Nat) (fu : Nat) : Nat → Int32 → Int32 → Int32 → Int32 → Int32 → es_St → Option (Int32 × es_St)
  | 0, _, _, _, _, _, _ => none
  | n + 1, x1, x2, x3, x4, x5, S =>
      if x3 ≤ x5 then
        f_X1_readPage_125 N fu x1 x2 x3 S
      else
        if (nI (N 24)) ≤ (x4 + x5) then
          f_X1_readPage_125 N fu x1 x2 x3 S
        else
          es_bd (f_X0_keyAt N fu S x2 x5) fun r30 S31 =>
          es_ck (vp_in (x4 + x5) (N 24)) <|
          es_lt (es_wr S31 24 (x4 + x5) r30) fun S34 =>
          es_bd (f_X0_tagAt N fu S34 x2 x5) fun r35 S36 =>
          es_ck (vp_in (x4 + x5) (N 25)) <|
          es_lt (es_wr S36 25 (x4 + x5) r35) fun S39 =>
          es_lt (x5 + 1) fun y40 =>
          (fun x1 x2 x3 x4 x5 S => f_X1_readPage_60 N fu n x1 x2 x3 x4 x5 S) x1 x2 x3 x4 y40 S39

noncomputable def f_X1_readPage (N : Nat → Nat) (fu : Nat) (S : es_St) (p1 : Int32) : Option (Int32 × es_St) :=
  if p1 < 0 then
    some ((-1), S)
  else
    if 15 ≤ p1 then
      some ((-1), S)
    else
      es_ck (vp_in p1 (N 27)) <|
      es_lt (es_rd S 27 p1) fun v4 =>
      if 1 ≤ v4 then
        es_ck (vp_in p1 (N 26)) <|
        es_lt (es_rd S 26 p1) fun v7 =>
        es_ck (vp_in p1 (N 27)) <|
        es_lt (es_rd S 27 p1) fun v9 =>
        es_lt (if v9 < (S.1 1) then v9 else (S.1 1)) fun v10 =>
        es_lt (p1 * (S.1 1)) fun y11 =>
        f_X1_readPage_60 N fu fu p1 v7 v10 y11 0 S
      else
        some ((-1), S)

noncomputable def f_X1_step (N : Nat → Nat) (fu : Nat) (S : es_St) (p1 : Int32) : Option (Int32 × es_St) :=
  es_bd (f_X1_isUsedUp N fu S p1) fun r1 S2 =>
  if ¬ r1 = 0 then
    some (0, S2)
  else
    es_ck (vp_in p1 (N 28)) <|
    es_lt (es_rd S2 28 p1) fun v6 =>
    es_lt (v6 + 1) fun v7 =>
    es_ck (vp_in p1 (N 28)) <|
    es_lt (es_wr S2 28 p1 v7) fun S9 =>
    some (0, S9)

noncomputable def f_X1_tagOf (N : Nat → Nat) (fu : Nat) (S : es_St) (p1 : Int32) : Option (Int32 × es_St) :=
  es_bd (f_X1_isUsedUp N fu S p1) fun r1 S2 =>
  if r1 = 0 then
    es_ck (vp_in p1 (N 28)) <|
    es_lt (es_rd S2 28 p1) fun v6 =>
    es_lt ((p1 * (S2.1 1)) + v6) fun y7 =>
    if y7 < 0 then
      some (0, S2)
    else
      if (nI (N 25)) ≤ y7 then
        some (0, S2)
      else
        es_ck (vp_in y7 (N 25)) <|
        es_lt (es_rd S2 25 y7) fun v11 =>
        some (v11, S2)
  else
    some (0, S2)

noncomputable def f_X2_copy_22 (N : Nat → Nat) (fu : Nat) : Nat → Int32 → Int32 → Int32 → Int32 → es_St → Option (Int32 × es_St)
  | 0, _, _, _, _, _ => none
  | n + 1, x4, x5, x6, x7, S =>
      if x4 ≤ x7 then
        some (x4, S)
      else
        es_bd (f_X0_keyAt N fu S x5 x6) fun r3 S4 =>
        es_ck (vp_in x7 (N 20)) <|
        es_lt (es_wr S4 20 x7 r3) fun S7 =>
        es_bd (f_X0_tagAt N fu S7 x5 x6) fun r8 S9 =>
        es_ck (vp_in x7 (N 21)) <|
        es_lt (es_wr S9 21 x7 r8) fun S12 =>
        es_lt (x6 + 1) fun y13 =>
        if ¬ y13 = (S12.1 1) then
          es_lt (x7 + 1) fun y15 =>
          (fun x4 x5 x6 x7 S => f_X2_copy_22 N fu n x4 x5 x6 x7 S) x4 x5 y13 y15 S12
        else
          es_bd (f_X0_nextOf N fu S12 x5) fun r16 S17 =>
          es_lt (x7 + 1) fun y19 =>
          (fun x4 x5 x6 x7 S => f_X2_copy_22 N fu n x4 x5 x6 x7 S) x4 r16 0 y19 S17

noncomputable def f_X2_copy (N : Nat → Nat) (fu : Nat) (S : es_St) (p1 : Int32) (p2 : Int32) (p3 : Int32) : Option (Int32 × es_St) :=
  es_lt (if (nI (N 20)) < (p3 + p2) then (nI (N 20)) else (p3 + p2)) fun v1 =>
  f_X2_copy_22 N fu fu v1 p1 0 p3 S

noncomputable def f_X2_rewind (N : Nat → Nat) (fu : Nat) (S : es_St) : Option (Int32 × es_St) :=
  es_lt (es_F S 19 0) fun S1 =>
  es_lt (es_F S1 21 (S1.1 16)) fun S2 =>
  some (0, S2)

noncomputable def f_X2_groupEnd_4 (N : Nat → Nat) (fu : Nat) : Nat → Int32 → Int32 → Int32 → es_St → Option (Int32 × es_St)
  | 0, _, _, _, _ => none
  | n + 1, x1, x2, x3, S =>
      if x2 ≤ x3 then
        some (x2, S)
      else
        es_ck (vp_in x3 (N 20)) <|
        es_lt (es_rd S 20 x3) fun v4 =>
        es_ck (vp_in x1 (N 20)) <|
        es_lt (es_rd S 20 x1) fun v6 =>
        if v4 = v6 then
          es_lt (x3 + 1) fun y8 =>
          (fun x1 x2 x3 S => f_X2_groupEnd_4 N fu n x1 x2 x3 S) x1 x2 y8 S
        else
          some (x3, S)

noncomputable def f_X2_groupEnd (N : Nat → Nat) (fu : Nat) (S : es_St) (p1 : Int32) (p2 : Int32) : Option (Int32 × es_St) :=
  es_lt (p1 + 1) fun y1 =>
  f_X2_groupEnd_4 N fu fu p1 p2 y1 S

noncomputable def f_X2_findGroup_18 (N : Nat → Nat) (fu : Nat) : Nat → Int32 → es_St → Option (Int32 × es_St)
  | 0, _, _ => none
  | n + 1, x1, S =>
      if (S.1 17) ≤ x1 then
        some (0, S)
      else
        if (S.1 16) ≤ (S.1 18) then
          some (0, S)
        else
          if (S.1 17) ≤ (S.1 20) then
            some (0, S)
          else
            es_ck (vp_in (S.1 18) (N 20)) <|
            es_lt (es_rd S 20 (S.1 18)) fun v7 =>
            es_ck (vp_in (S.1 20) (N 20)) <|
            es_lt (es_rd S 20 (S.1 20)) fun v9 =>
            if ¬ v7 = v9 then
              es_ck (vp_in (S.1 18) (N 20)) <|
              es_lt (es_rd S 20 (S.1 18)) fun v12 =>
              es_ck (vp_in (S.1 20) (N 20)) <|
              es_lt (es_rd S 20 (S.1 20)) fun v14 =>
              if v14 ≤ v12 then
                es_lt ((S.1 20) + 1) fun v16 =>
                es_lt (es_F S 20 v16) fun S17 =>
                es_lt (x1 + 1) fun y18 =>
                (fun x1 S => f_X2_findGroup_18 N fu n x1 S) y18 S17
              else
                es_lt ((S.1 18) + 1) fun v19 =>
                es_lt (es_F S 18 v19) fun S20 =>
                es_lt (x1 + 1) fun y21 =>
                (fun x1 S => f_X2_findGroup_18 N fu n x1 S) y21 S20
            else
              es_bd (f_X2_groupEnd N fu S (S.1 18) (S.1 16)) fun r22 S23 =>
              es_lt (es_F S23 19 r22) fun S25 =>
              es_bd (f_X2_groupEnd N fu S25 (S25.1 20) (S25.1 17)) fun r26 S27 =>
              es_lt (es_F S27 21 r26) fun S29 =>
              some (1, S29)

noncomputable def f_X2_findGroup (N : Nat → Nat) (fu : Nat) (S : es_St) : Option (Int32 × es_St) :=
  es_lt (es_F S 18 (S.1 19)) fun S1 =>
  es_lt (es_F S1 20 (S1.1 21)) fun S2 =>
  f_X2_findGroup_18 N fu fu 0 S2

noncomputable def f_X2_countPairs_8 (N : Nat → Nat) (fu : Nat) : Nat → Int32 → Int32 → es_St → Option (Int32 × es_St)
  | 0, _, _, _ => none
  | n + 1, x1, x2, S =>
      if (nI (N 20)) ≤ x2 then
        some (x1, S)
      else
        es_bd (f_X2_findGroup N fu S) fun r5 S6 =>
        if r5 = 0 then
          some (x1, S6)
        else
          es_lt (x1 + (((S6.1 19) - (S6.1 18)) * ((S6.1 21) - (S6.1 20)))) fun y9 =>
          es_lt (x2 + 1) fun y10 =>
          (fun x1 x2 S => f_X2_countPairs_8 N fu n x1 x2 S) y9 y10 S6

noncomputable def f_X2_countPairs (N : Nat → Nat) (fu : Nat) (S : es_St) : Option (Int32 × es_St) :=
  es_bd (f_X2_rewind N fu S) fun r1 S2 =>
  f_X2_countPairs_8 N fu fu 0 0 S2

noncomputable def f_X2_largestGroupOfB_9 (N : Nat → Nat) (fu : Nat) : Nat → Int32 → Int32 → Int32 → es_St → Option (Int32 × es_St)
  | 0, _, _, _, _ => none
  | n + 1, x1, x2, x3, S =>
      if (S.1 17) ≤ x3 then
        some (x1, S)
      else
        if x3 ≤ (S.1 16) then
          es_lt (if x1 < 1 then 1 else x1) fun v3 =>
          es_lt (x3 + 1) fun y4 =>
          (fun x1 x2 x3 S => f_X2_largestGroupOfB_9 N fu n x1 x2 x3 S) v3 1 y4 S
        else
          es_ck (vp_in x3 (N 20)) <|
          es_lt (es_rd S 20 x3) fun v6 =>
          es_ck (vp_in (x3 - 1) (N 20)) <|
          es_lt (es_rd S 20 (x3 - 1)) fun v8 =>
          if ¬ v6 = v8 then
            es_lt (if x1 < 1 then 1 else x1) fun v10 =>
            es_lt (x3 + 1) fun y11 =>
            (fun x1 x2 x3 S => f_X2_largestGroupOfB_9 N fu n x1 x2 x3 S) v10 1 y11 S
          else
            es_lt (x2 + 1) fun y12 =>
            es_lt (if x1 < y12 then y12 else x1) fun v13 =>
            es_lt (x3 + 1) fun y14 =>
            (fun x1 x2 x3 S => f_X2_largestGroupOfB_9 N fu n x1 x2 x3 S) v13 y12 y14 S

noncomputable def f_X2_largestGroupOfB (N : Nat → Nat) (fu : Nat) (S : es_St) : Option (Int32 × es_St) :=
  f_X2_largestGroupOfB_9 N fu fu 0 0 (S.1 16) S

noncomputable def f_X2_look (N : Nat → Nat) (fu : Nat) (S : es_St) (p1 : Int32) (p2 : Int32) (p3 : Int32) (p4 : Int32) : Option (Int32 × es_St) :=
  es_bd (f_X2_copy N fu S p1 p2 0) fun r1 S2 =>
  es_lt (es_F S2 16 r1) fun S4 =>
  es_bd (f_X2_copy N fu S4 p3 p4 (S4.1 16)) fun r5 S6 =>
  es_lt (es_F S6 17 r5) fun S8 =>
  some (0, S8)

noncomputable def f_X2_sortedPages (N : Nat → Nat) (fu : Nat) (S : es_St) : Option (Int32 × es_St) :=
  es_bd (f_X0_pagesFor N fu S (S.1 16)) fun r1 S2 =>
  es_bd (f_X0_pagesFor N fu S2 ((S2.1 17) - (S2.1 16))) fun r4 S5 =>
  some (r1 + r4, S5)

noncomputable def f_X2_pairsFit (N : Nat → Nat) (fu : Nat) (S : es_St) : Option (Int32 × es_St) :=
  es_bd (f_X2_countPairs N fu S) fun r1 S2 =>
  es_bd (f_X0_pagesFor N fu S2 r1) fun r4 S5 =>
  es_bd (f_X0_freePages N fu S5) fun r7 S8 =>
  es_bd (f_X2_sortedPages N fu S8) fun r10 S11 =>
  if (r7 + r10) < r4 then
    some (0, S11)
  else
    some (1, S11)

noncomputable def f_X4_writePage_91 (N : Nat → Nat) (fu : Nat) (x1 : Int32) (S : es_St) : Option (Int32 × es_St) :=
    es_lt (es_F S 9 x1) fun S10 =>
    es_lt (es_F S10 8 0) fun S11 =>
    es_lt ((S11.1 23) + 1) fun v12 =>
    es_lt (es_F S11 23 v12) fun S13 =>
    some (1, S13)

noncomputable def f_X4_writePage_63 (N : Nat → Nat) (fu : Nat) (x1 : Int32) (S : es_St) : Option (Int32 × es_St) :=
    if ¬ (S.1 9) = (-1) then
      es_bd (f_X0_link N fu S (S.1 9) x1) fun r7 S8 =>
      f_X4_writePage_91 N fu x1 S8
    else
      es_lt (es_F S 3 x1) fun S14 =>
      f_X4_writePage_91 N fu x1 S14

noncomputable def f_X4_writePage_19 (N : Nat → Nat) (fu : Nat) : Nat → Int32 → Int32 → es_St → Option (Int32 × es_St)
  | 0, _, _, _ => none
  | n + 1, x1, x2, S =>
      if (S.1 8) ≤ x2 then
        f_X4_writePage_63 N fu x1 S
      else
        if (nI (N 16)) ≤ x2 then
          f_X4_writePage_63 N fu x1 S
        else
          es_ck (vp_in x2 (N 16)) <|
          es_lt (es_rd S 16 x2) fun v17 =>
          es_ck (vp_in x2 (N 17)) <|
          es_lt (es_rd S 17 x2) fun v19 =>
          es_bd (f_X0_store N fu S x1 x2 v17 v19) fun r20 S21 =>
          es_lt (x2 + 1) fun y23 =>
          (fun x1 x2 S => f_X4_writePage_19 N fu n x1 x2 S) x1 y23 S21

noncomputable def f_X4_writePage (N : Nat → Nat) (fu : Nat) (S : es_St) : Option (Int32 × es_St) :=
  es_bd (f_X0_take N fu S 6) fun r1 S2 =>
  if ¬ r1 = (-1) then
    f_X4_writePage_19 N fu fu r1 0 S2
  else
    some (0, S2)

noncomputable def f_X4_put_81 (N : Nat → Nat) (fu : Nat) (x1 : Int32) (x2 : Int32) (S : es_St) : Option (Int32 × es_St) :=
    es_lt (es_F S 5 x1) fun S3 =>
    es_lt (es_F S3 6 x2) fun S4 =>
    es_lt ((S4.1 4) + 1) fun v5 =>
    es_lt (es_F S4 4 v5) fun S6 =>
    if (S6.1 8) < (nI (N 16)) then
      some (1, S6)
    else
      es_bd (f_X4_writePage N fu S6) fun r8 S9 =>
      if r8 = 0 then
        some (0, S9)
      else
        some (1, S9)

noncomputable def f_X4_put_32 (N : Nat → Nat) (fu : Nat) (x1 : Int32) (x2 : Int32) (S : es_St) : Option (Int32 × es_St) :=
    if (S.1 8) < 0 then
      f_X4_put_81 N fu x1 x2 S
    else
      if (nI (N 16)) ≤ (S.1 8) then
        f_X4_put_81 N fu x1 x2 S
      else
        es_ck (vp_in (S.1 8) (N 16)) <|
        es_lt (es_wr S 16 (S.1 8) x1) fun S14 =>
        es_ck (vp_in (S14.1 8) (N 17)) <|
        es_lt (es_wr S14 17 (S14.1 8) x2) fun S16 =>
        es_lt ((S16.1 8) + 1) fun v17 =>
        es_lt (es_F S16 8 v17) fun S18 =>
        f_X4_put_81 N fu x1 x2 S18

noncomputable def f_X4_put (N : Nat → Nat) (fu : Nat) (S : es_St) (p1 : Int32) (p2 : Int32) : Option (Int32 × es_St) :=
  if (S.1 7) = 0 then
    f_X4_put_32 N fu p1 p2 S
  else
    if (S.1 4) ≤ 0 then
      f_X4_put_32 N fu p1 p2 S
    else
      if ¬ p1 = (S.1 5) then
        f_X4_put_32 N fu p1 p2 S
      else
        if ¬ p2 = (S.1 6) then
          f_X4_put_32 N fu p1 p2 S
        else
          some (1, S)

noncomputable def f_X2_writeGroup_18 (N : Nat → Nat) (fu : Nat) (k5 : Int32 → es_St → Option (Int32 × es_St)) : Nat → Int32 → Int32 → es_St → Option (Int32 × es_St)
  | 0, _, _, _ => none
  | n + 1, x1, x2, S =>
      if (S.1 21) ≤ x2 then
        es_lt (x1 + 1) fun y3 =>
        k5 y3 S
      else
        es_ck (vp_in x1 (N 21)) <|
        es_lt (es_rd S 21 x1) fun v5 =>
        es_ck (vp_in x2 (N 21)) <|
        es_lt (es_rd S 21 x2) fun v7 =>
        es_bd (f_X4_put N fu S v5 v7) fun r8 S9 =>
        if ¬ r8 = 0 then
          es_lt (x2 + 1) fun y12 =>
          (fun x1 x2 S => f_X2_writeGroup_18 N fu k5 n x1 x2 S) x1 y12 S9
        else
          some (0, S9)

noncomputable def f_X2_writeGroup_5 (N : Nat → Nat) (fu : Nat) : Nat → Int32 → es_St → Option (Int32 × es_St)
  | 0, _, _ => none
  | n + 1, x1, S =>
      if (S.1 19) ≤ x1 then
        some (1, S)
      else
        f_X2_writeGroup_18 N fu (fun x1 S => f_X2_writeGroup_5 N fu n x1 S) fu x1 (S.1 20) S

noncomputable def f_X2_writeGroup (N : Nat → Nat) (fu : Nat) (S : es_St) : Option (Int32 × es_St) :=
  f_X2_writeGroup_5 N fu fu (S.1 18) S

noncomputable def f_X4_open (N : Nat → Nat) (fu : Nat) (S : es_St) (p1 : Int32) : Option (Int32 × es_St) :=
  es_ck (es_B p1) <|
  es_lt (es_F S 7 p1) fun S2 =>
  es_lt (es_F S2 3 (-1)) fun S3 =>
  es_lt (es_F S3 9 (-1)) fun S4 =>
  es_lt (es_F S4 4 0) fun S5 =>
  es_lt (es_F S5 8 0) fun S6 =>
  some (0, S6)

noncomputable def f_X4_close (N : Nat → Nat) (fu : Nat) (S : es_St) : Option (Int32 × es_St) :=
  if (S.1 8) = 0 then
    some (1, S)
  else
    es_bd (f_X4_writePage N fu S) fun r2 S3 =>
    if r2 = 0 then
      some (0, S3)
    else
      some (1, S3)

noncomputable def f_X2_writePairs_43 (N : Nat → Nat) (fu : Nat) : Nat → Int32 → es_St → Option (Int32 × es_St)
  | 0, _, _ => none
  | n + 1, x1, S =>
      if (nI (N 20)) ≤ x1 then
        es_bd (f_X4_close N fu S) fun r16 S17 =>
        es_ck (es_B r16) <|
        some (r16, S17)
      else
        es_bd (f_X2_findGroup N fu S) fun r20 S21 =>
        if r20 = 0 then
          es_bd (f_X4_close N fu S21) fun r24 S25 =>
          es_ck (es_B r24) <|
          some (r24, S25)
        else
          es_bd (f_X2_writeGroup N fu S21) fun r28 S29 =>
          if ¬ r28 = 0 then
            es_lt (x1 + 1) fun y32 =>
            (fun x1 S => f_X2_writePairs_43 N fu n x1 S) y32 S29
          else
            some (0, S29)

noncomputable def f_X2_writePairs (N : Nat → Nat) (fu : Nat) (S : es_St) : Option (Int32 × es_St) :=
  es_bd (f_X2_sortedPages N fu S) fun r1 S2 =>
  es_lt ((S.1 22) + r1) fun v4 =>
  es_lt (es_F S2 22 v4) fun S5 =>
  es_bd (f_X0_releaseAll N fu S5 6) fun r6 S7 =>
  es_bd (f_X4_open N fu S7 0) fun r9 S10 =>
  es_bd (f_X2_rewind N fu S10) fun r12 S13 =>
  f_X2_writePairs_43 N fu fu 0 S13

noncomputable def f_X3_isLeaf (N : Nat → Nat) (fu : Nat) (S : es_St) (p1 : Int32) : Option (Int32 × es_St) :=
  if p1 < 0 then
    some (0, S)
  else
    if (S.1 32) ≤ p1 then
      some (0, S)
    else
      some (1, S)

noncomputable def f_X7_inOrder_15 (N : Nat → Nat) (fu : Nat) (x0 : Int32) (t0 : Int32) (S : es_St) : Option (Int32 × es_St) :=
    if x0 = 2 then
      if ¬ t0 = 0 then
        some (1, S)
      else
        some ((-1), S)
    else
      if ¬ t0 = 1 then
        some (1, S)
      else
        some ((-1), S)

noncomputable def f_X7_inOrder (N : Nat → Nat) (fu : Nat) (S : es_St) (p1 : Int32) (p2 : Int32) (p3 : Int32) (p4 : Int32) (p5 : Int32) : Option (Int32 × es_St) :=
  if p2 = p4 then
    if ¬ p1 = 1 then
      some (0, S)
    else
      if p3 = p5 then
        some (0, S)
      else
        if p5 ≤ p3 then
          some (1, S)
        else
          some ((-1), S)
  else
    if p4 ≤ p2 then
      f_X7_inOrder_15 N fu p1 0 S
    else
      f_X7_inOrder_15 N fu p1 1 S

noncomputable def f_X3_beats (N : Nat → Nat) (fu : Nat) (S : es_St) (p1 : Int32) (p2 : Int32) : Option (Int32 × es_St) :=
  es_bd (f_X3_isLeaf N fu S p1) fun r1 S2 =>
  if r1 = 0 then
    some (0, S2)
  else
    es_bd (f_X3_isLeaf N fu S2 p2) fun r5 S6 =>
    if ¬ r5 = 0 then
      es_ck (vp_in p1 (N 30)) <|
      es_lt (es_rd S6 30 p1) fun v10 =>
      es_ck (vp_in p2 (N 30)) <|
      es_lt (es_rd S6 30 p2) fun v12 =>
      if v10 = v12 then
        es_ck (vp_in p1 (N 31)) <|
        es_lt (es_rd S6 31 p1) fun v15 =>
        es_ck (vp_in p1 (N 32)) <|
        es_lt (es_rd S6 32 p1) fun v17 =>
        es_ck (vp_in p2 (N 31)) <|
        es_lt (es_rd S6 31 p2) fun v19 =>
        es_ck (vp_in p2 (N 32)) <|
        es_lt (es_rd S6 32 p2) fun v21 =>
        es_bd (f_X7_inOrder N fu S6 (S6.1 33) v15 v17 v19 v21) fun r22 S23 =>
        if ¬ r22 = 0 then
          if 0 ≤ r22 then
            some (0, S23)
          else
            some (1, S23)
        else
          es_ck (vp_in p1 (N 33)) <|
          es_lt (es_rd S23 33 p1) fun v28 =>
          es_ck (vp_in p2 (N 33)) <|
          es_lt (es_rd S23 33 p2) fun v30 =>
          if v30 ≤ v28 then
            some (0, S23)
          else
            some (1, S23)
      else
        es_ck (vp_in p1 (N 30)) <|
        es_lt (es_rd S6 30 p1) fun v33 =>
        es_ck (vp_in p2 (N 30)) <|
        es_lt (es_rd S6 30 p2) fun v35 =>
        if v35 ≤ v33 then
          some (0, S6)
        else
          some (1, S6)
    else
      some (0, S6)

noncomputable def f_X3_begin (N : Nat → Nat) (fu : Nat) (S : es_St) (p1 : Int32) (p2 : Int32) : Option (Int32 × es_St) :=
  es_lt (if (nI (N 34)) < p1 then (nI (N 34)) else p1) fun v1 =>
  es_lt (if 0 < v1 then v1 else 0) fun v2 =>
  es_lt (es_F S 32 v2) fun S3 =>
  es_lt (es_F S3 33 p2) fun S4 =>
  some (0, S4)

noncomputable def f_X3_climb_20 (N : Nat → Nat) (fu : Nat) : Nat → Int32 → Int32 → es_St → Option (Int32 × es_St)
  | 0, _, _, _ => none
  | n + 1, x2, x3, S =>
      if x3 ≤ 0 then
        es_ck (vp_in 0 (N 34)) <|
        es_lt (es_wr S 34 0 x2) fun S8 =>
        some (0, S8)
      else
        if (nI (N 34)) ≤ x3 then
          es_ck (vp_in 0 (N 34)) <|
          es_lt (es_wr S 34 0 x2) fun S11 =>
          some (0, S11)
        else
          es_ck (vp_in x3 (N 34)) <|
          es_lt (es_rd S 34 x3) fun v13 =>
          if ¬ v13 = (-1) then
            es_bd (f_X3_beats N fu S v13 x2) fun r15 S16 =>
            if r15 = 0 then
              es_lt (x3 / 2) fun y19 =>
              (fun x2 x3 S => f_X3_climb_20 N fu n x2 x3 S) x2 y19 S16
            else
              es_ck (vp_in x3 (N 34)) <|
              es_lt (es_wr S16 34 x3 x2) fun S21 =>
              es_lt (x3 / 2) fun y22 =>
              (fun x2 x3 S => f_X3_climb_20 N fu n x2 x3 S) v13 y22 S21
          else
            es_ck (vp_in x3 (N 34)) <|
            es_lt (es_wr S 34 x3 x2) fun S24 =>
            some (0, S24)

noncomputable def f_X3_climb (N : Nat → Nat) (fu : Nat) (S : es_St) (p1 : Int32) : Option (Int32 × es_St) :=
  es_bd (f_X3_isLeaf N fu S p1) fun r1 S2 =>
  if ¬ r1 = 0 then
    es_lt (((S2.1 32) + p1) / 2) fun y5 =>
    f_X3_climb_20 N fu fu p1 y5 S2
  else
    some (0, S2)

noncomputable def f_X3_build_25 (N : Nat → Nat) (fu : Nat) : Nat → Int32 → es_St → Option (Int32 × es_St)
  | 0, _, _ => none
  | n + 1, x1, S =>
      if (S.1 32) ≤ x1 then
        some (0, S)
      else
        es_bd (f_X3_climb N fu S x1) fun r3 S4 =>
        es_lt (x1 + 1) fun y6 =>
        (fun x1 S => f_X3_build_25 N fu n x1 S) y6 S4

noncomputable def f_X3_build_2 (N : Nat → Nat) (fu : Nat) : Nat → Int32 → es_St → Option (Int32 × es_St)
  | 0, _, _ => none
  | n + 1, x1, S =>
      if (S.1 32) ≤ x1 then
        f_X3_build_25 N fu fu 0 S
      else
        es_ck (vp_in x1 (N 34)) <|
        es_lt (es_wr S 34 x1 (-1)) fun S8 =>
        es_lt (x1 + 1) fun y9 =>
        (fun x1 S => f_X3_build_2 N fu n x1 S) y9 S8

noncomputable def f_X3_build (N : Nat → Nat) (fu : Nat) (S : es_St) : Option (Int32 × es_St) :=
  f_X3_build_2 N fu fu 0 S

noncomputable def f_X3_enter (N : Nat → Nat) (fu : Nat) (S : es_St) (p1 : Int32) (p2 : Int32) (p3 : Int32) (p4 : Int32) (p5 : Int32) : Option (Int32 × es_St) :=
  es_bd (f_X3_isLeaf N fu S p1) fun r1 S2 =>
  if r1 = 0 then
    some (0, S2)
  else
    es_ck (vp_in p1 (N 30)) <|
    es_lt (es_wr S2 30 p1 p2) fun S6 =>
    es_ck (vp_in p1 (N 31)) <|
    es_lt (es_wr S6 31 p1 p3) fun S8 =>
    es_ck (vp_in p1 (N 32)) <|
    es_lt (es_wr S8 32 p1 p4) fun S10 =>
    es_ck (vp_in p1 (N 33)) <|
    es_lt (es_wr S10 33 p1 p5) fun S12 =>
    some (0, S12)

noncomputable def f_X3_keyOf (N : Nat → Nat) (fu : Nat) (S : es_St) (p1 : Int32) : Option (Int32 × es_St) :=
  es_bd (f_X3_isLeaf N fu S p1) fun r1 S2 =>
  if r1 = 0 then
    some (0, S2)
  else
    es_ck (vp_in p1 (N 31)) <|
    es_lt (es_rd S2 31 p1) fun v6 =>
    some (v6, S2)

noncomputable def f_X3_retire (N : Nat → Nat) (fu : Nat) (S : es_St) (p1 : Int32) : Option (Int32 × es_St) :=
  es_bd (f_X3_isLeaf N fu S p1) fun r1 S2 =>
  if r1 = 0 then
    some (0, S2)
  else
    es_ck (vp_in p1 (N 30)) <|
    es_lt (es_wr S2 30 p1 2147483647) fun S6 =>
    some (0, S6)

noncomputable def f_X3_roundOf (N : Nat → Nat) (fu : Nat) (S : es_St) (p1 : Int32) : Option (Int32 × es_St) :=
  es_bd (f_X3_isLeaf N fu S p1) fun r1 S2 =>
  if r1 = 0 then
    some (2147483647, S2)
  else
    es_ck (vp_in p1 (N 30)) <|
    es_lt (es_rd S2 30 p1) fun v6 =>
    some (v6, S2)

noncomputable def f_X3_tagOf (N : Nat → Nat) (fu : Nat) (S : es_St) (p1 : Int32) : Option (Int32 × es_St) :=
  es_bd (f_X3_isLeaf N fu S p1) fun r1 S2 =>
  if r1 = 0 then
    some (0, S2)
  else
    es_ck (vp_in p1 (N 32)) <|
    es_lt (es_rd S2 32 p1) fun v6 =>
    some (v6, S2)

noncomputable def f_X3_winner (N : Nat → Nat) (fu : Nat) (S : es_St) : Option (Int32 × es_St) :=
  if (S.1 32) ≤ 0 then
    some ((-1), S)
  else
    es_ck (vp_in 0 (N 34)) <|
    es_lt (es_rd S 34 0) fun v3 =>
    some (v3, S)

noncomputable def f_X5_room (N : Nat → Nat) (fu : Nat) (S : es_St) : Option (Int32 × es_St) :=
  some (((S.1 13) - 2) * (S.1 1), S)

noncomputable def f_X5_takeInto_20 (N : Nat → Nat) (fu : Nat) (x1 : Int32) (x2 : Int32) (x3 : Int32) (S : es_St) : Option (Int32 × es_St) :=
    es_bd (f_X1_keyOf N fu S 0) fun r5 S6 =>
    es_bd (f_X1_tagOf N fu S6 0) fun r8 S9 =>
    es_bd (f_X3_enter N fu S9 x1 x2 r5 r8 x3) fun r11 S12 =>
    es_bd (f_X1_step N fu S12 0) fun r14 S15 =>
    some (0, S15)

noncomputable def f_X5_takeInto (N : Nat → Nat) (fu : Nat) (S : es_St) (p1 : Int32) (p2 : Int32) (p3 : Int32) : Option (Int32 × es_St) :=
  es_bd (f_X1_isUsedUp N fu S 0) fun r1 S2 =>
  if r1 = 0 then
    f_X5_takeInto_20 N fu p1 p2 p3 S2
  else
    es_bd (f_X1_readPage N fu S2 0) fun r17 S18 =>
    f_X5_takeInto_20 N fu p1 p2 p3 S18

noncomputable def f_X5_fillMemory_34 (N : Nat → Nat) (fu : Nat) : Nat → Int32 → Int32 → es_St → Option (Int32 × es_St)
  | 0, _, _, _ => none
  | n + 1, x3, x4, S =>
      if x3 ≤ x4 then
        some (x3, S)
      else
        es_bd (f_X5_takeInto N fu S x4 0 x4) fun r12 S13 =>
        es_lt (x4 + 1) fun y15 =>
        (fun x3 x4 S => f_X5_fillMemory_34 N fu n x3 x4 S) x3 y15 S13

noncomputable def f_X5_fillMemory (N : Nat → Nat) (fu : Nat) (S : es_St) (p1 : Int32) (p2 : Int32) : Option (Int32 × es_St) :=
  es_bd (f_X5_room N fu S) fun r1 S2 =>
  es_lt (if p2 < r1 then p2 else r1) fun v4 =>
  es_bd (f_X1_open N fu S2 0 p1 p2) fun r5 S6 =>
  es_bd (f_X3_begin N fu S6 v4 (S6.1 14)) fun r8 S9 =>
  f_X5_fillMemory_34 N fu fu v4 0 S9

noncomputable def f_X6_addRun (N : Nat → Nat) (fu : Nat) (S : es_St) (p1 : Int32) : Option (Int32 × es_St) :=
  if (S.1 24) < 0 then
    some (0, S)
  else
    if (nI (N 22)) ≤ (S.1 24) then
      some (0, S)
    else
      es_ck (vp_in (S.1 24) (N 22)) <|
      es_lt (es_wr S 22 (S.1 24) p1) fun S4 =>
      es_lt ((S4.1 24) + 1) fun v5 =>
      es_lt (es_F S4 24 v5) fun S6 =>
      some (0, S6)

noncomputable def f_X5_keepRun (N : Nat → Nat) (fu : Nat) (S : es_St) (p1 : Int32) (p2 : Int32) (p3 : Int32) : Option (Int32 × es_St) :=
  if p1 < 0 then
    some (0, S)
  else
    if (nI (N 18)) ≤ p1 then
      some (0, S)
    else
      es_ck (vp_in p1 (N 18)) <|
      es_lt (es_wr S 18 p1 p2) fun S4 =>
      es_ck (vp_in p1 (N 19)) <|
      es_lt (es_wr S4 19 p1 p3) fun S6 =>
      some (0, S6)

noncomputable def f_X5_endRun (N : Nat → Nat) (fu : Nat) (S : es_St) : Option (Int32 × es_St) :=
  es_bd (f_X4_close N fu S) fun r1 S2 =>
  if ¬ r1 = 0 then
    es_bd (f_X6_addRun N fu S2 (S2.1 4)) fun r5 S6 =>
    es_bd (f_X5_keepRun N fu S6 (S6.1 12) (S6.1 3) (S6.1 4)) fun r8 S9 =>
    es_lt ((S9.1 12) + 1) fun v11 =>
    es_lt (es_F S9 12 v11) fun S12 =>
    some (1, S12)
  else
    some (0, S2)

noncomputable def f_X5_replace (N : Nat → Nat) (fu : Nat) (S : es_St) (p1 : Int32) (p2 : Int32) (p3 : Int32) : Option (Int32 × es_St) :=
  es_bd (f_X1_hasMore N fu S 0) fun r1 S2 =>
  if ¬ r1 = 0 then
    es_bd (f_X5_takeInto N fu S2 p1 p2 p3) fun r5 S6 =>
    es_bd (f_X3_keyOf N fu S6 p1) fun r8 S9 =>
    es_bd (f_X3_tagOf N fu S9 p1) fun r11 S12 =>
    es_bd (f_X7_inOrder N fu S12 (S12.1 14) r8 r11 (S12.1 5) (S12.1 6)) fun r14 S15 =>
    if 0 ≤ r14 then
      some (0, S15)
    else
      es_bd (f_X3_enter N fu S15 p1 (p2 + 1) r8 r11 p3) fun r18 S19 =>
      some (0, S19)
  else
    es_bd (f_X3_retire N fu S2 p1) fun r21 S22 =>
    some (0, S22)

noncomputable def f_X5_makeRuns_82 (N : Nat → Nat) (fu : Nat) (k31 : Int32 → Int32 → Int32 → Int32 → es_St → Option (Int32 × es_St)) (x2 : Int32) (x3 : Int32) (x4 : Int32) (x5 : Int32) (x6 : Int32) (S : es_St) : Option (Int32 × es_St) :=
    es_bd (f_X3_keyOf N fu S x6) fun r23 S24 =>
    es_bd (f_X3_tagOf N fu S24 x6) fun r26 S27 =>
    es_bd (f_X4_put N fu S27 r23 r26) fun r29 S30 =>
    if ¬ r29 = 0 then
      es_bd (f_X5_replace N fu S30 x6 x3 (x4 + x5)) fun r33 S34 =>
      es_bd (f_X3_climb N fu S34 x6) fun r36 S37 =>
      es_lt (x5 + 1) fun y39 =>
      k31 x2 x3 x4 y39 S37
    else
      some (0, S30)

noncomputable def f_X5_makeRuns_31 (N : Nat → Nat) (fu : Nat) : Nat → Int32 → Int32 → Int32 → Int32 → es_St → Option (Int32 × es_St)
  | 0, _, _, _, _, _ => none
  | n + 1, x2, x3, x4, x5, S =>
      if x2 ≤ x5 then
        if x2 < 1 then
          some (1, S)
        else
          es_bd (f_X5_endRun N fu S) fun r12 S13 =>
          if r12 = 0 then
            some (0, S13)
          else
            some (1, S13)
      else
        es_bd (f_X3_winner N fu S) fun r16 S17 =>
        es_bd (f_X3_roundOf N fu S17 r16) fun r19 S20 =>
        if r19 = x3 then
          f_X5_makeRuns_82 N fu (fun x2 x3 x4 x5 S => f_X5_makeRuns_31 N fu n x2 x3 x4 x5 S) x2 x3 x4 x5 r16 S20
        else
          es_bd (f_X5_endRun N fu S20) fun r40 S41 =>
          if ¬ r40 = 0 then
            es_lt (x3 + 1) fun y44 =>
            es_bd (f_X4_open N fu S41 (S41.1 15)) fun r45 S46 =>
            f_X5_makeRuns_82 N fu (fun x2 x3 x4 x5 S => f_X5_makeRuns_31 N fu n x2 x3 x4 x5 S) x2 y44 x4 x5 r16 S46
          else
            some (0, S41)

noncomputable def f_X5_makeRuns (N : Nat → Nat) (fu : Nat) (S : es_St) (p1 : Int32) (p2 : Int32) : Option (Int32 × es_St) :=
  es_bd (f_X5_fillMemory N fu S p1 p2) fun r1 S2 =>
  es_bd (f_X3_build N fu S2) fun r4 S5 =>
  es_bd (f_X4_open N fu S5 (S5.1 15)) fun r7 S8 =>
  f_X5_makeRuns_31 N fu fu p2 0 r1 0 S8

noncomputable def f_X5_enterNext (N : Nat → Nat) (fu : Nat) (S : es_St) (p1 : Int32) : Option (Int32 × es_St) :=
  es_bd (f_X1_hasMore N fu S p1) fun r1 S2 =>
  if r1 = 0 then
    es_bd (f_X3_retire N fu S2 p1) fun r5 S6 =>
    some (0, S6)
  else
    es_bd (f_X1_keyOf N fu S2 p1) fun r8 S9 =>
    es_bd (f_X1_tagOf N fu S9 p1) fun r11 S12 =>
    es_bd (f_X3_enter N fu S12 p1 0 r8 r11 p1) fun r14 S15 =>
    some (0, S15)

noncomputable def f_X5_openRuns_17 (N : Nat → Nat) (fu : Nat) : Nat → Int32 → Int32 → Int32 → Int32 → es_St → Option (Int32 × es_St)
  | 0, _, _, _, _, _ => none
  | n + 1, x1, x2, x3, x4, S =>
      if x2 ≤ x4 then
        some (x3, S)
      else
        if (nI (N 18)) ≤ (x1 + x4) then
          some (x3, S)
        else
          es_ck (vp_in (x1 + x4) (N 18)) <|
          es_lt (es_rd S 18 (x1 + x4)) fun v7 =>
          es_ck (vp_in (x1 + x4) (N 19)) <|
          es_lt (es_rd S 19 (x1 + x4)) fun v9 =>
          es_bd (f_X1_open N fu S x4 v7 v9) fun r10 S11 =>
          es_bd (f_X1_readPage N fu S11 x4) fun r13 S14 =>
          es_bd (f_X0_release N fu S14 r13) fun r16 S17 =>
          es_bd (f_X5_enterNext N fu S17 x4) fun r19 S20 =>
          es_ck (vp_in (x1 + x4) (N 19)) <|
          es_lt (es_rd S20 19 (x1 + x4)) fun v23 =>
          es_lt (x3 + v23) fun y24 =>
          es_lt (x4 + 1) fun y25 =>
          (fun x1 x2 x3 x4 S => f_X5_openRuns_17 N fu n x1 x2 x3 x4 S) x1 x2 y24 y25 S20

noncomputable def f_X5_openRuns (N : Nat → Nat) (fu : Nat) (S : es_St) (p1 : Int32) (p2 : Int32) : Option (Int32 × es_St) :=
  es_bd (f_X3_begin N fu S p2 (S.1 14)) fun r1 S2 =>
  f_X5_openRuns_17 N fu fu p1 p2 0 0 S2

noncomputable def f_X5_mergeRuns_102 (N : Nat → Nat) (fu : Nat) (k28 : Int32 → Int32 → es_St → Option (Int32 × es_St)) (x3 : Int32) (x4 : Int32) (x5 : Int32) (x6 : Int32) (x7 : Int32) (S : es_St) : Option (Int32 × es_St) :=
    es_bd (f_X5_enterNext N fu S x5) fun r31 S32 =>
    es_bd (f_X3_climb N fu S32 x5) fun r34 S35 =>
    es_bd (f_X4_put N fu S35 x6 x7) fun r37 S38 =>
    if ¬ r37 = 0 then
      es_lt (x4 + 1) fun y41 =>
      k28 x3 y41 S38
    else
      some (0, S38)

noncomputable def f_X5_mergeRuns_28 (N : Nat → Nat) (fu : Nat) : Nat → Int32 → Int32 → es_St → Option (Int32 × es_St)
  | 0, _, _, _ => none
  | n + 1, x3, x4, S =>
      if x3 ≤ x4 then
        es_bd (f_X4_close N fu S) fun r11 S12 =>
        es_ck (es_B r11) <|
        some (r11, S12)
      else
        es_bd (f_X3_winner N fu S) fun r15 S16 =>
        es_bd (f_X3_keyOf N fu S16 r15) fun r18 S19 =>
        es_bd (f_X3_tagOf N fu S19 r15) fun r21 S22 =>
        es_bd (f_X1_step N fu S22 r15) fun r24 S25 =>
        es_bd (f_X1_isUsedUp N fu S25 r15) fun r27 S28 =>
        if r27 = 0 then
          f_X5_mergeRuns_102 N fu (fun x3 x4 S => f_X5_mergeRuns_28 N fu n x3 x4 S) x3 x4 r15 r18 r21 S28
        else
          es_bd (f_X1_readPage N fu S28 r15) fun r42 S43 =>
          es_bd (f_X0_release N fu S43 r42) fun r45 S46 =>
          f_X5_mergeRuns_102 N fu (fun x3 x4 S => f_X5_mergeRuns_28 N fu n x3 x4 S) x3 x4 r15 r18 r21 S46

noncomputable def f_X5_mergeRuns (N : Nat → Nat) (fu : Nat) (S : es_St) (p1 : Int32) (p2 : Int32) : Option (Int32 × es_St) :=
  es_bd (f_X5_openRuns N fu S p1 p2) fun r1 S2 =>
  es_bd (f_X3_build N fu S2) fun r4 S5 =>
  es_bd (f_X4_open N fu S5 (S5.1 15)) fun r7 S8 =>
  f_X5_mergeRuns_28 N fu fu r1 0 S8

noncomputable def f_X5_mergePass_29 (N : Nat → Nat) (fu : Nat) : Nat → Int32 → Int32 → Int32 → Int32 → es_St → Option (Int32 × es_St)
  | 0, _, _, _, _, _ => none
  | n + 1, x1, x2, x3, x4, S =>
      if x2 ≤ x4 then
        es_lt (es_F S 12 x3) fun S4 =>
        es_lt ((S4.1 25) + 1) fun v5 =>
        es_lt (es_F S4 25 v5) fun S6 =>
        some (1, S6)
      else
        es_lt (if (x2 - x4) < x1 then (x2 - x4) else x1) fun v7 =>
        if ¬ v7 = 1 then
          es_bd (f_X5_mergeRuns N fu S x4 v7) fun r9 S10 =>
          if r9 = 0 then
            some (0, S10)
          else
            es_bd (f_X5_keepRun N fu S10 x3 (S10.1 3) (S10.1 4)) fun r13 S14 =>
            es_lt (x3 + 1) fun y16 =>
            es_lt (x4 + x1) fun y17 =>
            (fun x1 x2 x3 x4 S => f_X5_mergePass_29 N fu n x1 x2 x3 x4 S) x1 x2 y16 y17 S14
        else
          es_ck (vp_in x4 (N 18)) <|
          es_lt (es_rd S 18 x4) fun v19 =>
          es_ck (vp_in x4 (N 19)) <|
          es_lt (es_rd S 19 x4) fun v21 =>
          es_bd (f_X5_keepRun N fu S x3 v19 v21) fun r22 S23 =>
          es_lt (x3 + 1) fun y25 =>
          es_lt (x4 + x1) fun y26 =>
          (fun x1 x2 x3 x4 S => f_X5_mergePass_29 N fu n x1 x2 x3 x4 S) x1 x2 y25 y26 S23

noncomputable def f_X5_mergePass (N : Nat → Nat) (fu : Nat) (S : es_St) : Option (Int32 × es_St) :=
  es_lt (if 2 < ((S.1 13) - 1) then ((S.1 13) - 1) else 2) fun v1 =>
  es_lt (if (nI (N 18)) < (S.1 12) then (nI (N 18)) else (S.1 12)) fun v2 =>
  f_X5_mergePass_29 N fu fu v1 v2 0 0 S

noncomputable def f_X5_arrange_68 (N : Nat → Nat) (fu : Nat) (t0 : Int32) (S : es_St) : Option (Int32 × es_St) :=
    es_lt (es_F S 10 t0) fun S8 =>
    if (S8.1 12) ≤ 0 then
      es_lt (es_F S8 11 0) fun S10 =>
      some (1, S10)
    else
      es_ck (vp_in 0 (N 19)) <|
      es_lt (es_rd S8 19 0) fun v12 =>
      es_lt (es_F S8 11 v12) fun S13 =>
      some (1, S13)

noncomputable def f_X5_arrange_50 (N : Nat → Nat) (fu : Nat) (S : es_St) : Option (Int32 × es_St) :=
    if (S.1 12) ≤ 0 then
      f_X5_arrange_68 N fu (-1) S
    else
      es_ck (vp_in 0 (N 18)) <|
      es_lt (es_rd S 18 0) fun v15 =>
      f_X5_arrange_68 N fu v15 S

noncomputable def f_X5_arrange_18 (N : Nat → Nat) (fu : Nat) : Nat → Int32 → es_St → Option (Int32 × es_St)
  | 0, _, _ => none
  | n + 1, x3, S =>
      if (nI (N 18)) ≤ x3 then
        f_X5_arrange_50 N fu S
      else
        if (S.1 12) ≤ 1 then
          f_X5_arrange_50 N fu S
        else
          es_bd (f_X5_mergePass N fu S) fun r17 S18 =>
          if ¬ r17 = 0 then
            es_lt (x3 + 1) fun y21 =>
            (fun x3 S => f_X5_arrange_18 N fu n x3 S) y21 S18
          else
            some (0, S18)

noncomputable def f_X5_arrange (N : Nat → Nat) (fu : Nat) (S : es_St) (p1 : Int32) (p2 : Int32) : Option (Int32 × es_St) :=
  es_lt (es_F S 12 0) fun S1 =>
  es_bd (f_X5_makeRuns N fu S1 p1 p2) fun r2 S3 =>
  if ¬ r2 = 0 then
    f_X5_arrange_18 N fu fu 0 S3
  else
    some (0, S3)

noncomputable def f_X5_prepare (N : Nat → Nat) (fu : Nat) (S : es_St) (p1 : Int32) (p2 : Int32) (p3 : Int32) : Option (Int32 × es_St) :=
  es_lt (es_F S 13 p1) fun S1 =>
  es_lt (es_F S1 14 p2) fun S2 =>
  es_ck (es_B p3) <|
  es_lt (es_F S2 15 p3) fun S4 =>
  some (0, S4)

noncomputable def f_X6_begin (N : Nat → Nat) (fu : Nat) (S : es_St) (p1 : Int32) : Option (Int32 × es_St) :=
  es_lt (es_F S 22 0) fun S1 =>
  es_lt (es_F S1 23 0) fun S2 =>
  es_lt (es_F S2 24 0) fun S3 =>
  es_lt (es_F S3 25 0) fun S4 =>
  es_lt (es_F S4 26 p1) fun S5 =>
  some (0, S5)

noncomputable def f_X6_copyFrom_42 (N : Nat → Nat) (fu : Nat) : Nat → Int32 → es_St → Option (Int32 × es_St)
  | 0, _, _ => none
  | n + 1, x2, S =>
      if (S.1 24) ≤ x2 then
        some (0, S)
      else
        if (nI (N 22)) ≤ x2 then
          some (0, S)
        else
          if (nI (N 23)) ≤ x2 then
            some (0, S)
          else
            es_ck (vp_in x2 (N 22)) <|
            es_lt (es_rd S 22 x2) fun v10 =>
            es_ck (vp_in x2 (N 23)) <|
            es_lt (es_wr S 23 x2 v10) fun S12 =>
            es_lt (x2 + 1) fun y13 =>
            (fun x2 S => f_X6_copyFrom_42 N fu n x2 S) y13 S12

noncomputable def f_X6_copyFrom (N : Nat → Nat) (fu : Nat) (S : es_St) : Option (Int32 × es_St) :=
  es_lt (es_F S 27 (S.1 22)) fun S1 =>
  es_lt (es_F S1 28 (S1.1 23)) fun S2 =>
  es_lt (es_F S2 29 (S2.1 24)) fun S3 =>
  es_lt (es_F S3 30 (S3.1 25)) fun S4 =>
  es_lt (es_F S4 31 (S4.1 26)) fun S5 =>
  f_X6_copyFrom_42 N fu fu 0 S5

noncomputable def f_X6_lengthOf (N : Nat → Nat) (fu : Nat) (S : es_St) (p1 : Int32) : Option (Int32 × es_St) :=
  if p1 < 0 then
    some ((-1), S)
  else
    if (S.1 29) ≤ p1 then
      some ((-1), S)
    else
      if (nI (N 23)) ≤ p1 then
        some ((-1), S)
      else
        es_ck (vp_in p1 (N 23)) <|
        es_lt (es_rd S 23 p1) fun v5 =>
        some (v5, S)

noncomputable def f_X7_addPage (N : Nat → Nat) (fu : Nat) (S : es_St) (p1 : Int32) : Option (Int32 × es_St) :=
  es_bd (f_X0_take N fu S p1) fun r1 S2 =>
  if ¬ r1 = (-1) then
    es_ck (vp_in p1 (N 10)) <|
    es_lt (es_rd S2 10 p1) fun v6 =>
    if ¬ v6 = 0 then
      es_ck (vp_in p1 (N 9)) <|
      es_lt (es_rd S2 9 p1) fun v9 =>
      es_ck (vp_in p1 (N 10)) <|
      es_lt (es_rd S2 10 p1) fun v11 =>
      es_bd (f_X0_pageOf N fu S2 v9 (v11 - 1)) fun r12 S13 =>
      es_bd (f_X0_link N fu S13 r12 r1) fun r15 S16 =>
      some (r1, S16)
    else
      es_ck (vp_in p1 (N 9)) <|
      es_lt (es_wr S2 9 p1 r1) fun S19 =>
      some (r1, S19)
  else
    some ((-1), S2)

noncomputable def f_X7_isFile (N : Nat → Nat) (fu : Nat) (S : es_St) (p1 : Int32) : Option (Int32 × es_St) :=
  if p1 < 0 then
    some (0, S)
  else
    if 6 ≤ p1 then
      some (0, S)
    else
      some (1, S)

noncomputable def f_X7_append_56 (N : Nat → Nat) (fu : Nat) (x1 : Int32) (x2 : Int32) (x3 : Int32) (x4 : Int32) (x5 : Int32) (t0 : Int32) (S : es_St) : Option (Int32 × es_St) :=
    if ¬ t0 = (-1) then
      es_bd (f_X0_store N fu S t0 x5 x2 x3) fun r17 S18 =>
      es_lt (x4 + 1) fun v20 =>
      es_ck (vp_in x1 (N 10)) <|
      es_lt (es_wr S18 10 x1 v20) fun S22 =>
      some (x4 + 1, S22)
    else
      some ((-1), S)

noncomputable def f_X7_append (N : Nat → Nat) (fu : Nat) (S : es_St) (p1 : Int32) (p2 : Int32) (p3 : Int32) : Option (Int32 × es_St) :=
  es_bd (f_X7_isFile N fu S p1) fun r1 S2 =>
  if ¬ r1 = 0 then
    es_ck (vp_in p1 (N 10)) <|
    es_lt (es_rd S2 10 p1) fun v6 =>
    es_bd (f_X0_slotOf N fu S2 v6) fun r7 S8 =>
    if ¬ r7 = 0 then
      es_ck (vp_in p1 (N 9)) <|
      es_lt (es_rd S8 9 p1) fun v12 =>
      es_bd (f_X0_pageOf N fu S8 v12 v6) fun r13 S14 =>
      f_X7_append_56 N fu p1 p2 p3 v6 r7 r13 S14
    else
      es_bd (f_X7_addPage N fu S8 p1) fun r23 S24 =>
      f_X7_append_56 N fu p1 p2 p3 v6 r7 r23 S24
  else
    some ((-1), S2)

noncomputable def f_X7_begin (N : Nat → Nat) (fu : Nat) (S : es_St) (p1 : Int32) (p2 : Int32) (p3 : Int32) : Option (Int32 × es_St) :=
  es_bd (f_X0_usedPages N fu S) fun r1 S2 =>
  es_bd (f_X6_begin N fu S2 r1) fun r4 S5 =>
  es_bd (f_X5_prepare N fu S5 p1 p2 p3) fun r7 S8 =>
  some (0, S8)

noncomputable def f_X7_isBudget (N : Nat → Nat) (fu : Nat) (S : es_St) (p1 : Int32) : Option (Int32 × es_St) :=
  if p1 < 3 then
    some (0, S)
  else
    if 16 < p1 then
      some (0, S)
    else
      some (1, S)

noncomputable def f_X7_settle (N : Nat → Nat) (fu : Nat) (S : es_St) (p1 : Int32) (p2 : Int32) (p3 : Int32) : Option (Int32 × es_St) :=
  es_bd (f_X0_releaseAll N fu S p1) fun r1 S2 =>
  es_bd (f_X0_handOver N fu S2 6 p1) fun r4 S5 =>
  es_ck (vp_in p1 (N 9)) <|
  es_lt (es_wr S5 9 p1 p2) fun S8 =>
  es_ck (vp_in p1 (N 10)) <|
  es_lt (es_wr S8 10 p1 p3) fun S10 =>
  es_bd (f_X6_copyFrom N fu S10) fun r11 S12 =>
  some (p3, S12)

noncomputable def f_X7_giveUp (N : Nat → Nat) (fu : Nat) (S : es_St) (p1 : Int32) : Option (Int32 × es_St) :=
  es_bd (f_X0_releaseAll N fu S 6) fun r1 S2 =>
  some (p1, S2)

noncomputable def f_X7_settleSorted (N : Nat → Nat) (fu : Nat) (S : es_St) (p1 : Int32) (p2 : Int32) : Option (Int32 × es_St) :=
  if p2 = 0 then
    es_bd (f_X7_giveUp N fu S (-2)) fun r2 S3 =>
    some (r2, S3)
  else
    es_bd (f_X7_settle N fu S p1 (S.1 10) (S.1 11)) fun r5 S6 =>
    some (r5, S6)

noncomputable def f_X7_distinct (N : Nat → Nat) (fu : Nat) (S : es_St) (p1 : Int32) (p2 : Int32) (p3 : Int32) : Option (Int32 × es_St) :=
  es_bd (f_X7_isFile N fu S p1) fun r1 S2 =>
  if r1 = 0 then
    some ((-1), S2)
  else
    es_bd (f_X7_isFile N fu S2 p2) fun r5 S6 =>
    if r5 = 0 then
      some ((-1), S6)
    else
      es_bd (f_X7_isBudget N fu S6 p3) fun r9 S10 =>
      if ¬ r9 = 0 then
        es_bd (f_X7_begin N fu S10 p3 1 1) fun r13 S14 =>
        es_ck (vp_in p1 (N 9)) <|
        es_lt (es_rd S14 9 p1) fun v17 =>
        es_ck (vp_in p1 (N 10)) <|
        es_lt (es_rd S14 10 p1) fun v19 =>
        es_bd (f_X5_arrange N fu S14 v17 v19) fun r20 S21 =>
        es_bd (f_X7_settleSorted N fu S21 p2 r20) fun r23 S24 =>
        some (r23, S24)
      else
        some ((-1), S10)

noncomputable def f_X7_drop (N : Nat → Nat) (fu : Nat) (S : es_St) (p1 : Int32) : Option (Int32 × es_St) :=
  es_bd (f_X7_isFile N fu S p1) fun r1 S2 =>
  if ¬ r1 = 0 then
    es_ck (vp_in p1 (N 9)) <|
    es_lt (es_wr S2 9 p1 (-1)) fun S6 =>
    es_ck (vp_in p1 (N 10)) <|
    es_lt (es_wr S6 10 p1 0) fun S8 =>
    es_bd (f_X0_releaseAll N fu S8 p1) fun r9 S10 =>
    some (r9, S10)
  else
    some ((-1), S2)

noncomputable def f_X7_hasRecord (N : Nat → Nat) (fu : Nat) (S : es_St) (p1 : Int32) (p2 : Int32) : Option (Int32 × es_St) :=
  es_bd (f_X7_isFile N fu S p1) fun r1 S2 =>
  if r1 = 0 then
    some (0, S2)
  else
    if p2 < 0 then
      some (0, S2)
    else
      es_ck (vp_in p1 (N 10)) <|
      es_lt (es_rd S2 10 p1) fun v7 =>
      if v7 ≤ p2 then
        some (0, S2)
      else
        some (1, S2)

noncomputable def f_X7_isMode (N : Nat → Nat) (fu : Nat) (S : es_St) (p1 : Int32) : Option (Int32 × es_St) :=
  if p1 < 0 then
    some (0, S)
  else
    if 2 < p1 then
      some (0, S)
    else
      some (1, S)

noncomputable def f_X7_join (N : Nat → Nat) (fu : Nat) (S : es_St) (p1 : Int32) (p2 : Int32) (p3 : Int32) (p4 : Int32) : Option (Int32 × es_St) :=
  es_bd (f_X7_isFile N fu S p1) fun r1 S2 =>
  if r1 = 0 then
    some ((-1), S2)
  else
    es_bd (f_X7_isFile N fu S2 p2) fun r5 S6 =>
    if r5 = 0 then
      some ((-1), S6)
    else
      es_bd (f_X7_isFile N fu S6 p3) fun r9 S10 =>
      if r9 = 0 then
        some ((-1), S10)
      else
        es_bd (f_X7_isBudget N fu S10 p4) fun r13 S14 =>
        if ¬ r13 = 0 then
          es_bd (f_X7_begin N fu S14 p4 0 0) fun r17 S18 =>
          es_ck (vp_in p1 (N 9)) <|
          es_lt (es_rd S18 9 p1) fun v21 =>
          es_ck (vp_in p1 (N 10)) <|
          es_lt (es_rd S18 10 p1) fun v23 =>
          es_bd (f_X5_arrange N fu S18 v21 v23) fun r24 S25 =>
          if ¬ r24 = 0 then
            es_ck (vp_in p2 (N 9)) <|
            es_lt (es_rd S25 9 p2) fun v29 =>
            es_ck (vp_in p2 (N 10)) <|
            es_lt (es_rd S25 10 p2) fun v31 =>
            es_bd (f_X5_arrange N fu S25 v29 v31) fun r32 S33 =>
            if ¬ r32 = 0 then
              es_bd (f_X2_look N fu S33 (S25.1 10) (S25.1 11) (S33.1 10) (S33.1 11)) fun r36 S37 =>
              es_bd (f_X2_largestGroupOfB N fu S37) fun r39 S40 =>
              es_bd (f_X5_room N fu S40) fun r42 S43 =>
              if r39 ≤ r42 then
                es_bd (f_X2_pairsFit N fu S43) fun r46 S47 =>
                if r46 = 0 then
                  es_bd (f_X7_giveUp N fu S47 (-2)) fun r50 S51 =>
                  some (r50, S51)
                else
                  es_bd (f_X2_writePairs N fu S47) fun r53 S54 =>
                  if ¬ r53 = 0 then
                    es_bd (f_X7_settle N fu S54 p3 (S54.1 3) (S54.1 4)) fun r57 S58 =>
                    some (r57, S58)
                  else
                    es_bd (f_X7_giveUp N fu S54 (-2)) fun r60 S61 =>
                    some (r60, S61)
              else
                es_bd (f_X7_giveUp N fu S43 (-3)) fun r63 S64 =>
                some (r63, S64)
            else
              es_bd (f_X7_giveUp N fu S33 (-2)) fun r66 S67 =>
              some (r66, S67)
          else
            es_bd (f_X7_giveUp N fu S25 (-2)) fun r69 S70 =>
            some (r69, S70)
        else
          some ((-1), S14)

noncomputable def f_X7_key (N : Nat → Nat) (fu : Nat) (S : es_St) (p1 : Int32) (p2 : Int32) : Option (Int32 × es_St) :=
  es_bd (f_X7_hasRecord N fu S p1 p2) fun r1 S2 =>
  if r1 = 0 then
    some (0, S2)
  else
    es_ck (vp_in p1 (N 9)) <|
    es_lt (es_rd S2 9 p1) fun v6 =>
    es_bd (f_X0_pageOf N fu S2 v6 p2) fun r7 S8 =>
    es_bd (f_X0_slotOf N fu S8 p2) fun r10 S11 =>
    es_bd (f_X0_keyAt N fu S11 r7 r10) fun r13 S14 =>
    some (r13, S14)

noncomputable def f_X7_run (N : Nat → Nat) (fu : Nat) (S : es_St) (p1 : Int32) : Option (Int32 × es_St) :=
  es_bd (f_X6_lengthOf N fu S p1) fun r1 S2 =>
  some (r1, S2)

noncomputable def f_X7_size (N : Nat → Nat) (fu : Nat) (S : es_St) (p1 : Int32) : Option (Int32 × es_St) :=
  es_bd (f_X7_isFile N fu S p1) fun r1 S2 =>
  if r1 = 0 then
    some ((-1), S2)
  else
    es_ck (vp_in p1 (N 10)) <|
    es_lt (es_rd S2 10 p1) fun v6 =>
    some (v6, S2)

noncomputable def f_X7_sort (N : Nat → Nat) (fu : Nat) (S : es_St) (p1 : Int32) (p2 : Int32) (p3 : Int32) (p4 : Int32) : Option (Int32 × es_St) :=
  es_bd (f_X7_isFile N fu S p1) fun r1 S2 =>
  if r1 = 0 then
    some ((-1), S2)
  else
    es_bd (f_X7_isFile N fu S2 p2) fun r5 S6 =>
    if r5 = 0 then
      some ((-1), S6)
    else
      es_bd (f_X7_isBudget N fu S6 p3) fun r9 S10 =>
      if r9 = 0 then
        some ((-1), S10)
      else
        es_bd (f_X7_isMode N fu S10 p4) fun r13 S14 =>
        if ¬ r13 = 0 then
          es_bd (f_X7_begin N fu S14 p3 p4 0) fun r17 S18 =>
          es_ck (vp_in p1 (N 9)) <|
          es_lt (es_rd S18 9 p1) fun v21 =>
          es_ck (vp_in p1 (N 10)) <|
          es_lt (es_rd S18 10 p1) fun v23 =>
          es_bd (f_X5_arrange N fu S18 v21 v23) fun r24 S25 =>
          es_bd (f_X7_settleSorted N fu S25 p2 r24) fun r27 S28 =>
          some (r27, S28)
        else
          some ((-1), S14)

noncomputable def f_X7_tag (N : Nat → Nat) (fu : Nat) (S : es_St) (p1 : Int32) (p2 : Int32) : Option (Int32 × es_St) :=
  es_bd (f_X7_hasRecord N fu S p1 p2) fun r1 S2 =>
  if r1 = 0 then
    some (0, S2)
  else
    es_ck (vp_in p1 (N 9)) <|
    es_lt (es_rd S2 9 p1) fun v6 =>
    es_bd (f_X0_pageOf N fu S2 v6 p2) fun r7 S8 =>
    es_bd (f_X0_slotOf N fu S8 p2) fun r10 S11 =>
    es_bd (f_X0_tagAt N fu S11 r7 r10) fun r13 S14 =>
    some (r13, S14)

noncomputable def f_X7_told (N : Nat → Nat) (fu : Nat) (S : es_St) (p1 : Int32) : Option (Int32 × es_St) :=
  if p1 = 0 then
    some ((S.1 27) + (S.1 28), S)
  else
  if p1 = 1 then
    some (S.1 27, S)
  else
  if p1 = 2 then
    some (S.1 28, S)
  else
  if p1 = 3 then
    some (S.1 29, S)
  else
  if p1 = 4 then
    some (S.1 30, S)
  else
  if p1 = 5 then
    some (S.1 31, S)
  else
  if p1 = 6 then
    es_bd (f_X0_freePages N fu S) fun r8 S9 =>
    some (r8, S9)
  else
  if p1 = 7 then
    some (S.1 0, S)
  else
  if p1 = 8 then
    some (S.1 1, S)
  else
  some ((-1), S)
