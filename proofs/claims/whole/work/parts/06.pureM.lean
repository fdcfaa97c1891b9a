noncomputable def f_X8_in (N : Nat → Nat) (fu : Nat) (S : es_St) (p1 : Int32) (p2 : Int32) (p3 : Int32) : Option (Int32 × es_St) :=
  if p1 < p2 then
    some (0, S)
  else
    if p3 < p1 then
      some (0, S)
    else
      some (1, S)

noncomputable def f_X8_isFile (N : Nat → Nat) (fu : Nat) (S : es_St) (p1 : Int32) : Option (Int32 × es_St) :=
  es_bd (f_X8_in N fu S p1 0 5) fun r1 S2 =>
  es_ck (es_B r1) <|
  some (r1, S2)

noncomputable def f_X8_append_58 (N : Nat → Nat) (fu : Nat) (x1 : Int32) (x2 : Int32) (x3 : Int32) (t0 : Int32) (t1 : Int32) (S : es_St) : Option (Int32 × es_St) :=
    es_lt (t1 + t0) fun v13 =>
    es_lt (es_F S 2 v13) fun S14 =>
    es_ck (vp_in x1 (N 3)) <|
    es_lt (es_rd S14 3 x1) fun v16 =>
    es_ck (vp_in ((8192 * x1) + v16) (N 1)) <|
    es_lt (es_wr S14 1 ((8192 * x1) + v16) x2) fun S18 =>
    es_ck (vp_in x1 (N 3)) <|
    es_lt (es_rd S18 3 x1) fun v20 =>
    es_ck (vp_in ((8192 * x1) + v20) (N 2)) <|
    es_lt (es_wr S18 2 ((8192 * x1) + v20) x3) fun S22 =>
    es_ck (vp_in x1 (N 3)) <|
    es_lt (es_rd S22 3 x1) fun v24 =>
    es_lt (v24 + 1) fun v25 =>
    es_ck (vp_in x1 (N 3)) <|
    es_lt (es_wr S22 3 x1 v25) fun S27 =>
    es_ck (vp_in x1 (N 3)) <|
    es_lt (es_rd S27 3 x1) fun v29 =>
    some (v29, S27)

noncomputable def f_X8_append_34 (N : Nat → Nat) (fu : Nat) (x1 : Int32) (x2 : Int32) (x3 : Int32) (S : es_St) : Option (Int32 × es_St) :=
    es_ck (vp_in x1 (N 3)) <|
    es_lt (es_rd S 3 x1) fun v10 =>
    es_ck (¬ (S.1 1) = 0) <|
    if ¬ (v10 - v10 / (S.1 1) * (S.1 1)) = 0 then
      f_X8_append_58 N fu x1 x2 x3 0 (S.1 2) S
    else
      f_X8_append_58 N fu x1 x2 x3 1 (S.1 2) S

noncomputable def f_X8_append (N : Nat → Nat) (fu : Nat) (S : es_St) (p1 : Int32) (p2 : Int32) (p3 : Int32) : Option (Int32 × es_St) :=
  es_bd (f_X8_isFile N fu S p1) fun r1 S2 =>
  if r1 = 0 then
    some ((-1), S2)
  else
    es_ck (vp_in p1 (N 3)) <|
    es_lt (es_rd S2 3 p1) fun v6 =>
    es_ck (¬ (S2.1 1) = 0) <|
    if ¬ (v6 - v6 / (S2.1 1) * (S2.1 1)) = 0 then
      f_X8_append_34 N fu p1 p2 p3 S2
    else
      if ¬ (S2.1 2) = (S2.1 0) then
        f_X8_append_34 N fu p1 p2 p3 S2
      else
        some ((-1), S2)

noncomputable def f_X8_begins (N : Nat → Nat) (fu : Nat) (S : es_St) : Option (Int32 × es_St) :=
  es_lt (es_F S 3 0) fun S1 =>
  es_lt (es_F S1 4 0) fun S2 =>
  es_lt (es_F S2 5 0) fun S3 =>
  es_lt (es_F S3 6 0) fun S4 =>
  es_lt (es_F S4 7 (S4.1 2)) fun S5 =>
  es_lt (es_F S5 8 0) fun S6 =>
  es_lt (es_F S6 11 0) fun S7 =>
  some (0, S7)

noncomputable def f_X8_takes_22 (N : Nat → Nat) (fu : Nat) (x1 : Int32) (x2 : Int32) (t0 : Int32) (t1 : Int32) (S : es_St) : Option (Int32 × es_St) :=
    es_lt (t1 + t0) fun v3 =>
    es_lt (es_F S 3 v3) fun S4 =>
    es_ck (vp_in ((8192 * x1) + (S4.1 16)) (N 1)) <|
    es_lt (es_rd S4 1 ((8192 * x1) + (S4.1 16))) fun v6 =>
    es_ck (vp_in (S4.1 12) (N 8)) <|
    es_lt (es_wr S4 8 (S4.1 12) v6) fun S8 =>
    es_ck (vp_in ((8192 * x1) + (S8.1 16)) (N 2)) <|
    es_lt (es_rd S8 2 ((8192 * x1) + (S8.1 16))) fun v10 =>
    es_ck (vp_in (S8.1 12) (N 9)) <|
    es_lt (es_wr S8 9 (S8.1 12) v10) fun S12 =>
    es_ck (vp_in (S12.1 12) (N 10)) <|
    es_lt (es_wr S12 10 (S12.1 12) (S12.1 16)) fun S14 =>
    es_ck (vp_in (S14.1 12) (N 11)) <|
    es_lt (es_wr S14 11 (S14.1 12) (vp_nar .boolean x2)) fun S16 =>
    es_lt ((S16.1 12) + 1) fun v17 =>
    es_lt (es_F S16 12 v17) fun S18 =>
    es_lt ((S18.1 16) + 1) fun v19 =>
    es_lt (es_F S18 16 v19) fun S20 =>
    some (0, S20)

noncomputable def f_X8_takes (N : Nat → Nat) (fu : Nat) (S : es_St) (p1 : Int32) (p2 : Int32) : Option (Int32 × es_St) :=
  es_ck (¬ (S.1 1) = 0) <|
  if ¬ ((S.1 16) - (S.1 16) / (S.1 1) * (S.1 1)) = 0 then
    f_X8_takes_22 N fu p1 p2 0 (S.1 3) S
  else
    f_X8_takes_22 N fu p1 p2 1 (S.1 3) S

noncomputable def f_X8_isAhead (N : Nat → Nat) (fu : Nat) (S : es_St) (p1 : Int32) (p2 : Int32) (p3 : Int32) (p4 : Int32) : Option (Int32 × es_St) :=
  if p1 = p3 then
    if ¬ (S.1 13) = 1 then
      some (0, S)
    else
      if p4 ≤ p2 then
        some (0, S)
      else
        some (1, S)
  else
    if ¬ (S.1 13) = 2 then
      if p3 ≤ p1 then
        some (0, S)
      else
        some (1, S)
    else
      if p1 ≤ p3 then
        some (0, S)
      else
        some (1, S)

noncomputable def f_X8_first_4 (N : Nat → Nat) (fu : Nat) : Nat → Int32 → Int32 → es_St → Option (Int32 × es_St)
  | 0, _, _, _ => none
  | n + 1, x1, x2, S =>
      if (S.1 12) ≤ x2 then
        some (x1, S)
      else
        es_ck (vp_in x2 (N 11)) <|
        es_lt (es_rd S 11 x2) fun v3 =>
        if v3 = 0 then
          if x1 < 0 then
            es_lt (x2 + 1) fun y6 =>
            (fun x1 x2 S => f_X8_first_4 N fu n x1 x2 S) x2 y6 S
          else
            es_ck (vp_in x2 (N 8)) <|
            es_lt (es_rd S 8 x2) fun v8 =>
            es_ck (vp_in x2 (N 9)) <|
            es_lt (es_rd S 9 x2) fun v10 =>
            es_ck (vp_in x1 (N 8)) <|
            es_lt (es_rd S 8 x1) fun v12 =>
            es_ck (vp_in x1 (N 9)) <|
            es_lt (es_rd S 9 x1) fun v14 =>
            es_bd (f_X8_isAhead N fu S v8 v10 v12 v14) fun r15 S16 =>
            if r15 = 0 then
              es_ck (vp_in x1 (N 8)) <|
              es_lt (es_rd S16 8 x1) fun v20 =>
              es_ck (vp_in x1 (N 9)) <|
              es_lt (es_rd S16 9 x1) fun v22 =>
              es_ck (vp_in x2 (N 8)) <|
              es_lt (es_rd S16 8 x2) fun v24 =>
              es_ck (vp_in x2 (N 9)) <|
              es_lt (es_rd S16 9 x2) fun v26 =>
              es_bd (f_X8_isAhead N fu S16 v20 v22 v24 v26) fun r27 S28 =>
              if ¬ r27 = 0 then
                es_lt (x2 + 1) fun y31 =>
                (fun x1 x2 S => f_X8_first_4 N fu n x1 x2 S) x1 y31 S28
              else
                es_ck (vp_in x2 (N 10)) <|
                es_lt (es_rd S28 10 x2) fun v33 =>
                es_ck (vp_in x1 (N 10)) <|
                es_lt (es_rd S28 10 x1) fun v35 =>
                if v35 ≤ v33 then
                  es_lt (x2 + 1) fun y37 =>
                  (fun x1 x2 S => f_X8_first_4 N fu n x1 x2 S) x1 y37 S28
                else
                  es_lt (x2 + 1) fun y38 =>
                  (fun x1 x2 S => f_X8_first_4 N fu n x1 x2 S) x2 y38 S28
            else
              es_lt (x2 + 1) fun y39 =>
              (fun x1 x2 S => f_X8_first_4 N fu n x1 x2 S) x2 y39 S16
        else
          es_lt (x2 + 1) fun y40 =>
          (fun x1 x2 S => f_X8_first_4 N fu n x1 x2 S) x1 y40 S

noncomputable def f_X8_first (N : Nat → Nat) (fu : Nat) (S : es_St) : Option (Int32 × es_St) :=
  f_X8_first_4 N fu fu (-1) 0 S

noncomputable def f_X8_writes (N : Nat → Nat) (fu : Nat) (S : es_St) : Option (Int32 × es_St) :=
  if ¬ (S.1 2) = (S.1 0) then
    es_lt ((S.1 2) + 1) fun v2 =>
    es_lt (es_F S 2 v2) fun S3 =>
    es_lt ((S3.1 4) + 1) fun v4 =>
    es_lt (es_F S3 4 v4) fun S5 =>
    if (S5.1 2) ≤ (S5.1 7) then
      es_lt (es_F S5 7 (S5.1 7)) fun S7 =>
      some (0, S7)
    else
      es_lt (es_F S5 7 (S5.1 2)) fun S8 =>
      some (0, S8)
  else
    es_lt (es_F S 8 1) fun S9 =>
    some (0, S9)

noncomputable def f_X8_endsRun_25 (N : Nat → Nat) (fu : Nat) (x1 : Int32) (x2 : Int32) (S : es_St) : Option (Int32 × es_St) :=
    es_ck (vp_in (S.1 11) (N 7)) <|
    es_lt (es_wr S 7 (S.1 11) x2) fun S7 =>
    es_lt ((S7.1 11) + 1) fun v8 =>
    es_lt (es_F S7 11 v8) fun S9 =>
    es_lt ((S9.1 10) + 1) fun v10 =>
    es_lt (es_F S9 10 v10) fun S11 =>
    es_ck (vp_in (S11.1 10) (N 6)) <|
    es_lt (es_wr S11 6 (S11.1 10) x1) fun S13 =>
    some (x1, S13)

noncomputable def f_X8_endsRun (N : Nat → Nat) (fu : Nat) (S : es_St) (p1 : Int32) : Option (Int32 × es_St) :=
  es_ck (vp_in (S.1 10) (N 6)) <|
  es_lt (es_rd S 6 (S.1 10)) fun v2 =>
  es_lt (p1 - v2) fun y3 =>
  es_ck (¬ (S.1 1) = 0) <|
  if (y3 - y3 / (S.1 1) * (S.1 1)) = 0 then
    f_X8_endsRun_25 N fu p1 y3 S
  else
    es_bd (f_X8_writes N fu S) fun r14 S15 =>
    f_X8_endsRun_25 N fu p1 y3 S15

noncomputable def f_X8_puts_39 (N : Nat → Nat) (fu : Nat) (x1 : Int32) (x2 : Int32) (x3 : Int32) (x4 : Int32) (S : es_St) : Option (Int32 × es_St) :=
    es_ck (vp_in x1 (N 4)) <|
    es_lt (es_wr S 4 x1 x3) fun S3 =>
    es_ck (vp_in x1 (N 5)) <|
    es_lt (es_wr S3 5 x1 x4) fun S5 =>
    es_ck (¬ (S5.1 1) = 0) <|
    if ¬ (((x1 + 1) - x2) - ((x1 + 1) - x2) / (S5.1 1) * (S5.1 1)) = 0 then
      some (x1 + 1, S5)
    else
      es_bd (f_X8_writes N fu S5) fun r8 S9 =>
      some (x1 + 1, S9)

noncomputable def f_X8_puts (N : Nat → Nat) (fu : Nat) (S : es_St) (p1 : Int32) (p2 : Int32) (p3 : Int32) (p4 : Int32) : Option (Int32 × es_St) :=
  if (S.1 14) = 0 then
    f_X8_puts_39 N fu p1 p2 p3 p4 S
  else
    if p1 ≤ p2 then
      f_X8_puts_39 N fu p1 p2 p3 p4 S
    else
      es_ck (vp_in (p1 - 1) (N 4)) <|
      es_lt (es_rd S 4 (p1 - 1)) fun v13 =>
      if ¬ v13 = p3 then
        f_X8_puts_39 N fu p1 p2 p3 p4 S
      else
        es_ck (vp_in (p1 - 1) (N 5)) <|
        es_lt (es_rd S 5 (p1 - 1)) fun v16 =>
        if ¬ v16 = p4 then
          f_X8_puts_39 N fu p1 p2 p3 p4 S
        else
          some (p1, S)

noncomputable def f_X8_makeRuns_301 (N : Nat → Nat) (fu : Nat) (x3 : Int32) (S : es_St) : Option (Int32 × es_St) :=
    es_ck (vp_in (S.1 10) (N 6)) <|
    es_lt (es_rd S 6 (S.1 10)) fun v10 =>
    if x3 ≤ v10 then
      es_lt ((S.1 5) + (S.1 10)) fun v12 =>
      es_lt (es_F S 5 v12) fun S13 =>
      some (0, S13)
    else
      es_bd (f_X8_endsRun N fu S x3) fun r14 S15 =>
      es_lt ((S15.1 5) + (S15.1 10)) fun v17 =>
      es_lt (es_F S15 5 v17) fun S18 =>
      some (0, S18)

noncomputable def f_X8_makeRuns_93 (N : Nat → Nat) (fu : Nat) (k59 : Int32 → Int32 → es_St → Option (Int32 × es_St)) : Nat → Int32 → Int32 → Int32 → es_St → Option (Int32 × es_St)
  | 0, _, _, _, _ => none
  | n + 1, x1, x3, x5, S =>
      if (S.1 12) ≤ x5 then
        k59 x1 x3 S
      else
        es_ck (vp_in x5 (N 11)) <|
        es_lt (es_wr S 11 x5 (vp_nar .boolean 0)) fun S73 =>
        es_lt (x5 + 1) fun y74 =>
        (fun x1 x3 x5 S => f_X8_makeRuns_93 N fu k59 n x1 x3 x5 S) x1 x3 y74 S73

noncomputable def f_X8_makeRuns_59 (N : Nat → Nat) (fu : Nat) : Nat → Int32 → Int32 → es_St → Option (Int32 × es_St)
  | 0, _, _, _ => none
  | n + 1, x1, x3, S =>
      if (S.1 12) ≤ 0 then
        f_X8_makeRuns_301 N fu x3 S
      else
        if ¬ (S.1 8) = 0 then
          f_X8_makeRuns_301 N fu x3 S
        else
          es_bd (f_X8_first N fu S) fun r20 S21 =>
          if 0 ≤ r20 then
            es_ck (vp_in r20 (N 8)) <|
            es_lt (es_rd S21 8 r20) fun v25 =>
            es_ck (vp_in r20 (N 9)) <|
            es_lt (es_rd S21 9 r20) fun v27 =>
            es_lt ((S21.1 12) - 1) fun v28 =>
            es_lt (es_F S21 12 v28) fun S29 =>
            es_ck (vp_in (S29.1 12) (N 8)) <|
            es_lt (es_rd S29 8 (S29.1 12)) fun v31 =>
            es_ck (vp_in r20 (N 8)) <|
            es_lt (es_wr S29 8 r20 v31) fun S33 =>
            es_ck (vp_in (S33.1 12) (N 9)) <|
            es_lt (es_rd S33 9 (S33.1 12)) fun v35 =>
            es_ck (vp_in r20 (N 9)) <|
            es_lt (es_wr S33 9 r20 v35) fun S37 =>
            es_ck (vp_in (S37.1 12) (N 10)) <|
            es_lt (es_rd S37 10 (S37.1 12)) fun v39 =>
            es_ck (vp_in r20 (N 10)) <|
            es_lt (es_wr S37 10 r20 v39) fun S41 =>
            es_ck (vp_in (S41.1 12) (N 11)) <|
            es_lt (es_rd S41 11 (S41.1 12)) fun v43 =>
            es_ck (vp_in r20 (N 11)) <|
            es_lt (es_wr S41 11 r20 (vp_nar .boolean v43)) fun S45 =>
            es_ck (vp_in (S45.1 10) (N 6)) <|
            es_lt (es_rd S45 6 (S45.1 10)) fun v47 =>
            es_bd (f_X8_puts N fu S45 x3 v47 v25 v27) fun r48 S49 =>
            es_ck (vp_in x1 (N 3)) <|
            es_lt (es_rd S49 3 x1) fun v52 =>
            if v52 ≤ (S49.1 16) then
              (fun x1 x3 S => f_X8_makeRuns_59 N fu n x1 x3 S) x1 r48 S49
            else
              es_ck (vp_in ((8192 * x1) + (S49.1 16)) (N 1)) <|
              es_lt (es_rd S49 1 ((8192 * x1) + (S49.1 16))) fun v55 =>
              es_ck (vp_in ((8192 * x1) + (S49.1 16)) (N 2)) <|
              es_lt (es_rd S49 2 ((8192 * x1) + (S49.1 16))) fun v57 =>
              es_ck (vp_in (r48 - 1) (N 4)) <|
              es_lt (es_rd S49 4 (r48 - 1)) fun v59 =>
              es_ck (vp_in (r48 - 1) (N 5)) <|
              es_lt (es_rd S49 5 (r48 - 1)) fun v61 =>
              es_bd (f_X8_isAhead N fu S49 v55 v57 v59 v61) fun r62 S63 =>
              es_bd (f_X8_takes N fu S63 x1 r62) fun r65 S66 =>
              (fun x1 x3 S => f_X8_makeRuns_59 N fu n x1 x3 S) x1 r48 S66
          else
            es_bd (f_X8_endsRun N fu S21 x3) fun r68 S69 =>
            f_X8_makeRuns_93 N fu (fun x1 x3 S => f_X8_makeRuns_59 N fu n x1 x3 S) fu x1 r68 0 S69

noncomputable def f_X8_makeRuns_29 (N : Nat → Nat) (fu : Nat) : Nat → Int32 → Int32 → Int32 → es_St → Option (Int32 × es_St)
  | 0, _, _, _, _ => none
  | n + 1, x1, x2, x3, S =>
      if x2 ≤ (S.1 12) then
        f_X8_makeRuns_59 N fu fu x1 x3 S
      else
        es_ck (vp_in x1 (N 3)) <|
        es_lt (es_rd S 3 x1) fun v76 =>
        if v76 ≤ (S.1 16) then
          f_X8_makeRuns_59 N fu fu x1 x3 S
        else
          es_bd (f_X8_takes N fu S x1 0) fun r78 S79 =>
          (fun x1 x2 x3 S => f_X8_makeRuns_29 N fu n x1 x2 x3 S) x1 x2 x3 S79

noncomputable def f_X8_makeRuns (N : Nat → Nat) (fu : Nat) (S : es_St) (p1 : Int32) (p2 : Int32) : Option (Int32 × es_St) :=
  es_lt (es_F S 9 0) fun S1 =>
  es_lt (es_F S1 10 0) fun S2 =>
  es_ck (vp_in 0 (N 6)) <|
  es_lt (es_wr S2 6 0 0) fun S4 =>
  es_lt (es_F S4 12 0) fun S5 =>
  es_lt (es_F S5 16 0) fun S6 =>
  f_X8_makeRuns_29 N fu fu p1 p2 0 S6

noncomputable def f_X8_stays_11 (N : Nat → Nat) (fu : Nat) : Nat → Int32 → Int32 → Int32 → Int32 → es_St → Option (Int32 × es_St)
  | 0, _, _, _, _, _ => none
  | n + 1, x1, x2, x4, x5, S =>
      es_ck (vp_in (x2 + 1) (N 6)) <|
      es_lt (es_rd S 6 (x2 + 1)) fun v4 =>
      if v4 ≤ x5 then
        some (x4, S)
      else
        es_ck (vp_in (x1 + x5) (N 4)) <|
        es_lt (es_rd S 4 (x1 + x5)) fun v7 =>
        es_ck (vp_in x4 (N 4)) <|
        es_lt (es_wr S 4 x4 v7) fun S9 =>
        es_ck (vp_in (x1 + x5) (N 5)) <|
        es_lt (es_rd S9 5 (x1 + x5)) fun v11 =>
        es_ck (vp_in x4 (N 5)) <|
        es_lt (es_wr S9 5 x4 v11) fun S13 =>
        es_lt (x4 + 1) fun y14 =>
        es_lt (x5 + 1) fun y15 =>
        (fun x1 x2 x4 x5 S => f_X8_stays_11 N fu n x1 x2 x4 x5 S) x1 x2 y14 y15 S13

noncomputable def f_X8_stays (N : Nat → Nat) (fu : Nat) (S : es_St) (p1 : Int32) (p2 : Int32) (p3 : Int32) : Option (Int32 × es_St) :=
  es_ck (vp_in p2 (N 6)) <|
  es_lt (es_rd S 6 p2) fun v2 =>
  f_X8_stays_11 N fu fu p1 p2 p3 v2 S

noncomputable def f_X8_readsPage (N : Nat → Nat) (fu : Nat) (S : es_St) : Option (Int32 × es_St) :=
  es_lt ((S.1 3) + 1) fun v1 =>
  es_lt (es_F S 3 v1) fun S2 =>
  es_lt ((S2.1 2) - 1) fun v3 =>
  es_lt (es_F S2 2 v3) fun S4 =>
  some (0, S4)

noncomputable def f_X8_leastOf_4 (N : Nat → Nat) (fu : Nat) : Nat → Int32 → Int32 → Int32 → es_St → Option (Int32 × es_St)
  | 0, _, _, _, _ => none
  | n + 1, x1, x2, x3, S =>
      if x1 ≤ x3 then
        some (x2, S)
      else
        es_ck (vp_in x3 (N 15)) <|
        es_lt (es_rd S 15 x3) fun v3 =>
        es_ck (vp_in x3 (N 16)) <|
        es_lt (es_rd S 16 x3) fun v5 =>
        if v5 ≤ v3 then
          es_lt (x3 + 1) fun y7 =>
          (fun x1 x2 x3 S => f_X8_leastOf_4 N fu n x1 x2 x3 S) x1 x2 y7 S
        else
          if x2 < 0 then
            es_lt (x3 + 1) fun y9 =>
            (fun x1 x2 x3 S => f_X8_leastOf_4 N fu n x1 x2 x3 S) x1 x3 y9 S
          else
            es_ck (vp_in x3 (N 15)) <|
            es_lt (es_rd S 15 x3) fun v11 =>
            es_ck (vp_in v11 (N 4)) <|
            es_lt (es_rd S 4 v11) fun v13 =>
            es_ck (vp_in x3 (N 15)) <|
            es_lt (es_rd S 15 x3) fun v15 =>
            es_ck (vp_in v15 (N 5)) <|
            es_lt (es_rd S 5 v15) fun v17 =>
            es_ck (vp_in x2 (N 15)) <|
            es_lt (es_rd S 15 x2) fun v19 =>
            es_ck (vp_in v19 (N 4)) <|
            es_lt (es_rd S 4 v19) fun v21 =>
            es_ck (vp_in x2 (N 15)) <|
            es_lt (es_rd S 15 x2) fun v23 =>
            es_ck (vp_in v23 (N 5)) <|
            es_lt (es_rd S 5 v23) fun v25 =>
            es_bd (f_X8_isAhead N fu S v13 v17 v21 v25) fun r26 S27 =>
            if r26 = 0 then
              es_lt (x3 + 1) fun y30 =>
              (fun x1 x2 x3 S => f_X8_leastOf_4 N fu n x1 x2 x3 S) x1 x2 y30 S27
            else
              es_lt (x3 + 1) fun y31 =>
              (fun x1 x2 x3 S => f_X8_leastOf_4 N fu n x1 x2 x3 S) x1 x3 y31 S27

noncomputable def f_X8_leastOf (N : Nat → Nat) (fu : Nat) (S : es_St) (p1 : Int32) : Option (Int32 × es_St) :=
  f_X8_leastOf_4 N fu fu p1 (-1) 0 S

noncomputable def f_X8_merge_191 (N : Nat → Nat) (fu : Nat) (x4 : Int32) (x5 : Int32) (S : es_St) : Option (Int32 × es_St) :=
    es_ck (¬ (S.1 1) = 0) <|
    if ((x5 - x4) - (x5 - x4) / (S.1 1) * (S.1 1)) = 0 then
      some (x5, S)
    else
      if ¬ (S.1 8) = 0 then
        some (x5, S)
      else
        es_bd (f_X8_writes N fu S) fun r9 S10 =>
        some (x5, S10)

noncomputable def f_X8_merge_167 (N : Nat → Nat) (fu : Nat) (k68 : Int32 → Int32 → Int32 → Int32 → Int32 → Int32 → es_St → Option (Int32 × es_St)) (x1 : Int32) (x2 : Int32) (x3 : Int32) (x4 : Int32) (x5 : Int32) (x7 : Int32) (x8 : Int32) (S : es_St) : Option (Int32 × es_St) :=
    es_bd (f_X8_puts N fu S x5 x4 x7 x8) fun r31 S32 =>
    es_bd (f_X8_leastOf N fu S32 x3) fun r34 S35 =>
    k68 x1 x2 x3 x4 r31 r34 S35

noncomputable def f_X8_merge_68 (N : Nat → Nat) (fu : Nat) : Nat → Int32 → Int32 → Int32 → Int32 → Int32 → Int32 → es_St → Option (Int32 × es_St)
  | 0, _, _, _, _, _, _, _ => none
  | n + 1, x1, x2, x3, x4, x5, x6, S =>
      if x6 < 0 then
        f_X8_merge_191 N fu x4 x5 S
      else
        if ¬ (S.1 8) = 0 then
          f_X8_merge_191 N fu x4 x5 S
        else
          es_ck (vp_in x6 (N 15)) <|
          es_lt (es_rd S 15 x6) fun v14 =>
          es_ck (vp_in v14 (N 4)) <|
          es_lt (es_rd S 4 v14) fun v16 =>
          es_ck (vp_in x6 (N 15)) <|
          es_lt (es_rd S 15 x6) fun v18 =>
          es_ck (vp_in v18 (N 5)) <|
          es_lt (es_rd S 5 v18) fun v20 =>
          es_ck (vp_in x6 (N 15)) <|
          es_lt (es_rd S 15 x6) fun v22 =>
          es_lt (v22 + 1) fun v23 =>
          es_ck (vp_in x6 (N 15)) <|
          es_lt (es_wr S 15 x6 v23) fun S25 =>
          es_ck (vp_in x6 (N 15)) <|
          es_lt (es_rd S25 15 x6) fun v27 =>
          es_ck (vp_in x6 (N 16)) <|
          es_lt (es_rd S25 16 x6) fun v29 =>
          if v29 ≤ v27 then
            f_X8_merge_167 N fu (fun x1 x2 x3 x4 x5 x6 S => f_X8_merge_68 N fu n x1 x2 x3 x4 x5 x6 S) x1 x2 x3 x4 x5 v16 v20 S25
          else
            es_ck (vp_in x6 (N 15)) <|
            es_lt (es_rd S25 15 x6) fun v38 =>
            es_ck (vp_in (x2 + x6) (N 6)) <|
            es_lt (es_rd S25 6 (x2 + x6)) fun v40 =>
            es_ck (¬ (S25.1 1) = 0) <|
            if ¬ (((v38 - x1) - v40) - ((v38 - x1) - v40) / (S25.1 1) * (S25.1 1)) = 0 then
              f_X8_merge_167 N fu (fun x1 x2 x3 x4 x5 x6 S => f_X8_merge_68 N fu n x1 x2 x3 x4 x5 x6 S) x1 x2 x3 x4 x5 v16 v20 S25
            else
              es_bd (f_X8_readsPage N fu S25) fun r43 S44 =>
              f_X8_merge_167 N fu (fun x1 x2 x3 x4 x5 x6 S => f_X8_merge_68 N fu n x1 x2 x3 x4 x5 x6 S) x1 x2 x3 x4 x5 v16 v20 S44

noncomputable def f_X8_merge_7 (N : Nat → Nat) (fu : Nat) : Nat → Int32 → Int32 → Int32 → Int32 → Int32 → Int32 → es_St → Option (Int32 × es_St)
  | 0, _, _, _, _, _, _, _ => none
  | n + 1, x1, x2, x3, x4, x5, x6, S =>
      if x3 ≤ x6 then
        es_bd (f_X8_leastOf N fu S x3) fun r2 S3 =>
        f_X8_merge_68 N fu fu x1 x2 x3 x4 x5 r2 S3
      else
        es_ck (vp_in (x2 + x6) (N 6)) <|
        es_lt (es_rd S 6 (x2 + x6)) fun v47 =>
        es_lt (x1 + v47) fun v48 =>
        es_ck (vp_in x6 (N 15)) <|
        es_lt (es_wr S 15 x6 v48) fun S50 =>
        es_ck (vp_in ((x2 + x6) + 1) (N 6)) <|
        es_lt (es_rd S50 6 ((x2 + x6) + 1)) fun v52 =>
        es_lt (x1 + v52) fun v53 =>
        es_ck (vp_in x6 (N 16)) <|
        es_lt (es_wr S50 16 x6 v53) fun S55 =>
        es_bd (f_X8_readsPage N fu S55) fun r56 S57 =>
        es_lt (x6 + 1) fun y59 =>
        (fun x1 x2 x3 x4 x5 x6 S => f_X8_merge_7 N fu n x1 x2 x3 x4 x5 x6 S) x1 x2 x3 x4 x5 y59 S57

noncomputable def f_X8_merge (N : Nat → Nat) (fu : Nat) (S : es_St) (p1 : Int32) (p2 : Int32) (p3 : Int32) (p4 : Int32) : Option (Int32 × es_St) :=
  f_X8_merge_7 N fu fu p1 p2 p3 p4 p4 0 S

noncomputable def f_X8_merges_156 (N : Nat → Nat) (fu : Nat) (k0 : Int32 → es_St → Option (Int32 × es_St)) : Nat → Int32 → Int32 → Int32 → Int32 → es_St → Option (Int32 × es_St)
  | 0, _, _, _, _, _ => none
  | n + 1, x1, x3, x4, x6, S =>
      if x4 < x6 then
        es_lt (es_F S 10 x4) fun S11 =>
        es_lt (es_F S11 9 x3) fun S12 =>
        k0 x1 S12
      else
        es_ck (vp_in x6 (N 14)) <|
        es_lt (es_rd S 14 x6) fun v14 =>
        es_ck (vp_in x6 (N 6)) <|
        es_lt (es_wr S 6 x6 v14) fun S16 =>
        es_lt (x6 + 1) fun y17 =>
        (fun x1 x3 x4 x6 S => f_X8_merges_156 N fu k0 n x1 x3 x4 x6 S) x1 x3 x4 y17 S16

noncomputable def f_X8_merges_86 (N : Nat → Nat) (fu : Nat) (k0 : Int32 → es_St → Option (Int32 × es_St)) (k48 : Int32 → Int32 → Int32 → Int32 → Int32 → Int32 → es_St → Option (Int32 × es_St)) (x1 : Int32) (x2 : Int32) (x3 : Int32) (x4 : Int32) (x5 : Int32) (x6 : Int32) (t0 : Int32) (S : es_St) : Option (Int32 × es_St) :=
    es_lt (x5 - x3) fun v23 =>
    es_ck (vp_in x4 (N 14)) <|
    es_lt (es_wr S 14 x4 v23) fun S25 =>
    if ¬ t0 = 1 then
      es_bd (f_X8_merge N fu S25 x2 x6 t0 x5) fun r27 S28 =>
      es_lt (x4 + 1) fun y30 =>
      es_lt (x6 + x1) fun y31 =>
      k48 x1 x2 x3 y30 r27 y31 S28
    else
      es_bd (f_X8_stays N fu S25 x2 x6 x5) fun r32 S33 =>
      es_lt (x4 + 1) fun y35 =>
      es_lt (x6 + x1) fun y36 =>
      k48 x1 x2 x3 y35 r32 y36 S33

noncomputable def f_X8_merges_48 (N : Nat → Nat) (fu : Nat) (k0 : Int32 → es_St → Option (Int32 × es_St)) : Nat → Int32 → Int32 → Int32 → Int32 → Int32 → Int32 → es_St → Option (Int32 × es_St)
  | 0, _, _, _, _, _, _, _ => none
  | n + 1, x1, x2, x3, x4, x5, x6, S =>
      if (S.1 10) ≤ x6 then
        es_lt (x5 - x3) fun v7 =>
        es_ck (vp_in x4 (N 14)) <|
        es_lt (es_wr S 14 x4 v7) fun S9 =>
        f_X8_merges_156 N fu k0 fu x1 x3 x4 0 S9
      else
        if ¬ (S.1 8) = 0 then
          es_lt (x5 - x3) fun v19 =>
          es_ck (vp_in x4 (N 14)) <|
          es_lt (es_wr S 14 x4 v19) fun S21 =>
          f_X8_merges_156 N fu k0 fu x1 x3 x4 0 S21
        else
          if x1 ≤ ((S.1 10) - x6) then
            f_X8_merges_86 N fu k0 (fun x1 x2 x3 x4 x5 x6 S => f_X8_merges_48 N fu k0 n x1 x2 x3 x4 x5 x6 S) x1 x2 x3 x4 x5 x6 x1 S
          else
            f_X8_merges_86 N fu k0 (fun x1 x2 x3 x4 x5 x6 S => f_X8_merges_48 N fu k0 n x1 x2 x3 x4 x5 x6 S) x1 x2 x3 x4 x5 x6 ((S.1 10) - x6) S

noncomputable def f_X8_merges_0 (N : Nat → Nat) (fu : Nat) : Nat → Int32 → es_St → Option (Int32 × es_St)
  | 0, _, _ => none
  | n + 1, x1, S =>
      if (S.1 10) ≤ 1 then
        some (0, S)
      else
        if ¬ (S.1 8) = 0 then
          some (0, S)
        else
          es_lt ((S.1 6) + 1) fun v3 =>
          es_lt (es_F S 6 v3) fun S4 =>
          es_lt (8192 - (S4.1 9)) fun y5 =>
          f_X8_merges_48 N fu (fun x1 S => f_X8_merges_0 N fu n x1 S) fu x1 (S4.1 9) y5 0 y5 0 S4

noncomputable def f_X8_merges (N : Nat → Nat) (fu : Nat) (S : es_St) (p1 : Int32) : Option (Int32 × es_St) :=
  f_X8_merges_0 N fu fu p1 S

noncomputable def f_X8_sorted (N : Nat → Nat) (fu : Nat) (S : es_St) (p1 : Int32) (p2 : Int32) (p3 : Int32) (p4 : Int32) : Option (Int32 × es_St) :=
  es_lt (es_F S 13 p3) fun S1 =>
  es_ck (es_B p4) <|
  es_lt (es_F S1 14 p4) fun S3 =>
  es_bd (f_X8_makeRuns N fu S3 p1 ((p2 - 2) * (S3.1 1))) fun r4 S5 =>
  es_bd (f_X8_merges N fu S5 (p2 - 1)) fun r7 S8 =>
  if ¬ (S8.1 10) = 0 then
    es_ck (vp_in 1 (N 6)) <|
    es_lt (es_rd S8 6 1) fun v12 =>
    some (v12, S8)
  else
    some (0, S8)

noncomputable def f_X8_pagesOf (N : Nat → Nat) (fu : Nat) (S : es_St) (p1 : Int32) : Option (Int32 × es_St) :=
  es_ck (¬ (S.1 1) = 0) <|
  some (((p1 + (S.1 1)) - 1) / (S.1 1), S)

noncomputable def f_X8_tells_75 (N : Nat → Nat) (fu : Nat) : Nat → Int32 → es_St → Option (Int32 × es_St)
  | 0, _, _ => none
  | n + 1, x1, S =>
      if (S.1 11) ≤ x1 then
        some (0, S)
      else
        es_ck (vp_in x1 (N 7)) <|
        es_lt (es_rd S 7 x1) fun v17 =>
        es_ck (vp_in x1 (N 13)) <|
        es_lt (es_wr S 13 x1 v17) fun S19 =>
        es_lt (x1 + 1) fun y20 =>
        (fun x1 S => f_X8_tells_75 N fu n x1 S) y20 S19

noncomputable def f_X8_tells (N : Nat → Nat) (fu : Nat) (S : es_St) : Option (Int32 × es_St) :=
  es_lt ((S.1 3) + (S.1 4)) fun v1 =>
  es_ck (vp_in 0 (N 12)) <|
  es_lt (es_wr S 12 0 v1) fun S3 =>
  es_ck (vp_in 1 (N 12)) <|
  es_lt (es_wr S3 12 1 (S3.1 3)) fun S5 =>
  es_ck (vp_in 2 (N 12)) <|
  es_lt (es_wr S5 12 2 (S5.1 4)) fun S7 =>
  es_ck (vp_in 3 (N 12)) <|
  es_lt (es_wr S7 12 3 (S7.1 5)) fun S9 =>
  es_ck (vp_in 4 (N 12)) <|
  es_lt (es_wr S9 12 4 (S9.1 6)) fun S11 =>
  es_ck (vp_in 5 (N 12)) <|
  es_lt (es_wr S11 12 5 (S11.1 7)) fun S13 =>
  es_lt (es_F S13 15 (S13.1 11)) fun S14 =>
  f_X8_tells_75 N fu fu 0 S14

noncomputable def f_X8_sorts_68 (N : Nat → Nat) (fu : Nat) : Nat → Int32 → Int32 → Int32 → es_St → Option (Int32 × es_St)
  | 0, _, _, _, _ => none
  | n + 1, x2, x7, x8, S =>
      if x7 ≤ x8 then
        es_bd (f_X8_tells N fu S) fun r18 S19 =>
        some (x7, S19)
      else
        es_ck (vp_in ((S.1 9) + x8) (N 4)) <|
        es_lt (es_rd S 4 ((S.1 9) + x8)) fun v22 =>
        es_ck (vp_in ((8192 * x2) + x8) (N 1)) <|
        es_lt (es_wr S 1 ((8192 * x2) + x8) v22) fun S24 =>
        es_ck (vp_in ((S24.1 9) + x8) (N 5)) <|
        es_lt (es_rd S24 5 ((S24.1 9) + x8)) fun v26 =>
        es_ck (vp_in ((8192 * x2) + x8) (N 2)) <|
        es_lt (es_wr S24 2 ((8192 * x2) + x8) v26) fun S28 =>
        es_lt (x8 + 1) fun y29 =>
        (fun x2 x7 x8 S => f_X8_sorts_68 N fu n x2 x7 x8 S) x2 x7 y29 S28

noncomputable def f_X8_sorts (N : Nat → Nat) (fu : Nat) (S : es_St) (p1 : Int32) (p2 : Int32) (p3 : Int32) (p4 : Int32) (p5 : Int32) : Option (Int32 × es_St) :=
  es_bd (f_X8_begins N fu S) fun r1 S2 =>
  es_bd (f_X8_sorted N fu S2 p1 p3 p4 p5) fun r4 S5 =>
  if (S5.1 8) = 0 then
    es_ck (vp_in p2 (N 3)) <|
    es_lt (es_rd S5 3 p2) fun v9 =>
    es_bd (f_X8_pagesOf N fu S5 v9) fun r10 S11 =>
    es_lt ((S5.1 2) - r10) fun v13 =>
    es_lt (es_F S11 2 v13) fun S14 =>
    es_ck (vp_in p2 (N 3)) <|
    es_lt (es_wr S14 3 p2 r4) fun S16 =>
    f_X8_sorts_68 N fu fu p2 r4 0 S16
  else
    es_lt (es_F S5 2 (S.1 2)) fun S30 =>
    some ((-2), S30)

noncomputable def f_X8_distinct (N : Nat → Nat) (fu : Nat) (S : es_St) (p1 : Int32) (p2 : Int32) (p3 : Int32) : Option (Int32 × es_St) :=
  es_bd (f_X8_isFile N fu S p1) fun r1 S2 =>
  if r1 = 0 then
    some ((-1), S2)
  else
    es_bd (f_X8_isFile N fu S2 p2) fun r5 S6 =>
    if r5 = 0 then
      some ((-1), S6)
    else
      es_bd (f_X8_in N fu S6 p3 3 16) fun r9 S10 =>
      if r9 = 0 then
        some ((-1), S10)
      else
        es_bd (f_X8_sorts N fu S10 p1 p2 p3 1 1) fun r13 S14 =>
        some (r13, S14)

noncomputable def f_X8_drop (N : Nat → Nat) (fu : Nat) (S : es_St) (p1 : Int32) : Option (Int32 × es_St) :=
  es_bd (f_X8_isFile N fu S p1) fun r1 S2 =>
  if ¬ r1 = 0 then
    es_ck (vp_in p1 (N 3)) <|
    es_lt (es_rd S2 3 p1) fun v6 =>
    es_bd (f_X8_pagesOf N fu S2 v6) fun r7 S8 =>
    es_ck (vp_in p1 (N 3)) <|
    es_lt (es_wr S8 3 p1 0) fun S11 =>
    es_lt ((S11.1 2) - r7) fun v12 =>
    es_lt (es_F S11 2 v12) fun S13 =>
    some (r7, S13)
  else
    some ((-1), S2)

noncomputable def f_X8_joined_168 (N : Nat → Nat) (fu : Nat) : Nat → Int32 → Int32 → Int32 → Int64 → Int32 → Int32 → es_St → Option (Int32 × es_St)
  | 0, _, _, _, _, _, _, _ => none
  | n + 1, x2, x3, x4, x5, x9, x10, S =>
      if x2 ≤ x10 then
        es_lt (((S.1 0) - x3).toInt64) fun y3 =>
        if x9 = 0 then
          if (lg_cmp x5 (y3 * ((S.1 1).toInt64))) ≤ 0 then
            some (x5.toInt32, S)
          else
            some ((-2), S)
        else
          some ((-3), S)
      else
        if ¬ x9 = 0 then
          es_lt (x10 + 1) fun y7 =>
          (fun x2 x3 x4 x5 x9 x10 S => f_X8_joined_168 N fu n x2 x3 x4 x5 x9 x10 S) x2 x3 x4 x5 1 y7 S
        else
          if x10 < x4 then
            es_lt (x10 + 1) fun y9 =>
            (fun x2 x3 x4 x5 x9 x10 S => f_X8_joined_168 N fu n x2 x3 x4 x5 x9 x10 S) x2 x3 x4 x5 0 y9 S
          else
            es_ck (vp_in (x10 - x4) (N 19)) <|
            es_lt (es_rd S 19 (x10 - x4)) fun v11 =>
            es_ck (vp_in x10 (N 19)) <|
            es_lt (es_rd S 19 x10) fun v13 =>
            if ¬ v11 = v13 then
              es_lt (x10 + 1) fun y15 =>
              (fun x2 x3 x4 x5 x9 x10 S => f_X8_joined_168 N fu n x2 x3 x4 x5 x9 x10 S) x2 x3 x4 x5 0 y15 S
            else
              es_lt (x10 + 1) fun y16 =>
              (fun x2 x3 x4 x5 x9 x10 S => f_X8_joined_168 N fu n x2 x3 x4 x5 x9 x10 S) x2 x3 x4 x5 1 y16 S

noncomputable def f_X8_joined_136 (N : Nat → Nat) (fu : Nat) (k12 : Int32 → Int32 → Int32 → Int32 → Int64 → Int32 → Int32 → Int32 → es_St → Option (Int32 × es_St)) (x1 : Int32) (x2 : Int32) (x3 : Int32) (x4 : Int32) (x5 : Int64) (x7 : Int32) (x8 : Int32) (x9 : Int32) (x10 : Int32) (x11 : Int32) (S : es_St) : Option (Int32 × es_St) :=
    es_lt (x5 + (((x10 - x8).toInt64) * ((x11 - x7).toInt64))) fun y30 =>
    k12 x1 x2 x3 x4 y30 x11 x10 x9 S

noncomputable def f_X8_joined_107 (N : Nat → Nat) (fu : Nat) (k12 : Int32 → Int32 → Int32 → Int32 → Int64 → Int32 → Int32 → Int32 → es_St → Option (Int32 × es_St)) : Nat → Int32 → Int32 → Int32 → Int32 → Int64 → Int32 → Int32 → Int32 → Int32 → Int32 → es_St → Option (Int32 × es_St)
  | 0, _, _, _, _, _, _, _, _, _, _, _ => none
  | n + 1, x1, x2, x3, x4, x5, x7, x8, x9, x10, x11, S =>
      if x2 ≤ x11 then
        f_X8_joined_136 N fu k12 x1 x2 x3 x4 x5 x7 x8 x9 x10 x11 S
      else
        es_ck (vp_in x11 (N 19)) <|
        es_lt (es_rd S 19 x11) fun v32 =>
        es_ck (vp_in x7 (N 19)) <|
        es_lt (es_rd S 19 x7) fun v34 =>
        if ¬ v32 = v34 then
          f_X8_joined_136 N fu k12 x1 x2 x3 x4 x5 x7 x8 x9 x10 x11 S
        else
          es_lt (x11 + 1) fun y36 =>
          (fun x1 x2 x3 x4 x5 x7 x8 x9 x10 x11 S => f_X8_joined_107 N fu k12 n x1 x2 x3 x4 x5 x7 x8 x9 x10 x11 S) x1 x2 x3 x4 x5 x7 x8 x9 x10 y36 S

noncomputable def f_X8_joined_74 (N : Nat → Nat) (fu : Nat) (k12 : Int32 → Int32 → Int32 → Int32 → Int64 → Int32 → Int32 → Int32 → es_St → Option (Int32 × es_St)) : Nat → Int32 → Int32 → Int32 → Int32 → Int64 → Int32 → Int32 → Int32 → Int32 → es_St → Option (Int32 × es_St)
  | 0, _, _, _, _, _, _, _, _, _, _ => none
  | n + 1, x1, x2, x3, x4, x5, x7, x8, x9, x10, S =>
      if x1 ≤ x10 then
        f_X8_joined_107 N fu k12 fu x1 x2 x3 x4 x5 x7 x8 x9 x10 x7 S
      else
        es_ck (vp_in x10 (N 17)) <|
        es_lt (es_rd S 17 x10) fun v38 =>
        es_ck (vp_in x8 (N 17)) <|
        es_lt (es_rd S 17 x8) fun v40 =>
        if ¬ v38 = v40 then
          f_X8_joined_107 N fu k12 fu x1 x2 x3 x4 x5 x7 x8 x9 x10 x7 S
        else
          es_lt (x10 + 1) fun y42 =>
          (fun x1 x2 x3 x4 x5 x7 x8 x9 x10 S => f_X8_joined_74 N fu k12 n x1 x2 x3 x4 x5 x7 x8 x9 x10 S) x1 x2 x3 x4 x5 x7 x8 x9 y42 S

noncomputable def f_X8_joined_12 (N : Nat → Nat) (fu : Nat) : Nat → Int32 → Int32 → Int32 → Int32 → Int64 → Int32 → Int32 → Int32 → es_St → Option (Int32 × es_St)
  | 0, _, _, _, _, _, _, _, _, _ => none
  | n + 1, x1, x2, x3, x4, x5, x7, x8, x9, S =>
      if x1 ≤ x8 then
        f_X8_joined_168 N fu fu x2 x3 x4 x5 x9 0 S
      else
        if x2 ≤ x7 then
          f_X8_joined_168 N fu fu x2 x3 x4 x5 x9 0 S
        else
          es_ck (vp_in x8 (N 17)) <|
          es_lt (es_rd S 17 x8) fun v19 =>
          es_ck (vp_in x7 (N 19)) <|
          es_lt (es_rd S 19 x7) fun v21 =>
          if v21 ≤ v19 then
            es_ck (vp_in x8 (N 17)) <|
            es_lt (es_rd S 17 x8) fun v24 =>
            es_ck (vp_in x7 (N 19)) <|
            es_lt (es_rd S 19 x7) fun v26 =>
            if v24 ≤ v26 then
              f_X8_joined_74 N fu (fun x1 x2 x3 x4 x5 x7 x8 x9 S => f_X8_joined_12 N fu n x1 x2 x3 x4 x5 x7 x8 x9 S) fu x1 x2 x3 x4 x5 x7 x8 x9 x8 S
            else
              es_lt (x7 + 1) fun y43 =>
              (fun x1 x2 x3 x4 x5 x7 x8 x9 S => f_X8_joined_12 N fu n x1 x2 x3 x4 x5 x7 x8 x9 S) x1 x2 x3 x4 x5 y43 x8 x9 S
          else
            es_lt (x8 + 1) fun y44 =>
            (fun x1 x2 x3 x4 x5 x7 x8 x9 S => f_X8_joined_12 N fu n x1 x2 x3 x4 x5 x7 x8 x9 S) x1 x2 x3 x4 x5 x7 y44 x9 S

noncomputable def f_X8_joined (N : Nat → Nat) (fu : Nat) (S : es_St) (p1 : Int32) (p2 : Int32) (p3 : Int32) (p4 : Int32) : Option (Int32 × es_St) :=
  f_X8_joined_12 N fu fu p1 p2 p3 p4 0 0 0 0 S

noncomputable def f_X8_puts2_52 (N : Nat → Nat) (fu : Nat) (k13 : Int32 → Int32 → Int32 → Int32 → Int32 → es_St → Option (Int32 × es_St)) : Nat → Int32 → Int32 → Int32 → Int32 → Int32 → Int32 → es_St → Option (Int32 × es_St)
  | 0, _, _, _, _, _, _, _ => none
  | n + 1, x1, x2, x4, x5, x6, x7, S =>
      if x2 ≤ x7 then
        es_lt (x6 + 1) fun y5 =>
        k13 x1 x2 x4 x5 y5 S
      else
        es_ck (vp_in x7 (N 19)) <|
        es_lt (es_rd S 19 x7) fun v7 =>
        es_ck (vp_in x6 (N 17)) <|
        es_lt (es_rd S 17 x6) fun v9 =>
        if ¬ v7 = v9 then
          es_lt (x6 + 1) fun y11 =>
          k13 x1 x2 x4 x5 y11 S
        else
          es_ck (vp_in x6 (N 18)) <|
          es_lt (es_rd S 18 x6) fun v13 =>
          es_ck (vp_in x4 (N 1)) <|
          es_lt (es_wr S 1 x4 v13) fun S15 =>
          es_ck (vp_in x7 (N 20)) <|
          es_lt (es_rd S15 20 x7) fun v17 =>
          es_ck (vp_in x4 (N 2)) <|
          es_lt (es_wr S15 2 x4 v17) fun S19 =>
          es_lt (x4 + 1) fun y20 =>
          es_lt (x7 + 1) fun y21 =>
          (fun x1 x2 x4 x5 x6 x7 S => f_X8_puts2_52 N fu k13 n x1 x2 x4 x5 x6 x7 S) x1 x2 y20 x5 x6 y21 S19

noncomputable def f_X8_puts2_19 (N : Nat → Nat) (fu : Nat) (k13 : Int32 → Int32 → Int32 → Int32 → Int32 → es_St → Option (Int32 × es_St)) : Nat → Int32 → Int32 → Int32 → Int32 → Int32 → es_St → Option (Int32 × es_St)
  | 0, _, _, _, _, _, _ => none
  | n + 1, x1, x2, x4, x5, x6, S =>
      if x2 ≤ x5 then
        f_X8_puts2_52 N fu k13 fu x1 x2 x4 x5 x6 x5 S
      else
        es_ck (vp_in x5 (N 19)) <|
        es_lt (es_rd S 19 x5) fun v23 =>
        es_ck (vp_in x6 (N 17)) <|
        es_lt (es_rd S 17 x6) fun v25 =>
        if v25 ≤ v23 then
          f_X8_puts2_52 N fu k13 fu x1 x2 x4 x5 x6 x5 S
        else
          es_lt (x5 + 1) fun y27 =>
          (fun x1 x2 x4 x5 x6 S => f_X8_puts2_19 N fu k13 n x1 x2 x4 x5 x6 S) x1 x2 x4 y27 x6 S

noncomputable def f_X8_puts2_13 (N : Nat → Nat) (fu : Nat) : Nat → Int32 → Int32 → Int32 → Int32 → Int32 → es_St → Option (Int32 × es_St)
  | 0, _, _, _, _, _, _ => none
  | n + 1, x1, x2, x4, x5, x6, S =>
      if x1 ≤ x6 then
        some (0, S)
      else
        f_X8_puts2_19 N fu (fun x1 x2 x4 x5 x6 S => f_X8_puts2_13 N fu n x1 x2 x4 x5 x6 S) fu x1 x2 x4 x5 x6 S

noncomputable def f_X8_puts2 (N : Nat → Nat) (fu : Nat) (S : es_St) (p1 : Int32) (p2 : Int32) (p3 : Int32) : Option (Int32 × es_St) :=
  es_lt (8192 * p3) fun y1 =>
  f_X8_puts2_13 N fu fu p1 p2 y1 0 0 S

noncomputable def f_X8_join_305 (N : Nat → Nat) (fu : Nat) (x3 : Int32) (x6 : Int32) (x7 : Int32) (x8 : Int32) (t0 : Int32) (S : es_St) : Option (Int32 × es_St) :=
    es_lt (es_F S 7 t0) fun S53 =>
    es_ck (vp_in x3 (N 3)) <|
    es_lt (es_rd S53 3 x3) fun v55 =>
    es_bd (f_X8_pagesOf N fu S53 v55) fun r56 S57 =>
    es_lt ((S53.1 2) - r56) fun v59 =>
    es_lt (es_F S57 2 v59) fun S60 =>
    es_bd (f_X8_puts2 N fu S60 x6 x7 x3) fun r61 S62 =>
    es_ck (vp_in x3 (N 3)) <|
    es_lt (es_wr S62 3 x3 x8) fun S65 =>
    es_bd (f_X8_tells N fu S65) fun r66 S67 =>
    some (x8, S67)

noncomputable def f_X8_join_216 (N : Nat → Nat) (fu : Nat) (x3 : Int32) (x5 : Int32) (x6 : Int32) (x7 : Int32) (t0 : Int32) (S : es_St) : Option (Int32 × es_St) :=
    if 0 ≤ t0 then
      es_bd (f_X8_pagesOf N fu S x6) fun r34 S35 =>
      es_bd (f_X8_pagesOf N fu S35 x7) fun r37 S38 =>
      es_lt ((S.1 3) + (r34 + r37)) fun v40 =>
      es_lt (es_F S38 3 v40) fun S41 =>
      es_bd (f_X8_pagesOf N fu S41 t0) fun r42 S43 =>
      es_lt (x5 + r42) fun v45 =>
      es_lt (es_F S43 2 v45) fun S46 =>
      es_bd (f_X8_pagesOf N fu S46 t0) fun r47 S48 =>
      es_lt ((S46.1 4) + r47) fun v50 =>
      es_lt (es_F S48 4 v50) fun S51 =>
      if (S51.1 2) ≤ (S51.1 7) then
        f_X8_join_305 N fu x3 x6 x7 t0 (S51.1 7) S51
      else
        f_X8_join_305 N fu x3 x6 x7 t0 (S51.1 2) S51
    else
      es_lt (es_F S 2 x5) fun S69 =>
      some (t0, S69)

noncomputable def f_X8_join_134 (N : Nat → Nat) (fu : Nat) : Nat → Int32 → Int32 → Int32 → Int32 → Int32 → Int32 → es_St → Option (Int32 × es_St)
  | 0, _, _, _, _, _, _, _ => none
  | n + 1, x3, x4, x5, x6, x7, x8, S =>
      if x7 ≤ x8 then
        if (S.1 8) = 0 then
          es_bd (f_X8_joined N fu S x6 x7 x5 ((x4 - 2) * (S.1 1))) fun r30 S31 =>
          f_X8_join_216 N fu x3 x5 x6 x7 r30 S31
        else
          f_X8_join_216 N fu x3 x5 x6 x7 (-2) S
      else
        es_ck (vp_in ((S.1 9) + x8) (N 4)) <|
        es_lt (es_rd S 4 ((S.1 9) + x8)) fun v71 =>
        es_ck (vp_in x8 (N 19)) <|
        es_lt (es_wr S 19 x8 v71) fun S73 =>
        es_ck (vp_in ((S73.1 9) + x8) (N 5)) <|
        es_lt (es_rd S73 5 ((S73.1 9) + x8)) fun v75 =>
        es_ck (vp_in x8 (N 20)) <|
        es_lt (es_wr S73 20 x8 v75) fun S77 =>
        es_lt (x8 + 1) fun y78 =>
        (fun x3 x4 x5 x6 x7 x8 S => f_X8_join_134 N fu n x3 x4 x5 x6 x7 x8 S) x3 x4 x5 x6 x7 y78 S77

noncomputable def f_X8_join_58 (N : Nat → Nat) (fu : Nat) : Nat → Int32 → Int32 → Int32 → Int32 → Int32 → Int32 → es_St → Option (Int32 × es_St)
  | 0, _, _, _, _, _, _, _ => none
  | n + 1, x2, x3, x4, x5, x6, x7, S =>
      if x6 ≤ x7 then
        if (S.1 8) = 0 then
          es_bd (f_X8_sorted N fu S x2 x4 0 0) fun r25 S26 =>
          f_X8_join_134 N fu fu x3 x4 x5 x6 r25 0 S26
        else
          f_X8_join_134 N fu fu x3 x4 x5 x6 0 0 S
      else
        es_ck (vp_in ((S.1 9) + x7) (N 4)) <|
        es_lt (es_rd S 4 ((S.1 9) + x7)) fun v80 =>
        es_ck (vp_in x7 (N 17)) <|
        es_lt (es_wr S 17 x7 v80) fun S82 =>
        es_ck (vp_in ((S82.1 9) + x7) (N 5)) <|
        es_lt (es_rd S82 5 ((S82.1 9) + x7)) fun v84 =>
        es_ck (vp_in x7 (N 18)) <|
        es_lt (es_wr S82 18 x7 v84) fun S86 =>
        es_lt (x7 + 1) fun y87 =>
        (fun x2 x3 x4 x5 x6 x7 S => f_X8_join_58 N fu n x2 x3 x4 x5 x6 x7 S) x2 x3 x4 x5 x6 y87 S86

noncomputable def f_X8_join (N : Nat → Nat) (fu : Nat) (S : es_St) (p1 : Int32) (p2 : Int32) (p3 : Int32) (p4 : Int32) : Option (Int32 × es_St) :=
  es_bd (f_X8_isFile N fu S p1) fun r1 S2 =>
  if r1 = 0 then
    some ((-1), S2)
  else
    es_bd (f_X8_isFile N fu S2 p2) fun r5 S6 =>
    if r5 = 0 then
      some ((-1), S6)
    else
      es_bd (f_X8_isFile N fu S6 p3) fun r9 S10 =>
      if r9 = 0 then
        some ((-1), S10)
      else
        es_bd (f_X8_in N fu S10 p4 3 16) fun r13 S14 =>
        if ¬ r13 = 0 then
          es_bd (f_X8_begins N fu S14) fun r17 S18 =>
          es_bd (f_X8_sorted N fu S18 p1 p4 0 0) fun r20 S21 =>
          f_X8_join_58 N fu fu p2 p3 p4 (S14.1 2) r20 0 S21
        else
          some ((-1), S14)

noncomputable def f_X8_key (N : Nat → Nat) (fu : Nat) (S : es_St) (p1 : Int32) (p2 : Int32) : Option (Int32 × es_St) :=
  es_bd (f_X8_isFile N fu S p1) fun r1 S2 =>
  if r1 = 0 then
    some (0, S2)
  else
    es_ck (vp_in p1 (N 3)) <|
    es_lt (es_rd S2 3 p1) fun v6 =>
    es_bd (f_X8_in N fu S2 p2 0 (v6 - 1)) fun r7 S8 =>
    if r7 = 0 then
      some (0, S8)
    else
      es_ck (vp_in ((8192 * p1) + p2) (N 1)) <|
      es_lt (es_rd S8 1 ((8192 * p1) + p2)) fun v12 =>
      some (v12, S8)

noncomputable def f_X8_run (N : Nat → Nat) (fu : Nat) (S : es_St) (p1 : Int32) : Option (Int32 × es_St) :=
  es_bd (f_X8_in N fu S p1 0 ((S.1 15) - 1)) fun r1 S2 =>
  if r1 = 0 then
    some ((-1), S2)
  else
    es_ck (vp_in p1 (N 13)) <|
    es_lt (es_rd S2 13 p1) fun v6 =>
    some (v6, S2)

noncomputable def f_X8_size (N : Nat → Nat) (fu : Nat) (S : es_St) (p1 : Int32) : Option (Int32 × es_St) :=
  es_bd (f_X8_isFile N fu S p1) fun r1 S2 =>
  if r1 = 0 then
    some ((-1), S2)
  else
    es_ck (vp_in p1 (N 3)) <|
    es_lt (es_rd S2 3 p1) fun v6 =>
    some (v6, S2)

noncomputable def f_X8_sort (N : Nat → Nat) (fu : Nat) (S : es_St) (p1 : Int32) (p2 : Int32) (p3 : Int32) (p4 : Int32) : Option (Int32 × es_St) :=
  es_bd (f_X8_isFile N fu S p1) fun r1 S2 =>
  if r1 = 0 then
    some ((-1), S2)
  else
    es_bd (f_X8_isFile N fu S2 p2) fun r5 S6 =>
    if r5 = 0 then
      some ((-1), S6)
    else
      es_bd (f_X8_in N fu S6 p3 3 16) fun r9 S10 =>
      if r9 = 0 then
        some ((-1), S10)
      else
        es_bd (f_X8_in N fu S10 p4 0 2) fun r13 S14 =>
        if r13 = 0 then
          some ((-1), S14)
        else
          es_bd (f_X8_sorts N fu S14 p1 p2 p3 p4 0) fun r17 S18 =>
          some (r17, S18)

noncomputable def f_X8_tag (N : Nat → Nat) (fu : Nat) (S : es_St) (p1 : Int32) (p2 : Int32) : Option (Int32 × es_St) :=
  es_bd (f_X8_isFile N fu S p1) fun r1 S2 =>
  if r1 = 0 then
    some (0, S2)
  else
    es_ck (vp_in p1 (N 3)) <|
    es_lt (es_rd S2 3 p1) fun v6 =>
    es_bd (f_X8_in N fu S2 p2 0 (v6 - 1)) fun r7 S8 =>
    if r7 = 0 then
      some (0, S8)
    else
      es_ck (vp_in ((8192 * p1) + p2) (N 2)) <|
      es_lt (es_rd S8 2 ((8192 * p1) + p2)) fun v12 =>
      some (v12, S8)

noncomputable def f_X8_told (N : Nat → Nat) (fu : Nat) (S : es_St) (p1 : Int32) : Option (Int32 × es_St) :=
  if p1 = 6 then
    some ((S.1 0) - (S.1 2), S)
  else
  if p1 = 7 then
    some (S.1 0, S)
  else
  if p1 = 8 then
    some (S.1 1, S)
  else
  es_bd (f_X8_in N fu S p1 0 5) fun r4 S5 =>
  if r4 = 0 then
    some ((-1), S5)
  else
    es_ck (vp_in p1 (N 12)) <|
    es_lt (es_rd S5 12 p1) fun v9 =>
    some (v9, S5)

noncomputable def f_X8_within (N : Nat → Nat) (fu : Nat) (S : es_St) (p1 : Int32) (p2 : Int32) (p3 : Int32) : Option (Int32 × es_St) :=
  if p2 ≤ p1 then
    if p1 ≤ p3 then
      some (p1, S)
    else
      some (p3, S)
  else
    some (p2, S)
