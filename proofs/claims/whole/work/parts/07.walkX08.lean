set_option maxHeartbeats 4000000 in
set_option maxRecDepth 100000 in
theorem c_X7_distinct (l : Launch) (D : va_G) (cI cZ : ClassId) (a : Nat → Nat) (N : Nat → Nat) (sz fu : Nat) (S S' : es_St) (p1 : Int32) (p2 : Int32) (p3 : Int32) (r : Int32) (h : f_X7_distinct N fu S p1 p2 p3 = some (r, S')) : Met l yX7_distinct (Cond.code yX7_distinct cX7_distinct 4 (some .int) :: wsL_law) ({ frames := 7, cells := 0, slots := 0, locals := 168 } : Room) (es_Pre [.ref (a 0), .int p1, .int p2, .int p3] D [(cI, .int), (cZ, .boolean)] (es_wX a cI cZ N) a 35 S sz) (es_Qi D (es_wX a cI cZ N) a 35 r S' sz) 0 0 (es_AA a 35 sz) := by
  refine es_intro (Qc := es_Qi D (es_wX a cI cZ N) a 35 r S') (by decide) (es_okX a cI cZ N) (Nat.le_of_ble_eq_true rfl) ?_
  intro p e s m below meth c C hr hlk hP ls hl
  have hx := C.1
  have hb := C.2.1
  have hown := C.2.2.2.1
  have hts := C.2.2.2.2.1
  have hS : va_S (es_AA a 35 s.heap.size) s.heap s.heap [] := va_S.rf
  replace hl : lv_has ls 4 [(0, .ref (a 0)), (1, .int p1), (2, .int p2), (3, .int p3)] := hl
  unfold f_X7_distinct at h
  refine lv_iload_n hx hb dX7_distinct_0 rfl (lv_at hl 1 rfl) ?_
  replace h := es_bd_e h
  obtain ⟨r1, S2, g3, h⟩ := h
  refine es_callSi C (c_X7_isFile l D cI cZ a N _ fu S S2 p1 r1 g3) es_u7_17 es_mX7_isFile ⟨rfl, rfl, by decide, by decide⟩ ⟨Nat.zero_le _, Nat.zero_le _⟩ hP hS rfl hl.1 rfl (Nat.le_of_ble_eq_true rfl) dX7_distinct_1 (fun H locs _ _ hP hS => ?_)
  refine lv_if_eq (tgt := 21) hx hb dX7_distinct_4 (by decide) (fun c4 => ?_) (fun c4 => ?_)
  · replace h := es_if_t c4 h
    refine lv_iconst (v := (-1)) hx hb dX7_distinct_21 (by decide) ?_
    exact es_iret C hr hlk h hP hS dX7_distinct_22
  · replace h := es_if_f c4 h
    refine lv_iload_n hx hb dX7_distinct_7 rfl (lv_at hl 2 rfl) ?_
    replace h := es_bd_e h
    obtain ⟨r5, S6, g7, h⟩ := h
    refine es_callSi C (c_X7_isFile l D cI cZ a N _ fu S2 S6 p2 r5 g7) es_u7_17 es_mX7_isFile ⟨rfl, rfl, by decide, by decide⟩ ⟨Nat.zero_le _, Nat.zero_le _⟩ hP hS rfl hl.1 rfl (Nat.le_of_ble_eq_true rfl) dX7_distinct_8 (fun H locs _ _ hP hS => ?_)
    refine lv_if_eq (tgt := 21) hx hb dX7_distinct_11 (by decide) (fun c8 => ?_) (fun c8 => ?_)
    · replace h := es_if_t c8 h
      refine lv_iconst (v := (-1)) hx hb dX7_distinct_21 (by decide) ?_
      exact es_iret C hr hlk h hP hS dX7_distinct_22
    · replace h := es_if_f c8 h
      refine lv_iload_n hx hb dX7_distinct_14 rfl (lv_at hl 3 rfl) ?_
      replace h := es_bd_e h
      obtain ⟨r9, S10, g11, h⟩ := h
      refine es_callSi C (c_X7_isBudget l D cI cZ a N _ fu S6 S10 p3 r9 g11) es_u10_20 es_mX7_isBudget ⟨rfl, rfl, by decide, by decide⟩ ⟨Nat.zero_le _, Nat.zero_le _⟩ hP hS rfl hl.1 rfl (Nat.le_of_ble_eq_true rfl) dX7_distinct_15 (fun H locs _ _ hP hS => ?_)
      refine lv_if_ne (tgt := 23) hx hb dX7_distinct_18 (by decide) (fun c12 => ?_) (fun c12 => ?_)
      · replace h := es_if_t c12 h
        refine lv_aload_n hx hb dX7_distinct_23 rfl (lv_at hl 0 rfl) ?_
        refine lv_iload_n hx hb dX7_distinct_24 rfl (lv_at hl 3 rfl) ?_
        refine lv_iconst (v := 1) hx hb dX7_distinct_25 (by decide) ?_
        refine lv_iconst (v := 1) hx hb dX7_distinct_26 (by decide) ?_
        replace h := es_bd_e h
        obtain ⟨r13, S14, g15, h⟩ := h
        refine es_callVv C (c_X7_begin l D cI cZ a N _ fu S10 S14 p3 1 1 r13 g15) es_u11_2 es_mX7_begin ⟨rfl, rfl, by decide, by decide⟩ ⟨Nat.zero_le _, Nat.zero_le _⟩ hP hS (es_wX_0 a cI cZ N S10) rfl rfl hl.1 rfl (Nat.le_of_ble_eq_true rfl) dX7_distinct_27 (fun H locs _ _ hP hS => ?_)
        refine lv_aload_n hx hb dX7_distinct_30 rfl (lv_at hl 0 rfl) ?_
        refine lv_iload_n hx hb dX7_distinct_31 rfl (lv_at hl 2 rfl) ?_
        refine lv_aload_n hx hb dX7_distinct_32 rfl (lv_at hl 0 rfl) ?_
        refine es_get C hP (es_wX_0 a cI cZ N S14) rfl inlX7 (j := 2) (by decide) es_u2_18 rfl dX7_distinct_33 ?_
        refine lv_aload_n hx hb dX7_distinct_36 rfl (lv_at hl 0 rfl) ?_
        refine es_get C hP (es_wX_0 a cI cZ N S14) rfl inlX7 (j := 6) (by decide) es_u1_17 rfl dX7_distinct_37 ?_
        refine lv_iload_n hx hb dX7_distinct_40 rfl (lv_at hl 1 rfl) ?_
        replace h := es_ck_e h
        obtain ⟨b16, h⟩ := h
        refine es_ald C hP (es_wX_9 a cI cZ N S14) (t0 := 0) rfl b16 dX7_distinct_41 ?_
        refine lv_topi (fun v17 ev17 => ?_)
        replace h := es_lt_e ev17 h
        refine lv_aload_n hx hb dX7_distinct_42 rfl (lv_at hl 0 rfl) ?_
        refine es_get C hP (es_wX_0 a cI cZ N S14) rfl inlX7 (j := 7) (by decide) es_u1_18 rfl dX7_distinct_43 ?_
        refine lv_iload_n hx hb dX7_distinct_46 rfl (lv_at hl 1 rfl) ?_
        replace h := es_ck_e h
        obtain ⟨b18, h⟩ := h
        refine es_ald C hP (es_wX_10 a cI cZ N S14) (t0 := 0) rfl b18 dX7_distinct_47 ?_
        refine lv_topi (fun v19 ev19 => ?_)
        replace h := es_lt_e ev19 h
        replace h := es_bd_e h
        obtain ⟨r20, S21, g22, h⟩ := h
        refine es_callVi C (c_X5_arrange l D cI cZ a N _ fu S14 S21 v17 v19 r20 g22) es_u12_2 es_mX5_arrange ⟨rfl, rfl, by decide, by decide⟩ ⟨Nat.zero_le _, Nat.zero_le _⟩ hP hS (es_wX_3 a cI cZ N S14) rfl rfl hl.1 rfl (Nat.le_of_ble_eq_true rfl) dX7_distinct_48 (fun H locs _ _ hP hS => ?_)
        replace h := es_bd_e h
        obtain ⟨r23, S24, g25, h⟩ := h
        refine es_callVi C (c_X7_settleSorted l D cI cZ a N _ fu S21 S24 p2 r20 r23 g25) es_u19_17 es_mX7_settleSorted ⟨rfl, rfl, by decide, by decide⟩ ⟨Nat.zero_le _, Nat.zero_le _⟩ hP hS (es_wX_0 a cI cZ N S21) rfl rfl hl.1 rfl (Nat.le_of_ble_eq_true rfl) dX7_distinct_51 (fun H locs _ _ hP hS => ?_)
        exact es_iret C hr hlk h hP hS dX7_distinct_54
      · replace h := es_if_f (fun q => q c12) h
        refine lv_iconst (v := (-1)) hx hb dX7_distinct_21 (by decide) ?_
        exact es_iret C hr hlk h hP hS dX7_distinct_22

set_option maxHeartbeats 4000000 in
set_option maxRecDepth 100000 in
theorem c_X7_drop (l : Launch) (D : va_G) (cI cZ : ClassId) (a : Nat → Nat) (N : Nat → Nat) (sz fu : Nat) (S S' : es_St) (p1 : Int32) (r : Int32) (h : f_X7_drop N fu S p1 = some (r, S')) : Met l yX7_drop (Cond.code yX7_drop cX7_drop 2 (some .int) :: wsL_law) ({ frames := 3, cells := 0, slots := 0, locals := 65 } : Room) (es_Pre [.ref (a 0), .int p1] D [(cI, .int), (cZ, .boolean)] (es_wX a cI cZ N) a 35 S sz) (es_Qi D (es_wX a cI cZ N) a 35 r S' sz) 0 0 (es_AA a 35 sz) := by
  refine es_intro (Qc := es_Qi D (es_wX a cI cZ N) a 35 r S') (by decide) (es_okX a cI cZ N) (Nat.le_of_ble_eq_true rfl) ?_
  intro p e s m below meth c C hr hlk hP ls hl
  have hx := C.1
  have hb := C.2.1
  have hown := C.2.2.2.1
  have hts := C.2.2.2.2.1
  have hS : va_S (es_AA a 35 s.heap.size) s.heap s.heap [] := va_S.rf
  replace hl : lv_has ls 2 [(0, .ref (a 0)), (1, .int p1)] := hl
  unfold f_X7_drop at h
  refine lv_iload_n hx hb dX7_drop_0 rfl (lv_at hl 1 rfl) ?_
  replace h := es_bd_e h
  obtain ⟨r1, S2, g3, h⟩ := h
  refine es_callSi C (c_X7_isFile l D cI cZ a N _ fu S S2 p1 r1 g3) es_u7_17 es_mX7_isFile ⟨rfl, rfl, by decide, by decide⟩ ⟨Nat.zero_le _, Nat.zero_le _⟩ hP hS rfl hl.1 rfl (Nat.le_of_ble_eq_true rfl) dX7_drop_1 (fun H locs _ _ hP hS => ?_)
  refine lv_if_ne (tgt := 9) hx hb dX7_drop_4 (by decide) (fun c4 => ?_) (fun c4 => ?_)
  · replace h := es_if_t c4 h
    refine lv_aload_n hx hb dX7_drop_9 rfl (lv_at hl 0 rfl) ?_
    refine es_get C hP (es_wX_0 a cI cZ N S2) rfl inlX7 (j := 6) (by decide) es_u1_17 rfl dX7_drop_10 ?_
    refine lv_iload_n hx hb dX7_drop_13 rfl (lv_at hl 1 rfl) ?_
    refine lv_iconst (v := (-1)) hx hb dX7_drop_14 (by decide) ?_
    replace h := es_ck_e h
    obtain ⟨b5, h⟩ := h
    refine es_ast C hP hS (es_wX_9 a cI cZ N S2) (es_rX_9 a cI cZ N S2) (t0 := 0) rfl b5 dX7_drop_15 (fun S6 eS6 H locs hP hS => ?_)
    replace h := es_lt_e eS6 h
    refine lv_aload_n hx hb dX7_drop_16 rfl (lv_at hl 0 rfl) ?_
    refine es_get C hP (es_wX_0 a cI cZ N S6) rfl inlX7 (j := 7) (by decide) es_u1_18 rfl dX7_drop_17 ?_
    refine lv_iload_n hx hb dX7_drop_20 rfl (lv_at hl 1 rfl) ?_
    refine lv_iconst (v := 0) hx hb dX7_drop_21 (by decide) ?_
    replace h := es_ck_e h
    obtain ⟨b7, h⟩ := h
    refine es_ast C hP hS (es_wX_10 a cI cZ N S6) (es_rX_10 a cI cZ N S6) (t0 := 0) rfl b7 dX7_drop_22 (fun S8 eS8 H locs hP hS => ?_)
    replace h := es_lt_e eS8 h
    refine lv_aload_n hx hb dX7_drop_23 rfl (lv_at hl 0 rfl) ?_
    refine es_get C hP (es_wX_0 a cI cZ N S8) rfl inlX7 (j := 0) (by decide) es_u2_10 rfl dX7_drop_24 ?_
    refine lv_iload_n hx hb dX7_drop_27 rfl (lv_at hl 1 rfl) ?_
    replace h := es_bd_e h
    obtain ⟨r9, S10, g11, h⟩ := h
    refine es_callVi C (c_X0_releaseAll l D cI cZ a N _ fu S8 S10 p1 r9 g11) es_u10_0 es_mX0_releaseAll ⟨rfl, rfl, by decide, by decide⟩ ⟨Nat.zero_le _, Nat.zero_le _⟩ hP hS (es_wX_1 a cI cZ N S8) rfl rfl hl.1 rfl (Nat.le_of_ble_eq_true rfl) dX7_drop_28 (fun H locs _ _ hP hS => ?_)
    exact es_iret C hr hlk h hP hS dX7_drop_31
  · replace h := es_if_f (fun q => q c4) h
    refine lv_iconst (v := (-1)) hx hb dX7_drop_7 (by decide) ?_
    exact es_iret C hr hlk h hP hS dX7_drop_8

set_option maxHeartbeats 4000000 in
set_option maxRecDepth 100000 in
theorem c_X7_hasRecord (l : Launch) (D : va_G) (cI cZ : ClassId) (a : Nat → Nat) (N : Nat → Nat) (sz fu : Nat) (S S' : es_St) (p1 : Int32) (p2 : Int32) (r : Int32) (h : f_X7_hasRecord N fu S p1 p2 = some (r, S')) : Met l yX7_hasRecord (Cond.code yX7_hasRecord cX7_hasRecord 3 (some .boolean) :: wsL_law) ({ frames := 1, cells := 0, slots := 0, locals := 20 } : Room) (es_Pre [.ref (a 0), .int p1, .int p2] D [(cI, .int), (cZ, .boolean)] (es_wX a cI cZ N) a 35 S sz) (es_Qi D (es_wX a cI cZ N) a 35 r S' sz) 0 0 (es_AA a 35 sz) := by
  refine es_intro (Qc := es_Qi D (es_wX a cI cZ N) a 35 r S') (by decide) (es_okX a cI cZ N) (Nat.le_of_ble_eq_true rfl) ?_
  intro p e s m below meth c C hr hlk hP ls hl
  have hx := C.1
  have hb := C.2.1
  have hown := C.2.2.2.1
  have hts := C.2.2.2.2.1
  have hS : va_S (es_AA a 35 s.heap.size) s.heap s.heap [] := va_S.rf
  replace hl : lv_has ls 3 [(0, .ref (a 0)), (1, .int p1), (2, .int p2)] := hl
  unfold f_X7_hasRecord at h
  refine lv_iload_n hx hb dX7_hasRecord_0 rfl (lv_at hl 1 rfl) ?_
  replace h := es_bd_e h
  obtain ⟨r1, S2, g3, h⟩ := h
  refine es_callSi C (c_X7_isFile l D cI cZ a N _ fu S S2 p1 r1 g3) es_u7_17 es_mX7_isFile ⟨rfl, rfl, by decide, by decide⟩ ⟨Nat.zero_le _, Nat.zero_le _⟩ hP hS rfl hl.1 rfl (Nat.le_of_ble_eq_true rfl) dX7_hasRecord_1 (fun H locs _ _ hP hS => ?_)
  refine lv_if_eq (tgt := 25) hx hb dX7_hasRecord_4 (by decide) (fun c4 => ?_) (fun c4 => ?_)
  · replace h := es_if_t c4 h
    refine lv_iconst (v := 0) hx hb dX7_hasRecord_25 (by decide) ?_
    exact es_zret C hr hlk ⟨rfl, rfl⟩ h hP hS dX7_hasRecord_26
  · replace h := es_if_f c4 h
    refine lv_iload_n hx hb dX7_hasRecord_7 rfl (lv_at hl 2 rfl) ?_
    refine lv_if_lt (tgt := 25) hx hb dX7_hasRecord_8 (by decide) (fun c5 => ?_) (fun c5 => ?_)
    · replace h := es_if_t c5 h
      refine lv_iconst (v := 0) hx hb dX7_hasRecord_25 (by decide) ?_
      exact es_zret C hr hlk ⟨rfl, rfl⟩ h hP hS dX7_hasRecord_26
    · replace h := es_if_f c5 h
      refine lv_iload_n hx hb dX7_hasRecord_11 rfl (lv_at hl 2 rfl) ?_
      refine lv_aload_n hx hb dX7_hasRecord_12 rfl (lv_at hl 0 rfl) ?_
      refine es_get C hP (es_wX_0 a cI cZ N S2) rfl inlX7 (j := 7) (by decide) es_u1_18 rfl dX7_hasRecord_13 ?_
      refine lv_iload_n hx hb dX7_hasRecord_16 rfl (lv_at hl 1 rfl) ?_
      replace h := es_ck_e h
      obtain ⟨b6, h⟩ := h
      refine es_ald C hP (es_wX_10 a cI cZ N S2) (t0 := 0) rfl b6 dX7_hasRecord_17 ?_
      refine lv_topi (fun v7 ev7 => ?_)
      replace h := es_lt_e ev7 h
      refine lv_icmp_ge (tgt := 25) hx hb dX7_hasRecord_18 (by decide) (fun c8 => ?_) (fun c8 => ?_)
      · replace h := es_if_t c8 h
        refine lv_iconst (v := 0) hx hb dX7_hasRecord_25 (by decide) ?_
        exact es_zret C hr hlk ⟨rfl, rfl⟩ h hP hS dX7_hasRecord_26
      · replace h := es_if_f c8 h
        refine lv_iconst (v := 1) hx hb dX7_hasRecord_21 (by decide) ?_
        refine lv_goto (tgt := 26) hx hb dX7_hasRecord_22 (by decide) ?_
        exact es_zret C hr hlk ⟨rfl, rfl⟩ h hP hS dX7_hasRecord_26

set_option maxHeartbeats 4000000 in
set_option maxRecDepth 100000 in
theorem c_X7_isMode (l : Launch) (D : va_G) (cI cZ : ClassId) (a : Nat → Nat) (N : Nat → Nat) (sz fu : Nat) (S S' : es_St) (p1 : Int32) (r : Int32) (h : f_X7_isMode N fu S p1 = some (r, S')) : Met l yX7_isMode (Cond.code yX7_isMode cX7_isMode 1 (some .boolean) :: wsL_law) ({ frames := 0, cells := 0, slots := 0, locals := 0 } : Room) (es_Pre [.int p1] D [(cI, .int), (cZ, .boolean)] (es_wX a cI cZ N) a 35 S sz) (es_Qi D (es_wX a cI cZ N) a 35 r S' sz) 0 0 (es_AA a 35 sz) := by
  refine es_intro (Qc := es_Qi D (es_wX a cI cZ N) a 35 r S') (by decide) (es_okX a cI cZ N) (Nat.le_of_ble_eq_true rfl) ?_
  intro p e s m below meth c C hr hlk hP ls hl
  have hx := C.1
  have hb := C.2.1
  have hown := C.2.2.2.1
  have hts := C.2.2.2.2.1
  have hS : va_S (es_AA a 35 s.heap.size) s.heap s.heap [] := va_S.rf
  replace hl : lv_has ls 1 [(0, .int p1)] := hl
  unfold f_X7_isMode at h
  refine lv_iload_n hx hb dX7_isMode_0 rfl (lv_at hl 0 rfl) ?_
  refine lv_if_lt (tgt := 13) hx hb dX7_isMode_1 (by decide) (fun c1 => ?_) (fun c1 => ?_)
  · replace h := es_if_t c1 h
    refine lv_iconst (v := 0) hx hb dX7_isMode_13 (by decide) ?_
    exact es_zret C hr hlk ⟨rfl, rfl⟩ h hP hS dX7_isMode_14
  · replace h := es_if_f c1 h
    refine lv_iload_n hx hb dX7_isMode_4 rfl (lv_at hl 0 rfl) ?_
    refine lv_iconst (v := 2) hx hb dX7_isMode_5 (by decide) ?_
    refine lv_icmp_gt (tgt := 13) hx hb dX7_isMode_6 (by decide) (fun c2 => ?_) (fun c2 => ?_)
    · replace h := es_if_t c2 h
      refine lv_iconst (v := 0) hx hb dX7_isMode_13 (by decide) ?_
      exact es_zret C hr hlk ⟨rfl, rfl⟩ h hP hS dX7_isMode_14
    · replace h := es_if_f c2 h
      refine lv_iconst (v := 1) hx hb dX7_isMode_9 (by decide) ?_
      refine lv_goto (tgt := 14) hx hb dX7_isMode_10 (by decide) ?_
      exact es_zret C hr hlk ⟨rfl, rfl⟩ h hP hS dX7_isMode_14

set_option maxHeartbeats 4000000 in
set_option maxRecDepth 100000 in
theorem c_X7_join (l : Launch) (D : va_G) (cI cZ : ClassId) (a : Nat → Nat) (N : Nat → Nat) (sz fu : Nat) (S S' : es_St) (p1 : Int32) (p2 : Int32) (p3 : Int32) (p4 : Int32) (r : Int32) (h : f_X7_join N fu S p1 p2 p3 p4 = some (r, S')) : Met l yX7_join (Cond.code yX7_join cX7_join 7 (some .int) :: wsL_law) ({ frames := 7, cells := 0, slots := 0, locals := 168 } : Room) (es_Pre [.ref (a 0), .int p1, .int p2, .int p3, .int p4] D [(cI, .int), (cZ, .boolean)] (es_wX a cI cZ N) a 35 S sz) (es_Qi D (es_wX a cI cZ N) a 35 r S' sz) 0 0 (es_AA a 35 sz) := by
  refine es_intro (Qc := es_Qi D (es_wX a cI cZ N) a 35 r S') (by decide) (es_okX a cI cZ N) (Nat.le_of_ble_eq_true rfl) ?_
  intro p e s m below meth c C hr hlk hP ls hl
  have hx := C.1
  have hb := C.2.1
  have hown := C.2.2.2.1
  have hts := C.2.2.2.2.1
  have hS : va_S (es_AA a 35 s.heap.size) s.heap s.heap [] := va_S.rf
  replace hl : lv_has ls 7 [(0, .ref (a 0)), (1, .int p1), (2, .int p2), (3, .int p3), (4, .int p4)] := hl
  unfold f_X7_join at h
  refine lv_iload_n hx hb dX7_join_0 rfl (lv_at hl 1 rfl) ?_
  replace h := es_bd_e h
  obtain ⟨r1, S2, g3, h⟩ := h
  refine es_callSi C (c_X7_isFile l D cI cZ a N _ fu S S2 p1 r1 g3) es_u7_17 es_mX7_isFile ⟨rfl, rfl, by decide, by decide⟩ ⟨Nat.zero_le _, Nat.zero_le _⟩ hP hS rfl hl.1 rfl (Nat.le_of_ble_eq_true rfl) dX7_join_1 (fun H locs _ _ hP hS => ?_)
  refine lv_if_eq (tgt := 29) hx hb dX7_join_4 (by decide) (fun c4 => ?_) (fun c4 => ?_)
  · replace h := es_if_t c4 h
    refine lv_iconst (v := (-1)) hx hb dX7_join_29 (by decide) ?_
    exact es_iret C hr hlk h hP hS dX7_join_30
  · replace h := es_if_f c4 h
    refine lv_iload_n hx hb dX7_join_7 rfl (lv_at hl 2 rfl) ?_
    replace h := es_bd_e h
    obtain ⟨r5, S6, g7, h⟩ := h
    refine es_callSi C (c_X7_isFile l D cI cZ a N _ fu S2 S6 p2 r5 g7) es_u7_17 es_mX7_isFile ⟨rfl, rfl, by decide, by decide⟩ ⟨Nat.zero_le _, Nat.zero_le _⟩ hP hS rfl hl.1 rfl (Nat.le_of_ble_eq_true rfl) dX7_join_8 (fun H locs _ _ hP hS => ?_)
    refine lv_if_eq (tgt := 29) hx hb dX7_join_11 (by decide) (fun c8 => ?_) (fun c8 => ?_)
    · replace h := es_if_t c8 h
      refine lv_iconst (v := (-1)) hx hb dX7_join_29 (by decide) ?_
      exact es_iret C hr hlk h hP hS dX7_join_30
    · replace h := es_if_f c8 h
      refine lv_iload_n hx hb dX7_join_14 rfl (lv_at hl 3 rfl) ?_
      replace h := es_bd_e h
      obtain ⟨r9, S10, g11, h⟩ := h
      refine es_callSi C (c_X7_isFile l D cI cZ a N _ fu S6 S10 p3 r9 g11) es_u7_17 es_mX7_isFile ⟨rfl, rfl, by decide, by decide⟩ ⟨Nat.zero_le _, Nat.zero_le _⟩ hP hS rfl hl.1 rfl (Nat.le_of_ble_eq_true rfl) dX7_join_15 (fun H locs _ _ hP hS => ?_)
      refine lv_if_eq (tgt := 29) hx hb dX7_join_18 (by decide) (fun c12 => ?_) (fun c12 => ?_)
      · replace h := es_if_t c12 h
        refine lv_iconst (v := (-1)) hx hb dX7_join_29 (by decide) ?_
        exact es_iret C hr hlk h hP hS dX7_join_30
      · replace h := es_if_f c12 h
        refine lv_iload hx hb dX7_join_21 (lv_at hl 4 rfl) ?_
        replace h := es_bd_e h
        obtain ⟨r13, S14, g15, h⟩ := h
        refine es_callSi C (c_X7_isBudget l D cI cZ a N _ fu S10 S14 p4 r13 g15) es_u10_20 es_mX7_isBudget ⟨rfl, rfl, by decide, by decide⟩ ⟨Nat.zero_le _, Nat.zero_le _⟩ hP hS rfl hl.1 rfl (Nat.le_of_ble_eq_true rfl) dX7_join_23 (fun H locs _ _ hP hS => ?_)
        refine lv_if_ne (tgt := 31) hx hb dX7_join_26 (by decide) (fun c16 => ?_) (fun c16 => ?_)
        · replace h := es_if_t c16 h
          refine lv_aload_n hx hb dX7_join_31 rfl (lv_at hl 0 rfl) ?_
          refine lv_iload hx hb dX7_join_32 (lv_at hl 4 rfl) ?_
          refine lv_iconst (v := 0) hx hb dX7_join_34 (by decide) ?_
          refine lv_iconst (v := 0) hx hb dX7_join_35 (by decide) ?_
          replace h := es_bd_e h
          obtain ⟨r17, S18, g19, h⟩ := h
          refine es_callVv C (c_X7_begin l D cI cZ a N _ fu S14 S18 p4 0 0 r17 g19) es_u11_2 es_mX7_begin ⟨rfl, rfl, by decide, by decide⟩ ⟨Nat.zero_le _, Nat.zero_le _⟩ hP hS (es_wX_0 a cI cZ N S14) rfl rfl hl.1 rfl (Nat.le_of_ble_eq_true rfl) dX7_join_36 (fun H locs _ _ hP hS => ?_)
          refine lv_aload_n hx hb dX7_join_39 rfl (lv_at hl 0 rfl) ?_
          refine es_get C hP (es_wX_0 a cI cZ N S18) rfl inlX7 (j := 2) (by decide) es_u2_18 rfl dX7_join_40 ?_
          refine lv_aload_n hx hb dX7_join_43 rfl (lv_at hl 0 rfl) ?_
          refine es_get C hP (es_wX_0 a cI cZ N S18) rfl inlX7 (j := 6) (by decide) es_u1_17 rfl dX7_join_44 ?_
          refine lv_iload_n hx hb dX7_join_47 rfl (lv_at hl 1 rfl) ?_
          replace h := es_ck_e h
          obtain ⟨b20, h⟩ := h
          refine es_ald C hP (es_wX_9 a cI cZ N S18) (t0 := 0) rfl b20 dX7_join_48 ?_
          refine lv_topi (fun v21 ev21 => ?_)
          replace h := es_lt_e ev21 h
          refine lv_aload_n hx hb dX7_join_49 rfl (lv_at hl 0 rfl) ?_
          refine es_get C hP (es_wX_0 a cI cZ N S18) rfl inlX7 (j := 7) (by decide) es_u1_18 rfl dX7_join_50 ?_
          refine lv_iload_n hx hb dX7_join_53 rfl (lv_at hl 1 rfl) ?_
          replace h := es_ck_e h
          obtain ⟨b22, h⟩ := h
          refine es_ald C hP (es_wX_10 a cI cZ N S18) (t0 := 0) rfl b22 dX7_join_54 ?_
          refine lv_topi (fun v23 ev23 => ?_)
          replace h := es_lt_e ev23 h
          replace h := es_bd_e h
          obtain ⟨r24, S25, g26, h⟩ := h
          refine es_callVi C (c_X5_arrange l D cI cZ a N _ fu S18 S25 v21 v23 r24 g26) es_u12_2 es_mX5_arrange ⟨rfl, rfl, by decide, by decide⟩ ⟨Nat.zero_le _, Nat.zero_le _⟩ hP hS (es_wX_3 a cI cZ N S18) rfl rfl hl.1 rfl (Nat.le_of_ble_eq_true rfl) dX7_join_55 (fun H locs _ _ hP hS => ?_)
          refine lv_if_ne (tgt := 68) hx hb dX7_join_58 (by decide) (fun c27 => ?_) (fun c27 => ?_)
          · replace h := es_if_t c27 h
            refine lv_aload_n hx hb dX7_join_68 rfl (lv_at hl 0 rfl) ?_
            refine es_get C hP (es_wX_0 a cI cZ N S25) rfl inlX7 (j := 2) (by decide) es_u2_18 rfl dX7_join_69 ?_
            refine es_get C hP (es_wX_3 a cI cZ N S25) rfl inlX5 (j := 0) (by decide) es_u19_21 rfl dX7_join_72 ?_
            refine lv_istore (lv' := [(5, .int (S25.1 10)), (0, .ref (a 0)), (1, .int p1), (2, .int p2), (3, .int p3), (4, .int p4)]) hx hb dX7_join_75 hl (by decide) rfl (fun ls hl => ?_)
            refine lv_aload_n hx hb dX7_join_77 rfl (lv_at hl 1 rfl) ?_
            refine es_get C hP (es_wX_0 a cI cZ N S25) rfl inlX7 (j := 2) (by decide) es_u2_18 rfl dX7_join_78 ?_
            refine es_get C hP (es_wX_3 a cI cZ N S25) rfl inlX5 (j := 1) (by decide) es_u19_22 rfl dX7_join_81 ?_
            refine lv_istore (lv' := [(6, .int (S25.1 11)), (5, .int (S25.1 10)), (0, .ref (a 0)), (1, .int p1), (2, .int p2), (3, .int p3), (4, .int p4)]) hx hb dX7_join_84 hl (by decide) rfl (fun ls hl => ?_)
            refine lv_aload_n hx hb dX7_join_86 rfl (lv_at hl 2 rfl) ?_
            refine es_get C hP (es_wX_0 a cI cZ N S25) rfl inlX7 (j := 2) (by decide) es_u2_18 rfl dX7_join_87 ?_
            refine lv_aload_n hx hb dX7_join_90 rfl (lv_at hl 2 rfl) ?_
            refine es_get C hP (es_wX_0 a cI cZ N S25) rfl inlX7 (j := 6) (by decide) es_u1_17 rfl dX7_join_91 ?_
            refine lv_iload_n hx hb dX7_join_94 rfl (lv_at hl 4 rfl) ?_
            replace h := es_ck_e h
            obtain ⟨b28, h⟩ := h
            refine es_ald C hP (es_wX_9 a cI cZ N S25) (t0 := 0) rfl b28 dX7_join_95 ?_
            refine lv_topi (fun v29 ev29 => ?_)
            replace h := es_lt_e ev29 h
            refine lv_aload_n hx hb dX7_join_96 rfl (lv_at hl 2 rfl) ?_
            refine es_get C hP (es_wX_0 a cI cZ N S25) rfl inlX7 (j := 7) (by decide) es_u1_18 rfl dX7_join_97 ?_
            refine lv_iload_n hx hb dX7_join_100 rfl (lv_at hl 4 rfl) ?_
            replace h := es_ck_e h
            obtain ⟨b30, h⟩ := h
            refine es_ald C hP (es_wX_10 a cI cZ N S25) (t0 := 0) rfl b30 dX7_join_101 ?_
            refine lv_topi (fun v31 ev31 => ?_)
            replace h := es_lt_e ev31 h
            replace h := es_bd_e h
            obtain ⟨r32, S33, g34, h⟩ := h
            refine es_callVi C (c_X5_arrange l D cI cZ a N _ fu S25 S33 v29 v31 r32 g34) es_u12_2 es_mX5_arrange ⟨rfl, rfl, by decide, by decide⟩ ⟨Nat.zero_le _, Nat.zero_le _⟩ hP hS (es_wX_3 a cI cZ N S25) rfl rfl hl.1 rfl (Nat.le_of_ble_eq_true rfl) dX7_join_102 (fun H locs _ _ hP hS => ?_)
            refine lv_if_ne (tgt := 115) hx hb dX7_join_105 (by decide) (fun c35 => ?_) (fun c35 => ?_)
            · replace h := es_if_t c35 h
              refine lv_aload_n hx hb dX7_join_115 rfl (lv_at hl 2 rfl) ?_
              refine es_get C hP (es_wX_0 a cI cZ N S33) rfl inlX7 (j := 3) (by decide) es_u2_22 rfl dX7_join_116 ?_
              refine lv_iload hx hb dX7_join_119 (lv_at hl 1 rfl) ?_
              refine lv_iload hx hb dX7_join_121 (lv_at hl 0 rfl) ?_
              refine lv_aload_n hx hb dX7_join_123 rfl (lv_at hl 2 rfl) ?_
              refine es_get C hP (es_wX_0 a cI cZ N S33) rfl inlX7 (j := 2) (by decide) es_u2_18 rfl dX7_join_124 ?_
              refine es_get C hP (es_wX_3 a cI cZ N S33) rfl inlX5 (j := 0) (by decide) es_u19_21 rfl dX7_join_127 ?_
              refine lv_aload_n hx hb dX7_join_130 rfl (lv_at hl 2 rfl) ?_
              refine es_get C hP (es_wX_0 a cI cZ N S33) rfl inlX7 (j := 2) (by decide) es_u2_18 rfl dX7_join_131 ?_
              refine es_get C hP (es_wX_3 a cI cZ N S33) rfl inlX5 (j := 1) (by decide) es_u19_22 rfl dX7_join_134 ?_
              replace h := es_bd_e h
              obtain ⟨r36, S37, g38, h⟩ := h
              refine es_callVv C (c_X2_look l D cI cZ a N _ fu S33 S37 (S25.1 10) (S25.1 11) (S33.1 10) (S33.1 11) r36 g38) es_u24_15 es_mX2_look ⟨rfl, rfl, by decide, by decide⟩ ⟨Nat.zero_le _, Nat.zero_le _⟩ hP hS (es_wX_4 a cI cZ N S33) rfl rfl hl.1 rfl (Nat.le_of_ble_eq_true rfl) dX7_join_137 (fun H locs _ _ hP hS => ?_)
              refine lv_aload_n hx hb dX7_join_140 rfl (lv_at hl 2 rfl) ?_
              refine es_get C hP (es_wX_0 a cI cZ N S37) rfl inlX7 (j := 3) (by decide) es_u2_22 rfl dX7_join_141 ?_
              replace h := es_bd_e h
              obtain ⟨r39, S40, g41, h⟩ := h
              refine es_callVi C (c_X2_largestGroupOfB l D cI cZ a N _ fu S37 S40 r39 g41) es_u25_5 es_mX2_largestGroupOfB ⟨rfl, rfl, by decide, by decide⟩ ⟨Nat.zero_le _, Nat.zero_le _⟩ hP hS (es_wX_4 a cI cZ N S37) rfl rfl hl.1 rfl (Nat.le_of_ble_eq_true rfl) dX7_join_144 (fun H locs _ _ hP hS => ?_)
              refine lv_aload_n hx hb dX7_join_147 rfl (lv_at hl 2 rfl) ?_
              refine es_get C hP (es_wX_0 a cI cZ N S40) rfl inlX7 (j := 2) (by decide) es_u2_18 rfl dX7_join_148 ?_
              replace h := es_bd_e h
              obtain ⟨r42, S43, g44, h⟩ := h
              refine es_callVi C (c_X5_room l D cI cZ a N _ fu S40 S43 r42 g44) es_u25_10 es_mX5_room ⟨rfl, rfl, by decide, by decide⟩ ⟨Nat.zero_le _, Nat.zero_le _⟩ hP hS (es_wX_3 a cI cZ N S40) rfl rfl hl.1 rfl (Nat.le_of_ble_eq_true rfl) dX7_join_151 (fun H locs _ _ hP hS => ?_)
              refine lv_icmp_le (tgt := 164) hx hb dX7_join_154 (by decide) (fun c45 => ?_) (fun c45 => ?_)
              · replace h := es_if_t c45 h
                refine lv_aload_n hx hb dX7_join_164 rfl (lv_at hl 2 rfl) ?_
                refine es_get C hP (es_wX_0 a cI cZ N S43) rfl inlX7 (j := 3) (by decide) es_u2_22 rfl dX7_join_165 ?_
                replace h := es_bd_e h
                obtain ⟨r46, S47, g48, h⟩ := h
                refine es_callVi C (c_X2_pairsFit l D cI cZ a N _ fu S43 S47 r46 g48) es_u25_11 es_mX2_pairsFit ⟨rfl, rfl, by decide, by decide⟩ ⟨Nat.zero_le _, Nat.zero_le _⟩ hP hS (es_wX_4 a cI cZ N S43) rfl rfl hl.1 rfl (Nat.le_of_ble_eq_true rfl) dX7_join_168 (fun H locs _ _ hP hS => ?_)
                refine lv_if_eq (tgt := 184) hx hb dX7_join_171 (by decide) (fun c49 => ?_) (fun c49 => ?_)
                · replace h := es_if_t c49 h
                  refine lv_aload_n hx hb dX7_join_184 rfl (lv_at hl 2 rfl) ?_
                  refine lv_bipush (v := (-2)) hx hb dX7_join_185 (by decide) ?_
                  replace h := es_bd_e h
                  obtain ⟨r50, S51, g52, h⟩ := h
                  refine es_callVi C (c_X7_giveUp l D cI cZ a N _ fu S47 S51 (-2) r50 g52) es_u20_11 es_mX7_giveUp ⟨rfl, rfl, by decide, by decide⟩ ⟨Nat.zero_le _, Nat.zero_le _⟩ hP hS (es_wX_0 a cI cZ N S47) rfl rfl hl.1 rfl (Nat.le_of_ble_eq_true rfl) dX7_join_187 (fun H locs _ _ hP hS => ?_)
                  exact es_iret C hr hlk h hP hS dX7_join_190
                · replace h := es_if_f c49 h
                  refine lv_aload_n hx hb dX7_join_174 rfl (lv_at hl 2 rfl) ?_
                  refine es_get C hP (es_wX_0 a cI cZ N S47) rfl inlX7 (j := 3) (by decide) es_u2_22 rfl dX7_join_175 ?_
                  replace h := es_bd_e h
                  obtain ⟨r53, S54, g55, h⟩ := h
                  refine es_callVi C (c_X2_writePairs l D cI cZ a N _ fu S47 S54 r53 g55) es_u26_23 es_mX2_writePairs ⟨rfl, rfl, by decide, by decide⟩ ⟨Nat.zero_le _, Nat.zero_le _⟩ hP hS (es_wX_4 a cI cZ N S47) rfl rfl hl.1 rfl (Nat.le_of_ble_eq_true rfl) dX7_join_178 (fun H locs _ _ hP hS => ?_)
                  refine lv_if_ne (tgt := 191) hx hb dX7_join_181 (by decide) (fun c56 => ?_) (fun c56 => ?_)
                  · replace h := es_if_t c56 h
                    refine lv_aload_n hx hb dX7_join_191 rfl (lv_at hl 2 rfl) ?_
                    refine lv_iload_n hx hb dX7_join_192 rfl (lv_at hl 5 rfl) ?_
                    refine lv_aload_n hx hb dX7_join_193 rfl (lv_at hl 2 rfl) ?_
                    refine es_get C hP (es_wX_0 a cI cZ N S54) rfl inlX7 (j := 1) (by decide) es_u2_14 rfl dX7_join_194 ?_
                    refine es_get C hP (es_wX_2 a cI cZ N S54) rfl inlX4 (j := 0) (by decide) es_u24_13 rfl dX7_join_197 ?_
                    refine lv_aload_n hx hb dX7_join_200 rfl (lv_at hl 2 rfl) ?_
                    refine es_get C hP (es_wX_0 a cI cZ N S54) rfl inlX7 (j := 1) (by decide) es_u2_14 rfl dX7_join_201 ?_
                    refine es_get C hP (es_wX_2 a cI cZ N S54) rfl inlX4 (j := 1) (by decide) es_u24_14 rfl dX7_join_204 ?_
                    replace h := es_bd_e h
                    obtain ⟨r57, S58, g59, h⟩ := h
                    refine es_callVi C (c_X7_settle l D cI cZ a N _ fu S54 S58 p3 (S54.1 3) (S54.1 4) r57 g59) es_u19_23 es_mX7_settle ⟨rfl, rfl, by decide, by decide⟩ ⟨Nat.zero_le _, Nat.zero_le _⟩ hP hS (es_wX_0 a cI cZ N S54) rfl rfl hl.1 rfl (Nat.le_of_ble_eq_true rfl) dX7_join_207 (fun H locs _ _ hP hS => ?_)
                    exact es_iret C hr hlk h hP hS dX7_join_210
                  · replace h := es_if_f (fun q => q c56) h
                    refine lv_aload_n hx hb dX7_join_184 rfl (lv_at hl 2 rfl) ?_
                    refine lv_bipush (v := (-2)) hx hb dX7_join_185 (by decide) ?_
                    replace h := es_bd_e h
                    obtain ⟨r60, S61, g62, h⟩ := h
                    refine es_callVi C (c_X7_giveUp l D cI cZ a N _ fu S54 S61 (-2) r60 g62) es_u20_11 es_mX7_giveUp ⟨rfl, rfl, by decide, by decide⟩ ⟨Nat.zero_le _, Nat.zero_le _⟩ hP hS (es_wX_0 a cI cZ N S54) rfl rfl hl.1 rfl (Nat.le_of_ble_eq_true rfl) dX7_join_187 (fun H locs _ _ hP hS => ?_)
                    exact es_iret C hr hlk h hP hS dX7_join_190
              · replace h := es_if_f c45 h
                refine lv_aload_n hx hb dX7_join_157 rfl (lv_at hl 2 rfl) ?_
                refine lv_bipush (v := (-3)) hx hb dX7_join_158 (by decide) ?_
                replace h := es_bd_e h
                obtain ⟨r63, S64, g65, h⟩ := h
                refine es_callVi C (c_X7_giveUp l D cI cZ a N _ fu S43 S64 (-3) r63 g65) es_u20_11 es_mX7_giveUp ⟨rfl, rfl, by decide, by decide⟩ ⟨Nat.zero_le _, Nat.zero_le _⟩ hP hS (es_wX_0 a cI cZ N S43) rfl rfl hl.1 rfl (Nat.le_of_ble_eq_true rfl) dX7_join_160 (fun H locs _ _ hP hS => ?_)
                exact es_iret C hr hlk h hP hS dX7_join_163
            · replace h := es_if_f (fun q => q c35) h
              refine lv_aload_n hx hb dX7_join_108 rfl (lv_at hl 2 rfl) ?_
              refine lv_bipush (v := (-2)) hx hb dX7_join_109 (by decide) ?_
              replace h := es_bd_e h
              obtain ⟨r66, S67, g68, h⟩ := h
              refine es_callVi C (c_X7_giveUp l D cI cZ a N _ fu S33 S67 (-2) r66 g68) es_u20_11 es_mX7_giveUp ⟨rfl, rfl, by decide, by decide⟩ ⟨Nat.zero_le _, Nat.zero_le _⟩ hP hS (es_wX_0 a cI cZ N S33) rfl rfl hl.1 rfl (Nat.le_of_ble_eq_true rfl) dX7_join_111 (fun H locs _ _ hP hS => ?_)
              exact es_iret C hr hlk h hP hS dX7_join_114
          · replace h := es_if_f (fun q => q c27) h
            refine lv_aload_n hx hb dX7_join_61 rfl (lv_at hl 0 rfl) ?_
            refine lv_bipush (v := (-2)) hx hb dX7_join_62 (by decide) ?_
            replace h := es_bd_e h
            obtain ⟨r69, S70, g71, h⟩ := h
            refine es_callVi C (c_X7_giveUp l D cI cZ a N _ fu S25 S70 (-2) r69 g71) es_u20_11 es_mX7_giveUp ⟨rfl, rfl, by decide, by decide⟩ ⟨Nat.zero_le _, Nat.zero_le _⟩ hP hS (es_wX_0 a cI cZ N S25) rfl rfl hl.1 rfl (Nat.le_of_ble_eq_true rfl) dX7_join_64 (fun H locs _ _ hP hS => ?_)
            exact es_iret C hr hlk h hP hS dX7_join_67
        · replace h := es_if_f (fun q => q c16) h
          refine lv_iconst (v := (-1)) hx hb dX7_join_29 (by decide) ?_
          exact es_iret C hr hlk h hP hS dX7_join_30

set_option maxHeartbeats 4000000 in
set_option maxRecDepth 100000 in
theorem c_X7_key (l : Launch) (D : va_G) (cI cZ : ClassId) (a : Nat → Nat) (N : Nat → Nat) (sz fu : Nat) (S S' : es_St) (p1 : Int32) (p2 : Int32) (r : Int32) (h : f_X7_key N fu S p1 p2 = some (r, S')) : Met l yX7_key (Cond.code yX7_key cX7_key 3 (some .int) :: wsL_law) ({ frames := 3, cells := 0, slots := 0, locals := 67 } : Room) (es_Pre [.ref (a 0), .int p1, .int p2] D [(cI, .int), (cZ, .boolean)] (es_wX a cI cZ N) a 35 S sz) (es_Qi D (es_wX a cI cZ N) a 35 r S' sz) 0 0 (es_AA a 35 sz) := by
  refine es_intro (Qc := es_Qi D (es_wX a cI cZ N) a 35 r S') (by decide) (es_okX a cI cZ N) (Nat.le_of_ble_eq_true rfl) ?_
  intro p e s m below meth c C hr hlk hP ls hl
  have hx := C.1
  have hb := C.2.1
  have hown := C.2.2.2.1
  have hts := C.2.2.2.2.1
  have hS : va_S (es_AA a 35 s.heap.size) s.heap s.heap [] := va_S.rf
  replace hl : lv_has ls 3 [(0, .ref (a 0)), (1, .int p1), (2, .int p2)] := hl
  unfold f_X7_key at h
  refine lv_aload_n hx hb dX7_key_0 rfl (lv_at hl 0 rfl) ?_
  refine lv_iload_n hx hb dX7_key_1 rfl (lv_at hl 1 rfl) ?_
  refine lv_iload_n hx hb dX7_key_2 rfl (lv_at hl 2 rfl) ?_
  replace h := es_bd_e h
  obtain ⟨r1, S2, g3, h⟩ := h
  refine es_callVi C (c_X7_hasRecord l D cI cZ a N _ fu S S2 p1 p2 r1 g3) es_u28_13 es_mX7_hasRecord ⟨rfl, rfl, by decide, by decide⟩ ⟨Nat.zero_le _, Nat.zero_le _⟩ hP hS (es_wX_0 a cI cZ N S) rfl rfl hl.1 rfl (Nat.le_of_ble_eq_true rfl) dX7_key_3 (fun H locs _ _ hP hS => ?_)
  refine lv_if_eq (tgt := 41) hx hb dX7_key_6 (by decide) (fun c4 => ?_) (fun c4 => ?_)
  · replace h := es_if_t c4 h
    refine lv_iconst (v := 0) hx hb dX7_key_41 (by decide) ?_
    exact es_iret C hr hlk h hP hS dX7_key_42
  · replace h := es_if_f c4 h
    refine lv_aload_n hx hb dX7_key_9 rfl (lv_at hl 0 rfl) ?_
    refine es_get C hP (es_wX_0 a cI cZ N S2) rfl inlX7 (j := 0) (by decide) es_u2_10 rfl dX7_key_10 ?_
    refine lv_aload_n hx hb dX7_key_13 rfl (lv_at hl 0 rfl) ?_
    refine es_get C hP (es_wX_0 a cI cZ N S2) rfl inlX7 (j := 0) (by decide) es_u2_10 rfl dX7_key_14 ?_
    refine lv_aload_n hx hb dX7_key_17 rfl (lv_at hl 0 rfl) ?_
    refine es_get C hP (es_wX_0 a cI cZ N S2) rfl inlX7 (j := 6) (by decide) es_u1_17 rfl dX7_key_18 ?_
    refine lv_iload_n hx hb dX7_key_21 rfl (lv_at hl 1 rfl) ?_
    replace h := es_ck_e h
    obtain ⟨b5, h⟩ := h
    refine es_ald C hP (es_wX_9 a cI cZ N S2) (t0 := 0) rfl b5 dX7_key_22 ?_
    refine lv_topi (fun v6 ev6 => ?_)
    replace h := es_lt_e ev6 h
    refine lv_iload_n hx hb dX7_key_23 rfl (lv_at hl 2 rfl) ?_
    replace h := es_bd_e h
    obtain ⟨r7, S8, g9, h⟩ := h
    refine es_callVi C (c_X0_pageOf l D cI cZ a N _ fu S2 S8 v6 p2 r7 g9) es_u8_13 es_mX0_pageOf ⟨rfl, rfl, by decide, by decide⟩ ⟨Nat.zero_le _, Nat.zero_le _⟩ hP hS (es_wX_1 a cI cZ N S2) rfl rfl hl.1 rfl (Nat.le_of_ble_eq_true rfl) dX7_key_24 (fun H locs _ _ hP hS => ?_)
    refine lv_aload_n hx hb dX7_key_27 rfl (lv_at hl 0 rfl) ?_
    refine es_get C hP (es_wX_0 a cI cZ N S8) rfl inlX7 (j := 0) (by decide) es_u2_10 rfl dX7_key_28 ?_
    refine lv_iload_n hx hb dX7_key_31 rfl (lv_at hl 2 rfl) ?_
    replace h := es_bd_e h
    obtain ⟨r10, S11, g12, h⟩ := h
    refine es_callVi C (c_X0_slotOf l D cI cZ a N _ fu S8 S11 p2 r10 g12) es_u7_20 es_mX0_slotOf ⟨rfl, rfl, by decide, by decide⟩ ⟨Nat.zero_le _, Nat.zero_le _⟩ hP hS (es_wX_1 a cI cZ N S8) rfl rfl hl.1 rfl (Nat.le_of_ble_eq_true rfl) dX7_key_32 (fun H locs _ _ hP hS => ?_)
    replace h := es_bd_e h
    obtain ⟨r13, S14, g15, h⟩ := h
    refine es_callVi C (c_X0_keyAt l D cI cZ a N _ fu S11 S14 r7 r10 r13 g15) es_u28_17 es_mX0_keyAt ⟨rfl, rfl, by decide, by decide⟩ ⟨Nat.zero_le _, Nat.zero_le _⟩ hP hS (es_wX_1 a cI cZ N S11) rfl rfl hl.1 rfl (Nat.le_of_ble_eq_true rfl) dX7_key_35 (fun H locs _ _ hP hS => ?_)
    refine lv_goto (tgt := 42) hx hb dX7_key_38 (by decide) ?_
    exact es_iret C hr hlk h hP hS dX7_key_42

set_option maxHeartbeats 4000000 in
set_option maxRecDepth 100000 in
theorem c_X7_run (l : Launch) (D : va_G) (cI cZ : ClassId) (a : Nat → Nat) (N : Nat → Nat) (sz fu : Nat) (S S' : es_St) (p1 : Int32) (r : Int32) (h : f_X7_run N fu S p1 = some (r, S')) : Met l yX7_run (Cond.code yX7_run cX7_run 2 (some .int) :: wsL_law) ({ frames := 1, cells := 0, slots := 0, locals := 21 } : Room) (es_Pre [.ref (a 0), .int p1] D [(cI, .int), (cZ, .boolean)] (es_wX a cI cZ N) a 35 S sz) (es_Qi D (es_wX a cI cZ N) a 35 r S' sz) 0 0 (es_AA a 35 sz) := by
  refine es_intro (Qc := es_Qi D (es_wX a cI cZ N) a 35 r S') (by decide) (es_okX a cI cZ N) (Nat.le_of_ble_eq_true rfl) ?_
  intro p e s m below meth c C hr hlk hP ls hl
  have hx := C.1
  have hb := C.2.1
  have hown := C.2.2.2.1
  have hts := C.2.2.2.2.1
  have hS : va_S (es_AA a 35 s.heap.size) s.heap s.heap [] := va_S.rf
  replace hl : lv_has ls 2 [(0, .ref (a 0)), (1, .int p1)] := hl
  unfold f_X7_run at h
  refine lv_aload_n hx hb dX7_run_0 rfl (lv_at hl 0 rfl) ?_
  refine es_get C hP (es_wX_0 a cI cZ N S) rfl inlX7 (j := 5) (by decide) es_u2_6 rfl dX7_run_1 ?_
  refine lv_iload_n hx hb dX7_run_4 rfl (lv_at hl 1 rfl) ?_
  replace h := es_bd_e h
  obtain ⟨r1, S2, g3, h⟩ := h
  refine es_callVi C (c_X6_lengthOf l D cI cZ a N _ fu S S2 p1 r1 g3) es_u30_3 es_mX6_lengthOf ⟨rfl, rfl, by decide, by decide⟩ ⟨Nat.zero_le _, Nat.zero_le _⟩ hP hS (es_wX_6 a cI cZ N S) rfl rfl hl.1 rfl (Nat.le_of_ble_eq_true rfl) dX7_run_5 (fun H locs _ _ hP hS => ?_)
  exact es_iret C hr hlk h hP hS dX7_run_8

set_option maxHeartbeats 4000000 in
set_option maxRecDepth 100000 in
theorem c_X7_size (l : Launch) (D : va_G) (cI cZ : ClassId) (a : Nat → Nat) (N : Nat → Nat) (sz fu : Nat) (S S' : es_St) (p1 : Int32) (r : Int32) (h : f_X7_size N fu S p1 = some (r, S')) : Met l yX7_size (Cond.code yX7_size cX7_size 2 (some .int) :: wsL_law) ({ frames := 1, cells := 0, slots := 0, locals := 20 } : Room) (es_Pre [.ref (a 0), .int p1] D [(cI, .int), (cZ, .boolean)] (es_wX a cI cZ N) a 35 S sz) (es_Qi D (es_wX a cI cZ N) a 35 r S' sz) 0 0 (es_AA a 35 sz) := by
  refine es_intro (Qc := es_Qi D (es_wX a cI cZ N) a 35 r S') (by decide) (es_okX a cI cZ N) (Nat.le_of_ble_eq_true rfl) ?_
  intro p e s m below meth c C hr hlk hP ls hl
  have hx := C.1
  have hb := C.2.1
  have hown := C.2.2.2.1
  have hts := C.2.2.2.2.1
  have hS : va_S (es_AA a 35 s.heap.size) s.heap s.heap [] := va_S.rf
  replace hl : lv_has ls 2 [(0, .ref (a 0)), (1, .int p1)] := hl
  unfold f_X7_size at h
  refine lv_iload_n hx hb dX7_size_0 rfl (lv_at hl 1 rfl) ?_
  replace h := es_bd_e h
  obtain ⟨r1, S2, g3, h⟩ := h
  refine es_callSi C (c_X7_isFile l D cI cZ a N _ fu S S2 p1 r1 g3) es_u7_17 es_mX7_isFile ⟨rfl, rfl, by decide, by decide⟩ ⟨Nat.zero_le _, Nat.zero_le _⟩ hP hS rfl hl.1 rfl (Nat.le_of_ble_eq_true rfl) dX7_size_1 (fun H locs _ _ hP hS => ?_)
  refine lv_if_eq (tgt := 16) hx hb dX7_size_4 (by decide) (fun c4 => ?_) (fun c4 => ?_)
  · replace h := es_if_t c4 h
    refine lv_iconst (v := (-1)) hx hb dX7_size_16 (by decide) ?_
    exact es_iret C hr hlk h hP hS dX7_size_17
  · replace h := es_if_f c4 h
    refine lv_aload_n hx hb dX7_size_7 rfl (lv_at hl 0 rfl) ?_
    refine es_get C hP (es_wX_0 a cI cZ N S2) rfl inlX7 (j := 7) (by decide) es_u1_18 rfl dX7_size_8 ?_
    refine lv_iload_n hx hb dX7_size_11 rfl (lv_at hl 1 rfl) ?_
    replace h := es_ck_e h
    obtain ⟨b5, h⟩ := h
    refine es_ald C hP (es_wX_10 a cI cZ N S2) (t0 := 0) rfl b5 dX7_size_12 ?_
    refine lv_topi (fun v6 ev6 => ?_)
    replace h := es_lt_e ev6 h
    refine lv_goto (tgt := 17) hx hb dX7_size_13 (by decide) ?_
    exact es_iret C hr hlk h hP hS dX7_size_17

set_option maxHeartbeats 4000000 in
set_option maxRecDepth 100000 in
theorem c_X7_sort (l : Launch) (D : va_G) (cI cZ : ClassId) (a : Nat → Nat) (N : Nat → Nat) (sz fu : Nat) (S S' : es_St) (p1 : Int32) (p2 : Int32) (p3 : Int32) (p4 : Int32) (r : Int32) (h : f_X7_sort N fu S p1 p2 p3 p4 = some (r, S')) : Met l yX7_sort (Cond.code yX7_sort cX7_sort 5 (some .int) :: wsL_law) ({ frames := 7, cells := 0, slots := 0, locals := 168 } : Room) (es_Pre [.ref (a 0), .int p1, .int p2, .int p3, .int p4] D [(cI, .int), (cZ, .boolean)] (es_wX a cI cZ N) a 35 S sz) (es_Qi D (es_wX a cI cZ N) a 35 r S' sz) 0 0 (es_AA a 35 sz) := by
  refine es_intro (Qc := es_Qi D (es_wX a cI cZ N) a 35 r S') (by decide) (es_okX a cI cZ N) (Nat.le_of_ble_eq_true rfl) ?_
  intro p e s m below meth c C hr hlk hP ls hl
  have hx := C.1
  have hb := C.2.1
  have hown := C.2.2.2.1
  have hts := C.2.2.2.2.1
  have hS : va_S (es_AA a 35 s.heap.size) s.heap s.heap [] := va_S.rf
  replace hl : lv_has ls 5 [(0, .ref (a 0)), (1, .int p1), (2, .int p2), (3, .int p3), (4, .int p4)] := hl
  unfold f_X7_sort at h
  refine lv_iload_n hx hb dX7_sort_0 rfl (lv_at hl 1 rfl) ?_
  replace h := es_bd_e h
  obtain ⟨r1, S2, g3, h⟩ := h
  refine es_callSi C (c_X7_isFile l D cI cZ a N _ fu S S2 p1 r1 g3) es_u7_17 es_mX7_isFile ⟨rfl, rfl, by decide, by decide⟩ ⟨Nat.zero_le _, Nat.zero_le _⟩ hP hS rfl hl.1 rfl (Nat.le_of_ble_eq_true rfl) dX7_sort_1 (fun H locs _ _ hP hS => ?_)
  refine lv_if_eq (tgt := 29) hx hb dX7_sort_4 (by decide) (fun c4 => ?_) (fun c4 => ?_)
  · replace h := es_if_t c4 h
    refine lv_iconst (v := (-1)) hx hb dX7_sort_29 (by decide) ?_
    exact es_iret C hr hlk h hP hS dX7_sort_30
  · replace h := es_if_f c4 h
    refine lv_iload_n hx hb dX7_sort_7 rfl (lv_at hl 2 rfl) ?_
    replace h := es_bd_e h
    obtain ⟨r5, S6, g7, h⟩ := h
    refine es_callSi C (c_X7_isFile l D cI cZ a N _ fu S2 S6 p2 r5 g7) es_u7_17 es_mX7_isFile ⟨rfl, rfl, by decide, by decide⟩ ⟨Nat.zero_le _, Nat.zero_le _⟩ hP hS rfl hl.1 rfl (Nat.le_of_ble_eq_true rfl) dX7_sort_8 (fun H locs _ _ hP hS => ?_)
    refine lv_if_eq (tgt := 29) hx hb dX7_sort_11 (by decide) (fun c8 => ?_) (fun c8 => ?_)
    · replace h := es_if_t c8 h
      refine lv_iconst (v := (-1)) hx hb dX7_sort_29 (by decide) ?_
      exact es_iret C hr hlk h hP hS dX7_sort_30
    · replace h := es_if_f c8 h
      refine lv_iload_n hx hb dX7_sort_14 rfl (lv_at hl 3 rfl) ?_
      replace h := es_bd_e h
      obtain ⟨r9, S10, g11, h⟩ := h
      refine es_callSi C (c_X7_isBudget l D cI cZ a N _ fu S6 S10 p3 r9 g11) es_u10_20 es_mX7_isBudget ⟨rfl, rfl, by decide, by decide⟩ ⟨Nat.zero_le _, Nat.zero_le _⟩ hP hS rfl hl.1 rfl (Nat.le_of_ble_eq_true rfl) dX7_sort_15 (fun H locs _ _ hP hS => ?_)
      refine lv_if_eq (tgt := 29) hx hb dX7_sort_18 (by decide) (fun c12 => ?_) (fun c12 => ?_)
      · replace h := es_if_t c12 h
        refine lv_iconst (v := (-1)) hx hb dX7_sort_29 (by decide) ?_
        exact es_iret C hr hlk h hP hS dX7_sort_30
      · replace h := es_if_f c12 h
        refine lv_iload hx hb dX7_sort_21 (lv_at hl 4 rfl) ?_
        replace h := es_bd_e h
        obtain ⟨r13, S14, g15, h⟩ := h
        refine es_callSi C (c_X7_isMode l D cI cZ a N _ fu S10 S14 p4 r13 g15) es_u10_23 es_mX7_isMode ⟨rfl, rfl, by decide, by decide⟩ ⟨Nat.zero_le _, Nat.zero_le _⟩ hP hS rfl hl.1 rfl (Nat.le_of_ble_eq_true rfl) dX7_sort_23 (fun H locs _ _ hP hS => ?_)
        refine lv_if_ne (tgt := 31) hx hb dX7_sort_26 (by decide) (fun c16 => ?_) (fun c16 => ?_)
        · replace h := es_if_t c16 h
          refine lv_aload_n hx hb dX7_sort_31 rfl (lv_at hl 0 rfl) ?_
          refine lv_iload_n hx hb dX7_sort_32 rfl (lv_at hl 3 rfl) ?_
          refine lv_iload hx hb dX7_sort_33 (lv_at hl 4 rfl) ?_
          refine lv_iconst (v := 0) hx hb dX7_sort_35 (by decide) ?_
          replace h := es_bd_e h
          obtain ⟨r17, S18, g19, h⟩ := h
          refine es_callVv C (c_X7_begin l D cI cZ a N _ fu S14 S18 p3 p4 0 r17 g19) es_u11_2 es_mX7_begin ⟨rfl, rfl, by decide, by decide⟩ ⟨Nat.zero_le _, Nat.zero_le _⟩ hP hS (es_wX_0 a cI cZ N S14) rfl rfl hl.1 rfl (Nat.le_of_ble_eq_true rfl) dX7_sort_36 (fun H locs _ _ hP hS => ?_)
          refine lv_aload_n hx hb dX7_sort_39 rfl (lv_at hl 0 rfl) ?_
          refine lv_iload_n hx hb dX7_sort_40 rfl (lv_at hl 2 rfl) ?_
          refine lv_aload_n hx hb dX7_sort_41 rfl (lv_at hl 0 rfl) ?_
          refine es_get C hP (es_wX_0 a cI cZ N S18) rfl inlX7 (j := 2) (by decide) es_u2_18 rfl dX7_sort_42 ?_
          refine lv_aload_n hx hb dX7_sort_45 rfl (lv_at hl 0 rfl) ?_
          refine es_get C hP (es_wX_0 a cI cZ N S18) rfl inlX7 (j := 6) (by decide) es_u1_17 rfl dX7_sort_46 ?_
          refine lv_iload_n hx hb dX7_sort_49 rfl (lv_at hl 1 rfl) ?_
          replace h := es_ck_e h
          obtain ⟨b20, h⟩ := h
          refine es_ald C hP (es_wX_9 a cI cZ N S18) (t0 := 0) rfl b20 dX7_sort_50 ?_
          refine lv_topi (fun v21 ev21 => ?_)
          replace h := es_lt_e ev21 h
          refine lv_aload_n hx hb dX7_sort_51 rfl (lv_at hl 0 rfl) ?_
          refine es_get C hP (es_wX_0 a cI cZ N S18) rfl inlX7 (j := 7) (by decide) es_u1_18 rfl dX7_sort_52 ?_
          refine lv_iload_n hx hb dX7_sort_55 rfl (lv_at hl 1 rfl) ?_
          replace h := es_ck_e h
          obtain ⟨b22, h⟩ := h
          refine es_ald C hP (es_wX_10 a cI cZ N S18) (t0 := 0) rfl b22 dX7_sort_56 ?_
          refine lv_topi (fun v23 ev23 => ?_)
          replace h := es_lt_e ev23 h
          replace h := es_bd_e h
          obtain ⟨r24, S25, g26, h⟩ := h
          refine es_callVi C (c_X5_arrange l D cI cZ a N _ fu S18 S25 v21 v23 r24 g26) es_u12_2 es_mX5_arrange ⟨rfl, rfl, by decide, by decide⟩ ⟨Nat.zero_le _, Nat.zero_le _⟩ hP hS (es_wX_3 a cI cZ N S18) rfl rfl hl.1 rfl (Nat.le_of_ble_eq_true rfl) dX7_sort_57 (fun H locs _ _ hP hS => ?_)
          replace h := es_bd_e h
          obtain ⟨r27, S28, g29, h⟩ := h
          refine es_callVi C (c_X7_settleSorted l D cI cZ a N _ fu S25 S28 p2 r24 r27 g29) es_u19_17 es_mX7_settleSorted ⟨rfl, rfl, by decide, by decide⟩ ⟨Nat.zero_le _, Nat.zero_le _⟩ hP hS (es_wX_0 a cI cZ N S25) rfl rfl hl.1 rfl (Nat.le_of_ble_eq_true rfl) dX7_sort_60 (fun H locs _ _ hP hS => ?_)
          exact es_iret C hr hlk h hP hS dX7_sort_63
        · replace h := es_if_f (fun q => q c16) h
          refine lv_iconst (v := (-1)) hx hb dX7_sort_29 (by decide) ?_
          exact es_iret C hr hlk h hP hS dX7_sort_30

set_option maxHeartbeats 4000000 in
set_option maxRecDepth 100000 in
theorem c_X7_tag (l : Launch) (D : va_G) (cI cZ : ClassId) (a : Nat → Nat) (N : Nat → Nat) (sz fu : Nat) (S S' : es_St) (p1 : Int32) (p2 : Int32) (r : Int32) (h : f_X7_tag N fu S p1 p2 = some (r, S')) : Met l yX7_tag (Cond.code yX7_tag cX7_tag 3 (some .int) :: wsL_law) ({ frames := 3, cells := 0, slots := 0, locals := 67 } : Room) (es_Pre [.ref (a 0), .int p1, .int p2] D [(cI, .int), (cZ, .boolean)] (es_wX a cI cZ N) a 35 S sz) (es_Qi D (es_wX a cI cZ N) a 35 r S' sz) 0 0 (es_AA a 35 sz) := by
  refine es_intro (Qc := es_Qi D (es_wX a cI cZ N) a 35 r S') (by decide) (es_okX a cI cZ N) (Nat.le_of_ble_eq_true rfl) ?_
  intro p e s m below meth c C hr hlk hP ls hl
  have hx := C.1
  have hb := C.2.1
  have hown := C.2.2.2.1
  have hts := C.2.2.2.2.1
  have hS : va_S (es_AA a 35 s.heap.size) s.heap s.heap [] := va_S.rf
  replace hl : lv_has ls 3 [(0, .ref (a 0)), (1, .int p1), (2, .int p2)] := hl
  unfold f_X7_tag at h
  refine lv_aload_n hx hb dX7_tag_0 rfl (lv_at hl 0 rfl) ?_
  refine lv_iload_n hx hb dX7_tag_1 rfl (lv_at hl 1 rfl) ?_
  refine lv_iload_n hx hb dX7_tag_2 rfl (lv_at hl 2 rfl) ?_
  replace h := es_bd_e h
  obtain ⟨r1, S2, g3, h⟩ := h
  refine es_callVi C (c_X7_hasRecord l D cI cZ a N _ fu S S2 p1 p2 r1 g3) es_u28_13 es_mX7_hasRecord ⟨rfl, rfl, by decide, by decide⟩ ⟨Nat.zero_le _, Nat.zero_le _⟩ hP hS (es_wX_0 a cI cZ N S) rfl rfl hl.1 rfl (Nat.le_of_ble_eq_true rfl) dX7_tag_3 (fun H locs _ _ hP hS => ?_)
  refine lv_if_eq (tgt := 41) hx hb dX7_tag_6 (by decide) (fun c4 => ?_) (fun c4 => ?_)
  · replace h := es_if_t c4 h
    refine lv_iconst (v := 0) hx hb dX7_tag_41 (by decide) ?_
    exact es_iret C hr hlk h hP hS dX7_tag_42
  · replace h := es_if_f c4 h
    refine lv_aload_n hx hb dX7_tag_9 rfl (lv_at hl 0 rfl) ?_
    refine es_get C hP (es_wX_0 a cI cZ N S2) rfl inlX7 (j := 0) (by decide) es_u2_10 rfl dX7_tag_10 ?_
    refine lv_aload_n hx hb dX7_tag_13 rfl (lv_at hl 0 rfl) ?_
    refine es_get C hP (es_wX_0 a cI cZ N S2) rfl inlX7 (j := 0) (by decide) es_u2_10 rfl dX7_tag_14 ?_
    refine lv_aload_n hx hb dX7_tag_17 rfl (lv_at hl 0 rfl) ?_
    refine es_get C hP (es_wX_0 a cI cZ N S2) rfl inlX7 (j := 6) (by decide) es_u1_17 rfl dX7_tag_18 ?_
    refine lv_iload_n hx hb dX7_tag_21 rfl (lv_at hl 1 rfl) ?_
    replace h := es_ck_e h
    obtain ⟨b5, h⟩ := h
    refine es_ald C hP (es_wX_9 a cI cZ N S2) (t0 := 0) rfl b5 dX7_tag_22 ?_
    refine lv_topi (fun v6 ev6 => ?_)
    replace h := es_lt_e ev6 h
    refine lv_iload_n hx hb dX7_tag_23 rfl (lv_at hl 2 rfl) ?_
    replace h := es_bd_e h
    obtain ⟨r7, S8, g9, h⟩ := h
    refine es_callVi C (c_X0_pageOf l D cI cZ a N _ fu S2 S8 v6 p2 r7 g9) es_u8_13 es_mX0_pageOf ⟨rfl, rfl, by decide, by decide⟩ ⟨Nat.zero_le _, Nat.zero_le _⟩ hP hS (es_wX_1 a cI cZ N S2) rfl rfl hl.1 rfl (Nat.le_of_ble_eq_true rfl) dX7_tag_24 (fun H locs _ _ hP hS => ?_)
    refine lv_aload_n hx hb dX7_tag_27 rfl (lv_at hl 0 rfl) ?_
    refine es_get C hP (es_wX_0 a cI cZ N S8) rfl inlX7 (j := 0) (by decide) es_u2_10 rfl dX7_tag_28 ?_
    refine lv_iload_n hx hb dX7_tag_31 rfl (lv_at hl 2 rfl) ?_
    replace h := es_bd_e h
    obtain ⟨r10, S11, g12, h⟩ := h
    refine es_callVi C (c_X0_slotOf l D cI cZ a N _ fu S8 S11 p2 r10 g12) es_u7_20 es_mX0_slotOf ⟨rfl, rfl, by decide, by decide⟩ ⟨Nat.zero_le _, Nat.zero_le _⟩ hP hS (es_wX_1 a cI cZ N S8) rfl rfl hl.1 rfl (Nat.le_of_ble_eq_true rfl) dX7_tag_32 (fun H locs _ _ hP hS => ?_)
    replace h := es_bd_e h
    obtain ⟨r13, S14, g15, h⟩ := h
    refine es_callVi C (c_X0_tagAt l D cI cZ a N _ fu S11 S14 r7 r10 r13 g15) es_u29_2 es_mX0_tagAt ⟨rfl, rfl, by decide, by decide⟩ ⟨Nat.zero_le _, Nat.zero_le _⟩ hP hS (es_wX_1 a cI cZ N S11) rfl rfl hl.1 rfl (Nat.le_of_ble_eq_true rfl) dX7_tag_35 (fun H locs _ _ hP hS => ?_)
    refine lv_goto (tgt := 42) hx hb dX7_tag_38 (by decide) ?_
    exact es_iret C hr hlk h hP hS dX7_tag_42

set_option maxHeartbeats 4000000 in
set_option maxRecDepth 100000 in
theorem c_X7_told (l : Launch) (D : va_G) (cI cZ : ClassId) (a : Nat → Nat) (N : Nat → Nat) (sz fu : Nat) (S S' : es_St) (p1 : Int32) (r : Int32) (h : f_X7_told N fu S p1 = some (r, S')) : Met l yX7_told (Cond.code yX7_told cX7_told 2 (some .int) :: wsL_law) ({ frames := 1, cells := 0, slots := 0, locals := 20 } : Room) (es_Pre [.ref (a 0), .int p1] D [(cI, .int), (cZ, .boolean)] (es_wX a cI cZ N) a 35 S sz) (es_Qi D (es_wX a cI cZ N) a 35 r S' sz) 0 0 (es_AA a 35 sz) := by
  refine es_intro (Qc := es_Qi D (es_wX a cI cZ N) a 35 r S') (by decide) (es_okX a cI cZ N) (Nat.le_of_ble_eq_true rfl) ?_
  intro p e s m below meth c C hr hlk hP ls hl
  have hx := C.1
  have hb := C.2.1
  have hown := C.2.2.2.1
  have hts := C.2.2.2.2.1
  have hS : va_S (es_AA a 35 s.heap.size) s.heap s.heap [] := va_S.rf
  replace hl : lv_has ls 2 [(0, .ref (a 0)), (1, .int p1)] := hl
  unfold f_X7_told at h
  refine lv_iload_n hx hb dX7_told_0 rfl (lv_at hl 1 rfl) ?_
  by_cases c1 : p1 = 0
  · replace h := es_if_t c1 h
    refine lv_tableIn (off := 51) (tgt := 52) hx hb dX7_told_1 (by rw [c1]; decide) (by rw [c1]; decide) (by rw [c1]; rfl) (by decide) ?_
    refine lv_aload_n hx hb dX7_told_52 rfl (lv_at hl 0 rfl) ?_
    refine es_get C hP (es_wX_0 a cI cZ N S) rfl inlX7 (j := 5) (by decide) es_u2_6 rfl dX7_told_53 ?_
    refine es_get C hP (es_wX_6 a cI cZ N S) rfl inlX6 (j := 0) (by decide) es_u29_11 rfl dX7_told_56 ?_
    refine lv_aload_n hx hb dX7_told_59 rfl (lv_at hl 0 rfl) ?_
    refine es_get C hP (es_wX_0 a cI cZ N S) rfl inlX7 (j := 5) (by decide) es_u2_6 rfl dX7_told_60 ?_
    refine es_get C hP (es_wX_6 a cI cZ N S) rfl inlX6 (j := 1) (by decide) es_u29_12 rfl dX7_told_63 ?_
    refine lv_iadd hx hb dX7_told_66 ?_
    exact es_iret C hr hlk h hP hS dX7_told_67
  replace h := es_if_f c1 h
  by_cases c2 : p1 = 1
  · replace h := es_if_t c2 h
    refine lv_tableIn (off := 67) (tgt := 68) hx hb dX7_told_1 (by rw [c2]; decide) (by rw [c2]; decide) (by rw [c2]; rfl) (by decide) ?_
    refine lv_aload_n hx hb dX7_told_68 rfl (lv_at hl 0 rfl) ?_
    refine es_get C hP (es_wX_0 a cI cZ N S) rfl inlX7 (j := 5) (by decide) es_u2_6 rfl dX7_told_69 ?_
    refine es_get C hP (es_wX_6 a cI cZ N S) rfl inlX6 (j := 0) (by decide) es_u29_11 rfl dX7_told_72 ?_
    exact es_iret C hr hlk h hP hS dX7_told_75
  replace h := es_if_f c2 h
  by_cases c3 : p1 = 2
  · replace h := es_if_t c3 h
    refine lv_tableIn (off := 75) (tgt := 76) hx hb dX7_told_1 (by rw [c3]; decide) (by rw [c3]; decide) (by rw [c3]; rfl) (by decide) ?_
    refine lv_aload_n hx hb dX7_told_76 rfl (lv_at hl 0 rfl) ?_
    refine es_get C hP (es_wX_0 a cI cZ N S) rfl inlX7 (j := 5) (by decide) es_u2_6 rfl dX7_told_77 ?_
    refine es_get C hP (es_wX_6 a cI cZ N S) rfl inlX6 (j := 1) (by decide) es_u29_12 rfl dX7_told_80 ?_
    exact es_iret C hr hlk h hP hS dX7_told_83
  replace h := es_if_f c3 h
  by_cases c4 : p1 = 3
  · replace h := es_if_t c4 h
    refine lv_tableIn (off := 83) (tgt := 84) hx hb dX7_told_1 (by rw [c4]; decide) (by rw [c4]; decide) (by rw [c4]; rfl) (by decide) ?_
    refine lv_aload_n hx hb dX7_told_84 rfl (lv_at hl 0 rfl) ?_
    refine es_get C hP (es_wX_0 a cI cZ N S) rfl inlX7 (j := 5) (by decide) es_u2_6 rfl dX7_told_85 ?_
    refine es_get C hP (es_wX_6 a cI cZ N S) rfl inlX6 (j := 2) (by decide) es_u29_13 rfl dX7_told_88 ?_
    exact es_iret C hr hlk h hP hS dX7_told_91
  replace h := es_if_f c4 h
  by_cases c5 : p1 = 4
  · replace h := es_if_t c5 h
    refine lv_tableIn (off := 91) (tgt := 92) hx hb dX7_told_1 (by rw [c5]; decide) (by rw [c5]; decide) (by rw [c5]; rfl) (by decide) ?_
    refine lv_aload_n hx hb dX7_told_92 rfl (lv_at hl 0 rfl) ?_
    refine es_get C hP (es_wX_0 a cI cZ N S) rfl inlX7 (j := 5) (by decide) es_u2_6 rfl dX7_told_93 ?_
    refine es_get C hP (es_wX_6 a cI cZ N S) rfl inlX6 (j := 3) (by decide) es_u29_14 rfl dX7_told_96 ?_
    exact es_iret C hr hlk h hP hS dX7_told_99
  replace h := es_if_f c5 h
  by_cases c6 : p1 = 5
  · replace h := es_if_t c6 h
    refine lv_tableIn (off := 99) (tgt := 100) hx hb dX7_told_1 (by rw [c6]; decide) (by rw [c6]; decide) (by rw [c6]; rfl) (by decide) ?_
    refine lv_aload_n hx hb dX7_told_100 rfl (lv_at hl 0 rfl) ?_
    refine es_get C hP (es_wX_0 a cI cZ N S) rfl inlX7 (j := 5) (by decide) es_u2_6 rfl dX7_told_101 ?_
    refine es_get C hP (es_wX_6 a cI cZ N S) rfl inlX6 (j := 4) (by decide) es_u29_15 rfl dX7_told_104 ?_
    exact es_iret C hr hlk h hP hS dX7_told_107
  replace h := es_if_f c6 h
  by_cases c7 : p1 = 6
  · replace h := es_if_t c7 h
    refine lv_tableIn (off := 107) (tgt := 108) hx hb dX7_told_1 (by rw [c7]; decide) (by rw [c7]; decide) (by rw [c7]; rfl) (by decide) ?_
    refine lv_aload_n hx hb dX7_told_108 rfl (lv_at hl 0 rfl) ?_
    refine es_get C hP (es_wX_0 a cI cZ N S) rfl inlX7 (j := 0) (by decide) es_u2_10 rfl dX7_told_109 ?_
    replace h := es_bd_e h
    obtain ⟨r8, S9, g10, h⟩ := h
    refine es_callVi C (c_X0_freePages l D cI cZ a N _ fu S S9 r8 g10) es_u29_18 es_mX0_freePages ⟨rfl, rfl, by decide, by decide⟩ ⟨Nat.zero_le _, Nat.zero_le _⟩ hP hS (es_wX_1 a cI cZ N S) rfl rfl hl.1 rfl (Nat.le_of_ble_eq_true rfl) dX7_told_112 (fun H locs _ _ hP hS => ?_)
    exact es_iret C hr hlk h hP hS dX7_told_115
  replace h := es_if_f c7 h
  by_cases c11 : p1 = 7
  · replace h := es_if_t c11 h
    refine lv_tableIn (off := 115) (tgt := 116) hx hb dX7_told_1 (by rw [c11]; decide) (by rw [c11]; decide) (by rw [c11]; rfl) (by decide) ?_
    refine lv_aload_n hx hb dX7_told_116 rfl (lv_at hl 0 rfl) ?_
    refine es_get C hP (es_wX_0 a cI cZ N S) rfl inlX7 (j := 0) (by decide) es_u2_10 rfl dX7_told_117 ?_
    refine es_get C hP (es_wX_1 a cI cZ N S) rfl inlX0 (j := 0) (by decide) es_u29_16 rfl dX7_told_120 ?_
    exact es_iret C hr hlk h hP hS dX7_told_123
  replace h := es_if_f c11 h
  by_cases c12 : p1 = 8
  · replace h := es_if_t c12 h
    refine lv_tableIn (off := 123) (tgt := 124) hx hb dX7_told_1 (by rw [c12]; decide) (by rw [c12]; decide) (by rw [c12]; rfl) (by decide) ?_
    refine lv_aload_n hx hb dX7_told_124 rfl (lv_at hl 0 rfl) ?_
    refine es_get C hP (es_wX_0 a cI cZ N S) rfl inlX7 (j := 0) (by decide) es_u2_10 rfl dX7_told_125 ?_
    refine es_get C hP (es_wX_1 a cI cZ N S) rfl inlX0 (j := 1) (by decide) es_u29_17 rfl dX7_told_128 ?_
    exact es_iret C hr hlk h hP hS dX7_told_131
  replace h := es_if_f c12 h
  refine lv_tableOut (tgt := 132) hx hb dX7_told_1 (es_tabout0_8 c1 c2 c3 c4 c5 c6 c7 c11 c12) (by decide) ?_
  refine lv_iconst (v := (-1)) hx hb dX7_told_132 (by decide) ?_
  exact es_iret C hr hlk h hP hS dX7_told_133
