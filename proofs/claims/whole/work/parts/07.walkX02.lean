set_option maxHeartbeats 4000000 in
set_option maxRecDepth 100000 in
theorem c_X1_hasMore (l : Launch) (D : va_G) (cI cZ : ClassId) (a : Nat → Nat) (N : Nat → Nat) (sz fu : Nat) (S S' : es_St) (p1 : Int32) (r : Int32) (h : f_X1_hasMore N fu S p1 = some (r, S')) : Met l yX1_hasMore (Cond.code yX1_hasMore cX1_hasMore 2 (some .boolean) :: wsL_law) ({ frames := 0, cells := 0, slots := 0, locals := 0 } : Room) (es_Pre [.ref (a 7), .int p1] D [(cI, .int), (cZ, .boolean)] (es_wX a cI cZ N) a 35 S sz) (es_Qi D (es_wX a cI cZ N) a 35 r S' sz) 0 0 (es_AA a 35 sz) := by
  refine es_intro (Qc := es_Qi D (es_wX a cI cZ N) a 35 r S') (by decide) (es_okX a cI cZ N) (Nat.le_of_ble_eq_true rfl) ?_
  intro p e s m below meth c C hr hlk hP ls hl
  have hx := C.1
  have hb := C.2.1
  have hown := C.2.2.2.1
  have hts := C.2.2.2.2.1
  have hS : va_S (es_AA a 35 s.heap.size) s.heap s.heap [] := va_S.rf
  replace hl : lv_has ls 2 [(0, .ref (a 7)), (1, .int p1)] := hl
  unfold f_X1_hasMore at h
  refine lv_iload_n hx hb dX1_hasMore_0 rfl (lv_at hl 1 rfl) ?_
  refine lv_if_lt (tgt := 38) hx hb dX1_hasMore_1 (by decide) (fun c1 => ?_) (fun c1 => ?_)
  · replace h := es_if_t c1 h
    refine lv_iconst (v := 0) hx hb dX1_hasMore_38 (by decide) ?_
    exact es_zret C hr hlk ⟨rfl, rfl⟩ h hP hS dX1_hasMore_39
  · replace h := es_if_f c1 h
    refine lv_iload_n hx hb dX1_hasMore_4 rfl (lv_at hl 1 rfl) ?_
    refine lv_bipush (v := 15) hx hb dX1_hasMore_5 (by decide) ?_
    refine lv_icmp_ge (tgt := 38) hx hb dX1_hasMore_7 (by decide) (fun c2 => ?_) (fun c2 => ?_)
    · replace h := es_if_t c2 h
      refine lv_iconst (v := 0) hx hb dX1_hasMore_38 (by decide) ?_
      exact es_zret C hr hlk ⟨rfl, rfl⟩ h hP hS dX1_hasMore_39
    · replace h := es_if_f c2 h
      refine lv_aload_n hx hb dX1_hasMore_10 rfl (lv_at hl 0 rfl) ?_
      refine es_get C hP (es_wX_7 a cI cZ N S) rfl inlX1 (j := 5) (by decide) es_u5_4 rfl dX1_hasMore_11 ?_
      refine lv_iload_n hx hb dX1_hasMore_14 rfl (lv_at hl 1 rfl) ?_
      replace h := es_ck_e h
      obtain ⟨b3, h⟩ := h
      refine es_ald C hP (es_wX_28 a cI cZ N S) (t0 := 0) rfl b3 dX1_hasMore_15 ?_
      refine lv_topi (fun v4 ev4 => ?_)
      replace h := es_lt_e ev4 h
      refine lv_aload_n hx hb dX1_hasMore_16 rfl (lv_at hl 0 rfl) ?_
      refine es_get C hP (es_wX_7 a cI cZ N S) rfl inlX1 (j := 6) (by decide) es_u5_5 rfl dX1_hasMore_17 ?_
      refine lv_iload_n hx hb dX1_hasMore_20 rfl (lv_at hl 1 rfl) ?_
      replace h := es_ck_e h
      obtain ⟨b5, h⟩ := h
      refine es_ald C hP (es_wX_29 a cI cZ N S) (t0 := 0) rfl b5 dX1_hasMore_21 ?_
      refine lv_topi (fun v6 ev6 => ?_)
      replace h := es_lt_e ev6 h
      refine lv_icmp_lt (tgt := 34) hx hb dX1_hasMore_22 (by decide) (fun c7 => ?_) (fun c7 => ?_)
      · replace h := es_if_t c7 h
        refine lv_iconst (v := 1) hx hb dX1_hasMore_34 (by decide) ?_
        refine lv_goto (tgt := 39) hx hb dX1_hasMore_35 (by decide) ?_
        exact es_zret C hr hlk ⟨rfl, rfl⟩ h hP hS dX1_hasMore_39
      · replace h := es_if_f c7 h
        refine lv_aload_n hx hb dX1_hasMore_25 rfl (lv_at hl 0 rfl) ?_
        refine es_get C hP (es_wX_7 a cI cZ N S) rfl inlX1 (j := 4) (by decide) es_u5_3 rfl dX1_hasMore_26 ?_
        refine lv_iload_n hx hb dX1_hasMore_29 rfl (lv_at hl 1 rfl) ?_
        replace h := es_ck_e h
        obtain ⟨b8, h⟩ := h
        refine es_ald C hP (es_wX_27 a cI cZ N S) (t0 := 0) rfl b8 dX1_hasMore_30 ?_
        refine lv_topi (fun v9 ev9 => ?_)
        replace h := es_lt_e ev9 h
        refine lv_if_le (tgt := 38) hx hb dX1_hasMore_31 (by decide) (fun c10 => ?_) (fun c10 => ?_)
        · replace h := es_if_t c10 h
          refine lv_iconst (v := 0) hx hb dX1_hasMore_38 (by decide) ?_
          exact es_zret C hr hlk ⟨rfl, rfl⟩ h hP hS dX1_hasMore_39
        · replace h := es_if_f c10 h
          refine lv_iconst (v := 1) hx hb dX1_hasMore_34 (by decide) ?_
          refine lv_goto (tgt := 39) hx hb dX1_hasMore_35 (by decide) ?_
          exact es_zret C hr hlk ⟨rfl, rfl⟩ h hP hS dX1_hasMore_39

set_option maxHeartbeats 4000000 in
set_option maxRecDepth 100000 in
theorem c_X1_isUsedUp (l : Launch) (D : va_G) (cI cZ : ClassId) (a : Nat → Nat) (N : Nat → Nat) (sz fu : Nat) (S S' : es_St) (p1 : Int32) (r : Int32) (h : f_X1_isUsedUp N fu S p1 = some (r, S')) : Met l yX1_isUsedUp (Cond.code yX1_isUsedUp cX1_isUsedUp 2 (some .boolean) :: wsL_law) ({ frames := 0, cells := 0, slots := 0, locals := 0 } : Room) (es_Pre [.ref (a 7), .int p1] D [(cI, .int), (cZ, .boolean)] (es_wX a cI cZ N) a 35 S sz) (es_Qi D (es_wX a cI cZ N) a 35 r S' sz) 0 0 (es_AA a 35 sz) := by
  refine es_intro (Qc := es_Qi D (es_wX a cI cZ N) a 35 r S') (by decide) (es_okX a cI cZ N) (Nat.le_of_ble_eq_true rfl) ?_
  intro p e s m below meth c C hr hlk hP ls hl
  have hx := C.1
  have hb := C.2.1
  have hown := C.2.2.2.1
  have hts := C.2.2.2.2.1
  have hS : va_S (es_AA a 35 s.heap.size) s.heap s.heap [] := va_S.rf
  replace hl : lv_has ls 2 [(0, .ref (a 7)), (1, .int p1)] := hl
  unfold f_X1_isUsedUp at h
  refine lv_iload_n hx hb dX1_isUsedUp_0 rfl (lv_at hl 1 rfl) ?_
  refine lv_if_lt (tgt := 25) hx hb dX1_isUsedUp_1 (by decide) (fun c1 => ?_) (fun c1 => ?_)
  · replace h := es_if_t c1 h
    refine lv_iconst (v := 1) hx hb dX1_isUsedUp_25 (by decide) ?_
    refine lv_goto (tgt := 30) hx hb dX1_isUsedUp_26 (by decide) ?_
    exact es_zret C hr hlk ⟨rfl, rfl⟩ h hP hS dX1_isUsedUp_30
  · replace h := es_if_f c1 h
    refine lv_iload_n hx hb dX1_isUsedUp_4 rfl (lv_at hl 1 rfl) ?_
    refine lv_bipush (v := 15) hx hb dX1_isUsedUp_5 (by decide) ?_
    refine lv_icmp_ge (tgt := 25) hx hb dX1_isUsedUp_7 (by decide) (fun c2 => ?_) (fun c2 => ?_)
    · replace h := es_if_t c2 h
      refine lv_iconst (v := 1) hx hb dX1_isUsedUp_25 (by decide) ?_
      refine lv_goto (tgt := 30) hx hb dX1_isUsedUp_26 (by decide) ?_
      exact es_zret C hr hlk ⟨rfl, rfl⟩ h hP hS dX1_isUsedUp_30
    · replace h := es_if_f c2 h
      refine lv_aload_n hx hb dX1_isUsedUp_10 rfl (lv_at hl 0 rfl) ?_
      refine es_get C hP (es_wX_7 a cI cZ N S) rfl inlX1 (j := 5) (by decide) es_u5_4 rfl dX1_isUsedUp_11 ?_
      refine lv_iload_n hx hb dX1_isUsedUp_14 rfl (lv_at hl 1 rfl) ?_
      replace h := es_ck_e h
      obtain ⟨b3, h⟩ := h
      refine es_ald C hP (es_wX_28 a cI cZ N S) (t0 := 0) rfl b3 dX1_isUsedUp_15 ?_
      refine lv_topi (fun v4 ev4 => ?_)
      replace h := es_lt_e ev4 h
      refine lv_aload_n hx hb dX1_isUsedUp_16 rfl (lv_at hl 0 rfl) ?_
      refine es_get C hP (es_wX_7 a cI cZ N S) rfl inlX1 (j := 6) (by decide) es_u5_5 rfl dX1_isUsedUp_17 ?_
      refine lv_iload_n hx hb dX1_isUsedUp_20 rfl (lv_at hl 1 rfl) ?_
      replace h := es_ck_e h
      obtain ⟨b5, h⟩ := h
      refine es_ald C hP (es_wX_29 a cI cZ N S) (t0 := 0) rfl b5 dX1_isUsedUp_21 ?_
      refine lv_topi (fun v6 ev6 => ?_)
      replace h := es_lt_e ev6 h
      refine lv_icmp_lt (tgt := 29) hx hb dX1_isUsedUp_22 (by decide) (fun c7 => ?_) (fun c7 => ?_)
      · replace h := es_if_t c7 h
        refine lv_iconst (v := 0) hx hb dX1_isUsedUp_29 (by decide) ?_
        exact es_zret C hr hlk ⟨rfl, rfl⟩ h hP hS dX1_isUsedUp_30
      · replace h := es_if_f c7 h
        refine lv_iconst (v := 1) hx hb dX1_isUsedUp_25 (by decide) ?_
        refine lv_goto (tgt := 30) hx hb dX1_isUsedUp_26 (by decide) ?_
        exact es_zret C hr hlk ⟨rfl, rfl⟩ h hP hS dX1_isUsedUp_30

set_option maxHeartbeats 4000000 in
set_option maxRecDepth 100000 in
theorem c_X1_keyOf (l : Launch) (D : va_G) (cI cZ : ClassId) (a : Nat → Nat) (N : Nat → Nat) (sz fu : Nat) (S S' : es_St) (p1 : Int32) (r : Int32) (h : f_X1_keyOf N fu S p1 = some (r, S')) : Met l yX1_keyOf (Cond.code yX1_keyOf cX1_keyOf 3 (some .int) :: wsL_law) ({ frames := 1, cells := 0, slots := 0, locals := 21 } : Room) (es_Pre [.ref (a 7), .int p1] D [(cI, .int), (cZ, .boolean)] (es_wX a cI cZ N) a 35 S sz) (es_Qi D (es_wX a cI cZ N) a 35 r S' sz) 0 0 (es_AA a 35 sz) := by
  refine es_intro (Qc := es_Qi D (es_wX a cI cZ N) a 35 r S') (by decide) (es_okX a cI cZ N) (Nat.le_of_ble_eq_true rfl) ?_
  intro p e s m below meth c C hr hlk hP ls hl
  have hx := C.1
  have hb := C.2.1
  have hown := C.2.2.2.1
  have hts := C.2.2.2.2.1
  have hS : va_S (es_AA a 35 s.heap.size) s.heap s.heap [] := va_S.rf
  replace hl : lv_has ls 3 [(0, .ref (a 7)), (1, .int p1)] := hl
  unfold f_X1_keyOf at h
  refine lv_aload_n hx hb dX1_keyOf_0 rfl (lv_at hl 0 rfl) ?_
  refine lv_iload_n hx hb dX1_keyOf_1 rfl (lv_at hl 1 rfl) ?_
  replace h := es_bd_e h
  obtain ⟨r1, S2, g3, h⟩ := h
  refine es_callVi C (c_X1_isUsedUp l D cI cZ a N _ fu S S2 p1 r1 g3) es_u14_13 es_mX1_isUsedUp ⟨rfl, rfl, by decide, by decide⟩ ⟨Nat.zero_le _, Nat.zero_le _⟩ hP hS (es_wX_7 a cI cZ N S) rfl rfl hl.1 rfl (Nat.le_of_ble_eq_true rfl) dX1_keyOf_2 (fun H locs _ _ hP hS => ?_)
  refine lv_if_eq (tgt := 10) hx hb dX1_keyOf_5 (by decide) (fun c4 => ?_) (fun c4 => ?_)
  · replace h := es_if_t c4 h
    refine lv_iload_n hx hb dX1_keyOf_10 rfl (lv_at hl 1 rfl) ?_
    refine lv_aload_n hx hb dX1_keyOf_11 rfl (lv_at hl 0 rfl) ?_
    refine es_get C hP (es_wX_7 a cI cZ N S2) rfl inlX1 (j := 0) (by decide) es_u5_6 rfl dX1_keyOf_12 ?_
    refine es_get C hP (es_wX_1 a cI cZ N S2) rfl inlX0 (j := 1) (by decide) es_u5_7 rfl dX1_keyOf_15 ?_
    refine lv_imul hx hb dX1_keyOf_18 ?_
    refine lv_aload_n hx hb dX1_keyOf_19 rfl (lv_at hl 0 rfl) ?_
    refine es_get C hP (es_wX_7 a cI cZ N S2) rfl inlX1 (j := 5) (by decide) es_u5_4 rfl dX1_keyOf_20 ?_
    refine lv_iload_n hx hb dX1_keyOf_23 rfl (lv_at hl 1 rfl) ?_
    replace h := es_ck_e h
    obtain ⟨b5, h⟩ := h
    refine es_ald C hP (es_wX_28 a cI cZ N S2) (t0 := 0) rfl b5 dX1_keyOf_24 ?_
    refine lv_topi (fun v6 ev6 => ?_)
    replace h := es_lt_e ev6 h
    refine lv_iadd hx hb dX1_keyOf_25 ?_
    refine lv_topi (fun y7 ey7 => ?_)
    replace h := es_lt_e ey7 h
    refine lv_istore_n (lv' := [(2, .int y7), (0, .ref (a 7)), (1, .int p1)]) hx hb dX1_keyOf_26 rfl hl (by decide) rfl (fun ls hl => ?_)
    refine lv_iload_n hx hb dX1_keyOf_27 rfl (lv_at hl 0 rfl) ?_
    refine lv_if_lt (tgt := 49) hx hb dX1_keyOf_28 (by decide) (fun c8 => ?_) (fun c8 => ?_)
    · replace h := es_if_t c8 h
      refine lv_iconst (v := 0) hx hb dX1_keyOf_49 (by decide) ?_
      exact es_iret C hr hlk h hP hS dX1_keyOf_50
    · replace h := es_if_f c8 h
      refine lv_iload_n hx hb dX1_keyOf_31 rfl (lv_at hl 0 rfl) ?_
      refine lv_aload_n hx hb dX1_keyOf_32 rfl (lv_at hl 1 rfl) ?_
      refine es_get C hP (es_wX_7 a cI cZ N S2) rfl inlX1 (j := 1) (by decide) es_u5_8 rfl dX1_keyOf_33 ?_
      refine es_len C hP (es_wX_24 a cI cZ N S2) (t0 := 0) rfl dX1_keyOf_36 ?_
      refine lv_icmp_ge (tgt := 49) hx hb dX1_keyOf_37 (by decide) (fun c9 => ?_) (fun c9 => ?_)
      · replace h := es_if_t c9 h
        refine lv_iconst (v := 0) hx hb dX1_keyOf_49 (by decide) ?_
        exact es_iret C hr hlk h hP hS dX1_keyOf_50
      · replace h := es_if_f c9 h
        refine lv_aload_n hx hb dX1_keyOf_40 rfl (lv_at hl 1 rfl) ?_
        refine es_get C hP (es_wX_7 a cI cZ N S2) rfl inlX1 (j := 1) (by decide) es_u5_8 rfl dX1_keyOf_41 ?_
        refine lv_iload_n hx hb dX1_keyOf_44 rfl (lv_at hl 0 rfl) ?_
        replace h := es_ck_e h
        obtain ⟨b10, h⟩ := h
        refine es_ald C hP (es_wX_24 a cI cZ N S2) (t0 := 0) rfl b10 dX1_keyOf_45 ?_
        refine lv_topi (fun v11 ev11 => ?_)
        replace h := es_lt_e ev11 h
        refine lv_goto (tgt := 50) hx hb dX1_keyOf_46 (by decide) ?_
        exact es_iret C hr hlk h hP hS dX1_keyOf_50
  · replace h := es_if_f c4 h
    refine lv_iconst (v := 0) hx hb dX1_keyOf_8 (by decide) ?_
    exact es_iret C hr hlk h hP hS dX1_keyOf_9

set_option maxHeartbeats 4000000 in
set_option maxRecDepth 100000 in
theorem c_X1_open (l : Launch) (D : va_G) (cI cZ : ClassId) (a : Nat → Nat) (N : Nat → Nat) (sz fu : Nat) (S S' : es_St) (p1 : Int32) (p2 : Int32) (p3 : Int32) (r : Int32) (h : f_X1_open N fu S p1 p2 p3 = some (r, S')) : Met l yX1_open (Cond.code yX1_open cX1_open 4 none :: wsL_law) ({ frames := 0, cells := 0, slots := 0, locals := 0 } : Room) (es_Pre [.ref (a 7), .int p1, .int p2, .int p3] D [(cI, .int), (cZ, .boolean)] (es_wX a cI cZ N) a 35 S sz) (es_Qv D (es_wX a cI cZ N) a 35 S' sz) 0 0 (es_AA a 35 sz) := by
  refine es_intro (Qc := es_Qv D (es_wX a cI cZ N) a 35 S') (by decide) (es_okX a cI cZ N) (Nat.le_of_ble_eq_true rfl) ?_
  intro p e s m below meth c C hr hlk hP ls hl
  have hx := C.1
  have hb := C.2.1
  have hown := C.2.2.2.1
  have hts := C.2.2.2.2.1
  have hS : va_S (es_AA a 35 s.heap.size) s.heap s.heap [] := va_S.rf
  replace hl : lv_has ls 4 [(0, .ref (a 7)), (1, .int p1), (2, .int p2), (3, .int p3)] := hl
  unfold f_X1_open at h
  refine lv_iload_n hx hb dX1_open_0 rfl (lv_at hl 1 rfl) ?_
  refine lv_if_lt (tgt := 38) hx hb dX1_open_1 (by decide) (fun c1 => ?_) (fun c1 => ?_)
  · replace h := es_if_t c1 h
    exact es_vret C hr hlk h hP hS dX1_open_38
  · replace h := es_if_f c1 h
    refine lv_iload_n hx hb dX1_open_4 rfl (lv_at hl 1 rfl) ?_
    refine lv_bipush (v := 15) hx hb dX1_open_5 (by decide) ?_
    refine lv_icmp_ge (tgt := 38) hx hb dX1_open_7 (by decide) (fun c2 => ?_) (fun c2 => ?_)
    · replace h := es_if_t c2 h
      exact es_vret C hr hlk h hP hS dX1_open_38
    · replace h := es_if_f c2 h
      refine lv_aload_n hx hb dX1_open_10 rfl (lv_at hl 0 rfl) ?_
      refine es_get C hP (es_wX_7 a cI cZ N S) rfl inlX1 (j := 3) (by decide) es_u5_2 rfl dX1_open_11 ?_
      refine lv_iload_n hx hb dX1_open_14 rfl (lv_at hl 1 rfl) ?_
      refine lv_iload_n hx hb dX1_open_15 rfl (lv_at hl 2 rfl) ?_
      replace h := es_ck_e h
      obtain ⟨b3, h⟩ := h
      refine es_ast C hP hS (es_wX_26 a cI cZ N S) (es_rX_26 a cI cZ N S) (t0 := 0) rfl b3 dX1_open_16 (fun S4 eS4 H locs hP hS => ?_)
      replace h := es_lt_e eS4 h
      refine lv_aload_n hx hb dX1_open_17 rfl (lv_at hl 0 rfl) ?_
      refine es_get C hP (es_wX_7 a cI cZ N S4) rfl inlX1 (j := 4) (by decide) es_u5_3 rfl dX1_open_18 ?_
      refine lv_iload_n hx hb dX1_open_21 rfl (lv_at hl 1 rfl) ?_
      refine lv_iload_n hx hb dX1_open_22 rfl (lv_at hl 3 rfl) ?_
      replace h := es_ck_e h
      obtain ⟨b5, h⟩ := h
      refine es_ast C hP hS (es_wX_27 a cI cZ N S4) (es_rX_27 a cI cZ N S4) (t0 := 0) rfl b5 dX1_open_23 (fun S6 eS6 H locs hP hS => ?_)
      replace h := es_lt_e eS6 h
      refine lv_aload_n hx hb dX1_open_24 rfl (lv_at hl 0 rfl) ?_
      refine es_get C hP (es_wX_7 a cI cZ N S6) rfl inlX1 (j := 5) (by decide) es_u5_4 rfl dX1_open_25 ?_
      refine lv_iload_n hx hb dX1_open_28 rfl (lv_at hl 1 rfl) ?_
      refine lv_iconst (v := 0) hx hb dX1_open_29 (by decide) ?_
      replace h := es_ck_e h
      obtain ⟨b7, h⟩ := h
      refine es_ast C hP hS (es_wX_28 a cI cZ N S6) (es_rX_28 a cI cZ N S6) (t0 := 0) rfl b7 dX1_open_30 (fun S8 eS8 H locs hP hS => ?_)
      replace h := es_lt_e eS8 h
      refine lv_aload_n hx hb dX1_open_31 rfl (lv_at hl 0 rfl) ?_
      refine es_get C hP (es_wX_7 a cI cZ N S8) rfl inlX1 (j := 6) (by decide) es_u5_5 rfl dX1_open_32 ?_
      refine lv_iload_n hx hb dX1_open_35 rfl (lv_at hl 1 rfl) ?_
      refine lv_iconst (v := 0) hx hb dX1_open_36 (by decide) ?_
      replace h := es_ck_e h
      obtain ⟨b9, h⟩ := h
      refine es_ast C hP hS (es_wX_29 a cI cZ N S8) (es_rX_29 a cI cZ N S8) (t0 := 0) rfl b9 dX1_open_37 (fun S10 eS10 H locs hP hS => ?_)
      replace h := es_lt_e eS10 h
      exact es_vret C hr hlk h hP hS dX1_open_38

set_option maxHeartbeats 4000000 in
set_option maxRecDepth 100000 in
theorem c_X1_readPage (l : Launch) (D : va_G) (cI cZ : ClassId) (a : Nat → Nat) (N : Nat → Nat) (sz fu : Nat) (S S' : es_St) (p1 : Int32) (r : Int32) (h : f_X1_readPage N fu S p1 = some (r, S')) : Met l yX1_readPage (Cond.code yX1_readPage cX1_readPage 6 (some .int) :: wsL_law) ({ frames := 2, cells := 0, slots := 0, locals := 44 } : Room) (es_Pre [.ref (a 7), .int p1] D [(cI, .int), (cZ, .boolean)] (es_wX a cI cZ N) a 35 S sz) (es_Qi D (es_wX a cI cZ N) a 35 r S' sz) 0 0 (es_AA a 35 sz) := by
  refine es_intro (Qc := es_Qi D (es_wX a cI cZ N) a 35 r S') (by decide) (es_okX a cI cZ N) (Nat.le_of_ble_eq_true rfl) ?_
  intro p e s m below meth c C hr hlk hP ls hl
  have hx := C.1
  have hb := C.2.1
  have hown := C.2.2.2.1
  have hts := C.2.2.2.2.1
  have hS : va_S (es_AA a 35 s.heap.size) s.heap s.heap [] := va_S.rf
  replace hl : lv_has ls 6 [(0, .ref (a 7)), (1, .int p1)] := hl
  have J125 : (∀ (x1 : Int32) (x2 : Int32) (x3 : Int32) (S : es_St) (H : Heap) (locs : List Loc) (ls : Array Slot), f_X1_readPage_125 N fu x1 x2 x3 S = some (r, S') → va_P D vwCl ((es_wX a cI cZ N) S) H → va_S (es_AA a 35 s.heap.size) s.heap H locs → lv_has ls 6 [(0, .ref (a 7)), (1, .int x1), (2, .int x2), (3, .int x3)] → W p l e ({ frames := 2, cells := 0, slots := 0, locals := 44 } : Room) s m ([.ref (a 7), .int p1] : List Value).toArray below meth c H locs 0 0 (MQ below (es_Qi D (es_wX a cI cZ N) a 35 r S' s.heap.size) ([.ref (a 7), .int p1] : List Value).toArray s 0 0 (es_AA a 35 s.heap.size)) (F0 m 125 ls [])) := by
    intro x1 x2 x3 S H locs ls h hP hS hl
    unfold f_X1_readPage_125 at h
    refine lv_aload_n hx hb dX1_readPage_125 rfl (lv_at hl 0 rfl) ?_
    refine es_get C hP (es_wX_7 a cI cZ N S) rfl inlX1 (j := 3) (by decide) es_u5_2 rfl dX1_readPage_126 ?_
    refine lv_iload_n hx hb dX1_readPage_129 rfl (lv_at hl 1 rfl) ?_
    refine lv_aload_n hx hb dX1_readPage_130 rfl (lv_at hl 0 rfl) ?_
    refine es_get C hP (es_wX_7 a cI cZ N S) rfl inlX1 (j := 0) (by decide) es_u5_6 rfl dX1_readPage_131 ?_
    refine lv_iload_n hx hb dX1_readPage_134 rfl (lv_at hl 2 rfl) ?_
    replace h := es_bd_e h
    obtain ⟨r13, S14, g15, h⟩ := h
    refine es_callVi C (c_X0_nextOf l D cI cZ a N _ fu S S14 x2 r13 g15) es_u14_8 es_mX0_nextOf ⟨rfl, rfl, by decide, by decide⟩ ⟨Nat.zero_le _, Nat.zero_le _⟩ hP hS (es_wX_1 a cI cZ N S) rfl rfl hl.1 rfl (Nat.le_of_ble_eq_true rfl) dX1_readPage_135 (fun H locs _ _ hP hS => ?_)
    replace h := es_ck_e h
    obtain ⟨b16, h⟩ := h
    refine es_ast C hP hS (es_wX_26 a cI cZ N S14) (es_rX_26 a cI cZ N S14) (t0 := 0) rfl b16 dX1_readPage_138 (fun S17 eS17 H locs hP hS => ?_)
    replace h := es_lt_e eS17 h
    refine lv_aload_n hx hb dX1_readPage_139 rfl (lv_at hl 0 rfl) ?_
    refine es_get C hP (es_wX_7 a cI cZ N S17) rfl inlX1 (j := 4) (by decide) es_u5_3 rfl dX1_readPage_140 ?_
    refine lv_iload_n hx hb dX1_readPage_143 rfl (lv_at hl 1 rfl) ?_
    refine lv_dup2_11 hx hb dX1_readPage_144 rfl rfl ?_
    replace h := es_ck_e h
    obtain ⟨b18, h⟩ := h
    refine es_ald C hP (es_wX_27 a cI cZ N S17) (t0 := 0) rfl b18 dX1_readPage_145 ?_
    refine lv_topi (fun v19 ev19 => ?_)
    replace h := es_lt_e ev19 h
    refine lv_iload_n hx hb dX1_readPage_146 rfl (lv_at hl 3 rfl) ?_
    refine lv_isub hx hb dX1_readPage_147 ?_
    refine lv_topi (fun v20 ev20 => ?_)
    replace h := es_lt_e ev20 h
    replace h := es_ck_e h
    obtain ⟨b21, h⟩ := h
    refine es_ast C hP hS (es_wX_27 a cI cZ N S17) (es_rX_27 a cI cZ N S17) (t0 := 0) rfl b21 dX1_readPage_148 (fun S22 eS22 H locs hP hS => ?_)
    replace h := es_lt_e eS22 h
    refine lv_aload_n hx hb dX1_readPage_149 rfl (lv_at hl 0 rfl) ?_
    refine es_get C hP (es_wX_7 a cI cZ N S22) rfl inlX1 (j := 5) (by decide) es_u5_4 rfl dX1_readPage_150 ?_
    refine lv_iload_n hx hb dX1_readPage_153 rfl (lv_at hl 1 rfl) ?_
    refine lv_iconst (v := 0) hx hb dX1_readPage_154 (by decide) ?_
    replace h := es_ck_e h
    obtain ⟨b23, h⟩ := h
    refine es_ast C hP hS (es_wX_28 a cI cZ N S22) (es_rX_28 a cI cZ N S22) (t0 := 0) rfl b23 dX1_readPage_155 (fun S24 eS24 H locs hP hS => ?_)
    replace h := es_lt_e eS24 h
    refine lv_aload_n hx hb dX1_readPage_156 rfl (lv_at hl 0 rfl) ?_
    refine es_get C hP (es_wX_7 a cI cZ N S24) rfl inlX1 (j := 6) (by decide) es_u5_5 rfl dX1_readPage_157 ?_
    refine lv_iload_n hx hb dX1_readPage_160 rfl (lv_at hl 1 rfl) ?_
    refine lv_iload_n hx hb dX1_readPage_161 rfl (lv_at hl 3 rfl) ?_
    replace h := es_ck_e h
    obtain ⟨b25, h⟩ := h
    refine es_ast C hP hS (es_wX_29 a cI cZ N S24) (es_rX_29 a cI cZ N S24) (t0 := 0) rfl b25 dX1_readPage_162 (fun S26 eS26 H locs hP hS => ?_)
    replace h := es_lt_e eS26 h
    refine lv_aload_n hx hb dX1_readPage_163 rfl (lv_at hl 0 rfl) ?_
    refine es_get C hP (es_wX_7 a cI cZ N S26) rfl inlX1 (j := 0) (by decide) es_u5_6 rfl dX1_readPage_164 ?_
    refine es_get C hP (es_wX_1 a cI cZ N S26) rfl inlX0 (j := 2) (by decide) es_u13_22 rfl dX1_readPage_167 ?_
    refine lv_dup hx hb dX1_readPage_170 rfl ?_
    refine es_get C hP (es_wX_5 a cI cZ N S26) rfl inlX6 (j := 0) (by decide) es_u13_23 rfl dX1_readPage_171 ?_
    refine lv_iconst (v := 1) hx hb dX1_readPage_174 (by decide) ?_
    refine lv_iadd hx hb dX1_readPage_175 ?_
    refine lv_topi (fun v27 ev27 => ?_)
    replace h := es_lt_e ev27 h
    refine es_put C hP hS (es_wX_5 a cI cZ N S26) rfl inlX6 tyX6_ok nmX6 (j := 0) (by decide) es_u13_23 rfl (tyX6_ok 0 (by decide)) rfl rfl (by simp) (es_sX_22 a cI cZ N S26 v27) dX1_readPage_176 (fun S28 eS28 H locs hP hS => ?_)
    replace h := es_lt_e eS28 h
    refine lv_iload_n hx hb dX1_readPage_179 rfl (lv_at hl 2 rfl) ?_
    exact es_iret C hr hlk h hP hS dX1_readPage_180
  have J60 : ∀ n : Nat, (∀ (x1 : Int32) (x2 : Int32) (x3 : Int32) (x4 : Int32) (x5 : Int32) (S : es_St) (H : Heap) (locs : List Loc) (ls : Array Slot), f_X1_readPage_60 N fu n x1 x2 x3 x4 x5 S = some (r, S') → va_P D vwCl ((es_wX a cI cZ N) S) H → va_S (es_AA a 35 s.heap.size) s.heap H locs → lv_has ls 6 [(0, .ref (a 7)), (1, .int x1), (2, .int x2), (3, .int x3), (4, .int x4), (5, .int x5)] → W p l e ({ frames := 2, cells := 0, slots := 0, locals := 44 } : Room) s m ([.ref (a 7), .int p1] : List Value).toArray below meth c H locs 0 0 (MQ below (es_Qi D (es_wX a cI cZ N) a 35 r S' s.heap.size) ([.ref (a 7), .int p1] : List Value).toArray s 0 0 (es_AA a 35 s.heap.size)) (F0 m 60 ls [])) := by
    intro n
    induction n with
    | zero => intro x1 x2 x3 x4 x5 S H locs ls h; rw [f_X1_readPage_60] at h; cases h
    | succ n ih =>
      intro x1 x2 x3 x4 x5 S H locs ls h hP hS hl
      rw [f_X1_readPage_60] at h
      refine lv_iload hx hb dX1_readPage_60 (lv_at hl 5 rfl) ?_
      refine lv_iload_n hx hb dX1_readPage_62 rfl (lv_at hl 3 rfl) ?_
      refine lv_icmp_ge (tgt := 125) hx hb dX1_readPage_63 (by decide) (fun c12 => ?_) (fun c12 => ?_)
      · replace h := es_if_t c12 h
        exact J125  x1 x2 x3 S _ _ _ h hP hS (lv_sub hl [0, 1, 2, 3] rfl)
      · replace h := es_if_f c12 h
        refine lv_iload hx hb dX1_readPage_66 (lv_at hl 4 rfl) ?_
        refine lv_iload hx hb dX1_readPage_68 (lv_at hl 5 rfl) ?_
        refine lv_iadd hx hb dX1_readPage_70 ?_
        refine lv_aload_n hx hb dX1_readPage_71 rfl (lv_at hl 0 rfl) ?_
        refine es_get C hP (es_wX_7 a cI cZ N S) rfl inlX1 (j := 1) (by decide) es_u5_8 rfl dX1_readPage_72 ?_
        refine es_len C hP (es_wX_24 a cI cZ N S) (t0 := 0) rfl dX1_readPage_75 ?_
        refine lv_icmp_ge (tgt := 125) hx hb dX1_readPage_76 (by decide) (fun c29 => ?_) (fun c29 => ?_)
        · replace h := es_if_t c29 h
          exact J125  x1 x2 x3 S _ _ _ h hP hS (lv_sub hl [0, 1, 2, 3] rfl)
        · replace h := es_if_f c29 h
          refine lv_aload_n hx hb dX1_readPage_79 rfl (lv_at hl 0 rfl) ?_
          refine es_get C hP (es_wX_7 a cI cZ N S) rfl inlX1 (j := 1) (by decide) es_u5_8 rfl dX1_readPage_80 ?_
          refine lv_iload hx hb dX1_readPage_83 (lv_at hl 4 rfl) ?_
          refine lv_iload hx hb dX1_readPage_85 (lv_at hl 5 rfl) ?_
          refine lv_iadd hx hb dX1_readPage_87 ?_
          refine lv_aload_n hx hb dX1_readPage_88 rfl (lv_at hl 0 rfl) ?_
          refine es_get C hP (es_wX_7 a cI cZ N S) rfl inlX1 (j := 0) (by decide) es_u5_6 rfl dX1_readPage_89 ?_
          refine lv_iload_n hx hb dX1_readPage_92 rfl (lv_at hl 2 rfl) ?_
          refine lv_iload hx hb dX1_readPage_93 (lv_at hl 5 rfl) ?_
          replace h := es_bd_e h
          obtain ⟨r30, S31, g32, h⟩ := h
          refine es_callVi C (c_X0_keyAt l D cI cZ a N _ fu S S31 x2 x5 r30 g32) es_u14_0 es_mX0_keyAt ⟨rfl, rfl, by decide, by decide⟩ ⟨Nat.zero_le _, Nat.zero_le _⟩ hP hS (es_wX_1 a cI cZ N S) rfl rfl hl.1 rfl (Nat.le_of_ble_eq_true rfl) dX1_readPage_95 (fun H locs _ _ hP hS => ?_)
          replace h := es_ck_e h
          obtain ⟨b33, h⟩ := h
          refine es_ast C hP hS (es_wX_24 a cI cZ N S31) (es_rX_24 a cI cZ N S31) (t0 := 0) rfl b33 dX1_readPage_98 (fun S34 eS34 H locs hP hS => ?_)
          replace h := es_lt_e eS34 h
          refine lv_aload_n hx hb dX1_readPage_99 rfl (lv_at hl 0 rfl) ?_
          refine es_get C hP (es_wX_7 a cI cZ N S34) rfl inlX1 (j := 2) (by decide) es_u5_9 rfl dX1_readPage_100 ?_
          refine lv_iload hx hb dX1_readPage_103 (lv_at hl 4 rfl) ?_
          refine lv_iload hx hb dX1_readPage_105 (lv_at hl 5 rfl) ?_
          refine lv_iadd hx hb dX1_readPage_107 ?_
          refine lv_aload_n hx hb dX1_readPage_108 rfl (lv_at hl 0 rfl) ?_
          refine es_get C hP (es_wX_7 a cI cZ N S34) rfl inlX1 (j := 0) (by decide) es_u5_6 rfl dX1_readPage_109 ?_
          refine lv_iload_n hx hb dX1_readPage_112 rfl (lv_at hl 2 rfl) ?_
          refine lv_iload hx hb dX1_readPage_113 (lv_at hl 5 rfl) ?_
          replace h := es_bd_e h
          obtain ⟨r35, S36, g37, h⟩ := h
          refine es_callVi C (c_X0_tagAt l D cI cZ a N _ fu S34 S36 x2 x5 r35 g37) es_u14_4 es_mX0_tagAt ⟨rfl, rfl, by decide, by decide⟩ ⟨Nat.zero_le _, Nat.zero_le _⟩ hP hS (es_wX_1 a cI cZ N S34) rfl rfl hl.1 rfl (Nat.le_of_ble_eq_true rfl) dX1_readPage_115 (fun H locs _ _ hP hS => ?_)
          replace h := es_ck_e h
          obtain ⟨b38, h⟩ := h
          refine es_ast C hP hS (es_wX_25 a cI cZ N S36) (es_rX_25 a cI cZ N S36) (t0 := 0) rfl b38 dX1_readPage_118 (fun S39 eS39 H locs hP hS => ?_)
          replace h := es_lt_e eS39 h
          obtain ⟨y40, ey40⟩ : ∃ y : Int32, y = x5 + 1 := ⟨_, rfl⟩
          refine lv_iinc (v := y40) (lv' := [(5, .int y40), (0, .ref (a 7)), (1, .int x1), (2, .int x2), (3, .int x3), (4, .int x4)]) hx hb dX1_readPage_119 hl (k := 5) rfl (by rw [ey40]; rfl) (by decide) rfl (fun ls hl => ?_)
          replace h := es_lt_e ey40 h
          refine lv_goto (tgt := 60) hx hb dX1_readPage_122 (by decide) ?_
          exact ih x1 x2 x3 x4 y40 S39 _ _ _ h hP hS (lv_sub hl [1, 2, 3, 4, 5, 0] rfl)
  unfold f_X1_readPage at h
  refine lv_iload_n hx hb dX1_readPage_0 rfl (lv_at hl 1 rfl) ?_
  refine lv_if_lt (tgt := 20) hx hb dX1_readPage_1 (by decide) (fun c1 => ?_) (fun c1 => ?_)
  · replace h := es_if_t c1 h
    refine lv_iconst (v := (-1)) hx hb dX1_readPage_20 (by decide) ?_
    exact es_iret C hr hlk h hP hS dX1_readPage_21
  · replace h := es_if_f c1 h
    refine lv_iload_n hx hb dX1_readPage_4 rfl (lv_at hl 1 rfl) ?_
    refine lv_bipush (v := 15) hx hb dX1_readPage_5 (by decide) ?_
    refine lv_icmp_ge (tgt := 20) hx hb dX1_readPage_7 (by decide) (fun c2 => ?_) (fun c2 => ?_)
    · replace h := es_if_t c2 h
      refine lv_iconst (v := (-1)) hx hb dX1_readPage_20 (by decide) ?_
      exact es_iret C hr hlk h hP hS dX1_readPage_21
    · replace h := es_if_f c2 h
      refine lv_aload_n hx hb dX1_readPage_10 rfl (lv_at hl 0 rfl) ?_
      refine es_get C hP (es_wX_7 a cI cZ N S) rfl inlX1 (j := 4) (by decide) es_u5_3 rfl dX1_readPage_11 ?_
      refine lv_iload_n hx hb dX1_readPage_14 rfl (lv_at hl 1 rfl) ?_
      replace h := es_ck_e h
      obtain ⟨b3, h⟩ := h
      refine es_ald C hP (es_wX_27 a cI cZ N S) (t0 := 0) rfl b3 dX1_readPage_15 ?_
      refine lv_topi (fun v4 ev4 => ?_)
      replace h := es_lt_e ev4 h
      refine lv_iconst (v := 1) hx hb dX1_readPage_16 (by decide) ?_
      refine lv_icmp_ge (tgt := 22) hx hb dX1_readPage_17 (by decide) (fun c5 => ?_) (fun c5 => ?_)
      · replace h := es_if_t c5 h
        refine lv_aload_n hx hb dX1_readPage_22 rfl (lv_at hl 0 rfl) ?_
        refine es_get C hP (es_wX_7 a cI cZ N S) rfl inlX1 (j := 3) (by decide) es_u5_2 rfl dX1_readPage_23 ?_
        refine lv_iload_n hx hb dX1_readPage_26 rfl (lv_at hl 1 rfl) ?_
        replace h := es_ck_e h
        obtain ⟨b6, h⟩ := h
        refine es_ald C hP (es_wX_26 a cI cZ N S) (t0 := 0) rfl b6 dX1_readPage_27 ?_
        refine lv_topi (fun v7 ev7 => ?_)
        replace h := es_lt_e ev7 h
        refine lv_istore_n (lv' := [(2, .int v7), (0, .ref (a 7)), (1, .int p1)]) hx hb dX1_readPage_28 rfl hl (by decide) rfl (fun ls hl => ?_)
        refine lv_aload_n hx hb dX1_readPage_29 rfl (lv_at hl 1 rfl) ?_
        refine es_get C hP (es_wX_7 a cI cZ N S) rfl inlX1 (j := 0) (by decide) es_u5_6 rfl dX1_readPage_30 ?_
        refine es_get C hP (es_wX_1 a cI cZ N S) rfl inlX0 (j := 1) (by decide) es_u5_7 rfl dX1_readPage_33 ?_
        refine lv_aload_n hx hb dX1_readPage_36 rfl (lv_at hl 1 rfl) ?_
        refine es_get C hP (es_wX_7 a cI cZ N S) rfl inlX1 (j := 4) (by decide) es_u5_3 rfl dX1_readPage_37 ?_
        refine lv_iload_n hx hb dX1_readPage_40 rfl (lv_at hl 2 rfl) ?_
        replace h := es_ck_e h
        obtain ⟨b8, h⟩ := h
        refine es_ald C hP (es_wX_27 a cI cZ N S) (t0 := 0) rfl b8 dX1_readPage_41 ?_
        refine lv_topi (fun v9 ev9 => ?_)
        replace h := es_lt_e ev9 h
        refine va_mmin hx hb (C.2.2.1.trans hl.1.symm) hown (hts _ es_u13_21) (hts _ es_u1_20) (hts _ es_u1_21) (hts _ es_u1_22) (by decide) (Nat.le_of_ble_eq_true rfl) (Nat.zero_le _) (Nat.zero_le _) dX1_readPage_42 ?_
        refine lv_topi (fun v10 ev10 => ?_)
        replace h := es_lt_e ev10 h
        refine lv_istore_n (lv' := [(3, .int v10), (2, .int v7), (0, .ref (a 7)), (1, .int p1)]) hx hb dX1_readPage_45 rfl hl (by decide) rfl (fun ls hl => ?_)
        refine lv_iload_n hx hb dX1_readPage_46 rfl (lv_at hl 3 rfl) ?_
        refine lv_aload_n hx hb dX1_readPage_47 rfl (lv_at hl 2 rfl) ?_
        refine es_get C hP (es_wX_7 a cI cZ N S) rfl inlX1 (j := 0) (by decide) es_u5_6 rfl dX1_readPage_48 ?_
        refine es_get C hP (es_wX_1 a cI cZ N S) rfl inlX0 (j := 1) (by decide) es_u5_7 rfl dX1_readPage_51 ?_
        refine lv_imul hx hb dX1_readPage_54 ?_
        refine lv_topi (fun y11 ey11 => ?_)
        replace h := es_lt_e ey11 h
        refine lv_istore (lv' := [(4, .int y11), (3, .int v10), (2, .int v7), (0, .ref (a 7)), (1, .int p1)]) hx hb dX1_readPage_55 hl (by decide) rfl (fun ls hl => ?_)
        refine lv_iconst (v := 0) hx hb dX1_readPage_57 (by decide) ?_
        refine lv_istore (lv' := [(5, .int 0), (4, .int y11), (3, .int v10), (2, .int v7), (0, .ref (a 7)), (1, .int p1)]) hx hb dX1_readPage_58 hl (by decide) rfl (fun ls hl => ?_)
        exact J60  fu p1 v7 v10 y11 0 S _ _ _ h hP hS (lv_sub hl [4, 5, 3, 2, 1, 0] rfl)
      · replace h := es_if_f c5 h
        refine lv_iconst (v := (-1)) hx hb dX1_readPage_20 (by decide) ?_
        exact es_iret C hr hlk h hP hS dX1_readPage_21

set_option maxHeartbeats 4000000 in
set_option maxRecDepth 100000 in
theorem c_X1_step (l : Launch) (D : va_G) (cI cZ : ClassId) (a : Nat → Nat) (N : Nat → Nat) (sz fu : Nat) (S S' : es_St) (p1 : Int32) (r : Int32) (h : f_X1_step N fu S p1 = some (r, S')) : Met l yX1_step (Cond.code yX1_step cX1_step 2 none :: wsL_law) ({ frames := 1, cells := 0, slots := 0, locals := 21 } : Room) (es_Pre [.ref (a 7), .int p1] D [(cI, .int), (cZ, .boolean)] (es_wX a cI cZ N) a 35 S sz) (es_Qv D (es_wX a cI cZ N) a 35 S' sz) 0 0 (es_AA a 35 sz) := by
  refine es_intro (Qc := es_Qv D (es_wX a cI cZ N) a 35 S') (by decide) (es_okX a cI cZ N) (Nat.le_of_ble_eq_true rfl) ?_
  intro p e s m below meth c C hr hlk hP ls hl
  have hx := C.1
  have hb := C.2.1
  have hown := C.2.2.2.1
  have hts := C.2.2.2.2.1
  have hS : va_S (es_AA a 35 s.heap.size) s.heap s.heap [] := va_S.rf
  replace hl : lv_has ls 2 [(0, .ref (a 7)), (1, .int p1)] := hl
  unfold f_X1_step at h
  refine lv_aload_n hx hb dX1_step_0 rfl (lv_at hl 0 rfl) ?_
  refine lv_iload_n hx hb dX1_step_1 rfl (lv_at hl 1 rfl) ?_
  replace h := es_bd_e h
  obtain ⟨r1, S2, g3, h⟩ := h
  refine es_callVi C (c_X1_isUsedUp l D cI cZ a N _ fu S S2 p1 r1 g3) es_u14_13 es_mX1_isUsedUp ⟨rfl, rfl, by decide, by decide⟩ ⟨Nat.zero_le _, Nat.zero_le _⟩ hP hS (es_wX_7 a cI cZ N S) rfl rfl hl.1 rfl (Nat.le_of_ble_eq_true rfl) dX1_step_2 (fun H locs _ _ hP hS => ?_)
  refine lv_if_ne (tgt := 18) hx hb dX1_step_5 (by decide) (fun c4 => ?_) (fun c4 => ?_)
  · replace h := es_if_t c4 h
    exact es_vret C hr hlk h hP hS dX1_step_18
  · replace h := es_if_f (fun q => q c4) h
    refine lv_aload_n hx hb dX1_step_8 rfl (lv_at hl 0 rfl) ?_
    refine es_get C hP (es_wX_7 a cI cZ N S2) rfl inlX1 (j := 5) (by decide) es_u5_4 rfl dX1_step_9 ?_
    refine lv_iload_n hx hb dX1_step_12 rfl (lv_at hl 1 rfl) ?_
    refine lv_dup2_11 hx hb dX1_step_13 rfl rfl ?_
    replace h := es_ck_e h
    obtain ⟨b5, h⟩ := h
    refine es_ald C hP (es_wX_28 a cI cZ N S2) (t0 := 0) rfl b5 dX1_step_14 ?_
    refine lv_topi (fun v6 ev6 => ?_)
    replace h := es_lt_e ev6 h
    refine lv_iconst (v := 1) hx hb dX1_step_15 (by decide) ?_
    refine lv_iadd hx hb dX1_step_16 ?_
    refine lv_topi (fun v7 ev7 => ?_)
    replace h := es_lt_e ev7 h
    replace h := es_ck_e h
    obtain ⟨b8, h⟩ := h
    refine es_ast C hP hS (es_wX_28 a cI cZ N S2) (es_rX_28 a cI cZ N S2) (t0 := 0) rfl b8 dX1_step_17 (fun S9 eS9 H locs hP hS => ?_)
    replace h := es_lt_e eS9 h
    exact es_vret C hr hlk h hP hS dX1_step_18

set_option maxHeartbeats 4000000 in
set_option maxRecDepth 100000 in
theorem c_X1_tagOf (l : Launch) (D : va_G) (cI cZ : ClassId) (a : Nat → Nat) (N : Nat → Nat) (sz fu : Nat) (S S' : es_St) (p1 : Int32) (r : Int32) (h : f_X1_tagOf N fu S p1 = some (r, S')) : Met l yX1_tagOf (Cond.code yX1_tagOf cX1_tagOf 3 (some .int) :: wsL_law) ({ frames := 1, cells := 0, slots := 0, locals := 21 } : Room) (es_Pre [.ref (a 7), .int p1] D [(cI, .int), (cZ, .boolean)] (es_wX a cI cZ N) a 35 S sz) (es_Qi D (es_wX a cI cZ N) a 35 r S' sz) 0 0 (es_AA a 35 sz) := by
  refine es_intro (Qc := es_Qi D (es_wX a cI cZ N) a 35 r S') (by decide) (es_okX a cI cZ N) (Nat.le_of_ble_eq_true rfl) ?_
  intro p e s m below meth c C hr hlk hP ls hl
  have hx := C.1
  have hb := C.2.1
  have hown := C.2.2.2.1
  have hts := C.2.2.2.2.1
  have hS : va_S (es_AA a 35 s.heap.size) s.heap s.heap [] := va_S.rf
  replace hl : lv_has ls 3 [(0, .ref (a 7)), (1, .int p1)] := hl
  unfold f_X1_tagOf at h
  refine lv_aload_n hx hb dX1_tagOf_0 rfl (lv_at hl 0 rfl) ?_
  refine lv_iload_n hx hb dX1_tagOf_1 rfl (lv_at hl 1 rfl) ?_
  replace h := es_bd_e h
  obtain ⟨r1, S2, g3, h⟩ := h
  refine es_callVi C (c_X1_isUsedUp l D cI cZ a N _ fu S S2 p1 r1 g3) es_u14_13 es_mX1_isUsedUp ⟨rfl, rfl, by decide, by decide⟩ ⟨Nat.zero_le _, Nat.zero_le _⟩ hP hS (es_wX_7 a cI cZ N S) rfl rfl hl.1 rfl (Nat.le_of_ble_eq_true rfl) dX1_tagOf_2 (fun H locs _ _ hP hS => ?_)
  refine lv_if_eq (tgt := 10) hx hb dX1_tagOf_5 (by decide) (fun c4 => ?_) (fun c4 => ?_)
  · replace h := es_if_t c4 h
    refine lv_iload_n hx hb dX1_tagOf_10 rfl (lv_at hl 1 rfl) ?_
    refine lv_aload_n hx hb dX1_tagOf_11 rfl (lv_at hl 0 rfl) ?_
    refine es_get C hP (es_wX_7 a cI cZ N S2) rfl inlX1 (j := 0) (by decide) es_u5_6 rfl dX1_tagOf_12 ?_
    refine es_get C hP (es_wX_1 a cI cZ N S2) rfl inlX0 (j := 1) (by decide) es_u5_7 rfl dX1_tagOf_15 ?_
    refine lv_imul hx hb dX1_tagOf_18 ?_
    refine lv_aload_n hx hb dX1_tagOf_19 rfl (lv_at hl 0 rfl) ?_
    refine es_get C hP (es_wX_7 a cI cZ N S2) rfl inlX1 (j := 5) (by decide) es_u5_4 rfl dX1_tagOf_20 ?_
    refine lv_iload_n hx hb dX1_tagOf_23 rfl (lv_at hl 1 rfl) ?_
    replace h := es_ck_e h
    obtain ⟨b5, h⟩ := h
    refine es_ald C hP (es_wX_28 a cI cZ N S2) (t0 := 0) rfl b5 dX1_tagOf_24 ?_
    refine lv_topi (fun v6 ev6 => ?_)
    replace h := es_lt_e ev6 h
    refine lv_iadd hx hb dX1_tagOf_25 ?_
    refine lv_topi (fun y7 ey7 => ?_)
    replace h := es_lt_e ey7 h
    refine lv_istore_n (lv' := [(2, .int y7), (0, .ref (a 7)), (1, .int p1)]) hx hb dX1_tagOf_26 rfl hl (by decide) rfl (fun ls hl => ?_)
    refine lv_iload_n hx hb dX1_tagOf_27 rfl (lv_at hl 0 rfl) ?_
    refine lv_if_lt (tgt := 49) hx hb dX1_tagOf_28 (by decide) (fun c8 => ?_) (fun c8 => ?_)
    · replace h := es_if_t c8 h
      refine lv_iconst (v := 0) hx hb dX1_tagOf_49 (by decide) ?_
      exact es_iret C hr hlk h hP hS dX1_tagOf_50
    · replace h := es_if_f c8 h
      refine lv_iload_n hx hb dX1_tagOf_31 rfl (lv_at hl 0 rfl) ?_
      refine lv_aload_n hx hb dX1_tagOf_32 rfl (lv_at hl 1 rfl) ?_
      refine es_get C hP (es_wX_7 a cI cZ N S2) rfl inlX1 (j := 2) (by decide) es_u5_9 rfl dX1_tagOf_33 ?_
      refine es_len C hP (es_wX_25 a cI cZ N S2) (t0 := 0) rfl dX1_tagOf_36 ?_
      refine lv_icmp_ge (tgt := 49) hx hb dX1_tagOf_37 (by decide) (fun c9 => ?_) (fun c9 => ?_)
      · replace h := es_if_t c9 h
        refine lv_iconst (v := 0) hx hb dX1_tagOf_49 (by decide) ?_
        exact es_iret C hr hlk h hP hS dX1_tagOf_50
      · replace h := es_if_f c9 h
        refine lv_aload_n hx hb dX1_tagOf_40 rfl (lv_at hl 1 rfl) ?_
        refine es_get C hP (es_wX_7 a cI cZ N S2) rfl inlX1 (j := 2) (by decide) es_u5_9 rfl dX1_tagOf_41 ?_
        refine lv_iload_n hx hb dX1_tagOf_44 rfl (lv_at hl 0 rfl) ?_
        replace h := es_ck_e h
        obtain ⟨b10, h⟩ := h
        refine es_ald C hP (es_wX_25 a cI cZ N S2) (t0 := 0) rfl b10 dX1_tagOf_45 ?_
        refine lv_topi (fun v11 ev11 => ?_)
        replace h := es_lt_e ev11 h
        refine lv_goto (tgt := 50) hx hb dX1_tagOf_46 (by decide) ?_
        exact es_iret C hr hlk h hP hS dX1_tagOf_50
  · replace h := es_if_f c4 h
    refine lv_iconst (v := 0) hx hb dX1_tagOf_8 (by decide) ?_
    exact es_iret C hr hlk h hP hS dX1_tagOf_9

set_option maxHeartbeats 4000000 in
set_option maxRecDepth 100000 in
theorem c_X2_copy (l : Launch) (D : va_G) (cI cZ : ClassId) (a : Nat → Nat) (N : Nat → Nat) (sz fu : Nat) (S S' : es_St) (p1 : Int32) (p2 : Int32) (p3 : Int32) (r : Int32) (h : f_X2_copy N fu S p1 p2 p3 = some (r, S')) : Met l yX2_copy (Cond.code yX2_copy cX2_copy 8 (some .int) :: wsL_law) ({ frames := 2, cells := 0, slots := 0, locals := 44 } : Room) (es_Pre [.ref (a 4), .int p1, .int p2, .int p3] D [(cI, .int), (cZ, .boolean)] (es_wX a cI cZ N) a 35 S sz) (es_Qi D (es_wX a cI cZ N) a 35 r S' sz) 0 0 (es_AA a 35 sz) := by
  refine es_intro (Qc := es_Qi D (es_wX a cI cZ N) a 35 r S') (by decide) (es_okX a cI cZ N) (Nat.le_of_ble_eq_true rfl) ?_
  intro p e s m below meth c C hr hlk hP ls hl
  have hx := C.1
  have hb := C.2.1
  have hown := C.2.2.2.1
  have hts := C.2.2.2.2.1
  have hS : va_S (es_AA a 35 s.heap.size) s.heap s.heap [] := va_S.rf
  replace hl : lv_has ls 8 [(0, .ref (a 4)), (1, .int p1), (2, .int p2), (3, .int p3)] := hl
  have J22 : ∀ n : Nat, (∀ (x4 : Int32) (x5 : Int32) (x6 : Int32) (x7 : Int32) (S : es_St) (H : Heap) (locs : List Loc) (ls : Array Slot), f_X2_copy_22 N fu n x4 x5 x6 x7 S = some (r, S') → va_P D vwCl ((es_wX a cI cZ N) S) H → va_S (es_AA a 35 s.heap.size) s.heap H locs → lv_has ls 8 [(0, .ref (a 4)), (4, .int x4), (5, .int x5), (6, .int x6), (7, .int x7)] → W p l e ({ frames := 2, cells := 0, slots := 0, locals := 44 } : Room) s m ([.ref (a 4), .int p1, .int p2, .int p3] : List Value).toArray below meth c H locs 0 0 (MQ below (es_Qi D (es_wX a cI cZ N) a 35 r S' s.heap.size) ([.ref (a 4), .int p1, .int p2, .int p3] : List Value).toArray s 0 0 (es_AA a 35 s.heap.size)) (F0 m 22 ls [])) := by
    intro n
    induction n with
    | zero => intro x4 x5 x6 x7 S H locs ls h; rw [f_X2_copy_22] at h; cases h
    | succ n ih =>
      intro x4 x5 x6 x7 S H locs ls h hP hS hl
      rw [f_X2_copy_22] at h
      refine lv_iload hx hb dX2_copy_22 (lv_at hl 4 rfl) ?_
      refine lv_iload hx hb dX2_copy_24 (lv_at hl 1 rfl) ?_
      refine lv_icmp_ge (tgt := 100) hx hb dX2_copy_26 (by decide) (fun c2 => ?_) (fun c2 => ?_)
      · replace h := es_if_t c2 h
        refine lv_iload hx hb dX2_copy_100 (lv_at hl 1 rfl) ?_
        exact es_iret C hr hlk h hP hS dX2_copy_102
      · replace h := es_if_f c2 h
        refine lv_aload_n hx hb dX2_copy_29 rfl (lv_at hl 0 rfl) ?_
        refine es_get C hP (es_wX_4 a cI cZ N S) rfl inlX2 (j := 2) (by decide) es_u6_4 rfl dX2_copy_30 ?_
        refine lv_iload hx hb dX2_copy_33 (lv_at hl 4 rfl) ?_
        refine lv_aload_n hx hb dX2_copy_35 rfl (lv_at hl 0 rfl) ?_
        refine es_get C hP (es_wX_4 a cI cZ N S) rfl inlX2 (j := 0) (by decide) es_u6_0 rfl dX2_copy_36 ?_
        refine lv_iload hx hb dX2_copy_39 (lv_at hl 2 rfl) ?_
        refine lv_iload hx hb dX2_copy_41 (lv_at hl 3 rfl) ?_
        replace h := es_bd_e h
        obtain ⟨r3, S4, g5, h⟩ := h
        refine es_callVi C (c_X0_keyAt l D cI cZ a N _ fu S S4 x5 x6 r3 g5) es_u25_2 es_mX0_keyAt ⟨rfl, rfl, by decide, by decide⟩ ⟨Nat.zero_le _, Nat.zero_le _⟩ hP hS (es_wX_1 a cI cZ N S) rfl rfl hl.1 rfl (Nat.le_of_ble_eq_true rfl) dX2_copy_43 (fun H locs _ _ hP hS => ?_)
        replace h := es_ck_e h
        obtain ⟨b6, h⟩ := h
        refine es_ast C hP hS (es_wX_20 a cI cZ N S4) (es_rX_20 a cI cZ N S4) (t0 := 0) rfl b6 dX2_copy_46 (fun S7 eS7 H locs hP hS => ?_)
        replace h := es_lt_e eS7 h
        refine lv_aload_n hx hb dX2_copy_47 rfl (lv_at hl 0 rfl) ?_
        refine es_get C hP (es_wX_4 a cI cZ N S7) rfl inlX2 (j := 3) (by decide) es_u6_5 rfl dX2_copy_48 ?_
        refine lv_iload hx hb dX2_copy_51 (lv_at hl 4 rfl) ?_
        refine lv_aload_n hx hb dX2_copy_53 rfl (lv_at hl 0 rfl) ?_
        refine es_get C hP (es_wX_4 a cI cZ N S7) rfl inlX2 (j := 0) (by decide) es_u6_0 rfl dX2_copy_54 ?_
        refine lv_iload hx hb dX2_copy_57 (lv_at hl 2 rfl) ?_
        refine lv_iload hx hb dX2_copy_59 (lv_at hl 3 rfl) ?_
        replace h := es_bd_e h
        obtain ⟨r8, S9, g10, h⟩ := h
        refine es_callVi C (c_X0_tagAt l D cI cZ a N _ fu S7 S9 x5 x6 r8 g10) es_u25_3 es_mX0_tagAt ⟨rfl, rfl, by decide, by decide⟩ ⟨Nat.zero_le _, Nat.zero_le _⟩ hP hS (es_wX_1 a cI cZ N S7) rfl rfl hl.1 rfl (Nat.le_of_ble_eq_true rfl) dX2_copy_61 (fun H locs _ _ hP hS => ?_)
        replace h := es_ck_e h
        obtain ⟨b11, h⟩ := h
        refine es_ast C hP hS (es_wX_21 a cI cZ N S9) (es_rX_21 a cI cZ N S9) (t0 := 0) rfl b11 dX2_copy_64 (fun S12 eS12 H locs hP hS => ?_)
        replace h := es_lt_e eS12 h
        obtain ⟨y13, ey13⟩ : ∃ y : Int32, y = x6 + 1 := ⟨_, rfl⟩
        refine lv_iinc (v := y13) (lv' := [(6, .int y13), (0, .ref (a 4)), (4, .int x4), (5, .int x5), (7, .int x7)]) hx hb dX2_copy_65 hl (k := 3) rfl (by rw [ey13]; rfl) (by decide) rfl (fun ls hl => ?_)
        replace h := es_lt_e ey13 h
        refine lv_iload hx hb dX2_copy_68 (lv_at hl 0 rfl) ?_
        refine lv_aload_n hx hb dX2_copy_70 rfl (lv_at hl 1 rfl) ?_
        refine es_get C hP (es_wX_4 a cI cZ N S12) rfl inlX2 (j := 0) (by decide) es_u6_0 rfl dX2_copy_71 ?_
        refine es_get C hP (es_wX_1 a cI cZ N S12) rfl inlX0 (j := 1) (by decide) es_u6_3 rfl dX2_copy_74 ?_
        refine lv_icmp_ne (tgt := 94) hx hb dX2_copy_77 (by decide) (fun c14 => ?_) (fun c14 => ?_)
        · replace h := es_if_t c14 h
          obtain ⟨y15, ey15⟩ : ∃ y : Int32, y = x7 + 1 := ⟨_, rfl⟩
          refine lv_iinc (v := y15) (lv' := [(7, .int y15), (6, .int y13), (0, .ref (a 4)), (4, .int x4), (5, .int x5)]) hx hb dX2_copy_94 hl (k := 4) rfl (by rw [ey15]; rfl) (by decide) rfl (fun ls hl => ?_)
          replace h := es_lt_e ey15 h
          refine lv_goto (tgt := 22) hx hb dX2_copy_97 (by decide) ?_
          exact ih x4 x5 y13 y15 S12 _ _ _ h hP hS (lv_sub hl [2, 3, 4, 1, 0] rfl)
        · replace h := es_if_f (fun q => q c14) h
          refine lv_iconst (v := 0) hx hb dX2_copy_80 (by decide) ?_
          refine lv_istore (lv' := [(6, .int 0), (0, .ref (a 4)), (4, .int x4), (5, .int x5), (7, .int x7)]) hx hb dX2_copy_81 hl (by decide) rfl (fun ls hl => ?_)
          refine lv_aload_n hx hb dX2_copy_83 rfl (lv_at hl 1 rfl) ?_
          refine es_get C hP (es_wX_4 a cI cZ N S12) rfl inlX2 (j := 0) (by decide) es_u6_0 rfl dX2_copy_84 ?_
          refine lv_iload hx hb dX2_copy_87 (lv_at hl 3 rfl) ?_
          replace h := es_bd_e h
          obtain ⟨r16, S17, g18, h⟩ := h
          refine es_callVi C (c_X0_nextOf l D cI cZ a N _ fu S12 S17 x5 r16 g18) es_u25_4 es_mX0_nextOf ⟨rfl, rfl, by decide, by decide⟩ ⟨Nat.zero_le _, Nat.zero_le _⟩ hP hS (es_wX_1 a cI cZ N S12) rfl rfl hl.1 rfl (Nat.le_of_ble_eq_true rfl) dX2_copy_89 (fun H locs _ _ hP hS => ?_)
          refine lv_istore (lv' := [(5, .int r16), (6, .int 0), (0, .ref (a 4)), (4, .int x4), (7, .int x7)]) hx hb dX2_copy_92 hl (by decide) rfl (fun ls hl => ?_)
          obtain ⟨y19, ey19⟩ : ∃ y : Int32, y = x7 + 1 := ⟨_, rfl⟩
          refine lv_iinc (v := y19) (lv' := [(7, .int y19), (5, .int r16), (6, .int 0), (0, .ref (a 4)), (4, .int x4)]) hx hb dX2_copy_94 hl (k := 4) rfl (by rw [ey19]; rfl) (by decide) rfl (fun ls hl => ?_)
          replace h := es_lt_e ey19 h
          refine lv_goto (tgt := 22) hx hb dX2_copy_97 (by decide) ?_
          exact ih x4 r16 0 y19 S17 _ _ _ h hP hS (lv_sub hl [3, 4, 1, 2, 0] rfl)
  unfold f_X2_copy at h
  refine lv_iload_n hx hb dX2_copy_0 rfl (lv_at hl 3 rfl) ?_
  refine lv_iload_n hx hb dX2_copy_1 rfl (lv_at hl 2 rfl) ?_
  refine lv_iadd hx hb dX2_copy_2 ?_
  refine lv_aload_n hx hb dX2_copy_3 rfl (lv_at hl 0 rfl) ?_
  refine es_get C hP (es_wX_4 a cI cZ N S) rfl inlX2 (j := 2) (by decide) es_u6_4 rfl dX2_copy_4 ?_
  refine es_len C hP (es_wX_20 a cI cZ N S) (t0 := 0) rfl dX2_copy_7 ?_
  refine va_mmin hx hb (C.2.2.1.trans hl.1.symm) hown (hts _ es_u25_1) (hts _ es_u1_20) (hts _ es_u1_21) (hts _ es_u1_22) (by decide) (Nat.le_of_ble_eq_true rfl) (Nat.zero_le _) (Nat.zero_le _) dX2_copy_8 ?_
  refine lv_topi (fun v1 ev1 => ?_)
  replace h := es_lt_e ev1 h
  refine lv_istore (lv' := [(4, .int v1), (0, .ref (a 4)), (1, .int p1), (2, .int p2), (3, .int p3)]) hx hb dX2_copy_11 hl (by decide) rfl (fun ls hl => ?_)
  refine lv_iload_n hx hb dX2_copy_13 rfl (lv_at hl 2 rfl) ?_
  refine lv_istore (lv' := [(5, .int p1), (4, .int v1), (0, .ref (a 4)), (1, .int p1), (2, .int p2), (3, .int p3)]) hx hb dX2_copy_14 hl (by decide) rfl (fun ls hl => ?_)
  refine lv_iconst (v := 0) hx hb dX2_copy_16 (by decide) ?_
  refine lv_istore (lv' := [(6, .int 0), (5, .int p1), (4, .int v1), (0, .ref (a 4)), (1, .int p1), (2, .int p2), (3, .int p3)]) hx hb dX2_copy_17 hl (by decide) rfl (fun ls hl => ?_)
  refine lv_iload_n hx hb dX2_copy_19 rfl (lv_at hl 6 rfl) ?_
  refine lv_istore (lv' := [(7, .int p3), (6, .int 0), (5, .int p1), (4, .int v1), (0, .ref (a 4)), (1, .int p1), (2, .int p2), (3, .int p3)]) hx hb dX2_copy_20 hl (by decide) rfl (fun ls hl => ?_)
  exact J22  fu v1 p1 0 p3 S _ _ _ h hP hS (lv_sub hl [4, 3, 2, 1, 0] rfl)

set_option maxHeartbeats 4000000 in
set_option maxRecDepth 100000 in
theorem c_X2_rewind (l : Launch) (D : va_G) (cI cZ : ClassId) (a : Nat → Nat) (N : Nat → Nat) (sz fu : Nat) (S S' : es_St) (r : Int32) (h : f_X2_rewind N fu S = some (r, S')) : Met l yX2_rewind (Cond.code yX2_rewind cX2_rewind 1 none :: wsL_law) ({ frames := 0, cells := 0, slots := 0, locals := 0 } : Room) (es_Pre [.ref (a 4)] D [(cI, .int), (cZ, .boolean)] (es_wX a cI cZ N) a 35 S sz) (es_Qv D (es_wX a cI cZ N) a 35 S' sz) 0 0 (es_AA a 35 sz) := by
  refine es_intro (Qc := es_Qv D (es_wX a cI cZ N) a 35 S') (by decide) (es_okX a cI cZ N) (Nat.le_of_ble_eq_true rfl) ?_
  intro p e s m below meth c C hr hlk hP ls hl
  have hx := C.1
  have hb := C.2.1
  have hown := C.2.2.2.1
  have hts := C.2.2.2.2.1
  have hS : va_S (es_AA a 35 s.heap.size) s.heap s.heap [] := va_S.rf
  replace hl : lv_has ls 1 [(0, .ref (a 4))] := hl
  unfold f_X2_rewind at h
  refine lv_aload_n hx hb dX2_rewind_0 rfl (lv_at hl 0 rfl) ?_
  refine lv_iconst (v := 0) hx hb dX2_rewind_1 (by decide) ?_
  refine es_put C hP hS (es_wX_4 a cI cZ N S) rfl inlX2 tyX2_ok nmX2 (j := 7) (by decide) es_u25_19 rfl (tyX2_ok 7 (by decide)) rfl rfl (by simp) (es_sX_19 a cI cZ N S 0) dX2_rewind_2 (fun S1 eS1 H locs hP hS => ?_)
  replace h := es_lt_e eS1 h
  refine lv_aload_n hx hb dX2_rewind_5 rfl (lv_at hl 0 rfl) ?_
  refine lv_aload_n hx hb dX2_rewind_6 rfl (lv_at hl 0 rfl) ?_
  refine es_get C hP (es_wX_4 a cI cZ N S1) rfl inlX2 (j := 4) (by decide) es_u24_19 rfl dX2_rewind_7 ?_
  refine es_put C hP hS (es_wX_4 a cI cZ N S1) rfl inlX2 tyX2_ok nmX2 (j := 9) (by decide) es_u25_21 rfl (tyX2_ok 9 (by decide)) rfl rfl (by simp) (es_sX_21 a cI cZ N S1 (S1.1 16)) dX2_rewind_10 (fun S2 eS2 H locs hP hS => ?_)
  replace h := es_lt_e eS2 h
  exact es_vret C hr hlk h hP hS dX2_rewind_13

set_option maxHeartbeats 4000000 in
set_option maxRecDepth 100000 in
theorem c_X2_groupEnd (l : Launch) (D : va_G) (cI cZ : ClassId) (a : Nat → Nat) (N : Nat → Nat) (sz fu : Nat) (S S' : es_St) (p1 : Int32) (p2 : Int32) (r : Int32) (h : f_X2_groupEnd N fu S p1 p2 = some (r, S')) : Met l yX2_groupEnd (Cond.code yX2_groupEnd cX2_groupEnd 4 (some .int) :: wsL_law) ({ frames := 0, cells := 0, slots := 0, locals := 0 } : Room) (es_Pre [.ref (a 4), .int p1, .int p2] D [(cI, .int), (cZ, .boolean)] (es_wX a cI cZ N) a 35 S sz) (es_Qi D (es_wX a cI cZ N) a 35 r S' sz) 0 0 (es_AA a 35 sz) := by
  refine es_intro (Qc := es_Qi D (es_wX a cI cZ N) a 35 r S') (by decide) (es_okX a cI cZ N) (Nat.le_of_ble_eq_true rfl) ?_
  intro p e s m below meth c C hr hlk hP ls hl
  have hx := C.1
  have hb := C.2.1
  have hown := C.2.2.2.1
  have hts := C.2.2.2.2.1
  have hS : va_S (es_AA a 35 s.heap.size) s.heap s.heap [] := va_S.rf
  replace hl : lv_has ls 4 [(0, .ref (a 4)), (1, .int p1), (2, .int p2)] := hl
  have J4 : ∀ n : Nat, (∀ (x1 : Int32) (x2 : Int32) (x3 : Int32) (S : es_St) (H : Heap) (locs : List Loc) (ls : Array Slot), f_X2_groupEnd_4 N fu n x1 x2 x3 S = some (r, S') → va_P D vwCl ((es_wX a cI cZ N) S) H → va_S (es_AA a 35 s.heap.size) s.heap H locs → lv_has ls 4 [(0, .ref (a 4)), (1, .int x1), (2, .int x2), (3, .int x3)] → W p l e ({ frames := 0, cells := 0, slots := 0, locals := 0 } : Room) s m ([.ref (a 4), .int p1, .int p2] : List Value).toArray below meth c H locs 0 0 (MQ below (es_Qi D (es_wX a cI cZ N) a 35 r S' s.heap.size) ([.ref (a 4), .int p1, .int p2] : List Value).toArray s 0 0 (es_AA a 35 s.heap.size)) (F0 m 4 ls [])) := by
    intro n
    induction n with
    | zero => intro x1 x2 x3 S H locs ls h; rw [f_X2_groupEnd_4] at h; cases h
    | succ n ih =>
      intro x1 x2 x3 S H locs ls h hP hS hl
      rw [f_X2_groupEnd_4] at h
      refine lv_iload_n hx hb dX2_groupEnd_4 rfl (lv_at hl 3 rfl) ?_
      refine lv_iload_n hx hb dX2_groupEnd_5 rfl (lv_at hl 2 rfl) ?_
      refine lv_icmp_ge (tgt := 32) hx hb dX2_groupEnd_6 (by decide) (fun c2 => ?_) (fun c2 => ?_)
      · replace h := es_if_t c2 h
        refine lv_iload_n hx hb dX2_groupEnd_32 rfl (lv_at hl 2 rfl) ?_
        exact es_iret C hr hlk h hP hS dX2_groupEnd_33
      · replace h := es_if_f c2 h
        refine lv_aload_n hx hb dX2_groupEnd_9 rfl (lv_at hl 0 rfl) ?_
        refine es_get C hP (es_wX_4 a cI cZ N S) rfl inlX2 (j := 2) (by decide) es_u6_4 rfl dX2_groupEnd_10 ?_
        refine lv_iload_n hx hb dX2_groupEnd_13 rfl (lv_at hl 3 rfl) ?_
        replace h := es_ck_e h
        obtain ⟨b3, h⟩ := h
        refine es_ald C hP (es_wX_20 a cI cZ N S) (t0 := 0) rfl b3 dX2_groupEnd_14 ?_
        refine lv_topi (fun v4 ev4 => ?_)
        replace h := es_lt_e ev4 h
        refine lv_aload_n hx hb dX2_groupEnd_15 rfl (lv_at hl 0 rfl) ?_
        refine es_get C hP (es_wX_4 a cI cZ N S) rfl inlX2 (j := 2) (by decide) es_u6_4 rfl dX2_groupEnd_16 ?_
        refine lv_iload_n hx hb dX2_groupEnd_19 rfl (lv_at hl 1 rfl) ?_
        replace h := es_ck_e h
        obtain ⟨b5, h⟩ := h
        refine es_ald C hP (es_wX_20 a cI cZ N S) (t0 := 0) rfl b5 dX2_groupEnd_20 ?_
        refine lv_topi (fun v6 ev6 => ?_)
        replace h := es_lt_e ev6 h
        refine lv_icmp_eq (tgt := 26) hx hb dX2_groupEnd_21 (by decide) (fun c7 => ?_) (fun c7 => ?_)
        · replace h := es_if_t c7 h
          obtain ⟨y8, ey8⟩ : ∃ y : Int32, y = x3 + 1 := ⟨_, rfl⟩
          refine lv_iinc (v := y8) (lv' := [(3, .int y8), (0, .ref (a 4)), (1, .int x1), (2, .int x2)]) hx hb dX2_groupEnd_26 hl (k := 3) rfl (by rw [ey8]; rfl) (by decide) rfl (fun ls hl => ?_)
          replace h := es_lt_e ey8 h
          refine lv_goto (tgt := 4) hx hb dX2_groupEnd_29 (by decide) ?_
          exact ih x1 x2 y8 S _ _ _ h hP hS (lv_sub hl [1, 2, 3, 0] rfl)
        · replace h := es_if_f c7 h
          refine lv_iload_n hx hb dX2_groupEnd_24 rfl (lv_at hl 3 rfl) ?_
          exact es_iret C hr hlk h hP hS dX2_groupEnd_25
  unfold f_X2_groupEnd at h
  refine lv_iload_n hx hb dX2_groupEnd_0 rfl (lv_at hl 1 rfl) ?_
  refine lv_iconst (v := 1) hx hb dX2_groupEnd_1 (by decide) ?_
  refine lv_iadd hx hb dX2_groupEnd_2 ?_
  refine lv_topi (fun y1 ey1 => ?_)
  replace h := es_lt_e ey1 h
  refine lv_istore_n (lv' := [(3, .int y1), (0, .ref (a 4)), (1, .int p1), (2, .int p2)]) hx hb dX2_groupEnd_3 rfl hl (by decide) rfl (fun ls hl => ?_)
  exact J4  fu p1 p2 y1 S _ _ _ h hP hS (lv_sub hl [1, 2, 3, 0] rfl)
