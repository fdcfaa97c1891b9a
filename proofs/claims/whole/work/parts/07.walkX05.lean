set_option maxHeartbeats 4000000 in
set_option maxRecDepth 100000 in
theorem c_X3_enter (l : Launch) (D : va_G) (cI cZ : ClassId) (a : Nat → Nat) (N : Nat → Nat) (sz fu : Nat) (S S' : es_St) (p1 : Int32) (p2 : Int32) (p3 : Int32) (p4 : Int32) (p5 : Int32) (r : Int32) (h : f_X3_enter N fu S p1 p2 p3 p4 p5 = some (r, S')) : Met l yX3_enter (Cond.code yX3_enter cX3_enter 6 none :: wsL_law) ({ frames := 1, cells := 0, slots := 0, locals := 21 } : Room) (es_Pre [.ref (a 8), .int p1, .int p2, .int p3, .int p4, .int p5] D [(cI, .int), (cZ, .boolean)] (es_wX a cI cZ N) a 35 S sz) (es_Qv D (es_wX a cI cZ N) a 35 S' sz) 0 0 (es_AA a 35 sz) := by
  refine es_intro (Qc := es_Qv D (es_wX a cI cZ N) a 35 S') (by decide) (es_okX a cI cZ N) (Nat.le_of_ble_eq_true rfl) ?_
  intro p e s m below meth c C hr hlk hP ls hl
  have hx := C.1
  have hb := C.2.1
  have hown := C.2.2.2.1
  have hts := C.2.2.2.2.1
  have hS : va_S (es_AA a 35 s.heap.size) s.heap s.heap [] := va_S.rf
  replace hl : lv_has ls 6 [(0, .ref (a 8)), (1, .int p1), (2, .int p2), (3, .int p3), (4, .int p4), (5, .int p5)] := hl
  unfold f_X3_enter at h
  refine lv_aload_n hx hb dX3_enter_0 rfl (lv_at hl 0 rfl) ?_
  refine lv_iload_n hx hb dX3_enter_1 rfl (lv_at hl 1 rfl) ?_
  replace h := es_bd_e h
  obtain ⟨r1, S2, g3, h⟩ := h
  refine es_callVi C (c_X3_isLeaf l D cI cZ a N _ fu S S2 p1 r1 g3) es_u14_22 es_mX3_isLeaf ⟨rfl, rfl, by decide, by decide⟩ ⟨Nat.zero_le _, Nat.zero_le _⟩ hP hS (es_wX_8 a cI cZ N S) rfl rfl hl.1 rfl (Nat.le_of_ble_eq_true rfl) dX3_enter_2 (fun H locs _ _ hP hS => ?_)
  refine lv_if_eq (tgt := 38) hx hb dX3_enter_5 (by decide) (fun c4 => ?_) (fun c4 => ?_)
  · replace h := es_if_t c4 h
    exact es_vret C hr hlk h hP hS dX3_enter_38
  · replace h := es_if_f c4 h
    refine lv_aload_n hx hb dX3_enter_8 rfl (lv_at hl 0 rfl) ?_
    refine es_get C hP (es_wX_8 a cI cZ N S2) rfl inlX3 (j := 0) (by decide) es_u5_15 rfl dX3_enter_9 ?_
    refine lv_iload_n hx hb dX3_enter_12 rfl (lv_at hl 1 rfl) ?_
    refine lv_iload_n hx hb dX3_enter_13 rfl (lv_at hl 2 rfl) ?_
    replace h := es_ck_e h
    obtain ⟨b5, h⟩ := h
    refine es_ast C hP hS (es_wX_30 a cI cZ N S2) (es_rX_30 a cI cZ N S2) (t0 := 0) rfl b5 dX3_enter_14 (fun S6 eS6 H locs hP hS => ?_)
    replace h := es_lt_e eS6 h
    refine lv_aload_n hx hb dX3_enter_15 rfl (lv_at hl 0 rfl) ?_
    refine es_get C hP (es_wX_8 a cI cZ N S6) rfl inlX3 (j := 1) (by decide) es_u5_16 rfl dX3_enter_16 ?_
    refine lv_iload_n hx hb dX3_enter_19 rfl (lv_at hl 1 rfl) ?_
    refine lv_iload_n hx hb dX3_enter_20 rfl (lv_at hl 3 rfl) ?_
    replace h := es_ck_e h
    obtain ⟨b7, h⟩ := h
    refine es_ast C hP hS (es_wX_31 a cI cZ N S6) (es_rX_31 a cI cZ N S6) (t0 := 0) rfl b7 dX3_enter_21 (fun S8 eS8 H locs hP hS => ?_)
    replace h := es_lt_e eS8 h
    refine lv_aload_n hx hb dX3_enter_22 rfl (lv_at hl 0 rfl) ?_
    refine es_get C hP (es_wX_8 a cI cZ N S8) rfl inlX3 (j := 2) (by decide) es_u5_17 rfl dX3_enter_23 ?_
    refine lv_iload_n hx hb dX3_enter_26 rfl (lv_at hl 1 rfl) ?_
    refine lv_iload hx hb dX3_enter_27 (lv_at hl 4 rfl) ?_
    replace h := es_ck_e h
    obtain ⟨b9, h⟩ := h
    refine es_ast C hP hS (es_wX_32 a cI cZ N S8) (es_rX_32 a cI cZ N S8) (t0 := 0) rfl b9 dX3_enter_29 (fun S10 eS10 H locs hP hS => ?_)
    replace h := es_lt_e eS10 h
    refine lv_aload_n hx hb dX3_enter_30 rfl (lv_at hl 0 rfl) ?_
    refine es_get C hP (es_wX_8 a cI cZ N S10) rfl inlX3 (j := 3) (by decide) es_u5_18 rfl dX3_enter_31 ?_
    refine lv_iload_n hx hb dX3_enter_34 rfl (lv_at hl 1 rfl) ?_
    refine lv_iload hx hb dX3_enter_35 (lv_at hl 5 rfl) ?_
    replace h := es_ck_e h
    obtain ⟨b11, h⟩ := h
    refine es_ast C hP hS (es_wX_33 a cI cZ N S10) (es_rX_33 a cI cZ N S10) (t0 := 0) rfl b11 dX3_enter_37 (fun S12 eS12 H locs hP hS => ?_)
    replace h := es_lt_e eS12 h
    exact es_vret C hr hlk h hP hS dX3_enter_38

set_option maxHeartbeats 4000000 in
set_option maxRecDepth 100000 in
theorem c_X3_keyOf (l : Launch) (D : va_G) (cI cZ : ClassId) (a : Nat → Nat) (N : Nat → Nat) (sz fu : Nat) (S S' : es_St) (p1 : Int32) (r : Int32) (h : f_X3_keyOf N fu S p1 = some (r, S')) : Met l yX3_keyOf (Cond.code yX3_keyOf cX3_keyOf 2 (some .int) :: wsL_law) ({ frames := 1, cells := 0, slots := 0, locals := 21 } : Room) (es_Pre [.ref (a 8), .int p1] D [(cI, .int), (cZ, .boolean)] (es_wX a cI cZ N) a 35 S sz) (es_Qi D (es_wX a cI cZ N) a 35 r S' sz) 0 0 (es_AA a 35 sz) := by
  refine es_intro (Qc := es_Qi D (es_wX a cI cZ N) a 35 r S') (by decide) (es_okX a cI cZ N) (Nat.le_of_ble_eq_true rfl) ?_
  intro p e s m below meth c C hr hlk hP ls hl
  have hx := C.1
  have hb := C.2.1
  have hown := C.2.2.2.1
  have hts := C.2.2.2.2.1
  have hS : va_S (es_AA a 35 s.heap.size) s.heap s.heap [] := va_S.rf
  replace hl : lv_has ls 2 [(0, .ref (a 8)), (1, .int p1)] := hl
  unfold f_X3_keyOf at h
  refine lv_aload_n hx hb dX3_keyOf_0 rfl (lv_at hl 0 rfl) ?_
  refine lv_iload_n hx hb dX3_keyOf_1 rfl (lv_at hl 1 rfl) ?_
  replace h := es_bd_e h
  obtain ⟨r1, S2, g3, h⟩ := h
  refine es_callVi C (c_X3_isLeaf l D cI cZ a N _ fu S S2 p1 r1 g3) es_u14_22 es_mX3_isLeaf ⟨rfl, rfl, by decide, by decide⟩ ⟨Nat.zero_le _, Nat.zero_le _⟩ hP hS (es_wX_8 a cI cZ N S) rfl rfl hl.1 rfl (Nat.le_of_ble_eq_true rfl) dX3_keyOf_2 (fun H locs _ _ hP hS => ?_)
  refine lv_if_eq (tgt := 17) hx hb dX3_keyOf_5 (by decide) (fun c4 => ?_) (fun c4 => ?_)
  · replace h := es_if_t c4 h
    refine lv_iconst (v := 0) hx hb dX3_keyOf_17 (by decide) ?_
    exact es_iret C hr hlk h hP hS dX3_keyOf_18
  · replace h := es_if_f c4 h
    refine lv_aload_n hx hb dX3_keyOf_8 rfl (lv_at hl 0 rfl) ?_
    refine es_get C hP (es_wX_8 a cI cZ N S2) rfl inlX3 (j := 1) (by decide) es_u5_16 rfl dX3_keyOf_9 ?_
    refine lv_iload_n hx hb dX3_keyOf_12 rfl (lv_at hl 1 rfl) ?_
    replace h := es_ck_e h
    obtain ⟨b5, h⟩ := h
    refine es_ald C hP (es_wX_31 a cI cZ N S2) (t0 := 0) rfl b5 dX3_keyOf_13 ?_
    refine lv_topi (fun v6 ev6 => ?_)
    replace h := es_lt_e ev6 h
    refine lv_goto (tgt := 18) hx hb dX3_keyOf_14 (by decide) ?_
    exact es_iret C hr hlk h hP hS dX3_keyOf_18

set_option maxHeartbeats 4000000 in
set_option maxRecDepth 100000 in
theorem c_X3_retire (l : Launch) (D : va_G) (cI cZ : ClassId) (a : Nat → Nat) (N : Nat → Nat) (sz fu : Nat) (S S' : es_St) (p1 : Int32) (r : Int32) (h : f_X3_retire N fu S p1 = some (r, S')) : Met l yX3_retire (Cond.code yX3_retire cX3_retire 2 none :: wsL_law) ({ frames := 1, cells := 0, slots := 0, locals := 21 } : Room) (es_Pre [.ref (a 8), .int p1] D [(cI, .int), (cZ, .boolean)] (es_wX a cI cZ N) a 35 S sz) (es_Qv D (es_wX a cI cZ N) a 35 S' sz) 0 0 (es_AA a 35 sz) := by
  refine es_intro (Qc := es_Qv D (es_wX a cI cZ N) a 35 S') (by decide) (es_okX a cI cZ N) (Nat.le_of_ble_eq_true rfl) ?_
  intro p e s m below meth c C hr hlk hP ls hl
  have hx := C.1
  have hb := C.2.1
  have hown := C.2.2.2.1
  have hts := C.2.2.2.2.1
  have hS : va_S (es_AA a 35 s.heap.size) s.heap s.heap [] := va_S.rf
  replace hl : lv_has ls 2 [(0, .ref (a 8)), (1, .int p1)] := hl
  unfold f_X3_retire at h
  refine lv_aload_n hx hb dX3_retire_0 rfl (lv_at hl 0 rfl) ?_
  refine lv_iload_n hx hb dX3_retire_1 rfl (lv_at hl 1 rfl) ?_
  replace h := es_bd_e h
  obtain ⟨r1, S2, g3, h⟩ := h
  refine es_callVi C (c_X3_isLeaf l D cI cZ a N _ fu S S2 p1 r1 g3) es_u14_22 es_mX3_isLeaf ⟨rfl, rfl, by decide, by decide⟩ ⟨Nat.zero_le _, Nat.zero_le _⟩ hP hS (es_wX_8 a cI cZ N S) rfl rfl hl.1 rfl (Nat.le_of_ble_eq_true rfl) dX3_retire_2 (fun H locs _ _ hP hS => ?_)
  refine lv_if_eq (tgt := 16) hx hb dX3_retire_5 (by decide) (fun c4 => ?_) (fun c4 => ?_)
  · replace h := es_if_t c4 h
    exact es_vret C hr hlk h hP hS dX3_retire_16
  · replace h := es_if_f c4 h
    refine lv_aload_n hx hb dX3_retire_8 rfl (lv_at hl 0 rfl) ?_
    refine es_get C hP (es_wX_8 a cI cZ N S2) rfl inlX3 (j := 0) (by decide) es_u5_15 rfl dX3_retire_9 ?_
    refine lv_iload_n hx hb dX3_retire_12 rfl (lv_at hl 1 rfl) ?_
    refine lv_ldc (v := 2147483647) hx hb hown (hts _ es_u16_13) dX3_retire_13 ?_
    replace h := es_ck_e h
    obtain ⟨b5, h⟩ := h
    refine es_ast C hP hS (es_wX_30 a cI cZ N S2) (es_rX_30 a cI cZ N S2) (t0 := 0) rfl b5 dX3_retire_15 (fun S6 eS6 H locs hP hS => ?_)
    replace h := es_lt_e eS6 h
    exact es_vret C hr hlk h hP hS dX3_retire_16

set_option maxHeartbeats 4000000 in
set_option maxRecDepth 100000 in
theorem c_X3_roundOf (l : Launch) (D : va_G) (cI cZ : ClassId) (a : Nat → Nat) (N : Nat → Nat) (sz fu : Nat) (S S' : es_St) (p1 : Int32) (r : Int32) (h : f_X3_roundOf N fu S p1 = some (r, S')) : Met l yX3_roundOf (Cond.code yX3_roundOf cX3_roundOf 2 (some .int) :: wsL_law) ({ frames := 1, cells := 0, slots := 0, locals := 21 } : Room) (es_Pre [.ref (a 8), .int p1] D [(cI, .int), (cZ, .boolean)] (es_wX a cI cZ N) a 35 S sz) (es_Qi D (es_wX a cI cZ N) a 35 r S' sz) 0 0 (es_AA a 35 sz) := by
  refine es_intro (Qc := es_Qi D (es_wX a cI cZ N) a 35 r S') (by decide) (es_okX a cI cZ N) (Nat.le_of_ble_eq_true rfl) ?_
  intro p e s m below meth c C hr hlk hP ls hl
  have hx := C.1
  have hb := C.2.1
  have hown := C.2.2.2.1
  have hts := C.2.2.2.2.1
  have hS : va_S (es_AA a 35 s.heap.size) s.heap s.heap [] := va_S.rf
  replace hl : lv_has ls 2 [(0, .ref (a 8)), (1, .int p1)] := hl
  unfold f_X3_roundOf at h
  refine lv_aload_n hx hb dX3_roundOf_0 rfl (lv_at hl 0 rfl) ?_
  refine lv_iload_n hx hb dX3_roundOf_1 rfl (lv_at hl 1 rfl) ?_
  replace h := es_bd_e h
  obtain ⟨r1, S2, g3, h⟩ := h
  refine es_callVi C (c_X3_isLeaf l D cI cZ a N _ fu S S2 p1 r1 g3) es_u14_22 es_mX3_isLeaf ⟨rfl, rfl, by decide, by decide⟩ ⟨Nat.zero_le _, Nat.zero_le _⟩ hP hS (es_wX_8 a cI cZ N S) rfl rfl hl.1 rfl (Nat.le_of_ble_eq_true rfl) dX3_roundOf_2 (fun H locs _ _ hP hS => ?_)
  refine lv_if_eq (tgt := 17) hx hb dX3_roundOf_5 (by decide) (fun c4 => ?_) (fun c4 => ?_)
  · replace h := es_if_t c4 h
    refine lv_ldc (v := 2147483647) hx hb hown (hts _ es_u16_13) dX3_roundOf_17 ?_
    exact es_iret C hr hlk h hP hS dX3_roundOf_19
  · replace h := es_if_f c4 h
    refine lv_aload_n hx hb dX3_roundOf_8 rfl (lv_at hl 0 rfl) ?_
    refine es_get C hP (es_wX_8 a cI cZ N S2) rfl inlX3 (j := 0) (by decide) es_u5_15 rfl dX3_roundOf_9 ?_
    refine lv_iload_n hx hb dX3_roundOf_12 rfl (lv_at hl 1 rfl) ?_
    replace h := es_ck_e h
    obtain ⟨b5, h⟩ := h
    refine es_ald C hP (es_wX_30 a cI cZ N S2) (t0 := 0) rfl b5 dX3_roundOf_13 ?_
    refine lv_topi (fun v6 ev6 => ?_)
    replace h := es_lt_e ev6 h
    refine lv_goto (tgt := 19) hx hb dX3_roundOf_14 (by decide) ?_
    exact es_iret C hr hlk h hP hS dX3_roundOf_19

set_option maxHeartbeats 4000000 in
set_option maxRecDepth 100000 in
theorem c_X3_tagOf (l : Launch) (D : va_G) (cI cZ : ClassId) (a : Nat → Nat) (N : Nat → Nat) (sz fu : Nat) (S S' : es_St) (p1 : Int32) (r : Int32) (h : f_X3_tagOf N fu S p1 = some (r, S')) : Met l yX3_tagOf (Cond.code yX3_tagOf cX3_tagOf 2 (some .int) :: wsL_law) ({ frames := 1, cells := 0, slots := 0, locals := 21 } : Room) (es_Pre [.ref (a 8), .int p1] D [(cI, .int), (cZ, .boolean)] (es_wX a cI cZ N) a 35 S sz) (es_Qi D (es_wX a cI cZ N) a 35 r S' sz) 0 0 (es_AA a 35 sz) := by
  refine es_intro (Qc := es_Qi D (es_wX a cI cZ N) a 35 r S') (by decide) (es_okX a cI cZ N) (Nat.le_of_ble_eq_true rfl) ?_
  intro p e s m below meth c C hr hlk hP ls hl
  have hx := C.1
  have hb := C.2.1
  have hown := C.2.2.2.1
  have hts := C.2.2.2.2.1
  have hS : va_S (es_AA a 35 s.heap.size) s.heap s.heap [] := va_S.rf
  replace hl : lv_has ls 2 [(0, .ref (a 8)), (1, .int p1)] := hl
  unfold f_X3_tagOf at h
  refine lv_aload_n hx hb dX3_tagOf_0 rfl (lv_at hl 0 rfl) ?_
  refine lv_iload_n hx hb dX3_tagOf_1 rfl (lv_at hl 1 rfl) ?_
  replace h := es_bd_e h
  obtain ⟨r1, S2, g3, h⟩ := h
  refine es_callVi C (c_X3_isLeaf l D cI cZ a N _ fu S S2 p1 r1 g3) es_u14_22 es_mX3_isLeaf ⟨rfl, rfl, by decide, by decide⟩ ⟨Nat.zero_le _, Nat.zero_le _⟩ hP hS (es_wX_8 a cI cZ N S) rfl rfl hl.1 rfl (Nat.le_of_ble_eq_true rfl) dX3_tagOf_2 (fun H locs _ _ hP hS => ?_)
  refine lv_if_eq (tgt := 17) hx hb dX3_tagOf_5 (by decide) (fun c4 => ?_) (fun c4 => ?_)
  · replace h := es_if_t c4 h
    refine lv_iconst (v := 0) hx hb dX3_tagOf_17 (by decide) ?_
    exact es_iret C hr hlk h hP hS dX3_tagOf_18
  · replace h := es_if_f c4 h
    refine lv_aload_n hx hb dX3_tagOf_8 rfl (lv_at hl 0 rfl) ?_
    refine es_get C hP (es_wX_8 a cI cZ N S2) rfl inlX3 (j := 2) (by decide) es_u5_17 rfl dX3_tagOf_9 ?_
    refine lv_iload_n hx hb dX3_tagOf_12 rfl (lv_at hl 1 rfl) ?_
    replace h := es_ck_e h
    obtain ⟨b5, h⟩ := h
    refine es_ald C hP (es_wX_32 a cI cZ N S2) (t0 := 0) rfl b5 dX3_tagOf_13 ?_
    refine lv_topi (fun v6 ev6 => ?_)
    replace h := es_lt_e ev6 h
    refine lv_goto (tgt := 18) hx hb dX3_tagOf_14 (by decide) ?_
    exact es_iret C hr hlk h hP hS dX3_tagOf_18

set_option maxHeartbeats 4000000 in
set_option maxRecDepth 100000 in
theorem c_X3_winner (l : Launch) (D : va_G) (cI cZ : ClassId) (a : Nat → Nat) (N : Nat → Nat) (sz fu : Nat) (S S' : es_St) (r : Int32) (h : f_X3_winner N fu S = some (r, S')) : Met l yX3_winner (Cond.code yX3_winner cX3_winner 1 (some .int) :: wsL_law) ({ frames := 0, cells := 0, slots := 0, locals := 0 } : Room) (es_Pre [.ref (a 8)] D [(cI, .int), (cZ, .boolean)] (es_wX a cI cZ N) a 35 S sz) (es_Qi D (es_wX a cI cZ N) a 35 r S' sz) 0 0 (es_AA a 35 sz) := by
  refine es_intro (Qc := es_Qi D (es_wX a cI cZ N) a 35 r S') (by decide) (es_okX a cI cZ N) (Nat.le_of_ble_eq_true rfl) ?_
  intro p e s m below meth c C hr hlk hP ls hl
  have hx := C.1
  have hb := C.2.1
  have hown := C.2.2.2.1
  have hts := C.2.2.2.2.1
  have hS : va_S (es_AA a 35 s.heap.size) s.heap s.heap [] := va_S.rf
  replace hl : lv_has ls 1 [(0, .ref (a 8))] := hl
  unfold f_X3_winner at h
  refine lv_aload_n hx hb dX3_winner_0 rfl (lv_at hl 0 rfl) ?_
  refine es_get C hP (es_wX_8 a cI cZ N S) rfl inlX3 (j := 5) (by decide) es_u13_7 rfl dX3_winner_1 ?_
  refine lv_if_le (tgt := 16) hx hb dX3_winner_4 (by decide) (fun c1 => ?_) (fun c1 => ?_)
  · replace h := es_if_t c1 h
    refine lv_iconst (v := (-1)) hx hb dX3_winner_16 (by decide) ?_
    exact es_iret C hr hlk h hP hS dX3_winner_17
  · replace h := es_if_f c1 h
    refine lv_aload_n hx hb dX3_winner_7 rfl (lv_at hl 0 rfl) ?_
    refine es_get C hP (es_wX_8 a cI cZ N S) rfl inlX3 (j := 4) (by decide) es_u5_19 rfl dX3_winner_8 ?_
    refine lv_iconst (v := 0) hx hb dX3_winner_11 (by decide) ?_
    replace h := es_ck_e h
    obtain ⟨b2, h⟩ := h
    refine es_ald C hP (es_wX_34 a cI cZ N S) (t0 := 0) rfl b2 dX3_winner_12 ?_
    refine lv_topi (fun v3 ev3 => ?_)
    replace h := es_lt_e ev3 h
    refine lv_goto (tgt := 17) hx hb dX3_winner_13 (by decide) ?_
    exact es_iret C hr hlk h hP hS dX3_winner_17

set_option maxHeartbeats 4000000 in
set_option maxRecDepth 100000 in
theorem c_X5_room (l : Launch) (D : va_G) (cI cZ : ClassId) (a : Nat → Nat) (N : Nat → Nat) (sz fu : Nat) (S S' : es_St) (r : Int32) (h : f_X5_room N fu S = some (r, S')) : Met l yX5_room (Cond.code yX5_room cX5_room 1 (some .int) :: wsL_law) ({ frames := 0, cells := 0, slots := 0, locals := 0 } : Room) (es_Pre [.ref (a 3)] D [(cI, .int), (cZ, .boolean)] (es_wX a cI cZ N) a 35 S sz) (es_Qi D (es_wX a cI cZ N) a 35 r S' sz) 0 0 (es_AA a 35 sz) := by
  refine es_intro (Qc := es_Qi D (es_wX a cI cZ N) a 35 r S') (by decide) (es_okX a cI cZ N) (Nat.le_of_ble_eq_true rfl) ?_
  intro p e s m below meth c C hr hlk hP ls hl
  have hx := C.1
  have hb := C.2.1
  have hown := C.2.2.2.1
  have hts := C.2.2.2.2.1
  have hS : va_S (es_AA a 35 s.heap.size) s.heap s.heap [] := va_S.rf
  replace hl : lv_has ls 1 [(0, .ref (a 3))] := hl
  unfold f_X5_room at h
  refine lv_aload_n hx hb dX5_room_0 rfl (lv_at hl 0 rfl) ?_
  refine es_get C hP (es_wX_3 a cI cZ N S) rfl inlX5 (j := 9) (by decide) es_u11_23 rfl dX5_room_1 ?_
  refine lv_iconst (v := 2) hx hb dX5_room_4 (by decide) ?_
  refine lv_isub hx hb dX5_room_5 ?_
  refine lv_aload_n hx hb dX5_room_6 rfl (lv_at hl 0 rfl) ?_
  refine es_get C hP (es_wX_3 a cI cZ N S) rfl inlX5 (j := 2) (by decide) es_u4_7 rfl dX5_room_7 ?_
  refine es_get C hP (es_wX_1 a cI cZ N S) rfl inlX0 (j := 1) (by decide) es_u4_16 rfl dX5_room_10 ?_
  refine lv_imul hx hb dX5_room_13 ?_
  exact es_iret C hr hlk h hP hS dX5_room_14

set_option maxHeartbeats 4000000 in
set_option maxRecDepth 100000 in
theorem c_X5_takeInto (l : Launch) (D : va_G) (cI cZ : ClassId) (a : Nat → Nat) (N : Nat → Nat) (sz fu : Nat) (S S' : es_St) (p1 : Int32) (p2 : Int32) (p3 : Int32) (r : Int32) (h : f_X5_takeInto N fu S p1 p2 p3 = some (r, S')) : Met l yX5_takeInto (Cond.code yX5_takeInto cX5_takeInto 4 none :: wsL_law) ({ frames := 3, cells := 0, slots := 0, locals := 69 } : Room) (es_Pre [.ref (a 3), .int p1, .int p2, .int p3] D [(cI, .int), (cZ, .boolean)] (es_wX a cI cZ N) a 35 S sz) (es_Qv D (es_wX a cI cZ N) a 35 S' sz) 0 0 (es_AA a 35 sz) := by
  refine es_intro (Qc := es_Qv D (es_wX a cI cZ N) a 35 S') (by decide) (es_okX a cI cZ N) (Nat.le_of_ble_eq_true rfl) ?_
  intro p e s m below meth c C hr hlk hP ls hl
  have hx := C.1
  have hb := C.2.1
  have hown := C.2.2.2.1
  have hts := C.2.2.2.2.1
  have hS : va_S (es_AA a 35 s.heap.size) s.heap s.heap [] := va_S.rf
  replace hl : lv_has ls 4 [(0, .ref (a 3)), (1, .int p1), (2, .int p2), (3, .int p3)] := hl
  have J20 : (∀ (x1 : Int32) (x2 : Int32) (x3 : Int32) (S : es_St) (H : Heap) (locs : List Loc) (ls : Array Slot), f_X5_takeInto_20 N fu x1 x2 x3 S = some (r, S') → va_P D vwCl ((es_wX a cI cZ N) S) H → va_S (es_AA a 35 s.heap.size) s.heap H locs → lv_has ls 4 [(0, .ref (a 3)), (1, .int x1), (2, .int x2), (3, .int x3)] → W p l e ({ frames := 3, cells := 0, slots := 0, locals := 69 } : Room) s m ([.ref (a 3), .int p1, .int p2, .int p3] : List Value).toArray below meth c H locs 0 0 (MQ below (es_Qv D (es_wX a cI cZ N) a 35 S' s.heap.size) ([.ref (a 3), .int p1, .int p2, .int p3] : List Value).toArray s 0 0 (es_AA a 35 s.heap.size)) (F0 m 20 ls [])) := by
    intro x1 x2 x3 S H locs ls h hP hS hl
    unfold f_X5_takeInto_20 at h
    refine lv_aload_n hx hb dX5_takeInto_20 rfl (lv_at hl 0 rfl) ?_
    refine es_get C hP (es_wX_3 a cI cZ N S) rfl inlX5 (j := 5) (by decide) es_u4_18 rfl dX5_takeInto_21 ?_
    refine lv_iload_n hx hb dX5_takeInto_24 rfl (lv_at hl 1 rfl) ?_
    refine lv_iload_n hx hb dX5_takeInto_25 rfl (lv_at hl 2 rfl) ?_
    refine lv_aload_n hx hb dX5_takeInto_26 rfl (lv_at hl 0 rfl) ?_
    refine es_get C hP (es_wX_3 a cI cZ N S) rfl inlX5 (j := 4) (by decide) es_u4_12 rfl dX5_takeInto_27 ?_
    refine lv_iconst (v := 0) hx hb dX5_takeInto_30 (by decide) ?_
    replace h := es_bd_e h
    obtain ⟨r5, S6, g7, h⟩ := h
    refine es_callVi C (c_X1_keyOf l D cI cZ a N _ fu S S6 0 r5 g7) es_u14_9 es_mX1_keyOf ⟨rfl, rfl, by decide, by decide⟩ ⟨Nat.zero_le _, Nat.zero_le _⟩ hP hS (es_wX_7 a cI cZ N S) rfl rfl hl.1 rfl (Nat.le_of_ble_eq_true rfl) dX5_takeInto_31 (fun H locs _ _ hP hS => ?_)
    refine lv_aload_n hx hb dX5_takeInto_34 rfl (lv_at hl 0 rfl) ?_
    refine es_get C hP (es_wX_3 a cI cZ N S6) rfl inlX5 (j := 4) (by decide) es_u4_12 rfl dX5_takeInto_35 ?_
    refine lv_iconst (v := 0) hx hb dX5_takeInto_38 (by decide) ?_
    replace h := es_bd_e h
    obtain ⟨r8, S9, g10, h⟩ := h
    refine es_callVi C (c_X1_tagOf l D cI cZ a N _ fu S6 S9 0 r8 g10) es_u14_14 es_mX1_tagOf ⟨rfl, rfl, by decide, by decide⟩ ⟨Nat.zero_le _, Nat.zero_le _⟩ hP hS (es_wX_7 a cI cZ N S6) rfl rfl hl.1 rfl (Nat.le_of_ble_eq_true rfl) dX5_takeInto_39 (fun H locs _ _ hP hS => ?_)
    refine lv_iload_n hx hb dX5_takeInto_42 rfl (lv_at hl 3 rfl) ?_
    replace h := es_bd_e h
    obtain ⟨r11, S12, g13, h⟩ := h
    refine es_callVv C (c_X3_enter l D cI cZ a N _ fu S9 S12 x1 x2 r5 r8 x3 r11 g13) es_u14_18 es_mX3_enter ⟨rfl, rfl, by decide, by decide⟩ ⟨Nat.zero_le _, Nat.zero_le _⟩ hP hS (es_wX_8 a cI cZ N S9) rfl rfl hl.1 rfl (Nat.le_of_ble_eq_true rfl) dX5_takeInto_43 (fun H locs _ _ hP hS => ?_)
    refine lv_aload_n hx hb dX5_takeInto_46 rfl (lv_at hl 0 rfl) ?_
    refine es_get C hP (es_wX_3 a cI cZ N S12) rfl inlX5 (j := 4) (by decide) es_u4_12 rfl dX5_takeInto_47 ?_
    refine lv_iconst (v := 0) hx hb dX5_takeInto_50 (by decide) ?_
    replace h := es_bd_e h
    obtain ⟨r14, S15, g16, h⟩ := h
    refine es_callVv C (c_X1_step l D cI cZ a N _ fu S12 S15 0 r14 g16) es_u15_2 es_mX1_step ⟨rfl, rfl, by decide, by decide⟩ ⟨Nat.zero_le _, Nat.zero_le _⟩ hP hS (es_wX_7 a cI cZ N S12) rfl rfl hl.1 rfl (Nat.le_of_ble_eq_true rfl) dX5_takeInto_51 (fun H locs _ _ hP hS => ?_)
    exact es_vret C hr hlk h hP hS dX5_takeInto_54
  unfold f_X5_takeInto at h
  refine lv_aload_n hx hb dX5_takeInto_0 rfl (lv_at hl 0 rfl) ?_
  refine es_get C hP (es_wX_3 a cI cZ N S) rfl inlX5 (j := 4) (by decide) es_u4_12 rfl dX5_takeInto_1 ?_
  refine lv_iconst (v := 0) hx hb dX5_takeInto_4 (by decide) ?_
  replace h := es_bd_e h
  obtain ⟨r1, S2, g3, h⟩ := h
  refine es_callVi C (c_X1_isUsedUp l D cI cZ a N _ fu S S2 0 r1 g3) es_u13_13 es_mX1_isUsedUp ⟨rfl, rfl, by decide, by decide⟩ ⟨Nat.zero_le _, Nat.zero_le _⟩ hP hS (es_wX_7 a cI cZ N S) rfl rfl hl.1 rfl (Nat.le_of_ble_eq_true rfl) dX5_takeInto_5 (fun H locs _ _ hP hS => ?_)
  refine lv_if_eq (tgt := 20) hx hb dX5_takeInto_8 (by decide) (fun c4 => ?_) (fun c4 => ?_)
  · replace h := es_if_t c4 h
    exact J20  p1 p2 p3 S2 _ _ _ h hP hS (lv_sub hl [0, 1, 2, 3] rfl)
  · replace h := es_if_f c4 h
    refine lv_aload_n hx hb dX5_takeInto_11 rfl (lv_at hl 0 rfl) ?_
    refine es_get C hP (es_wX_3 a cI cZ N S2) rfl inlX5 (j := 4) (by decide) es_u4_12 rfl dX5_takeInto_12 ?_
    refine lv_iconst (v := 0) hx hb dX5_takeInto_15 (by decide) ?_
    replace h := es_bd_e h
    obtain ⟨r17, S18, g19, h⟩ := h
    refine es_callVi C (c_X1_readPage l D cI cZ a N _ fu S2 S18 0 r17 g19) es_u13_17 es_mX1_readPage ⟨rfl, rfl, by decide, by decide⟩ ⟨Nat.zero_le _, Nat.zero_le _⟩ hP hS (es_wX_7 a cI cZ N S2) rfl rfl hl.1 rfl (Nat.le_of_ble_eq_true rfl) dX5_takeInto_16 (fun H locs _ _ hP hS => ?_)
    refine lv_pop hx hb dX5_takeInto_19 rfl ?_
    exact J20  p1 p2 p3 S18 _ _ _ h hP hS (lv_sub hl [0, 1, 2, 3] rfl)

set_option maxHeartbeats 4000000 in
set_option maxRecDepth 100000 in
theorem c_X5_fillMemory (l : Launch) (D : va_G) (cI cZ : ClassId) (a : Nat → Nat) (N : Nat → Nat) (sz fu : Nat) (S S' : es_St) (p1 : Int32) (p2 : Int32) (r : Int32) (h : f_X5_fillMemory N fu S p1 p2 = some (r, S')) : Met l yX5_fillMemory (Cond.code yX5_fillMemory cX5_fillMemory 5 (some .int) :: wsL_law) ({ frames := 4, cells := 0, slots := 0, locals := 92 } : Room) (es_Pre [.ref (a 3), .int p1, .int p2] D [(cI, .int), (cZ, .boolean)] (es_wX a cI cZ N) a 35 S sz) (es_Qi D (es_wX a cI cZ N) a 35 r S' sz) 0 0 (es_AA a 35 sz) := by
  refine es_intro (Qc := es_Qi D (es_wX a cI cZ N) a 35 r S') (by decide) (es_okX a cI cZ N) (Nat.le_of_ble_eq_true rfl) ?_
  intro p e s m below meth c C hr hlk hP ls hl
  have hx := C.1
  have hb := C.2.1
  have hown := C.2.2.2.1
  have hts := C.2.2.2.2.1
  have hS : va_S (es_AA a 35 s.heap.size) s.heap s.heap [] := va_S.rf
  replace hl : lv_has ls 5 [(0, .ref (a 3)), (1, .int p1), (2, .int p2)] := hl
  have J34 : ∀ n : Nat, (∀ (x3 : Int32) (x4 : Int32) (S : es_St) (H : Heap) (locs : List Loc) (ls : Array Slot), f_X5_fillMemory_34 N fu n x3 x4 S = some (r, S') → va_P D vwCl ((es_wX a cI cZ N) S) H → va_S (es_AA a 35 s.heap.size) s.heap H locs → lv_has ls 5 [(0, .ref (a 3)), (3, .int x3), (4, .int x4)] → W p l e ({ frames := 4, cells := 0, slots := 0, locals := 92 } : Room) s m ([.ref (a 3), .int p1, .int p2] : List Value).toArray below meth c H locs 0 0 (MQ below (es_Qi D (es_wX a cI cZ N) a 35 r S' s.heap.size) ([.ref (a 3), .int p1, .int p2] : List Value).toArray s 0 0 (es_AA a 35 s.heap.size)) (F0 m 34 ls [])) := by
    intro n
    induction n with
    | zero => intro x3 x4 S H locs ls h; rw [f_X5_fillMemory_34] at h; cases h
    | succ n ih =>
      intro x3 x4 S H locs ls h hP hS hl
      rw [f_X5_fillMemory_34] at h
      refine lv_iload hx hb dX5_fillMemory_34 (lv_at hl 2 rfl) ?_
      refine lv_iload_n hx hb dX5_fillMemory_36 rfl (lv_at hl 1 rfl) ?_
      refine lv_icmp_ge (tgt := 55) hx hb dX5_fillMemory_37 (by decide) (fun c11 => ?_) (fun c11 => ?_)
      · replace h := es_if_t c11 h
        refine lv_iload_n hx hb dX5_fillMemory_55 rfl (lv_at hl 1 rfl) ?_
        exact es_iret C hr hlk h hP hS dX5_fillMemory_56
      · replace h := es_if_f c11 h
        refine lv_aload_n hx hb dX5_fillMemory_40 rfl (lv_at hl 0 rfl) ?_
        refine lv_iload hx hb dX5_fillMemory_41 (lv_at hl 2 rfl) ?_
        refine lv_iconst (v := 0) hx hb dX5_fillMemory_43 (by decide) ?_
        refine lv_iload hx hb dX5_fillMemory_44 (lv_at hl 2 rfl) ?_
        replace h := es_bd_e h
        obtain ⟨r12, S13, g14, h⟩ := h
        refine es_callVv C (c_X5_takeInto l D cI cZ a N _ fu S S13 x4 0 x4 r12 g14) es_u13_9 es_mX5_takeInto ⟨rfl, rfl, by decide, by decide⟩ ⟨Nat.zero_le _, Nat.zero_le _⟩ hP hS (es_wX_3 a cI cZ N S) rfl rfl hl.1 rfl (Nat.le_of_ble_eq_true rfl) dX5_fillMemory_46 (fun H locs _ _ hP hS => ?_)
        obtain ⟨y15, ey15⟩ : ∃ y : Int32, y = x4 + 1 := ⟨_, rfl⟩
        refine lv_iinc (v := y15) (lv' := [(4, .int y15), (0, .ref (a 3)), (3, .int x3)]) hx hb dX5_fillMemory_49 hl (k := 2) rfl (by rw [ey15]; rfl) (by decide) rfl (fun ls hl => ?_)
        replace h := es_lt_e ey15 h
        refine lv_goto (tgt := 34) hx hb dX5_fillMemory_52 (by decide) ?_
        exact ih x3 y15 S13 _ _ _ h hP hS (lv_sub hl [1, 2, 0] rfl)
  unfold f_X5_fillMemory at h
  refine lv_aload_n hx hb dX5_fillMemory_0 rfl (lv_at hl 0 rfl) ?_
  replace h := es_bd_e h
  obtain ⟨r1, S2, g3, h⟩ := h
  refine es_callVi C (c_X5_room l D cI cZ a N _ fu S S2 r1 g3) es_u12_18 es_mX5_room ⟨rfl, rfl, by decide, by decide⟩ ⟨Nat.zero_le _, Nat.zero_le _⟩ hP hS (es_wX_3 a cI cZ N S) rfl rfl hl.1 rfl (Nat.le_of_ble_eq_true rfl) dX5_fillMemory_1 (fun H locs _ _ hP hS => ?_)
  refine lv_iload_n hx hb dX5_fillMemory_4 rfl (lv_at hl 2 rfl) ?_
  refine va_mmin hx hb (C.2.2.1.trans hl.1.symm) hown (hts _ es_u12_17) (hts _ es_u1_20) (hts _ es_u1_21) (hts _ es_u1_22) (by decide) (Nat.le_of_ble_eq_true rfl) (Nat.zero_le _) (Nat.zero_le _) dX5_fillMemory_5 ?_
  refine lv_topi (fun v4 ev4 => ?_)
  replace h := es_lt_e ev4 h
  refine lv_istore_n (lv' := [(3, .int v4), (0, .ref (a 3)), (1, .int p1), (2, .int p2)]) hx hb dX5_fillMemory_8 rfl hl (by decide) rfl (fun ls hl => ?_)
  refine lv_aload_n hx hb dX5_fillMemory_9 rfl (lv_at hl 1 rfl) ?_
  refine es_get C hP (es_wX_3 a cI cZ N S2) rfl inlX5 (j := 4) (by decide) es_u4_12 rfl dX5_fillMemory_10 ?_
  refine lv_iconst (v := 0) hx hb dX5_fillMemory_13 (by decide) ?_
  refine lv_iload_n hx hb dX5_fillMemory_14 rfl (lv_at hl 2 rfl) ?_
  refine lv_iload_n hx hb dX5_fillMemory_15 rfl (lv_at hl 3 rfl) ?_
  replace h := es_bd_e h
  obtain ⟨r5, S6, g7, h⟩ := h
  refine es_callVv C (c_X1_open l D cI cZ a N _ fu S2 S6 0 p1 p2 r5 g7) es_u12_22 es_mX1_open ⟨rfl, rfl, by decide, by decide⟩ ⟨Nat.zero_le _, Nat.zero_le _⟩ hP hS (es_wX_7 a cI cZ N S2) rfl rfl hl.1 rfl (Nat.le_of_ble_eq_true rfl) dX5_fillMemory_16 (fun H locs _ _ hP hS => ?_)
  refine lv_aload_n hx hb dX5_fillMemory_19 rfl (lv_at hl 1 rfl) ?_
  refine es_get C hP (es_wX_3 a cI cZ N S6) rfl inlX5 (j := 5) (by decide) es_u4_18 rfl dX5_fillMemory_20 ?_
  refine lv_iload_n hx hb dX5_fillMemory_23 rfl (lv_at hl 0 rfl) ?_
  refine lv_aload_n hx hb dX5_fillMemory_24 rfl (lv_at hl 1 rfl) ?_
  refine es_get C hP (es_wX_3 a cI cZ N S6) rfl inlX5 (j := 10) (by decide) es_u12_0 rfl dX5_fillMemory_25 ?_
  replace h := es_bd_e h
  obtain ⟨r8, S9, g10, h⟩ := h
  refine es_callVv C (c_X3_begin l D cI cZ a N _ fu S6 S9 v4 (S6.1 14) r8 g10) es_u13_2 es_mX3_begin ⟨rfl, rfl, by decide, by decide⟩ ⟨Nat.zero_le _, Nat.zero_le _⟩ hP hS (es_wX_8 a cI cZ N S6) rfl rfl hl.1 rfl (Nat.le_of_ble_eq_true rfl) dX5_fillMemory_28 (fun H locs _ _ hP hS => ?_)
  refine lv_iconst (v := 0) hx hb dX5_fillMemory_31 (by decide) ?_
  refine lv_istore (lv' := [(4, .int 0), (3, .int v4), (0, .ref (a 3)), (1, .int p1), (2, .int p2)]) hx hb dX5_fillMemory_32 hl (by decide) rfl (fun ls hl => ?_)
  exact J34  fu v4 0 S9 _ _ _ h hP hS (lv_sub hl [2, 1, 0] rfl)

set_option maxHeartbeats 4000000 in
set_option maxRecDepth 100000 in
theorem c_X6_addRun (l : Launch) (D : va_G) (cI cZ : ClassId) (a : Nat → Nat) (N : Nat → Nat) (sz fu : Nat) (S S' : es_St) (p1 : Int32) (r : Int32) (h : f_X6_addRun N fu S p1 = some (r, S')) : Met l yX6_addRun (Cond.code yX6_addRun cX6_addRun 2 none :: wsL_law) ({ frames := 0, cells := 0, slots := 0, locals := 0 } : Room) (es_Pre [.ref (a 5), .int p1] D [(cI, .int), (cZ, .boolean)] (es_wX a cI cZ N) a 35 S sz) (es_Qv D (es_wX a cI cZ N) a 35 S' sz) 0 0 (es_AA a 35 sz) := by
  refine es_intro (Qc := es_Qv D (es_wX a cI cZ N) a 35 S') (by decide) (es_okX a cI cZ N) (Nat.le_of_ble_eq_true rfl) ?_
  intro p e s m below meth c C hr hlk hP ls hl
  have hx := C.1
  have hb := C.2.1
  have hown := C.2.2.2.1
  have hts := C.2.2.2.2.1
  have hS : va_S (es_AA a 35 s.heap.size) s.heap s.heap [] := va_S.rf
  replace hl : lv_has ls 2 [(0, .ref (a 5)), (1, .int p1)] := hl
  unfold f_X6_addRun at h
  refine lv_aload_n hx hb dX6_addRun_0 rfl (lv_at hl 0 rfl) ?_
  refine es_get C hP (es_wX_5 a cI cZ N S) rfl inlX6 (j := 2) (by decide) es_u11_16 rfl dX6_addRun_1 ?_
  refine lv_if_lt (tgt := 39) hx hb dX6_addRun_4 (by decide) (fun c1 => ?_) (fun c1 => ?_)
  · replace h := es_if_t c1 h
    exact es_vret C hr hlk h hP hS dX6_addRun_39
  · replace h := es_if_f c1 h
    refine lv_aload_n hx hb dX6_addRun_7 rfl (lv_at hl 0 rfl) ?_
    refine es_get C hP (es_wX_5 a cI cZ N S) rfl inlX6 (j := 2) (by decide) es_u11_16 rfl dX6_addRun_8 ?_
    refine lv_aload_n hx hb dX6_addRun_11 rfl (lv_at hl 0 rfl) ?_
    refine es_get C hP (es_wX_5 a cI cZ N S) rfl inlX6 (j := 5) (by decide) es_u3_4 rfl dX6_addRun_12 ?_
    refine es_len C hP (es_wX_22 a cI cZ N S) (t0 := 0) rfl dX6_addRun_15 ?_
    refine lv_icmp_ge (tgt := 39) hx hb dX6_addRun_16 (by decide) (fun c2 => ?_) (fun c2 => ?_)
    · replace h := es_if_t c2 h
      exact es_vret C hr hlk h hP hS dX6_addRun_39
    · replace h := es_if_f c2 h
      refine lv_aload_n hx hb dX6_addRun_19 rfl (lv_at hl 0 rfl) ?_
      refine es_get C hP (es_wX_5 a cI cZ N S) rfl inlX6 (j := 5) (by decide) es_u3_4 rfl dX6_addRun_20 ?_
      refine lv_aload_n hx hb dX6_addRun_23 rfl (lv_at hl 0 rfl) ?_
      refine es_get C hP (es_wX_5 a cI cZ N S) rfl inlX6 (j := 2) (by decide) es_u11_16 rfl dX6_addRun_24 ?_
      refine lv_iload_n hx hb dX6_addRun_27 rfl (lv_at hl 1 rfl) ?_
      replace h := es_ck_e h
      obtain ⟨b3, h⟩ := h
      refine es_ast C hP hS (es_wX_22 a cI cZ N S) (es_rX_22 a cI cZ N S) (t0 := 0) rfl b3 dX6_addRun_28 (fun S4 eS4 H locs hP hS => ?_)
      replace h := es_lt_e eS4 h
      refine lv_aload_n hx hb dX6_addRun_29 rfl (lv_at hl 0 rfl) ?_
      refine lv_dup hx hb dX6_addRun_30 rfl ?_
      refine es_get C hP (es_wX_5 a cI cZ N S4) rfl inlX6 (j := 2) (by decide) es_u11_16 rfl dX6_addRun_31 ?_
      refine lv_iconst (v := 1) hx hb dX6_addRun_34 (by decide) ?_
      refine lv_iadd hx hb dX6_addRun_35 ?_
      refine lv_topi (fun v5 ev5 => ?_)
      replace h := es_lt_e ev5 h
      refine es_put C hP hS (es_wX_5 a cI cZ N S4) rfl inlX6 tyX6_ok nmX6 (j := 2) (by decide) es_u11_16 rfl (tyX6_ok 2 (by decide)) rfl rfl (by simp) (es_sX_24 a cI cZ N S4 v5) dX6_addRun_36 (fun S6 eS6 H locs hP hS => ?_)
      replace h := es_lt_e eS6 h
      exact es_vret C hr hlk h hP hS dX6_addRun_39

set_option maxHeartbeats 4000000 in
set_option maxRecDepth 100000 in
theorem c_X5_keepRun (l : Launch) (D : va_G) (cI cZ : ClassId) (a : Nat → Nat) (N : Nat → Nat) (sz fu : Nat) (S S' : es_St) (p1 : Int32) (p2 : Int32) (p3 : Int32) (r : Int32) (h : f_X5_keepRun N fu S p1 p2 p3 = some (r, S')) : Met l yX5_keepRun (Cond.code yX5_keepRun cX5_keepRun 4 none :: wsL_law) ({ frames := 0, cells := 0, slots := 0, locals := 0 } : Room) (es_Pre [.ref (a 3), .int p1, .int p2, .int p3] D [(cI, .int), (cZ, .boolean)] (es_wX a cI cZ N) a 35 S sz) (es_Qv D (es_wX a cI cZ N) a 35 S' sz) 0 0 (es_AA a 35 sz) := by
  refine es_intro (Qc := es_Qv D (es_wX a cI cZ N) a 35 S') (by decide) (es_okX a cI cZ N) (Nat.le_of_ble_eq_true rfl) ?_
  intro p e s m below meth c C hr hlk hP ls hl
  have hx := C.1
  have hb := C.2.1
  have hown := C.2.2.2.1
  have hts := C.2.2.2.2.1
  have hS : va_S (es_AA a 35 s.heap.size) s.heap s.heap [] := va_S.rf
  replace hl : lv_has ls 4 [(0, .ref (a 3)), (1, .int p1), (2, .int p2), (3, .int p3)] := hl
  unfold f_X5_keepRun at h
  refine lv_iload_n hx hb dX5_keepRun_0 rfl (lv_at hl 1 rfl) ?_
  refine lv_if_lt (tgt := 27) hx hb dX5_keepRun_1 (by decide) (fun c1 => ?_) (fun c1 => ?_)
  · replace h := es_if_t c1 h
    exact es_vret C hr hlk h hP hS dX5_keepRun_27
  · replace h := es_if_f c1 h
    refine lv_iload_n hx hb dX5_keepRun_4 rfl (lv_at hl 1 rfl) ?_
    refine lv_aload_n hx hb dX5_keepRun_5 rfl (lv_at hl 0 rfl) ?_
    refine es_get C hP (es_wX_3 a cI cZ N S) rfl inlX5 (j := 6) (by decide) es_u4_20 rfl dX5_keepRun_6 ?_
    refine es_len C hP (es_wX_18 a cI cZ N S) (t0 := 0) rfl dX5_keepRun_9 ?_
    refine lv_icmp_ge (tgt := 27) hx hb dX5_keepRun_10 (by decide) (fun c2 => ?_) (fun c2 => ?_)
    · replace h := es_if_t c2 h
      exact es_vret C hr hlk h hP hS dX5_keepRun_27
    · replace h := es_if_f c2 h
      refine lv_aload_n hx hb dX5_keepRun_13 rfl (lv_at hl 0 rfl) ?_
      refine es_get C hP (es_wX_3 a cI cZ N S) rfl inlX5 (j := 6) (by decide) es_u4_20 rfl dX5_keepRun_14 ?_
      refine lv_iload_n hx hb dX5_keepRun_17 rfl (lv_at hl 1 rfl) ?_
      refine lv_iload_n hx hb dX5_keepRun_18 rfl (lv_at hl 2 rfl) ?_
      replace h := es_ck_e h
      obtain ⟨b3, h⟩ := h
      refine es_ast C hP hS (es_wX_18 a cI cZ N S) (es_rX_18 a cI cZ N S) (t0 := 0) rfl b3 dX5_keepRun_19 (fun S4 eS4 H locs hP hS => ?_)
      replace h := es_lt_e eS4 h
      refine lv_aload_n hx hb dX5_keepRun_20 rfl (lv_at hl 0 rfl) ?_
      refine es_get C hP (es_wX_3 a cI cZ N S4) rfl inlX5 (j := 7) (by decide) es_u4_21 rfl dX5_keepRun_21 ?_
      refine lv_iload_n hx hb dX5_keepRun_24 rfl (lv_at hl 1 rfl) ?_
      refine lv_iload_n hx hb dX5_keepRun_25 rfl (lv_at hl 3 rfl) ?_
      replace h := es_ck_e h
      obtain ⟨b5, h⟩ := h
      refine es_ast C hP hS (es_wX_19 a cI cZ N S4) (es_rX_19 a cI cZ N S4) (t0 := 0) rfl b5 dX5_keepRun_26 (fun S6 eS6 H locs hP hS => ?_)
      replace h := es_lt_e eS6 h
      exact es_vret C hr hlk h hP hS dX5_keepRun_27

set_option maxHeartbeats 4000000 in
set_option maxRecDepth 100000 in
theorem c_X5_endRun (l : Launch) (D : va_G) (cI cZ : ClassId) (a : Nat → Nat) (N : Nat → Nat) (sz fu : Nat) (S S' : es_St) (r : Int32) (h : f_X5_endRun N fu S = some (r, S')) : Met l yX5_endRun (Cond.code yX5_endRun cX5_endRun 1 (some .boolean) :: wsL_law) ({ frames := 4, cells := 0, slots := 0, locals := 88 } : Room) (es_Pre [.ref (a 3)] D [(cI, .int), (cZ, .boolean)] (es_wX a cI cZ N) a 35 S sz) (es_Qi D (es_wX a cI cZ N) a 35 r S' sz) 0 0 (es_AA a 35 sz) := by
  refine es_intro (Qc := es_Qi D (es_wX a cI cZ N) a 35 r S') (by decide) (es_okX a cI cZ N) (Nat.le_of_ble_eq_true rfl) ?_
  intro p e s m below meth c C hr hlk hP ls hl
  have hx := C.1
  have hb := C.2.1
  have hown := C.2.2.2.1
  have hts := C.2.2.2.2.1
  have hS : va_S (es_AA a 35 s.heap.size) s.heap s.heap [] := va_S.rf
  replace hl : lv_has ls 1 [(0, .ref (a 3))] := hl
  unfold f_X5_endRun at h
  refine lv_aload_n hx hb dX5_endRun_0 rfl (lv_at hl 0 rfl) ?_
  refine es_get C hP (es_wX_3 a cI cZ N S) rfl inlX5 (j := 3) (by decide) es_u4_8 rfl dX5_endRun_1 ?_
  replace h := es_bd_e h
  obtain ⟨r1, S2, g3, h⟩ := h
  refine es_callVi C (c_X4_close l D cI cZ a N _ fu S S2 r1 g3) es_u16_21 es_mX4_close ⟨rfl, rfl, by decide, by decide⟩ ⟨Nat.zero_le _, Nat.zero_le _⟩ hP hS (es_wX_2 a cI cZ N S) rfl rfl hl.1 rfl (Nat.le_of_ble_eq_true rfl) dX5_endRun_4 (fun H locs _ _ hP hS => ?_)
  refine lv_if_ne (tgt := 12) hx hb dX5_endRun_7 (by decide) (fun c4 => ?_) (fun c4 => ?_)
  · replace h := es_if_t c4 h
    refine lv_aload_n hx hb dX5_endRun_12 rfl (lv_at hl 0 rfl) ?_
    refine es_get C hP (es_wX_3 a cI cZ N S2) rfl inlX5 (j := 2) (by decide) es_u4_7 rfl dX5_endRun_13 ?_
    refine es_get C hP (es_wX_1 a cI cZ N S2) rfl inlX0 (j := 2) (by decide) es_u16_18 rfl dX5_endRun_16 ?_
    refine lv_aload_n hx hb dX5_endRun_19 rfl (lv_at hl 0 rfl) ?_
    refine es_get C hP (es_wX_3 a cI cZ N S2) rfl inlX5 (j := 3) (by decide) es_u4_8 rfl dX5_endRun_20 ?_
    refine es_get C hP (es_wX_2 a cI cZ N S2) rfl inlX4 (j := 1) (by decide) es_u16_19 rfl dX5_endRun_23 ?_
    replace h := es_bd_e h
    obtain ⟨r5, S6, g7, h⟩ := h
    refine es_callVv C (c_X6_addRun l D cI cZ a N _ fu S2 S6 (S2.1 4) r5 g7) es_u17_10 es_mX6_addRun ⟨rfl, rfl, by decide, by decide⟩ ⟨Nat.zero_le _, Nat.zero_le _⟩ hP hS (es_wX_5 a cI cZ N S2) rfl rfl hl.1 rfl (Nat.le_of_ble_eq_true rfl) dX5_endRun_26 (fun H locs _ _ hP hS => ?_)
    refine lv_aload_n hx hb dX5_endRun_29 rfl (lv_at hl 0 rfl) ?_
    refine lv_aload_n hx hb dX5_endRun_30 rfl (lv_at hl 0 rfl) ?_
    refine es_get C hP (es_wX_3 a cI cZ N S6) rfl inlX5 (j := 8) (by decide) es_u12_6 rfl dX5_endRun_31 ?_
    refine lv_aload_n hx hb dX5_endRun_34 rfl (lv_at hl 0 rfl) ?_
    refine es_get C hP (es_wX_3 a cI cZ N S6) rfl inlX5 (j := 3) (by decide) es_u4_8 rfl dX5_endRun_35 ?_
    refine es_get C hP (es_wX_2 a cI cZ N S6) rfl inlX4 (j := 0) (by decide) es_u16_20 rfl dX5_endRun_38 ?_
    refine lv_aload_n hx hb dX5_endRun_41 rfl (lv_at hl 0 rfl) ?_
    refine es_get C hP (es_wX_3 a cI cZ N S6) rfl inlX5 (j := 3) (by decide) es_u4_8 rfl dX5_endRun_42 ?_
    refine es_get C hP (es_wX_2 a cI cZ N S6) rfl inlX4 (j := 1) (by decide) es_u16_19 rfl dX5_endRun_45 ?_
    replace h := es_bd_e h
    obtain ⟨r8, S9, g10, h⟩ := h
    refine es_callVv C (c_X5_keepRun l D cI cZ a N _ fu S6 S9 (S6.1 12) (S6.1 3) (S6.1 4) r8 g10) es_u17_14 es_mX5_keepRun ⟨rfl, rfl, by decide, by decide⟩ ⟨Nat.zero_le _, Nat.zero_le _⟩ hP hS (es_wX_3 a cI cZ N S6) rfl rfl hl.1 rfl (Nat.le_of_ble_eq_true rfl) dX5_endRun_48 (fun H locs _ _ hP hS => ?_)
    refine lv_aload_n hx hb dX5_endRun_51 rfl (lv_at hl 0 rfl) ?_
    refine lv_dup hx hb dX5_endRun_52 rfl ?_
    refine es_get C hP (es_wX_3 a cI cZ N S9) rfl inlX5 (j := 8) (by decide) es_u12_6 rfl dX5_endRun_53 ?_
    refine lv_iconst (v := 1) hx hb dX5_endRun_56 (by decide) ?_
    refine lv_iadd hx hb dX5_endRun_57 ?_
    refine lv_topi (fun v11 ev11 => ?_)
    replace h := es_lt_e ev11 h
    refine es_put C hP hS (es_wX_3 a cI cZ N S9) rfl inlX5 tyX5_ok nmX5 (j := 8) (by decide) es_u12_6 rfl (tyX5_ok 8 (by decide)) rfl rfl (by simp) (es_sX_12 a cI cZ N S9 v11) dX5_endRun_58 (fun S12 eS12 H locs hP hS => ?_)
    replace h := es_lt_e eS12 h
    refine lv_iconst (v := 1) hx hb dX5_endRun_61 (by decide) ?_
    exact es_zret C hr hlk ⟨rfl, rfl⟩ h hP hS dX5_endRun_62
  · replace h := es_if_f (fun q => q c4) h
    refine lv_iconst (v := 0) hx hb dX5_endRun_10 (by decide) ?_
    exact es_zret C hr hlk ⟨rfl, rfl⟩ h hP hS dX5_endRun_11

set_option maxHeartbeats 4000000 in
set_option maxRecDepth 100000 in
theorem c_X5_replace (l : Launch) (D : va_G) (cI cZ : ClassId) (a : Nat → Nat) (N : Nat → Nat) (sz fu : Nat) (S S' : es_St) (p1 : Int32) (p2 : Int32) (p3 : Int32) (r : Int32) (h : f_X5_replace N fu S p1 p2 p3 = some (r, S')) : Met l yX5_replace (Cond.code yX5_replace cX5_replace 6 none :: wsL_law) ({ frames := 4, cells := 0, slots := 0, locals := 92 } : Room) (es_Pre [.ref (a 3), .int p1, .int p2, .int p3] D [(cI, .int), (cZ, .boolean)] (es_wX a cI cZ N) a 35 S sz) (es_Qv D (es_wX a cI cZ N) a 35 S' sz) 0 0 (es_AA a 35 sz) := by
  refine es_intro (Qc := es_Qv D (es_wX a cI cZ N) a 35 S') (by decide) (es_okX a cI cZ N) (Nat.le_of_ble_eq_true rfl) ?_
  intro p e s m below meth c C hr hlk hP ls hl
  have hx := C.1
  have hb := C.2.1
  have hown := C.2.2.2.1
  have hts := C.2.2.2.2.1
  have hS : va_S (es_AA a 35 s.heap.size) s.heap s.heap [] := va_S.rf
  replace hl : lv_has ls 6 [(0, .ref (a 3)), (1, .int p1), (2, .int p2), (3, .int p3)] := hl
  unfold f_X5_replace at h
  refine lv_aload_n hx hb dX5_replace_0 rfl (lv_at hl 0 rfl) ?_
  refine es_get C hP (es_wX_3 a cI cZ N S) rfl inlX5 (j := 4) (by decide) es_u4_12 rfl dX5_replace_1 ?_
  refine lv_iconst (v := 0) hx hb dX5_replace_4 (by decide) ?_
  replace h := es_bd_e h
  obtain ⟨r1, S2, g3, h⟩ := h
  refine es_callVi C (c_X1_hasMore l D cI cZ a N _ fu S S2 0 r1 g3) es_u18_14 es_mX1_hasMore ⟨rfl, rfl, by decide, by decide⟩ ⟨Nat.zero_le _, Nat.zero_le _⟩ hP hS (es_wX_7 a cI cZ N S) rfl rfl hl.1 rfl (Nat.le_of_ble_eq_true rfl) dX5_replace_5 (fun H locs _ _ hP hS => ?_)
  refine lv_if_ne (tgt := 20) hx hb dX5_replace_8 (by decide) (fun c4 => ?_) (fun c4 => ?_)
  · replace h := es_if_t c4 h
    refine lv_aload_n hx hb dX5_replace_20 rfl (lv_at hl 0 rfl) ?_
    refine lv_iload_n hx hb dX5_replace_21 rfl (lv_at hl 1 rfl) ?_
    refine lv_iload_n hx hb dX5_replace_22 rfl (lv_at hl 2 rfl) ?_
    refine lv_iload_n hx hb dX5_replace_23 rfl (lv_at hl 3 rfl) ?_
    replace h := es_bd_e h
    obtain ⟨r5, S6, g7, h⟩ := h
    refine es_callVv C (c_X5_takeInto l D cI cZ a N _ fu S2 S6 p1 p2 p3 r5 g7) es_u13_9 es_mX5_takeInto ⟨rfl, rfl, by decide, by decide⟩ ⟨Nat.zero_le _, Nat.zero_le _⟩ hP hS (es_wX_3 a cI cZ N S2) rfl rfl hl.1 rfl (Nat.le_of_ble_eq_true rfl) dX5_replace_24 (fun H locs _ _ hP hS => ?_)
    refine lv_aload_n hx hb dX5_replace_27 rfl (lv_at hl 0 rfl) ?_
    refine es_get C hP (es_wX_3 a cI cZ N S6) rfl inlX5 (j := 5) (by decide) es_u4_18 rfl dX5_replace_28 ?_
    refine lv_iload_n hx hb dX5_replace_31 rfl (lv_at hl 1 rfl) ?_
    replace h := es_bd_e h
    obtain ⟨r8, S9, g10, h⟩ := h
    refine es_callVi C (c_X3_keyOf l D cI cZ a N _ fu S6 S9 p1 r8 g10) es_u17_18 es_mX3_keyOf ⟨rfl, rfl, by decide, by decide⟩ ⟨Nat.zero_le _, Nat.zero_le _⟩ hP hS (es_wX_8 a cI cZ N S6) rfl rfl hl.1 rfl (Nat.le_of_ble_eq_true rfl) dX5_replace_32 (fun H locs _ _ hP hS => ?_)
    refine lv_istore (lv' := [(4, .int r8), (0, .ref (a 3)), (1, .int p1), (2, .int p2), (3, .int p3)]) hx hb dX5_replace_35 hl (by decide) rfl (fun ls hl => ?_)
    refine lv_aload_n hx hb dX5_replace_37 rfl (lv_at hl 1 rfl) ?_
    refine es_get C hP (es_wX_3 a cI cZ N S9) rfl inlX5 (j := 5) (by decide) es_u4_18 rfl dX5_replace_38 ?_
    refine lv_iload_n hx hb dX5_replace_41 rfl (lv_at hl 2 rfl) ?_
    replace h := es_bd_e h
    obtain ⟨r11, S12, g13, h⟩ := h
    refine es_callVi C (c_X3_tagOf l D cI cZ a N _ fu S9 S12 p1 r11 g13) es_u17_22 es_mX3_tagOf ⟨rfl, rfl, by decide, by decide⟩ ⟨Nat.zero_le _, Nat.zero_le _⟩ hP hS (es_wX_8 a cI cZ N S9) rfl rfl hl.1 rfl (Nat.le_of_ble_eq_true rfl) dX5_replace_42 (fun H locs _ _ hP hS => ?_)
    refine lv_istore (lv' := [(5, .int r11), (4, .int r8), (0, .ref (a 3)), (1, .int p1), (2, .int p2), (3, .int p3)]) hx hb dX5_replace_45 hl (by decide) rfl (fun ls hl => ?_)
    refine lv_aload_n hx hb dX5_replace_47 rfl (lv_at hl 2 rfl) ?_
    refine es_get C hP (es_wX_3 a cI cZ N S12) rfl inlX5 (j := 10) (by decide) es_u12_0 rfl dX5_replace_48 ?_
    refine lv_iload hx hb dX5_replace_51 (lv_at hl 1 rfl) ?_
    refine lv_iload hx hb dX5_replace_53 (lv_at hl 0 rfl) ?_
    refine lv_aload_n hx hb dX5_replace_55 rfl (lv_at hl 2 rfl) ?_
    refine es_get C hP (es_wX_3 a cI cZ N S12) rfl inlX5 (j := 3) (by decide) es_u4_8 rfl dX5_replace_56 ?_
    refine es_get C hP (es_wX_2 a cI cZ N S12) rfl inlX4 (j := 2) (by decide) es_u18_12 rfl dX5_replace_59 ?_
    refine lv_aload_n hx hb dX5_replace_62 rfl (lv_at hl 2 rfl) ?_
    refine es_get C hP (es_wX_3 a cI cZ N S12) rfl inlX5 (j := 3) (by decide) es_u4_8 rfl dX5_replace_63 ?_
    refine es_get C hP (es_wX_2 a cI cZ N S12) rfl inlX4 (j := 3) (by decide) es_u18_13 rfl dX5_replace_66 ?_
    replace h := es_bd_e h
    obtain ⟨r14, S15, g16, h⟩ := h
    refine es_callNi C (c_X7_inOrder l D cI cZ a N _ fu S12 S15 (S12.1 14) r8 r11 (S12.1 5) (S12.1 6) r14 g16) (C.2.2.2.2.2.2.2.2.2.2.2) es_mX7_inOrder ⟨rfl, rfl, by decide, by decide⟩ ⟨Nat.zero_le _, Nat.zero_le _⟩ hP hS rfl hl.1 rfl (Nat.le_of_ble_eq_true rfl) dX5_replace_69 (fun H locs _ _ hP hS => ?_)
    refine lv_if_ge (tgt := 91) hx hb dX5_replace_72 (by decide) (fun c17 => ?_) (fun c17 => ?_)
    · replace h := es_if_t c17 h
      exact es_vret C hr hlk h hP hS dX5_replace_91
    · replace h := es_if_f c17 h
      refine lv_aload_n hx hb dX5_replace_75 rfl (lv_at hl 2 rfl) ?_
      refine es_get C hP (es_wX_3 a cI cZ N S15) rfl inlX5 (j := 5) (by decide) es_u4_18 rfl dX5_replace_76 ?_
      refine lv_iload_n hx hb dX5_replace_79 rfl (lv_at hl 3 rfl) ?_
      refine lv_iload_n hx hb dX5_replace_80 rfl (lv_at hl 4 rfl) ?_
      refine lv_iconst (v := 1) hx hb dX5_replace_81 (by decide) ?_
      refine lv_iadd hx hb dX5_replace_82 ?_
      refine lv_iload hx hb dX5_replace_83 (lv_at hl 1 rfl) ?_
      refine lv_iload hx hb dX5_replace_85 (lv_at hl 0 rfl) ?_
      refine lv_iload_n hx hb dX5_replace_87 rfl (lv_at hl 5 rfl) ?_
      replace h := es_bd_e h
      obtain ⟨r18, S19, g20, h⟩ := h
      refine es_callVv C (c_X3_enter l D cI cZ a N _ fu S15 S19 p1 (p2 + 1) r8 r11 p3 r18 g20) es_u14_18 es_mX3_enter ⟨rfl, rfl, by decide, by decide⟩ ⟨Nat.zero_le _, Nat.zero_le _⟩ hP hS (es_wX_8 a cI cZ N S15) rfl rfl hl.1 rfl (Nat.le_of_ble_eq_true rfl) dX5_replace_88 (fun H locs _ _ hP hS => ?_)
      exact es_vret C hr hlk h hP hS dX5_replace_91
  · replace h := es_if_f (fun q => q c4) h
    refine lv_aload_n hx hb dX5_replace_11 rfl (lv_at hl 0 rfl) ?_
    refine es_get C hP (es_wX_3 a cI cZ N S2) rfl inlX5 (j := 5) (by decide) es_u4_18 rfl dX5_replace_12 ?_
    refine lv_iload_n hx hb dX5_replace_15 rfl (lv_at hl 1 rfl) ?_
    replace h := es_bd_e h
    obtain ⟨r21, S22, g23, h⟩ := h
    refine es_callVv C (c_X3_retire l D cI cZ a N _ fu S2 S22 p1 r21 g23) es_u18_18 es_mX3_retire ⟨rfl, rfl, by decide, by decide⟩ ⟨Nat.zero_le _, Nat.zero_le _⟩ hP hS (es_wX_8 a cI cZ N S2) rfl rfl hl.1 rfl (Nat.le_of_ble_eq_true rfl) dX5_replace_16 (fun H locs _ _ hP hS => ?_)
    exact es_vret C hr hlk h hP hS dX5_replace_19
