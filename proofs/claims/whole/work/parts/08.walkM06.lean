set_option maxHeartbeats 4000000 in
set_option maxRecDepth 100000 in
theorem c_X8_tag (l : Launch) (D : va_G) (cI cZ : ClassId) (a : Nat → Nat) (N : Nat → Nat) (sz fu : Nat) (S S' : es_St) (p1 : Int32) (p2 : Int32) (r : Int32) (h : f_X8_tag N fu S p1 p2 = some (r, S')) : Met l yX8_tag (Cond.code yX8_tag cX8_tag 3 (some .int) :: wsL_law) ({ frames := 2, cells := 0, slots := 0, locals := 42 } : Room) (es_Pre [.ref (a 0), .int p1, .int p2] D [(cI, .int), (cZ, .boolean)] (es_wM a cI cZ N) a 21 S sz) (es_Qi D (es_wM a cI cZ N) a 21 r S' sz) 0 0 (es_AA a 21 sz) := by
  refine es_intro (Qc := es_Qi D (es_wM a cI cZ N) a 21 r S') (by decide) (es_okM a cI cZ N) (Nat.le_of_ble_eq_true rfl) ?_
  intro p e s m below meth c C hr hlk hP ls hl
  have hx := C.1
  have hb := C.2.1
  have hown := C.2.2.2.1
  have hts := C.2.2.2.2.1
  have hS : va_S (es_AA a 21 s.heap.size) s.heap s.heap [] := va_S.rf
  replace hl : lv_has ls 3 [(0, .ref (a 0)), (1, .int p1), (2, .int p2)] := hl
  unfold f_X8_tag at h
  refine lv_iload_n hx hb dX8_tag_0 rfl (lv_at hl 1 rfl) ?_
  replace h := es_bd_e h
  obtain ⟨r1, S2, g3, h⟩ := h
  refine es_callSi C (c_X8_isFile l D cI cZ a N _ fu S S2 p1 r1 g3) es_u9_14 es_mX8_isFile ⟨rfl, rfl, by decide, by decide⟩ ⟨Nat.zero_le _, Nat.zero_le _⟩ hP hS rfl hl.1 rfl (Nat.le_of_ble_eq_true rfl) dX8_tag_1 (fun H locs _ _ hP hS => ?_)
  refine lv_if_eq (tgt := 38) hx hb dX8_tag_4 (by decide) (fun c4 => ?_) (fun c4 => ?_)
  · replace h := es_if_t c4 h
    refine lv_iconst (v := 0) hx hb dX8_tag_38 (by decide) ?_
    exact es_iret C hr hlk h hP hS dX8_tag_39
  · replace h := es_if_f c4 h
    refine lv_iload_n hx hb dX8_tag_7 rfl (lv_at hl 2 rfl) ?_
    refine lv_iconst (v := 0) hx hb dX8_tag_8 (by decide) ?_
    refine lv_aload_n hx hb dX8_tag_9 rfl (lv_at hl 0 rfl) ?_
    refine es_get C hP (es_wM_0 a cI cZ N S2) rfl inlX8 (j := 4) (by decide) es_u6_13 rfl dX8_tag_10 ?_
    refine lv_iload_n hx hb dX8_tag_13 rfl (lv_at hl 1 rfl) ?_
    replace h := es_ck_e h
    obtain ⟨b5, h⟩ := h
    refine es_ald C hP (es_wM_3 a cI cZ N S2) (t0 := 0) rfl b5 dX8_tag_14 ?_
    refine lv_topi (fun v6 ev6 => ?_)
    replace h := es_lt_e ev6 h
    refine lv_iconst (v := 1) hx hb dX8_tag_15 (by decide) ?_
    refine lv_isub hx hb dX8_tag_16 ?_
    replace h := es_bd_e h
    obtain ⟨r7, S8, g9, h⟩ := h
    refine es_callSi C (c_X8_in l D cI cZ a N _ fu S2 S8 p2 0 (v6 - 1) r7 g9) es_u9_17 es_mX8_in ⟨rfl, rfl, by decide, by decide⟩ ⟨Nat.zero_le _, Nat.zero_le _⟩ hP hS rfl hl.1 rfl (Nat.le_of_ble_eq_true rfl) dX8_tag_17 (fun H locs _ _ hP hS => ?_)
    refine lv_if_eq (tgt := 38) hx hb dX8_tag_20 (by decide) (fun c10 => ?_) (fun c10 => ?_)
    · replace h := es_if_t c10 h
      refine lv_iconst (v := 0) hx hb dX8_tag_38 (by decide) ?_
      exact es_iret C hr hlk h hP hS dX8_tag_39
    · replace h := es_if_f c10 h
      refine lv_aload_n hx hb dX8_tag_23 rfl (lv_at hl 0 rfl) ?_
      refine es_get C hP (es_wM_0 a cI cZ N S8) rfl inlX8 (j := 3) (by decide) es_u6_12 rfl dX8_tag_24 ?_
      refine lv_sipush (v := 8192) hx hb dX8_tag_27 (by decide) ?_
      refine lv_iload_n hx hb dX8_tag_30 rfl (lv_at hl 1 rfl) ?_
      refine lv_imul hx hb dX8_tag_31 ?_
      refine lv_iload_n hx hb dX8_tag_32 rfl (lv_at hl 2 rfl) ?_
      refine lv_iadd hx hb dX8_tag_33 ?_
      replace h := es_ck_e h
      obtain ⟨b11, h⟩ := h
      refine es_ald C hP (es_wM_2 a cI cZ N S8) (t0 := 0) rfl b11 dX8_tag_34 ?_
      refine lv_topi (fun v12 ev12 => ?_)
      replace h := es_lt_e ev12 h
      refine lv_goto (tgt := 39) hx hb dX8_tag_35 (by decide) ?_
      exact es_iret C hr hlk h hP hS dX8_tag_39

set_option maxHeartbeats 4000000 in
set_option maxRecDepth 100000 in
theorem c_X8_told (l : Launch) (D : va_G) (cI cZ : ClassId) (a : Nat → Nat) (N : Nat → Nat) (sz fu : Nat) (S S' : es_St) (p1 : Int32) (r : Int32) (h : f_X8_told N fu S p1 = some (r, S')) : Met l yX8_told (Cond.code yX8_told cX8_told 2 (some .int) :: wsL_law) ({ frames := 1, cells := 0, slots := 0, locals := 22 } : Room) (es_Pre [.ref (a 0), .int p1] D [(cI, .int), (cZ, .boolean)] (es_wM a cI cZ N) a 21 S sz) (es_Qi D (es_wM a cI cZ N) a 21 r S' sz) 0 0 (es_AA a 21 sz) := by
  refine es_intro (Qc := es_Qi D (es_wM a cI cZ N) a 21 r S') (by decide) (es_okM a cI cZ N) (Nat.le_of_ble_eq_true rfl) ?_
  intro p e s m below meth c C hr hlk hP ls hl
  have hx := C.1
  have hb := C.2.1
  have hown := C.2.2.2.1
  have hts := C.2.2.2.2.1
  have hS : va_S (es_AA a 21 s.heap.size) s.heap s.heap [] := va_S.rf
  replace hl : lv_has ls 2 [(0, .ref (a 0)), (1, .int p1)] := hl
  unfold f_X8_told at h
  refine lv_iload_n hx hb dX8_told_0 rfl (lv_at hl 1 rfl) ?_
  by_cases c1 : p1 = 6
  · replace h := es_if_t c1 h
    refine lv_tableIn (off := 27) (tgt := 28) hx hb dX8_told_1 (by rw [c1]; decide) (by rw [c1]; decide) (by rw [c1]; rfl) (by decide) ?_
    refine lv_aload_n hx hb dX8_told_28 rfl (lv_at hl 0 rfl) ?_
    refine es_get C hP (es_wM_0 a cI cZ N S) rfl inlX8 (j := 0) (by decide) es_u7_8 rfl dX8_told_29 ?_
    refine lv_aload_n hx hb dX8_told_32 rfl (lv_at hl 0 rfl) ?_
    refine es_get C hP (es_wM_0 a cI cZ N S) rfl inlX8 (j := 5) (by decide) es_u9_13 rfl dX8_told_33 ?_
    refine lv_isub hx hb dX8_told_36 ?_
    exact es_iret C hr hlk h hP hS dX8_told_37
  replace h := es_if_f c1 h
  by_cases c2 : p1 = 7
  · replace h := es_if_t c2 h
    refine lv_tableIn (off := 37) (tgt := 38) hx hb dX8_told_1 (by rw [c2]; decide) (by rw [c2]; decide) (by rw [c2]; rfl) (by decide) ?_
    refine lv_aload_n hx hb dX8_told_38 rfl (lv_at hl 0 rfl) ?_
    refine es_get C hP (es_wM_0 a cI cZ N S) rfl inlX8 (j := 0) (by decide) es_u7_8 rfl dX8_told_39 ?_
    exact es_iret C hr hlk h hP hS dX8_told_42
  replace h := es_if_f c2 h
  by_cases c3 : p1 = 8
  · replace h := es_if_t c3 h
    refine lv_tableIn (off := 42) (tgt := 43) hx hb dX8_told_1 (by rw [c3]; decide) (by rw [c3]; decide) (by rw [c3]; rfl) (by decide) ?_
    refine lv_aload_n hx hb dX8_told_43 rfl (lv_at hl 0 rfl) ?_
    refine es_get C hP (es_wM_0 a cI cZ N S) rfl inlX8 (j := 1) (by decide) es_u7_9 rfl dX8_told_44 ?_
    exact es_iret C hr hlk h hP hS dX8_told_47
  replace h := es_if_f c3 h
  refine lv_tableOut (tgt := 48) hx hb dX8_told_1 (es_tabout6_8 c1 c2 c3) (by decide) ?_
  refine lv_iload_n hx hb dX8_told_48 rfl (lv_at hl 1 rfl) ?_
  refine lv_iconst (v := 0) hx hb dX8_told_49 (by decide) ?_
  refine lv_iconst (v := 5) hx hb dX8_told_50 (by decide) ?_
  replace h := es_bd_e h
  obtain ⟨r4, S5, g6, h⟩ := h
  refine es_callSi C (c_X8_in l D cI cZ a N _ fu S S5 p1 0 5 r4 g6) es_u9_17 es_mX8_in ⟨rfl, rfl, by decide, by decide⟩ ⟨Nat.zero_le _, Nat.zero_le _⟩ hP hS rfl hl.1 rfl (Nat.le_of_ble_eq_true rfl) dX8_told_51 (fun H locs _ _ hP hS => ?_)
  refine lv_if_eq (tgt := 66) hx hb dX8_told_54 (by decide) (fun c7 => ?_) (fun c7 => ?_)
  · replace h := es_if_t c7 h
    refine lv_iconst (v := (-1)) hx hb dX8_told_66 (by decide) ?_
    exact es_iret C hr hlk h hP hS dX8_told_67
  · replace h := es_if_f c7 h
    refine lv_aload_n hx hb dX8_told_57 rfl (lv_at hl 0 rfl) ?_
    refine es_get C hP (es_wM_0 a cI cZ N S5) rfl inlX8 (j := 26) (by decide) es_u6_23 rfl dX8_told_58 ?_
    refine lv_iload_n hx hb dX8_told_61 rfl (lv_at hl 1 rfl) ?_
    replace h := es_ck_e h
    obtain ⟨b8, h⟩ := h
    refine es_ald C hP (es_wM_12 a cI cZ N S5) (t0 := 0) rfl b8 dX8_told_62 ?_
    refine lv_topi (fun v9 ev9 => ?_)
    replace h := es_lt_e ev9 h
    refine lv_goto (tgt := 67) hx hb dX8_told_63 (by decide) ?_
    exact es_iret C hr hlk h hP hS dX8_told_67

set_option maxHeartbeats 4000000 in
set_option maxRecDepth 100000 in
theorem c_X8_within (l : Launch) (D : va_G) (cI cZ : ClassId) (a : Nat → Nat) (N : Nat → Nat) (sz fu : Nat) (S S' : es_St) (p1 : Int32) (p2 : Int32) (p3 : Int32) (r : Int32) (h : f_X8_within N fu S p1 p2 p3 = some (r, S')) : Met l yX8_within (Cond.code yX8_within cX8_within 3 (some .int) :: wsL_law) ({ frames := 0, cells := 0, slots := 0, locals := 0 } : Room) (es_Pre [.int p1, .int p2, .int p3] D [(cI, .int), (cZ, .boolean)] (es_wM a cI cZ N) a 21 S sz) (es_Qi D (es_wM a cI cZ N) a 21 r S' sz) 0 0 (es_AA a 21 sz) := by
  refine es_intro (Qc := es_Qi D (es_wM a cI cZ N) a 21 r S') (by decide) (es_okM a cI cZ N) (Nat.le_of_ble_eq_true rfl) ?_
  intro p e s m below meth c C hr hlk hP ls hl
  have hx := C.1
  have hb := C.2.1
  have hown := C.2.2.2.1
  have hts := C.2.2.2.2.1
  have hS : va_S (es_AA a 21 s.heap.size) s.heap s.heap [] := va_S.rf
  replace hl : lv_has ls 3 [(0, .int p1), (1, .int p2), (2, .int p3)] := hl
  unfold f_X8_within at h
  refine lv_iload_n hx hb dX8_within_0 rfl (lv_at hl 0 rfl) ?_
  refine lv_iload_n hx hb dX8_within_1 rfl (lv_at hl 1 rfl) ?_
  refine lv_icmp_ge (tgt := 9) hx hb dX8_within_2 (by decide) (fun c1 => ?_) (fun c1 => ?_)
  · replace h := es_if_t c1 h
    refine lv_iload_n hx hb dX8_within_9 rfl (lv_at hl 0 rfl) ?_
    refine lv_iload_n hx hb dX8_within_10 rfl (lv_at hl 2 rfl) ?_
    refine lv_icmp_le (tgt := 18) hx hb dX8_within_11 (by decide) (fun c2 => ?_) (fun c2 => ?_)
    · replace h := es_if_t c2 h
      refine lv_iload_n hx hb dX8_within_18 rfl (lv_at hl 0 rfl) ?_
      exact es_iret C hr hlk h hP hS dX8_within_19
    · replace h := es_if_f c2 h
      refine lv_iload_n hx hb dX8_within_14 rfl (lv_at hl 2 rfl) ?_
      refine lv_goto (tgt := 19) hx hb dX8_within_15 (by decide) ?_
      exact es_iret C hr hlk h hP hS dX8_within_19
  · replace h := es_if_f c1 h
    refine lv_iload_n hx hb dX8_within_5 rfl (lv_at hl 1 rfl) ?_
    refine lv_goto (tgt := 19) hx hb dX8_within_6 (by decide) ?_
    exact es_iret C hr hlk h hP hS dX8_within_19
