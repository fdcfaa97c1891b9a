set_option maxHeartbeats 4000000 in
set_option maxRecDepth 100000 in
theorem c_X8_in (l : Launch) (D : va_G) (cI cZ : ClassId) (a : Nat → Nat) (N : Nat → Nat) (sz fu : Nat) (S S' : es_St) (p1 : Int32) (p2 : Int32) (p3 : Int32) (r : Int32) (h : f_X8_in N fu S p1 p2 p3 = some (r, S')) : Met l yX8_in (Cond.code yX8_in cX8_in 3 (some .boolean) :: wsL_law) ({ frames := 0, cells := 0, slots := 0, locals := 0 } : Room) (es_Pre [.int p1, .int p2, .int p3] D [(cI, .int), (cZ, .boolean)] (es_wM a cI cZ N) a 21 S sz) (es_Qi D (es_wM a cI cZ N) a 21 r S' sz) 0 0 (es_AA a 21 sz) := by
  refine es_intro (Qc := es_Qi D (es_wM a cI cZ N) a 21 r S') (by decide) (es_okM a cI cZ N) (Nat.le_of_ble_eq_true rfl) ?_
  intro p e s m below meth c C hr hlk hP ls hl
  have hx := C.1
  have hb := C.2.1
  have hown := C.2.2.2.1
  have hts := C.2.2.2.2.1
  have hS : va_S (es_AA a 21 s.heap.size) s.heap s.heap [] := va_S.rf
  replace hl : lv_has ls 3 [(0, .int p1), (1, .int p2), (2, .int p3)] := hl
  unfold f_X8_in at h
  refine lv_iload_n hx hb dX8_in_0 rfl (lv_at hl 0 rfl) ?_
  refine lv_iload_n hx hb dX8_in_1 rfl (lv_at hl 1 rfl) ?_
  refine lv_icmp_lt (tgt := 14) hx hb dX8_in_2 (by decide) (fun c1 => ?_) (fun c1 => ?_)
  · replace h := es_if_t c1 h
    refine lv_iconst (v := 0) hx hb dX8_in_14 (by decide) ?_
    exact es_zret C hr hlk ⟨rfl, rfl⟩ h hP hS dX8_in_15
  · replace h := es_if_f c1 h
    refine lv_iload_n hx hb dX8_in_5 rfl (lv_at hl 0 rfl) ?_
    refine lv_iload_n hx hb dX8_in_6 rfl (lv_at hl 2 rfl) ?_
    refine lv_icmp_gt (tgt := 14) hx hb dX8_in_7 (by decide) (fun c2 => ?_) (fun c2 => ?_)
    · replace h := es_if_t c2 h
      refine lv_iconst (v := 0) hx hb dX8_in_14 (by decide) ?_
      exact es_zret C hr hlk ⟨rfl, rfl⟩ h hP hS dX8_in_15
    · replace h := es_if_f c2 h
      refine lv_iconst (v := 1) hx hb dX8_in_10 (by decide) ?_
      refine lv_goto (tgt := 15) hx hb dX8_in_11 (by decide) ?_
      exact es_zret C hr hlk ⟨rfl, rfl⟩ h hP hS dX8_in_15

set_option maxHeartbeats 4000000 in
set_option maxRecDepth 100000 in
theorem c_X8_isFile (l : Launch) (D : va_G) (cI cZ : ClassId) (a : Nat → Nat) (N : Nat → Nat) (sz fu : Nat) (S S' : es_St) (p1 : Int32) (r : Int32) (h : f_X8_isFile N fu S p1 = some (r, S')) : Met l yX8_isFile (Cond.code yX8_isFile cX8_isFile 1 (some .boolean) :: wsL_law) ({ frames := 1, cells := 0, slots := 0, locals := 22 } : Room) (es_Pre [.int p1] D [(cI, .int), (cZ, .boolean)] (es_wM a cI cZ N) a 21 S sz) (es_Qi D (es_wM a cI cZ N) a 21 r S' sz) 0 0 (es_AA a 21 sz) := by
  refine es_intro (Qc := es_Qi D (es_wM a cI cZ N) a 21 r S') (by decide) (es_okM a cI cZ N) (Nat.le_of_ble_eq_true rfl) ?_
  intro p e s m below meth c C hr hlk hP ls hl
  have hx := C.1
  have hb := C.2.1
  have hown := C.2.2.2.1
  have hts := C.2.2.2.2.1
  have hS : va_S (es_AA a 21 s.heap.size) s.heap s.heap [] := va_S.rf
  replace hl : lv_has ls 1 [(0, .int p1)] := hl
  unfold f_X8_isFile at h
  refine lv_iload_n hx hb dX8_isFile_0 rfl (lv_at hl 0 rfl) ?_
  refine lv_iconst (v := 0) hx hb dX8_isFile_1 (by decide) ?_
  refine lv_iconst (v := 5) hx hb dX8_isFile_2 (by decide) ?_
  replace h := es_bd_e h
  obtain ⟨r1, S2, g3, h⟩ := h
  refine es_callSi C (c_X8_in l D cI cZ a N _ fu S S2 p1 0 5 r1 g3) es_u9_17 es_mX8_in ⟨rfl, rfl, by decide, by decide⟩ ⟨Nat.zero_le _, Nat.zero_le _⟩ hP hS rfl hl.1 rfl (Nat.le_of_ble_eq_true rfl) dX8_isFile_3 (fun H locs _ _ hP hS => ?_)
  replace h := es_ck_e h
  obtain ⟨b4, h⟩ := h
  exact es_zret C hr hlk b4 h hP hS dX8_isFile_6

set_option maxHeartbeats 4000000 in
set_option maxRecDepth 100000 in
theorem c_X8_append (l : Launch) (D : va_G) (cI cZ : ClassId) (a : Nat → Nat) (N : Nat → Nat) (sz fu : Nat) (S S' : es_St) (p1 : Int32) (p2 : Int32) (p3 : Int32) (r : Int32) (h : f_X8_append N fu S p1 p2 p3 = some (r, S')) : Met l yX8_append (Cond.code yX8_append cX8_append 4 (some .int) :: wsL_law) ({ frames := 2, cells := 0, slots := 0, locals := 42 } : Room) (es_Pre [.ref (a 0), .int p1, .int p2, .int p3] D [(cI, .int), (cZ, .boolean)] (es_wM a cI cZ N) a 21 S sz) (es_Qi D (es_wM a cI cZ N) a 21 r S' sz) 0 0 (es_AA a 21 sz) := by
  refine es_intro (Qc := es_Qi D (es_wM a cI cZ N) a 21 r S') (by decide) (es_okM a cI cZ N) (Nat.le_of_ble_eq_true rfl) ?_
  intro p e s m below meth c C hr hlk hP ls hl
  have hx := C.1
  have hb := C.2.1
  have hown := C.2.2.2.1
  have hts := C.2.2.2.2.1
  have hS : va_S (es_AA a 21 s.heap.size) s.heap s.heap [] := va_S.rf
  replace hl : lv_has ls 4 [(0, .ref (a 0)), (1, .int p1), (2, .int p2), (3, .int p3)] := hl
  have J58 : (∀ (x1 : Int32) (x2 : Int32) (x3 : Int32) (t0 : Int32) (t1 : Int32) (S : es_St) (H : Heap) (locs : List Loc) (ls : Array Slot), f_X8_append_58 N fu x1 x2 x3 t0 t1 S = some (r, S') → va_P D vwCl ((es_wM a cI cZ N) S) H → va_S (es_AA a 21 s.heap.size) s.heap H locs → lv_has ls 4 [(0, .ref (a 0)), (1, .int x1), (2, .int x2), (3, .int x3)] → W p l e ({ frames := 2, cells := 0, slots := 0, locals := 42 } : Room) s m ([.ref (a 0), .int p1, .int p2, .int p3] : List Value).toArray below meth c H locs 0 0 (MQ below (es_Qi D (es_wM a cI cZ N) a 21 r S' s.heap.size) ([.ref (a 0), .int p1, .int p2, .int p3] : List Value).toArray s 0 0 (es_AA a 21 s.heap.size)) (F0 m 58 ls [.int t0, .int t1, .ref (a 0)])) := by
    intro x1 x2 x3 t0 t1 S H locs ls h hP hS hl
    unfold f_X8_append_58 at h
    refine lv_iadd hx hb dX8_append_58 ?_
    refine lv_topi (fun v13 ev13 => ?_)
    replace h := es_lt_e ev13 h
    refine es_put C hP hS (es_wM_0 a cI cZ N S) rfl inlX8 tyX8_ok nmX8 (j := 5) (by decide) es_u9_13 rfl (tyX8_ok 5 (by decide)) rfl rfl (by simp) (es_sM_2 a cI cZ N S v13) dX8_append_59 (fun S14 eS14 H locs hP hS => ?_)
    replace h := es_lt_e eS14 h
    refine lv_aload_n hx hb dX8_append_62 rfl (lv_at hl 0 rfl) ?_
    refine es_get C hP (es_wM_0 a cI cZ N S14) rfl inlX8 (j := 2) (by decide) es_u6_11 rfl dX8_append_63 ?_
    refine lv_sipush (v := 8192) hx hb dX8_append_66 (by decide) ?_
    refine lv_iload_n hx hb dX8_append_69 rfl (lv_at hl 1 rfl) ?_
    refine lv_imul hx hb dX8_append_70 ?_
    refine lv_aload_n hx hb dX8_append_71 rfl (lv_at hl 0 rfl) ?_
    refine es_get C hP (es_wM_0 a cI cZ N S14) rfl inlX8 (j := 4) (by decide) es_u6_13 rfl dX8_append_72 ?_
    refine lv_iload_n hx hb dX8_append_75 rfl (lv_at hl 1 rfl) ?_
    replace h := es_ck_e h
    obtain ⟨b15, h⟩ := h
    refine es_ald C hP (es_wM_3 a cI cZ N S14) (t0 := 0) rfl b15 dX8_append_76 ?_
    refine lv_topi (fun v16 ev16 => ?_)
    replace h := es_lt_e ev16 h
    refine lv_iadd hx hb dX8_append_77 ?_
    refine lv_iload_n hx hb dX8_append_78 rfl (lv_at hl 2 rfl) ?_
    replace h := es_ck_e h
    obtain ⟨b17, h⟩ := h
    refine es_ast C hP hS (es_wM_1 a cI cZ N S14) (es_rM_1 a cI cZ N S14) (t0 := 0) rfl b17 dX8_append_79 (fun S18 eS18 H locs hP hS => ?_)
    replace h := es_lt_e eS18 h
    refine lv_aload_n hx hb dX8_append_80 rfl (lv_at hl 0 rfl) ?_
    refine es_get C hP (es_wM_0 a cI cZ N S18) rfl inlX8 (j := 3) (by decide) es_u6_12 rfl dX8_append_81 ?_
    refine lv_sipush (v := 8192) hx hb dX8_append_84 (by decide) ?_
    refine lv_iload_n hx hb dX8_append_87 rfl (lv_at hl 1 rfl) ?_
    refine lv_imul hx hb dX8_append_88 ?_
    refine lv_aload_n hx hb dX8_append_89 rfl (lv_at hl 0 rfl) ?_
    refine es_get C hP (es_wM_0 a cI cZ N S18) rfl inlX8 (j := 4) (by decide) es_u6_13 rfl dX8_append_90 ?_
    refine lv_iload_n hx hb dX8_append_93 rfl (lv_at hl 1 rfl) ?_
    replace h := es_ck_e h
    obtain ⟨b19, h⟩ := h
    refine es_ald C hP (es_wM_3 a cI cZ N S18) (t0 := 0) rfl b19 dX8_append_94 ?_
    refine lv_topi (fun v20 ev20 => ?_)
    replace h := es_lt_e ev20 h
    refine lv_iadd hx hb dX8_append_95 ?_
    refine lv_iload_n hx hb dX8_append_96 rfl (lv_at hl 3 rfl) ?_
    replace h := es_ck_e h
    obtain ⟨b21, h⟩ := h
    refine es_ast C hP hS (es_wM_2 a cI cZ N S18) (es_rM_2 a cI cZ N S18) (t0 := 0) rfl b21 dX8_append_97 (fun S22 eS22 H locs hP hS => ?_)
    replace h := es_lt_e eS22 h
    refine lv_aload_n hx hb dX8_append_98 rfl (lv_at hl 0 rfl) ?_
    refine es_get C hP (es_wM_0 a cI cZ N S22) rfl inlX8 (j := 4) (by decide) es_u6_13 rfl dX8_append_99 ?_
    refine lv_iload_n hx hb dX8_append_102 rfl (lv_at hl 1 rfl) ?_
    refine lv_dup2_11 hx hb dX8_append_103 rfl rfl ?_
    replace h := es_ck_e h
    obtain ⟨b23, h⟩ := h
    refine es_ald C hP (es_wM_3 a cI cZ N S22) (t0 := 0) rfl b23 dX8_append_104 ?_
    refine lv_topi (fun v24 ev24 => ?_)
    replace h := es_lt_e ev24 h
    refine lv_iconst (v := 1) hx hb dX8_append_105 (by decide) ?_
    refine lv_iadd hx hb dX8_append_106 ?_
    refine lv_topi (fun v25 ev25 => ?_)
    replace h := es_lt_e ev25 h
    replace h := es_ck_e h
    obtain ⟨b26, h⟩ := h
    refine es_ast C hP hS (es_wM_3 a cI cZ N S22) (es_rM_3 a cI cZ N S22) (t0 := 0) rfl b26 dX8_append_107 (fun S27 eS27 H locs hP hS => ?_)
    replace h := es_lt_e eS27 h
    refine lv_aload_n hx hb dX8_append_108 rfl (lv_at hl 0 rfl) ?_
    refine es_get C hP (es_wM_0 a cI cZ N S27) rfl inlX8 (j := 4) (by decide) es_u6_13 rfl dX8_append_109 ?_
    refine lv_iload_n hx hb dX8_append_112 rfl (lv_at hl 1 rfl) ?_
    replace h := es_ck_e h
    obtain ⟨b28, h⟩ := h
    refine es_ald C hP (es_wM_3 a cI cZ N S27) (t0 := 0) rfl b28 dX8_append_113 ?_
    refine lv_topi (fun v29 ev29 => ?_)
    replace h := es_lt_e ev29 h
    exact es_iret C hr hlk h hP hS dX8_append_114
  have J34 : (∀ (x1 : Int32) (x2 : Int32) (x3 : Int32) (S : es_St) (H : Heap) (locs : List Loc) (ls : Array Slot), f_X8_append_34 N fu x1 x2 x3 S = some (r, S') → va_P D vwCl ((es_wM a cI cZ N) S) H → va_S (es_AA a 21 s.heap.size) s.heap H locs → lv_has ls 4 [(0, .ref (a 0)), (1, .int x1), (2, .int x2), (3, .int x3)] → W p l e ({ frames := 2, cells := 0, slots := 0, locals := 42 } : Room) s m ([.ref (a 0), .int p1, .int p2, .int p3] : List Value).toArray below meth c H locs 0 0 (MQ below (es_Qi D (es_wM a cI cZ N) a 21 r S' s.heap.size) ([.ref (a 0), .int p1, .int p2, .int p3] : List Value).toArray s 0 0 (es_AA a 21 s.heap.size)) (F0 m 34 ls [])) := by
    intro x1 x2 x3 S H locs ls h hP hS hl
    unfold f_X8_append_34 at h
    refine lv_aload_n hx hb dX8_append_34 rfl (lv_at hl 0 rfl) ?_
    refine lv_dup hx hb dX8_append_35 rfl ?_
    refine es_get C hP (es_wM_0 a cI cZ N S) rfl inlX8 (j := 5) (by decide) es_u9_13 rfl dX8_append_36 ?_
    refine lv_aload_n hx hb dX8_append_39 rfl (lv_at hl 0 rfl) ?_
    refine es_get C hP (es_wM_0 a cI cZ N S) rfl inlX8 (j := 4) (by decide) es_u6_13 rfl dX8_append_40 ?_
    refine lv_iload_n hx hb dX8_append_43 rfl (lv_at hl 1 rfl) ?_
    replace h := es_ck_e h
    obtain ⟨b9, h⟩ := h
    refine es_ald C hP (es_wM_3 a cI cZ N S) (t0 := 0) rfl b9 dX8_append_44 ?_
    refine lv_topi (fun v10 ev10 => ?_)
    replace h := es_lt_e ev10 h
    refine lv_aload_n hx hb dX8_append_45 rfl (lv_at hl 0 rfl) ?_
    refine es_get C hP (es_wM_0 a cI cZ N S) rfl inlX8 (j := 1) (by decide) es_u7_9 rfl dX8_append_46 ?_
    replace h := es_ck_e h
    obtain ⟨b11, h⟩ := h
    refine lv_irem hx hb dX8_append_49 b11 ?_
    refine lv_if_ne (tgt := 57) hx hb dX8_append_50 (by decide) (fun c12 => ?_) (fun c12 => ?_)
    · replace h := es_if_t c12 h
      refine lv_iconst (v := 0) hx hb dX8_append_57 (by decide) ?_
      exact J58  x1 x2 x3 0 (S.1 2) S _ _ _ h hP hS (lv_sub hl [0, 1, 2, 3] rfl)
    · replace h := es_if_f (fun q => q c12) h
      refine lv_iconst (v := 1) hx hb dX8_append_53 (by decide) ?_
      refine lv_goto (tgt := 58) hx hb dX8_append_54 (by decide) ?_
      exact J58  x1 x2 x3 1 (S.1 2) S _ _ _ h hP hS (lv_sub hl [0, 1, 2, 3] rfl)
  unfold f_X8_append at h
  refine lv_iload_n hx hb dX8_append_0 rfl (lv_at hl 1 rfl) ?_
  replace h := es_bd_e h
  obtain ⟨r1, S2, g3, h⟩ := h
  refine es_callSi C (c_X8_isFile l D cI cZ a N _ fu S S2 p1 r1 g3) es_u9_14 es_mX8_isFile ⟨rfl, rfl, by decide, by decide⟩ ⟨Nat.zero_le _, Nat.zero_le _⟩ hP hS rfl hl.1 rfl (Nat.le_of_ble_eq_true rfl) dX8_append_1 (fun H locs _ _ hP hS => ?_)
  refine lv_if_eq (tgt := 32) hx hb dX8_append_4 (by decide) (fun c4 => ?_) (fun c4 => ?_)
  · replace h := es_if_t c4 h
    refine lv_iconst (v := (-1)) hx hb dX8_append_32 (by decide) ?_
    exact es_iret C hr hlk h hP hS dX8_append_33
  · replace h := es_if_f c4 h
    refine lv_aload_n hx hb dX8_append_7 rfl (lv_at hl 0 rfl) ?_
    refine es_get C hP (es_wM_0 a cI cZ N S2) rfl inlX8 (j := 4) (by decide) es_u6_13 rfl dX8_append_8 ?_
    refine lv_iload_n hx hb dX8_append_11 rfl (lv_at hl 1 rfl) ?_
    replace h := es_ck_e h
    obtain ⟨b5, h⟩ := h
    refine es_ald C hP (es_wM_3 a cI cZ N S2) (t0 := 0) rfl b5 dX8_append_12 ?_
    refine lv_topi (fun v6 ev6 => ?_)
    replace h := es_lt_e ev6 h
    refine lv_aload_n hx hb dX8_append_13 rfl (lv_at hl 0 rfl) ?_
    refine es_get C hP (es_wM_0 a cI cZ N S2) rfl inlX8 (j := 1) (by decide) es_u7_9 rfl dX8_append_14 ?_
    replace h := es_ck_e h
    obtain ⟨b7, h⟩ := h
    refine lv_irem hx hb dX8_append_17 b7 ?_
    refine lv_if_ne (tgt := 34) hx hb dX8_append_18 (by decide) (fun c8 => ?_) (fun c8 => ?_)
    · replace h := es_if_t c8 h
      exact J34  p1 p2 p3 S2 _ _ _ h hP hS (lv_sub hl [0, 1, 2, 3] rfl)
    · replace h := es_if_f (fun q => q c8) h
      refine lv_aload_n hx hb dX8_append_21 rfl (lv_at hl 0 rfl) ?_
      refine es_get C hP (es_wM_0 a cI cZ N S2) rfl inlX8 (j := 5) (by decide) es_u9_13 rfl dX8_append_22 ?_
      refine lv_aload_n hx hb dX8_append_25 rfl (lv_at hl 0 rfl) ?_
      refine es_get C hP (es_wM_0 a cI cZ N S2) rfl inlX8 (j := 0) (by decide) es_u7_8 rfl dX8_append_26 ?_
      refine lv_icmp_ne (tgt := 34) hx hb dX8_append_29 (by decide) (fun c30 => ?_) (fun c30 => ?_)
      · replace h := es_if_t c30 h
        exact J34  p1 p2 p3 S2 _ _ _ h hP hS (lv_sub hl [0, 1, 2, 3] rfl)
      · replace h := es_if_f (fun q => q c30) h
        refine lv_iconst (v := (-1)) hx hb dX8_append_32 (by decide) ?_
        exact es_iret C hr hlk h hP hS dX8_append_33

set_option maxHeartbeats 4000000 in
set_option maxRecDepth 100000 in
theorem c_X8_begins (l : Launch) (D : va_G) (cI cZ : ClassId) (a : Nat → Nat) (N : Nat → Nat) (sz fu : Nat) (S S' : es_St) (r : Int32) (h : f_X8_begins N fu S = some (r, S')) : Met l yX8_begins (Cond.code yX8_begins cX8_begins 1 none :: wsL_law) ({ frames := 0, cells := 0, slots := 0, locals := 0 } : Room) (es_Pre [.ref (a 0)] D [(cI, .int), (cZ, .boolean)] (es_wM a cI cZ N) a 21 S sz) (es_Qv D (es_wM a cI cZ N) a 21 S' sz) 0 0 (es_AA a 21 sz) := by
  refine es_intro (Qc := es_Qv D (es_wM a cI cZ N) a 21 S') (by decide) (es_okM a cI cZ N) (Nat.le_of_ble_eq_true rfl) ?_
  intro p e s m below meth c C hr hlk hP ls hl
  have hx := C.1
  have hb := C.2.1
  have hown := C.2.2.2.1
  have hts := C.2.2.2.2.1
  have hS : va_S (es_AA a 21 s.heap.size) s.heap s.heap [] := va_S.rf
  replace hl : lv_has ls 1 [(0, .ref (a 0))] := hl
  unfold f_X8_begins at h
  refine lv_aload_n hx hb dX8_begins_0 rfl (lv_at hl 0 rfl) ?_
  refine lv_iconst (v := 0) hx hb dX8_begins_1 (by decide) ?_
  refine es_put C hP hS (es_wM_0 a cI cZ N S) rfl inlX8 tyX8_ok nmX8 (j := 6) (by decide) es_u21_5 rfl (tyX8_ok 6 (by decide)) rfl rfl (by simp) (es_sM_3 a cI cZ N S 0) dX8_begins_2 (fun S1 eS1 H locs hP hS => ?_)
  replace h := es_lt_e eS1 h
  refine lv_aload_n hx hb dX8_begins_5 rfl (lv_at hl 0 rfl) ?_
  refine lv_iconst (v := 0) hx hb dX8_begins_6 (by decide) ?_
  refine es_put C hP hS (es_wM_0 a cI cZ N S1) rfl inlX8 tyX8_ok nmX8 (j := 7) (by decide) es_u21_6 rfl (tyX8_ok 7 (by decide)) rfl rfl (by simp) (es_sM_4 a cI cZ N S1 0) dX8_begins_7 (fun S2 eS2 H locs hP hS => ?_)
  replace h := es_lt_e eS2 h
  refine lv_aload_n hx hb dX8_begins_10 rfl (lv_at hl 0 rfl) ?_
  refine lv_iconst (v := 0) hx hb dX8_begins_11 (by decide) ?_
  refine es_put C hP hS (es_wM_0 a cI cZ N S2) rfl inlX8 tyX8_ok nmX8 (j := 8) (by decide) es_u21_7 rfl (tyX8_ok 8 (by decide)) rfl rfl (by simp) (es_sM_5 a cI cZ N S2 0) dX8_begins_12 (fun S3 eS3 H locs hP hS => ?_)
  replace h := es_lt_e eS3 h
  refine lv_aload_n hx hb dX8_begins_15 rfl (lv_at hl 0 rfl) ?_
  refine lv_iconst (v := 0) hx hb dX8_begins_16 (by decide) ?_
  refine es_put C hP hS (es_wM_0 a cI cZ N S3) rfl inlX8 tyX8_ok nmX8 (j := 9) (by decide) es_u21_8 rfl (tyX8_ok 9 (by decide)) rfl rfl (by simp) (es_sM_6 a cI cZ N S3 0) dX8_begins_17 (fun S4 eS4 H locs hP hS => ?_)
  replace h := es_lt_e eS4 h
  refine lv_aload_n hx hb dX8_begins_20 rfl (lv_at hl 0 rfl) ?_
  refine lv_aload_n hx hb dX8_begins_21 rfl (lv_at hl 0 rfl) ?_
  refine es_get C hP (es_wM_0 a cI cZ N S4) rfl inlX8 (j := 5) (by decide) es_u9_13 rfl dX8_begins_22 ?_
  refine es_put C hP hS (es_wM_0 a cI cZ N S4) rfl inlX8 tyX8_ok nmX8 (j := 10) (by decide) es_u21_9 rfl (tyX8_ok 10 (by decide)) rfl rfl (by simp) (es_sM_7 a cI cZ N S4 (S4.1 2)) dX8_begins_25 (fun S5 eS5 H locs hP hS => ?_)
  replace h := es_lt_e eS5 h
  refine lv_aload_n hx hb dX8_begins_28 rfl (lv_at hl 0 rfl) ?_
  refine lv_iconst (v := 0) hx hb dX8_begins_29 (by decide) ?_
  refine es_put C hP hS (es_wM_0 a cI cZ N S5) rfl inlX8 tyX8_ok nmX8 (j := 11) (by decide) es_u20_23 rfl (tyX8_ok 11 (by decide)) rfl rfl (by simp) (es_sM_8 a cI cZ N S5 0) dX8_begins_30 (fun S6 eS6 H locs hP hS => ?_)
  replace h := es_lt_e eS6 h
  refine lv_aload_n hx hb dX8_begins_33 rfl (lv_at hl 0 rfl) ?_
  refine lv_iconst (v := 0) hx hb dX8_begins_34 (by decide) ?_
  refine es_put C hP hS (es_wM_0 a cI cZ N S6) rfl inlX8 tyX8_ok nmX8 (j := 18) (by decide) es_u21_10 rfl (tyX8_ok 18 (by decide)) rfl rfl (by simp) (es_sM_11 a cI cZ N S6 0) dX8_begins_35 (fun S7 eS7 H locs hP hS => ?_)
  replace h := es_lt_e eS7 h
  exact es_vret C hr hlk h hP hS dX8_begins_38

set_option maxHeartbeats 4000000 in
set_option maxRecDepth 100000 in
theorem c_X8_takes (l : Launch) (D : va_G) (cI cZ : ClassId) (a : Nat → Nat) (N : Nat → Nat) (sz fu : Nat) (S S' : es_St) (p1 : Int32) (p2 : Int32) (r : Int32) (h : f_X8_takes N fu S p1 p2 = some (r, S')) : Met l yX8_takes (Cond.code yX8_takes cX8_takes 3 none :: wsL_law) ({ frames := 0, cells := 0, slots := 0, locals := 0 } : Room) (es_Pre [.ref (a 0), .int p1, .int p2] D [(cI, .int), (cZ, .boolean)] (es_wM a cI cZ N) a 21 S sz) (es_Qv D (es_wM a cI cZ N) a 21 S' sz) 0 0 (es_AA a 21 sz) := by
  refine es_intro (Qc := es_Qv D (es_wM a cI cZ N) a 21 S') (by decide) (es_okM a cI cZ N) (Nat.le_of_ble_eq_true rfl) ?_
  intro p e s m below meth c C hr hlk hP ls hl
  have hx := C.1
  have hb := C.2.1
  have hown := C.2.2.2.1
  have hts := C.2.2.2.2.1
  have hS : va_S (es_AA a 21 s.heap.size) s.heap s.heap [] := va_S.rf
  replace hl : lv_has ls 3 [(0, .ref (a 0)), (1, .int p1), (2, .int p2)] := hl
  have J22 : (∀ (x1 : Int32) (x2 : Int32) (t0 : Int32) (t1 : Int32) (S : es_St) (H : Heap) (locs : List Loc) (ls : Array Slot), f_X8_takes_22 N fu x1 x2 t0 t1 S = some (r, S') → va_P D vwCl ((es_wM a cI cZ N) S) H → va_S (es_AA a 21 s.heap.size) s.heap H locs → lv_has ls 3 [(0, .ref (a 0)), (1, .int x1), (2, .int x2)] → W p l e ({ frames := 0, cells := 0, slots := 0, locals := 0 } : Room) s m ([.ref (a 0), .int p1, .int p2] : List Value).toArray below meth c H locs 0 0 (MQ below (es_Qv D (es_wM a cI cZ N) a 21 S' s.heap.size) ([.ref (a 0), .int p1, .int p2] : List Value).toArray s 0 0 (es_AA a 21 s.heap.size)) (F0 m 22 ls [.int t0, .int t1, .ref (a 0)])) := by
    intro x1 x2 t0 t1 S H locs ls h hP hS hl
    unfold f_X8_takes_22 at h
    refine lv_iadd hx hb dX8_takes_22 ?_
    refine lv_topi (fun v3 ev3 => ?_)
    replace h := es_lt_e ev3 h
    refine es_put C hP hS (es_wM_0 a cI cZ N S) rfl inlX8 tyX8_ok nmX8 (j := 6) (by decide) es_u21_5 rfl (tyX8_ok 6 (by decide)) rfl rfl (by simp) (es_sM_3 a cI cZ N S v3) dX8_takes_23 (fun S4 eS4 H locs hP hS => ?_)
    replace h := es_lt_e eS4 h
    refine lv_aload_n hx hb dX8_takes_26 rfl (lv_at hl 0 rfl) ?_
    refine es_get C hP (es_wM_0 a cI cZ N S4) rfl inlX8 (j := 19) (by decide) es_u6_18 rfl dX8_takes_27 ?_
    refine lv_aload_n hx hb dX8_takes_30 rfl (lv_at hl 0 rfl) ?_
    refine es_get C hP (es_wM_0 a cI cZ N S4) rfl inlX8 (j := 23) (by decide) es_u21_22 rfl dX8_takes_31 ?_
    refine lv_aload_n hx hb dX8_takes_34 rfl (lv_at hl 0 rfl) ?_
    refine es_get C hP (es_wM_0 a cI cZ N S4) rfl inlX8 (j := 2) (by decide) es_u6_11 rfl dX8_takes_35 ?_
    refine lv_sipush (v := 8192) hx hb dX8_takes_38 (by decide) ?_
    refine lv_iload_n hx hb dX8_takes_41 rfl (lv_at hl 1 rfl) ?_
    refine lv_imul hx hb dX8_takes_42 ?_
    refine lv_aload_n hx hb dX8_takes_43 rfl (lv_at hl 0 rfl) ?_
    refine es_get C hP (es_wM_0 a cI cZ N S4) rfl inlX8 (j := 29) (by decide) es_u21_23 rfl dX8_takes_44 ?_
    refine lv_iadd hx hb dX8_takes_47 ?_
    replace h := es_ck_e h
    obtain ⟨b5, h⟩ := h
    refine es_ald C hP (es_wM_1 a cI cZ N S4) (t0 := 0) rfl b5 dX8_takes_48 ?_
    refine lv_topi (fun v6 ev6 => ?_)
    replace h := es_lt_e ev6 h
    replace h := es_ck_e h
    obtain ⟨b7, h⟩ := h
    refine es_ast C hP hS (es_wM_8 a cI cZ N S4) (es_rM_8 a cI cZ N S4) (t0 := 0) rfl b7 dX8_takes_49 (fun S8 eS8 H locs hP hS => ?_)
    replace h := es_lt_e eS8 h
    refine lv_aload_n hx hb dX8_takes_50 rfl (lv_at hl 0 rfl) ?_
    refine es_get C hP (es_wM_0 a cI cZ N S8) rfl inlX8 (j := 20) (by decide) es_u6_19 rfl dX8_takes_51 ?_
    refine lv_aload_n hx hb dX8_takes_54 rfl (lv_at hl 0 rfl) ?_
    refine es_get C hP (es_wM_0 a cI cZ N S8) rfl inlX8 (j := 23) (by decide) es_u21_22 rfl dX8_takes_55 ?_
    refine lv_aload_n hx hb dX8_takes_58 rfl (lv_at hl 0 rfl) ?_
    refine es_get C hP (es_wM_0 a cI cZ N S8) rfl inlX8 (j := 3) (by decide) es_u6_12 rfl dX8_takes_59 ?_
    refine lv_sipush (v := 8192) hx hb dX8_takes_62 (by decide) ?_
    refine lv_iload_n hx hb dX8_takes_65 rfl (lv_at hl 1 rfl) ?_
    refine lv_imul hx hb dX8_takes_66 ?_
    refine lv_aload_n hx hb dX8_takes_67 rfl (lv_at hl 0 rfl) ?_
    refine es_get C hP (es_wM_0 a cI cZ N S8) rfl inlX8 (j := 29) (by decide) es_u21_23 rfl dX8_takes_68 ?_
    refine lv_iadd hx hb dX8_takes_71 ?_
    replace h := es_ck_e h
    obtain ⟨b9, h⟩ := h
    refine es_ald C hP (es_wM_2 a cI cZ N S8) (t0 := 0) rfl b9 dX8_takes_72 ?_
    refine lv_topi (fun v10 ev10 => ?_)
    replace h := es_lt_e ev10 h
    replace h := es_ck_e h
    obtain ⟨b11, h⟩ := h
    refine es_ast C hP hS (es_wM_9 a cI cZ N S8) (es_rM_9 a cI cZ N S8) (t0 := 0) rfl b11 dX8_takes_73 (fun S12 eS12 H locs hP hS => ?_)
    replace h := es_lt_e eS12 h
    refine lv_aload_n hx hb dX8_takes_74 rfl (lv_at hl 0 rfl) ?_
    refine es_get C hP (es_wM_0 a cI cZ N S12) rfl inlX8 (j := 21) (by decide) es_u6_20 rfl dX8_takes_75 ?_
    refine lv_aload_n hx hb dX8_takes_78 rfl (lv_at hl 0 rfl) ?_
    refine es_get C hP (es_wM_0 a cI cZ N S12) rfl inlX8 (j := 23) (by decide) es_u21_22 rfl dX8_takes_79 ?_
    refine lv_aload_n hx hb dX8_takes_82 rfl (lv_at hl 0 rfl) ?_
    refine es_get C hP (es_wM_0 a cI cZ N S12) rfl inlX8 (j := 29) (by decide) es_u21_23 rfl dX8_takes_83 ?_
    replace h := es_ck_e h
    obtain ⟨b13, h⟩ := h
    refine es_ast C hP hS (es_wM_10 a cI cZ N S12) (es_rM_10 a cI cZ N S12) (t0 := 0) rfl b13 dX8_takes_86 (fun S14 eS14 H locs hP hS => ?_)
    replace h := es_lt_e eS14 h
    refine lv_aload_n hx hb dX8_takes_87 rfl (lv_at hl 0 rfl) ?_
    refine es_get C hP (es_wM_0 a cI cZ N S14) rfl inlX8 (j := 22) (by decide) es_u6_22 rfl dX8_takes_88 ?_
    refine lv_aload_n hx hb dX8_takes_91 rfl (lv_at hl 0 rfl) ?_
    refine es_get C hP (es_wM_0 a cI cZ N S14) rfl inlX8 (j := 23) (by decide) es_u21_22 rfl dX8_takes_92 ?_
    refine lv_iload_n hx hb dX8_takes_95 rfl (lv_at hl 2 rfl) ?_
    replace h := es_ck_e h
    obtain ⟨b15, h⟩ := h
    refine es_zast C hP hS (es_wM_11 a cI cZ N S14) (es_rM_11 a cI cZ N S14) (t0 := 1) rfl b15 dX8_takes_96 (fun S16 eS16 H locs hP hS => ?_)
    replace h := es_lt_e eS16 h
    refine lv_aload_n hx hb dX8_takes_97 rfl (lv_at hl 0 rfl) ?_
    refine lv_dup hx hb dX8_takes_98 rfl ?_
    refine es_get C hP (es_wM_0 a cI cZ N S16) rfl inlX8 (j := 23) (by decide) es_u21_22 rfl dX8_takes_99 ?_
    refine lv_iconst (v := 1) hx hb dX8_takes_102 (by decide) ?_
    refine lv_iadd hx hb dX8_takes_103 ?_
    refine lv_topi (fun v17 ev17 => ?_)
    replace h := es_lt_e ev17 h
    refine es_put C hP hS (es_wM_0 a cI cZ N S16) rfl inlX8 tyX8_ok nmX8 (j := 23) (by decide) es_u21_22 rfl (tyX8_ok 23 (by decide)) rfl rfl (by simp) (es_sM_12 a cI cZ N S16 v17) dX8_takes_104 (fun S18 eS18 H locs hP hS => ?_)
    replace h := es_lt_e eS18 h
    refine lv_aload_n hx hb dX8_takes_107 rfl (lv_at hl 0 rfl) ?_
    refine lv_dup hx hb dX8_takes_108 rfl ?_
    refine es_get C hP (es_wM_0 a cI cZ N S18) rfl inlX8 (j := 29) (by decide) es_u21_23 rfl dX8_takes_109 ?_
    refine lv_iconst (v := 1) hx hb dX8_takes_112 (by decide) ?_
    refine lv_iadd hx hb dX8_takes_113 ?_
    refine lv_topi (fun v19 ev19 => ?_)
    replace h := es_lt_e ev19 h
    refine es_put C hP hS (es_wM_0 a cI cZ N S18) rfl inlX8 tyX8_ok nmX8 (j := 29) (by decide) es_u21_23 rfl (tyX8_ok 29 (by decide)) rfl rfl (by simp) (es_sM_16 a cI cZ N S18 v19) dX8_takes_114 (fun S20 eS20 H locs hP hS => ?_)
    replace h := es_lt_e eS20 h
    exact es_vret C hr hlk h hP hS dX8_takes_117
  unfold f_X8_takes at h
  refine lv_aload_n hx hb dX8_takes_0 rfl (lv_at hl 0 rfl) ?_
  refine lv_dup hx hb dX8_takes_1 rfl ?_
  refine es_get C hP (es_wM_0 a cI cZ N S) rfl inlX8 (j := 6) (by decide) es_u21_5 rfl dX8_takes_2 ?_
  refine lv_aload_n hx hb dX8_takes_5 rfl (lv_at hl 0 rfl) ?_
  refine es_get C hP (es_wM_0 a cI cZ N S) rfl inlX8 (j := 29) (by decide) es_u21_23 rfl dX8_takes_6 ?_
  refine lv_aload_n hx hb dX8_takes_9 rfl (lv_at hl 0 rfl) ?_
  refine es_get C hP (es_wM_0 a cI cZ N S) rfl inlX8 (j := 1) (by decide) es_u7_9 rfl dX8_takes_10 ?_
  replace h := es_ck_e h
  obtain ⟨b1, h⟩ := h
  refine lv_irem hx hb dX8_takes_13 b1 ?_
  refine lv_if_ne (tgt := 21) hx hb dX8_takes_14 (by decide) (fun c2 => ?_) (fun c2 => ?_)
  · replace h := es_if_t c2 h
    refine lv_iconst (v := 0) hx hb dX8_takes_21 (by decide) ?_
    exact J22  p1 p2 0 (S.1 3) S _ _ _ h hP hS (lv_sub hl [0, 1, 2] rfl)
  · replace h := es_if_f (fun q => q c2) h
    refine lv_iconst (v := 1) hx hb dX8_takes_17 (by decide) ?_
    refine lv_goto (tgt := 22) hx hb dX8_takes_18 (by decide) ?_
    exact J22  p1 p2 1 (S.1 3) S _ _ _ h hP hS (lv_sub hl [0, 1, 2] rfl)

set_option maxHeartbeats 4000000 in
set_option maxRecDepth 100000 in
theorem c_X8_isAhead (l : Launch) (D : va_G) (cI cZ : ClassId) (a : Nat → Nat) (N : Nat → Nat) (sz fu : Nat) (S S' : es_St) (p1 : Int32) (p2 : Int32) (p3 : Int32) (p4 : Int32) (r : Int32) (h : f_X8_isAhead N fu S p1 p2 p3 p4 = some (r, S')) : Met l yX8_isAhead (Cond.code yX8_isAhead cX8_isAhead 5 (some .boolean) :: wsL_law) ({ frames := 0, cells := 0, slots := 0, locals := 0 } : Room) (es_Pre [.ref (a 0), .int p1, .int p2, .int p3, .int p4] D [(cI, .int), (cZ, .boolean)] (es_wM a cI cZ N) a 21 S sz) (es_Qi D (es_wM a cI cZ N) a 21 r S' sz) 0 0 (es_AA a 21 sz) := by
  refine es_intro (Qc := es_Qi D (es_wM a cI cZ N) a 21 r S') (by decide) (es_okM a cI cZ N) (Nat.le_of_ble_eq_true rfl) ?_
  intro p e s m below meth c C hr hlk hP ls hl
  have hx := C.1
  have hb := C.2.1
  have hown := C.2.2.2.1
  have hts := C.2.2.2.2.1
  have hS : va_S (es_AA a 21 s.heap.size) s.heap s.heap [] := va_S.rf
  replace hl : lv_has ls 5 [(0, .ref (a 0)), (1, .int p1), (2, .int p2), (3, .int p3), (4, .int p4)] := hl
  unfold f_X8_isAhead at h
  refine lv_iload_n hx hb dX8_isAhead_0 rfl (lv_at hl 1 rfl) ?_
  refine lv_iload_n hx hb dX8_isAhead_1 rfl (lv_at hl 3 rfl) ?_
  refine lv_icmp_eq (tgt := 37) hx hb dX8_isAhead_2 (by decide) (fun c1 => ?_) (fun c1 => ?_)
  · replace h := es_if_t c1 h
    refine lv_aload_n hx hb dX8_isAhead_37 rfl (lv_at hl 0 rfl) ?_
    refine es_get C hP (es_wM_0 a cI cZ N S) rfl inlX8 (j := 24) (by decide) es_u21_15 rfl dX8_isAhead_38 ?_
    refine lv_iconst (v := 1) hx hb dX8_isAhead_41 (by decide) ?_
    refine lv_icmp_ne (tgt := 55) hx hb dX8_isAhead_42 (by decide) (fun c2 => ?_) (fun c2 => ?_)
    · replace h := es_if_t c2 h
      refine lv_iconst (v := 0) hx hb dX8_isAhead_55 (by decide) ?_
      exact es_zret C hr hlk ⟨rfl, rfl⟩ h hP hS dX8_isAhead_56
    · replace h := es_if_f (fun q => q c2) h
      refine lv_iload_n hx hb dX8_isAhead_45 rfl (lv_at hl 2 rfl) ?_
      refine lv_iload hx hb dX8_isAhead_46 (lv_at hl 4 rfl) ?_
      refine lv_icmp_ge (tgt := 55) hx hb dX8_isAhead_48 (by decide) (fun c3 => ?_) (fun c3 => ?_)
      · replace h := es_if_t c3 h
        refine lv_iconst (v := 0) hx hb dX8_isAhead_55 (by decide) ?_
        exact es_zret C hr hlk ⟨rfl, rfl⟩ h hP hS dX8_isAhead_56
      · replace h := es_if_f c3 h
        refine lv_iconst (v := 1) hx hb dX8_isAhead_51 (by decide) ?_
        refine lv_goto (tgt := 56) hx hb dX8_isAhead_52 (by decide) ?_
        exact es_zret C hr hlk ⟨rfl, rfl⟩ h hP hS dX8_isAhead_56
  · replace h := es_if_f c1 h
    refine lv_aload_n hx hb dX8_isAhead_5 rfl (lv_at hl 0 rfl) ?_
    refine es_get C hP (es_wM_0 a cI cZ N S) rfl inlX8 (j := 24) (by decide) es_u21_15 rfl dX8_isAhead_6 ?_
    refine lv_iconst (v := 2) hx hb dX8_isAhead_9 (by decide) ?_
    refine lv_icmp_ne (tgt := 26) hx hb dX8_isAhead_10 (by decide) (fun c4 => ?_) (fun c4 => ?_)
    · replace h := es_if_t c4 h
      refine lv_iload_n hx hb dX8_isAhead_26 rfl (lv_at hl 1 rfl) ?_
      refine lv_iload_n hx hb dX8_isAhead_27 rfl (lv_at hl 3 rfl) ?_
      refine lv_icmp_ge (tgt := 35) hx hb dX8_isAhead_28 (by decide) (fun c5 => ?_) (fun c5 => ?_)
      · replace h := es_if_t c5 h
        refine lv_iconst (v := 0) hx hb dX8_isAhead_35 (by decide) ?_
        exact es_zret C hr hlk ⟨rfl, rfl⟩ h hP hS dX8_isAhead_36
      · replace h := es_if_f c5 h
        refine lv_iconst (v := 1) hx hb dX8_isAhead_31 (by decide) ?_
        refine lv_goto (tgt := 36) hx hb dX8_isAhead_32 (by decide) ?_
        exact es_zret C hr hlk ⟨rfl, rfl⟩ h hP hS dX8_isAhead_36
    · replace h := es_if_f (fun q => q c4) h
      refine lv_iload_n hx hb dX8_isAhead_13 rfl (lv_at hl 1 rfl) ?_
      refine lv_iload_n hx hb dX8_isAhead_14 rfl (lv_at hl 3 rfl) ?_
      refine lv_icmp_le (tgt := 22) hx hb dX8_isAhead_15 (by decide) (fun c6 => ?_) (fun c6 => ?_)
      · replace h := es_if_t c6 h
        refine lv_iconst (v := 0) hx hb dX8_isAhead_22 (by decide) ?_
        refine lv_goto (tgt := 36) hx hb dX8_isAhead_23 (by decide) ?_
        exact es_zret C hr hlk ⟨rfl, rfl⟩ h hP hS dX8_isAhead_36
      · replace h := es_if_f c6 h
        refine lv_iconst (v := 1) hx hb dX8_isAhead_18 (by decide) ?_
        refine lv_goto (tgt := 36) hx hb dX8_isAhead_19 (by decide) ?_
        exact es_zret C hr hlk ⟨rfl, rfl⟩ h hP hS dX8_isAhead_36

set_option maxHeartbeats 4000000 in
set_option maxRecDepth 100000 in
theorem c_X8_first (l : Launch) (D : va_G) (cI cZ : ClassId) (a : Nat → Nat) (N : Nat → Nat) (sz fu : Nat) (S S' : es_St) (r : Int32) (h : f_X8_first N fu S = some (r, S')) : Met l yX8_first (Cond.code yX8_first cX8_first 3 (some .int) :: wsL_law) ({ frames := 1, cells := 0, slots := 0, locals := 24 } : Room) (es_Pre [.ref (a 0)] D [(cI, .int), (cZ, .boolean)] (es_wM a cI cZ N) a 21 S sz) (es_Qi D (es_wM a cI cZ N) a 21 r S' sz) 0 0 (es_AA a 21 sz) := by
  refine es_intro (Qc := es_Qi D (es_wM a cI cZ N) a 21 r S') (by decide) (es_okM a cI cZ N) (Nat.le_of_ble_eq_true rfl) ?_
  intro p e s m below meth c C hr hlk hP ls hl
  have hx := C.1
  have hb := C.2.1
  have hown := C.2.2.2.1
  have hts := C.2.2.2.2.1
  have hS : va_S (es_AA a 21 s.heap.size) s.heap s.heap [] := va_S.rf
  replace hl : lv_has ls 3 [(0, .ref (a 0))] := hl
  have J4 : ∀ n : Nat, (∀ (x1 : Int32) (x2 : Int32) (S : es_St) (H : Heap) (locs : List Loc) (ls : Array Slot), f_X8_first_4 N fu n x1 x2 S = some (r, S') → va_P D vwCl ((es_wM a cI cZ N) S) H → va_S (es_AA a 21 s.heap.size) s.heap H locs → lv_has ls 3 [(0, .ref (a 0)), (1, .int x1), (2, .int x2)] → W p l e ({ frames := 1, cells := 0, slots := 0, locals := 24 } : Room) s m ([.ref (a 0)] : List Value).toArray below meth c H locs 0 0 (MQ below (es_Qi D (es_wM a cI cZ N) a 21 r S' s.heap.size) ([.ref (a 0)] : List Value).toArray s 0 0 (es_AA a 21 s.heap.size)) (F0 m 4 ls [])) := by
    intro n
    induction n with
    | zero => intro x1 x2 S H locs ls h; rw [f_X8_first_4] at h; cases h
    | succ n ih =>
      intro x1 x2 S H locs ls h hP hS hl
      rw [f_X8_first_4] at h
      refine lv_iload_n hx hb dX8_first_4 rfl (lv_at hl 2 rfl) ?_
      refine lv_aload_n hx hb dX8_first_5 rfl (lv_at hl 0 rfl) ?_
      refine es_get C hP (es_wM_0 a cI cZ N S) rfl inlX8 (j := 23) (by decide) es_u21_22 rfl dX8_first_6 ?_
      refine lv_icmp_ge (tgt := 118) hx hb dX8_first_9 (by decide) (fun c1 => ?_) (fun c1 => ?_)
      · replace h := es_if_t c1 h
        refine lv_iload_n hx hb dX8_first_118 rfl (lv_at hl 1 rfl) ?_
        exact es_iret C hr hlk h hP hS dX8_first_119
      · replace h := es_if_f c1 h
        refine lv_aload_n hx hb dX8_first_12 rfl (lv_at hl 0 rfl) ?_
        refine es_get C hP (es_wM_0 a cI cZ N S) rfl inlX8 (j := 22) (by decide) es_u6_22 rfl dX8_first_13 ?_
        refine lv_iload_n hx hb dX8_first_16 rfl (lv_at hl 2 rfl) ?_
        replace h := es_ck_e h
        obtain ⟨b2, h⟩ := h
        refine es_zald C hP (es_wM_11 a cI cZ N S) (t0 := 1) rfl b2 dX8_first_17 ?_
        refine lv_topi (fun v3 ev3 => ?_)
        replace h := es_lt_e ev3 h
        refine lv_if_eq (tgt := 24) hx hb dX8_first_18 (by decide) (fun c4 => ?_) (fun c4 => ?_)
        · replace h := es_if_t c4 h
          refine lv_iload_n hx hb dX8_first_24 rfl (lv_at hl 1 rfl) ?_
          refine lv_if_lt (tgt := 59) hx hb dX8_first_25 (by decide) (fun c5 => ?_) (fun c5 => ?_)
          · replace h := es_if_t c5 h
            refine lv_iload_n hx hb dX8_first_59 rfl (lv_at hl 2 rfl) ?_
            refine lv_istore_n (lv' := [(1, .int x2), (0, .ref (a 0)), (2, .int x2)]) hx hb dX8_first_60 rfl hl (by decide) rfl (fun ls hl => ?_)
            refine lv_goto (tgt := 112) hx hb dX8_first_61 (by decide) ?_
            obtain ⟨y6, ey6⟩ : ∃ y : Int32, y = x2 + 1 := ⟨_, rfl⟩
            refine lv_iinc (v := y6) (lv' := [(2, .int y6), (1, .int x2), (0, .ref (a 0))]) hx hb dX8_first_112 hl (k := 2) rfl (by rw [ey6]; rfl) (by decide) rfl (fun ls hl => ?_)
            replace h := es_lt_e ey6 h
            refine lv_goto (tgt := 4) hx hb dX8_first_115 (by decide) ?_
            exact ih x2 y6 S _ _ _ h hP hS (lv_sub hl [2, 1, 0] rfl)
          · replace h := es_if_f c5 h
            refine lv_aload_n hx hb dX8_first_28 rfl (lv_at hl 0 rfl) ?_
            refine lv_aload_n hx hb dX8_first_29 rfl (lv_at hl 0 rfl) ?_
            refine es_get C hP (es_wM_0 a cI cZ N S) rfl inlX8 (j := 19) (by decide) es_u6_18 rfl dX8_first_30 ?_
            refine lv_iload_n hx hb dX8_first_33 rfl (lv_at hl 2 rfl) ?_
            replace h := es_ck_e h
            obtain ⟨b7, h⟩ := h
            refine es_ald C hP (es_wM_8 a cI cZ N S) (t0 := 0) rfl b7 dX8_first_34 ?_
            refine lv_topi (fun v8 ev8 => ?_)
            replace h := es_lt_e ev8 h
            refine lv_aload_n hx hb dX8_first_35 rfl (lv_at hl 0 rfl) ?_
            refine es_get C hP (es_wM_0 a cI cZ N S) rfl inlX8 (j := 20) (by decide) es_u6_19 rfl dX8_first_36 ?_
            refine lv_iload_n hx hb dX8_first_39 rfl (lv_at hl 2 rfl) ?_
            replace h := es_ck_e h
            obtain ⟨b9, h⟩ := h
            refine es_ald C hP (es_wM_9 a cI cZ N S) (t0 := 0) rfl b9 dX8_first_40 ?_
            refine lv_topi (fun v10 ev10 => ?_)
            replace h := es_lt_e ev10 h
            refine lv_aload_n hx hb dX8_first_41 rfl (lv_at hl 0 rfl) ?_
            refine es_get C hP (es_wM_0 a cI cZ N S) rfl inlX8 (j := 19) (by decide) es_u6_18 rfl dX8_first_42 ?_
            refine lv_iload_n hx hb dX8_first_45 rfl (lv_at hl 1 rfl) ?_
            replace h := es_ck_e h
            obtain ⟨b11, h⟩ := h
            refine es_ald C hP (es_wM_8 a cI cZ N S) (t0 := 0) rfl b11 dX8_first_46 ?_
            refine lv_topi (fun v12 ev12 => ?_)
            replace h := es_lt_e ev12 h
            refine lv_aload_n hx hb dX8_first_47 rfl (lv_at hl 0 rfl) ?_
            refine es_get C hP (es_wM_0 a cI cZ N S) rfl inlX8 (j := 20) (by decide) es_u6_19 rfl dX8_first_48 ?_
            refine lv_iload_n hx hb dX8_first_51 rfl (lv_at hl 1 rfl) ?_
            replace h := es_ck_e h
            obtain ⟨b13, h⟩ := h
            refine es_ald C hP (es_wM_9 a cI cZ N S) (t0 := 0) rfl b13 dX8_first_52 ?_
            refine lv_topi (fun v14 ev14 => ?_)
            replace h := es_lt_e ev14 h
            replace h := es_bd_e h
            obtain ⟨r15, S16, g17, h⟩ := h
            refine es_callVi C (c_X8_isAhead l D cI cZ a N _ fu S S16 v8 v10 v12 v14 r15 g17) es_u22_8 es_mX8_isAhead ⟨rfl, rfl, by decide, by decide⟩ ⟨Nat.zero_le _, Nat.zero_le _⟩ hP hS (es_wM_0 a cI cZ N S) rfl rfl hl.1 rfl (Nat.le_of_ble_eq_true rfl) dX8_first_53 (fun H locs _ _ hP hS => ?_)
            refine lv_if_eq (tgt := 64) hx hb dX8_first_56 (by decide) (fun c18 => ?_) (fun c18 => ?_)
            · replace h := es_if_t c18 h
              refine lv_aload_n hx hb dX8_first_64 rfl (lv_at hl 0 rfl) ?_
              refine lv_aload_n hx hb dX8_first_65 rfl (lv_at hl 0 rfl) ?_
              refine es_get C hP (es_wM_0 a cI cZ N S16) rfl inlX8 (j := 19) (by decide) es_u6_18 rfl dX8_first_66 ?_
              refine lv_iload_n hx hb dX8_first_69 rfl (lv_at hl 1 rfl) ?_
              replace h := es_ck_e h
              obtain ⟨b19, h⟩ := h
              refine es_ald C hP (es_wM_8 a cI cZ N S16) (t0 := 0) rfl b19 dX8_first_70 ?_
              refine lv_topi (fun v20 ev20 => ?_)
              replace h := es_lt_e ev20 h
              refine lv_aload_n hx hb dX8_first_71 rfl (lv_at hl 0 rfl) ?_
              refine es_get C hP (es_wM_0 a cI cZ N S16) rfl inlX8 (j := 20) (by decide) es_u6_19 rfl dX8_first_72 ?_
              refine lv_iload_n hx hb dX8_first_75 rfl (lv_at hl 1 rfl) ?_
              replace h := es_ck_e h
              obtain ⟨b21, h⟩ := h
              refine es_ald C hP (es_wM_9 a cI cZ N S16) (t0 := 0) rfl b21 dX8_first_76 ?_
              refine lv_topi (fun v22 ev22 => ?_)
              replace h := es_lt_e ev22 h
              refine lv_aload_n hx hb dX8_first_77 rfl (lv_at hl 0 rfl) ?_
              refine es_get C hP (es_wM_0 a cI cZ N S16) rfl inlX8 (j := 19) (by decide) es_u6_18 rfl dX8_first_78 ?_
              refine lv_iload_n hx hb dX8_first_81 rfl (lv_at hl 2 rfl) ?_
              replace h := es_ck_e h
              obtain ⟨b23, h⟩ := h
              refine es_ald C hP (es_wM_8 a cI cZ N S16) (t0 := 0) rfl b23 dX8_first_82 ?_
              refine lv_topi (fun v24 ev24 => ?_)
              replace h := es_lt_e ev24 h
              refine lv_aload_n hx hb dX8_first_83 rfl (lv_at hl 0 rfl) ?_
              refine es_get C hP (es_wM_0 a cI cZ N S16) rfl inlX8 (j := 20) (by decide) es_u6_19 rfl dX8_first_84 ?_
              refine lv_iload_n hx hb dX8_first_87 rfl (lv_at hl 2 rfl) ?_
              replace h := es_ck_e h
              obtain ⟨b25, h⟩ := h
              refine es_ald C hP (es_wM_9 a cI cZ N S16) (t0 := 0) rfl b25 dX8_first_88 ?_
              refine lv_topi (fun v26 ev26 => ?_)
              replace h := es_lt_e ev26 h
              replace h := es_bd_e h
              obtain ⟨r27, S28, g29, h⟩ := h
              refine es_callVi C (c_X8_isAhead l D cI cZ a N _ fu S16 S28 v20 v22 v24 v26 r27 g29) es_u22_8 es_mX8_isAhead ⟨rfl, rfl, by decide, by decide⟩ ⟨Nat.zero_le _, Nat.zero_le _⟩ hP hS (es_wM_0 a cI cZ N S16) rfl rfl hl.1 rfl (Nat.le_of_ble_eq_true rfl) dX8_first_89 (fun H locs _ _ hP hS => ?_)
              refine lv_if_ne (tgt := 112) hx hb dX8_first_92 (by decide) (fun c30 => ?_) (fun c30 => ?_)
              · replace h := es_if_t c30 h
                obtain ⟨y31, ey31⟩ : ∃ y : Int32, y = x2 + 1 := ⟨_, rfl⟩
                refine lv_iinc (v := y31) (lv' := [(2, .int y31), (0, .ref (a 0)), (1, .int x1)]) hx hb dX8_first_112 hl (k := 2) rfl (by rw [ey31]; rfl) (by decide) rfl (fun ls hl => ?_)
                replace h := es_lt_e ey31 h
                refine lv_goto (tgt := 4) hx hb dX8_first_115 (by decide) ?_
                exact ih x1 y31 S28 _ _ _ h hP hS (lv_sub hl [1, 2, 0] rfl)
              · replace h := es_if_f (fun q => q c30) h
                refine lv_aload_n hx hb dX8_first_95 rfl (lv_at hl 0 rfl) ?_
                refine es_get C hP (es_wM_0 a cI cZ N S28) rfl inlX8 (j := 21) (by decide) es_u6_20 rfl dX8_first_96 ?_
                refine lv_iload_n hx hb dX8_first_99 rfl (lv_at hl 2 rfl) ?_
                replace h := es_ck_e h
                obtain ⟨b32, h⟩ := h
                refine es_ald C hP (es_wM_10 a cI cZ N S28) (t0 := 0) rfl b32 dX8_first_100 ?_
                refine lv_topi (fun v33 ev33 => ?_)
                replace h := es_lt_e ev33 h
                refine lv_aload_n hx hb dX8_first_101 rfl (lv_at hl 0 rfl) ?_
                refine es_get C hP (es_wM_0 a cI cZ N S28) rfl inlX8 (j := 21) (by decide) es_u6_20 rfl dX8_first_102 ?_
                refine lv_iload_n hx hb dX8_first_105 rfl (lv_at hl 1 rfl) ?_
                replace h := es_ck_e h
                obtain ⟨b34, h⟩ := h
                refine es_ald C hP (es_wM_10 a cI cZ N S28) (t0 := 0) rfl b34 dX8_first_106 ?_
                refine lv_topi (fun v35 ev35 => ?_)
                replace h := es_lt_e ev35 h
                refine lv_icmp_ge (tgt := 112) hx hb dX8_first_107 (by decide) (fun c36 => ?_) (fun c36 => ?_)
                · replace h := es_if_t c36 h
                  obtain ⟨y37, ey37⟩ : ∃ y : Int32, y = x2 + 1 := ⟨_, rfl⟩
                  refine lv_iinc (v := y37) (lv' := [(2, .int y37), (0, .ref (a 0)), (1, .int x1)]) hx hb dX8_first_112 hl (k := 2) rfl (by rw [ey37]; rfl) (by decide) rfl (fun ls hl => ?_)
                  replace h := es_lt_e ey37 h
                  refine lv_goto (tgt := 4) hx hb dX8_first_115 (by decide) ?_
                  exact ih x1 y37 S28 _ _ _ h hP hS (lv_sub hl [1, 2, 0] rfl)
                · replace h := es_if_f c36 h
                  refine lv_iload_n hx hb dX8_first_110 rfl (lv_at hl 2 rfl) ?_
                  refine lv_istore_n (lv' := [(1, .int x2), (0, .ref (a 0)), (2, .int x2)]) hx hb dX8_first_111 rfl hl (by decide) rfl (fun ls hl => ?_)
                  obtain ⟨y38, ey38⟩ : ∃ y : Int32, y = x2 + 1 := ⟨_, rfl⟩
                  refine lv_iinc (v := y38) (lv' := [(2, .int y38), (1, .int x2), (0, .ref (a 0))]) hx hb dX8_first_112 hl (k := 2) rfl (by rw [ey38]; rfl) (by decide) rfl (fun ls hl => ?_)
                  replace h := es_lt_e ey38 h
                  refine lv_goto (tgt := 4) hx hb dX8_first_115 (by decide) ?_
                  exact ih x2 y38 S28 _ _ _ h hP hS (lv_sub hl [2, 1, 0] rfl)
            · replace h := es_if_f c18 h
              refine lv_iload_n hx hb dX8_first_59 rfl (lv_at hl 2 rfl) ?_
              refine lv_istore_n (lv' := [(1, .int x2), (0, .ref (a 0)), (2, .int x2)]) hx hb dX8_first_60 rfl hl (by decide) rfl (fun ls hl => ?_)
              refine lv_goto (tgt := 112) hx hb dX8_first_61 (by decide) ?_
              obtain ⟨y39, ey39⟩ : ∃ y : Int32, y = x2 + 1 := ⟨_, rfl⟩
              refine lv_iinc (v := y39) (lv' := [(2, .int y39), (1, .int x2), (0, .ref (a 0))]) hx hb dX8_first_112 hl (k := 2) rfl (by rw [ey39]; rfl) (by decide) rfl (fun ls hl => ?_)
              replace h := es_lt_e ey39 h
              refine lv_goto (tgt := 4) hx hb dX8_first_115 (by decide) ?_
              exact ih x2 y39 S16 _ _ _ h hP hS (lv_sub hl [2, 1, 0] rfl)
        · replace h := es_if_f c4 h
          refine lv_goto (tgt := 112) hx hb dX8_first_21 (by decide) ?_
          obtain ⟨y40, ey40⟩ : ∃ y : Int32, y = x2 + 1 := ⟨_, rfl⟩
          refine lv_iinc (v := y40) (lv' := [(2, .int y40), (0, .ref (a 0)), (1, .int x1)]) hx hb dX8_first_112 hl (k := 2) rfl (by rw [ey40]; rfl) (by decide) rfl (fun ls hl => ?_)
          replace h := es_lt_e ey40 h
          refine lv_goto (tgt := 4) hx hb dX8_first_115 (by decide) ?_
          exact ih x1 y40 S _ _ _ h hP hS (lv_sub hl [1, 2, 0] rfl)
  unfold f_X8_first at h
  refine lv_iconst (v := (-1)) hx hb dX8_first_0 (by decide) ?_
  refine lv_istore_n (lv' := [(1, .int (-1)), (0, .ref (a 0))]) hx hb dX8_first_1 rfl hl (by decide) rfl (fun ls hl => ?_)
  refine lv_iconst (v := 0) hx hb dX8_first_2 (by decide) ?_
  refine lv_istore_n (lv' := [(2, .int 0), (1, .int (-1)), (0, .ref (a 0))]) hx hb dX8_first_3 rfl hl (by decide) rfl (fun ls hl => ?_)
  exact J4  fu (-1) 0 S _ _ _ h hP hS (lv_sub hl [2, 1, 0] rfl)

set_option maxHeartbeats 4000000 in
set_option maxRecDepth 100000 in
theorem c_X8_writes (l : Launch) (D : va_G) (cI cZ : ClassId) (a : Nat → Nat) (N : Nat → Nat) (sz fu : Nat) (S S' : es_St) (r : Int32) (h : f_X8_writes N fu S = some (r, S')) : Met l yX8_writes (Cond.code yX8_writes cX8_writes 1 none :: wsL_law) ({ frames := 0, cells := 0, slots := 0, locals := 0 } : Room) (es_Pre [.ref (a 0)] D [(cI, .int), (cZ, .boolean)] (es_wM a cI cZ N) a 21 S sz) (es_Qv D (es_wM a cI cZ N) a 21 S' sz) 0 0 (es_AA a 21 sz) := by
  refine es_intro (Qc := es_Qv D (es_wM a cI cZ N) a 21 S') (by decide) (es_okM a cI cZ N) (Nat.le_of_ble_eq_true rfl) ?_
  intro p e s m below meth c C hr hlk hP ls hl
  have hx := C.1
  have hb := C.2.1
  have hown := C.2.2.2.1
  have hts := C.2.2.2.2.1
  have hS : va_S (es_AA a 21 s.heap.size) s.heap s.heap [] := va_S.rf
  replace hl : lv_has ls 1 [(0, .ref (a 0))] := hl
  unfold f_X8_writes at h
  refine lv_aload_n hx hb dX8_writes_0 rfl (lv_at hl 0 rfl) ?_
  refine es_get C hP (es_wM_0 a cI cZ N S) rfl inlX8 (j := 5) (by decide) es_u9_13 rfl dX8_writes_1 ?_
  refine lv_aload_n hx hb dX8_writes_4 rfl (lv_at hl 0 rfl) ?_
  refine es_get C hP (es_wM_0 a cI cZ N S) rfl inlX8 (j := 0) (by decide) es_u7_8 rfl dX8_writes_5 ?_
  refine lv_icmp_ne (tgt := 17) hx hb dX8_writes_8 (by decide) (fun c1 => ?_) (fun c1 => ?_)
  · replace h := es_if_t c1 h
    refine lv_aload_n hx hb dX8_writes_17 rfl (lv_at hl 0 rfl) ?_
    refine lv_dup hx hb dX8_writes_18 rfl ?_
    refine es_get C hP (es_wM_0 a cI cZ N S) rfl inlX8 (j := 5) (by decide) es_u9_13 rfl dX8_writes_19 ?_
    refine lv_iconst (v := 1) hx hb dX8_writes_22 (by decide) ?_
    refine lv_iadd hx hb dX8_writes_23 ?_
    refine lv_topi (fun v2 ev2 => ?_)
    replace h := es_lt_e ev2 h
    refine es_put C hP hS (es_wM_0 a cI cZ N S) rfl inlX8 tyX8_ok nmX8 (j := 5) (by decide) es_u9_13 rfl (tyX8_ok 5 (by decide)) rfl rfl (by simp) (es_sM_2 a cI cZ N S v2) dX8_writes_24 (fun S3 eS3 H locs hP hS => ?_)
    replace h := es_lt_e eS3 h
    refine lv_aload_n hx hb dX8_writes_27 rfl (lv_at hl 0 rfl) ?_
    refine lv_dup hx hb dX8_writes_28 rfl ?_
    refine es_get C hP (es_wM_0 a cI cZ N S3) rfl inlX8 (j := 7) (by decide) es_u21_6 rfl dX8_writes_29 ?_
    refine lv_iconst (v := 1) hx hb dX8_writes_32 (by decide) ?_
    refine lv_iadd hx hb dX8_writes_33 ?_
    refine lv_topi (fun v4 ev4 => ?_)
    replace h := es_lt_e ev4 h
    refine es_put C hP hS (es_wM_0 a cI cZ N S3) rfl inlX8 tyX8_ok nmX8 (j := 7) (by decide) es_u21_6 rfl (tyX8_ok 7 (by decide)) rfl rfl (by simp) (es_sM_4 a cI cZ N S3 v4) dX8_writes_34 (fun S5 eS5 H locs hP hS => ?_)
    replace h := es_lt_e eS5 h
    refine lv_aload_n hx hb dX8_writes_37 rfl (lv_at hl 0 rfl) ?_
    refine lv_aload_n hx hb dX8_writes_38 rfl (lv_at hl 0 rfl) ?_
    refine es_get C hP (es_wM_0 a cI cZ N S5) rfl inlX8 (j := 5) (by decide) es_u9_13 rfl dX8_writes_39 ?_
    refine lv_aload_n hx hb dX8_writes_42 rfl (lv_at hl 0 rfl) ?_
    refine es_get C hP (es_wM_0 a cI cZ N S5) rfl inlX8 (j := 10) (by decide) es_u21_9 rfl dX8_writes_43 ?_
    refine lv_icmp_le (tgt := 56) hx hb dX8_writes_46 (by decide) (fun c6 => ?_) (fun c6 => ?_)
    · replace h := es_if_t c6 h
      refine lv_aload_n hx hb dX8_writes_56 rfl (lv_at hl 0 rfl) ?_
      refine es_get C hP (es_wM_0 a cI cZ N S5) rfl inlX8 (j := 10) (by decide) es_u21_9 rfl dX8_writes_57 ?_
      refine es_put C hP hS (es_wM_0 a cI cZ N S5) rfl inlX8 tyX8_ok nmX8 (j := 10) (by decide) es_u21_9 rfl (tyX8_ok 10 (by decide)) rfl rfl (by simp) (es_sM_7 a cI cZ N S5 (S5.1 7)) dX8_writes_60 (fun S7 eS7 H locs hP hS => ?_)
      replace h := es_lt_e eS7 h
      exact es_vret C hr hlk h hP hS dX8_writes_63
    · replace h := es_if_f c6 h
      refine lv_aload_n hx hb dX8_writes_49 rfl (lv_at hl 0 rfl) ?_
      refine es_get C hP (es_wM_0 a cI cZ N S5) rfl inlX8 (j := 5) (by decide) es_u9_13 rfl dX8_writes_50 ?_
      refine lv_goto (tgt := 60) hx hb dX8_writes_53 (by decide) ?_
      refine es_put C hP hS (es_wM_0 a cI cZ N S5) rfl inlX8 tyX8_ok nmX8 (j := 10) (by decide) es_u21_9 rfl (tyX8_ok 10 (by decide)) rfl rfl (by simp) (es_sM_7 a cI cZ N S5 (S5.1 2)) dX8_writes_60 (fun S8 eS8 H locs hP hS => ?_)
      replace h := es_lt_e eS8 h
      exact es_vret C hr hlk h hP hS dX8_writes_63
  · replace h := es_if_f (fun q => q c1) h
    refine lv_aload_n hx hb dX8_writes_11 rfl (lv_at hl 0 rfl) ?_
    refine lv_iconst (v := 1) hx hb dX8_writes_12 (by decide) ?_
    refine es_put C hP hS (es_wM_0 a cI cZ N S) rfl inlX8 tyX8_ok nmX8 (j := 11) (by decide) es_u20_23 rfl (tyX8_ok 11 (by decide)) rfl rfl (by simp) (es_sM_8 a cI cZ N S 1) dX8_writes_13 (fun S9 eS9 H locs hP hS => ?_)
    replace h := es_lt_e eS9 h
    exact es_vret C hr hlk h hP hS dX8_writes_16

set_option maxHeartbeats 4000000 in
set_option maxRecDepth 100000 in
theorem c_X8_endsRun (l : Launch) (D : va_G) (cI cZ : ClassId) (a : Nat → Nat) (N : Nat → Nat) (sz fu : Nat) (S S' : es_St) (p1 : Int32) (r : Int32) (h : f_X8_endsRun N fu S p1 = some (r, S')) : Met l yX8_endsRun (Cond.code yX8_endsRun cX8_endsRun 3 (some .int) :: wsL_law) ({ frames := 1, cells := 0, slots := 0, locals := 20 } : Room) (es_Pre [.ref (a 0), .int p1] D [(cI, .int), (cZ, .boolean)] (es_wM a cI cZ N) a 21 S sz) (es_Qi D (es_wM a cI cZ N) a 21 r S' sz) 0 0 (es_AA a 21 sz) := by
  refine es_intro (Qc := es_Qi D (es_wM a cI cZ N) a 21 r S') (by decide) (es_okM a cI cZ N) (Nat.le_of_ble_eq_true rfl) ?_
  intro p e s m below meth c C hr hlk hP ls hl
  have hx := C.1
  have hb := C.2.1
  have hown := C.2.2.2.1
  have hts := C.2.2.2.2.1
  have hS : va_S (es_AA a 21 s.heap.size) s.heap s.heap [] := va_S.rf
  replace hl : lv_has ls 3 [(0, .ref (a 0)), (1, .int p1)] := hl
  have J25 : (∀ (x1 : Int32) (x2 : Int32) (S : es_St) (H : Heap) (locs : List Loc) (ls : Array Slot), f_X8_endsRun_25 N fu x1 x2 S = some (r, S') → va_P D vwCl ((es_wM a cI cZ N) S) H → va_S (es_AA a 21 s.heap.size) s.heap H locs → lv_has ls 3 [(0, .ref (a 0)), (1, .int x1), (2, .int x2)] → W p l e ({ frames := 1, cells := 0, slots := 0, locals := 20 } : Room) s m ([.ref (a 0), .int p1] : List Value).toArray below meth c H locs 0 0 (MQ below (es_Qi D (es_wM a cI cZ N) a 21 r S' s.heap.size) ([.ref (a 0), .int p1] : List Value).toArray s 0 0 (es_AA a 21 s.heap.size)) (F0 m 25 ls [])) := by
    intro x1 x2 S H locs ls h hP hS hl
    unfold f_X8_endsRun_25 at h
    refine lv_aload_n hx hb dX8_endsRun_25 rfl (lv_at hl 0 rfl) ?_
    refine es_get C hP (es_wM_0 a cI cZ N S) rfl inlX8 (j := 17) (by decide) es_u6_17 rfl dX8_endsRun_26 ?_
    refine lv_aload_n hx hb dX8_endsRun_29 rfl (lv_at hl 0 rfl) ?_
    refine es_get C hP (es_wM_0 a cI cZ N S) rfl inlX8 (j := 18) (by decide) es_u21_10 rfl dX8_endsRun_30 ?_
    refine lv_iload_n hx hb dX8_endsRun_33 rfl (lv_at hl 2 rfl) ?_
    replace h := es_ck_e h
    obtain ⟨b6, h⟩ := h
    refine es_ast C hP hS (es_wM_7 a cI cZ N S) (es_rM_7 a cI cZ N S) (t0 := 0) rfl b6 dX8_endsRun_34 (fun S7 eS7 H locs hP hS => ?_)
    replace h := es_lt_e eS7 h
    refine lv_aload_n hx hb dX8_endsRun_35 rfl (lv_at hl 0 rfl) ?_
    refine lv_dup hx hb dX8_endsRun_36 rfl ?_
    refine es_get C hP (es_wM_0 a cI cZ N S7) rfl inlX8 (j := 18) (by decide) es_u21_10 rfl dX8_endsRun_37 ?_
    refine lv_iconst (v := 1) hx hb dX8_endsRun_40 (by decide) ?_
    refine lv_iadd hx hb dX8_endsRun_41 ?_
    refine lv_topi (fun v8 ev8 => ?_)
    replace h := es_lt_e ev8 h
    refine es_put C hP hS (es_wM_0 a cI cZ N S7) rfl inlX8 tyX8_ok nmX8 (j := 18) (by decide) es_u21_10 rfl (tyX8_ok 18 (by decide)) rfl rfl (by simp) (es_sM_11 a cI cZ N S7 v8) dX8_endsRun_42 (fun S9 eS9 H locs hP hS => ?_)
    replace h := es_lt_e eS9 h
    refine lv_aload_n hx hb dX8_endsRun_45 rfl (lv_at hl 0 rfl) ?_
    refine lv_dup hx hb dX8_endsRun_46 rfl ?_
    refine es_get C hP (es_wM_0 a cI cZ N S9) rfl inlX8 (j := 15) (by decide) es_u21_17 rfl dX8_endsRun_47 ?_
    refine lv_iconst (v := 1) hx hb dX8_endsRun_50 (by decide) ?_
    refine lv_iadd hx hb dX8_endsRun_51 ?_
    refine lv_topi (fun v10 ev10 => ?_)
    replace h := es_lt_e ev10 h
    refine es_put C hP hS (es_wM_0 a cI cZ N S9) rfl inlX8 tyX8_ok nmX8 (j := 15) (by decide) es_u21_17 rfl (tyX8_ok 15 (by decide)) rfl rfl (by simp) (es_sM_10 a cI cZ N S9 v10) dX8_endsRun_52 (fun S11 eS11 H locs hP hS => ?_)
    replace h := es_lt_e eS11 h
    refine lv_aload_n hx hb dX8_endsRun_55 rfl (lv_at hl 0 rfl) ?_
    refine es_get C hP (es_wM_0 a cI cZ N S11) rfl inlX8 (j := 16) (by decide) es_u6_16 rfl dX8_endsRun_56 ?_
    refine lv_aload_n hx hb dX8_endsRun_59 rfl (lv_at hl 0 rfl) ?_
    refine es_get C hP (es_wM_0 a cI cZ N S11) rfl inlX8 (j := 15) (by decide) es_u21_17 rfl dX8_endsRun_60 ?_
    refine lv_iload_n hx hb dX8_endsRun_63 rfl (lv_at hl 1 rfl) ?_
    replace h := es_ck_e h
    obtain ⟨b12, h⟩ := h
    refine es_ast C hP hS (es_wM_6 a cI cZ N S11) (es_rM_6 a cI cZ N S11) (t0 := 0) rfl b12 dX8_endsRun_64 (fun S13 eS13 H locs hP hS => ?_)
    replace h := es_lt_e eS13 h
    refine lv_iload_n hx hb dX8_endsRun_65 rfl (lv_at hl 1 rfl) ?_
    exact es_iret C hr hlk h hP hS dX8_endsRun_66
  unfold f_X8_endsRun at h
  refine lv_iload_n hx hb dX8_endsRun_0 rfl (lv_at hl 1 rfl) ?_
  refine lv_aload_n hx hb dX8_endsRun_1 rfl (lv_at hl 0 rfl) ?_
  refine es_get C hP (es_wM_0 a cI cZ N S) rfl inlX8 (j := 16) (by decide) es_u6_16 rfl dX8_endsRun_2 ?_
  refine lv_aload_n hx hb dX8_endsRun_5 rfl (lv_at hl 0 rfl) ?_
  refine es_get C hP (es_wM_0 a cI cZ N S) rfl inlX8 (j := 15) (by decide) es_u21_17 rfl dX8_endsRun_6 ?_
  replace h := es_ck_e h
  obtain ⟨b1, h⟩ := h
  refine es_ald C hP (es_wM_6 a cI cZ N S) (t0 := 0) rfl b1 dX8_endsRun_9 ?_
  refine lv_topi (fun v2 ev2 => ?_)
  replace h := es_lt_e ev2 h
  refine lv_isub hx hb dX8_endsRun_10 ?_
  refine lv_topi (fun y3 ey3 => ?_)
  replace h := es_lt_e ey3 h
  refine lv_istore_n (lv' := [(2, .int y3), (0, .ref (a 0)), (1, .int p1)]) hx hb dX8_endsRun_11 rfl hl (by decide) rfl (fun ls hl => ?_)
  refine lv_iload_n hx hb dX8_endsRun_12 rfl (lv_at hl 0 rfl) ?_
  refine lv_aload_n hx hb dX8_endsRun_13 rfl (lv_at hl 1 rfl) ?_
  refine es_get C hP (es_wM_0 a cI cZ N S) rfl inlX8 (j := 1) (by decide) es_u7_9 rfl dX8_endsRun_14 ?_
  replace h := es_ck_e h
  obtain ⟨b4, h⟩ := h
  refine lv_irem hx hb dX8_endsRun_17 b4 ?_
  refine lv_if_eq (tgt := 25) hx hb dX8_endsRun_18 (by decide) (fun c5 => ?_) (fun c5 => ?_)
  · replace h := es_if_t c5 h
    exact J25  p1 y3 S _ _ _ h hP hS (lv_sub hl [1, 2, 0] rfl)
  · replace h := es_if_f c5 h
    refine lv_aload_n hx hb dX8_endsRun_21 rfl (lv_at hl 1 rfl) ?_
    replace h := es_bd_e h
    obtain ⟨r14, S15, g16, h⟩ := h
    refine es_callVv C (c_X8_writes l D cI cZ a N _ fu S S15 r14 g16) es_u22_16 es_mX8_writes ⟨rfl, rfl, by decide, by decide⟩ ⟨Nat.zero_le _, Nat.zero_le _⟩ hP hS (es_wM_0 a cI cZ N S) rfl rfl hl.1 rfl (Nat.le_of_ble_eq_true rfl) dX8_endsRun_22 (fun H locs _ _ hP hS => ?_)
    exact J25  p1 y3 S15 _ _ _ h hP hS (lv_sub hl [1, 2, 0] rfl)
