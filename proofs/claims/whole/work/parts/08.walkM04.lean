set_option maxHeartbeats 4000000 in
set_option maxRecDepth 100000 in
theorem c_X8_sorts (l : Launch) (D : va_G) (cI cZ : ClassId) (a : Nat → Nat) (N : Nat → Nat) (sz fu : Nat) (S S' : es_St) (p1 : Int32) (p2 : Int32) (p3 : Int32) (p4 : Int32) (p5 : Int32) (r : Int32) (h : f_X8_sorts N fu S p1 p2 p3 p4 p5 = some (r, S')) : Met l yX8_sorts (Cond.code yX8_sorts cX8_sorts 9 (some .int) :: wsL_law) ({ frames := 5, cells := 0, slots := 0, locals := 126 } : Room) (es_Pre [.ref (a 0), .int p1, .int p2, .int p3, .int p4, .int p5] D [(cI, .int), (cZ, .boolean)] (es_wM a cI cZ N) a 21 S sz) (es_Qi D (es_wM a cI cZ N) a 21 r S' sz) 0 0 (es_AA a 21 sz) := by
  refine es_intro (Qc := es_Qi D (es_wM a cI cZ N) a 21 r S') (by decide) (es_okM a cI cZ N) (Nat.le_of_ble_eq_true rfl) ?_
  intro p e s m below meth c C hr hlk hP ls hl
  have hx := C.1
  have hb := C.2.1
  have hown := C.2.2.2.1
  have hts := C.2.2.2.2.1
  have hS : va_S (es_AA a 21 s.heap.size) s.heap s.heap [] := va_S.rf
  replace hl : lv_has ls 9 [(0, .ref (a 0)), (1, .int p1), (2, .int p2), (3, .int p3), (4, .int p4), (5, .int p5)] := hl
  have J68 : ∀ n : Nat, (∀ (x2 : Int32) (x7 : Int32) (x8 : Int32) (S : es_St) (H : Heap) (locs : List Loc) (ls : Array Slot), f_X8_sorts_68 N fu n x2 x7 x8 S = some (r, S') → va_P D vwCl ((es_wM a cI cZ N) S) H → va_S (es_AA a 21 s.heap.size) s.heap H locs → lv_has ls 9 [(0, .ref (a 0)), (2, .int x2), (7, .int x7), (8, .int x8)] → W p l e ({ frames := 5, cells := 0, slots := 0, locals := 126 } : Room) s m ([.ref (a 0), .int p1, .int p2, .int p3, .int p4, .int p5] : List Value).toArray below meth c H locs 0 0 (MQ below (es_Qi D (es_wM a cI cZ N) a 21 r S' s.heap.size) ([.ref (a 0), .int p1, .int p2, .int p3, .int p4, .int p5] : List Value).toArray s 0 0 (es_AA a 21 s.heap.size)) (F0 m 68 ls [])) := by
    intro n
    induction n with
    | zero => intro x2 x7 x8 S H locs ls h; rw [f_X8_sorts_68] at h; cases h
    | succ n ih =>
      intro x2 x7 x8 S H locs ls h hP hS hl
      rw [f_X8_sorts_68] at h
      refine lv_iload hx hb dX8_sorts_68 (lv_at hl 3 rfl) ?_
      refine lv_iload hx hb dX8_sorts_70 (lv_at hl 2 rfl) ?_
      refine lv_icmp_ge (tgt := 131) hx hb dX8_sorts_72 (by decide) (fun c17 => ?_) (fun c17 => ?_)
      · replace h := es_if_t c17 h
        refine lv_aload_n hx hb dX8_sorts_131 rfl (lv_at hl 0 rfl) ?_
        replace h := es_bd_e h
        obtain ⟨r18, S19, g20, h⟩ := h
        refine es_callVv C (c_X8_tells l D cI cZ a N _ fu S S19 r18 g20) es_u23_20 es_mX8_tells ⟨rfl, rfl, by decide, by decide⟩ ⟨Nat.zero_le _, Nat.zero_le _⟩ hP hS (es_wM_0 a cI cZ N S) rfl rfl hl.1 rfl (Nat.le_of_ble_eq_true rfl) dX8_sorts_132 (fun H locs _ _ hP hS => ?_)
        refine lv_iload hx hb dX8_sorts_135 (lv_at hl 2 rfl) ?_
        exact es_iret C hr hlk h hP hS dX8_sorts_137
      · replace h := es_if_f c17 h
        refine lv_aload_n hx hb dX8_sorts_75 rfl (lv_at hl 0 rfl) ?_
        refine es_get C hP (es_wM_0 a cI cZ N S) rfl inlX8 (j := 2) (by decide) es_u6_11 rfl dX8_sorts_76 ?_
        refine lv_sipush (v := 8192) hx hb dX8_sorts_79 (by decide) ?_
        refine lv_iload_n hx hb dX8_sorts_82 rfl (lv_at hl 1 rfl) ?_
        refine lv_imul hx hb dX8_sorts_83 ?_
        refine lv_iload hx hb dX8_sorts_84 (lv_at hl 3 rfl) ?_
        refine lv_iadd hx hb dX8_sorts_86 ?_
        refine lv_aload_n hx hb dX8_sorts_87 rfl (lv_at hl 0 rfl) ?_
        refine es_get C hP (es_wM_0 a cI cZ N S) rfl inlX8 (j := 12) (by decide) es_u6_14 rfl dX8_sorts_88 ?_
        refine lv_aload_n hx hb dX8_sorts_91 rfl (lv_at hl 0 rfl) ?_
        refine es_get C hP (es_wM_0 a cI cZ N S) rfl inlX8 (j := 14) (by decide) es_u21_0 rfl dX8_sorts_92 ?_
        refine lv_iload hx hb dX8_sorts_95 (lv_at hl 3 rfl) ?_
        refine lv_iadd hx hb dX8_sorts_97 ?_
        replace h := es_ck_e h
        obtain ⟨b21, h⟩ := h
        refine es_ald C hP (es_wM_4 a cI cZ N S) (t0 := 0) rfl b21 dX8_sorts_98 ?_
        refine lv_topi (fun v22 ev22 => ?_)
        replace h := es_lt_e ev22 h
        replace h := es_ck_e h
        obtain ⟨b23, h⟩ := h
        refine es_ast C hP hS (es_wM_1 a cI cZ N S) (es_rM_1 a cI cZ N S) (t0 := 0) rfl b23 dX8_sorts_99 (fun S24 eS24 H locs hP hS => ?_)
        replace h := es_lt_e eS24 h
        refine lv_aload_n hx hb dX8_sorts_100 rfl (lv_at hl 0 rfl) ?_
        refine es_get C hP (es_wM_0 a cI cZ N S24) rfl inlX8 (j := 3) (by decide) es_u6_12 rfl dX8_sorts_101 ?_
        refine lv_sipush (v := 8192) hx hb dX8_sorts_104 (by decide) ?_
        refine lv_iload_n hx hb dX8_sorts_107 rfl (lv_at hl 1 rfl) ?_
        refine lv_imul hx hb dX8_sorts_108 ?_
        refine lv_iload hx hb dX8_sorts_109 (lv_at hl 3 rfl) ?_
        refine lv_iadd hx hb dX8_sorts_111 ?_
        refine lv_aload_n hx hb dX8_sorts_112 rfl (lv_at hl 0 rfl) ?_
        refine es_get C hP (es_wM_0 a cI cZ N S24) rfl inlX8 (j := 13) (by decide) es_u6_15 rfl dX8_sorts_113 ?_
        refine lv_aload_n hx hb dX8_sorts_116 rfl (lv_at hl 0 rfl) ?_
        refine es_get C hP (es_wM_0 a cI cZ N S24) rfl inlX8 (j := 14) (by decide) es_u21_0 rfl dX8_sorts_117 ?_
        refine lv_iload hx hb dX8_sorts_120 (lv_at hl 3 rfl) ?_
        refine lv_iadd hx hb dX8_sorts_122 ?_
        replace h := es_ck_e h
        obtain ⟨b25, h⟩ := h
        refine es_ald C hP (es_wM_5 a cI cZ N S24) (t0 := 0) rfl b25 dX8_sorts_123 ?_
        refine lv_topi (fun v26 ev26 => ?_)
        replace h := es_lt_e ev26 h
        replace h := es_ck_e h
        obtain ⟨b27, h⟩ := h
        refine es_ast C hP hS (es_wM_2 a cI cZ N S24) (es_rM_2 a cI cZ N S24) (t0 := 0) rfl b27 dX8_sorts_124 (fun S28 eS28 H locs hP hS => ?_)
        replace h := es_lt_e eS28 h
        obtain ⟨y29, ey29⟩ : ∃ y : Int32, y = x8 + 1 := ⟨_, rfl⟩
        refine lv_iinc (v := y29) (lv' := [(8, .int y29), (0, .ref (a 0)), (2, .int x2), (7, .int x7)]) hx hb dX8_sorts_125 hl (k := 3) rfl (by rw [ey29]; rfl) (by decide) rfl (fun ls hl => ?_)
        replace h := es_lt_e ey29 h
        refine lv_goto (tgt := 68) hx hb dX8_sorts_128 (by decide) ?_
        exact ih x2 x7 y29 S28 _ _ _ h hP hS (lv_sub hl [1, 2, 3, 0] rfl)
  unfold f_X8_sorts at h
  refine lv_aload_n hx hb dX8_sorts_0 rfl (lv_at hl 0 rfl) ?_
  refine es_get C hP (es_wM_0 a cI cZ N S) rfl inlX8 (j := 5) (by decide) es_u9_13 rfl dX8_sorts_1 ?_
  refine lv_istore (lv' := [(6, .int (S.1 2)), (0, .ref (a 0)), (1, .int p1), (2, .int p2), (3, .int p3), (4, .int p4), (5, .int p5)]) hx hb dX8_sorts_4 hl (by decide) rfl (fun ls hl => ?_)
  refine lv_aload_n hx hb dX8_sorts_6 rfl (lv_at hl 1 rfl) ?_
  replace h := es_bd_e h
  obtain ⟨r1, S2, g3, h⟩ := h
  refine es_callVv C (c_X8_begins l D cI cZ a N _ fu S S2 r1 g3) es_u21_1 es_mX8_begins ⟨rfl, rfl, by decide, by decide⟩ ⟨Nat.zero_le _, Nat.zero_le _⟩ hP hS (es_wM_0 a cI cZ N S) rfl rfl hl.1 rfl (Nat.le_of_ble_eq_true rfl) dX8_sorts_7 (fun H locs _ _ hP hS => ?_)
  refine lv_aload_n hx hb dX8_sorts_10 rfl (lv_at hl 1 rfl) ?_
  refine lv_iload_n hx hb dX8_sorts_11 rfl (lv_at hl 2 rfl) ?_
  refine lv_iload_n hx hb dX8_sorts_12 rfl (lv_at hl 4 rfl) ?_
  refine lv_iload hx hb dX8_sorts_13 (lv_at hl 5 rfl) ?_
  refine lv_iload hx hb dX8_sorts_15 (lv_at hl 6 rfl) ?_
  replace h := es_bd_e h
  obtain ⟨r4, S5, g6, h⟩ := h
  refine es_callVi C (c_X8_sorted l D cI cZ a N _ fu S2 S5 p1 p3 p4 p5 r4 g6) es_u21_11 es_mX8_sorted ⟨rfl, rfl, by decide, by decide⟩ ⟨Nat.zero_le _, Nat.zero_le _⟩ hP hS (es_wM_0 a cI cZ N S2) rfl rfl hl.1 rfl (Nat.le_of_ble_eq_true rfl) dX8_sorts_17 (fun H locs _ _ hP hS => ?_)
  refine lv_istore (lv' := [(7, .int r4), (6, .int (S.1 2)), (0, .ref (a 0)), (1, .int p1), (2, .int p2), (3, .int p3), (4, .int p4), (5, .int p5)]) hx hb dX8_sorts_20 hl (by decide) rfl (fun ls hl => ?_)
  refine lv_aload_n hx hb dX8_sorts_22 rfl (lv_at hl 2 rfl) ?_
  refine es_get C hP (es_wM_0 a cI cZ N S5) rfl inlX8 (j := 11) (by decide) es_u20_23 rfl dX8_sorts_23 ?_
  refine lv_if_eq (tgt := 38) hx hb dX8_sorts_26 (by decide) (fun c7 => ?_) (fun c7 => ?_)
  · replace h := es_if_t c7 h
    refine lv_aload_n hx hb dX8_sorts_38 rfl (lv_at hl 2 rfl) ?_
    refine lv_dup hx hb dX8_sorts_39 rfl ?_
    refine es_get C hP (es_wM_0 a cI cZ N S5) rfl inlX8 (j := 5) (by decide) es_u9_13 rfl dX8_sorts_40 ?_
    refine lv_aload_n hx hb dX8_sorts_43 rfl (lv_at hl 2 rfl) ?_
    refine lv_aload_n hx hb dX8_sorts_44 rfl (lv_at hl 2 rfl) ?_
    refine es_get C hP (es_wM_0 a cI cZ N S5) rfl inlX8 (j := 4) (by decide) es_u6_13 rfl dX8_sorts_45 ?_
    refine lv_iload_n hx hb dX8_sorts_48 rfl (lv_at hl 4 rfl) ?_
    replace h := es_ck_e h
    obtain ⟨b8, h⟩ := h
    refine es_ald C hP (es_wM_3 a cI cZ N S5) (t0 := 0) rfl b8 dX8_sorts_49 ?_
    refine lv_topi (fun v9 ev9 => ?_)
    replace h := es_lt_e ev9 h
    replace h := es_bd_e h
    obtain ⟨r10, S11, g12, h⟩ := h
    refine es_callVi C (c_X8_pagesOf l D cI cZ a N _ fu S5 S11 v9 r10 g12) es_u10_12 es_mX8_pagesOf ⟨rfl, rfl, by decide, by decide⟩ ⟨Nat.zero_le _, Nat.zero_le _⟩ hP hS (es_wM_0 a cI cZ N S5) rfl rfl hl.1 rfl (Nat.le_of_ble_eq_true rfl) dX8_sorts_50 (fun H locs _ _ hP hS => ?_)
    refine lv_isub hx hb dX8_sorts_53 ?_
    refine lv_topi (fun v13 ev13 => ?_)
    replace h := es_lt_e ev13 h
    refine es_put C hP hS (es_wM_0 a cI cZ N S11) rfl inlX8 tyX8_ok nmX8 (j := 5) (by decide) es_u9_13 rfl (tyX8_ok 5 (by decide)) rfl rfl (by simp) (es_sM_2 a cI cZ N S11 v13) dX8_sorts_54 (fun S14 eS14 H locs hP hS => ?_)
    replace h := es_lt_e eS14 h
    refine lv_aload_n hx hb dX8_sorts_57 rfl (lv_at hl 2 rfl) ?_
    refine es_get C hP (es_wM_0 a cI cZ N S14) rfl inlX8 (j := 4) (by decide) es_u6_13 rfl dX8_sorts_58 ?_
    refine lv_iload_n hx hb dX8_sorts_61 rfl (lv_at hl 4 rfl) ?_
    refine lv_iload hx hb dX8_sorts_62 (lv_at hl 0 rfl) ?_
    replace h := es_ck_e h
    obtain ⟨b15, h⟩ := h
    refine es_ast C hP hS (es_wM_3 a cI cZ N S14) (es_rM_3 a cI cZ N S14) (t0 := 0) rfl b15 dX8_sorts_64 (fun S16 eS16 H locs hP hS => ?_)
    replace h := es_lt_e eS16 h
    refine lv_iconst (v := 0) hx hb dX8_sorts_65 (by decide) ?_
    refine lv_istore (lv' := [(8, .int 0), (7, .int r4), (6, .int (S.1 2)), (0, .ref (a 0)), (1, .int p1), (2, .int p2), (3, .int p3), (4, .int p4), (5, .int p5)]) hx hb dX8_sorts_66 hl (by decide) rfl (fun ls hl => ?_)
    exact J68  fu p2 r4 0 S16 _ _ _ h hP hS (lv_sub hl [3, 5, 1, 0] rfl)
  · replace h := es_if_f c7 h
    refine lv_aload_n hx hb dX8_sorts_29 rfl (lv_at hl 2 rfl) ?_
    refine lv_iload hx hb dX8_sorts_30 (lv_at hl 1 rfl) ?_
    refine es_put C hP hS (es_wM_0 a cI cZ N S5) rfl inlX8 tyX8_ok nmX8 (j := 5) (by decide) es_u9_13 rfl (tyX8_ok 5 (by decide)) rfl rfl (by simp) (es_sM_2 a cI cZ N S5 (S.1 2)) dX8_sorts_32 (fun S30 eS30 H locs hP hS => ?_)
    replace h := es_lt_e eS30 h
    refine lv_bipush (v := (-2)) hx hb dX8_sorts_35 (by decide) ?_
    exact es_iret C hr hlk h hP hS dX8_sorts_37

set_option maxHeartbeats 4000000 in
set_option maxRecDepth 100000 in
theorem c_X8_distinct (l : Launch) (D : va_G) (cI cZ : ClassId) (a : Nat → Nat) (N : Nat → Nat) (sz fu : Nat) (S S' : es_St) (p1 : Int32) (p2 : Int32) (p3 : Int32) (r : Int32) (h : f_X8_distinct N fu S p1 p2 p3 = some (r, S')) : Met l yX8_distinct (Cond.code yX8_distinct cX8_distinct 4 (some .int) :: wsL_law) ({ frames := 6, cells := 0, slots := 0, locals := 154 } : Room) (es_Pre [.ref (a 0), .int p1, .int p2, .int p3] D [(cI, .int), (cZ, .boolean)] (es_wM a cI cZ N) a 21 S sz) (es_Qi D (es_wM a cI cZ N) a 21 r S' sz) 0 0 (es_AA a 21 sz) := by
  refine es_intro (Qc := es_Qi D (es_wM a cI cZ N) a 21 r S') (by decide) (es_okM a cI cZ N) (Nat.le_of_ble_eq_true rfl) ?_
  intro p e s m below meth c C hr hlk hP ls hl
  have hx := C.1
  have hb := C.2.1
  have hown := C.2.2.2.1
  have hts := C.2.2.2.2.1
  have hS : va_S (es_AA a 21 s.heap.size) s.heap s.heap [] := va_S.rf
  replace hl : lv_has ls 4 [(0, .ref (a 0)), (1, .int p1), (2, .int p2), (3, .int p3)] := hl
  unfold f_X8_distinct at h
  refine lv_iload_n hx hb dX8_distinct_0 rfl (lv_at hl 1 rfl) ?_
  replace h := es_bd_e h
  obtain ⟨r1, S2, g3, h⟩ := h
  refine es_callSi C (c_X8_isFile l D cI cZ a N _ fu S S2 p1 r1 g3) es_u9_14 es_mX8_isFile ⟨rfl, rfl, by decide, by decide⟩ ⟨Nat.zero_le _, Nat.zero_le _⟩ hP hS rfl hl.1 rfl (Nat.le_of_ble_eq_true rfl) dX8_distinct_1 (fun H locs _ _ hP hS => ?_)
  refine lv_if_eq (tgt := 36) hx hb dX8_distinct_4 (by decide) (fun c4 => ?_) (fun c4 => ?_)
  · replace h := es_if_t c4 h
    refine lv_iconst (v := (-1)) hx hb dX8_distinct_36 (by decide) ?_
    exact es_iret C hr hlk h hP hS dX8_distinct_37
  · replace h := es_if_f c4 h
    refine lv_iload_n hx hb dX8_distinct_7 rfl (lv_at hl 2 rfl) ?_
    replace h := es_bd_e h
    obtain ⟨r5, S6, g7, h⟩ := h
    refine es_callSi C (c_X8_isFile l D cI cZ a N _ fu S2 S6 p2 r5 g7) es_u9_14 es_mX8_isFile ⟨rfl, rfl, by decide, by decide⟩ ⟨Nat.zero_le _, Nat.zero_le _⟩ hP hS rfl hl.1 rfl (Nat.le_of_ble_eq_true rfl) dX8_distinct_8 (fun H locs _ _ hP hS => ?_)
    refine lv_if_eq (tgt := 36) hx hb dX8_distinct_11 (by decide) (fun c8 => ?_) (fun c8 => ?_)
    · replace h := es_if_t c8 h
      refine lv_iconst (v := (-1)) hx hb dX8_distinct_36 (by decide) ?_
      exact es_iret C hr hlk h hP hS dX8_distinct_37
    · replace h := es_if_f c8 h
      refine lv_iload_n hx hb dX8_distinct_14 rfl (lv_at hl 3 rfl) ?_
      refine lv_iconst (v := 3) hx hb dX8_distinct_15 (by decide) ?_
      refine lv_bipush (v := 16) hx hb dX8_distinct_16 (by decide) ?_
      replace h := es_bd_e h
      obtain ⟨r9, S10, g11, h⟩ := h
      refine es_callSi C (c_X8_in l D cI cZ a N _ fu S6 S10 p3 3 16 r9 g11) es_u9_17 es_mX8_in ⟨rfl, rfl, by decide, by decide⟩ ⟨Nat.zero_le _, Nat.zero_le _⟩ hP hS rfl hl.1 rfl (Nat.le_of_ble_eq_true rfl) dX8_distinct_18 (fun H locs _ _ hP hS => ?_)
      refine lv_if_eq (tgt := 36) hx hb dX8_distinct_21 (by decide) (fun c12 => ?_) (fun c12 => ?_)
      · replace h := es_if_t c12 h
        refine lv_iconst (v := (-1)) hx hb dX8_distinct_36 (by decide) ?_
        exact es_iret C hr hlk h hP hS dX8_distinct_37
      · replace h := es_if_f c12 h
        refine lv_aload_n hx hb dX8_distinct_24 rfl (lv_at hl 0 rfl) ?_
        refine lv_iload_n hx hb dX8_distinct_25 rfl (lv_at hl 1 rfl) ?_
        refine lv_iload_n hx hb dX8_distinct_26 rfl (lv_at hl 2 rfl) ?_
        refine lv_iload_n hx hb dX8_distinct_27 rfl (lv_at hl 3 rfl) ?_
        refine lv_iconst (v := 1) hx hb dX8_distinct_28 (by decide) ?_
        refine lv_iconst (v := 1) hx hb dX8_distinct_29 (by decide) ?_
        replace h := es_bd_e h
        obtain ⟨r13, S14, g15, h⟩ := h
        refine es_callVi C (c_X8_sorts l D cI cZ a N _ fu S10 S14 p1 p2 p3 1 1 r13 g15) es_u20_19 es_mX8_sorts ⟨rfl, rfl, by decide, by decide⟩ ⟨Nat.zero_le _, Nat.zero_le _⟩ hP hS (es_wM_0 a cI cZ N S10) rfl rfl hl.1 rfl (Nat.le_of_ble_eq_true rfl) dX8_distinct_30 (fun H locs _ _ hP hS => ?_)
        refine lv_goto (tgt := 37) hx hb dX8_distinct_33 (by decide) ?_
        exact es_iret C hr hlk h hP hS dX8_distinct_37

set_option maxHeartbeats 4000000 in
set_option maxRecDepth 100000 in
theorem c_X8_drop (l : Launch) (D : va_G) (cI cZ : ClassId) (a : Nat → Nat) (N : Nat → Nat) (sz fu : Nat) (S S' : es_St) (p1 : Int32) (r : Int32) (h : f_X8_drop N fu S p1 = some (r, S')) : Met l yX8_drop (Cond.code yX8_drop cX8_drop 3 (some .int) :: wsL_law) ({ frames := 2, cells := 0, slots := 0, locals := 42 } : Room) (es_Pre [.ref (a 0), .int p1] D [(cI, .int), (cZ, .boolean)] (es_wM a cI cZ N) a 21 S sz) (es_Qi D (es_wM a cI cZ N) a 21 r S' sz) 0 0 (es_AA a 21 sz) := by
  refine es_intro (Qc := es_Qi D (es_wM a cI cZ N) a 21 r S') (by decide) (es_okM a cI cZ N) (Nat.le_of_ble_eq_true rfl) ?_
  intro p e s m below meth c C hr hlk hP ls hl
  have hx := C.1
  have hb := C.2.1
  have hown := C.2.2.2.1
  have hts := C.2.2.2.2.1
  have hS : va_S (es_AA a 21 s.heap.size) s.heap s.heap [] := va_S.rf
  replace hl : lv_has ls 3 [(0, .ref (a 0)), (1, .int p1)] := hl
  unfold f_X8_drop at h
  refine lv_iload_n hx hb dX8_drop_0 rfl (lv_at hl 1 rfl) ?_
  replace h := es_bd_e h
  obtain ⟨r1, S2, g3, h⟩ := h
  refine es_callSi C (c_X8_isFile l D cI cZ a N _ fu S S2 p1 r1 g3) es_u9_14 es_mX8_isFile ⟨rfl, rfl, by decide, by decide⟩ ⟨Nat.zero_le _, Nat.zero_le _⟩ hP hS rfl hl.1 rfl (Nat.le_of_ble_eq_true rfl) dX8_drop_1 (fun H locs _ _ hP hS => ?_)
  refine lv_if_ne (tgt := 9) hx hb dX8_drop_4 (by decide) (fun c4 => ?_) (fun c4 => ?_)
  · replace h := es_if_t c4 h
    refine lv_aload_n hx hb dX8_drop_9 rfl (lv_at hl 0 rfl) ?_
    refine lv_aload_n hx hb dX8_drop_10 rfl (lv_at hl 0 rfl) ?_
    refine es_get C hP (es_wM_0 a cI cZ N S2) rfl inlX8 (j := 4) (by decide) es_u6_13 rfl dX8_drop_11 ?_
    refine lv_iload_n hx hb dX8_drop_14 rfl (lv_at hl 1 rfl) ?_
    replace h := es_ck_e h
    obtain ⟨b5, h⟩ := h
    refine es_ald C hP (es_wM_3 a cI cZ N S2) (t0 := 0) rfl b5 dX8_drop_15 ?_
    refine lv_topi (fun v6 ev6 => ?_)
    replace h := es_lt_e ev6 h
    replace h := es_bd_e h
    obtain ⟨r7, S8, g9, h⟩ := h
    refine es_callVi C (c_X8_pagesOf l D cI cZ a N _ fu S2 S8 v6 r7 g9) es_u10_12 es_mX8_pagesOf ⟨rfl, rfl, by decide, by decide⟩ ⟨Nat.zero_le _, Nat.zero_le _⟩ hP hS (es_wM_0 a cI cZ N S2) rfl rfl hl.1 rfl (Nat.le_of_ble_eq_true rfl) dX8_drop_16 (fun H locs _ _ hP hS => ?_)
    refine lv_istore_n (lv' := [(2, .int r7), (0, .ref (a 0)), (1, .int p1)]) hx hb dX8_drop_19 rfl hl (by decide) rfl (fun ls hl => ?_)
    refine lv_aload_n hx hb dX8_drop_20 rfl (lv_at hl 1 rfl) ?_
    refine es_get C hP (es_wM_0 a cI cZ N S8) rfl inlX8 (j := 4) (by decide) es_u6_13 rfl dX8_drop_21 ?_
    refine lv_iload_n hx hb dX8_drop_24 rfl (lv_at hl 2 rfl) ?_
    refine lv_iconst (v := 0) hx hb dX8_drop_25 (by decide) ?_
    replace h := es_ck_e h
    obtain ⟨b10, h⟩ := h
    refine es_ast C hP hS (es_wM_3 a cI cZ N S8) (es_rM_3 a cI cZ N S8) (t0 := 0) rfl b10 dX8_drop_26 (fun S11 eS11 H locs hP hS => ?_)
    replace h := es_lt_e eS11 h
    refine lv_aload_n hx hb dX8_drop_27 rfl (lv_at hl 1 rfl) ?_
    refine lv_dup hx hb dX8_drop_28 rfl ?_
    refine es_get C hP (es_wM_0 a cI cZ N S11) rfl inlX8 (j := 5) (by decide) es_u9_13 rfl dX8_drop_29 ?_
    refine lv_iload_n hx hb dX8_drop_32 rfl (lv_at hl 0 rfl) ?_
    refine lv_isub hx hb dX8_drop_33 ?_
    refine lv_topi (fun v12 ev12 => ?_)
    replace h := es_lt_e ev12 h
    refine es_put C hP hS (es_wM_0 a cI cZ N S11) rfl inlX8 tyX8_ok nmX8 (j := 5) (by decide) es_u9_13 rfl (tyX8_ok 5 (by decide)) rfl rfl (by simp) (es_sM_2 a cI cZ N S11 v12) dX8_drop_34 (fun S13 eS13 H locs hP hS => ?_)
    replace h := es_lt_e eS13 h
    refine lv_iload_n hx hb dX8_drop_37 rfl (lv_at hl 0 rfl) ?_
    exact es_iret C hr hlk h hP hS dX8_drop_38
  · replace h := es_if_f (fun q => q c4) h
    refine lv_iconst (v := (-1)) hx hb dX8_drop_7 (by decide) ?_
    exact es_iret C hr hlk h hP hS dX8_drop_8

set_option maxHeartbeats 4000000 in
set_option maxRecDepth 100000 in
theorem c_X8_joined (l : Launch) (D : va_G) (cI cZ : ClassId) (a : Nat → Nat) (N : Nat → Nat) (sz fu : Nat) (S S' : es_St) (p1 : Int32) (p2 : Int32) (p3 : Int32) (p4 : Int32) (r : Int32) (h : f_X8_joined N fu S p1 p2 p3 p4 = some (r, S')) : Met l yX8_joined (Cond.code yX8_joined cX8_joined 12 (some .int) :: wsL_law) ({ frames := 0, cells := 0, slots := 0, locals := 0 } : Room) (es_Pre [.ref (a 0), .int p1, .int p2, .int p3, .int p4] D [(cI, .int), (cZ, .boolean)] (es_wM a cI cZ N) a 21 S sz) (es_Qi D (es_wM a cI cZ N) a 21 r S' sz) 0 0 (es_AA a 21 sz) := by
  refine es_intro (Qc := es_Qi D (es_wM a cI cZ N) a 21 r S') (by decide) (es_okM a cI cZ N) (Nat.le_of_ble_eq_true rfl) ?_
  intro p e s m below meth c C hr hlk hP ls hl
  have hx := C.1
  have hb := C.2.1
  have hown := C.2.2.2.1
  have hts := C.2.2.2.2.1
  have hS : va_S (es_AA a 21 s.heap.size) s.heap s.heap [] := va_S.rf
  replace hl : lv_has ls 12 [(0, .ref (a 0)), (1, .int p1), (2, .int p2), (3, .int p3), (4, .int p4)] := hl
  have J168 : ∀ n : Nat, (∀ (x2 : Int32) (x3 : Int32) (x4 : Int32) (x5 : Int64) (x9 : Int32) (x10 : Int32) (S : es_St) (H : Heap) (locs : List Loc) (ls : Array Slot), f_X8_joined_168 N fu n x2 x3 x4 x5 x9 x10 S = some (r, S') → va_P D vwCl ((es_wM a cI cZ N) S) H → va_S (es_AA a 21 s.heap.size) s.heap H locs → lv_has ls 12 [(0, .ref (a 0)), (2, .int x2), (3, .int x3), (4, .int x4), (5, .long x5), (9, .int x9), (10, .int x10)] → W p l e ({ frames := 0, cells := 0, slots := 0, locals := 0 } : Room) s m ([.ref (a 0), .int p1, .int p2, .int p3, .int p4] : List Value).toArray below meth c H locs 0 0 (MQ below (es_Qi D (es_wM a cI cZ N) a 21 r S' s.heap.size) ([.ref (a 0), .int p1, .int p2, .int p3, .int p4] : List Value).toArray s 0 0 (es_AA a 21 s.heap.size)) (F0 m 168 ls [])) := by
    intro n
    induction n with
    | zero => intro x2 x3 x4 x5 x9 x10 S H locs ls h; rw [f_X8_joined_168] at h; cases h
    | succ n ih =>
      intro x2 x3 x4 x5 x9 x10 S H locs ls h hP hS hl
      rw [f_X8_joined_168] at h
      refine lv_iload hx hb dX8_joined_168 (lv_at hl 6 rfl) ?_
      refine lv_iload_n hx hb dX8_joined_170 rfl (lv_at hl 1 rfl) ?_
      refine lv_icmp_ge (tgt := 219) hx hb dX8_joined_171 (by decide) (fun c2 => ?_) (fun c2 => ?_)
      · replace h := es_if_t c2 h
        refine lv_aload_n hx hb dX8_joined_219 rfl (lv_at hl 0 rfl) ?_
        refine es_get C hP (es_wM_0 a cI cZ N S) rfl inlX8 (j := 0) (by decide) es_u7_8 rfl dX8_joined_220 ?_
        refine lv_iload_n hx hb dX8_joined_223 rfl (lv_at hl 2 rfl) ?_
        refine lv_isub hx hb dX8_joined_224 ?_
        refine lv_i2l hx hb dX8_joined_225 rfl ?_
        refine lv_topl (fun y3 ey3 => ?_)
        replace h := es_lt_e ey3 h
        refine lv_lstore (lv' := [(10, .long y3), (0, .ref (a 0)), (2, .int x2), (3, .int x3), (4, .int x4), (5, .long x5), (9, .int x9)]) hx hb dX8_joined_226 hl (by decide) rfl (fun ls hl => ?_)
        refine lv_iload hx hb dX8_joined_228 (lv_at hl 6 rfl) ?_
        refine lv_if_eq (tgt := 238) hx hb dX8_joined_230 (by decide) (fun c4 => ?_) (fun c4 => ?_)
        · replace h := es_if_t c4 h
          refine lv_lload hx hb dX8_joined_238 (lv_at hl 5 rfl) ?_
          refine lv_lload hx hb dX8_joined_240 (lv_at hl 0 rfl) ?_
          refine lv_aload_n hx hb dX8_joined_242 rfl (lv_at hl 1 rfl) ?_
          refine es_get C hP (es_wM_0 a cI cZ N S) rfl inlX8 (j := 1) (by decide) es_u7_9 rfl dX8_joined_243 ?_
          refine lv_i2l hx hb dX8_joined_246 rfl ?_
          refine lv_lmul hx hb dX8_joined_247 ?_
          refine W.lcmp hx hb dX8_joined_248 ?_
          refine lv_if_le (tgt := 257) hx hb dX8_joined_249 (by decide) (fun c5 => ?_) (fun c5 => ?_)
          · replace h := es_if_t c5 h
            refine lv_lload hx hb dX8_joined_257 (lv_at hl 5 rfl) ?_
            refine lv_l2i hx hb dX8_joined_259 rfl ?_
            exact es_iret C hr hlk h hP hS dX8_joined_260
          · replace h := es_if_f c5 h
            refine lv_bipush (v := (-2)) hx hb dX8_joined_252 (by decide) ?_
            refine lv_goto (tgt := 260) hx hb dX8_joined_254 (by decide) ?_
            exact es_iret C hr hlk h hP hS dX8_joined_260
        · replace h := es_if_f c4 h
          refine lv_bipush (v := (-3)) hx hb dX8_joined_233 (by decide) ?_
          refine lv_goto (tgt := 260) hx hb dX8_joined_235 (by decide) ?_
          exact es_iret C hr hlk h hP hS dX8_joined_260
      · replace h := es_if_f c2 h
        refine lv_iload hx hb dX8_joined_174 (lv_at hl 5 rfl) ?_
        refine lv_if_ne (tgt := 206) hx hb dX8_joined_176 (by decide) (fun c6 => ?_) (fun c6 => ?_)
        · replace h := es_if_t c6 h
          refine lv_iconst (v := 1) hx hb dX8_joined_206 (by decide) ?_
          refine lv_goto (tgt := 211) hx hb dX8_joined_207 (by decide) ?_
          refine lv_istore (lv' := [(9, .int 1), (0, .ref (a 0)), (2, .int x2), (3, .int x3), (4, .int x4), (5, .long x5), (10, .int x10)]) hx hb dX8_joined_211 hl (by decide) rfl (fun ls hl => ?_)
          obtain ⟨y7, ey7⟩ : ∃ y : Int32, y = x10 + 1 := ⟨_, rfl⟩
          refine lv_iinc (v := y7) (lv' := [(10, .int y7), (9, .int 1), (0, .ref (a 0)), (2, .int x2), (3, .int x3), (4, .int x4), (5, .long x5)]) hx hb dX8_joined_213 hl (k := 6) rfl (by rw [ey7]; rfl) (by decide) rfl (fun ls hl => ?_)
          replace h := es_lt_e ey7 h
          refine lv_goto (tgt := 168) hx hb dX8_joined_216 (by decide) ?_
          exact ih x2 x3 x4 x5 1 y7 S _ _ _ h hP hS (lv_sub hl [2, 3, 4, 5, 6, 1, 0] rfl)
        · replace h := es_if_f (fun q => q c6) h
          refine lv_iload hx hb dX8_joined_179 (lv_at hl 6 rfl) ?_
          refine lv_iload hx hb dX8_joined_181 (lv_at hl 3 rfl) ?_
          refine lv_icmp_lt (tgt := 210) hx hb dX8_joined_183 (by decide) (fun c8 => ?_) (fun c8 => ?_)
          · replace h := es_if_t c8 h
            refine lv_iconst (v := 0) hx hb dX8_joined_210 (by decide) ?_
            refine lv_istore (lv' := [(9, .int 0), (0, .ref (a 0)), (2, .int x2), (3, .int x3), (4, .int x4), (5, .long x5), (10, .int x10)]) hx hb dX8_joined_211 hl (by decide) rfl (fun ls hl => ?_)
            obtain ⟨y9, ey9⟩ : ∃ y : Int32, y = x10 + 1 := ⟨_, rfl⟩
            refine lv_iinc (v := y9) (lv' := [(10, .int y9), (9, .int 0), (0, .ref (a 0)), (2, .int x2), (3, .int x3), (4, .int x4), (5, .long x5)]) hx hb dX8_joined_213 hl (k := 6) rfl (by rw [ey9]; rfl) (by decide) rfl (fun ls hl => ?_)
            replace h := es_lt_e ey9 h
            refine lv_goto (tgt := 168) hx hb dX8_joined_216 (by decide) ?_
            exact ih x2 x3 x4 x5 0 y9 S _ _ _ h hP hS (lv_sub hl [2, 3, 4, 5, 6, 1, 0] rfl)
          · replace h := es_if_f c8 h
            refine lv_aload_n hx hb dX8_joined_186 rfl (lv_at hl 0 rfl) ?_
            refine es_get C hP (es_wM_0 a cI cZ N S) rfl inlX8 (j := 35) (by decide) es_u7_6 rfl dX8_joined_187 ?_
            refine lv_iload hx hb dX8_joined_190 (lv_at hl 6 rfl) ?_
            refine lv_iload hx hb dX8_joined_192 (lv_at hl 3 rfl) ?_
            refine lv_isub hx hb dX8_joined_194 ?_
            replace h := es_ck_e h
            obtain ⟨b10, h⟩ := h
            refine es_ald C hP (es_wM_19 a cI cZ N S) (t0 := 0) rfl b10 dX8_joined_195 ?_
            refine lv_topi (fun v11 ev11 => ?_)
            replace h := es_lt_e ev11 h
            refine lv_aload_n hx hb dX8_joined_196 rfl (lv_at hl 0 rfl) ?_
            refine es_get C hP (es_wM_0 a cI cZ N S) rfl inlX8 (j := 35) (by decide) es_u7_6 rfl dX8_joined_197 ?_
            refine lv_iload hx hb dX8_joined_200 (lv_at hl 6 rfl) ?_
            replace h := es_ck_e h
            obtain ⟨b12, h⟩ := h
            refine es_ald C hP (es_wM_19 a cI cZ N S) (t0 := 0) rfl b12 dX8_joined_202 ?_
            refine lv_topi (fun v13 ev13 => ?_)
            replace h := es_lt_e ev13 h
            refine lv_icmp_ne (tgt := 210) hx hb dX8_joined_203 (by decide) (fun c14 => ?_) (fun c14 => ?_)
            · replace h := es_if_t c14 h
              refine lv_iconst (v := 0) hx hb dX8_joined_210 (by decide) ?_
              refine lv_istore (lv' := [(9, .int 0), (0, .ref (a 0)), (2, .int x2), (3, .int x3), (4, .int x4), (5, .long x5), (10, .int x10)]) hx hb dX8_joined_211 hl (by decide) rfl (fun ls hl => ?_)
              obtain ⟨y15, ey15⟩ : ∃ y : Int32, y = x10 + 1 := ⟨_, rfl⟩
              refine lv_iinc (v := y15) (lv' := [(10, .int y15), (9, .int 0), (0, .ref (a 0)), (2, .int x2), (3, .int x3), (4, .int x4), (5, .long x5)]) hx hb dX8_joined_213 hl (k := 6) rfl (by rw [ey15]; rfl) (by decide) rfl (fun ls hl => ?_)
              replace h := es_lt_e ey15 h
              refine lv_goto (tgt := 168) hx hb dX8_joined_216 (by decide) ?_
              exact ih x2 x3 x4 x5 0 y15 S _ _ _ h hP hS (lv_sub hl [2, 3, 4, 5, 6, 1, 0] rfl)
            · replace h := es_if_f (fun q => q c14) h
              refine lv_iconst (v := 1) hx hb dX8_joined_206 (by decide) ?_
              refine lv_goto (tgt := 211) hx hb dX8_joined_207 (by decide) ?_
              refine lv_istore (lv' := [(9, .int 1), (0, .ref (a 0)), (2, .int x2), (3, .int x3), (4, .int x4), (5, .long x5), (10, .int x10)]) hx hb dX8_joined_211 hl (by decide) rfl (fun ls hl => ?_)
              obtain ⟨y16, ey16⟩ : ∃ y : Int32, y = x10 + 1 := ⟨_, rfl⟩
              refine lv_iinc (v := y16) (lv' := [(10, .int y16), (9, .int 1), (0, .ref (a 0)), (2, .int x2), (3, .int x3), (4, .int x4), (5, .long x5)]) hx hb dX8_joined_213 hl (k := 6) rfl (by rw [ey16]; rfl) (by decide) rfl (fun ls hl => ?_)
              replace h := es_lt_e ey16 h
              refine lv_goto (tgt := 168) hx hb dX8_joined_216 (by decide) ?_
              exact ih x2 x3 x4 x5 1 y16 S _ _ _ h hP hS (lv_sub hl [2, 3, 4, 5, 6, 1, 0] rfl)
  have J136 : ∀ (k12 : Int32 → Int32 → Int32 → Int32 → Int64 → Int32 → Int32 → Int32 → es_St → Option (Int32 × es_St)) (hk12 : (∀ (x1 : Int32) (x2 : Int32) (x3 : Int32) (x4 : Int32) (x5 : Int64) (x7 : Int32) (x8 : Int32) (x9 : Int32) (S : es_St) (H : Heap) (locs : List Loc) (ls : Array Slot), k12 x1 x2 x3 x4 x5 x7 x8 x9 S = some (r, S') → va_P D vwCl ((es_wM a cI cZ N) S) H → va_S (es_AA a 21 s.heap.size) s.heap H locs → lv_has ls 12 [(0, .ref (a 0)), (1, .int x1), (2, .int x2), (3, .int x3), (4, .int x4), (5, .long x5), (7, .int x7), (8, .int x8), (9, .int x9)] → W p l e ({ frames := 0, cells := 0, slots := 0, locals := 0 } : Room) s m ([.ref (a 0), .int p1, .int p2, .int p3, .int p4] : List Value).toArray below meth c H locs 0 0 (MQ below (es_Qi D (es_wM a cI cZ N) a 21 r S' s.heap.size) ([.ref (a 0), .int p1, .int p2, .int p3, .int p4] : List Value).toArray s 0 0 (es_AA a 21 s.heap.size)) (F0 m 12 ls []))), (∀ (x1 : Int32) (x2 : Int32) (x3 : Int32) (x4 : Int32) (x5 : Int64) (x7 : Int32) (x8 : Int32) (x9 : Int32) (x10 : Int32) (x11 : Int32) (S : es_St) (H : Heap) (locs : List Loc) (ls : Array Slot), f_X8_joined_136 N fu k12 x1 x2 x3 x4 x5 x7 x8 x9 x10 x11 S = some (r, S') → va_P D vwCl ((es_wM a cI cZ N) S) H → va_S (es_AA a 21 s.heap.size) s.heap H locs → lv_has ls 12 [(0, .ref (a 0)), (1, .int x1), (2, .int x2), (3, .int x3), (4, .int x4), (5, .long x5), (7, .int x7), (8, .int x8), (9, .int x9), (10, .int x10), (11, .int x11)] → W p l e ({ frames := 0, cells := 0, slots := 0, locals := 0 } : Room) s m ([.ref (a 0), .int p1, .int p2, .int p3, .int p4] : List Value).toArray below meth c H locs 0 0 (MQ below (es_Qi D (es_wM a cI cZ N) a 21 r S' s.heap.size) ([.ref (a 0), .int p1, .int p2, .int p3, .int p4] : List Value).toArray s 0 0 (es_AA a 21 s.heap.size)) (F0 m 136 ls [])) := by
    intro k12 hk12 x1 x2 x3 x4 x5 x7 x8 x9 x10 x11 S H locs ls h hP hS hl
    unfold f_X8_joined_136 at h
    refine lv_lload hx hb dX8_joined_136 (lv_at hl 5 rfl) ?_
    refine lv_iload hx hb dX8_joined_138 (lv_at hl 9 rfl) ?_
    refine lv_iload hx hb dX8_joined_140 (lv_at hl 7 rfl) ?_
    refine lv_isub hx hb dX8_joined_142 ?_
    refine lv_i2l hx hb dX8_joined_143 rfl ?_
    refine lv_iload hx hb dX8_joined_144 (lv_at hl 10 rfl) ?_
    refine lv_iload hx hb dX8_joined_146 (lv_at hl 6 rfl) ?_
    refine lv_isub hx hb dX8_joined_148 ?_
    refine lv_i2l hx hb dX8_joined_149 rfl ?_
    refine lv_lmul hx hb dX8_joined_150 ?_
    refine lv_ladd hx hb dX8_joined_151 ?_
    refine lv_topl (fun y30 ey30 => ?_)
    replace h := es_lt_e ey30 h
    refine lv_lstore (lv' := [(5, .long y30), (0, .ref (a 0)), (1, .int x1), (2, .int x2), (3, .int x3), (4, .int x4), (7, .int x7), (8, .int x8), (9, .int x9), (10, .int x10), (11, .int x11)]) hx hb dX8_joined_152 hl (by decide) rfl (fun ls hl => ?_)
    refine lv_iload hx hb dX8_joined_154 (lv_at hl 9 rfl) ?_
    refine lv_istore (lv' := [(8, .int x10), (5, .long y30), (0, .ref (a 0)), (1, .int x1), (2, .int x2), (3, .int x3), (4, .int x4), (7, .int x7), (9, .int x9), (10, .int x10), (11, .int x11)]) hx hb dX8_joined_156 hl (by decide) rfl (fun ls hl => ?_)
    refine lv_iload hx hb dX8_joined_158 (lv_at hl 10 rfl) ?_
    refine lv_istore (lv' := [(7, .int x11), (8, .int x10), (5, .long y30), (0, .ref (a 0)), (1, .int x1), (2, .int x2), (3, .int x3), (4, .int x4), (9, .int x9), (10, .int x10), (11, .int x11)]) hx hb dX8_joined_160 hl (by decide) rfl (fun ls hl => ?_)
    refine lv_goto (tgt := 12) hx hb dX8_joined_162 (by decide) ?_
    exact hk12 x1 x2 x3 x4 y30 x11 x10 x9 S _ _ _ h hP hS (lv_sub hl [3, 4, 5, 6, 7, 2, 0, 1, 8] rfl)
  have J107 : ∀ (k12 : Int32 → Int32 → Int32 → Int32 → Int64 → Int32 → Int32 → Int32 → es_St → Option (Int32 × es_St)) (hk12 : (∀ (x1 : Int32) (x2 : Int32) (x3 : Int32) (x4 : Int32) (x5 : Int64) (x7 : Int32) (x8 : Int32) (x9 : Int32) (S : es_St) (H : Heap) (locs : List Loc) (ls : Array Slot), k12 x1 x2 x3 x4 x5 x7 x8 x9 S = some (r, S') → va_P D vwCl ((es_wM a cI cZ N) S) H → va_S (es_AA a 21 s.heap.size) s.heap H locs → lv_has ls 12 [(0, .ref (a 0)), (1, .int x1), (2, .int x2), (3, .int x3), (4, .int x4), (5, .long x5), (7, .int x7), (8, .int x8), (9, .int x9)] → W p l e ({ frames := 0, cells := 0, slots := 0, locals := 0 } : Room) s m ([.ref (a 0), .int p1, .int p2, .int p3, .int p4] : List Value).toArray below meth c H locs 0 0 (MQ below (es_Qi D (es_wM a cI cZ N) a 21 r S' s.heap.size) ([.ref (a 0), .int p1, .int p2, .int p3, .int p4] : List Value).toArray s 0 0 (es_AA a 21 s.heap.size)) (F0 m 12 ls []))), ∀ n : Nat, (∀ (x1 : Int32) (x2 : Int32) (x3 : Int32) (x4 : Int32) (x5 : Int64) (x7 : Int32) (x8 : Int32) (x9 : Int32) (x10 : Int32) (x11 : Int32) (S : es_St) (H : Heap) (locs : List Loc) (ls : Array Slot), f_X8_joined_107 N fu k12 n x1 x2 x3 x4 x5 x7 x8 x9 x10 x11 S = some (r, S') → va_P D vwCl ((es_wM a cI cZ N) S) H → va_S (es_AA a 21 s.heap.size) s.heap H locs → lv_has ls 12 [(0, .ref (a 0)), (1, .int x1), (2, .int x2), (3, .int x3), (4, .int x4), (5, .long x5), (7, .int x7), (8, .int x8), (9, .int x9), (10, .int x10), (11, .int x11)] → W p l e ({ frames := 0, cells := 0, slots := 0, locals := 0 } : Room) s m ([.ref (a 0), .int p1, .int p2, .int p3, .int p4] : List Value).toArray below meth c H locs 0 0 (MQ below (es_Qi D (es_wM a cI cZ N) a 21 r S' s.heap.size) ([.ref (a 0), .int p1, .int p2, .int p3, .int p4] : List Value).toArray s 0 0 (es_AA a 21 s.heap.size)) (F0 m 107 ls [])) := by
    intro k12 hk12
    intro n
    induction n with
    | zero => intro x1 x2 x3 x4 x5 x7 x8 x9 x10 x11 S H locs ls h; rw [f_X8_joined_107] at h; cases h
    | succ n ih =>
      intro x1 x2 x3 x4 x5 x7 x8 x9 x10 x11 S H locs ls h hP hS hl
      rw [f_X8_joined_107] at h
      refine lv_iload hx hb dX8_joined_107 (lv_at hl 10 rfl) ?_
      refine lv_iload_n hx hb dX8_joined_109 rfl (lv_at hl 2 rfl) ?_
      refine lv_icmp_ge (tgt := 136) hx hb dX8_joined_110 (by decide) (fun c29 => ?_) (fun c29 => ?_)
      · replace h := es_if_t c29 h
        exact J136 k12 hk12 x1 x2 x3 x4 x5 x7 x8 x9 x10 x11 S _ _ _ h hP hS (lv_sub hl [0, 1, 2, 3, 4, 5, 6, 7, 8, 9, 10] rfl)
      · replace h := es_if_f c29 h
        refine lv_aload_n hx hb dX8_joined_113 rfl (lv_at hl 0 rfl) ?_
        refine es_get C hP (es_wM_0 a cI cZ N S) rfl inlX8 (j := 35) (by decide) es_u7_6 rfl dX8_joined_114 ?_
        refine lv_iload hx hb dX8_joined_117 (lv_at hl 10 rfl) ?_
        replace h := es_ck_e h
        obtain ⟨b31, h⟩ := h
        refine es_ald C hP (es_wM_19 a cI cZ N S) (t0 := 0) rfl b31 dX8_joined_119 ?_
        refine lv_topi (fun v32 ev32 => ?_)
        replace h := es_lt_e ev32 h
        refine lv_aload_n hx hb dX8_joined_120 rfl (lv_at hl 0 rfl) ?_
        refine es_get C hP (es_wM_0 a cI cZ N S) rfl inlX8 (j := 35) (by decide) es_u7_6 rfl dX8_joined_121 ?_
        refine lv_iload hx hb dX8_joined_124 (lv_at hl 6 rfl) ?_
        replace h := es_ck_e h
        obtain ⟨b33, h⟩ := h
        refine es_ald C hP (es_wM_19 a cI cZ N S) (t0 := 0) rfl b33 dX8_joined_126 ?_
        refine lv_topi (fun v34 ev34 => ?_)
        replace h := es_lt_e ev34 h
        refine lv_icmp_ne (tgt := 136) hx hb dX8_joined_127 (by decide) (fun c35 => ?_) (fun c35 => ?_)
        · replace h := es_if_t c35 h
          exact J136 k12 hk12 x1 x2 x3 x4 x5 x7 x8 x9 x10 x11 S _ _ _ h hP hS (lv_sub hl [0, 1, 2, 3, 4, 5, 6, 7, 8, 9, 10] rfl)
        · replace h := es_if_f (fun q => q c35) h
          obtain ⟨y36, ey36⟩ : ∃ y : Int32, y = x11 + 1 := ⟨_, rfl⟩
          refine lv_iinc (v := y36) (lv' := [(11, .int y36), (0, .ref (a 0)), (1, .int x1), (2, .int x2), (3, .int x3), (4, .int x4), (5, .long x5), (7, .int x7), (8, .int x8), (9, .int x9), (10, .int x10)]) hx hb dX8_joined_130 hl (k := 10) rfl (by rw [ey36]; rfl) (by decide) rfl (fun ls hl => ?_)
          replace h := es_lt_e ey36 h
          refine lv_goto (tgt := 107) hx hb dX8_joined_133 (by decide) ?_
          exact ih x1 x2 x3 x4 x5 x7 x8 x9 x10 y36 S _ _ _ h hP hS (lv_sub hl [1, 2, 3, 4, 5, 6, 7, 8, 9, 10, 0] rfl)
  have J74 : ∀ (k12 : Int32 → Int32 → Int32 → Int32 → Int64 → Int32 → Int32 → Int32 → es_St → Option (Int32 × es_St)) (hk12 : (∀ (x1 : Int32) (x2 : Int32) (x3 : Int32) (x4 : Int32) (x5 : Int64) (x7 : Int32) (x8 : Int32) (x9 : Int32) (S : es_St) (H : Heap) (locs : List Loc) (ls : Array Slot), k12 x1 x2 x3 x4 x5 x7 x8 x9 S = some (r, S') → va_P D vwCl ((es_wM a cI cZ N) S) H → va_S (es_AA a 21 s.heap.size) s.heap H locs → lv_has ls 12 [(0, .ref (a 0)), (1, .int x1), (2, .int x2), (3, .int x3), (4, .int x4), (5, .long x5), (7, .int x7), (8, .int x8), (9, .int x9)] → W p l e ({ frames := 0, cells := 0, slots := 0, locals := 0 } : Room) s m ([.ref (a 0), .int p1, .int p2, .int p3, .int p4] : List Value).toArray below meth c H locs 0 0 (MQ below (es_Qi D (es_wM a cI cZ N) a 21 r S' s.heap.size) ([.ref (a 0), .int p1, .int p2, .int p3, .int p4] : List Value).toArray s 0 0 (es_AA a 21 s.heap.size)) (F0 m 12 ls []))), ∀ n : Nat, (∀ (x1 : Int32) (x2 : Int32) (x3 : Int32) (x4 : Int32) (x5 : Int64) (x7 : Int32) (x8 : Int32) (x9 : Int32) (x10 : Int32) (S : es_St) (H : Heap) (locs : List Loc) (ls : Array Slot), f_X8_joined_74 N fu k12 n x1 x2 x3 x4 x5 x7 x8 x9 x10 S = some (r, S') → va_P D vwCl ((es_wM a cI cZ N) S) H → va_S (es_AA a 21 s.heap.size) s.heap H locs → lv_has ls 12 [(0, .ref (a 0)), (1, .int x1), (2, .int x2), (3, .int x3), (4, .int x4), (5, .long x5), (7, .int x7), (8, .int x8), (9, .int x9), (10, .int x10)] → W p l e ({ frames := 0, cells := 0, slots := 0, locals := 0 } : Room) s m ([.ref (a 0), .int p1, .int p2, .int p3, .int p4] : List Value).toArray below meth c H locs 0 0 (MQ below (es_Qi D (es_wM a cI cZ N) a 21 r S' s.heap.size) ([.ref (a 0), .int p1, .int p2, .int p3, .int p4] : List Value).toArray s 0 0 (es_AA a 21 s.heap.size)) (F0 m 74 ls [])) := by
    intro k12 hk12
    intro n
    induction n with
    | zero => intro x1 x2 x3 x4 x5 x7 x8 x9 x10 S H locs ls h; rw [f_X8_joined_74] at h; cases h
    | succ n ih =>
      intro x1 x2 x3 x4 x5 x7 x8 x9 x10 S H locs ls h hP hS hl
      rw [f_X8_joined_74] at h
      refine lv_iload hx hb dX8_joined_74 (lv_at hl 9 rfl) ?_
      refine lv_iload_n hx hb dX8_joined_76 rfl (lv_at hl 1 rfl) ?_
      refine lv_icmp_ge (tgt := 103) hx hb dX8_joined_77 (by decide) (fun c28 => ?_) (fun c28 => ?_)
      · replace h := es_if_t c28 h
        refine lv_iload hx hb dX8_joined_103 (lv_at hl 6 rfl) ?_
        refine lv_istore (lv' := [(11, .int x7), (0, .ref (a 0)), (1, .int x1), (2, .int x2), (3, .int x3), (4, .int x4), (5, .long x5), (7, .int x7), (8, .int x8), (9, .int x9), (10, .int x10)]) hx hb dX8_joined_105 hl (by decide) rfl (fun ls hl => ?_)
        exact J107 k12 hk12 fu x1 x2 x3 x4 x5 x7 x8 x9 x10 x7 S _ _ _ h hP hS (lv_sub hl [1, 2, 3, 4, 5, 6, 7, 8, 9, 10, 0] rfl)
      · replace h := es_if_f c28 h
        refine lv_aload_n hx hb dX8_joined_80 rfl (lv_at hl 0 rfl) ?_
        refine es_get C hP (es_wM_0 a cI cZ N S) rfl inlX8 (j := 33) (by decide) es_u7_4 rfl dX8_joined_81 ?_
        refine lv_iload hx hb dX8_joined_84 (lv_at hl 9 rfl) ?_
        replace h := es_ck_e h
        obtain ⟨b37, h⟩ := h
        refine es_ald C hP (es_wM_17 a cI cZ N S) (t0 := 0) rfl b37 dX8_joined_86 ?_
        refine lv_topi (fun v38 ev38 => ?_)
        replace h := es_lt_e ev38 h
        refine lv_aload_n hx hb dX8_joined_87 rfl (lv_at hl 0 rfl) ?_
        refine es_get C hP (es_wM_0 a cI cZ N S) rfl inlX8 (j := 33) (by decide) es_u7_4 rfl dX8_joined_88 ?_
        refine lv_iload hx hb dX8_joined_91 (lv_at hl 7 rfl) ?_
        replace h := es_ck_e h
        obtain ⟨b39, h⟩ := h
        refine es_ald C hP (es_wM_17 a cI cZ N S) (t0 := 0) rfl b39 dX8_joined_93 ?_
        refine lv_topi (fun v40 ev40 => ?_)
        replace h := es_lt_e ev40 h
        refine lv_icmp_ne (tgt := 103) hx hb dX8_joined_94 (by decide) (fun c41 => ?_) (fun c41 => ?_)
        · replace h := es_if_t c41 h
          refine lv_iload hx hb dX8_joined_103 (lv_at hl 6 rfl) ?_
          refine lv_istore (lv' := [(11, .int x7), (0, .ref (a 0)), (1, .int x1), (2, .int x2), (3, .int x3), (4, .int x4), (5, .long x5), (7, .int x7), (8, .int x8), (9, .int x9), (10, .int x10)]) hx hb dX8_joined_105 hl (by decide) rfl (fun ls hl => ?_)
          exact J107 k12 hk12 fu x1 x2 x3 x4 x5 x7 x8 x9 x10 x7 S _ _ _ h hP hS (lv_sub hl [1, 2, 3, 4, 5, 6, 7, 8, 9, 10, 0] rfl)
        · replace h := es_if_f (fun q => q c41) h
          obtain ⟨y42, ey42⟩ : ∃ y : Int32, y = x10 + 1 := ⟨_, rfl⟩
          refine lv_iinc (v := y42) (lv' := [(10, .int y42), (0, .ref (a 0)), (1, .int x1), (2, .int x2), (3, .int x3), (4, .int x4), (5, .long x5), (7, .int x7), (8, .int x8), (9, .int x9)]) hx hb dX8_joined_97 hl (k := 9) rfl (by rw [ey42]; rfl) (by decide) rfl (fun ls hl => ?_)
          replace h := es_lt_e ey42 h
          refine lv_goto (tgt := 74) hx hb dX8_joined_100 (by decide) ?_
          exact ih x1 x2 x3 x4 x5 x7 x8 x9 y42 S _ _ _ h hP hS (lv_sub hl [1, 2, 3, 4, 5, 6, 7, 8, 9, 0] rfl)
  have J12 : ∀ n : Nat, (∀ (x1 : Int32) (x2 : Int32) (x3 : Int32) (x4 : Int32) (x5 : Int64) (x7 : Int32) (x8 : Int32) (x9 : Int32) (S : es_St) (H : Heap) (locs : List Loc) (ls : Array Slot), f_X8_joined_12 N fu n x1 x2 x3 x4 x5 x7 x8 x9 S = some (r, S') → va_P D vwCl ((es_wM a cI cZ N) S) H → va_S (es_AA a 21 s.heap.size) s.heap H locs → lv_has ls 12 [(0, .ref (a 0)), (1, .int x1), (2, .int x2), (3, .int x3), (4, .int x4), (5, .long x5), (7, .int x7), (8, .int x8), (9, .int x9)] → W p l e ({ frames := 0, cells := 0, slots := 0, locals := 0 } : Room) s m ([.ref (a 0), .int p1, .int p2, .int p3, .int p4] : List Value).toArray below meth c H locs 0 0 (MQ below (es_Qi D (es_wM a cI cZ N) a 21 r S' s.heap.size) ([.ref (a 0), .int p1, .int p2, .int p3, .int p4] : List Value).toArray s 0 0 (es_AA a 21 s.heap.size)) (F0 m 12 ls [])) := by
    intro n
    induction n with
    | zero => intro x1 x2 x3 x4 x5 x7 x8 x9 S H locs ls h; rw [f_X8_joined_12] at h; cases h
    | succ n ih =>
      intro x1 x2 x3 x4 x5 x7 x8 x9 S H locs ls h hP hS hl
      rw [f_X8_joined_12] at h
      refine lv_iload hx hb dX8_joined_12 (lv_at hl 7 rfl) ?_
      refine lv_iload_n hx hb dX8_joined_14 rfl (lv_at hl 1 rfl) ?_
      refine lv_icmp_ge (tgt := 165) hx hb dX8_joined_15 (by decide) (fun c1 => ?_) (fun c1 => ?_)
      · replace h := es_if_t c1 h
        refine lv_iconst (v := 0) hx hb dX8_joined_165 (by decide) ?_
        refine lv_istore (lv' := [(10, .int 0), (0, .ref (a 0)), (1, .int x1), (2, .int x2), (3, .int x3), (4, .int x4), (5, .long x5), (7, .int x7), (8, .int x8), (9, .int x9)]) hx hb dX8_joined_166 hl (by decide) rfl (fun ls hl => ?_)
        exact J168  fu x2 x3 x4 x5 x9 0 S _ _ _ h hP hS (lv_sub hl [1, 3, 4, 5, 6, 9, 0] rfl)
      · replace h := es_if_f c1 h
        refine lv_iload hx hb dX8_joined_18 (lv_at hl 6 rfl) ?_
        refine lv_iload_n hx hb dX8_joined_20 rfl (lv_at hl 2 rfl) ?_
        refine lv_icmp_ge (tgt := 165) hx hb dX8_joined_21 (by decide) (fun c17 => ?_) (fun c17 => ?_)
        · replace h := es_if_t c17 h
          refine lv_iconst (v := 0) hx hb dX8_joined_165 (by decide) ?_
          refine lv_istore (lv' := [(10, .int 0), (0, .ref (a 0)), (1, .int x1), (2, .int x2), (3, .int x3), (4, .int x4), (5, .long x5), (7, .int x7), (8, .int x8), (9, .int x9)]) hx hb dX8_joined_166 hl (by decide) rfl (fun ls hl => ?_)
          exact J168  fu x2 x3 x4 x5 x9 0 S _ _ _ h hP hS (lv_sub hl [1, 3, 4, 5, 6, 9, 0] rfl)
        · replace h := es_if_f c17 h
          refine lv_aload_n hx hb dX8_joined_24 rfl (lv_at hl 0 rfl) ?_
          refine es_get C hP (es_wM_0 a cI cZ N S) rfl inlX8 (j := 33) (by decide) es_u7_4 rfl dX8_joined_25 ?_
          refine lv_iload hx hb dX8_joined_28 (lv_at hl 7 rfl) ?_
          replace h := es_ck_e h
          obtain ⟨b18, h⟩ := h
          refine es_ald C hP (es_wM_17 a cI cZ N S) (t0 := 0) rfl b18 dX8_joined_30 ?_
          refine lv_topi (fun v19 ev19 => ?_)
          replace h := es_lt_e ev19 h
          refine lv_aload_n hx hb dX8_joined_31 rfl (lv_at hl 0 rfl) ?_
          refine es_get C hP (es_wM_0 a cI cZ N S) rfl inlX8 (j := 35) (by decide) es_u7_6 rfl dX8_joined_32 ?_
          refine lv_iload hx hb dX8_joined_35 (lv_at hl 6 rfl) ?_
          replace h := es_ck_e h
          obtain ⟨b20, h⟩ := h
          refine es_ald C hP (es_wM_19 a cI cZ N S) (t0 := 0) rfl b20 dX8_joined_37 ?_
          refine lv_topi (fun v21 ev21 => ?_)
          replace h := es_lt_e ev21 h
          refine lv_icmp_ge (tgt := 47) hx hb dX8_joined_38 (by decide) (fun c22 => ?_) (fun c22 => ?_)
          · replace h := es_if_t c22 h
            refine lv_aload_n hx hb dX8_joined_47 rfl (lv_at hl 0 rfl) ?_
            refine es_get C hP (es_wM_0 a cI cZ N S) rfl inlX8 (j := 33) (by decide) es_u7_4 rfl dX8_joined_48 ?_
            refine lv_iload hx hb dX8_joined_51 (lv_at hl 7 rfl) ?_
            replace h := es_ck_e h
            obtain ⟨b23, h⟩ := h
            refine es_ald C hP (es_wM_17 a cI cZ N S) (t0 := 0) rfl b23 dX8_joined_53 ?_
            refine lv_topi (fun v24 ev24 => ?_)
            replace h := es_lt_e ev24 h
            refine lv_aload_n hx hb dX8_joined_54 rfl (lv_at hl 0 rfl) ?_
            refine es_get C hP (es_wM_0 a cI cZ N S) rfl inlX8 (j := 35) (by decide) es_u7_6 rfl dX8_joined_55 ?_
            refine lv_iload hx hb dX8_joined_58 (lv_at hl 6 rfl) ?_
            replace h := es_ck_e h
            obtain ⟨b25, h⟩ := h
            refine es_ald C hP (es_wM_19 a cI cZ N S) (t0 := 0) rfl b25 dX8_joined_60 ?_
            refine lv_topi (fun v26 ev26 => ?_)
            replace h := es_lt_e ev26 h
            refine lv_icmp_le (tgt := 70) hx hb dX8_joined_61 (by decide) (fun c27 => ?_) (fun c27 => ?_)
            · replace h := es_if_t c27 h
              refine lv_iload hx hb dX8_joined_70 (lv_at hl 7 rfl) ?_
              refine lv_istore (lv' := [(10, .int x8), (0, .ref (a 0)), (1, .int x1), (2, .int x2), (3, .int x3), (4, .int x4), (5, .long x5), (7, .int x7), (8, .int x8), (9, .int x9)]) hx hb dX8_joined_72 hl (by decide) rfl (fun ls hl => ?_)
              exact J74 (fun x1 x2 x3 x4 x5 x7 x8 x9 S => f_X8_joined_12 N fu n x1 x2 x3 x4 x5 x7 x8 x9 S) ih fu x1 x2 x3 x4 x5 x7 x8 x9 x8 S _ _ _ h hP hS (lv_sub hl [1, 2, 3, 4, 5, 6, 7, 8, 9, 0] rfl)
            · replace h := es_if_f c27 h
              obtain ⟨y43, ey43⟩ : ∃ y : Int32, y = x7 + 1 := ⟨_, rfl⟩
              refine lv_iinc (v := y43) (lv' := [(7, .int y43), (0, .ref (a 0)), (1, .int x1), (2, .int x2), (3, .int x3), (4, .int x4), (5, .long x5), (8, .int x8), (9, .int x9)]) hx hb dX8_joined_64 hl (k := 6) rfl (by rw [ey43]; rfl) (by decide) rfl (fun ls hl => ?_)
              replace h := es_lt_e ey43 h
              refine lv_goto (tgt := 12) hx hb dX8_joined_67 (by decide) ?_
              exact ih x1 x2 x3 x4 x5 y43 x8 x9 S _ _ _ h hP hS (lv_sub hl [1, 2, 3, 4, 5, 6, 0, 7, 8] rfl)
          · replace h := es_if_f c22 h
            obtain ⟨y44, ey44⟩ : ∃ y : Int32, y = x8 + 1 := ⟨_, rfl⟩
            refine lv_iinc (v := y44) (lv' := [(8, .int y44), (0, .ref (a 0)), (1, .int x1), (2, .int x2), (3, .int x3), (4, .int x4), (5, .long x5), (7, .int x7), (9, .int x9)]) hx hb dX8_joined_41 hl (k := 7) rfl (by rw [ey44]; rfl) (by decide) rfl (fun ls hl => ?_)
            replace h := es_lt_e ey44 h
            refine lv_goto (tgt := 12) hx hb dX8_joined_44 (by decide) ?_
            exact ih x1 x2 x3 x4 x5 x7 y44 x9 S _ _ _ h hP hS (lv_sub hl [1, 2, 3, 4, 5, 6, 7, 0, 8] rfl)
  unfold f_X8_joined at h
  refine lv_lconst (v := 0) hx hb dX8_joined_0 (by decide) ?_
  refine lv_lstore (lv' := [(5, .long 0), (0, .ref (a 0)), (1, .int p1), (2, .int p2), (3, .int p3), (4, .int p4)]) hx hb dX8_joined_1 hl (by decide) rfl (fun ls hl => ?_)
  refine lv_iconst (v := 0) hx hb dX8_joined_3 (by decide) ?_
  refine lv_istore (lv' := [(7, .int 0), (5, .long 0), (0, .ref (a 0)), (1, .int p1), (2, .int p2), (3, .int p3), (4, .int p4)]) hx hb dX8_joined_4 hl (by decide) rfl (fun ls hl => ?_)
  refine lv_iconst (v := 0) hx hb dX8_joined_6 (by decide) ?_
  refine lv_istore (lv' := [(8, .int 0), (7, .int 0), (5, .long 0), (0, .ref (a 0)), (1, .int p1), (2, .int p2), (3, .int p3), (4, .int p4)]) hx hb dX8_joined_7 hl (by decide) rfl (fun ls hl => ?_)
  refine lv_iconst (v := 0) hx hb dX8_joined_9 (by decide) ?_
  refine lv_istore (lv' := [(9, .int 0), (8, .int 0), (7, .int 0), (5, .long 0), (0, .ref (a 0)), (1, .int p1), (2, .int p2), (3, .int p3), (4, .int p4)]) hx hb dX8_joined_10 hl (by decide) rfl (fun ls hl => ?_)
  exact J12  fu p1 p2 p3 p4 0 0 0 0 S _ _ _ h hP hS (lv_sub hl [4, 5, 6, 7, 8, 3, 2, 1, 0] rfl)
