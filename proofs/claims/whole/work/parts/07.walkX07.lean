set_option maxHeartbeats 4000000 in
set_option maxRecDepth 100000 in
theorem c_X5_arrange (l : Launch) (D : va_G) (cI cZ : ClassId) (a : Nat → Nat) (N : Nat → Nat) (sz fu : Nat) (S S' : es_St) (p1 : Int32) (p2 : Int32) (r : Int32) (h : f_X5_arrange N fu S p1 p2 = some (r, S')) : Met l yX5_arrange (Cond.code yX5_arrange cX5_arrange 4 (some .boolean) :: wsL_law) ({ frames := 6, cells := 0, slots := 0, locals := 145 } : Room) (es_Pre [.ref (a 3), .int p1, .int p2] D [(cI, .int), (cZ, .boolean)] (es_wX a cI cZ N) a 35 S sz) (es_Qi D (es_wX a cI cZ N) a 35 r S' sz) 0 0 (es_AA a 35 sz) := by
  refine es_intro (Qc := es_Qi D (es_wX a cI cZ N) a 35 r S') (by decide) (es_okX a cI cZ N) (Nat.le_of_ble_eq_true rfl) ?_
  intro p e s m below meth c C hr hlk hP ls hl
  have hx := C.1
  have hb := C.2.1
  have hown := C.2.2.2.1
  have hts := C.2.2.2.2.1
  have hS : va_S (es_AA a 35 s.heap.size) s.heap s.heap [] := va_S.rf
  replace hl : lv_has ls 4 [(0, .ref (a 3)), (1, .int p1), (2, .int p2)] := hl
  have J68 : (∀ (t0 : Int32) (S : es_St) (H : Heap) (locs : List Loc) (ls : Array Slot), f_X5_arrange_68 N fu t0 S = some (r, S') → va_P D vwCl ((es_wX a cI cZ N) S) H → va_S (es_AA a 35 s.heap.size) s.heap H locs → lv_has ls 4 [(0, .ref (a 3))] → W p l e ({ frames := 6, cells := 0, slots := 0, locals := 145 } : Room) s m ([.ref (a 3), .int p1, .int p2] : List Value).toArray below meth c H locs 0 0 (MQ below (es_Qi D (es_wX a cI cZ N) a 35 r S' s.heap.size) ([.ref (a 3), .int p1, .int p2] : List Value).toArray s 0 0 (es_AA a 35 s.heap.size)) (F0 m 68 ls [.int t0, .ref (a 3)])) := by
    intro t0 S H locs ls h hP hS hl
    unfold f_X5_arrange_68 at h
    refine es_put C hP hS (es_wX_3 a cI cZ N S) rfl inlX5 tyX5_ok nmX5 (j := 0) (by decide) es_u12_7 rfl (tyX5_ok 0 (by decide)) rfl rfl (by simp) (es_sX_10 a cI cZ N S t0) dX5_arrange_68 (fun S8 eS8 H locs hP hS => ?_)
    replace h := es_lt_e eS8 h
    refine lv_aload_n hx hb dX5_arrange_71 rfl (lv_at hl 0 rfl) ?_
    refine lv_aload_n hx hb dX5_arrange_72 rfl (lv_at hl 0 rfl) ?_
    refine es_get C hP (es_wX_3 a cI cZ N S8) rfl inlX5 (j := 8) (by decide) es_u12_6 rfl dX5_arrange_73 ?_
    refine lv_if_le (tgt := 88) hx hb dX5_arrange_76 (by decide) (fun c9 => ?_) (fun c9 => ?_)
    · replace h := es_if_t c9 h
      refine lv_iconst (v := 0) hx hb dX5_arrange_88 (by decide) ?_
      refine es_put C hP hS (es_wX_3 a cI cZ N S8) rfl inlX5 tyX5_ok nmX5 (j := 1) (by decide) es_u12_8 rfl (tyX5_ok 1 (by decide)) rfl rfl (by simp) (es_sX_11 a cI cZ N S8 0) dX5_arrange_89 (fun S10 eS10 H locs hP hS => ?_)
      replace h := es_lt_e eS10 h
      refine lv_iconst (v := 1) hx hb dX5_arrange_92 (by decide) ?_
      exact es_zret C hr hlk ⟨rfl, rfl⟩ h hP hS dX5_arrange_93
    · replace h := es_if_f c9 h
      refine lv_aload_n hx hb dX5_arrange_79 rfl (lv_at hl 0 rfl) ?_
      refine es_get C hP (es_wX_3 a cI cZ N S8) rfl inlX5 (j := 7) (by decide) es_u4_21 rfl dX5_arrange_80 ?_
      refine lv_iconst (v := 0) hx hb dX5_arrange_83 (by decide) ?_
      replace h := es_ck_e h
      obtain ⟨b11, h⟩ := h
      refine es_ald C hP (es_wX_19 a cI cZ N S8) (t0 := 0) rfl b11 dX5_arrange_84 ?_
      refine lv_topi (fun v12 ev12 => ?_)
      replace h := es_lt_e ev12 h
      refine lv_goto (tgt := 89) hx hb dX5_arrange_85 (by decide) ?_
      refine es_put C hP hS (es_wX_3 a cI cZ N S8) rfl inlX5 tyX5_ok nmX5 (j := 1) (by decide) es_u12_8 rfl (tyX5_ok 1 (by decide)) rfl rfl (by simp) (es_sX_11 a cI cZ N S8 v12) dX5_arrange_89 (fun S13 eS13 H locs hP hS => ?_)
      replace h := es_lt_e eS13 h
      refine lv_iconst (v := 1) hx hb dX5_arrange_92 (by decide) ?_
      exact es_zret C hr hlk ⟨rfl, rfl⟩ h hP hS dX5_arrange_93
  have J50 : (∀ (S : es_St) (H : Heap) (locs : List Loc) (ls : Array Slot), f_X5_arrange_50 N fu S = some (r, S') → va_P D vwCl ((es_wX a cI cZ N) S) H → va_S (es_AA a 35 s.heap.size) s.heap H locs → lv_has ls 4 [(0, .ref (a 3))] → W p l e ({ frames := 6, cells := 0, slots := 0, locals := 145 } : Room) s m ([.ref (a 3), .int p1, .int p2] : List Value).toArray below meth c H locs 0 0 (MQ below (es_Qi D (es_wX a cI cZ N) a 35 r S' s.heap.size) ([.ref (a 3), .int p1, .int p2] : List Value).toArray s 0 0 (es_AA a 35 s.heap.size)) (F0 m 50 ls [])) := by
    intro  S H locs ls h hP hS hl
    unfold f_X5_arrange_50 at h
    refine lv_aload_n hx hb dX5_arrange_50 rfl (lv_at hl 0 rfl) ?_
    refine lv_aload_n hx hb dX5_arrange_51 rfl (lv_at hl 0 rfl) ?_
    refine es_get C hP (es_wX_3 a cI cZ N S) rfl inlX5 (j := 8) (by decide) es_u12_6 rfl dX5_arrange_52 ?_
    refine lv_if_le (tgt := 67) hx hb dX5_arrange_55 (by decide) (fun c7 => ?_) (fun c7 => ?_)
    · replace h := es_if_t c7 h
      refine lv_iconst (v := (-1)) hx hb dX5_arrange_67 (by decide) ?_
      exact J68  (-1) S _ _ _ h hP hS (lv_sub hl [0] rfl)
    · replace h := es_if_f c7 h
      refine lv_aload_n hx hb dX5_arrange_58 rfl (lv_at hl 0 rfl) ?_
      refine es_get C hP (es_wX_3 a cI cZ N S) rfl inlX5 (j := 6) (by decide) es_u4_20 rfl dX5_arrange_59 ?_
      refine lv_iconst (v := 0) hx hb dX5_arrange_62 (by decide) ?_
      replace h := es_ck_e h
      obtain ⟨b14, h⟩ := h
      refine es_ald C hP (es_wX_18 a cI cZ N S) (t0 := 0) rfl b14 dX5_arrange_63 ?_
      refine lv_topi (fun v15 ev15 => ?_)
      replace h := es_lt_e ev15 h
      refine lv_goto (tgt := 68) hx hb dX5_arrange_64 (by decide) ?_
      exact J68  v15 S _ _ _ h hP hS (lv_sub hl [0] rfl)
  have J18 : ∀ n : Nat, (∀ (x3 : Int32) (S : es_St) (H : Heap) (locs : List Loc) (ls : Array Slot), f_X5_arrange_18 N fu n x3 S = some (r, S') → va_P D vwCl ((es_wX a cI cZ N) S) H → va_S (es_AA a 35 s.heap.size) s.heap H locs → lv_has ls 4 [(0, .ref (a 3)), (3, .int x3)] → W p l e ({ frames := 6, cells := 0, slots := 0, locals := 145 } : Room) s m ([.ref (a 3), .int p1, .int p2] : List Value).toArray below meth c H locs 0 0 (MQ below (es_Qi D (es_wX a cI cZ N) a 35 r S' s.heap.size) ([.ref (a 3), .int p1, .int p2] : List Value).toArray s 0 0 (es_AA a 35 s.heap.size)) (F0 m 18 ls [])) := by
    intro n
    induction n with
    | zero => intro x3 S H locs ls h; rw [f_X5_arrange_18] at h; cases h
    | succ n ih =>
      intro x3 S H locs ls h hP hS hl
      rw [f_X5_arrange_18] at h
      refine lv_iload_n hx hb dX5_arrange_18 rfl (lv_at hl 1 rfl) ?_
      refine lv_aload_n hx hb dX5_arrange_19 rfl (lv_at hl 0 rfl) ?_
      refine es_get C hP (es_wX_3 a cI cZ N S) rfl inlX5 (j := 6) (by decide) es_u4_20 rfl dX5_arrange_20 ?_
      refine es_len C hP (es_wX_18 a cI cZ N S) (t0 := 0) rfl dX5_arrange_23 ?_
      refine lv_icmp_ge (tgt := 50) hx hb dX5_arrange_24 (by decide) (fun c6 => ?_) (fun c6 => ?_)
      · replace h := es_if_t c6 h
        exact J50   S _ _ _ h hP hS (lv_sub hl [0] rfl)
      · replace h := es_if_f c6 h
        refine lv_aload_n hx hb dX5_arrange_27 rfl (lv_at hl 0 rfl) ?_
        refine es_get C hP (es_wX_3 a cI cZ N S) rfl inlX5 (j := 8) (by decide) es_u12_6 rfl dX5_arrange_28 ?_
        refine lv_iconst (v := 1) hx hb dX5_arrange_31 (by decide) ?_
        refine lv_icmp_le (tgt := 50) hx hb dX5_arrange_32 (by decide) (fun c16 => ?_) (fun c16 => ?_)
        · replace h := es_if_t c16 h
          exact J50   S _ _ _ h hP hS (lv_sub hl [0] rfl)
        · replace h := es_if_f c16 h
          refine lv_aload_n hx hb dX5_arrange_35 rfl (lv_at hl 0 rfl) ?_
          replace h := es_bd_e h
          obtain ⟨r17, S18, g19, h⟩ := h
          refine es_callVi C (c_X5_mergePass l D cI cZ a N _ fu S S18 r17 g19) es_u18_23 es_mX5_mergePass ⟨rfl, rfl, by decide, by decide⟩ ⟨Nat.zero_le _, Nat.zero_le _⟩ hP hS (es_wX_3 a cI cZ N S) rfl rfl hl.1 rfl (Nat.le_of_ble_eq_true rfl) dX5_arrange_36 (fun H locs _ _ hP hS => ?_)
          refine lv_if_ne (tgt := 44) hx hb dX5_arrange_39 (by decide) (fun c20 => ?_) (fun c20 => ?_)
          · replace h := es_if_t c20 h
            obtain ⟨y21, ey21⟩ : ∃ y : Int32, y = x3 + 1 := ⟨_, rfl⟩
            refine lv_iinc (v := y21) (lv' := [(3, .int y21), (0, .ref (a 3))]) hx hb dX5_arrange_44 hl (k := 1) rfl (by rw [ey21]; rfl) (by decide) rfl (fun ls hl => ?_)
            replace h := es_lt_e ey21 h
            refine lv_goto (tgt := 18) hx hb dX5_arrange_47 (by decide) ?_
            exact ih y21 S18 _ _ _ h hP hS (lv_sub hl [1, 0] rfl)
          · replace h := es_if_f (fun q => q c20) h
            refine lv_iconst (v := 0) hx hb dX5_arrange_42 (by decide) ?_
            exact es_zret C hr hlk ⟨rfl, rfl⟩ h hP hS dX5_arrange_43
  unfold f_X5_arrange at h
  refine lv_aload_n hx hb dX5_arrange_0 rfl (lv_at hl 0 rfl) ?_
  refine lv_iconst (v := 0) hx hb dX5_arrange_1 (by decide) ?_
  refine es_put C hP hS (es_wX_3 a cI cZ N S) rfl inlX5 tyX5_ok nmX5 (j := 8) (by decide) es_u12_6 rfl (tyX5_ok 8 (by decide)) rfl rfl (by simp) (es_sX_12 a cI cZ N S 0) dX5_arrange_2 (fun S1 eS1 H locs hP hS => ?_)
  replace h := es_lt_e eS1 h
  refine lv_aload_n hx hb dX5_arrange_5 rfl (lv_at hl 0 rfl) ?_
  refine lv_iload_n hx hb dX5_arrange_6 rfl (lv_at hl 1 rfl) ?_
  refine lv_iload_n hx hb dX5_arrange_7 rfl (lv_at hl 2 rfl) ?_
  replace h := es_bd_e h
  obtain ⟨r2, S3, g4, h⟩ := h
  refine es_callVi C (c_X5_makeRuns l D cI cZ a N _ fu S1 S3 p1 p2 r2 g4) es_u12_9 es_mX5_makeRuns ⟨rfl, rfl, by decide, by decide⟩ ⟨Nat.zero_le _, Nat.zero_le _⟩ hP hS (es_wX_3 a cI cZ N S1) rfl rfl hl.1 rfl (Nat.le_of_ble_eq_true rfl) dX5_arrange_8 (fun H locs _ _ hP hS => ?_)
  refine lv_if_ne (tgt := 16) hx hb dX5_arrange_11 (by decide) (fun c5 => ?_) (fun c5 => ?_)
  · replace h := es_if_t c5 h
    refine lv_iconst (v := 0) hx hb dX5_arrange_16 (by decide) ?_
    refine lv_istore_n (lv' := [(3, .int 0), (0, .ref (a 3)), (1, .int p1), (2, .int p2)]) hx hb dX5_arrange_17 rfl hl (by decide) rfl (fun ls hl => ?_)
    exact J18  fu 0 S3 _ _ _ h hP hS (lv_sub hl [1, 0] rfl)
  · replace h := es_if_f (fun q => q c5) h
    refine lv_iconst (v := 0) hx hb dX5_arrange_14 (by decide) ?_
    exact es_zret C hr hlk ⟨rfl, rfl⟩ h hP hS dX5_arrange_15

set_option maxHeartbeats 4000000 in
set_option maxRecDepth 100000 in
theorem c_X5_prepare (l : Launch) (D : va_G) (cI cZ : ClassId) (a : Nat → Nat) (N : Nat → Nat) (sz fu : Nat) (S S' : es_St) (p1 : Int32) (p2 : Int32) (p3 : Int32) (r : Int32) (h : f_X5_prepare N fu S p1 p2 p3 = some (r, S')) : Met l yX5_prepare (Cond.code yX5_prepare cX5_prepare 4 none :: wsL_law) ({ frames := 0, cells := 0, slots := 0, locals := 0 } : Room) (es_Pre [.ref (a 3), .int p1, .int p2, .int p3] D [(cI, .int), (cZ, .boolean)] (es_wX a cI cZ N) a 35 S sz) (es_Qv D (es_wX a cI cZ N) a 35 S' sz) 0 0 (es_AA a 35 sz) := by
  refine es_intro (Qc := es_Qv D (es_wX a cI cZ N) a 35 S') (by decide) (es_okX a cI cZ N) (Nat.le_of_ble_eq_true rfl) ?_
  intro p e s m below meth c C hr hlk hP ls hl
  have hx := C.1
  have hb := C.2.1
  have hown := C.2.2.2.1
  have hts := C.2.2.2.2.1
  have hS : va_S (es_AA a 35 s.heap.size) s.heap s.heap [] := va_S.rf
  replace hl : lv_has ls 4 [(0, .ref (a 3)), (1, .int p1), (2, .int p2), (3, .int p3)] := hl
  unfold f_X5_prepare at h
  refine lv_aload_n hx hb dX5_prepare_0 rfl (lv_at hl 0 rfl) ?_
  refine lv_iload_n hx hb dX5_prepare_1 rfl (lv_at hl 1 rfl) ?_
  refine es_put C hP hS (es_wX_3 a cI cZ N S) rfl inlX5 tyX5_ok nmX5 (j := 9) (by decide) es_u11_23 rfl (tyX5_ok 9 (by decide)) rfl rfl (by simp) (es_sX_13 a cI cZ N S p1) dX5_prepare_2 (fun S1 eS1 H locs hP hS => ?_)
  replace h := es_lt_e eS1 h
  refine lv_aload_n hx hb dX5_prepare_5 rfl (lv_at hl 0 rfl) ?_
  refine lv_iload_n hx hb dX5_prepare_6 rfl (lv_at hl 2 rfl) ?_
  refine es_put C hP hS (es_wX_3 a cI cZ N S1) rfl inlX5 tyX5_ok nmX5 (j := 10) (by decide) es_u12_0 rfl (tyX5_ok 10 (by decide)) rfl rfl (by simp) (es_sX_14 a cI cZ N S1 p2) dX5_prepare_7 (fun S2 eS2 H locs hP hS => ?_)
  replace h := es_lt_e eS2 h
  refine lv_aload_n hx hb dX5_prepare_10 rfl (lv_at hl 0 rfl) ?_
  refine lv_iload_n hx hb dX5_prepare_11 rfl (lv_at hl 3 rfl) ?_
  replace h := es_ck_e h
  obtain ⟨b3, h⟩ := h
  refine es_put C hP hS (es_wX_3 a cI cZ N S2) rfl inlX5 tyX5_ok nmX5 (j := 11) (by decide) es_u12_1 rfl (tyX5_ok 11 (by decide)) b3.1 b3.2 (by simp) (es_sX_15 a cI cZ N S2 p3) dX5_prepare_12 (fun S4 eS4 H locs hP hS => ?_)
  replace h := es_lt_e eS4 h
  exact es_vret C hr hlk h hP hS dX5_prepare_15

set_option maxHeartbeats 4000000 in
set_option maxRecDepth 100000 in
theorem c_X6_begin (l : Launch) (D : va_G) (cI cZ : ClassId) (a : Nat → Nat) (N : Nat → Nat) (sz fu : Nat) (S S' : es_St) (p1 : Int32) (r : Int32) (h : f_X6_begin N fu S p1 = some (r, S')) : Met l yX6_begin (Cond.code yX6_begin cX6_begin 2 none :: wsL_law) ({ frames := 0, cells := 0, slots := 0, locals := 0 } : Room) (es_Pre [.ref (a 5), .int p1] D [(cI, .int), (cZ, .boolean)] (es_wX a cI cZ N) a 35 S sz) (es_Qv D (es_wX a cI cZ N) a 35 S' sz) 0 0 (es_AA a 35 sz) := by
  refine es_intro (Qc := es_Qv D (es_wX a cI cZ N) a 35 S') (by decide) (es_okX a cI cZ N) (Nat.le_of_ble_eq_true rfl) ?_
  intro p e s m below meth c C hr hlk hP ls hl
  have hx := C.1
  have hb := C.2.1
  have hown := C.2.2.2.1
  have hts := C.2.2.2.2.1
  have hS : va_S (es_AA a 35 s.heap.size) s.heap s.heap [] := va_S.rf
  replace hl : lv_has ls 2 [(0, .ref (a 5)), (1, .int p1)] := hl
  unfold f_X6_begin at h
  refine lv_aload_n hx hb dX6_begin_0 rfl (lv_at hl 0 rfl) ?_
  refine lv_iconst (v := 0) hx hb dX6_begin_1 (by decide) ?_
  refine es_put C hP hS (es_wX_5 a cI cZ N S) rfl inlX6 tyX6_ok nmX6 (j := 0) (by decide) es_u11_14 rfl (tyX6_ok 0 (by decide)) rfl rfl (by simp) (es_sX_22 a cI cZ N S 0) dX6_begin_2 (fun S1 eS1 H locs hP hS => ?_)
  replace h := es_lt_e eS1 h
  refine lv_aload_n hx hb dX6_begin_5 rfl (lv_at hl 0 rfl) ?_
  refine lv_iconst (v := 0) hx hb dX6_begin_6 (by decide) ?_
  refine es_put C hP hS (es_wX_5 a cI cZ N S1) rfl inlX6 tyX6_ok nmX6 (j := 1) (by decide) es_u11_15 rfl (tyX6_ok 1 (by decide)) rfl rfl (by simp) (es_sX_23 a cI cZ N S1 0) dX6_begin_7 (fun S2 eS2 H locs hP hS => ?_)
  replace h := es_lt_e eS2 h
  refine lv_aload_n hx hb dX6_begin_10 rfl (lv_at hl 0 rfl) ?_
  refine lv_iconst (v := 0) hx hb dX6_begin_11 (by decide) ?_
  refine es_put C hP hS (es_wX_5 a cI cZ N S2) rfl inlX6 tyX6_ok nmX6 (j := 2) (by decide) es_u11_16 rfl (tyX6_ok 2 (by decide)) rfl rfl (by simp) (es_sX_24 a cI cZ N S2 0) dX6_begin_12 (fun S3 eS3 H locs hP hS => ?_)
  replace h := es_lt_e eS3 h
  refine lv_aload_n hx hb dX6_begin_15 rfl (lv_at hl 0 rfl) ?_
  refine lv_iconst (v := 0) hx hb dX6_begin_16 (by decide) ?_
  refine es_put C hP hS (es_wX_5 a cI cZ N S3) rfl inlX6 tyX6_ok nmX6 (j := 3) (by decide) es_u11_17 rfl (tyX6_ok 3 (by decide)) rfl rfl (by simp) (es_sX_25 a cI cZ N S3 0) dX6_begin_17 (fun S4 eS4 H locs hP hS => ?_)
  replace h := es_lt_e eS4 h
  refine lv_aload_n hx hb dX6_begin_20 rfl (lv_at hl 0 rfl) ?_
  refine lv_iload_n hx hb dX6_begin_21 rfl (lv_at hl 1 rfl) ?_
  refine es_put C hP hS (es_wX_5 a cI cZ N S4) rfl inlX6 tyX6_ok nmX6 (j := 4) (by decide) es_u11_18 rfl (tyX6_ok 4 (by decide)) rfl rfl (by simp) (es_sX_26 a cI cZ N S4 p1) dX6_begin_22 (fun S5 eS5 H locs hP hS => ?_)
  replace h := es_lt_e eS5 h
  exact es_vret C hr hlk h hP hS dX6_begin_25

set_option maxHeartbeats 4000000 in
set_option maxRecDepth 100000 in
theorem c_X6_copyFrom (l : Launch) (D : va_G) (cI cZ : ClassId) (a : Nat → Nat) (N : Nat → Nat) (sz fu : Nat) (S S' : es_St) (r : Int32) (h : f_X6_copyFrom N fu S = some (r, S')) : Met l yX6_copyFrom (Cond.code yX6_copyFrom cX6_copyFrom 3 none :: wsL_law) ({ frames := 0, cells := 0, slots := 0, locals := 0 } : Room) (es_Pre [.ref (a 6), .ref (a 5)] D [(cI, .int), (cZ, .boolean)] (es_wX a cI cZ N) a 35 S sz) (es_Qv D (es_wX a cI cZ N) a 35 S' sz) 0 0 (es_AA a 35 sz) := by
  refine es_intro (Qc := es_Qv D (es_wX a cI cZ N) a 35 S') (by decide) (es_okX a cI cZ N) (Nat.le_of_ble_eq_true rfl) ?_
  intro p e s m below meth c C hr hlk hP ls hl
  have hx := C.1
  have hb := C.2.1
  have hown := C.2.2.2.1
  have hts := C.2.2.2.2.1
  have hS : va_S (es_AA a 35 s.heap.size) s.heap s.heap [] := va_S.rf
  replace hl : lv_has ls 3 [(0, .ref (a 6)), (1, .ref (a 5))] := hl
  have J42 : ∀ n : Nat, (∀ (x2 : Int32) (S : es_St) (H : Heap) (locs : List Loc) (ls : Array Slot), f_X6_copyFrom_42 N fu n x2 S = some (r, S') → va_P D vwCl ((es_wX a cI cZ N) S) H → va_S (es_AA a 35 s.heap.size) s.heap H locs → lv_has ls 3 [(0, .ref (a 6)), (1, .ref (a 5)), (2, .int x2)] → W p l e ({ frames := 0, cells := 0, slots := 0, locals := 0 } : Room) s m ([.ref (a 6), .ref (a 5)] : List Value).toArray below meth c H locs 0 0 (MQ below (es_Qv D (es_wX a cI cZ N) a 35 S' s.heap.size) ([.ref (a 6), .ref (a 5)] : List Value).toArray s 0 0 (es_AA a 35 s.heap.size)) (F0 m 42 ls [])) := by
    intro n
    induction n with
    | zero => intro x2 S H locs ls h; rw [f_X6_copyFrom_42] at h; cases h
    | succ n ih =>
      intro x2 S H locs ls h hP hS hl
      rw [f_X6_copyFrom_42] at h
      refine lv_iload_n hx hb dX6_copyFrom_42 rfl (lv_at hl 2 rfl) ?_
      refine lv_aload_n hx hb dX6_copyFrom_43 rfl (lv_at hl 1 rfl) ?_
      refine es_get C hP (es_wX_5 a cI cZ N S) rfl inlX6 (j := 2) (by decide) es_u11_16 rfl dX6_copyFrom_44 ?_
      refine lv_icmp_ge (tgt := 86) hx hb dX6_copyFrom_47 (by decide) (fun c6 => ?_) (fun c6 => ?_)
      · replace h := es_if_t c6 h
        exact es_vret C hr hlk h hP hS dX6_copyFrom_86
      · replace h := es_if_f c6 h
        refine lv_iload_n hx hb dX6_copyFrom_50 rfl (lv_at hl 2 rfl) ?_
        refine lv_aload_n hx hb dX6_copyFrom_51 rfl (lv_at hl 1 rfl) ?_
        refine es_get C hP (es_wX_5 a cI cZ N S) rfl inlX6 (j := 5) (by decide) es_u3_4 rfl dX6_copyFrom_52 ?_
        refine es_len C hP (es_wX_22 a cI cZ N S) (t0 := 0) rfl dX6_copyFrom_55 ?_
        refine lv_icmp_ge (tgt := 86) hx hb dX6_copyFrom_56 (by decide) (fun c7 => ?_) (fun c7 => ?_)
        · replace h := es_if_t c7 h
          exact es_vret C hr hlk h hP hS dX6_copyFrom_86
        · replace h := es_if_f c7 h
          refine lv_iload_n hx hb dX6_copyFrom_59 rfl (lv_at hl 2 rfl) ?_
          refine lv_aload_n hx hb dX6_copyFrom_60 rfl (lv_at hl 0 rfl) ?_
          refine es_get C hP (es_wX_6 a cI cZ N S) rfl inlX6 (j := 5) (by decide) es_u3_4 rfl dX6_copyFrom_61 ?_
          refine es_len C hP (es_wX_23 a cI cZ N S) (t0 := 0) rfl dX6_copyFrom_64 ?_
          refine lv_icmp_ge (tgt := 86) hx hb dX6_copyFrom_65 (by decide) (fun c8 => ?_) (fun c8 => ?_)
          · replace h := es_if_t c8 h
            exact es_vret C hr hlk h hP hS dX6_copyFrom_86
          · replace h := es_if_f c8 h
            refine lv_aload_n hx hb dX6_copyFrom_68 rfl (lv_at hl 0 rfl) ?_
            refine es_get C hP (es_wX_6 a cI cZ N S) rfl inlX6 (j := 5) (by decide) es_u3_4 rfl dX6_copyFrom_69 ?_
            refine lv_iload_n hx hb dX6_copyFrom_72 rfl (lv_at hl 2 rfl) ?_
            refine lv_aload_n hx hb dX6_copyFrom_73 rfl (lv_at hl 1 rfl) ?_
            refine es_get C hP (es_wX_5 a cI cZ N S) rfl inlX6 (j := 5) (by decide) es_u3_4 rfl dX6_copyFrom_74 ?_
            refine lv_iload_n hx hb dX6_copyFrom_77 rfl (lv_at hl 2 rfl) ?_
            replace h := es_ck_e h
            obtain ⟨b9, h⟩ := h
            refine es_ald C hP (es_wX_22 a cI cZ N S) (t0 := 0) rfl b9 dX6_copyFrom_78 ?_
            refine lv_topi (fun v10 ev10 => ?_)
            replace h := es_lt_e ev10 h
            replace h := es_ck_e h
            obtain ⟨b11, h⟩ := h
            refine es_ast C hP hS (es_wX_23 a cI cZ N S) (es_rX_23 a cI cZ N S) (t0 := 0) rfl b11 dX6_copyFrom_79 (fun S12 eS12 H locs hP hS => ?_)
            replace h := es_lt_e eS12 h
            obtain ⟨y13, ey13⟩ : ∃ y : Int32, y = x2 + 1 := ⟨_, rfl⟩
            refine lv_iinc (v := y13) (lv' := [(2, .int y13), (0, .ref (a 6)), (1, .ref (a 5))]) hx hb dX6_copyFrom_80 hl (k := 2) rfl (by rw [ey13]; rfl) (by decide) rfl (fun ls hl => ?_)
            replace h := es_lt_e ey13 h
            refine lv_goto (tgt := 42) hx hb dX6_copyFrom_83 (by decide) ?_
            exact ih y13 S12 _ _ _ h hP hS (lv_sub hl [1, 2, 0] rfl)
  unfold f_X6_copyFrom at h
  refine lv_aload_n hx hb dX6_copyFrom_0 rfl (lv_at hl 0 rfl) ?_
  refine lv_aload_n hx hb dX6_copyFrom_1 rfl (lv_at hl 1 rfl) ?_
  refine es_get C hP (es_wX_5 a cI cZ N S) rfl inlX6 (j := 0) (by decide) es_u11_14 rfl dX6_copyFrom_2 ?_
  refine es_put C hP hS (es_wX_6 a cI cZ N S) rfl inlX6 tyX6_ok nmX6 (j := 0) (by decide) es_u11_14 rfl (tyX6_ok 0 (by decide)) rfl rfl (by simp) (es_sX_27 a cI cZ N S (S.1 22)) dX6_copyFrom_5 (fun S1 eS1 H locs hP hS => ?_)
  replace h := es_lt_e eS1 h
  refine lv_aload_n hx hb dX6_copyFrom_8 rfl (lv_at hl 0 rfl) ?_
  refine lv_aload_n hx hb dX6_copyFrom_9 rfl (lv_at hl 1 rfl) ?_
  refine es_get C hP (es_wX_5 a cI cZ N S1) rfl inlX6 (j := 1) (by decide) es_u11_15 rfl dX6_copyFrom_10 ?_
  refine es_put C hP hS (es_wX_6 a cI cZ N S1) rfl inlX6 tyX6_ok nmX6 (j := 1) (by decide) es_u11_15 rfl (tyX6_ok 1 (by decide)) rfl rfl (by simp) (es_sX_28 a cI cZ N S1 (S1.1 23)) dX6_copyFrom_13 (fun S2 eS2 H locs hP hS => ?_)
  replace h := es_lt_e eS2 h
  refine lv_aload_n hx hb dX6_copyFrom_16 rfl (lv_at hl 0 rfl) ?_
  refine lv_aload_n hx hb dX6_copyFrom_17 rfl (lv_at hl 1 rfl) ?_
  refine es_get C hP (es_wX_5 a cI cZ N S2) rfl inlX6 (j := 2) (by decide) es_u11_16 rfl dX6_copyFrom_18 ?_
  refine es_put C hP hS (es_wX_6 a cI cZ N S2) rfl inlX6 tyX6_ok nmX6 (j := 2) (by decide) es_u11_16 rfl (tyX6_ok 2 (by decide)) rfl rfl (by simp) (es_sX_29 a cI cZ N S2 (S2.1 24)) dX6_copyFrom_21 (fun S3 eS3 H locs hP hS => ?_)
  replace h := es_lt_e eS3 h
  refine lv_aload_n hx hb dX6_copyFrom_24 rfl (lv_at hl 0 rfl) ?_
  refine lv_aload_n hx hb dX6_copyFrom_25 rfl (lv_at hl 1 rfl) ?_
  refine es_get C hP (es_wX_5 a cI cZ N S3) rfl inlX6 (j := 3) (by decide) es_u11_17 rfl dX6_copyFrom_26 ?_
  refine es_put C hP hS (es_wX_6 a cI cZ N S3) rfl inlX6 tyX6_ok nmX6 (j := 3) (by decide) es_u11_17 rfl (tyX6_ok 3 (by decide)) rfl rfl (by simp) (es_sX_30 a cI cZ N S3 (S3.1 25)) dX6_copyFrom_29 (fun S4 eS4 H locs hP hS => ?_)
  replace h := es_lt_e eS4 h
  refine lv_aload_n hx hb dX6_copyFrom_32 rfl (lv_at hl 0 rfl) ?_
  refine lv_aload_n hx hb dX6_copyFrom_33 rfl (lv_at hl 1 rfl) ?_
  refine es_get C hP (es_wX_5 a cI cZ N S4) rfl inlX6 (j := 4) (by decide) es_u11_18 rfl dX6_copyFrom_34 ?_
  refine es_put C hP hS (es_wX_6 a cI cZ N S4) rfl inlX6 tyX6_ok nmX6 (j := 4) (by decide) es_u11_18 rfl (tyX6_ok 4 (by decide)) rfl rfl (by simp) (es_sX_31 a cI cZ N S4 (S4.1 26)) dX6_copyFrom_37 (fun S5 eS5 H locs hP hS => ?_)
  replace h := es_lt_e eS5 h
  refine lv_iconst (v := 0) hx hb dX6_copyFrom_40 (by decide) ?_
  refine lv_istore_n (lv' := [(2, .int 0), (0, .ref (a 6)), (1, .ref (a 5))]) hx hb dX6_copyFrom_41 rfl hl (by decide) rfl (fun ls hl => ?_)
  exact J42  fu 0 S5 _ _ _ h hP hS (lv_sub hl [1, 2, 0] rfl)

set_option maxHeartbeats 4000000 in
set_option maxRecDepth 100000 in
theorem c_X6_lengthOf (l : Launch) (D : va_G) (cI cZ : ClassId) (a : Nat → Nat) (N : Nat → Nat) (sz fu : Nat) (S S' : es_St) (p1 : Int32) (r : Int32) (h : f_X6_lengthOf N fu S p1 = some (r, S')) : Met l yX6_lengthOf (Cond.code yX6_lengthOf cX6_lengthOf 2 (some .int) :: wsL_law) ({ frames := 0, cells := 0, slots := 0, locals := 0 } : Room) (es_Pre [.ref (a 6), .int p1] D [(cI, .int), (cZ, .boolean)] (es_wX a cI cZ N) a 35 S sz) (es_Qi D (es_wX a cI cZ N) a 35 r S' sz) 0 0 (es_AA a 35 sz) := by
  refine es_intro (Qc := es_Qi D (es_wX a cI cZ N) a 35 r S') (by decide) (es_okX a cI cZ N) (Nat.le_of_ble_eq_true rfl) ?_
  intro p e s m below meth c C hr hlk hP ls hl
  have hx := C.1
  have hb := C.2.1
  have hown := C.2.2.2.1
  have hts := C.2.2.2.2.1
  have hS : va_S (es_AA a 35 s.heap.size) s.heap s.heap [] := va_S.rf
  replace hl : lv_has ls 2 [(0, .ref (a 6)), (1, .int p1)] := hl
  unfold f_X6_lengthOf at h
  refine lv_iload_n hx hb dX6_lengthOf_0 rfl (lv_at hl 1 rfl) ?_
  refine lv_if_lt (tgt := 30) hx hb dX6_lengthOf_1 (by decide) (fun c1 => ?_) (fun c1 => ?_)
  · replace h := es_if_t c1 h
    refine lv_iconst (v := (-1)) hx hb dX6_lengthOf_30 (by decide) ?_
    exact es_iret C hr hlk h hP hS dX6_lengthOf_31
  · replace h := es_if_f c1 h
    refine lv_iload_n hx hb dX6_lengthOf_4 rfl (lv_at hl 1 rfl) ?_
    refine lv_aload_n hx hb dX6_lengthOf_5 rfl (lv_at hl 0 rfl) ?_
    refine es_get C hP (es_wX_6 a cI cZ N S) rfl inlX6 (j := 2) (by decide) es_u11_16 rfl dX6_lengthOf_6 ?_
    refine lv_icmp_ge (tgt := 30) hx hb dX6_lengthOf_9 (by decide) (fun c2 => ?_) (fun c2 => ?_)
    · replace h := es_if_t c2 h
      refine lv_iconst (v := (-1)) hx hb dX6_lengthOf_30 (by decide) ?_
      exact es_iret C hr hlk h hP hS dX6_lengthOf_31
    · replace h := es_if_f c2 h
      refine lv_iload_n hx hb dX6_lengthOf_12 rfl (lv_at hl 1 rfl) ?_
      refine lv_aload_n hx hb dX6_lengthOf_13 rfl (lv_at hl 0 rfl) ?_
      refine es_get C hP (es_wX_6 a cI cZ N S) rfl inlX6 (j := 5) (by decide) es_u3_4 rfl dX6_lengthOf_14 ?_
      refine es_len C hP (es_wX_23 a cI cZ N S) (t0 := 0) rfl dX6_lengthOf_17 ?_
      refine lv_icmp_ge (tgt := 30) hx hb dX6_lengthOf_18 (by decide) (fun c3 => ?_) (fun c3 => ?_)
      · replace h := es_if_t c3 h
        refine lv_iconst (v := (-1)) hx hb dX6_lengthOf_30 (by decide) ?_
        exact es_iret C hr hlk h hP hS dX6_lengthOf_31
      · replace h := es_if_f c3 h
        refine lv_aload_n hx hb dX6_lengthOf_21 rfl (lv_at hl 0 rfl) ?_
        refine es_get C hP (es_wX_6 a cI cZ N S) rfl inlX6 (j := 5) (by decide) es_u3_4 rfl dX6_lengthOf_22 ?_
        refine lv_iload_n hx hb dX6_lengthOf_25 rfl (lv_at hl 1 rfl) ?_
        replace h := es_ck_e h
        obtain ⟨b4, h⟩ := h
        refine es_ald C hP (es_wX_23 a cI cZ N S) (t0 := 0) rfl b4 dX6_lengthOf_26 ?_
        refine lv_topi (fun v5 ev5 => ?_)
        replace h := es_lt_e ev5 h
        refine lv_goto (tgt := 31) hx hb dX6_lengthOf_27 (by decide) ?_
        exact es_iret C hr hlk h hP hS dX6_lengthOf_31

set_option maxHeartbeats 4000000 in
set_option maxRecDepth 100000 in
theorem c_X7_addPage (l : Launch) (D : va_G) (cI cZ : ClassId) (a : Nat → Nat) (N : Nat → Nat) (sz fu : Nat) (S S' : es_St) (p1 : Int32) (r : Int32) (h : f_X7_addPage N fu S p1 = some (r, S')) : Met l yX7_addPage (Cond.code yX7_addPage cX7_addPage 3 (some .int) :: wsL_law) ({ frames := 3, cells := 0, slots := 0, locals := 67 } : Room) (es_Pre [.ref (a 0), .int p1] D [(cI, .int), (cZ, .boolean)] (es_wX a cI cZ N) a 35 S sz) (es_Qi D (es_wX a cI cZ N) a 35 r S' sz) 0 0 (es_AA a 35 sz) := by
  refine es_intro (Qc := es_Qi D (es_wX a cI cZ N) a 35 r S') (by decide) (es_okX a cI cZ N) (Nat.le_of_ble_eq_true rfl) ?_
  intro p e s m below meth c C hr hlk hP ls hl
  have hx := C.1
  have hb := C.2.1
  have hown := C.2.2.2.1
  have hts := C.2.2.2.2.1
  have hS : va_S (es_AA a 35 s.heap.size) s.heap s.heap [] := va_S.rf
  replace hl : lv_has ls 3 [(0, .ref (a 0)), (1, .int p1)] := hl
  unfold f_X7_addPage at h
  refine lv_aload_n hx hb dX7_addPage_0 rfl (lv_at hl 0 rfl) ?_
  refine es_get C hP (es_wX_0 a cI cZ N S) rfl inlX7 (j := 0) (by decide) es_u2_10 rfl dX7_addPage_1 ?_
  refine lv_iload_n hx hb dX7_addPage_4 rfl (lv_at hl 1 rfl) ?_
  replace h := es_bd_e h
  obtain ⟨r1, S2, g3, h⟩ := h
  refine es_callVi C (c_X0_take l D cI cZ a N _ fu S S2 p1 r1 g3) es_u8_4 es_mX0_take ⟨rfl, rfl, by decide, by decide⟩ ⟨Nat.zero_le _, Nat.zero_le _⟩ hP hS (es_wX_1 a cI cZ N S) rfl rfl hl.1 rfl (Nat.le_of_ble_eq_true rfl) dX7_addPage_5 (fun H locs _ _ hP hS => ?_)
  refine lv_istore_n (lv' := [(2, .int r1), (0, .ref (a 0)), (1, .int p1)]) hx hb dX7_addPage_8 rfl hl (by decide) rfl (fun ls hl => ?_)
  refine lv_iload_n hx hb dX7_addPage_9 rfl (lv_at hl 0 rfl) ?_
  refine lv_iconst (v := (-1)) hx hb dX7_addPage_10 (by decide) ?_
  refine lv_icmp_ne (tgt := 16) hx hb dX7_addPage_11 (by decide) (fun c4 => ?_) (fun c4 => ?_)
  · replace h := es_if_t c4 h
    refine lv_aload_n hx hb dX7_addPage_16 rfl (lv_at hl 1 rfl) ?_
    refine es_get C hP (es_wX_0 a cI cZ N S2) rfl inlX7 (j := 7) (by decide) es_u1_18 rfl dX7_addPage_17 ?_
    refine lv_iload_n hx hb dX7_addPage_20 rfl (lv_at hl 2 rfl) ?_
    replace h := es_ck_e h
    obtain ⟨b5, h⟩ := h
    refine es_ald C hP (es_wX_10 a cI cZ N S2) (t0 := 0) rfl b5 dX7_addPage_21 ?_
    refine lv_topi (fun v6 ev6 => ?_)
    replace h := es_lt_e ev6 h
    refine lv_if_ne (tgt := 35) hx hb dX7_addPage_22 (by decide) (fun c7 => ?_) (fun c7 => ?_)
    · replace h := es_if_t c7 h
      refine lv_aload_n hx hb dX7_addPage_35 rfl (lv_at hl 1 rfl) ?_
      refine es_get C hP (es_wX_0 a cI cZ N S2) rfl inlX7 (j := 0) (by decide) es_u2_10 rfl dX7_addPage_36 ?_
      refine lv_aload_n hx hb dX7_addPage_39 rfl (lv_at hl 1 rfl) ?_
      refine es_get C hP (es_wX_0 a cI cZ N S2) rfl inlX7 (j := 0) (by decide) es_u2_10 rfl dX7_addPage_40 ?_
      refine lv_aload_n hx hb dX7_addPage_43 rfl (lv_at hl 1 rfl) ?_
      refine es_get C hP (es_wX_0 a cI cZ N S2) rfl inlX7 (j := 6) (by decide) es_u1_17 rfl dX7_addPage_44 ?_
      refine lv_iload_n hx hb dX7_addPage_47 rfl (lv_at hl 2 rfl) ?_
      replace h := es_ck_e h
      obtain ⟨b8, h⟩ := h
      refine es_ald C hP (es_wX_9 a cI cZ N S2) (t0 := 0) rfl b8 dX7_addPage_48 ?_
      refine lv_topi (fun v9 ev9 => ?_)
      replace h := es_lt_e ev9 h
      refine lv_aload_n hx hb dX7_addPage_49 rfl (lv_at hl 1 rfl) ?_
      refine es_get C hP (es_wX_0 a cI cZ N S2) rfl inlX7 (j := 7) (by decide) es_u1_18 rfl dX7_addPage_50 ?_
      refine lv_iload_n hx hb dX7_addPage_53 rfl (lv_at hl 2 rfl) ?_
      replace h := es_ck_e h
      obtain ⟨b10, h⟩ := h
      refine es_ald C hP (es_wX_10 a cI cZ N S2) (t0 := 0) rfl b10 dX7_addPage_54 ?_
      refine lv_topi (fun v11 ev11 => ?_)
      replace h := es_lt_e ev11 h
      refine lv_iconst (v := 1) hx hb dX7_addPage_55 (by decide) ?_
      refine lv_isub hx hb dX7_addPage_56 ?_
      replace h := es_bd_e h
      obtain ⟨r12, S13, g14, h⟩ := h
      refine es_callVi C (c_X0_pageOf l D cI cZ a N _ fu S2 S13 v9 (v11 - 1) r12 g14) es_u8_13 es_mX0_pageOf ⟨rfl, rfl, by decide, by decide⟩ ⟨Nat.zero_le _, Nat.zero_le _⟩ hP hS (es_wX_1 a cI cZ N S2) rfl rfl hl.1 rfl (Nat.le_of_ble_eq_true rfl) dX7_addPage_57 (fun H locs _ _ hP hS => ?_)
      refine lv_iload_n hx hb dX7_addPage_60 rfl (lv_at hl 0 rfl) ?_
      replace h := es_bd_e h
      obtain ⟨r15, S16, g17, h⟩ := h
      refine es_callVv C (c_X0_link l D cI cZ a N _ fu S13 S16 r12 r1 r15 g17) es_u8_21 es_mX0_link ⟨rfl, rfl, by decide, by decide⟩ ⟨Nat.zero_le _, Nat.zero_le _⟩ hP hS (es_wX_1 a cI cZ N S13) rfl rfl hl.1 rfl (Nat.le_of_ble_eq_true rfl) dX7_addPage_61 (fun H locs _ _ hP hS => ?_)
      refine lv_iload_n hx hb dX7_addPage_64 rfl (lv_at hl 0 rfl) ?_
      exact es_iret C hr hlk h hP hS dX7_addPage_65
    · replace h := es_if_f (fun q => q c7) h
      refine lv_aload_n hx hb dX7_addPage_25 rfl (lv_at hl 1 rfl) ?_
      refine es_get C hP (es_wX_0 a cI cZ N S2) rfl inlX7 (j := 6) (by decide) es_u1_17 rfl dX7_addPage_26 ?_
      refine lv_iload_n hx hb dX7_addPage_29 rfl (lv_at hl 2 rfl) ?_
      refine lv_iload_n hx hb dX7_addPage_30 rfl (lv_at hl 0 rfl) ?_
      replace h := es_ck_e h
      obtain ⟨b18, h⟩ := h
      refine es_ast C hP hS (es_wX_9 a cI cZ N S2) (es_rX_9 a cI cZ N S2) (t0 := 0) rfl b18 dX7_addPage_31 (fun S19 eS19 H locs hP hS => ?_)
      replace h := es_lt_e eS19 h
      refine lv_goto (tgt := 64) hx hb dX7_addPage_32 (by decide) ?_
      refine lv_iload_n hx hb dX7_addPage_64 rfl (lv_at hl 0 rfl) ?_
      exact es_iret C hr hlk h hP hS dX7_addPage_65
  · replace h := es_if_f (fun q => q c4) h
    refine lv_iconst (v := (-1)) hx hb dX7_addPage_14 (by decide) ?_
    exact es_iret C hr hlk h hP hS dX7_addPage_15

set_option maxHeartbeats 4000000 in
set_option maxRecDepth 100000 in
theorem c_X7_isFile (l : Launch) (D : va_G) (cI cZ : ClassId) (a : Nat → Nat) (N : Nat → Nat) (sz fu : Nat) (S S' : es_St) (p1 : Int32) (r : Int32) (h : f_X7_isFile N fu S p1 = some (r, S')) : Met l yX7_isFile (Cond.code yX7_isFile cX7_isFile 1 (some .boolean) :: wsL_law) ({ frames := 0, cells := 0, slots := 0, locals := 0 } : Room) (es_Pre [.int p1] D [(cI, .int), (cZ, .boolean)] (es_wX a cI cZ N) a 35 S sz) (es_Qi D (es_wX a cI cZ N) a 35 r S' sz) 0 0 (es_AA a 35 sz) := by
  refine es_intro (Qc := es_Qi D (es_wX a cI cZ N) a 35 r S') (by decide) (es_okX a cI cZ N) (Nat.le_of_ble_eq_true rfl) ?_
  intro p e s m below meth c C hr hlk hP ls hl
  have hx := C.1
  have hb := C.2.1
  have hown := C.2.2.2.1
  have hts := C.2.2.2.2.1
  have hS : va_S (es_AA a 35 s.heap.size) s.heap s.heap [] := va_S.rf
  replace hl : lv_has ls 1 [(0, .int p1)] := hl
  unfold f_X7_isFile at h
  refine lv_iload_n hx hb dX7_isFile_0 rfl (lv_at hl 0 rfl) ?_
  refine lv_if_lt (tgt := 14) hx hb dX7_isFile_1 (by decide) (fun c1 => ?_) (fun c1 => ?_)
  · replace h := es_if_t c1 h
    refine lv_iconst (v := 0) hx hb dX7_isFile_14 (by decide) ?_
    exact es_zret C hr hlk ⟨rfl, rfl⟩ h hP hS dX7_isFile_15
  · replace h := es_if_f c1 h
    refine lv_iload_n hx hb dX7_isFile_4 rfl (lv_at hl 0 rfl) ?_
    refine lv_bipush (v := 6) hx hb dX7_isFile_5 (by decide) ?_
    refine lv_icmp_ge (tgt := 14) hx hb dX7_isFile_7 (by decide) (fun c2 => ?_) (fun c2 => ?_)
    · replace h := es_if_t c2 h
      refine lv_iconst (v := 0) hx hb dX7_isFile_14 (by decide) ?_
      exact es_zret C hr hlk ⟨rfl, rfl⟩ h hP hS dX7_isFile_15
    · replace h := es_if_f c2 h
      refine lv_iconst (v := 1) hx hb dX7_isFile_10 (by decide) ?_
      refine lv_goto (tgt := 15) hx hb dX7_isFile_11 (by decide) ?_
      exact es_zret C hr hlk ⟨rfl, rfl⟩ h hP hS dX7_isFile_15

set_option maxHeartbeats 4000000 in
set_option maxRecDepth 100000 in
theorem c_X7_append (l : Launch) (D : va_G) (cI cZ : ClassId) (a : Nat → Nat) (N : Nat → Nat) (sz fu : Nat) (S S' : es_St) (p1 : Int32) (p2 : Int32) (p3 : Int32) (r : Int32) (h : f_X7_append N fu S p1 p2 p3 = some (r, S')) : Met l yX7_append (Cond.code yX7_append cX7_append 7 (some .int) :: wsL_law) ({ frames := 4, cells := 0, slots := 0, locals := 89 } : Room) (es_Pre [.ref (a 0), .int p1, .int p2, .int p3] D [(cI, .int), (cZ, .boolean)] (es_wX a cI cZ N) a 35 S sz) (es_Qi D (es_wX a cI cZ N) a 35 r S' sz) 0 0 (es_AA a 35 sz) := by
  refine es_intro (Qc := es_Qi D (es_wX a cI cZ N) a 35 r S') (by decide) (es_okX a cI cZ N) (Nat.le_of_ble_eq_true rfl) ?_
  intro p e s m below meth c C hr hlk hP ls hl
  have hx := C.1
  have hb := C.2.1
  have hown := C.2.2.2.1
  have hts := C.2.2.2.2.1
  have hS : va_S (es_AA a 35 s.heap.size) s.heap s.heap [] := va_S.rf
  replace hl : lv_has ls 7 [(0, .ref (a 0)), (1, .int p1), (2, .int p2), (3, .int p3)] := hl
  have J56 : (∀ (x1 : Int32) (x2 : Int32) (x3 : Int32) (x4 : Int32) (x5 : Int32) (t0 : Int32) (S : es_St) (H : Heap) (locs : List Loc) (ls : Array Slot), f_X7_append_56 N fu x1 x2 x3 x4 x5 t0 S = some (r, S') → va_P D vwCl ((es_wX a cI cZ N) S) H → va_S (es_AA a 35 s.heap.size) s.heap H locs → lv_has ls 7 [(0, .ref (a 0)), (1, .int x1), (2, .int x2), (3, .int x3), (4, .int x4), (5, .int x5)] → W p l e ({ frames := 4, cells := 0, slots := 0, locals := 89 } : Room) s m ([.ref (a 0), .int p1, .int p2, .int p3] : List Value).toArray below meth c H locs 0 0 (MQ below (es_Qi D (es_wX a cI cZ N) a 35 r S' s.heap.size) ([.ref (a 0), .int p1, .int p2, .int p3] : List Value).toArray s 0 0 (es_AA a 35 s.heap.size)) (F0 m 56 ls [.int t0])) := by
    intro x1 x2 x3 x4 x5 t0 S H locs ls h hP hS hl
    unfold f_X7_append_56 at h
    refine lv_istore (lv' := [(6, .int t0), (0, .ref (a 0)), (1, .int x1), (2, .int x2), (3, .int x3), (4, .int x4), (5, .int x5)]) hx hb dX7_append_56 hl (by decide) rfl (fun ls hl => ?_)
    refine lv_iload hx hb dX7_append_58 (lv_at hl 0 rfl) ?_
    refine lv_iconst (v := (-1)) hx hb dX7_append_60 (by decide) ?_
    refine lv_icmp_ne (tgt := 66) hx hb dX7_append_61 (by decide) (fun c16 => ?_) (fun c16 => ?_)
    · replace h := es_if_t c16 h
      refine lv_aload_n hx hb dX7_append_66 rfl (lv_at hl 1 rfl) ?_
      refine es_get C hP (es_wX_0 a cI cZ N S) rfl inlX7 (j := 0) (by decide) es_u2_10 rfl dX7_append_67 ?_
      refine lv_iload hx hb dX7_append_70 (lv_at hl 0 rfl) ?_
      refine lv_iload hx hb dX7_append_72 (lv_at hl 6 rfl) ?_
      refine lv_iload_n hx hb dX7_append_74 rfl (lv_at hl 3 rfl) ?_
      refine lv_iload_n hx hb dX7_append_75 rfl (lv_at hl 4 rfl) ?_
      replace h := es_bd_e h
      obtain ⟨r17, S18, g19, h⟩ := h
      refine es_callVv C (c_X0_store l D cI cZ a N _ fu S S18 t0 x5 x2 x3 r17 g19) es_u9_1 es_mX0_store ⟨rfl, rfl, by decide, by decide⟩ ⟨Nat.zero_le _, Nat.zero_le _⟩ hP hS (es_wX_1 a cI cZ N S) rfl rfl hl.1 rfl (Nat.le_of_ble_eq_true rfl) dX7_append_76 (fun H locs _ _ hP hS => ?_)
      refine lv_aload_n hx hb dX7_append_79 rfl (lv_at hl 1 rfl) ?_
      refine es_get C hP (es_wX_0 a cI cZ N S18) rfl inlX7 (j := 7) (by decide) es_u1_18 rfl dX7_append_80 ?_
      refine lv_iload_n hx hb dX7_append_83 rfl (lv_at hl 2 rfl) ?_
      refine lv_iload hx hb dX7_append_84 (lv_at hl 5 rfl) ?_
      refine lv_iconst (v := 1) hx hb dX7_append_86 (by decide) ?_
      refine lv_iadd hx hb dX7_append_87 ?_
      refine lv_topi (fun v20 ev20 => ?_)
      replace h := es_lt_e ev20 h
      replace h := es_ck_e h
      obtain ⟨b21, h⟩ := h
      refine es_ast C hP hS (es_wX_10 a cI cZ N S18) (es_rX_10 a cI cZ N S18) (t0 := 0) rfl b21 dX7_append_88 (fun S22 eS22 H locs hP hS => ?_)
      replace h := es_lt_e eS22 h
      refine lv_iload hx hb dX7_append_89 (lv_at hl 5 rfl) ?_
      refine lv_iconst (v := 1) hx hb dX7_append_91 (by decide) ?_
      refine lv_iadd hx hb dX7_append_92 ?_
      exact es_iret C hr hlk h hP hS dX7_append_93
    · replace h := es_if_f (fun q => q c16) h
      refine lv_iconst (v := (-1)) hx hb dX7_append_64 (by decide) ?_
      exact es_iret C hr hlk h hP hS dX7_append_65
  unfold f_X7_append at h
  refine lv_iload_n hx hb dX7_append_0 rfl (lv_at hl 1 rfl) ?_
  replace h := es_bd_e h
  obtain ⟨r1, S2, g3, h⟩ := h
  refine es_callSi C (c_X7_isFile l D cI cZ a N _ fu S S2 p1 r1 g3) es_u7_17 es_mX7_isFile ⟨rfl, rfl, by decide, by decide⟩ ⟨Nat.zero_le _, Nat.zero_le _⟩ hP hS rfl hl.1 rfl (Nat.le_of_ble_eq_true rfl) dX7_append_1 (fun H locs _ _ hP hS => ?_)
  refine lv_if_ne (tgt := 9) hx hb dX7_append_4 (by decide) (fun c4 => ?_) (fun c4 => ?_)
  · replace h := es_if_t c4 h
    refine lv_aload_n hx hb dX7_append_9 rfl (lv_at hl 0 rfl) ?_
    refine es_get C hP (es_wX_0 a cI cZ N S2) rfl inlX7 (j := 7) (by decide) es_u1_18 rfl dX7_append_10 ?_
    refine lv_iload_n hx hb dX7_append_13 rfl (lv_at hl 1 rfl) ?_
    replace h := es_ck_e h
    obtain ⟨b5, h⟩ := h
    refine es_ald C hP (es_wX_10 a cI cZ N S2) (t0 := 0) rfl b5 dX7_append_14 ?_
    refine lv_topi (fun v6 ev6 => ?_)
    replace h := es_lt_e ev6 h
    refine lv_istore (lv' := [(4, .int v6), (0, .ref (a 0)), (1, .int p1), (2, .int p2), (3, .int p3)]) hx hb dX7_append_15 hl (by decide) rfl (fun ls hl => ?_)
    refine lv_aload_n hx hb dX7_append_17 rfl (lv_at hl 1 rfl) ?_
    refine es_get C hP (es_wX_0 a cI cZ N S2) rfl inlX7 (j := 0) (by decide) es_u2_10 rfl dX7_append_18 ?_
    refine lv_iload hx hb dX7_append_21 (lv_at hl 0 rfl) ?_
    replace h := es_bd_e h
    obtain ⟨r7, S8, g9, h⟩ := h
    refine es_callVi C (c_X0_slotOf l D cI cZ a N _ fu S2 S8 v6 r7 g9) es_u7_20 es_mX0_slotOf ⟨rfl, rfl, by decide, by decide⟩ ⟨Nat.zero_le _, Nat.zero_le _⟩ hP hS (es_wX_1 a cI cZ N S2) rfl rfl hl.1 rfl (Nat.le_of_ble_eq_true rfl) dX7_append_23 (fun H locs _ _ hP hS => ?_)
    refine lv_istore (lv' := [(5, .int r7), (4, .int v6), (0, .ref (a 0)), (1, .int p1), (2, .int p2), (3, .int p3)]) hx hb dX7_append_26 hl (by decide) rfl (fun ls hl => ?_)
    refine lv_iload hx hb dX7_append_28 (lv_at hl 0 rfl) ?_
    refine lv_if_ne (tgt := 41) hx hb dX7_append_30 (by decide) (fun c10 => ?_) (fun c10 => ?_)
    · replace h := es_if_t c10 h
      refine lv_aload_n hx hb dX7_append_41 rfl (lv_at hl 2 rfl) ?_
      refine es_get C hP (es_wX_0 a cI cZ N S8) rfl inlX7 (j := 0) (by decide) es_u2_10 rfl dX7_append_42 ?_
      refine lv_aload_n hx hb dX7_append_45 rfl (lv_at hl 2 rfl) ?_
      refine es_get C hP (es_wX_0 a cI cZ N S8) rfl inlX7 (j := 6) (by decide) es_u1_17 rfl dX7_append_46 ?_
      refine lv_iload_n hx hb dX7_append_49 rfl (lv_at hl 3 rfl) ?_
      replace h := es_ck_e h
      obtain ⟨b11, h⟩ := h
      refine es_ald C hP (es_wX_9 a cI cZ N S8) (t0 := 0) rfl b11 dX7_append_50 ?_
      refine lv_topi (fun v12 ev12 => ?_)
      replace h := es_lt_e ev12 h
      refine lv_iload hx hb dX7_append_51 (lv_at hl 1 rfl) ?_
      replace h := es_bd_e h
      obtain ⟨r13, S14, g15, h⟩ := h
      refine es_callVi C (c_X0_pageOf l D cI cZ a N _ fu S8 S14 v12 v6 r13 g15) es_u8_13 es_mX0_pageOf ⟨rfl, rfl, by decide, by decide⟩ ⟨Nat.zero_le _, Nat.zero_le _⟩ hP hS (es_wX_1 a cI cZ N S8) rfl rfl hl.1 rfl (Nat.le_of_ble_eq_true rfl) dX7_append_53 (fun H locs _ _ hP hS => ?_)
      exact J56  p1 p2 p3 v6 r7 r13 S14 _ _ _ h hP hS (lv_sub hl [2, 3, 4, 5, 1, 0] rfl)
    · replace h := es_if_f (fun q => q c10) h
      refine lv_aload_n hx hb dX7_append_33 rfl (lv_at hl 2 rfl) ?_
      refine lv_iload_n hx hb dX7_append_34 rfl (lv_at hl 3 rfl) ?_
      replace h := es_bd_e h
      obtain ⟨r23, S24, g25, h⟩ := h
      refine es_callVi C (c_X7_addPage l D cI cZ a N _ fu S8 S24 p1 r23 g25) es_u8_0 es_mX7_addPage ⟨rfl, rfl, by decide, by decide⟩ ⟨Nat.zero_le _, Nat.zero_le _⟩ hP hS (es_wX_0 a cI cZ N S8) rfl rfl hl.1 rfl (Nat.le_of_ble_eq_true rfl) dX7_append_35 (fun H locs _ _ hP hS => ?_)
      refine lv_goto (tgt := 56) hx hb dX7_append_38 (by decide) ?_
      exact J56  p1 p2 p3 v6 r7 r23 S24 _ _ _ h hP hS (lv_sub hl [2, 3, 4, 5, 1, 0] rfl)
  · replace h := es_if_f (fun q => q c4) h
    refine lv_iconst (v := (-1)) hx hb dX7_append_7 (by decide) ?_
    exact es_iret C hr hlk h hP hS dX7_append_8

set_option maxHeartbeats 4000000 in
set_option maxRecDepth 100000 in
theorem c_X7_begin (l : Launch) (D : va_G) (cI cZ : ClassId) (a : Nat → Nat) (N : Nat → Nat) (sz fu : Nat) (S S' : es_St) (p1 : Int32) (p2 : Int32) (p3 : Int32) (r : Int32) (h : f_X7_begin N fu S p1 p2 p3 = some (r, S')) : Met l yX7_begin (Cond.code yX7_begin cX7_begin 4 none :: wsL_law) ({ frames := 1, cells := 0, slots := 0, locals := 23 } : Room) (es_Pre [.ref (a 0), .int p1, .int p2, .int p3] D [(cI, .int), (cZ, .boolean)] (es_wX a cI cZ N) a 35 S sz) (es_Qv D (es_wX a cI cZ N) a 35 S' sz) 0 0 (es_AA a 35 sz) := by
  refine es_intro (Qc := es_Qv D (es_wX a cI cZ N) a 35 S') (by decide) (es_okX a cI cZ N) (Nat.le_of_ble_eq_true rfl) ?_
  intro p e s m below meth c C hr hlk hP ls hl
  have hx := C.1
  have hb := C.2.1
  have hown := C.2.2.2.1
  have hts := C.2.2.2.2.1
  have hS : va_S (es_AA a 35 s.heap.size) s.heap s.heap [] := va_S.rf
  replace hl : lv_has ls 4 [(0, .ref (a 0)), (1, .int p1), (2, .int p2), (3, .int p3)] := hl
  unfold f_X7_begin at h
  refine lv_aload_n hx hb dX7_begin_0 rfl (lv_at hl 0 rfl) ?_
  refine es_get C hP (es_wX_0 a cI cZ N S) rfl inlX7 (j := 4) (by decide) es_u2_5 rfl dX7_begin_1 ?_
  refine lv_aload_n hx hb dX7_begin_4 rfl (lv_at hl 0 rfl) ?_
  refine es_get C hP (es_wX_0 a cI cZ N S) rfl inlX7 (j := 0) (by decide) es_u2_10 rfl dX7_begin_5 ?_
  replace h := es_bd_e h
  obtain ⟨r1, S2, g3, h⟩ := h
  refine es_callVi C (c_X0_usedPages l D cI cZ a N _ fu S S2 r1 g3) es_u11_6 es_mX0_usedPages ⟨rfl, rfl, by decide, by decide⟩ ⟨Nat.zero_le _, Nat.zero_le _⟩ hP hS (es_wX_1 a cI cZ N S) rfl rfl hl.1 rfl (Nat.le_of_ble_eq_true rfl) dX7_begin_8 (fun H locs _ _ hP hS => ?_)
  replace h := es_bd_e h
  obtain ⟨r4, S5, g6, h⟩ := h
  refine es_callVv C (c_X6_begin l D cI cZ a N _ fu S2 S5 r1 r4 g6) es_u11_10 es_mX6_begin ⟨rfl, rfl, by decide, by decide⟩ ⟨Nat.zero_le _, Nat.zero_le _⟩ hP hS (es_wX_5 a cI cZ N S2) rfl rfl hl.1 rfl (Nat.le_of_ble_eq_true rfl) dX7_begin_11 (fun H locs _ _ hP hS => ?_)
  refine lv_aload_n hx hb dX7_begin_14 rfl (lv_at hl 0 rfl) ?_
  refine es_get C hP (es_wX_0 a cI cZ N S5) rfl inlX7 (j := 2) (by decide) es_u2_18 rfl dX7_begin_15 ?_
  refine lv_iload_n hx hb dX7_begin_18 rfl (lv_at hl 1 rfl) ?_
  refine lv_iload_n hx hb dX7_begin_19 rfl (lv_at hl 2 rfl) ?_
  refine lv_iload_n hx hb dX7_begin_20 rfl (lv_at hl 3 rfl) ?_
  replace h := es_bd_e h
  obtain ⟨r7, S8, g9, h⟩ := h
  refine es_callVv C (c_X5_prepare l D cI cZ a N _ fu S5 S8 p1 p2 p3 r7 g9) es_u11_19 es_mX5_prepare ⟨rfl, rfl, by decide, by decide⟩ ⟨Nat.zero_le _, Nat.zero_le _⟩ hP hS (es_wX_3 a cI cZ N S5) rfl rfl hl.1 rfl (Nat.le_of_ble_eq_true rfl) dX7_begin_21 (fun H locs _ _ hP hS => ?_)
  exact es_vret C hr hlk h hP hS dX7_begin_24

set_option maxHeartbeats 4000000 in
set_option maxRecDepth 100000 in
theorem c_X7_isBudget (l : Launch) (D : va_G) (cI cZ : ClassId) (a : Nat → Nat) (N : Nat → Nat) (sz fu : Nat) (S S' : es_St) (p1 : Int32) (r : Int32) (h : f_X7_isBudget N fu S p1 = some (r, S')) : Met l yX7_isBudget (Cond.code yX7_isBudget cX7_isBudget 1 (some .boolean) :: wsL_law) ({ frames := 0, cells := 0, slots := 0, locals := 0 } : Room) (es_Pre [.int p1] D [(cI, .int), (cZ, .boolean)] (es_wX a cI cZ N) a 35 S sz) (es_Qi D (es_wX a cI cZ N) a 35 r S' sz) 0 0 (es_AA a 35 sz) := by
  refine es_intro (Qc := es_Qi D (es_wX a cI cZ N) a 35 r S') (by decide) (es_okX a cI cZ N) (Nat.le_of_ble_eq_true rfl) ?_
  intro p e s m below meth c C hr hlk hP ls hl
  have hx := C.1
  have hb := C.2.1
  have hown := C.2.2.2.1
  have hts := C.2.2.2.2.1
  have hS : va_S (es_AA a 35 s.heap.size) s.heap s.heap [] := va_S.rf
  replace hl : lv_has ls 1 [(0, .int p1)] := hl
  unfold f_X7_isBudget at h
  refine lv_iload_n hx hb dX7_isBudget_0 rfl (lv_at hl 0 rfl) ?_
  refine lv_iconst (v := 3) hx hb dX7_isBudget_1 (by decide) ?_
  refine lv_icmp_lt (tgt := 15) hx hb dX7_isBudget_2 (by decide) (fun c1 => ?_) (fun c1 => ?_)
  · replace h := es_if_t c1 h
    refine lv_iconst (v := 0) hx hb dX7_isBudget_15 (by decide) ?_
    exact es_zret C hr hlk ⟨rfl, rfl⟩ h hP hS dX7_isBudget_16
  · replace h := es_if_f c1 h
    refine lv_iload_n hx hb dX7_isBudget_5 rfl (lv_at hl 0 rfl) ?_
    refine lv_bipush (v := 16) hx hb dX7_isBudget_6 (by decide) ?_
    refine lv_icmp_gt (tgt := 15) hx hb dX7_isBudget_8 (by decide) (fun c2 => ?_) (fun c2 => ?_)
    · replace h := es_if_t c2 h
      refine lv_iconst (v := 0) hx hb dX7_isBudget_15 (by decide) ?_
      exact es_zret C hr hlk ⟨rfl, rfl⟩ h hP hS dX7_isBudget_16
    · replace h := es_if_f c2 h
      refine lv_iconst (v := 1) hx hb dX7_isBudget_11 (by decide) ?_
      refine lv_goto (tgt := 16) hx hb dX7_isBudget_12 (by decide) ?_
      exact es_zret C hr hlk ⟨rfl, rfl⟩ h hP hS dX7_isBudget_16

set_option maxHeartbeats 4000000 in
set_option maxRecDepth 100000 in
theorem c_X7_settle (l : Launch) (D : va_G) (cI cZ : ClassId) (a : Nat → Nat) (N : Nat → Nat) (sz fu : Nat) (S S' : es_St) (p1 : Int32) (p2 : Int32) (p3 : Int32) (r : Int32) (h : f_X7_settle N fu S p1 p2 p3 = some (r, S')) : Met l yX7_settle (Cond.code yX7_settle cX7_settle 4 (some .int) :: wsL_law) ({ frames := 3, cells := 0, slots := 0, locals := 65 } : Room) (es_Pre [.ref (a 0), .int p1, .int p2, .int p3] D [(cI, .int), (cZ, .boolean)] (es_wX a cI cZ N) a 35 S sz) (es_Qi D (es_wX a cI cZ N) a 35 r S' sz) 0 0 (es_AA a 35 sz) := by
  refine es_intro (Qc := es_Qi D (es_wX a cI cZ N) a 35 r S') (by decide) (es_okX a cI cZ N) (Nat.le_of_ble_eq_true rfl) ?_
  intro p e s m below meth c C hr hlk hP ls hl
  have hx := C.1
  have hb := C.2.1
  have hown := C.2.2.2.1
  have hts := C.2.2.2.2.1
  have hS : va_S (es_AA a 35 s.heap.size) s.heap s.heap [] := va_S.rf
  replace hl : lv_has ls 4 [(0, .ref (a 0)), (1, .int p1), (2, .int p2), (3, .int p3)] := hl
  unfold f_X7_settle at h
  refine lv_aload_n hx hb dX7_settle_0 rfl (lv_at hl 0 rfl) ?_
  refine es_get C hP (es_wX_0 a cI cZ N S) rfl inlX7 (j := 0) (by decide) es_u2_10 rfl dX7_settle_1 ?_
  refine lv_iload_n hx hb dX7_settle_4 rfl (lv_at hl 1 rfl) ?_
  replace h := es_bd_e h
  obtain ⟨r1, S2, g3, h⟩ := h
  refine es_callVi C (c_X0_releaseAll l D cI cZ a N _ fu S S2 p1 r1 g3) es_u10_0 es_mX0_releaseAll ⟨rfl, rfl, by decide, by decide⟩ ⟨Nat.zero_le _, Nat.zero_le _⟩ hP hS (es_wX_1 a cI cZ N S) rfl rfl hl.1 rfl (Nat.le_of_ble_eq_true rfl) dX7_settle_5 (fun H locs _ _ hP hS => ?_)
  refine lv_pop hx hb dX7_settle_8 rfl ?_
  refine lv_aload_n hx hb dX7_settle_9 rfl (lv_at hl 0 rfl) ?_
  refine es_get C hP (es_wX_0 a cI cZ N S2) rfl inlX7 (j := 0) (by decide) es_u2_10 rfl dX7_settle_10 ?_
  refine lv_bipush (v := 6) hx hb dX7_settle_13 (by decide) ?_
  refine lv_iload_n hx hb dX7_settle_15 rfl (lv_at hl 1 rfl) ?_
  replace h := es_bd_e h
  obtain ⟨r4, S5, g6, h⟩ := h
  refine es_callVv C (c_X0_handOver l D cI cZ a N _ fu S2 S5 6 p1 r4 g6) es_u20_3 es_mX0_handOver ⟨rfl, rfl, by decide, by decide⟩ ⟨Nat.zero_le _, Nat.zero_le _⟩ hP hS (es_wX_1 a cI cZ N S2) rfl rfl hl.1 rfl (Nat.le_of_ble_eq_true rfl) dX7_settle_16 (fun H locs _ _ hP hS => ?_)
  refine lv_aload_n hx hb dX7_settle_19 rfl (lv_at hl 0 rfl) ?_
  refine es_get C hP (es_wX_0 a cI cZ N S5) rfl inlX7 (j := 6) (by decide) es_u1_17 rfl dX7_settle_20 ?_
  refine lv_iload_n hx hb dX7_settle_23 rfl (lv_at hl 1 rfl) ?_
  refine lv_iload_n hx hb dX7_settle_24 rfl (lv_at hl 2 rfl) ?_
  replace h := es_ck_e h
  obtain ⟨b7, h⟩ := h
  refine es_ast C hP hS (es_wX_9 a cI cZ N S5) (es_rX_9 a cI cZ N S5) (t0 := 0) rfl b7 dX7_settle_25 (fun S8 eS8 H locs hP hS => ?_)
  replace h := es_lt_e eS8 h
  refine lv_aload_n hx hb dX7_settle_26 rfl (lv_at hl 0 rfl) ?_
  refine es_get C hP (es_wX_0 a cI cZ N S8) rfl inlX7 (j := 7) (by decide) es_u1_18 rfl dX7_settle_27 ?_
  refine lv_iload_n hx hb dX7_settle_30 rfl (lv_at hl 1 rfl) ?_
  refine lv_iload_n hx hb dX7_settle_31 rfl (lv_at hl 3 rfl) ?_
  replace h := es_ck_e h
  obtain ⟨b9, h⟩ := h
  refine es_ast C hP hS (es_wX_10 a cI cZ N S8) (es_rX_10 a cI cZ N S8) (t0 := 0) rfl b9 dX7_settle_32 (fun S10 eS10 H locs hP hS => ?_)
  replace h := es_lt_e eS10 h
  refine lv_aload_n hx hb dX7_settle_33 rfl (lv_at hl 0 rfl) ?_
  refine es_get C hP (es_wX_0 a cI cZ N S10) rfl inlX7 (j := 5) (by decide) es_u2_6 rfl dX7_settle_34 ?_
  refine lv_aload_n hx hb dX7_settle_37 rfl (lv_at hl 0 rfl) ?_
  refine es_get C hP (es_wX_0 a cI cZ N S10) rfl inlX7 (j := 4) (by decide) es_u2_5 rfl dX7_settle_38 ?_
  replace h := es_bd_e h
  obtain ⟨r11, S12, g13, h⟩ := h
  refine es_callVv C (c_X6_copyFrom l D cI cZ a N _ fu S10 S12 r11 g13) es_u20_7 es_mX6_copyFrom ⟨rfl, rfl, by decide, by decide⟩ ⟨Nat.zero_le _, Nat.zero_le _⟩ hP hS (es_wX_6 a cI cZ N S10) rfl rfl hl.1 rfl (Nat.le_of_ble_eq_true rfl) dX7_settle_41 (fun H locs _ _ hP hS => ?_)
  refine lv_iload_n hx hb dX7_settle_44 rfl (lv_at hl 3 rfl) ?_
  exact es_iret C hr hlk h hP hS dX7_settle_45

set_option maxHeartbeats 4000000 in
set_option maxRecDepth 100000 in
theorem c_X7_giveUp (l : Launch) (D : va_G) (cI cZ : ClassId) (a : Nat → Nat) (N : Nat → Nat) (sz fu : Nat) (S S' : es_St) (p1 : Int32) (r : Int32) (h : f_X7_giveUp N fu S p1 = some (r, S')) : Met l yX7_giveUp (Cond.code yX7_giveUp cX7_giveUp 2 (some .int) :: wsL_law) ({ frames := 3, cells := 0, slots := 0, locals := 65 } : Room) (es_Pre [.ref (a 0), .int p1] D [(cI, .int), (cZ, .boolean)] (es_wX a cI cZ N) a 35 S sz) (es_Qi D (es_wX a cI cZ N) a 35 r S' sz) 0 0 (es_AA a 35 sz) := by
  refine es_intro (Qc := es_Qi D (es_wX a cI cZ N) a 35 r S') (by decide) (es_okX a cI cZ N) (Nat.le_of_ble_eq_true rfl) ?_
  intro p e s m below meth c C hr hlk hP ls hl
  have hx := C.1
  have hb := C.2.1
  have hown := C.2.2.2.1
  have hts := C.2.2.2.2.1
  have hS : va_S (es_AA a 35 s.heap.size) s.heap s.heap [] := va_S.rf
  replace hl : lv_has ls 2 [(0, .ref (a 0)), (1, .int p1)] := hl
  unfold f_X7_giveUp at h
  refine lv_aload_n hx hb dX7_giveUp_0 rfl (lv_at hl 0 rfl) ?_
  refine es_get C hP (es_wX_0 a cI cZ N S) rfl inlX7 (j := 0) (by decide) es_u2_10 rfl dX7_giveUp_1 ?_
  refine lv_bipush (v := 6) hx hb dX7_giveUp_4 (by decide) ?_
  replace h := es_bd_e h
  obtain ⟨r1, S2, g3, h⟩ := h
  refine es_callVi C (c_X0_releaseAll l D cI cZ a N _ fu S S2 6 r1 g3) es_u10_0 es_mX0_releaseAll ⟨rfl, rfl, by decide, by decide⟩ ⟨Nat.zero_le _, Nat.zero_le _⟩ hP hS (es_wX_1 a cI cZ N S) rfl rfl hl.1 rfl (Nat.le_of_ble_eq_true rfl) dX7_giveUp_6 (fun H locs _ _ hP hS => ?_)
  refine lv_pop hx hb dX7_giveUp_9 rfl ?_
  refine lv_iload_n hx hb dX7_giveUp_10 rfl (lv_at hl 1 rfl) ?_
  exact es_iret C hr hlk h hP hS dX7_giveUp_11

set_option maxHeartbeats 4000000 in
set_option maxRecDepth 100000 in
theorem c_X7_settleSorted (l : Launch) (D : va_G) (cI cZ : ClassId) (a : Nat → Nat) (N : Nat → Nat) (sz fu : Nat) (S S' : es_St) (p1 : Int32) (p2 : Int32) (r : Int32) (h : f_X7_settleSorted N fu S p1 p2 = some (r, S')) : Met l yX7_settleSorted (Cond.code yX7_settleSorted cX7_settleSorted 3 (some .int) :: wsL_law) ({ frames := 4, cells := 0, slots := 0, locals := 88 } : Room) (es_Pre [.ref (a 0), .int p1, .int p2] D [(cI, .int), (cZ, .boolean)] (es_wX a cI cZ N) a 35 S sz) (es_Qi D (es_wX a cI cZ N) a 35 r S' sz) 0 0 (es_AA a 35 sz) := by
  refine es_intro (Qc := es_Qi D (es_wX a cI cZ N) a 35 r S') (by decide) (es_okX a cI cZ N) (Nat.le_of_ble_eq_true rfl) ?_
  intro p e s m below meth c C hr hlk hP ls hl
  have hx := C.1
  have hb := C.2.1
  have hown := C.2.2.2.1
  have hts := C.2.2.2.2.1
  have hS : va_S (es_AA a 35 s.heap.size) s.heap s.heap [] := va_S.rf
  replace hl : lv_has ls 3 [(0, .ref (a 0)), (1, .int p1), (2, .int p2)] := hl
  unfold f_X7_settleSorted at h
  refine lv_iload_n hx hb dX7_settleSorted_0 rfl (lv_at hl 2 rfl) ?_
  refine lv_if_eq (tgt := 26) hx hb dX7_settleSorted_1 (by decide) (fun c1 => ?_) (fun c1 => ?_)
  · replace h := es_if_t c1 h
    refine lv_aload_n hx hb dX7_settleSorted_26 rfl (lv_at hl 0 rfl) ?_
    refine lv_bipush (v := (-2)) hx hb dX7_settleSorted_27 (by decide) ?_
    replace h := es_bd_e h
    obtain ⟨r2, S3, g4, h⟩ := h
    refine es_callVi C (c_X7_giveUp l D cI cZ a N _ fu S S3 (-2) r2 g4) es_u20_11 es_mX7_giveUp ⟨rfl, rfl, by decide, by decide⟩ ⟨Nat.zero_le _, Nat.zero_le _⟩ hP hS (es_wX_0 a cI cZ N S) rfl rfl hl.1 rfl (Nat.le_of_ble_eq_true rfl) dX7_settleSorted_29 (fun H locs _ _ hP hS => ?_)
    exact es_iret C hr hlk h hP hS dX7_settleSorted_32
  · replace h := es_if_f c1 h
    refine lv_aload_n hx hb dX7_settleSorted_4 rfl (lv_at hl 0 rfl) ?_
    refine lv_iload_n hx hb dX7_settleSorted_5 rfl (lv_at hl 1 rfl) ?_
    refine lv_aload_n hx hb dX7_settleSorted_6 rfl (lv_at hl 0 rfl) ?_
    refine es_get C hP (es_wX_0 a cI cZ N S) rfl inlX7 (j := 2) (by decide) es_u2_18 rfl dX7_settleSorted_7 ?_
    refine es_get C hP (es_wX_3 a cI cZ N S) rfl inlX5 (j := 0) (by decide) es_u19_21 rfl dX7_settleSorted_10 ?_
    refine lv_aload_n hx hb dX7_settleSorted_13 rfl (lv_at hl 0 rfl) ?_
    refine es_get C hP (es_wX_0 a cI cZ N S) rfl inlX7 (j := 2) (by decide) es_u2_18 rfl dX7_settleSorted_14 ?_
    refine es_get C hP (es_wX_3 a cI cZ N S) rfl inlX5 (j := 1) (by decide) es_u19_22 rfl dX7_settleSorted_17 ?_
    replace h := es_bd_e h
    obtain ⟨r5, S6, g7, h⟩ := h
    refine es_callVi C (c_X7_settle l D cI cZ a N _ fu S S6 p1 (S.1 10) (S.1 11) r5 g7) es_u19_23 es_mX7_settle ⟨rfl, rfl, by decide, by decide⟩ ⟨Nat.zero_le _, Nat.zero_le _⟩ hP hS (es_wX_0 a cI cZ N S) rfl rfl hl.1 rfl (Nat.le_of_ble_eq_true rfl) dX7_settleSorted_20 (fun H locs _ _ hP hS => ?_)
    refine lv_goto (tgt := 32) hx hb dX7_settleSorted_23 (by decide) ?_
    exact es_iret C hr hlk h hP hS dX7_settleSorted_32
