set_option maxHeartbeats 4000000 in
set_option maxRecDepth 100000 in
theorem c_X8_puts (l : Launch) (D : va_G) (cI cZ : ClassId) (a : Nat → Nat) (N : Nat → Nat) (sz fu : Nat) (S S' : es_St) (p1 : Int32) (p2 : Int32) (p3 : Int32) (p4 : Int32) (r : Int32) (h : f_X8_puts N fu S p1 p2 p3 p4 = some (r, S')) : Met l yX8_puts (Cond.code yX8_puts cX8_puts 5 (some .int) :: wsL_law) ({ frames := 1, cells := 0, slots := 0, locals := 20 } : Room) (es_Pre [.ref (a 0), .int p1, .int p2, .int p3, .int p4] D [(cI, .int), (cZ, .boolean)] (es_wM a cI cZ N) a 21 S sz) (es_Qi D (es_wM a cI cZ N) a 21 r S' sz) 0 0 (es_AA a 21 sz) := by
  refine es_intro (Qc := es_Qi D (es_wM a cI cZ N) a 21 r S') (by decide) (es_okM a cI cZ N) (Nat.le_of_ble_eq_true rfl) ?_
  intro p e s m below meth c C hr hlk hP ls hl
  have hx := C.1
  have hb := C.2.1
  have hown := C.2.2.2.1
  have hts := C.2.2.2.2.1
  have hS : va_S (es_AA a 21 s.heap.size) s.heap s.heap [] := va_S.rf
  replace hl : lv_has ls 5 [(0, .ref (a 0)), (1, .int p1), (2, .int p2), (3, .int p3), (4, .int p4)] := hl
  have J39 : (∀ (x1 : Int32) (x2 : Int32) (x3 : Int32) (x4 : Int32) (S : es_St) (H : Heap) (locs : List Loc) (ls : Array Slot), f_X8_puts_39 N fu x1 x2 x3 x4 S = some (r, S') → va_P D vwCl ((es_wM a cI cZ N) S) H → va_S (es_AA a 21 s.heap.size) s.heap H locs → lv_has ls 5 [(0, .ref (a 0)), (1, .int x1), (2, .int x2), (3, .int x3), (4, .int x4)] → W p l e ({ frames := 1, cells := 0, slots := 0, locals := 20 } : Room) s m ([.ref (a 0), .int p1, .int p2, .int p3, .int p4] : List Value).toArray below meth c H locs 0 0 (MQ below (es_Qi D (es_wM a cI cZ N) a 21 r S' s.heap.size) ([.ref (a 0), .int p1, .int p2, .int p3, .int p4] : List Value).toArray s 0 0 (es_AA a 21 s.heap.size)) (F0 m 39 ls [])) := by
    intro x1 x2 x3 x4 S H locs ls h hP hS hl
    unfold f_X8_puts_39 at h
    refine lv_aload_n hx hb dX8_puts_39 rfl (lv_at hl 0 rfl) ?_
    refine es_get C hP (es_wM_0 a cI cZ N S) rfl inlX8 (j := 12) (by decide) es_u6_14 rfl dX8_puts_40 ?_
    refine lv_iload_n hx hb dX8_puts_43 rfl (lv_at hl 1 rfl) ?_
    refine lv_iload_n hx hb dX8_puts_44 rfl (lv_at hl 3 rfl) ?_
    replace h := es_ck_e h
    obtain ⟨b2, h⟩ := h
    refine es_ast C hP hS (es_wM_4 a cI cZ N S) (es_rM_4 a cI cZ N S) (t0 := 0) rfl b2 dX8_puts_45 (fun S3 eS3 H locs hP hS => ?_)
    replace h := es_lt_e eS3 h
    refine lv_aload_n hx hb dX8_puts_46 rfl (lv_at hl 0 rfl) ?_
    refine es_get C hP (es_wM_0 a cI cZ N S3) rfl inlX8 (j := 13) (by decide) es_u6_15 rfl dX8_puts_47 ?_
    refine lv_iload_n hx hb dX8_puts_50 rfl (lv_at hl 1 rfl) ?_
    refine lv_iload hx hb dX8_puts_51 (lv_at hl 4 rfl) ?_
    replace h := es_ck_e h
    obtain ⟨b4, h⟩ := h
    refine es_ast C hP hS (es_wM_5 a cI cZ N S3) (es_rM_5 a cI cZ N S3) (t0 := 0) rfl b4 dX8_puts_53 (fun S5 eS5 H locs hP hS => ?_)
    replace h := es_lt_e eS5 h
    refine lv_iload_n hx hb dX8_puts_54 rfl (lv_at hl 1 rfl) ?_
    refine lv_iconst (v := 1) hx hb dX8_puts_55 (by decide) ?_
    refine lv_iadd hx hb dX8_puts_56 ?_
    refine lv_iload_n hx hb dX8_puts_57 rfl (lv_at hl 2 rfl) ?_
    refine lv_isub hx hb dX8_puts_58 ?_
    refine lv_aload_n hx hb dX8_puts_59 rfl (lv_at hl 0 rfl) ?_
    refine es_get C hP (es_wM_0 a cI cZ N S5) rfl inlX8 (j := 1) (by decide) es_u7_9 rfl dX8_puts_60 ?_
    replace h := es_ck_e h
    obtain ⟨b6, h⟩ := h
    refine lv_irem hx hb dX8_puts_63 b6 ?_
    refine lv_if_ne (tgt := 71) hx hb dX8_puts_64 (by decide) (fun c7 => ?_) (fun c7 => ?_)
    · replace h := es_if_t c7 h
      refine lv_iload_n hx hb dX8_puts_71 rfl (lv_at hl 1 rfl) ?_
      refine lv_iconst (v := 1) hx hb dX8_puts_72 (by decide) ?_
      refine lv_iadd hx hb dX8_puts_73 ?_
      exact es_iret C hr hlk h hP hS dX8_puts_74
    · replace h := es_if_f (fun q => q c7) h
      refine lv_aload_n hx hb dX8_puts_67 rfl (lv_at hl 0 rfl) ?_
      replace h := es_bd_e h
      obtain ⟨r8, S9, g10, h⟩ := h
      refine es_callVv C (c_X8_writes l D cI cZ a N _ fu S5 S9 r8 g10) es_u22_16 es_mX8_writes ⟨rfl, rfl, by decide, by decide⟩ ⟨Nat.zero_le _, Nat.zero_le _⟩ hP hS (es_wM_0 a cI cZ N S5) rfl rfl hl.1 rfl (Nat.le_of_ble_eq_true rfl) dX8_puts_68 (fun H locs _ _ hP hS => ?_)
      refine lv_iload_n hx hb dX8_puts_71 rfl (lv_at hl 1 rfl) ?_
      refine lv_iconst (v := 1) hx hb dX8_puts_72 (by decide) ?_
      refine lv_iadd hx hb dX8_puts_73 ?_
      exact es_iret C hr hlk h hP hS dX8_puts_74
  unfold f_X8_puts at h
  refine lv_aload_n hx hb dX8_puts_0 rfl (lv_at hl 0 rfl) ?_
  refine es_get C hP (es_wM_0 a cI cZ N S) rfl inlX8 (j := 25) (by decide) es_u21_16 rfl dX8_puts_1 ?_
  refine lv_if_eq (tgt := 39) hx hb dX8_puts_4 (by decide) (fun c1 => ?_) (fun c1 => ?_)
  · replace h := es_if_t c1 h
    exact J39  p1 p2 p3 p4 S _ _ _ h hP hS (lv_sub hl [0, 1, 2, 3, 4] rfl)
  · replace h := es_if_f c1 h
    refine lv_iload_n hx hb dX8_puts_7 rfl (lv_at hl 1 rfl) ?_
    refine lv_iload_n hx hb dX8_puts_8 rfl (lv_at hl 2 rfl) ?_
    refine lv_icmp_le (tgt := 39) hx hb dX8_puts_9 (by decide) (fun c11 => ?_) (fun c11 => ?_)
    · replace h := es_if_t c11 h
      exact J39  p1 p2 p3 p4 S _ _ _ h hP hS (lv_sub hl [0, 1, 2, 3, 4] rfl)
    · replace h := es_if_f c11 h
      refine lv_aload_n hx hb dX8_puts_12 rfl (lv_at hl 0 rfl) ?_
      refine es_get C hP (es_wM_0 a cI cZ N S) rfl inlX8 (j := 12) (by decide) es_u6_14 rfl dX8_puts_13 ?_
      refine lv_iload_n hx hb dX8_puts_16 rfl (lv_at hl 1 rfl) ?_
      refine lv_iconst (v := 1) hx hb dX8_puts_17 (by decide) ?_
      refine lv_isub hx hb dX8_puts_18 ?_
      replace h := es_ck_e h
      obtain ⟨b12, h⟩ := h
      refine es_ald C hP (es_wM_4 a cI cZ N S) (t0 := 0) rfl b12 dX8_puts_19 ?_
      refine lv_topi (fun v13 ev13 => ?_)
      replace h := es_lt_e ev13 h
      refine lv_iload_n hx hb dX8_puts_20 rfl (lv_at hl 3 rfl) ?_
      refine lv_icmp_ne (tgt := 39) hx hb dX8_puts_21 (by decide) (fun c14 => ?_) (fun c14 => ?_)
      · replace h := es_if_t c14 h
        exact J39  p1 p2 p3 p4 S _ _ _ h hP hS (lv_sub hl [0, 1, 2, 3, 4] rfl)
      · replace h := es_if_f (fun q => q c14) h
        refine lv_aload_n hx hb dX8_puts_24 rfl (lv_at hl 0 rfl) ?_
        refine es_get C hP (es_wM_0 a cI cZ N S) rfl inlX8 (j := 13) (by decide) es_u6_15 rfl dX8_puts_25 ?_
        refine lv_iload_n hx hb dX8_puts_28 rfl (lv_at hl 1 rfl) ?_
        refine lv_iconst (v := 1) hx hb dX8_puts_29 (by decide) ?_
        refine lv_isub hx hb dX8_puts_30 ?_
        replace h := es_ck_e h
        obtain ⟨b15, h⟩ := h
        refine es_ald C hP (es_wM_5 a cI cZ N S) (t0 := 0) rfl b15 dX8_puts_31 ?_
        refine lv_topi (fun v16 ev16 => ?_)
        replace h := es_lt_e ev16 h
        refine lv_iload hx hb dX8_puts_32 (lv_at hl 4 rfl) ?_
        refine lv_icmp_ne (tgt := 39) hx hb dX8_puts_34 (by decide) (fun c17 => ?_) (fun c17 => ?_)
        · replace h := es_if_t c17 h
          exact J39  p1 p2 p3 p4 S _ _ _ h hP hS (lv_sub hl [0, 1, 2, 3, 4] rfl)
        · replace h := es_if_f (fun q => q c17) h
          refine lv_iload_n hx hb dX8_puts_37 rfl (lv_at hl 1 rfl) ?_
          exact es_iret C hr hlk h hP hS dX8_puts_38

set_option maxHeartbeats 4000000 in
set_option maxRecDepth 100000 in
theorem c_X8_makeRuns (l : Launch) (D : va_G) (cI cZ : ClassId) (a : Nat → Nat) (N : Nat → Nat) (sz fu : Nat) (S S' : es_St) (p1 : Int32) (p2 : Int32) (r : Int32) (h : f_X8_makeRuns N fu S p1 p2 = some (r, S')) : Met l yX8_makeRuns (Cond.code yX8_makeRuns cX8_makeRuns 7 none :: wsL_law) ({ frames := 2, cells := 0, slots := 0, locals := 46 } : Room) (es_Pre [.ref (a 0), .int p1, .int p2] D [(cI, .int), (cZ, .boolean)] (es_wM a cI cZ N) a 21 S sz) (es_Qv D (es_wM a cI cZ N) a 21 S' sz) 0 0 (es_AA a 21 sz) := by
  refine es_intro (Qc := es_Qv D (es_wM a cI cZ N) a 21 S') (by decide) (es_okM a cI cZ N) (Nat.le_of_ble_eq_true rfl) ?_
  intro p e s m below meth c C hr hlk hP ls hl
  have hx := C.1
  have hb := C.2.1
  have hown := C.2.2.2.1
  have hts := C.2.2.2.2.1
  have hS : va_S (es_AA a 21 s.heap.size) s.heap s.heap [] := va_S.rf
  replace hl : lv_has ls 7 [(0, .ref (a 0)), (1, .int p1), (2, .int p2)] := hl
  have J301 : (∀ (x3 : Int32) (S : es_St) (H : Heap) (locs : List Loc) (ls : Array Slot), f_X8_makeRuns_301 N fu x3 S = some (r, S') → va_P D vwCl ((es_wM a cI cZ N) S) H → va_S (es_AA a 21 s.heap.size) s.heap H locs → lv_has ls 7 [(0, .ref (a 0)), (3, .int x3)] → W p l e ({ frames := 2, cells := 0, slots := 0, locals := 46 } : Room) s m ([.ref (a 0), .int p1, .int p2] : List Value).toArray below meth c H locs 0 0 (MQ below (es_Qv D (es_wM a cI cZ N) a 21 S' s.heap.size) ([.ref (a 0), .int p1, .int p2] : List Value).toArray s 0 0 (es_AA a 21 s.heap.size)) (F0 m 301 ls [])) := by
    intro x3 S H locs ls h hP hS hl
    unfold f_X8_makeRuns_301 at h
    refine lv_iload_n hx hb dX8_makeRuns_301 rfl (lv_at hl 1 rfl) ?_
    refine lv_aload_n hx hb dX8_makeRuns_302 rfl (lv_at hl 0 rfl) ?_
    refine es_get C hP (es_wM_0 a cI cZ N S) rfl inlX8 (j := 16) (by decide) es_u6_16 rfl dX8_makeRuns_303 ?_
    refine lv_aload_n hx hb dX8_makeRuns_306 rfl (lv_at hl 0 rfl) ?_
    refine es_get C hP (es_wM_0 a cI cZ N S) rfl inlX8 (j := 15) (by decide) es_u21_17 rfl dX8_makeRuns_307 ?_
    replace h := es_ck_e h
    obtain ⟨b9, h⟩ := h
    refine es_ald C hP (es_wM_6 a cI cZ N S) (t0 := 0) rfl b9 dX8_makeRuns_310 ?_
    refine lv_topi (fun v10 ev10 => ?_)
    replace h := es_lt_e ev10 h
    refine lv_icmp_le (tgt := 320) hx hb dX8_makeRuns_311 (by decide) (fun c11 => ?_) (fun c11 => ?_)
    · replace h := es_if_t c11 h
      refine lv_aload_n hx hb dX8_makeRuns_320 rfl (lv_at hl 0 rfl) ?_
      refine lv_dup hx hb dX8_makeRuns_321 rfl ?_
      refine es_get C hP (es_wM_0 a cI cZ N S) rfl inlX8 (j := 8) (by decide) es_u21_7 rfl dX8_makeRuns_322 ?_
      refine lv_aload_n hx hb dX8_makeRuns_325 rfl (lv_at hl 0 rfl) ?_
      refine es_get C hP (es_wM_0 a cI cZ N S) rfl inlX8 (j := 15) (by decide) es_u21_17 rfl dX8_makeRuns_326 ?_
      refine lv_iadd hx hb dX8_makeRuns_329 ?_
      refine lv_topi (fun v12 ev12 => ?_)
      replace h := es_lt_e ev12 h
      refine es_put C hP hS (es_wM_0 a cI cZ N S) rfl inlX8 tyX8_ok nmX8 (j := 8) (by decide) es_u21_7 rfl (tyX8_ok 8 (by decide)) rfl rfl (by simp) (es_sM_5 a cI cZ N S v12) dX8_makeRuns_330 (fun S13 eS13 H locs hP hS => ?_)
      replace h := es_lt_e eS13 h
      exact es_vret C hr hlk h hP hS dX8_makeRuns_333
    · replace h := es_if_f c11 h
      refine lv_aload_n hx hb dX8_makeRuns_314 rfl (lv_at hl 0 rfl) ?_
      refine lv_iload_n hx hb dX8_makeRuns_315 rfl (lv_at hl 1 rfl) ?_
      replace h := es_bd_e h
      obtain ⟨r14, S15, g16, h⟩ := h
      refine es_callVi C (c_X8_endsRun l D cI cZ a N _ fu S S15 x3 r14 g16) es_u22_12 es_mX8_endsRun ⟨rfl, rfl, by decide, by decide⟩ ⟨Nat.zero_le _, Nat.zero_le _⟩ hP hS (es_wM_0 a cI cZ N S) rfl rfl hl.1 rfl (Nat.le_of_ble_eq_true rfl) dX8_makeRuns_316 (fun H locs _ _ hP hS => ?_)
      refine lv_istore_n (lv' := [(3, .int r14), (0, .ref (a 0))]) hx hb dX8_makeRuns_319 rfl hl (by decide) rfl (fun ls hl => ?_)
      refine lv_aload_n hx hb dX8_makeRuns_320 rfl (lv_at hl 1 rfl) ?_
      refine lv_dup hx hb dX8_makeRuns_321 rfl ?_
      refine es_get C hP (es_wM_0 a cI cZ N S15) rfl inlX8 (j := 8) (by decide) es_u21_7 rfl dX8_makeRuns_322 ?_
      refine lv_aload_n hx hb dX8_makeRuns_325 rfl (lv_at hl 1 rfl) ?_
      refine es_get C hP (es_wM_0 a cI cZ N S15) rfl inlX8 (j := 15) (by decide) es_u21_17 rfl dX8_makeRuns_326 ?_
      refine lv_iadd hx hb dX8_makeRuns_329 ?_
      refine lv_topi (fun v17 ev17 => ?_)
      replace h := es_lt_e ev17 h
      refine es_put C hP hS (es_wM_0 a cI cZ N S15) rfl inlX8 tyX8_ok nmX8 (j := 8) (by decide) es_u21_7 rfl (tyX8_ok 8 (by decide)) rfl rfl (by simp) (es_sM_5 a cI cZ N S15 v17) dX8_makeRuns_330 (fun S18 eS18 H locs hP hS => ?_)
      replace h := es_lt_e eS18 h
      exact es_vret C hr hlk h hP hS dX8_makeRuns_333
  have J93 : ∀ (k59 : Int32 → Int32 → es_St → Option (Int32 × es_St)) (hk59 : (∀ (x1 : Int32) (x3 : Int32) (S : es_St) (H : Heap) (locs : List Loc) (ls : Array Slot), k59 x1 x3 S = some (r, S') → va_P D vwCl ((es_wM a cI cZ N) S) H → va_S (es_AA a 21 s.heap.size) s.heap H locs → lv_has ls 7 [(0, .ref (a 0)), (1, .int x1), (3, .int x3)] → W p l e ({ frames := 2, cells := 0, slots := 0, locals := 46 } : Room) s m ([.ref (a 0), .int p1, .int p2] : List Value).toArray below meth c H locs 0 0 (MQ below (es_Qv D (es_wM a cI cZ N) a 21 S' s.heap.size) ([.ref (a 0), .int p1, .int p2] : List Value).toArray s 0 0 (es_AA a 21 s.heap.size)) (F0 m 59 ls []))), ∀ n : Nat, (∀ (x1 : Int32) (x3 : Int32) (x5 : Int32) (S : es_St) (H : Heap) (locs : List Loc) (ls : Array Slot), f_X8_makeRuns_93 N fu k59 n x1 x3 x5 S = some (r, S') → va_P D vwCl ((es_wM a cI cZ N) S) H → va_S (es_AA a 21 s.heap.size) s.heap H locs → lv_has ls 7 [(0, .ref (a 0)), (1, .int x1), (3, .int x3), (5, .int x5)] → W p l e ({ frames := 2, cells := 0, slots := 0, locals := 46 } : Room) s m ([.ref (a 0), .int p1, .int p2] : List Value).toArray below meth c H locs 0 0 (MQ below (es_Qv D (es_wM a cI cZ N) a 21 S' s.heap.size) ([.ref (a 0), .int p1, .int p2] : List Value).toArray s 0 0 (es_AA a 21 s.heap.size)) (F0 m 93 ls [])) := by
    intro k59 hk59
    intro n
    induction n with
    | zero => intro x1 x3 x5 S H locs ls h; rw [f_X8_makeRuns_93] at h; cases h
    | succ n ih =>
      intro x1 x3 x5 S H locs ls h hP hS hl
      rw [f_X8_makeRuns_93] at h
      refine lv_iload hx hb dX8_makeRuns_93 (lv_at hl 3 rfl) ?_
      refine lv_aload_n hx hb dX8_makeRuns_95 rfl (lv_at hl 0 rfl) ?_
      refine es_get C hP (es_wM_0 a cI cZ N S) rfl inlX8 (j := 23) (by decide) es_u21_22 rfl dX8_makeRuns_96 ?_
      refine lv_icmp_ge (tgt := 116) hx hb dX8_makeRuns_99 (by decide) (fun c71 => ?_) (fun c71 => ?_)
      · replace h := es_if_t c71 h
        refine lv_goto (tgt := 59) hx hb dX8_makeRuns_116 (by decide) ?_
        exact hk59 x1 x3 S _ _ _ h hP hS (lv_sub hl [0, 1, 2] rfl)
      · replace h := es_if_f c71 h
        refine lv_aload_n hx hb dX8_makeRuns_102 rfl (lv_at hl 0 rfl) ?_
        refine es_get C hP (es_wM_0 a cI cZ N S) rfl inlX8 (j := 22) (by decide) es_u6_22 rfl dX8_makeRuns_103 ?_
        refine lv_iload hx hb dX8_makeRuns_106 (lv_at hl 3 rfl) ?_
        refine lv_iconst (v := 0) hx hb dX8_makeRuns_108 (by decide) ?_
        replace h := es_ck_e h
        obtain ⟨b72, h⟩ := h
        refine es_zast C hP hS (es_wM_11 a cI cZ N S) (es_rM_11 a cI cZ N S) (t0 := 1) rfl b72 dX8_makeRuns_109 (fun S73 eS73 H locs hP hS => ?_)
        replace h := es_lt_e eS73 h
        obtain ⟨y74, ey74⟩ : ∃ y : Int32, y = x5 + 1 := ⟨_, rfl⟩
        refine lv_iinc (v := y74) (lv' := [(5, .int y74), (0, .ref (a 0)), (1, .int x1), (3, .int x3)]) hx hb dX8_makeRuns_110 hl (k := 3) rfl (by rw [ey74]; rfl) (by decide) rfl (fun ls hl => ?_)
        replace h := es_lt_e ey74 h
        refine lv_goto (tgt := 93) hx hb dX8_makeRuns_113 (by decide) ?_
        exact ih x1 x3 y74 S73 _ _ _ h hP hS (lv_sub hl [1, 2, 3, 0] rfl)
  have J59 : ∀ n : Nat, (∀ (x1 : Int32) (x3 : Int32) (S : es_St) (H : Heap) (locs : List Loc) (ls : Array Slot), f_X8_makeRuns_59 N fu n x1 x3 S = some (r, S') → va_P D vwCl ((es_wM a cI cZ N) S) H → va_S (es_AA a 21 s.heap.size) s.heap H locs → lv_has ls 7 [(0, .ref (a 0)), (1, .int x1), (3, .int x3)] → W p l e ({ frames := 2, cells := 0, slots := 0, locals := 46 } : Room) s m ([.ref (a 0), .int p1, .int p2] : List Value).toArray below meth c H locs 0 0 (MQ below (es_Qv D (es_wM a cI cZ N) a 21 S' s.heap.size) ([.ref (a 0), .int p1, .int p2] : List Value).toArray s 0 0 (es_AA a 21 s.heap.size)) (F0 m 59 ls [])) := by
    intro n
    induction n with
    | zero => intro x1 x3 S H locs ls h; rw [f_X8_makeRuns_59] at h; cases h
    | succ n ih =>
      intro x1 x3 S H locs ls h hP hS hl
      rw [f_X8_makeRuns_59] at h
      refine lv_aload_n hx hb dX8_makeRuns_59 rfl (lv_at hl 0 rfl) ?_
      refine es_get C hP (es_wM_0 a cI cZ N S) rfl inlX8 (j := 23) (by decide) es_u21_22 rfl dX8_makeRuns_60 ?_
      refine lv_if_le (tgt := 301) hx hb dX8_makeRuns_63 (by decide) (fun c8 => ?_) (fun c8 => ?_)
      · replace h := es_if_t c8 h
        exact J301  x3 S _ _ _ h hP hS (lv_sub hl [0, 2] rfl)
      · replace h := es_if_f c8 h
        refine lv_aload_n hx hb dX8_makeRuns_66 rfl (lv_at hl 0 rfl) ?_
        refine es_get C hP (es_wM_0 a cI cZ N S) rfl inlX8 (j := 11) (by decide) es_u20_23 rfl dX8_makeRuns_67 ?_
        refine lv_if_ne (tgt := 301) hx hb dX8_makeRuns_70 (by decide) (fun c19 => ?_) (fun c19 => ?_)
        · replace h := es_if_t c19 h
          exact J301  x3 S _ _ _ h hP hS (lv_sub hl [0, 2] rfl)
        · replace h := es_if_f (fun q => q c19) h
          refine lv_aload_n hx hb dX8_makeRuns_73 rfl (lv_at hl 0 rfl) ?_
          replace h := es_bd_e h
          obtain ⟨r20, S21, g22, h⟩ := h
          refine es_callVi C (c_X8_first l D cI cZ a N _ fu S S21 r20 g22) es_u22_4 es_mX8_first ⟨rfl, rfl, by decide, by decide⟩ ⟨Nat.zero_le _, Nat.zero_le _⟩ hP hS (es_wM_0 a cI cZ N S) rfl rfl hl.1 rfl (Nat.le_of_ble_eq_true rfl) dX8_makeRuns_74 (fun H locs _ _ hP hS => ?_)
          refine lv_istore (lv' := [(4, .int r20), (0, .ref (a 0)), (1, .int x1), (3, .int x3)]) hx hb dX8_makeRuns_77 hl (by decide) rfl (fun ls hl => ?_)
          refine lv_iload hx hb dX8_makeRuns_79 (lv_at hl 0 rfl) ?_
          refine lv_if_ge (tgt := 119) hx hb dX8_makeRuns_81 (by decide) (fun c23 => ?_) (fun c23 => ?_)
          · replace h := es_if_t c23 h
            refine lv_aload_n hx hb dX8_makeRuns_119 rfl (lv_at hl 1 rfl) ?_
            refine es_get C hP (es_wM_0 a cI cZ N S21) rfl inlX8 (j := 19) (by decide) es_u6_18 rfl dX8_makeRuns_120 ?_
            refine lv_iload hx hb dX8_makeRuns_123 (lv_at hl 0 rfl) ?_
            replace h := es_ck_e h
            obtain ⟨b24, h⟩ := h
            refine es_ald C hP (es_wM_8 a cI cZ N S21) (t0 := 0) rfl b24 dX8_makeRuns_125 ?_
            refine lv_topi (fun v25 ev25 => ?_)
            replace h := es_lt_e ev25 h
            refine lv_istore (lv' := [(5, .int v25), (4, .int r20), (0, .ref (a 0)), (1, .int x1), (3, .int x3)]) hx hb dX8_makeRuns_126 hl (by decide) rfl (fun ls hl => ?_)
            refine lv_aload_n hx hb dX8_makeRuns_128 rfl (lv_at hl 2 rfl) ?_
            refine es_get C hP (es_wM_0 a cI cZ N S21) rfl inlX8 (j := 20) (by decide) es_u6_19 rfl dX8_makeRuns_129 ?_
            refine lv_iload hx hb dX8_makeRuns_132 (lv_at hl 1 rfl) ?_
            replace h := es_ck_e h
            obtain ⟨b26, h⟩ := h
            refine es_ald C hP (es_wM_9 a cI cZ N S21) (t0 := 0) rfl b26 dX8_makeRuns_134 ?_
            refine lv_topi (fun v27 ev27 => ?_)
            replace h := es_lt_e ev27 h
            refine lv_istore (lv' := [(6, .int v27), (5, .int v25), (4, .int r20), (0, .ref (a 0)), (1, .int x1), (3, .int x3)]) hx hb dX8_makeRuns_135 hl (by decide) rfl (fun ls hl => ?_)
            refine lv_aload_n hx hb dX8_makeRuns_137 rfl (lv_at hl 3 rfl) ?_
            refine lv_dup hx hb dX8_makeRuns_138 rfl ?_
            refine es_get C hP (es_wM_0 a cI cZ N S21) rfl inlX8 (j := 23) (by decide) es_u21_22 rfl dX8_makeRuns_139 ?_
            refine lv_iconst (v := 1) hx hb dX8_makeRuns_142 (by decide) ?_
            refine lv_isub hx hb dX8_makeRuns_143 ?_
            refine lv_topi (fun v28 ev28 => ?_)
            replace h := es_lt_e ev28 h
            refine es_put C hP hS (es_wM_0 a cI cZ N S21) rfl inlX8 tyX8_ok nmX8 (j := 23) (by decide) es_u21_22 rfl (tyX8_ok 23 (by decide)) rfl rfl (by simp) (es_sM_12 a cI cZ N S21 v28) dX8_makeRuns_144 (fun S29 eS29 H locs hP hS => ?_)
            replace h := es_lt_e eS29 h
            refine lv_aload_n hx hb dX8_makeRuns_147 rfl (lv_at hl 3 rfl) ?_
            refine es_get C hP (es_wM_0 a cI cZ N S29) rfl inlX8 (j := 19) (by decide) es_u6_18 rfl dX8_makeRuns_148 ?_
            refine lv_iload hx hb dX8_makeRuns_151 (lv_at hl 2 rfl) ?_
            refine lv_aload_n hx hb dX8_makeRuns_153 rfl (lv_at hl 3 rfl) ?_
            refine es_get C hP (es_wM_0 a cI cZ N S29) rfl inlX8 (j := 19) (by decide) es_u6_18 rfl dX8_makeRuns_154 ?_
            refine lv_aload_n hx hb dX8_makeRuns_157 rfl (lv_at hl 3 rfl) ?_
            refine es_get C hP (es_wM_0 a cI cZ N S29) rfl inlX8 (j := 23) (by decide) es_u21_22 rfl dX8_makeRuns_158 ?_
            replace h := es_ck_e h
            obtain ⟨b30, h⟩ := h
            refine es_ald C hP (es_wM_8 a cI cZ N S29) (t0 := 0) rfl b30 dX8_makeRuns_161 ?_
            refine lv_topi (fun v31 ev31 => ?_)
            replace h := es_lt_e ev31 h
            replace h := es_ck_e h
            obtain ⟨b32, h⟩ := h
            refine es_ast C hP hS (es_wM_8 a cI cZ N S29) (es_rM_8 a cI cZ N S29) (t0 := 0) rfl b32 dX8_makeRuns_162 (fun S33 eS33 H locs hP hS => ?_)
            replace h := es_lt_e eS33 h
            refine lv_aload_n hx hb dX8_makeRuns_163 rfl (lv_at hl 3 rfl) ?_
            refine es_get C hP (es_wM_0 a cI cZ N S33) rfl inlX8 (j := 20) (by decide) es_u6_19 rfl dX8_makeRuns_164 ?_
            refine lv_iload hx hb dX8_makeRuns_167 (lv_at hl 2 rfl) ?_
            refine lv_aload_n hx hb dX8_makeRuns_169 rfl (lv_at hl 3 rfl) ?_
            refine es_get C hP (es_wM_0 a cI cZ N S33) rfl inlX8 (j := 20) (by decide) es_u6_19 rfl dX8_makeRuns_170 ?_
            refine lv_aload_n hx hb dX8_makeRuns_173 rfl (lv_at hl 3 rfl) ?_
            refine es_get C hP (es_wM_0 a cI cZ N S33) rfl inlX8 (j := 23) (by decide) es_u21_22 rfl dX8_makeRuns_174 ?_
            replace h := es_ck_e h
            obtain ⟨b34, h⟩ := h
            refine es_ald C hP (es_wM_9 a cI cZ N S33) (t0 := 0) rfl b34 dX8_makeRuns_177 ?_
            refine lv_topi (fun v35 ev35 => ?_)
            replace h := es_lt_e ev35 h
            replace h := es_ck_e h
            obtain ⟨b36, h⟩ := h
            refine es_ast C hP hS (es_wM_9 a cI cZ N S33) (es_rM_9 a cI cZ N S33) (t0 := 0) rfl b36 dX8_makeRuns_178 (fun S37 eS37 H locs hP hS => ?_)
            replace h := es_lt_e eS37 h
            refine lv_aload_n hx hb dX8_makeRuns_179 rfl (lv_at hl 3 rfl) ?_
            refine es_get C hP (es_wM_0 a cI cZ N S37) rfl inlX8 (j := 21) (by decide) es_u6_20 rfl dX8_makeRuns_180 ?_
            refine lv_iload hx hb dX8_makeRuns_183 (lv_at hl 2 rfl) ?_
            refine lv_aload_n hx hb dX8_makeRuns_185 rfl (lv_at hl 3 rfl) ?_
            refine es_get C hP (es_wM_0 a cI cZ N S37) rfl inlX8 (j := 21) (by decide) es_u6_20 rfl dX8_makeRuns_186 ?_
            refine lv_aload_n hx hb dX8_makeRuns_189 rfl (lv_at hl 3 rfl) ?_
            refine es_get C hP (es_wM_0 a cI cZ N S37) rfl inlX8 (j := 23) (by decide) es_u21_22 rfl dX8_makeRuns_190 ?_
            replace h := es_ck_e h
            obtain ⟨b38, h⟩ := h
            refine es_ald C hP (es_wM_10 a cI cZ N S37) (t0 := 0) rfl b38 dX8_makeRuns_193 ?_
            refine lv_topi (fun v39 ev39 => ?_)
            replace h := es_lt_e ev39 h
            replace h := es_ck_e h
            obtain ⟨b40, h⟩ := h
            refine es_ast C hP hS (es_wM_10 a cI cZ N S37) (es_rM_10 a cI cZ N S37) (t0 := 0) rfl b40 dX8_makeRuns_194 (fun S41 eS41 H locs hP hS => ?_)
            replace h := es_lt_e eS41 h
            refine lv_aload_n hx hb dX8_makeRuns_195 rfl (lv_at hl 3 rfl) ?_
            refine es_get C hP (es_wM_0 a cI cZ N S41) rfl inlX8 (j := 22) (by decide) es_u6_22 rfl dX8_makeRuns_196 ?_
            refine lv_iload hx hb dX8_makeRuns_199 (lv_at hl 2 rfl) ?_
            refine lv_aload_n hx hb dX8_makeRuns_201 rfl (lv_at hl 3 rfl) ?_
            refine es_get C hP (es_wM_0 a cI cZ N S41) rfl inlX8 (j := 22) (by decide) es_u6_22 rfl dX8_makeRuns_202 ?_
            refine lv_aload_n hx hb dX8_makeRuns_205 rfl (lv_at hl 3 rfl) ?_
            refine es_get C hP (es_wM_0 a cI cZ N S41) rfl inlX8 (j := 23) (by decide) es_u21_22 rfl dX8_makeRuns_206 ?_
            replace h := es_ck_e h
            obtain ⟨b42, h⟩ := h
            refine es_zald C hP (es_wM_11 a cI cZ N S41) (t0 := 1) rfl b42 dX8_makeRuns_209 ?_
            refine lv_topi (fun v43 ev43 => ?_)
            replace h := es_lt_e ev43 h
            replace h := es_ck_e h
            obtain ⟨b44, h⟩ := h
            refine es_zast C hP hS (es_wM_11 a cI cZ N S41) (es_rM_11 a cI cZ N S41) (t0 := 1) rfl b44 dX8_makeRuns_210 (fun S45 eS45 H locs hP hS => ?_)
            replace h := es_lt_e eS45 h
            refine lv_aload_n hx hb dX8_makeRuns_211 rfl (lv_at hl 3 rfl) ?_
            refine lv_iload_n hx hb dX8_makeRuns_212 rfl (lv_at hl 5 rfl) ?_
            refine lv_aload_n hx hb dX8_makeRuns_213 rfl (lv_at hl 3 rfl) ?_
            refine es_get C hP (es_wM_0 a cI cZ N S45) rfl inlX8 (j := 16) (by decide) es_u6_16 rfl dX8_makeRuns_214 ?_
            refine lv_aload_n hx hb dX8_makeRuns_217 rfl (lv_at hl 3 rfl) ?_
            refine es_get C hP (es_wM_0 a cI cZ N S45) rfl inlX8 (j := 15) (by decide) es_u21_17 rfl dX8_makeRuns_218 ?_
            replace h := es_ck_e h
            obtain ⟨b46, h⟩ := h
            refine es_ald C hP (es_wM_6 a cI cZ N S45) (t0 := 0) rfl b46 dX8_makeRuns_221 ?_
            refine lv_topi (fun v47 ev47 => ?_)
            replace h := es_lt_e ev47 h
            refine lv_iload hx hb dX8_makeRuns_222 (lv_at hl 1 rfl) ?_
            refine lv_iload hx hb dX8_makeRuns_224 (lv_at hl 0 rfl) ?_
            replace h := es_bd_e h
            obtain ⟨r48, S49, g50, h⟩ := h
            refine es_callVi C (c_X8_puts l D cI cZ a N _ fu S45 S49 x3 v47 v25 v27 r48 g50) es_u22_20 es_mX8_puts ⟨rfl, rfl, by decide, by decide⟩ ⟨Nat.zero_le _, Nat.zero_le _⟩ hP hS (es_wM_0 a cI cZ N S45) rfl rfl hl.1 rfl (Nat.le_of_ble_eq_true rfl) dX8_makeRuns_226 (fun H locs _ _ hP hS => ?_)
            refine lv_istore_n (lv' := [(3, .int r48), (6, .int v27), (5, .int v25), (4, .int r20), (0, .ref (a 0)), (1, .int x1)]) hx hb dX8_makeRuns_229 rfl hl (by decide) rfl (fun ls hl => ?_)
            refine lv_aload_n hx hb dX8_makeRuns_230 rfl (lv_at hl 4 rfl) ?_
            refine es_get C hP (es_wM_0 a cI cZ N S49) rfl inlX8 (j := 29) (by decide) es_u21_23 rfl dX8_makeRuns_231 ?_
            refine lv_aload_n hx hb dX8_makeRuns_234 rfl (lv_at hl 4 rfl) ?_
            refine es_get C hP (es_wM_0 a cI cZ N S49) rfl inlX8 (j := 4) (by decide) es_u6_13 rfl dX8_makeRuns_235 ?_
            refine lv_iload_n hx hb dX8_makeRuns_238 rfl (lv_at hl 5 rfl) ?_
            replace h := es_ck_e h
            obtain ⟨b51, h⟩ := h
            refine es_ald C hP (es_wM_3 a cI cZ N S49) (t0 := 0) rfl b51 dX8_makeRuns_239 ?_
            refine lv_topi (fun v52 ev52 => ?_)
            replace h := es_lt_e ev52 h
            refine lv_icmp_ge (tgt := 298) hx hb dX8_makeRuns_240 (by decide) (fun c53 => ?_) (fun c53 => ?_)
            · replace h := es_if_t c53 h
              refine lv_goto (tgt := 59) hx hb dX8_makeRuns_298 (by decide) ?_
              exact ih x1 r48 S49 _ _ _ h hP hS (lv_sub hl [4, 5, 0] rfl)
            · replace h := es_if_f c53 h
              refine lv_aload_n hx hb dX8_makeRuns_243 rfl (lv_at hl 4 rfl) ?_
              refine lv_iload_n hx hb dX8_makeRuns_244 rfl (lv_at hl 5 rfl) ?_
              refine lv_aload_n hx hb dX8_makeRuns_245 rfl (lv_at hl 4 rfl) ?_
              refine lv_aload_n hx hb dX8_makeRuns_246 rfl (lv_at hl 4 rfl) ?_
              refine es_get C hP (es_wM_0 a cI cZ N S49) rfl inlX8 (j := 2) (by decide) es_u6_11 rfl dX8_makeRuns_247 ?_
              refine lv_sipush (v := 8192) hx hb dX8_makeRuns_250 (by decide) ?_
              refine lv_iload_n hx hb dX8_makeRuns_253 rfl (lv_at hl 5 rfl) ?_
              refine lv_imul hx hb dX8_makeRuns_254 ?_
              refine lv_aload_n hx hb dX8_makeRuns_255 rfl (lv_at hl 4 rfl) ?_
              refine es_get C hP (es_wM_0 a cI cZ N S49) rfl inlX8 (j := 29) (by decide) es_u21_23 rfl dX8_makeRuns_256 ?_
              refine lv_iadd hx hb dX8_makeRuns_259 ?_
              replace h := es_ck_e h
              obtain ⟨b54, h⟩ := h
              refine es_ald C hP (es_wM_1 a cI cZ N S49) (t0 := 0) rfl b54 dX8_makeRuns_260 ?_
              refine lv_topi (fun v55 ev55 => ?_)
              replace h := es_lt_e ev55 h
              refine lv_aload_n hx hb dX8_makeRuns_261 rfl (lv_at hl 4 rfl) ?_
              refine es_get C hP (es_wM_0 a cI cZ N S49) rfl inlX8 (j := 3) (by decide) es_u6_12 rfl dX8_makeRuns_262 ?_
              refine lv_sipush (v := 8192) hx hb dX8_makeRuns_265 (by decide) ?_
              refine lv_iload_n hx hb dX8_makeRuns_268 rfl (lv_at hl 5 rfl) ?_
              refine lv_imul hx hb dX8_makeRuns_269 ?_
              refine lv_aload_n hx hb dX8_makeRuns_270 rfl (lv_at hl 4 rfl) ?_
              refine es_get C hP (es_wM_0 a cI cZ N S49) rfl inlX8 (j := 29) (by decide) es_u21_23 rfl dX8_makeRuns_271 ?_
              refine lv_iadd hx hb dX8_makeRuns_274 ?_
              replace h := es_ck_e h
              obtain ⟨b56, h⟩ := h
              refine es_ald C hP (es_wM_2 a cI cZ N S49) (t0 := 0) rfl b56 dX8_makeRuns_275 ?_
              refine lv_topi (fun v57 ev57 => ?_)
              replace h := es_lt_e ev57 h
              refine lv_aload_n hx hb dX8_makeRuns_276 rfl (lv_at hl 4 rfl) ?_
              refine es_get C hP (es_wM_0 a cI cZ N S49) rfl inlX8 (j := 12) (by decide) es_u6_14 rfl dX8_makeRuns_277 ?_
              refine lv_iload_n hx hb dX8_makeRuns_280 rfl (lv_at hl 0 rfl) ?_
              refine lv_iconst (v := 1) hx hb dX8_makeRuns_281 (by decide) ?_
              refine lv_isub hx hb dX8_makeRuns_282 ?_
              replace h := es_ck_e h
              obtain ⟨b58, h⟩ := h
              refine es_ald C hP (es_wM_4 a cI cZ N S49) (t0 := 0) rfl b58 dX8_makeRuns_283 ?_
              refine lv_topi (fun v59 ev59 => ?_)
              replace h := es_lt_e ev59 h
              refine lv_aload_n hx hb dX8_makeRuns_284 rfl (lv_at hl 4 rfl) ?_
              refine es_get C hP (es_wM_0 a cI cZ N S49) rfl inlX8 (j := 13) (by decide) es_u6_15 rfl dX8_makeRuns_285 ?_
              refine lv_iload_n hx hb dX8_makeRuns_288 rfl (lv_at hl 0 rfl) ?_
              refine lv_iconst (v := 1) hx hb dX8_makeRuns_289 (by decide) ?_
              refine lv_isub hx hb dX8_makeRuns_290 ?_
              replace h := es_ck_e h
              obtain ⟨b60, h⟩ := h
              refine es_ald C hP (es_wM_5 a cI cZ N S49) (t0 := 0) rfl b60 dX8_makeRuns_291 ?_
              refine lv_topi (fun v61 ev61 => ?_)
              replace h := es_lt_e ev61 h
              replace h := es_bd_e h
              obtain ⟨r62, S63, g64, h⟩ := h
              refine es_callVi C (c_X8_isAhead l D cI cZ a N _ fu S49 S63 v55 v57 v59 v61 r62 g64) es_u22_8 es_mX8_isAhead ⟨rfl, rfl, by decide, by decide⟩ ⟨Nat.zero_le _, Nat.zero_le _⟩ hP hS (es_wM_0 a cI cZ N S49) rfl rfl hl.1 rfl (Nat.le_of_ble_eq_true rfl) dX8_makeRuns_292 (fun H locs _ _ hP hS => ?_)
              replace h := es_bd_e h
              obtain ⟨r65, S66, g67, h⟩ := h
              refine es_callVv C (c_X8_takes l D cI cZ a N _ fu S63 S66 x1 r62 r65 g67) es_u22_0 es_mX8_takes ⟨rfl, rfl, by decide, by decide⟩ ⟨Nat.zero_le _, Nat.zero_le _⟩ hP hS (es_wM_0 a cI cZ N S63) rfl rfl hl.1 rfl (Nat.le_of_ble_eq_true rfl) dX8_makeRuns_295 (fun H locs _ _ hP hS => ?_)
              refine lv_goto (tgt := 59) hx hb dX8_makeRuns_298 (by decide) ?_
              exact ih x1 r48 S66 _ _ _ h hP hS (lv_sub hl [4, 5, 0] rfl)
          · replace h := es_if_f c23 h
            refine lv_aload_n hx hb dX8_makeRuns_84 rfl (lv_at hl 1 rfl) ?_
            refine lv_iload_n hx hb dX8_makeRuns_85 rfl (lv_at hl 3 rfl) ?_
            replace h := es_bd_e h
            obtain ⟨r68, S69, g70, h⟩ := h
            refine es_callVi C (c_X8_endsRun l D cI cZ a N _ fu S21 S69 x3 r68 g70) es_u22_12 es_mX8_endsRun ⟨rfl, rfl, by decide, by decide⟩ ⟨Nat.zero_le _, Nat.zero_le _⟩ hP hS (es_wM_0 a cI cZ N S21) rfl rfl hl.1 rfl (Nat.le_of_ble_eq_true rfl) dX8_makeRuns_86 (fun H locs _ _ hP hS => ?_)
            refine lv_istore_n (lv' := [(3, .int r68), (4, .int r20), (0, .ref (a 0)), (1, .int x1)]) hx hb dX8_makeRuns_89 rfl hl (by decide) rfl (fun ls hl => ?_)
            refine lv_iconst (v := 0) hx hb dX8_makeRuns_90 (by decide) ?_
            refine lv_istore (lv' := [(5, .int 0), (3, .int r68), (4, .int r20), (0, .ref (a 0)), (1, .int x1)]) hx hb dX8_makeRuns_91 hl (by decide) rfl (fun ls hl => ?_)
            exact J93 (fun x1 x3 S => f_X8_makeRuns_59 N fu n x1 x3 S) ih fu x1 r68 0 S69 _ _ _ h hP hS (lv_sub hl [3, 4, 1, 0] rfl)
  have J29 : ∀ n : Nat, (∀ (x1 : Int32) (x2 : Int32) (x3 : Int32) (S : es_St) (H : Heap) (locs : List Loc) (ls : Array Slot), f_X8_makeRuns_29 N fu n x1 x2 x3 S = some (r, S') → va_P D vwCl ((es_wM a cI cZ N) S) H → va_S (es_AA a 21 s.heap.size) s.heap H locs → lv_has ls 7 [(0, .ref (a 0)), (1, .int x1), (2, .int x2), (3, .int x3)] → W p l e ({ frames := 2, cells := 0, slots := 0, locals := 46 } : Room) s m ([.ref (a 0), .int p1, .int p2] : List Value).toArray below meth c H locs 0 0 (MQ below (es_Qv D (es_wM a cI cZ N) a 21 S' s.heap.size) ([.ref (a 0), .int p1, .int p2] : List Value).toArray s 0 0 (es_AA a 21 s.heap.size)) (F0 m 29 ls [])) := by
    intro n
    induction n with
    | zero => intro x1 x2 x3 S H locs ls h; rw [f_X8_makeRuns_29] at h; cases h
    | succ n ih =>
      intro x1 x2 x3 S H locs ls h hP hS hl
      rw [f_X8_makeRuns_29] at h
      refine lv_aload_n hx hb dX8_makeRuns_29 rfl (lv_at hl 0 rfl) ?_
      refine es_get C hP (es_wM_0 a cI cZ N S) rfl inlX8 (j := 23) (by decide) es_u21_22 rfl dX8_makeRuns_30 ?_
      refine lv_iload_n hx hb dX8_makeRuns_33 rfl (lv_at hl 2 rfl) ?_
      refine lv_icmp_ge (tgt := 59) hx hb dX8_makeRuns_34 (by decide) (fun c7 => ?_) (fun c7 => ?_)
      · replace h := es_if_t c7 h
        exact J59  fu x1 x3 S _ _ _ h hP hS (lv_sub hl [0, 1, 3] rfl)
      · replace h := es_if_f c7 h
        refine lv_aload_n hx hb dX8_makeRuns_37 rfl (lv_at hl 0 rfl) ?_
        refine es_get C hP (es_wM_0 a cI cZ N S) rfl inlX8 (j := 29) (by decide) es_u21_23 rfl dX8_makeRuns_38 ?_
        refine lv_aload_n hx hb dX8_makeRuns_41 rfl (lv_at hl 0 rfl) ?_
        refine es_get C hP (es_wM_0 a cI cZ N S) rfl inlX8 (j := 4) (by decide) es_u6_13 rfl dX8_makeRuns_42 ?_
        refine lv_iload_n hx hb dX8_makeRuns_45 rfl (lv_at hl 1 rfl) ?_
        replace h := es_ck_e h
        obtain ⟨b75, h⟩ := h
        refine es_ald C hP (es_wM_3 a cI cZ N S) (t0 := 0) rfl b75 dX8_makeRuns_46 ?_
        refine lv_topi (fun v76 ev76 => ?_)
        replace h := es_lt_e ev76 h
        refine lv_icmp_ge (tgt := 59) hx hb dX8_makeRuns_47 (by decide) (fun c77 => ?_) (fun c77 => ?_)
        · replace h := es_if_t c77 h
          exact J59  fu x1 x3 S _ _ _ h hP hS (lv_sub hl [0, 1, 3] rfl)
        · replace h := es_if_f c77 h
          refine lv_aload_n hx hb dX8_makeRuns_50 rfl (lv_at hl 0 rfl) ?_
          refine lv_iload_n hx hb dX8_makeRuns_51 rfl (lv_at hl 1 rfl) ?_
          refine lv_iconst (v := 0) hx hb dX8_makeRuns_52 (by decide) ?_
          replace h := es_bd_e h
          obtain ⟨r78, S79, g80, h⟩ := h
          refine es_callVv C (c_X8_takes l D cI cZ a N _ fu S S79 x1 0 r78 g80) es_u22_0 es_mX8_takes ⟨rfl, rfl, by decide, by decide⟩ ⟨Nat.zero_le _, Nat.zero_le _⟩ hP hS (es_wM_0 a cI cZ N S) rfl rfl hl.1 rfl (Nat.le_of_ble_eq_true rfl) dX8_makeRuns_53 (fun H locs _ _ hP hS => ?_)
          refine lv_goto (tgt := 29) hx hb dX8_makeRuns_56 (by decide) ?_
          exact ih x1 x2 x3 S79 _ _ _ h hP hS (lv_sub hl [0, 1, 2, 3] rfl)
  unfold f_X8_makeRuns at h
  refine lv_aload_n hx hb dX8_makeRuns_0 rfl (lv_at hl 0 rfl) ?_
  refine lv_iconst (v := 0) hx hb dX8_makeRuns_1 (by decide) ?_
  refine es_put C hP hS (es_wM_0 a cI cZ N S) rfl inlX8 tyX8_ok nmX8 (j := 14) (by decide) es_u21_0 rfl (tyX8_ok 14 (by decide)) rfl rfl (by simp) (es_sM_9 a cI cZ N S 0) dX8_makeRuns_2 (fun S1 eS1 H locs hP hS => ?_)
  replace h := es_lt_e eS1 h
  refine lv_aload_n hx hb dX8_makeRuns_5 rfl (lv_at hl 0 rfl) ?_
  refine lv_iconst (v := 0) hx hb dX8_makeRuns_6 (by decide) ?_
  refine es_put C hP hS (es_wM_0 a cI cZ N S1) rfl inlX8 tyX8_ok nmX8 (j := 15) (by decide) es_u21_17 rfl (tyX8_ok 15 (by decide)) rfl rfl (by simp) (es_sM_10 a cI cZ N S1 0) dX8_makeRuns_7 (fun S2 eS2 H locs hP hS => ?_)
  replace h := es_lt_e eS2 h
  refine lv_aload_n hx hb dX8_makeRuns_10 rfl (lv_at hl 0 rfl) ?_
  refine es_get C hP (es_wM_0 a cI cZ N S2) rfl inlX8 (j := 16) (by decide) es_u6_16 rfl dX8_makeRuns_11 ?_
  refine lv_iconst (v := 0) hx hb dX8_makeRuns_14 (by decide) ?_
  refine lv_iconst (v := 0) hx hb dX8_makeRuns_15 (by decide) ?_
  replace h := es_ck_e h
  obtain ⟨b3, h⟩ := h
  refine es_ast C hP hS (es_wM_6 a cI cZ N S2) (es_rM_6 a cI cZ N S2) (t0 := 0) rfl b3 dX8_makeRuns_16 (fun S4 eS4 H locs hP hS => ?_)
  replace h := es_lt_e eS4 h
  refine lv_aload_n hx hb dX8_makeRuns_17 rfl (lv_at hl 0 rfl) ?_
  refine lv_iconst (v := 0) hx hb dX8_makeRuns_18 (by decide) ?_
  refine es_put C hP hS (es_wM_0 a cI cZ N S4) rfl inlX8 tyX8_ok nmX8 (j := 23) (by decide) es_u21_22 rfl (tyX8_ok 23 (by decide)) rfl rfl (by simp) (es_sM_12 a cI cZ N S4 0) dX8_makeRuns_19 (fun S5 eS5 H locs hP hS => ?_)
  replace h := es_lt_e eS5 h
  refine lv_aload_n hx hb dX8_makeRuns_22 rfl (lv_at hl 0 rfl) ?_
  refine lv_iconst (v := 0) hx hb dX8_makeRuns_23 (by decide) ?_
  refine es_put C hP hS (es_wM_0 a cI cZ N S5) rfl inlX8 tyX8_ok nmX8 (j := 29) (by decide) es_u21_23 rfl (tyX8_ok 29 (by decide)) rfl rfl (by simp) (es_sM_16 a cI cZ N S5 0) dX8_makeRuns_24 (fun S6 eS6 H locs hP hS => ?_)
  replace h := es_lt_e eS6 h
  refine lv_iconst (v := 0) hx hb dX8_makeRuns_27 (by decide) ?_
  refine lv_istore_n (lv' := [(3, .int 0), (0, .ref (a 0)), (1, .int p1), (2, .int p2)]) hx hb dX8_makeRuns_28 rfl hl (by decide) rfl (fun ls hl => ?_)
  exact J29  fu p1 p2 0 S6 _ _ _ h hP hS (lv_sub hl [1, 2, 3, 0] rfl)

set_option maxHeartbeats 4000000 in
set_option maxRecDepth 100000 in
theorem c_X8_stays (l : Launch) (D : va_G) (cI cZ : ClassId) (a : Nat → Nat) (N : Nat → Nat) (sz fu : Nat) (S S' : es_St) (p1 : Int32) (p2 : Int32) (p3 : Int32) (r : Int32) (h : f_X8_stays N fu S p1 p2 p3 = some (r, S')) : Met l yX8_stays (Cond.code yX8_stays cX8_stays 6 (some .int) :: wsL_law) ({ frames := 0, cells := 0, slots := 0, locals := 0 } : Room) (es_Pre [.ref (a 0), .int p1, .int p2, .int p3] D [(cI, .int), (cZ, .boolean)] (es_wM a cI cZ N) a 21 S sz) (es_Qi D (es_wM a cI cZ N) a 21 r S' sz) 0 0 (es_AA a 21 sz) := by
  refine es_intro (Qc := es_Qi D (es_wM a cI cZ N) a 21 r S') (by decide) (es_okM a cI cZ N) (Nat.le_of_ble_eq_true rfl) ?_
  intro p e s m below meth c C hr hlk hP ls hl
  have hx := C.1
  have hb := C.2.1
  have hown := C.2.2.2.1
  have hts := C.2.2.2.2.1
  have hS : va_S (es_AA a 21 s.heap.size) s.heap s.heap [] := va_S.rf
  replace hl : lv_has ls 6 [(0, .ref (a 0)), (1, .int p1), (2, .int p2), (3, .int p3)] := hl
  have J11 : ∀ n : Nat, (∀ (x1 : Int32) (x2 : Int32) (x4 : Int32) (x5 : Int32) (S : es_St) (H : Heap) (locs : List Loc) (ls : Array Slot), f_X8_stays_11 N fu n x1 x2 x4 x5 S = some (r, S') → va_P D vwCl ((es_wM a cI cZ N) S) H → va_S (es_AA a 21 s.heap.size) s.heap H locs → lv_has ls 6 [(0, .ref (a 0)), (1, .int x1), (2, .int x2), (4, .int x4), (5, .int x5)] → W p l e ({ frames := 0, cells := 0, slots := 0, locals := 0 } : Room) s m ([.ref (a 0), .int p1, .int p2, .int p3] : List Value).toArray below meth c H locs 0 0 (MQ below (es_Qi D (es_wM a cI cZ N) a 21 r S' s.heap.size) ([.ref (a 0), .int p1, .int p2, .int p3] : List Value).toArray s 0 0 (es_AA a 21 s.heap.size)) (F0 m 11 ls [])) := by
    intro n
    induction n with
    | zero => intro x1 x2 x4 x5 S H locs ls h; rw [f_X8_stays_11] at h; cases h
    | succ n ih =>
      intro x1 x2 x4 x5 S H locs ls h hP hS hl
      rw [f_X8_stays_11] at h
      refine lv_iload hx hb dX8_stays_11 (lv_at hl 4 rfl) ?_
      refine lv_aload_n hx hb dX8_stays_13 rfl (lv_at hl 0 rfl) ?_
      refine es_get C hP (es_wM_0 a cI cZ N S) rfl inlX8 (j := 16) (by decide) es_u6_16 rfl dX8_stays_14 ?_
      refine lv_iload_n hx hb dX8_stays_17 rfl (lv_at hl 2 rfl) ?_
      refine lv_iconst (v := 1) hx hb dX8_stays_18 (by decide) ?_
      refine lv_iadd hx hb dX8_stays_19 ?_
      replace h := es_ck_e h
      obtain ⟨b3, h⟩ := h
      refine es_ald C hP (es_wM_6 a cI cZ N S) (t0 := 0) rfl b3 dX8_stays_20 ?_
      refine lv_topi (fun v4 ev4 => ?_)
      replace h := es_lt_e ev4 h
      refine lv_icmp_ge (tgt := 65) hx hb dX8_stays_21 (by decide) (fun c5 => ?_) (fun c5 => ?_)
      · replace h := es_if_t c5 h
        refine lv_iload hx hb dX8_stays_65 (lv_at hl 3 rfl) ?_
        exact es_iret C hr hlk h hP hS dX8_stays_67
      · replace h := es_if_f c5 h
        refine lv_aload_n hx hb dX8_stays_24 rfl (lv_at hl 0 rfl) ?_
        refine es_get C hP (es_wM_0 a cI cZ N S) rfl inlX8 (j := 12) (by decide) es_u6_14 rfl dX8_stays_25 ?_
        refine lv_iload hx hb dX8_stays_28 (lv_at hl 3 rfl) ?_
        refine lv_aload_n hx hb dX8_stays_30 rfl (lv_at hl 0 rfl) ?_
        refine es_get C hP (es_wM_0 a cI cZ N S) rfl inlX8 (j := 12) (by decide) es_u6_14 rfl dX8_stays_31 ?_
        refine lv_iload_n hx hb dX8_stays_34 rfl (lv_at hl 1 rfl) ?_
        refine lv_iload hx hb dX8_stays_35 (lv_at hl 4 rfl) ?_
        refine lv_iadd hx hb dX8_stays_37 ?_
        replace h := es_ck_e h
        obtain ⟨b6, h⟩ := h
        refine es_ald C hP (es_wM_4 a cI cZ N S) (t0 := 0) rfl b6 dX8_stays_38 ?_
        refine lv_topi (fun v7 ev7 => ?_)
        replace h := es_lt_e ev7 h
        replace h := es_ck_e h
        obtain ⟨b8, h⟩ := h
        refine es_ast C hP hS (es_wM_4 a cI cZ N S) (es_rM_4 a cI cZ N S) (t0 := 0) rfl b8 dX8_stays_39 (fun S9 eS9 H locs hP hS => ?_)
        replace h := es_lt_e eS9 h
        refine lv_aload_n hx hb dX8_stays_40 rfl (lv_at hl 0 rfl) ?_
        refine es_get C hP (es_wM_0 a cI cZ N S9) rfl inlX8 (j := 13) (by decide) es_u6_15 rfl dX8_stays_41 ?_
        refine lv_iload hx hb dX8_stays_44 (lv_at hl 3 rfl) ?_
        refine lv_aload_n hx hb dX8_stays_46 rfl (lv_at hl 0 rfl) ?_
        refine es_get C hP (es_wM_0 a cI cZ N S9) rfl inlX8 (j := 13) (by decide) es_u6_15 rfl dX8_stays_47 ?_
        refine lv_iload_n hx hb dX8_stays_50 rfl (lv_at hl 1 rfl) ?_
        refine lv_iload hx hb dX8_stays_51 (lv_at hl 4 rfl) ?_
        refine lv_iadd hx hb dX8_stays_53 ?_
        replace h := es_ck_e h
        obtain ⟨b10, h⟩ := h
        refine es_ald C hP (es_wM_5 a cI cZ N S9) (t0 := 0) rfl b10 dX8_stays_54 ?_
        refine lv_topi (fun v11 ev11 => ?_)
        replace h := es_lt_e ev11 h
        replace h := es_ck_e h
        obtain ⟨b12, h⟩ := h
        refine es_ast C hP hS (es_wM_5 a cI cZ N S9) (es_rM_5 a cI cZ N S9) (t0 := 0) rfl b12 dX8_stays_55 (fun S13 eS13 H locs hP hS => ?_)
        replace h := es_lt_e eS13 h
        obtain ⟨y14, ey14⟩ : ∃ y : Int32, y = x4 + 1 := ⟨_, rfl⟩
        refine lv_iinc (v := y14) (lv' := [(4, .int y14), (0, .ref (a 0)), (1, .int x1), (2, .int x2), (5, .int x5)]) hx hb dX8_stays_56 hl (k := 3) rfl (by rw [ey14]; rfl) (by decide) rfl (fun ls hl => ?_)
        replace h := es_lt_e ey14 h
        obtain ⟨y15, ey15⟩ : ∃ y : Int32, y = x5 + 1 := ⟨_, rfl⟩
        refine lv_iinc (v := y15) (lv' := [(5, .int y15), (4, .int y14), (0, .ref (a 0)), (1, .int x1), (2, .int x2)]) hx hb dX8_stays_59 hl (k := 4) rfl (by rw [ey15]; rfl) (by decide) rfl (fun ls hl => ?_)
        replace h := es_lt_e ey15 h
        refine lv_goto (tgt := 11) hx hb dX8_stays_62 (by decide) ?_
        exact ih x1 x2 y14 y15 S13 _ _ _ h hP hS (lv_sub hl [2, 3, 4, 1, 0] rfl)
  unfold f_X8_stays at h
  refine lv_iload_n hx hb dX8_stays_0 rfl (lv_at hl 3 rfl) ?_
  refine lv_istore (lv' := [(4, .int p3), (0, .ref (a 0)), (1, .int p1), (2, .int p2), (3, .int p3)]) hx hb dX8_stays_1 hl (by decide) rfl (fun ls hl => ?_)
  refine lv_aload_n hx hb dX8_stays_3 rfl (lv_at hl 1 rfl) ?_
  refine es_get C hP (es_wM_0 a cI cZ N S) rfl inlX8 (j := 16) (by decide) es_u6_16 rfl dX8_stays_4 ?_
  refine lv_iload_n hx hb dX8_stays_7 rfl (lv_at hl 3 rfl) ?_
  replace h := es_ck_e h
  obtain ⟨b1, h⟩ := h
  refine es_ald C hP (es_wM_6 a cI cZ N S) (t0 := 0) rfl b1 dX8_stays_8 ?_
  refine lv_topi (fun v2 ev2 => ?_)
  replace h := es_lt_e ev2 h
  refine lv_istore (lv' := [(5, .int v2), (4, .int p3), (0, .ref (a 0)), (1, .int p1), (2, .int p2), (3, .int p3)]) hx hb dX8_stays_9 hl (by decide) rfl (fun ls hl => ?_)
  exact J11  fu p1 p2 p3 v2 S _ _ _ h hP hS (lv_sub hl [2, 3, 4, 1, 0] rfl)

set_option maxHeartbeats 4000000 in
set_option maxRecDepth 100000 in
theorem c_X8_readsPage (l : Launch) (D : va_G) (cI cZ : ClassId) (a : Nat → Nat) (N : Nat → Nat) (sz fu : Nat) (S S' : es_St) (r : Int32) (h : f_X8_readsPage N fu S = some (r, S')) : Met l yX8_readsPage (Cond.code yX8_readsPage cX8_readsPage 1 none :: wsL_law) ({ frames := 0, cells := 0, slots := 0, locals := 0 } : Room) (es_Pre [.ref (a 0)] D [(cI, .int), (cZ, .boolean)] (es_wM a cI cZ N) a 21 S sz) (es_Qv D (es_wM a cI cZ N) a 21 S' sz) 0 0 (es_AA a 21 sz) := by
  refine es_intro (Qc := es_Qv D (es_wM a cI cZ N) a 21 S') (by decide) (es_okM a cI cZ N) (Nat.le_of_ble_eq_true rfl) ?_
  intro p e s m below meth c C hr hlk hP ls hl
  have hx := C.1
  have hb := C.2.1
  have hown := C.2.2.2.1
  have hts := C.2.2.2.2.1
  have hS : va_S (es_AA a 21 s.heap.size) s.heap s.heap [] := va_S.rf
  replace hl : lv_has ls 1 [(0, .ref (a 0))] := hl
  unfold f_X8_readsPage at h
  refine lv_aload_n hx hb dX8_readsPage_0 rfl (lv_at hl 0 rfl) ?_
  refine lv_dup hx hb dX8_readsPage_1 rfl ?_
  refine es_get C hP (es_wM_0 a cI cZ N S) rfl inlX8 (j := 6) (by decide) es_u21_5 rfl dX8_readsPage_2 ?_
  refine lv_iconst (v := 1) hx hb dX8_readsPage_5 (by decide) ?_
  refine lv_iadd hx hb dX8_readsPage_6 ?_
  refine lv_topi (fun v1 ev1 => ?_)
  replace h := es_lt_e ev1 h
  refine es_put C hP hS (es_wM_0 a cI cZ N S) rfl inlX8 tyX8_ok nmX8 (j := 6) (by decide) es_u21_5 rfl (tyX8_ok 6 (by decide)) rfl rfl (by simp) (es_sM_3 a cI cZ N S v1) dX8_readsPage_7 (fun S2 eS2 H locs hP hS => ?_)
  replace h := es_lt_e eS2 h
  refine lv_aload_n hx hb dX8_readsPage_10 rfl (lv_at hl 0 rfl) ?_
  refine lv_dup hx hb dX8_readsPage_11 rfl ?_
  refine es_get C hP (es_wM_0 a cI cZ N S2) rfl inlX8 (j := 5) (by decide) es_u9_13 rfl dX8_readsPage_12 ?_
  refine lv_iconst (v := 1) hx hb dX8_readsPage_15 (by decide) ?_
  refine lv_isub hx hb dX8_readsPage_16 ?_
  refine lv_topi (fun v3 ev3 => ?_)
  replace h := es_lt_e ev3 h
  refine es_put C hP hS (es_wM_0 a cI cZ N S2) rfl inlX8 tyX8_ok nmX8 (j := 5) (by decide) es_u9_13 rfl (tyX8_ok 5 (by decide)) rfl rfl (by simp) (es_sM_2 a cI cZ N S2 v3) dX8_readsPage_17 (fun S4 eS4 H locs hP hS => ?_)
  replace h := es_lt_e eS4 h
  exact es_vret C hr hlk h hP hS dX8_readsPage_20

set_option maxHeartbeats 4000000 in
set_option maxRecDepth 100000 in
theorem c_X8_leastOf (l : Launch) (D : va_G) (cI cZ : ClassId) (a : Nat → Nat) (N : Nat → Nat) (sz fu : Nat) (S S' : es_St) (p1 : Int32) (r : Int32) (h : f_X8_leastOf N fu S p1 = some (r, S')) : Met l yX8_leastOf (Cond.code yX8_leastOf cX8_leastOf 4 (some .int) :: wsL_law) ({ frames := 1, cells := 0, slots := 0, locals := 24 } : Room) (es_Pre [.ref (a 0), .int p1] D [(cI, .int), (cZ, .boolean)] (es_wM a cI cZ N) a 21 S sz) (es_Qi D (es_wM a cI cZ N) a 21 r S' sz) 0 0 (es_AA a 21 sz) := by
  refine es_intro (Qc := es_Qi D (es_wM a cI cZ N) a 21 r S') (by decide) (es_okM a cI cZ N) (Nat.le_of_ble_eq_true rfl) ?_
  intro p e s m below meth c C hr hlk hP ls hl
  have hx := C.1
  have hb := C.2.1
  have hown := C.2.2.2.1
  have hts := C.2.2.2.2.1
  have hS : va_S (es_AA a 21 s.heap.size) s.heap s.heap [] := va_S.rf
  replace hl : lv_has ls 4 [(0, .ref (a 0)), (1, .int p1)] := hl
  have J4 : ∀ n : Nat, (∀ (x1 : Int32) (x2 : Int32) (x3 : Int32) (S : es_St) (H : Heap) (locs : List Loc) (ls : Array Slot), f_X8_leastOf_4 N fu n x1 x2 x3 S = some (r, S') → va_P D vwCl ((es_wM a cI cZ N) S) H → va_S (es_AA a 21 s.heap.size) s.heap H locs → lv_has ls 4 [(0, .ref (a 0)), (1, .int x1), (2, .int x2), (3, .int x3)] → W p l e ({ frames := 1, cells := 0, slots := 0, locals := 24 } : Room) s m ([.ref (a 0), .int p1] : List Value).toArray below meth c H locs 0 0 (MQ below (es_Qi D (es_wM a cI cZ N) a 21 r S' s.heap.size) ([.ref (a 0), .int p1] : List Value).toArray s 0 0 (es_AA a 21 s.heap.size)) (F0 m 4 ls [])) := by
    intro n
    induction n with
    | zero => intro x1 x2 x3 S H locs ls h; rw [f_X8_leastOf_4] at h; cases h
    | succ n ih =>
      intro x1 x2 x3 S H locs ls h hP hS hl
      rw [f_X8_leastOf_4] at h
      refine lv_iload_n hx hb dX8_leastOf_4 rfl (lv_at hl 3 rfl) ?_
      refine lv_iload_n hx hb dX8_leastOf_5 rfl (lv_at hl 1 rfl) ?_
      refine lv_icmp_ge (tgt := 87) hx hb dX8_leastOf_6 (by decide) (fun c1 => ?_) (fun c1 => ?_)
      · replace h := es_if_t c1 h
        refine lv_iload_n hx hb dX8_leastOf_87 rfl (lv_at hl 2 rfl) ?_
        exact es_iret C hr hlk h hP hS dX8_leastOf_88
      · replace h := es_if_f c1 h
        refine lv_aload_n hx hb dX8_leastOf_9 rfl (lv_at hl 0 rfl) ?_
        refine es_get C hP (es_wM_0 a cI cZ N S) rfl inlX8 (j := 31) (by decide) es_u7_2 rfl dX8_leastOf_10 ?_
        refine lv_iload_n hx hb dX8_leastOf_13 rfl (lv_at hl 3 rfl) ?_
        replace h := es_ck_e h
        obtain ⟨b2, h⟩ := h
        refine es_ald C hP (es_wM_15 a cI cZ N S) (t0 := 0) rfl b2 dX8_leastOf_14 ?_
        refine lv_topi (fun v3 ev3 => ?_)
        replace h := es_lt_e ev3 h
        refine lv_aload_n hx hb dX8_leastOf_15 rfl (lv_at hl 0 rfl) ?_
        refine es_get C hP (es_wM_0 a cI cZ N S) rfl inlX8 (j := 32) (by decide) es_u7_3 rfl dX8_leastOf_16 ?_
        refine lv_iload_n hx hb dX8_leastOf_19 rfl (lv_at hl 3 rfl) ?_
        replace h := es_ck_e h
        obtain ⟨b4, h⟩ := h
        refine es_ald C hP (es_wM_16 a cI cZ N S) (t0 := 0) rfl b4 dX8_leastOf_20 ?_
        refine lv_topi (fun v5 ev5 => ?_)
        replace h := es_lt_e ev5 h
        refine lv_icmp_ge (tgt := 81) hx hb dX8_leastOf_21 (by decide) (fun c6 => ?_) (fun c6 => ?_)
        · replace h := es_if_t c6 h
          obtain ⟨y7, ey7⟩ : ∃ y : Int32, y = x3 + 1 := ⟨_, rfl⟩
          refine lv_iinc (v := y7) (lv' := [(3, .int y7), (0, .ref (a 0)), (1, .int x1), (2, .int x2)]) hx hb dX8_leastOf_81 hl (k := 3) rfl (by rw [ey7]; rfl) (by decide) rfl (fun ls hl => ?_)
          replace h := es_lt_e ey7 h
          refine lv_goto (tgt := 4) hx hb dX8_leastOf_84 (by decide) ?_
          exact ih x1 x2 y7 S _ _ _ h hP hS (lv_sub hl [1, 2, 3, 0] rfl)
        · replace h := es_if_f c6 h
          refine lv_iload_n hx hb dX8_leastOf_24 rfl (lv_at hl 2 rfl) ?_
          refine lv_if_lt (tgt := 79) hx hb dX8_leastOf_25 (by decide) (fun c8 => ?_) (fun c8 => ?_)
          · replace h := es_if_t c8 h
            refine lv_iload_n hx hb dX8_leastOf_79 rfl (lv_at hl 3 rfl) ?_
            refine lv_istore_n (lv' := [(2, .int x3), (0, .ref (a 0)), (1, .int x1), (3, .int x3)]) hx hb dX8_leastOf_80 rfl hl (by decide) rfl (fun ls hl => ?_)
            obtain ⟨y9, ey9⟩ : ∃ y : Int32, y = x3 + 1 := ⟨_, rfl⟩
            refine lv_iinc (v := y9) (lv' := [(3, .int y9), (2, .int x3), (0, .ref (a 0)), (1, .int x1)]) hx hb dX8_leastOf_81 hl (k := 3) rfl (by rw [ey9]; rfl) (by decide) rfl (fun ls hl => ?_)
            replace h := es_lt_e ey9 h
            refine lv_goto (tgt := 4) hx hb dX8_leastOf_84 (by decide) ?_
            exact ih x1 x3 y9 S _ _ _ h hP hS (lv_sub hl [2, 3, 1, 0] rfl)
          · replace h := es_if_f c8 h
            refine lv_aload_n hx hb dX8_leastOf_28 rfl (lv_at hl 0 rfl) ?_
            refine lv_aload_n hx hb dX8_leastOf_29 rfl (lv_at hl 0 rfl) ?_
            refine es_get C hP (es_wM_0 a cI cZ N S) rfl inlX8 (j := 12) (by decide) es_u6_14 rfl dX8_leastOf_30 ?_
            refine lv_aload_n hx hb dX8_leastOf_33 rfl (lv_at hl 0 rfl) ?_
            refine es_get C hP (es_wM_0 a cI cZ N S) rfl inlX8 (j := 31) (by decide) es_u7_2 rfl dX8_leastOf_34 ?_
            refine lv_iload_n hx hb dX8_leastOf_37 rfl (lv_at hl 3 rfl) ?_
            replace h := es_ck_e h
            obtain ⟨b10, h⟩ := h
            refine es_ald C hP (es_wM_15 a cI cZ N S) (t0 := 0) rfl b10 dX8_leastOf_38 ?_
            refine lv_topi (fun v11 ev11 => ?_)
            replace h := es_lt_e ev11 h
            replace h := es_ck_e h
            obtain ⟨b12, h⟩ := h
            refine es_ald C hP (es_wM_4 a cI cZ N S) (t0 := 0) rfl b12 dX8_leastOf_39 ?_
            refine lv_topi (fun v13 ev13 => ?_)
            replace h := es_lt_e ev13 h
            refine lv_aload_n hx hb dX8_leastOf_40 rfl (lv_at hl 0 rfl) ?_
            refine es_get C hP (es_wM_0 a cI cZ N S) rfl inlX8 (j := 13) (by decide) es_u6_15 rfl dX8_leastOf_41 ?_
            refine lv_aload_n hx hb dX8_leastOf_44 rfl (lv_at hl 0 rfl) ?_
            refine es_get C hP (es_wM_0 a cI cZ N S) rfl inlX8 (j := 31) (by decide) es_u7_2 rfl dX8_leastOf_45 ?_
            refine lv_iload_n hx hb dX8_leastOf_48 rfl (lv_at hl 3 rfl) ?_
            replace h := es_ck_e h
            obtain ⟨b14, h⟩ := h
            refine es_ald C hP (es_wM_15 a cI cZ N S) (t0 := 0) rfl b14 dX8_leastOf_49 ?_
            refine lv_topi (fun v15 ev15 => ?_)
            replace h := es_lt_e ev15 h
            replace h := es_ck_e h
            obtain ⟨b16, h⟩ := h
            refine es_ald C hP (es_wM_5 a cI cZ N S) (t0 := 0) rfl b16 dX8_leastOf_50 ?_
            refine lv_topi (fun v17 ev17 => ?_)
            replace h := es_lt_e ev17 h
            refine lv_aload_n hx hb dX8_leastOf_51 rfl (lv_at hl 0 rfl) ?_
            refine es_get C hP (es_wM_0 a cI cZ N S) rfl inlX8 (j := 12) (by decide) es_u6_14 rfl dX8_leastOf_52 ?_
            refine lv_aload_n hx hb dX8_leastOf_55 rfl (lv_at hl 0 rfl) ?_
            refine es_get C hP (es_wM_0 a cI cZ N S) rfl inlX8 (j := 31) (by decide) es_u7_2 rfl dX8_leastOf_56 ?_
            refine lv_iload_n hx hb dX8_leastOf_59 rfl (lv_at hl 2 rfl) ?_
            replace h := es_ck_e h
            obtain ⟨b18, h⟩ := h
            refine es_ald C hP (es_wM_15 a cI cZ N S) (t0 := 0) rfl b18 dX8_leastOf_60 ?_
            refine lv_topi (fun v19 ev19 => ?_)
            replace h := es_lt_e ev19 h
            replace h := es_ck_e h
            obtain ⟨b20, h⟩ := h
            refine es_ald C hP (es_wM_4 a cI cZ N S) (t0 := 0) rfl b20 dX8_leastOf_61 ?_
            refine lv_topi (fun v21 ev21 => ?_)
            replace h := es_lt_e ev21 h
            refine lv_aload_n hx hb dX8_leastOf_62 rfl (lv_at hl 0 rfl) ?_
            refine es_get C hP (es_wM_0 a cI cZ N S) rfl inlX8 (j := 13) (by decide) es_u6_15 rfl dX8_leastOf_63 ?_
            refine lv_aload_n hx hb dX8_leastOf_66 rfl (lv_at hl 0 rfl) ?_
            refine es_get C hP (es_wM_0 a cI cZ N S) rfl inlX8 (j := 31) (by decide) es_u7_2 rfl dX8_leastOf_67 ?_
            refine lv_iload_n hx hb dX8_leastOf_70 rfl (lv_at hl 2 rfl) ?_
            replace h := es_ck_e h
            obtain ⟨b22, h⟩ := h
            refine es_ald C hP (es_wM_15 a cI cZ N S) (t0 := 0) rfl b22 dX8_leastOf_71 ?_
            refine lv_topi (fun v23 ev23 => ?_)
            replace h := es_lt_e ev23 h
            replace h := es_ck_e h
            obtain ⟨b24, h⟩ := h
            refine es_ald C hP (es_wM_5 a cI cZ N S) (t0 := 0) rfl b24 dX8_leastOf_72 ?_
            refine lv_topi (fun v25 ev25 => ?_)
            replace h := es_lt_e ev25 h
            replace h := es_bd_e h
            obtain ⟨r26, S27, g28, h⟩ := h
            refine es_callVi C (c_X8_isAhead l D cI cZ a N _ fu S S27 v13 v17 v21 v25 r26 g28) es_u22_8 es_mX8_isAhead ⟨rfl, rfl, by decide, by decide⟩ ⟨Nat.zero_le _, Nat.zero_le _⟩ hP hS (es_wM_0 a cI cZ N S) rfl rfl hl.1 rfl (Nat.le_of_ble_eq_true rfl) dX8_leastOf_73 (fun H locs _ _ hP hS => ?_)
            refine lv_if_eq (tgt := 81) hx hb dX8_leastOf_76 (by decide) (fun c29 => ?_) (fun c29 => ?_)
            · replace h := es_if_t c29 h
              obtain ⟨y30, ey30⟩ : ∃ y : Int32, y = x3 + 1 := ⟨_, rfl⟩
              refine lv_iinc (v := y30) (lv' := [(3, .int y30), (0, .ref (a 0)), (1, .int x1), (2, .int x2)]) hx hb dX8_leastOf_81 hl (k := 3) rfl (by rw [ey30]; rfl) (by decide) rfl (fun ls hl => ?_)
              replace h := es_lt_e ey30 h
              refine lv_goto (tgt := 4) hx hb dX8_leastOf_84 (by decide) ?_
              exact ih x1 x2 y30 S27 _ _ _ h hP hS (lv_sub hl [1, 2, 3, 0] rfl)
            · replace h := es_if_f c29 h
              refine lv_iload_n hx hb dX8_leastOf_79 rfl (lv_at hl 3 rfl) ?_
              refine lv_istore_n (lv' := [(2, .int x3), (0, .ref (a 0)), (1, .int x1), (3, .int x3)]) hx hb dX8_leastOf_80 rfl hl (by decide) rfl (fun ls hl => ?_)
              obtain ⟨y31, ey31⟩ : ∃ y : Int32, y = x3 + 1 := ⟨_, rfl⟩
              refine lv_iinc (v := y31) (lv' := [(3, .int y31), (2, .int x3), (0, .ref (a 0)), (1, .int x1)]) hx hb dX8_leastOf_81 hl (k := 3) rfl (by rw [ey31]; rfl) (by decide) rfl (fun ls hl => ?_)
              replace h := es_lt_e ey31 h
              refine lv_goto (tgt := 4) hx hb dX8_leastOf_84 (by decide) ?_
              exact ih x1 x3 y31 S27 _ _ _ h hP hS (lv_sub hl [2, 3, 1, 0] rfl)
  unfold f_X8_leastOf at h
  refine lv_iconst (v := (-1)) hx hb dX8_leastOf_0 (by decide) ?_
  refine lv_istore_n (lv' := [(2, .int (-1)), (0, .ref (a 0)), (1, .int p1)]) hx hb dX8_leastOf_1 rfl hl (by decide) rfl (fun ls hl => ?_)
  refine lv_iconst (v := 0) hx hb dX8_leastOf_2 (by decide) ?_
  refine lv_istore_n (lv' := [(3, .int 0), (2, .int (-1)), (0, .ref (a 0)), (1, .int p1)]) hx hb dX8_leastOf_3 rfl hl (by decide) rfl (fun ls hl => ?_)
  exact J4  fu p1 (-1) 0 S _ _ _ h hP hS (lv_sub hl [2, 3, 1, 0] rfl)
