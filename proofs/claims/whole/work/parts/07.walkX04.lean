set_option maxHeartbeats 4000000 in
set_option maxRecDepth 100000 in
theorem c_X2_writeGroup (l : Launch) (D : va_G) (cI cZ : ClassId) (a : Nat → Nat) (N : Nat → Nat) (sz fu : Nat) (S S' : es_St) (r : Int32) (h : f_X2_writeGroup N fu S = some (r, S')) : Met l yX2_writeGroup (Cond.code yX2_writeGroup cX2_writeGroup 3 (some .boolean) :: wsL_law) ({ frames := 4, cells := 0, slots := 0, locals := 90 } : Room) (es_Pre [.ref (a 4)] D [(cI, .int), (cZ, .boolean)] (es_wX a cI cZ N) a 35 S sz) (es_Qi D (es_wX a cI cZ N) a 35 r S' sz) 0 0 (es_AA a 35 sz) := by
  refine es_intro (Qc := es_Qi D (es_wX a cI cZ N) a 35 r S') (by decide) (es_okX a cI cZ N) (Nat.le_of_ble_eq_true rfl) ?_
  intro p e s m below meth c C hr hlk hP ls hl
  have hx := C.1
  have hb := C.2.1
  have hown := C.2.2.2.1
  have hts := C.2.2.2.2.1
  have hS : va_S (es_AA a 35 s.heap.size) s.heap s.heap [] := va_S.rf
  replace hl : lv_has ls 3 [(0, .ref (a 4))] := hl
  have J18 : ∀ (k5 : Int32 → es_St → Option (Int32 × es_St)) (hk5 : (∀ (x1 : Int32) (S : es_St) (H : Heap) (locs : List Loc) (ls : Array Slot), k5 x1 S = some (r, S') → va_P D vwCl ((es_wX a cI cZ N) S) H → va_S (es_AA a 35 s.heap.size) s.heap H locs → lv_has ls 3 [(0, .ref (a 4)), (1, .int x1)] → W p l e ({ frames := 4, cells := 0, slots := 0, locals := 90 } : Room) s m ([.ref (a 4)] : List Value).toArray below meth c H locs 0 0 (MQ below (es_Qi D (es_wX a cI cZ N) a 35 r S' s.heap.size) ([.ref (a 4)] : List Value).toArray s 0 0 (es_AA a 35 s.heap.size)) (F0 m 5 ls []))), ∀ n : Nat, (∀ (x1 : Int32) (x2 : Int32) (S : es_St) (H : Heap) (locs : List Loc) (ls : Array Slot), f_X2_writeGroup_18 N fu k5 n x1 x2 S = some (r, S') → va_P D vwCl ((es_wX a cI cZ N) S) H → va_S (es_AA a 35 s.heap.size) s.heap H locs → lv_has ls 3 [(0, .ref (a 4)), (1, .int x1), (2, .int x2)] → W p l e ({ frames := 4, cells := 0, slots := 0, locals := 90 } : Room) s m ([.ref (a 4)] : List Value).toArray below meth c H locs 0 0 (MQ below (es_Qi D (es_wX a cI cZ N) a 35 r S' s.heap.size) ([.ref (a 4)] : List Value).toArray s 0 0 (es_AA a 35 s.heap.size)) (F0 m 18 ls [])) := by
    intro k5 hk5
    intro n
    induction n with
    | zero => intro x1 x2 S H locs ls h; rw [f_X2_writeGroup_18] at h; cases h
    | succ n ih =>
      intro x1 x2 S H locs ls h hP hS hl
      rw [f_X2_writeGroup_18] at h
      refine lv_iload_n hx hb dX2_writeGroup_18 rfl (lv_at hl 2 rfl) ?_
      refine lv_aload_n hx hb dX2_writeGroup_19 rfl (lv_at hl 0 rfl) ?_
      refine es_get C hP (es_wX_4 a cI cZ N S) rfl inlX2 (j := 9) (by decide) es_u25_21 rfl dX2_writeGroup_20 ?_
      refine lv_icmp_ge (tgt := 56) hx hb dX2_writeGroup_23 (by decide) (fun c2 => ?_) (fun c2 => ?_)
      · replace h := es_if_t c2 h
        obtain ⟨y3, ey3⟩ : ∃ y : Int32, y = x1 + 1 := ⟨_, rfl⟩
        refine lv_iinc (v := y3) (lv' := [(1, .int y3), (0, .ref (a 4)), (2, .int x2)]) hx hb dX2_writeGroup_56 hl (k := 1) rfl (by rw [ey3]; rfl) (by decide) rfl (fun ls hl => ?_)
        replace h := es_lt_e ey3 h
        refine lv_goto (tgt := 5) hx hb dX2_writeGroup_59 (by decide) ?_
        exact hk5 y3 S _ _ _ h hP hS (lv_sub hl [1, 0] rfl)
      · replace h := es_if_f c2 h
        refine lv_aload_n hx hb dX2_writeGroup_26 rfl (lv_at hl 0 rfl) ?_
        refine es_get C hP (es_wX_4 a cI cZ N S) rfl inlX2 (j := 1) (by decide) es_u6_1 rfl dX2_writeGroup_27 ?_
        refine lv_aload_n hx hb dX2_writeGroup_30 rfl (lv_at hl 0 rfl) ?_
        refine es_get C hP (es_wX_4 a cI cZ N S) rfl inlX2 (j := 3) (by decide) es_u6_5 rfl dX2_writeGroup_31 ?_
        refine lv_iload_n hx hb dX2_writeGroup_34 rfl (lv_at hl 1 rfl) ?_
        replace h := es_ck_e h
        obtain ⟨b4, h⟩ := h
        refine es_ald C hP (es_wX_21 a cI cZ N S) (t0 := 0) rfl b4 dX2_writeGroup_35 ?_
        refine lv_topi (fun v5 ev5 => ?_)
        replace h := es_lt_e ev5 h
        refine lv_aload_n hx hb dX2_writeGroup_36 rfl (lv_at hl 0 rfl) ?_
        refine es_get C hP (es_wX_4 a cI cZ N S) rfl inlX2 (j := 3) (by decide) es_u6_5 rfl dX2_writeGroup_37 ?_
        refine lv_iload_n hx hb dX2_writeGroup_40 rfl (lv_at hl 2 rfl) ?_
        replace h := es_ck_e h
        obtain ⟨b6, h⟩ := h
        refine es_ald C hP (es_wX_21 a cI cZ N S) (t0 := 0) rfl b6 dX2_writeGroup_41 ?_
        refine lv_topi (fun v7 ev7 => ?_)
        replace h := es_lt_e ev7 h
        replace h := es_bd_e h
        obtain ⟨r8, S9, g10, h⟩ := h
        refine es_callVi C (c_X4_put l D cI cZ a N _ fu S S9 v5 v7 r8 g10) es_u27_11 es_mX4_put ⟨rfl, rfl, by decide, by decide⟩ ⟨Nat.zero_le _, Nat.zero_le _⟩ hP hS (es_wX_2 a cI cZ N S) rfl rfl hl.1 rfl (Nat.le_of_ble_eq_true rfl) dX2_writeGroup_42 (fun H locs _ _ hP hS => ?_)
        refine lv_if_ne (tgt := 50) hx hb dX2_writeGroup_45 (by decide) (fun c11 => ?_) (fun c11 => ?_)
        · replace h := es_if_t c11 h
          obtain ⟨y12, ey12⟩ : ∃ y : Int32, y = x2 + 1 := ⟨_, rfl⟩
          refine lv_iinc (v := y12) (lv' := [(2, .int y12), (0, .ref (a 4)), (1, .int x1)]) hx hb dX2_writeGroup_50 hl (k := 2) rfl (by rw [ey12]; rfl) (by decide) rfl (fun ls hl => ?_)
          replace h := es_lt_e ey12 h
          refine lv_goto (tgt := 18) hx hb dX2_writeGroup_53 (by decide) ?_
          exact ih x1 y12 S9 _ _ _ h hP hS (lv_sub hl [1, 2, 0] rfl)
        · replace h := es_if_f (fun q => q c11) h
          refine lv_iconst (v := 0) hx hb dX2_writeGroup_48 (by decide) ?_
          exact es_zret C hr hlk ⟨rfl, rfl⟩ h hP hS dX2_writeGroup_49
  have J5 : ∀ n : Nat, (∀ (x1 : Int32) (S : es_St) (H : Heap) (locs : List Loc) (ls : Array Slot), f_X2_writeGroup_5 N fu n x1 S = some (r, S') → va_P D vwCl ((es_wX a cI cZ N) S) H → va_S (es_AA a 35 s.heap.size) s.heap H locs → lv_has ls 3 [(0, .ref (a 4)), (1, .int x1)] → W p l e ({ frames := 4, cells := 0, slots := 0, locals := 90 } : Room) s m ([.ref (a 4)] : List Value).toArray below meth c H locs 0 0 (MQ below (es_Qi D (es_wX a cI cZ N) a 35 r S' s.heap.size) ([.ref (a 4)] : List Value).toArray s 0 0 (es_AA a 35 s.heap.size)) (F0 m 5 ls [])) := by
    intro n
    induction n with
    | zero => intro x1 S H locs ls h; rw [f_X2_writeGroup_5] at h; cases h
    | succ n ih =>
      intro x1 S H locs ls h hP hS hl
      rw [f_X2_writeGroup_5] at h
      refine lv_iload_n hx hb dX2_writeGroup_5 rfl (lv_at hl 1 rfl) ?_
      refine lv_aload_n hx hb dX2_writeGroup_6 rfl (lv_at hl 0 rfl) ?_
      refine es_get C hP (es_wX_4 a cI cZ N S) rfl inlX2 (j := 7) (by decide) es_u25_19 rfl dX2_writeGroup_7 ?_
      refine lv_icmp_ge (tgt := 62) hx hb dX2_writeGroup_10 (by decide) (fun c1 => ?_) (fun c1 => ?_)
      · replace h := es_if_t c1 h
        refine lv_iconst (v := 1) hx hb dX2_writeGroup_62 (by decide) ?_
        exact es_zret C hr hlk ⟨rfl, rfl⟩ h hP hS dX2_writeGroup_63
      · replace h := es_if_f c1 h
        refine lv_aload_n hx hb dX2_writeGroup_13 rfl (lv_at hl 0 rfl) ?_
        refine es_get C hP (es_wX_4 a cI cZ N S) rfl inlX2 (j := 8) (by decide) es_u25_22 rfl dX2_writeGroup_14 ?_
        refine lv_istore_n (lv' := [(2, .int (S.1 20)), (0, .ref (a 4)), (1, .int x1)]) hx hb dX2_writeGroup_17 rfl hl (by decide) rfl (fun ls hl => ?_)
        exact J18 (fun x1 S => f_X2_writeGroup_5 N fu n x1 S) ih fu x1 (S.1 20) S _ _ _ h hP hS (lv_sub hl [1, 2, 0] rfl)
  unfold f_X2_writeGroup at h
  refine lv_aload_n hx hb dX2_writeGroup_0 rfl (lv_at hl 0 rfl) ?_
  refine es_get C hP (es_wX_4 a cI cZ N S) rfl inlX2 (j := 6) (by decide) es_u25_20 rfl dX2_writeGroup_1 ?_
  refine lv_istore_n (lv' := [(1, .int (S.1 18)), (0, .ref (a 4))]) hx hb dX2_writeGroup_4 rfl hl (by decide) rfl (fun ls hl => ?_)
  exact J5  fu (S.1 18) S _ _ _ h hP hS (lv_sub hl [1, 0] rfl)

set_option maxHeartbeats 4000000 in
set_option maxRecDepth 100000 in
theorem c_X4_open (l : Launch) (D : va_G) (cI cZ : ClassId) (a : Nat → Nat) (N : Nat → Nat) (sz fu : Nat) (S S' : es_St) (p1 : Int32) (r : Int32) (h : f_X4_open N fu S p1 = some (r, S')) : Met l yX4_open (Cond.code yX4_open cX4_open 2 none :: wsL_law) ({ frames := 0, cells := 0, slots := 0, locals := 0 } : Room) (es_Pre [.ref (a 2), .int p1] D [(cI, .int), (cZ, .boolean)] (es_wX a cI cZ N) a 35 S sz) (es_Qv D (es_wX a cI cZ N) a 35 S' sz) 0 0 (es_AA a 35 sz) := by
  refine es_intro (Qc := es_Qv D (es_wX a cI cZ N) a 35 S') (by decide) (es_okX a cI cZ N) (Nat.le_of_ble_eq_true rfl) ?_
  intro p e s m below meth c C hr hlk hP ls hl
  have hx := C.1
  have hb := C.2.1
  have hown := C.2.2.2.1
  have hts := C.2.2.2.2.1
  have hS : va_S (es_AA a 35 s.heap.size) s.heap s.heap [] := va_S.rf
  replace hl : lv_has ls 2 [(0, .ref (a 2)), (1, .int p1)] := hl
  unfold f_X4_open at h
  refine lv_aload_n hx hb dX4_open_0 rfl (lv_at hl 0 rfl) ?_
  refine lv_iload_n hx hb dX4_open_1 rfl (lv_at hl 1 rfl) ?_
  replace h := es_ck_e h
  obtain ⟨b1, h⟩ := h
  refine es_put C hP hS (es_wX_2 a cI cZ N S) rfl inlX4 tyX4_ok nmX4 (j := 7) (by decide) es_u16_0 rfl (tyX4_ok 7 (by decide)) b1.1 b1.2 (by simp) (es_sX_7 a cI cZ N S p1) dX4_open_2 (fun S2 eS2 H locs hP hS => ?_)
  replace h := es_lt_e eS2 h
  refine lv_aload_n hx hb dX4_open_5 rfl (lv_at hl 0 rfl) ?_
  refine lv_iconst (v := (-1)) hx hb dX4_open_6 (by decide) ?_
  refine es_put C hP hS (es_wX_2 a cI cZ N S2) rfl inlX4 tyX4_ok nmX4 (j := 0) (by decide) es_u16_1 rfl (tyX4_ok 0 (by decide)) rfl rfl (by simp) (es_sX_3 a cI cZ N S2 (-1)) dX4_open_7 (fun S3 eS3 H locs hP hS => ?_)
  replace h := es_lt_e eS3 h
  refine lv_aload_n hx hb dX4_open_10 rfl (lv_at hl 0 rfl) ?_
  refine lv_iconst (v := (-1)) hx hb dX4_open_11 (by decide) ?_
  refine es_put C hP hS (es_wX_2 a cI cZ N S3) rfl inlX4 tyX4_ok nmX4 (j := 9) (by decide) es_u16_2 rfl (tyX4_ok 9 (by decide)) rfl rfl (by simp) (es_sX_9 a cI cZ N S3 (-1)) dX4_open_12 (fun S4 eS4 H locs hP hS => ?_)
  replace h := es_lt_e eS4 h
  refine lv_aload_n hx hb dX4_open_15 rfl (lv_at hl 0 rfl) ?_
  refine lv_iconst (v := 0) hx hb dX4_open_16 (by decide) ?_
  refine es_put C hP hS (es_wX_2 a cI cZ N S4) rfl inlX4 tyX4_ok nmX4 (j := 1) (by decide) es_u16_3 rfl (tyX4_ok 1 (by decide)) rfl rfl (by simp) (es_sX_4 a cI cZ N S4 0) dX4_open_17 (fun S5 eS5 H locs hP hS => ?_)
  replace h := es_lt_e eS5 h
  refine lv_aload_n hx hb dX4_open_20 rfl (lv_at hl 0 rfl) ?_
  refine lv_iconst (v := 0) hx hb dX4_open_21 (by decide) ?_
  refine es_put C hP hS (es_wX_2 a cI cZ N S5) rfl inlX4 tyX4_ok nmX4 (j := 8) (by decide) es_u16_4 rfl (tyX4_ok 8 (by decide)) rfl rfl (by simp) (es_sX_8 a cI cZ N S5 0) dX4_open_22 (fun S6 eS6 H locs hP hS => ?_)
  replace h := es_lt_e eS6 h
  exact es_vret C hr hlk h hP hS dX4_open_25

set_option maxHeartbeats 4000000 in
set_option maxRecDepth 100000 in
theorem c_X4_close (l : Launch) (D : va_G) (cI cZ : ClassId) (a : Nat → Nat) (N : Nat → Nat) (sz fu : Nat) (S S' : es_St) (r : Int32) (h : f_X4_close N fu S = some (r, S')) : Met l yX4_close (Cond.code yX4_close cX4_close 1 (some .boolean) :: wsL_law) ({ frames := 3, cells := 0, slots := 0, locals := 68 } : Room) (es_Pre [.ref (a 2)] D [(cI, .int), (cZ, .boolean)] (es_wX a cI cZ N) a 35 S sz) (es_Qi D (es_wX a cI cZ N) a 35 r S' sz) 0 0 (es_AA a 35 sz) := by
  refine es_intro (Qc := es_Qi D (es_wX a cI cZ N) a 35 r S') (by decide) (es_okX a cI cZ N) (Nat.le_of_ble_eq_true rfl) ?_
  intro p e s m below meth c C hr hlk hP ls hl
  have hx := C.1
  have hb := C.2.1
  have hown := C.2.2.2.1
  have hts := C.2.2.2.2.1
  have hS : va_S (es_AA a 35 s.heap.size) s.heap s.heap [] := va_S.rf
  replace hl : lv_has ls 1 [(0, .ref (a 2))] := hl
  unfold f_X4_close at h
  refine lv_aload_n hx hb dX4_close_0 rfl (lv_at hl 0 rfl) ?_
  refine es_get C hP (es_wX_2 a cI cZ N S) rfl inlX4 (j := 8) (by decide) es_u16_4 rfl dX4_close_1 ?_
  refine lv_if_eq (tgt := 14) hx hb dX4_close_4 (by decide) (fun c1 => ?_) (fun c1 => ?_)
  · replace h := es_if_t c1 h
    refine lv_iconst (v := 1) hx hb dX4_close_14 (by decide) ?_
    refine lv_goto (tgt := 19) hx hb dX4_close_15 (by decide) ?_
    exact es_zret C hr hlk ⟨rfl, rfl⟩ h hP hS dX4_close_19
  · replace h := es_if_f c1 h
    refine lv_aload_n hx hb dX4_close_7 rfl (lv_at hl 0 rfl) ?_
    replace h := es_bd_e h
    obtain ⟨r2, S3, g4, h⟩ := h
    refine es_callVi C (c_X4_writePage l D cI cZ a N _ fu S S3 r2 g4) es_u17_1 es_mX4_writePage ⟨rfl, rfl, by decide, by decide⟩ ⟨Nat.zero_le _, Nat.zero_le _⟩ hP hS (es_wX_2 a cI cZ N S) rfl rfl hl.1 rfl (Nat.le_of_ble_eq_true rfl) dX4_close_8 (fun H locs _ _ hP hS => ?_)
    refine lv_if_eq (tgt := 18) hx hb dX4_close_11 (by decide) (fun c5 => ?_) (fun c5 => ?_)
    · replace h := es_if_t c5 h
      refine lv_iconst (v := 0) hx hb dX4_close_18 (by decide) ?_
      exact es_zret C hr hlk ⟨rfl, rfl⟩ h hP hS dX4_close_19
    · replace h := es_if_f c5 h
      refine lv_iconst (v := 1) hx hb dX4_close_14 (by decide) ?_
      refine lv_goto (tgt := 19) hx hb dX4_close_15 (by decide) ?_
      exact es_zret C hr hlk ⟨rfl, rfl⟩ h hP hS dX4_close_19

set_option maxHeartbeats 4000000 in
set_option maxRecDepth 100000 in
theorem c_X2_writePairs (l : Launch) (D : va_G) (cI cZ : ClassId) (a : Nat → Nat) (N : Nat → Nat) (sz fu : Nat) (S S' : es_St) (r : Int32) (h : f_X2_writePairs N fu S = some (r, S')) : Met l yX2_writePairs (Cond.code yX2_writePairs cX2_writePairs 2 (some .boolean) :: wsL_law) ({ frames := 5, cells := 0, slots := 0, locals := 112 } : Room) (es_Pre [.ref (a 4)] D [(cI, .int), (cZ, .boolean)] (es_wX a cI cZ N) a 35 S sz) (es_Qi D (es_wX a cI cZ N) a 35 r S' sz) 0 0 (es_AA a 35 sz) := by
  refine es_intro (Qc := es_Qi D (es_wX a cI cZ N) a 35 r S') (by decide) (es_okX a cI cZ N) (Nat.le_of_ble_eq_true rfl) ?_
  intro p e s m below meth c C hr hlk hP ls hl
  have hx := C.1
  have hb := C.2.1
  have hown := C.2.2.2.1
  have hts := C.2.2.2.2.1
  have hS : va_S (es_AA a 35 s.heap.size) s.heap s.heap [] := va_S.rf
  replace hl : lv_has ls 2 [(0, .ref (a 4))] := hl
  have J43 : ∀ n : Nat, (∀ (x1 : Int32) (S : es_St) (H : Heap) (locs : List Loc) (ls : Array Slot), f_X2_writePairs_43 N fu n x1 S = some (r, S') → va_P D vwCl ((es_wX a cI cZ N) S) H → va_S (es_AA a 35 s.heap.size) s.heap H locs → lv_has ls 2 [(0, .ref (a 4)), (1, .int x1)] → W p l e ({ frames := 5, cells := 0, slots := 0, locals := 112 } : Room) s m ([.ref (a 4)] : List Value).toArray below meth c H locs 0 0 (MQ below (es_Qi D (es_wX a cI cZ N) a 35 r S' s.heap.size) ([.ref (a 4)] : List Value).toArray s 0 0 (es_AA a 35 s.heap.size)) (F0 m 43 ls [])) := by
    intro n
    induction n with
    | zero => intro x1 S H locs ls h; rw [f_X2_writePairs_43] at h; cases h
    | succ n ih =>
      intro x1 S H locs ls h hP hS hl
      rw [f_X2_writePairs_43] at h
      refine lv_iload_n hx hb dX2_writePairs_43 rfl (lv_at hl 1 rfl) ?_
      refine lv_aload_n hx hb dX2_writePairs_44 rfl (lv_at hl 0 rfl) ?_
      refine es_get C hP (es_wX_4 a cI cZ N S) rfl inlX2 (j := 2) (by decide) es_u6_4 rfl dX2_writePairs_45 ?_
      refine es_len C hP (es_wX_20 a cI cZ N S) (t0 := 0) rfl dX2_writePairs_48 ?_
      refine lv_icmp_ge (tgt := 74) hx hb dX2_writePairs_49 (by decide) (fun c15 => ?_) (fun c15 => ?_)
      · replace h := es_if_t c15 h
        refine lv_aload_n hx hb dX2_writePairs_74 rfl (lv_at hl 0 rfl) ?_
        refine es_get C hP (es_wX_4 a cI cZ N S) rfl inlX2 (j := 1) (by decide) es_u6_1 rfl dX2_writePairs_75 ?_
        replace h := es_bd_e h
        obtain ⟨r16, S17, g18, h⟩ := h
        refine es_callVi C (c_X4_close l D cI cZ a N _ fu S S17 r16 g18) es_u27_12 es_mX4_close ⟨rfl, rfl, by decide, by decide⟩ ⟨Nat.zero_le _, Nat.zero_le _⟩ hP hS (es_wX_2 a cI cZ N S) rfl rfl hl.1 rfl (Nat.le_of_ble_eq_true rfl) dX2_writePairs_78 (fun H locs _ _ hP hS => ?_)
        replace h := es_ck_e h
        obtain ⟨b19, h⟩ := h
        exact es_zret C hr hlk b19 h hP hS dX2_writePairs_81
      · replace h := es_if_f c15 h
        refine lv_aload_n hx hb dX2_writePairs_52 rfl (lv_at hl 0 rfl) ?_
        replace h := es_bd_e h
        obtain ⟨r20, S21, g22, h⟩ := h
        refine es_callVi C (c_X2_findGroup l D cI cZ a N _ fu S S21 r20 g22) es_u26_3 es_mX2_findGroup ⟨rfl, rfl, by decide, by decide⟩ ⟨Nat.zero_le _, Nat.zero_le _⟩ hP hS (es_wX_4 a cI cZ N S) rfl rfl hl.1 rfl (Nat.le_of_ble_eq_true rfl) dX2_writePairs_53 (fun H locs _ _ hP hS => ?_)
        refine lv_if_eq (tgt := 74) hx hb dX2_writePairs_56 (by decide) (fun c23 => ?_) (fun c23 => ?_)
        · replace h := es_if_t c23 h
          refine lv_aload_n hx hb dX2_writePairs_74 rfl (lv_at hl 0 rfl) ?_
          refine es_get C hP (es_wX_4 a cI cZ N S21) rfl inlX2 (j := 1) (by decide) es_u6_1 rfl dX2_writePairs_75 ?_
          replace h := es_bd_e h
          obtain ⟨r24, S25, g26, h⟩ := h
          refine es_callVi C (c_X4_close l D cI cZ a N _ fu S21 S25 r24 g26) es_u27_12 es_mX4_close ⟨rfl, rfl, by decide, by decide⟩ ⟨Nat.zero_le _, Nat.zero_le _⟩ hP hS (es_wX_2 a cI cZ N S21) rfl rfl hl.1 rfl (Nat.le_of_ble_eq_true rfl) dX2_writePairs_78 (fun H locs _ _ hP hS => ?_)
          replace h := es_ck_e h
          obtain ⟨b27, h⟩ := h
          exact es_zret C hr hlk b27 h hP hS dX2_writePairs_81
        · replace h := es_if_f c23 h
          refine lv_aload_n hx hb dX2_writePairs_59 rfl (lv_at hl 0 rfl) ?_
          replace h := es_bd_e h
          obtain ⟨r28, S29, g30, h⟩ := h
          refine es_callVi C (c_X2_writeGroup l D cI cZ a N _ fu S21 S29 r28 g30) es_u27_7 es_mX2_writeGroup ⟨rfl, rfl, by decide, by decide⟩ ⟨Nat.zero_le _, Nat.zero_le _⟩ hP hS (es_wX_4 a cI cZ N S21) rfl rfl hl.1 rfl (Nat.le_of_ble_eq_true rfl) dX2_writePairs_60 (fun H locs _ _ hP hS => ?_)
          refine lv_if_ne (tgt := 68) hx hb dX2_writePairs_63 (by decide) (fun c31 => ?_) (fun c31 => ?_)
          · replace h := es_if_t c31 h
            obtain ⟨y32, ey32⟩ : ∃ y : Int32, y = x1 + 1 := ⟨_, rfl⟩
            refine lv_iinc (v := y32) (lv' := [(1, .int y32), (0, .ref (a 4))]) hx hb dX2_writePairs_68 hl (k := 1) rfl (by rw [ey32]; rfl) (by decide) rfl (fun ls hl => ?_)
            replace h := es_lt_e ey32 h
            refine lv_goto (tgt := 43) hx hb dX2_writePairs_71 (by decide) ?_
            exact ih y32 S29 _ _ _ h hP hS (lv_sub hl [1, 0] rfl)
          · replace h := es_if_f (fun q => q c31) h
            refine lv_iconst (v := 0) hx hb dX2_writePairs_66 (by decide) ?_
            exact es_zret C hr hlk ⟨rfl, rfl⟩ h hP hS dX2_writePairs_67
  unfold f_X2_writePairs at h
  refine lv_aload_n hx hb dX2_writePairs_0 rfl (lv_at hl 0 rfl) ?_
  refine es_get C hP (es_wX_4 a cI cZ N S) rfl inlX2 (j := 0) (by decide) es_u6_0 rfl dX2_writePairs_1 ?_
  refine es_get C hP (es_wX_1 a cI cZ N S) rfl inlX0 (j := 2) (by decide) es_u27_3 rfl dX2_writePairs_4 ?_
  refine lv_dup hx hb dX2_writePairs_7 rfl ?_
  refine es_get C hP (es_wX_5 a cI cZ N S) rfl inlX6 (j := 0) (by decide) es_u27_4 rfl dX2_writePairs_8 ?_
  refine lv_aload_n hx hb dX2_writePairs_11 rfl (lv_at hl 0 rfl) ?_
  replace h := es_bd_e h
  obtain ⟨r1, S2, g3, h⟩ := h
  refine es_callVi C (c_X2_sortedPages l D cI cZ a N _ fu S S2 r1 g3) es_u26_19 es_mX2_sortedPages ⟨rfl, rfl, by decide, by decide⟩ ⟨Nat.zero_le _, Nat.zero_le _⟩ hP hS (es_wX_4 a cI cZ N S) rfl rfl hl.1 rfl (Nat.le_of_ble_eq_true rfl) dX2_writePairs_12 (fun H locs _ _ hP hS => ?_)
  refine lv_iadd hx hb dX2_writePairs_15 ?_
  refine lv_topi (fun v4 ev4 => ?_)
  replace h := es_lt_e ev4 h
  refine es_put C hP hS (es_wX_5 a cI cZ N S2) rfl inlX6 tyX6_ok nmX6 (j := 0) (by decide) es_u27_4 rfl (tyX6_ok 0 (by decide)) rfl rfl (by simp) (es_sX_22 a cI cZ N S2 v4) dX2_writePairs_16 (fun S5 eS5 H locs hP hS => ?_)
  replace h := es_lt_e eS5 h
  refine lv_aload_n hx hb dX2_writePairs_19 rfl (lv_at hl 0 rfl) ?_
  refine es_get C hP (es_wX_4 a cI cZ N S5) rfl inlX2 (j := 0) (by decide) es_u6_0 rfl dX2_writePairs_20 ?_
  refine lv_bipush (v := 6) hx hb dX2_writePairs_23 (by decide) ?_
  replace h := es_bd_e h
  obtain ⟨r6, S7, g8, h⟩ := h
  refine es_callVi C (c_X0_releaseAll l D cI cZ a N _ fu S5 S7 6 r6 g8) es_u27_5 es_mX0_releaseAll ⟨rfl, rfl, by decide, by decide⟩ ⟨Nat.zero_le _, Nat.zero_le _⟩ hP hS (es_wX_1 a cI cZ N S5) rfl rfl hl.1 rfl (Nat.le_of_ble_eq_true rfl) dX2_writePairs_25 (fun H locs _ _ hP hS => ?_)
  refine lv_pop hx hb dX2_writePairs_28 rfl ?_
  refine lv_aload_n hx hb dX2_writePairs_29 rfl (lv_at hl 0 rfl) ?_
  refine es_get C hP (es_wX_4 a cI cZ N S7) rfl inlX2 (j := 1) (by decide) es_u6_1 rfl dX2_writePairs_30 ?_
  refine lv_iconst (v := 0) hx hb dX2_writePairs_33 (by decide) ?_
  replace h := es_bd_e h
  obtain ⟨r9, S10, g11, h⟩ := h
  refine es_callVv C (c_X4_open l D cI cZ a N _ fu S7 S10 0 r9 g11) es_u27_6 es_mX4_open ⟨rfl, rfl, by decide, by decide⟩ ⟨Nat.zero_le _, Nat.zero_le _⟩ hP hS (es_wX_2 a cI cZ N S7) rfl rfl hl.1 rfl (Nat.le_of_ble_eq_true rfl) dX2_writePairs_34 (fun H locs _ _ hP hS => ?_)
  refine lv_aload_n hx hb dX2_writePairs_37 rfl (lv_at hl 0 rfl) ?_
  replace h := es_bd_e h
  obtain ⟨r12, S13, g14, h⟩ := h
  refine es_callVv C (c_X2_rewind l D cI cZ a N _ fu S10 S13 r12 g14) es_u25_23 es_mX2_rewind ⟨rfl, rfl, by decide, by decide⟩ ⟨Nat.zero_le _, Nat.zero_le _⟩ hP hS (es_wX_4 a cI cZ N S10) rfl rfl hl.1 rfl (Nat.le_of_ble_eq_true rfl) dX2_writePairs_38 (fun H locs _ _ hP hS => ?_)
  refine lv_iconst (v := 0) hx hb dX2_writePairs_41 (by decide) ?_
  refine lv_istore_n (lv' := [(1, .int 0), (0, .ref (a 4))]) hx hb dX2_writePairs_42 rfl hl (by decide) rfl (fun ls hl => ?_)
  exact J43  fu 0 S13 _ _ _ h hP hS (lv_sub hl [1, 0] rfl)

set_option maxHeartbeats 4000000 in
set_option maxRecDepth 100000 in
theorem c_X3_isLeaf (l : Launch) (D : va_G) (cI cZ : ClassId) (a : Nat → Nat) (N : Nat → Nat) (sz fu : Nat) (S S' : es_St) (p1 : Int32) (r : Int32) (h : f_X3_isLeaf N fu S p1 = some (r, S')) : Met l yX3_isLeaf (Cond.code yX3_isLeaf cX3_isLeaf 2 (some .boolean) :: wsL_law) ({ frames := 0, cells := 0, slots := 0, locals := 0 } : Room) (es_Pre [.ref (a 8), .int p1] D [(cI, .int), (cZ, .boolean)] (es_wX a cI cZ N) a 35 S sz) (es_Qi D (es_wX a cI cZ N) a 35 r S' sz) 0 0 (es_AA a 35 sz) := by
  refine es_intro (Qc := es_Qi D (es_wX a cI cZ N) a 35 r S') (by decide) (es_okX a cI cZ N) (Nat.le_of_ble_eq_true rfl) ?_
  intro p e s m below meth c C hr hlk hP ls hl
  have hx := C.1
  have hb := C.2.1
  have hown := C.2.2.2.1
  have hts := C.2.2.2.2.1
  have hS : va_S (es_AA a 35 s.heap.size) s.heap s.heap [] := va_S.rf
  replace hl : lv_has ls 2 [(0, .ref (a 8)), (1, .int p1)] := hl
  unfold f_X3_isLeaf at h
  refine lv_iload_n hx hb dX3_isLeaf_0 rfl (lv_at hl 1 rfl) ?_
  refine lv_if_lt (tgt := 16) hx hb dX3_isLeaf_1 (by decide) (fun c1 => ?_) (fun c1 => ?_)
  · replace h := es_if_t c1 h
    refine lv_iconst (v := 0) hx hb dX3_isLeaf_16 (by decide) ?_
    exact es_zret C hr hlk ⟨rfl, rfl⟩ h hP hS dX3_isLeaf_17
  · replace h := es_if_f c1 h
    refine lv_iload_n hx hb dX3_isLeaf_4 rfl (lv_at hl 1 rfl) ?_
    refine lv_aload_n hx hb dX3_isLeaf_5 rfl (lv_at hl 0 rfl) ?_
    refine es_get C hP (es_wX_8 a cI cZ N S) rfl inlX3 (j := 5) (by decide) es_u13_7 rfl dX3_isLeaf_6 ?_
    refine lv_icmp_ge (tgt := 16) hx hb dX3_isLeaf_9 (by decide) (fun c2 => ?_) (fun c2 => ?_)
    · replace h := es_if_t c2 h
      refine lv_iconst (v := 0) hx hb dX3_isLeaf_16 (by decide) ?_
      exact es_zret C hr hlk ⟨rfl, rfl⟩ h hP hS dX3_isLeaf_17
    · replace h := es_if_f c2 h
      refine lv_iconst (v := 1) hx hb dX3_isLeaf_12 (by decide) ?_
      refine lv_goto (tgt := 17) hx hb dX3_isLeaf_13 (by decide) ?_
      exact es_zret C hr hlk ⟨rfl, rfl⟩ h hP hS dX3_isLeaf_17

set_option maxHeartbeats 4000000 in
set_option maxRecDepth 100000 in
theorem c_X7_inOrder (l : Launch) (D : va_G) (cI cZ : ClassId) (a : Nat → Nat) (N : Nat → Nat) (sz fu : Nat) (S S' : es_St) (p1 : Int32) (p2 : Int32) (p3 : Int32) (p4 : Int32) (p5 : Int32) (r : Int32) (h : f_X7_inOrder N fu S p1 p2 p3 p4 p5 = some (r, S')) : Met l yX7_inOrder (Cond.code yX7_inOrder cX7_inOrder 6 (some .int) :: wsL_law) ({ frames := 0, cells := 0, slots := 0, locals := 0 } : Room) (es_Pre [.int p1, .int p2, .int p3, .int p4, .int p5] D [(cI, .int), (cZ, .boolean)] (es_wX a cI cZ N) a 35 S sz) (es_Qi D (es_wX a cI cZ N) a 35 r S' sz) 0 0 (es_AA a 35 sz) := by
  refine es_intro (Qc := es_Qi D (es_wX a cI cZ N) a 35 r S') (by decide) (es_okX a cI cZ N) (Nat.le_of_ble_eq_true rfl) ?_
  intro p e s m below meth c C hr hlk hP ls hl
  have hx := C.1
  have hb := C.2.1
  have hown := C.2.2.2.1
  have hts := C.2.2.2.2.1
  have hS : va_S (es_AA a 35 s.heap.size) s.heap s.heap [] := va_S.rf
  replace hl : lv_has ls 6 [(0, .int p1), (1, .int p2), (2, .int p3), (3, .int p4), (4, .int p5)] := hl
  have J15 : (∀ (x0 : Int32) (t0 : Int32) (S : es_St) (H : Heap) (locs : List Loc) (ls : Array Slot), f_X7_inOrder_15 N fu x0 t0 S = some (r, S') → va_P D vwCl ((es_wX a cI cZ N) S) H → va_S (es_AA a 35 s.heap.size) s.heap H locs → lv_has ls 6 [(0, .int x0)] → W p l e ({ frames := 0, cells := 0, slots := 0, locals := 0 } : Room) s m ([.int p1, .int p2, .int p3, .int p4, .int p5] : List Value).toArray below meth c H locs 0 0 (MQ below (es_Qi D (es_wX a cI cZ N) a 35 r S' s.heap.size) ([.int p1, .int p2, .int p3, .int p4, .int p5] : List Value).toArray s 0 0 (es_AA a 35 s.heap.size)) (F0 m 15 ls [.int t0])) := by
    intro x0 t0 S H locs ls h hP hS hl
    unfold f_X7_inOrder_15 at h
    refine lv_istore (lv' := [(5, .int t0), (0, .int x0)]) hx hb dX7_inOrder_15 hl (by decide) rfl (fun ls hl => ?_)
    refine lv_iload hx hb dX7_inOrder_17 (lv_at hl 0 rfl) ?_
    refine lv_iload_n hx hb dX7_inOrder_19 rfl (lv_at hl 1 rfl) ?_
    refine lv_iconst (v := 2) hx hb dX7_inOrder_20 (by decide) ?_
    refine lv_icmp_eq (tgt := 28) hx hb dX7_inOrder_21 (by decide) (fun c6 => ?_) (fun c6 => ?_)
    · replace h := es_if_t c6 h
      refine lv_iconst (v := 0) hx hb dX7_inOrder_28 (by decide) ?_
      refine lv_icmp_ne (tgt := 36) hx hb dX7_inOrder_29 (by decide) (fun c7 => ?_) (fun c7 => ?_)
      · replace h := es_if_t c7 h
        refine lv_iconst (v := 1) hx hb dX7_inOrder_36 (by decide) ?_
        exact es_iret C hr hlk h hP hS dX7_inOrder_37
      · replace h := es_if_f (fun q => q c7) h
        refine lv_iconst (v := (-1)) hx hb dX7_inOrder_32 (by decide) ?_
        refine lv_goto (tgt := 37) hx hb dX7_inOrder_33 (by decide) ?_
        exact es_iret C hr hlk h hP hS dX7_inOrder_37
    · replace h := es_if_f c6 h
      refine lv_iconst (v := 1) hx hb dX7_inOrder_24 (by decide) ?_
      refine lv_goto (tgt := 29) hx hb dX7_inOrder_25 (by decide) ?_
      refine lv_icmp_ne (tgt := 36) hx hb dX7_inOrder_29 (by decide) (fun c8 => ?_) (fun c8 => ?_)
      · replace h := es_if_t c8 h
        refine lv_iconst (v := 1) hx hb dX7_inOrder_36 (by decide) ?_
        exact es_iret C hr hlk h hP hS dX7_inOrder_37
      · replace h := es_if_f (fun q => q c8) h
        refine lv_iconst (v := (-1)) hx hb dX7_inOrder_32 (by decide) ?_
        refine lv_goto (tgt := 37) hx hb dX7_inOrder_33 (by decide) ?_
        exact es_iret C hr hlk h hP hS dX7_inOrder_37
  unfold f_X7_inOrder at h
  refine lv_iload_n hx hb dX7_inOrder_0 rfl (lv_at hl 1 rfl) ?_
  refine lv_iload_n hx hb dX7_inOrder_1 rfl (lv_at hl 3 rfl) ?_
  refine lv_icmp_eq (tgt := 38) hx hb dX7_inOrder_2 (by decide) (fun c1 => ?_) (fun c1 => ?_)
  · replace h := es_if_t c1 h
    refine lv_iload_n hx hb dX7_inOrder_38 rfl (lv_at hl 0 rfl) ?_
    refine lv_iconst (v := 1) hx hb dX7_inOrder_39 (by decide) ?_
    refine lv_icmp_ne (tgt := 61) hx hb dX7_inOrder_40 (by decide) (fun c2 => ?_) (fun c2 => ?_)
    · replace h := es_if_t c2 h
      refine lv_iconst (v := 0) hx hb dX7_inOrder_61 (by decide) ?_
      exact es_iret C hr hlk h hP hS dX7_inOrder_62
    · replace h := es_if_f (fun q => q c2) h
      refine lv_iload_n hx hb dX7_inOrder_43 rfl (lv_at hl 2 rfl) ?_
      refine lv_iload hx hb dX7_inOrder_44 (lv_at hl 4 rfl) ?_
      refine lv_icmp_eq (tgt := 61) hx hb dX7_inOrder_46 (by decide) (fun c3 => ?_) (fun c3 => ?_)
      · replace h := es_if_t c3 h
        refine lv_iconst (v := 0) hx hb dX7_inOrder_61 (by decide) ?_
        exact es_iret C hr hlk h hP hS dX7_inOrder_62
      · replace h := es_if_f c3 h
        refine lv_iload_n hx hb dX7_inOrder_49 rfl (lv_at hl 2 rfl) ?_
        refine lv_iload hx hb dX7_inOrder_50 (lv_at hl 4 rfl) ?_
        refine lv_icmp_ge (tgt := 59) hx hb dX7_inOrder_52 (by decide) (fun c4 => ?_) (fun c4 => ?_)
        · replace h := es_if_t c4 h
          refine lv_iconst (v := 1) hx hb dX7_inOrder_59 (by decide) ?_
          exact es_iret C hr hlk h hP hS dX7_inOrder_60
        · replace h := es_if_f c4 h
          refine lv_iconst (v := (-1)) hx hb dX7_inOrder_55 (by decide) ?_
          refine lv_goto (tgt := 60) hx hb dX7_inOrder_56 (by decide) ?_
          exact es_iret C hr hlk h hP hS dX7_inOrder_60
  · replace h := es_if_f c1 h
    refine lv_iload_n hx hb dX7_inOrder_5 rfl (lv_at hl 1 rfl) ?_
    refine lv_iload_n hx hb dX7_inOrder_6 rfl (lv_at hl 3 rfl) ?_
    refine lv_icmp_ge (tgt := 14) hx hb dX7_inOrder_7 (by decide) (fun c5 => ?_) (fun c5 => ?_)
    · replace h := es_if_t c5 h
      refine lv_iconst (v := 0) hx hb dX7_inOrder_14 (by decide) ?_
      exact J15  p1 0 S _ _ _ h hP hS (lv_sub hl [0] rfl)
    · replace h := es_if_f c5 h
      refine lv_iconst (v := 1) hx hb dX7_inOrder_10 (by decide) ?_
      refine lv_goto (tgt := 15) hx hb dX7_inOrder_11 (by decide) ?_
      exact J15  p1 1 S _ _ _ h hP hS (lv_sub hl [0] rfl)

set_option maxHeartbeats 4000000 in
set_option maxRecDepth 100000 in
theorem c_X3_beats (l : Launch) (D : va_G) (cI cZ : ClassId) (a : Nat → Nat) (N : Nat → Nat) (sz fu : Nat) (S S' : es_St) (p1 : Int32) (p2 : Int32) (r : Int32) (h : f_X3_beats N fu S p1 p2 = some (r, S')) : Met l yX3_beats (Cond.code yX3_beats cX3_beats 4 (some .boolean) :: wsL_law) ({ frames := 1, cells := 0, slots := 0, locals := 25 } : Room) (es_Pre [.ref (a 8), .int p1, .int p2] D [(cI, .int), (cZ, .boolean)] (es_wX a cI cZ N) a 35 S sz) (es_Qi D (es_wX a cI cZ N) a 35 r S' sz) 0 0 (es_AA a 35 sz) := by
  refine es_intro (Qc := es_Qi D (es_wX a cI cZ N) a 35 r S') (by decide) (es_okX a cI cZ N) (Nat.le_of_ble_eq_true rfl) ?_
  intro p e s m below meth c C hr hlk hP ls hl
  have hx := C.1
  have hb := C.2.1
  have hown := C.2.2.2.1
  have hts := C.2.2.2.2.1
  have hS : va_S (es_AA a 35 s.heap.size) s.heap s.heap [] := va_S.rf
  replace hl : lv_has ls 4 [(0, .ref (a 8)), (1, .int p1), (2, .int p2)] := hl
  unfold f_X3_beats at h
  refine lv_aload_n hx hb dX3_beats_0 rfl (lv_at hl 0 rfl) ?_
  refine lv_iload_n hx hb dX3_beats_1 rfl (lv_at hl 1 rfl) ?_
  replace h := es_bd_e h
  obtain ⟨r1, S2, g3, h⟩ := h
  refine es_callVi C (c_X3_isLeaf l D cI cZ a N _ fu S S2 p1 r1 g3) es_u14_22 es_mX3_isLeaf ⟨rfl, rfl, by decide, by decide⟩ ⟨Nat.zero_le _, Nat.zero_le _⟩ hP hS (es_wX_8 a cI cZ N S) rfl rfl hl.1 rfl (Nat.le_of_ble_eq_true rfl) dX3_beats_2 (fun H locs _ _ hP hS => ?_)
  refine lv_if_eq (tgt := 16) hx hb dX3_beats_5 (by decide) (fun c4 => ?_) (fun c4 => ?_)
  · replace h := es_if_t c4 h
    refine lv_iconst (v := 0) hx hb dX3_beats_16 (by decide) ?_
    exact es_zret C hr hlk ⟨rfl, rfl⟩ h hP hS dX3_beats_17
  · replace h := es_if_f c4 h
    refine lv_aload_n hx hb dX3_beats_8 rfl (lv_at hl 0 rfl) ?_
    refine lv_iload_n hx hb dX3_beats_9 rfl (lv_at hl 2 rfl) ?_
    replace h := es_bd_e h
    obtain ⟨r5, S6, g7, h⟩ := h
    refine es_callVi C (c_X3_isLeaf l D cI cZ a N _ fu S2 S6 p2 r5 g7) es_u14_22 es_mX3_isLeaf ⟨rfl, rfl, by decide, by decide⟩ ⟨Nat.zero_le _, Nat.zero_le _⟩ hP hS (es_wX_8 a cI cZ N S2) rfl rfl hl.1 rfl (Nat.le_of_ble_eq_true rfl) dX3_beats_10 (fun H locs _ _ hP hS => ?_)
    refine lv_if_ne (tgt := 18) hx hb dX3_beats_13 (by decide) (fun c8 => ?_) (fun c8 => ?_)
    · replace h := es_if_t c8 h
      refine lv_aload_n hx hb dX3_beats_18 rfl (lv_at hl 0 rfl) ?_
      refine es_get C hP (es_wX_8 a cI cZ N S6) rfl inlX3 (j := 0) (by decide) es_u5_15 rfl dX3_beats_19 ?_
      refine lv_iload_n hx hb dX3_beats_22 rfl (lv_at hl 1 rfl) ?_
      replace h := es_ck_e h
      obtain ⟨b9, h⟩ := h
      refine es_ald C hP (es_wX_30 a cI cZ N S6) (t0 := 0) rfl b9 dX3_beats_23 ?_
      refine lv_topi (fun v10 ev10 => ?_)
      replace h := es_lt_e ev10 h
      refine lv_aload_n hx hb dX3_beats_24 rfl (lv_at hl 0 rfl) ?_
      refine es_get C hP (es_wX_8 a cI cZ N S6) rfl inlX3 (j := 0) (by decide) es_u5_15 rfl dX3_beats_25 ?_
      refine lv_iload_n hx hb dX3_beats_28 rfl (lv_at hl 2 rfl) ?_
      replace h := es_ck_e h
      obtain ⟨b11, h⟩ := h
      refine es_ald C hP (es_wX_30 a cI cZ N S6) (t0 := 0) rfl b11 dX3_beats_29 ?_
      refine lv_topi (fun v12 ev12 => ?_)
      replace h := es_lt_e ev12 h
      refine lv_icmp_eq (tgt := 54) hx hb dX3_beats_30 (by decide) (fun c13 => ?_) (fun c13 => ?_)
      · replace h := es_if_t c13 h
        refine lv_aload_n hx hb dX3_beats_54 rfl (lv_at hl 0 rfl) ?_
        refine es_get C hP (es_wX_8 a cI cZ N S6) rfl inlX3 (j := 6) (by decide) es_u13_8 rfl dX3_beats_55 ?_
        refine lv_aload_n hx hb dX3_beats_58 rfl (lv_at hl 0 rfl) ?_
        refine es_get C hP (es_wX_8 a cI cZ N S6) rfl inlX3 (j := 1) (by decide) es_u5_16 rfl dX3_beats_59 ?_
        refine lv_iload_n hx hb dX3_beats_62 rfl (lv_at hl 1 rfl) ?_
        replace h := es_ck_e h
        obtain ⟨b14, h⟩ := h
        refine es_ald C hP (es_wX_31 a cI cZ N S6) (t0 := 0) rfl b14 dX3_beats_63 ?_
        refine lv_topi (fun v15 ev15 => ?_)
        replace h := es_lt_e ev15 h
        refine lv_aload_n hx hb dX3_beats_64 rfl (lv_at hl 0 rfl) ?_
        refine es_get C hP (es_wX_8 a cI cZ N S6) rfl inlX3 (j := 2) (by decide) es_u5_17 rfl dX3_beats_65 ?_
        refine lv_iload_n hx hb dX3_beats_68 rfl (lv_at hl 1 rfl) ?_
        replace h := es_ck_e h
        obtain ⟨b16, h⟩ := h
        refine es_ald C hP (es_wX_32 a cI cZ N S6) (t0 := 0) rfl b16 dX3_beats_69 ?_
        refine lv_topi (fun v17 ev17 => ?_)
        replace h := es_lt_e ev17 h
        refine lv_aload_n hx hb dX3_beats_70 rfl (lv_at hl 0 rfl) ?_
        refine es_get C hP (es_wX_8 a cI cZ N S6) rfl inlX3 (j := 1) (by decide) es_u5_16 rfl dX3_beats_71 ?_
        refine lv_iload_n hx hb dX3_beats_74 rfl (lv_at hl 2 rfl) ?_
        replace h := es_ck_e h
        obtain ⟨b18, h⟩ := h
        refine es_ald C hP (es_wX_31 a cI cZ N S6) (t0 := 0) rfl b18 dX3_beats_75 ?_
        refine lv_topi (fun v19 ev19 => ?_)
        replace h := es_lt_e ev19 h
        refine lv_aload_n hx hb dX3_beats_76 rfl (lv_at hl 0 rfl) ?_
        refine es_get C hP (es_wX_8 a cI cZ N S6) rfl inlX3 (j := 2) (by decide) es_u5_17 rfl dX3_beats_77 ?_
        refine lv_iload_n hx hb dX3_beats_80 rfl (lv_at hl 2 rfl) ?_
        replace h := es_ck_e h
        obtain ⟨b20, h⟩ := h
        refine es_ald C hP (es_wX_32 a cI cZ N S6) (t0 := 0) rfl b20 dX3_beats_81 ?_
        refine lv_topi (fun v21 ev21 => ?_)
        replace h := es_lt_e ev21 h
        replace h := es_bd_e h
        obtain ⟨r22, S23, g24, h⟩ := h
        refine es_callNi C (c_X7_inOrder l D cI cZ a N _ fu S6 S23 (S6.1 33) v15 v17 v19 v21 r22 g24) (C.2.2.2.2.2.2.2.2.2.2.1) es_mX7_inOrder ⟨rfl, rfl, by decide, by decide⟩ ⟨Nat.zero_le _, Nat.zero_le _⟩ hP hS rfl hl.1 rfl (Nat.le_of_ble_eq_true rfl) dX3_beats_82 (fun H locs _ _ hP hS => ?_)
        refine lv_istore_n (lv' := [(3, .int r22), (0, .ref (a 8)), (1, .int p1), (2, .int p2)]) hx hb dX3_beats_85 rfl hl (by decide) rfl (fun ls hl => ?_)
        refine lv_iload_n hx hb dX3_beats_86 rfl (lv_at hl 0 rfl) ?_
        refine lv_if_ne (tgt := 113) hx hb dX3_beats_87 (by decide) (fun c25 => ?_) (fun c25 => ?_)
        · replace h := es_if_t c25 h
          refine lv_iload_n hx hb dX3_beats_113 rfl (lv_at hl 0 rfl) ?_
          refine lv_if_ge (tgt := 121) hx hb dX3_beats_114 (by decide) (fun c26 => ?_) (fun c26 => ?_)
          · replace h := es_if_t c26 h
            refine lv_iconst (v := 0) hx hb dX3_beats_121 (by decide) ?_
            exact es_zret C hr hlk ⟨rfl, rfl⟩ h hP hS dX3_beats_122
          · replace h := es_if_f c26 h
            refine lv_iconst (v := 1) hx hb dX3_beats_117 (by decide) ?_
            refine lv_goto (tgt := 122) hx hb dX3_beats_118 (by decide) ?_
            exact es_zret C hr hlk ⟨rfl, rfl⟩ h hP hS dX3_beats_122
        · replace h := es_if_f (fun q => q c25) h
          refine lv_aload_n hx hb dX3_beats_90 rfl (lv_at hl 1 rfl) ?_
          refine es_get C hP (es_wX_8 a cI cZ N S23) rfl inlX3 (j := 3) (by decide) es_u5_18 rfl dX3_beats_91 ?_
          refine lv_iload_n hx hb dX3_beats_94 rfl (lv_at hl 2 rfl) ?_
          replace h := es_ck_e h
          obtain ⟨b27, h⟩ := h
          refine es_ald C hP (es_wX_33 a cI cZ N S23) (t0 := 0) rfl b27 dX3_beats_95 ?_
          refine lv_topi (fun v28 ev28 => ?_)
          replace h := es_lt_e ev28 h
          refine lv_aload_n hx hb dX3_beats_96 rfl (lv_at hl 1 rfl) ?_
          refine es_get C hP (es_wX_8 a cI cZ N S23) rfl inlX3 (j := 3) (by decide) es_u5_18 rfl dX3_beats_97 ?_
          refine lv_iload_n hx hb dX3_beats_100 rfl (lv_at hl 3 rfl) ?_
          replace h := es_ck_e h
          obtain ⟨b29, h⟩ := h
          refine es_ald C hP (es_wX_33 a cI cZ N S23) (t0 := 0) rfl b29 dX3_beats_101 ?_
          refine lv_topi (fun v30 ev30 => ?_)
          replace h := es_lt_e ev30 h
          refine lv_icmp_ge (tgt := 109) hx hb dX3_beats_102 (by decide) (fun c31 => ?_) (fun c31 => ?_)
          · replace h := es_if_t c31 h
            refine lv_iconst (v := 0) hx hb dX3_beats_109 (by decide) ?_
            refine lv_goto (tgt := 122) hx hb dX3_beats_110 (by decide) ?_
            exact es_zret C hr hlk ⟨rfl, rfl⟩ h hP hS dX3_beats_122
          · replace h := es_if_f c31 h
            refine lv_iconst (v := 1) hx hb dX3_beats_105 (by decide) ?_
            refine lv_goto (tgt := 122) hx hb dX3_beats_106 (by decide) ?_
            exact es_zret C hr hlk ⟨rfl, rfl⟩ h hP hS dX3_beats_122
      · replace h := es_if_f c13 h
        refine lv_aload_n hx hb dX3_beats_33 rfl (lv_at hl 0 rfl) ?_
        refine es_get C hP (es_wX_8 a cI cZ N S6) rfl inlX3 (j := 0) (by decide) es_u5_15 rfl dX3_beats_34 ?_
        refine lv_iload_n hx hb dX3_beats_37 rfl (lv_at hl 1 rfl) ?_
        replace h := es_ck_e h
        obtain ⟨b32, h⟩ := h
        refine es_ald C hP (es_wX_30 a cI cZ N S6) (t0 := 0) rfl b32 dX3_beats_38 ?_
        refine lv_topi (fun v33 ev33 => ?_)
        replace h := es_lt_e ev33 h
        refine lv_aload_n hx hb dX3_beats_39 rfl (lv_at hl 0 rfl) ?_
        refine es_get C hP (es_wX_8 a cI cZ N S6) rfl inlX3 (j := 0) (by decide) es_u5_15 rfl dX3_beats_40 ?_
        refine lv_iload_n hx hb dX3_beats_43 rfl (lv_at hl 2 rfl) ?_
        replace h := es_ck_e h
        obtain ⟨b34, h⟩ := h
        refine es_ald C hP (es_wX_30 a cI cZ N S6) (t0 := 0) rfl b34 dX3_beats_44 ?_
        refine lv_topi (fun v35 ev35 => ?_)
        replace h := es_lt_e ev35 h
        refine lv_icmp_ge (tgt := 52) hx hb dX3_beats_45 (by decide) (fun c36 => ?_) (fun c36 => ?_)
        · replace h := es_if_t c36 h
          refine lv_iconst (v := 0) hx hb dX3_beats_52 (by decide) ?_
          exact es_zret C hr hlk ⟨rfl, rfl⟩ h hP hS dX3_beats_53
        · replace h := es_if_f c36 h
          refine lv_iconst (v := 1) hx hb dX3_beats_48 (by decide) ?_
          refine lv_goto (tgt := 53) hx hb dX3_beats_49 (by decide) ?_
          exact es_zret C hr hlk ⟨rfl, rfl⟩ h hP hS dX3_beats_53
    · replace h := es_if_f (fun q => q c8) h
      refine lv_iconst (v := 0) hx hb dX3_beats_16 (by decide) ?_
      exact es_zret C hr hlk ⟨rfl, rfl⟩ h hP hS dX3_beats_17

set_option maxHeartbeats 4000000 in
set_option maxRecDepth 100000 in
theorem c_X3_begin (l : Launch) (D : va_G) (cI cZ : ClassId) (a : Nat → Nat) (N : Nat → Nat) (sz fu : Nat) (S S' : es_St) (p1 : Int32) (p2 : Int32) (r : Int32) (h : f_X3_begin N fu S p1 p2 = some (r, S')) : Met l yX3_begin (Cond.code yX3_begin cX3_begin 3 none :: wsL_law) ({ frames := 1, cells := 0, slots := 0, locals := 21 } : Room) (es_Pre [.ref (a 8), .int p1, .int p2] D [(cI, .int), (cZ, .boolean)] (es_wX a cI cZ N) a 35 S sz) (es_Qv D (es_wX a cI cZ N) a 35 S' sz) 0 0 (es_AA a 35 sz) := by
  refine es_intro (Qc := es_Qv D (es_wX a cI cZ N) a 35 S') (by decide) (es_okX a cI cZ N) (Nat.le_of_ble_eq_true rfl) ?_
  intro p e s m below meth c C hr hlk hP ls hl
  have hx := C.1
  have hb := C.2.1
  have hown := C.2.2.2.1
  have hts := C.2.2.2.2.1
  have hS : va_S (es_AA a 35 s.heap.size) s.heap s.heap [] := va_S.rf
  replace hl : lv_has ls 3 [(0, .ref (a 8)), (1, .int p1), (2, .int p2)] := hl
  unfold f_X3_begin at h
  refine lv_aload_n hx hb dX3_begin_0 rfl (lv_at hl 0 rfl) ?_
  refine lv_iconst (v := 0) hx hb dX3_begin_1 (by decide) ?_
  refine lv_iload_n hx hb dX3_begin_2 rfl (lv_at hl 1 rfl) ?_
  refine lv_aload_n hx hb dX3_begin_3 rfl (lv_at hl 0 rfl) ?_
  refine es_get C hP (es_wX_8 a cI cZ N S) rfl inlX3 (j := 4) (by decide) es_u5_19 rfl dX3_begin_4 ?_
  refine es_len C hP (es_wX_34 a cI cZ N S) (t0 := 0) rfl dX3_begin_7 ?_
  refine va_mmin hx hb (C.2.2.1.trans hl.1.symm) hown (hts _ es_u13_6) (hts _ es_u1_20) (hts _ es_u1_21) (hts _ es_u1_22) (by decide) (Nat.le_of_ble_eq_true rfl) (Nat.zero_le _) (Nat.zero_le _) dX3_begin_8 ?_
  refine lv_topi (fun v1 ev1 => ?_)
  replace h := es_lt_e ev1 h
  refine va_mmax hx hb (C.2.2.1.trans hl.1.symm) hown (hts _ es_u5_14) (hts _ es_u2_0) (hts _ es_u1_21) (hts _ es_u2_1) (by decide) (Nat.le_of_ble_eq_true rfl) (Nat.zero_le _) (Nat.zero_le _) dX3_begin_11 ?_
  refine lv_topi (fun v2 ev2 => ?_)
  replace h := es_lt_e ev2 h
  refine es_put C hP hS (es_wX_8 a cI cZ N S) rfl inlX3 tyX3_ok nmX3 (j := 5) (by decide) es_u13_7 rfl (tyX3_ok 5 (by decide)) rfl rfl (by simp) (es_sX_32 a cI cZ N S v2) dX3_begin_14 (fun S3 eS3 H locs hP hS => ?_)
  replace h := es_lt_e eS3 h
  refine lv_aload_n hx hb dX3_begin_17 rfl (lv_at hl 0 rfl) ?_
  refine lv_iload_n hx hb dX3_begin_18 rfl (lv_at hl 2 rfl) ?_
  refine es_put C hP hS (es_wX_8 a cI cZ N S3) rfl inlX3 tyX3_ok nmX3 (j := 6) (by decide) es_u13_8 rfl (tyX3_ok 6 (by decide)) rfl rfl (by simp) (es_sX_33 a cI cZ N S3 p2) dX3_begin_19 (fun S4 eS4 H locs hP hS => ?_)
  replace h := es_lt_e eS4 h
  exact es_vret C hr hlk h hP hS dX3_begin_22

set_option maxHeartbeats 4000000 in
set_option maxRecDepth 100000 in
theorem c_X3_climb (l : Launch) (D : va_G) (cI cZ : ClassId) (a : Nat → Nat) (N : Nat → Nat) (sz fu : Nat) (S S' : es_St) (p1 : Int32) (r : Int32) (h : f_X3_climb N fu S p1 = some (r, S')) : Met l yX3_climb (Cond.code yX3_climb cX3_climb 5 none :: wsL_law) ({ frames := 2, cells := 0, slots := 0, locals := 48 } : Room) (es_Pre [.ref (a 8), .int p1] D [(cI, .int), (cZ, .boolean)] (es_wX a cI cZ N) a 35 S sz) (es_Qv D (es_wX a cI cZ N) a 35 S' sz) 0 0 (es_AA a 35 sz) := by
  refine es_intro (Qc := es_Qv D (es_wX a cI cZ N) a 35 S') (by decide) (es_okX a cI cZ N) (Nat.le_of_ble_eq_true rfl) ?_
  intro p e s m below meth c C hr hlk hP ls hl
  have hx := C.1
  have hb := C.2.1
  have hown := C.2.2.2.1
  have hts := C.2.2.2.2.1
  have hS : va_S (es_AA a 35 s.heap.size) s.heap s.heap [] := va_S.rf
  replace hl : lv_has ls 5 [(0, .ref (a 8)), (1, .int p1)] := hl
  have J20 : ∀ n : Nat, (∀ (x2 : Int32) (x3 : Int32) (S : es_St) (H : Heap) (locs : List Loc) (ls : Array Slot), f_X3_climb_20 N fu n x2 x3 S = some (r, S') → va_P D vwCl ((es_wX a cI cZ N) S) H → va_S (es_AA a 35 s.heap.size) s.heap H locs → lv_has ls 5 [(0, .ref (a 8)), (2, .int x2), (3, .int x3)] → W p l e ({ frames := 2, cells := 0, slots := 0, locals := 48 } : Room) s m ([.ref (a 8), .int p1] : List Value).toArray below meth c H locs 0 0 (MQ below (es_Qv D (es_wX a cI cZ N) a 35 S' s.heap.size) ([.ref (a 8), .int p1] : List Value).toArray s 0 0 (es_AA a 35 s.heap.size)) (F0 m 20 ls [])) := by
    intro n
    induction n with
    | zero => intro x2 x3 S H locs ls h; rw [f_X3_climb_20] at h; cases h
    | succ n ih =>
      intro x2 x3 S H locs ls h hP hS hl
      rw [f_X3_climb_20] at h
      refine lv_iload_n hx hb dX3_climb_20 rfl (lv_at hl 2 rfl) ?_
      refine lv_if_le (tgt := 82) hx hb dX3_climb_21 (by decide) (fun c6 => ?_) (fun c6 => ?_)
      · replace h := es_if_t c6 h
        refine lv_aload_n hx hb dX3_climb_82 rfl (lv_at hl 0 rfl) ?_
        refine es_get C hP (es_wX_8 a cI cZ N S) rfl inlX3 (j := 4) (by decide) es_u5_19 rfl dX3_climb_83 ?_
        refine lv_iconst (v := 0) hx hb dX3_climb_86 (by decide) ?_
        refine lv_iload_n hx hb dX3_climb_87 rfl (lv_at hl 1 rfl) ?_
        replace h := es_ck_e h
        obtain ⟨b7, h⟩ := h
        refine es_ast C hP hS (es_wX_34 a cI cZ N S) (es_rX_34 a cI cZ N S) (t0 := 0) rfl b7 dX3_climb_88 (fun S8 eS8 H locs hP hS => ?_)
        replace h := es_lt_e eS8 h
        exact es_vret C hr hlk h hP hS dX3_climb_89
      · replace h := es_if_f c6 h
        refine lv_iload_n hx hb dX3_climb_24 rfl (lv_at hl 2 rfl) ?_
        refine lv_aload_n hx hb dX3_climb_25 rfl (lv_at hl 0 rfl) ?_
        refine es_get C hP (es_wX_8 a cI cZ N S) rfl inlX3 (j := 4) (by decide) es_u5_19 rfl dX3_climb_26 ?_
        refine es_len C hP (es_wX_34 a cI cZ N S) (t0 := 0) rfl dX3_climb_29 ?_
        refine lv_icmp_ge (tgt := 82) hx hb dX3_climb_30 (by decide) (fun c9 => ?_) (fun c9 => ?_)
        · replace h := es_if_t c9 h
          refine lv_aload_n hx hb dX3_climb_82 rfl (lv_at hl 0 rfl) ?_
          refine es_get C hP (es_wX_8 a cI cZ N S) rfl inlX3 (j := 4) (by decide) es_u5_19 rfl dX3_climb_83 ?_
          refine lv_iconst (v := 0) hx hb dX3_climb_86 (by decide) ?_
          refine lv_iload_n hx hb dX3_climb_87 rfl (lv_at hl 1 rfl) ?_
          replace h := es_ck_e h
          obtain ⟨b10, h⟩ := h
          refine es_ast C hP hS (es_wX_34 a cI cZ N S) (es_rX_34 a cI cZ N S) (t0 := 0) rfl b10 dX3_climb_88 (fun S11 eS11 H locs hP hS => ?_)
          replace h := es_lt_e eS11 h
          exact es_vret C hr hlk h hP hS dX3_climb_89
        · replace h := es_if_f c9 h
          refine lv_aload_n hx hb dX3_climb_33 rfl (lv_at hl 0 rfl) ?_
          refine es_get C hP (es_wX_8 a cI cZ N S) rfl inlX3 (j := 4) (by decide) es_u5_19 rfl dX3_climb_34 ?_
          refine lv_iload_n hx hb dX3_climb_37 rfl (lv_at hl 2 rfl) ?_
          replace h := es_ck_e h
          obtain ⟨b12, h⟩ := h
          refine es_ald C hP (es_wX_34 a cI cZ N S) (t0 := 0) rfl b12 dX3_climb_38 ?_
          refine lv_topi (fun v13 ev13 => ?_)
          replace h := es_lt_e ev13 h
          refine lv_istore (lv' := [(4, .int v13), (0, .ref (a 8)), (2, .int x2), (3, .int x3)]) hx hb dX3_climb_39 hl (by decide) rfl (fun ls hl => ?_)
          refine lv_iload hx hb dX3_climb_41 (lv_at hl 0 rfl) ?_
          refine lv_iconst (v := (-1)) hx hb dX3_climb_43 (by decide) ?_
          refine lv_icmp_ne (tgt := 55) hx hb dX3_climb_44 (by decide) (fun c14 => ?_) (fun c14 => ?_)
          · replace h := es_if_t c14 h
            refine lv_aload_n hx hb dX3_climb_55 rfl (lv_at hl 1 rfl) ?_
            refine lv_iload hx hb dX3_climb_56 (lv_at hl 0 rfl) ?_
            refine lv_iload_n hx hb dX3_climb_58 rfl (lv_at hl 2 rfl) ?_
            replace h := es_bd_e h
            obtain ⟨r15, S16, g17, h⟩ := h
            refine es_callVi C (c_X3_beats l D cI cZ a N _ fu S S16 v13 x2 r15 g17) es_u15_14 es_mX3_beats ⟨rfl, rfl, by decide, by decide⟩ ⟨Nat.zero_le _, Nat.zero_le _⟩ hP hS (es_wX_8 a cI cZ N S) rfl rfl hl.1 rfl (Nat.le_of_ble_eq_true rfl) dX3_climb_59 (fun H locs _ _ hP hS => ?_)
            refine lv_if_eq (tgt := 75) hx hb dX3_climb_62 (by decide) (fun c18 => ?_) (fun c18 => ?_)
            · replace h := es_if_t c18 h
              refine lv_iload_n hx hb dX3_climb_75 rfl (lv_at hl 3 rfl) ?_
              refine lv_iconst (v := 2) hx hb dX3_climb_76 (by decide) ?_
              refine lv_idiv hx hb dX3_climb_77 (by decide) ?_
              refine lv_topi (fun y19 ey19 => ?_)
              replace h := es_lt_e ey19 h
              refine lv_istore_n (lv' := [(3, .int y19), (4, .int v13), (0, .ref (a 8)), (2, .int x2)]) hx hb dX3_climb_78 rfl hl (by decide) rfl (fun ls hl => ?_)
              refine lv_goto (tgt := 20) hx hb dX3_climb_79 (by decide) ?_
              exact ih x2 y19 S16 _ _ _ h hP hS (lv_sub hl [2, 3, 0] rfl)
            · replace h := es_if_f c18 h
              refine lv_aload_n hx hb dX3_climb_65 rfl (lv_at hl 1 rfl) ?_
              refine es_get C hP (es_wX_8 a cI cZ N S16) rfl inlX3 (j := 4) (by decide) es_u5_19 rfl dX3_climb_66 ?_
              refine lv_iload_n hx hb dX3_climb_69 rfl (lv_at hl 3 rfl) ?_
              refine lv_iload_n hx hb dX3_climb_70 rfl (lv_at hl 2 rfl) ?_
              replace h := es_ck_e h
              obtain ⟨b20, h⟩ := h
              refine es_ast C hP hS (es_wX_34 a cI cZ N S16) (es_rX_34 a cI cZ N S16) (t0 := 0) rfl b20 dX3_climb_71 (fun S21 eS21 H locs hP hS => ?_)
              replace h := es_lt_e eS21 h
              refine lv_iload hx hb dX3_climb_72 (lv_at hl 0 rfl) ?_
              refine lv_istore_n (lv' := [(2, .int v13), (4, .int v13), (0, .ref (a 8)), (3, .int x3)]) hx hb dX3_climb_74 rfl hl (by decide) rfl (fun ls hl => ?_)
              refine lv_iload_n hx hb dX3_climb_75 rfl (lv_at hl 3 rfl) ?_
              refine lv_iconst (v := 2) hx hb dX3_climb_76 (by decide) ?_
              refine lv_idiv hx hb dX3_climb_77 (by decide) ?_
              refine lv_topi (fun y22 ey22 => ?_)
              replace h := es_lt_e ey22 h
              refine lv_istore_n (lv' := [(3, .int y22), (2, .int v13), (4, .int v13), (0, .ref (a 8))]) hx hb dX3_climb_78 rfl hl (by decide) rfl (fun ls hl => ?_)
              refine lv_goto (tgt := 20) hx hb dX3_climb_79 (by decide) ?_
              exact ih v13 y22 S21 _ _ _ h hP hS (lv_sub hl [3, 1, 0] rfl)
          · replace h := es_if_f (fun q => q c14) h
            refine lv_aload_n hx hb dX3_climb_47 rfl (lv_at hl 1 rfl) ?_
            refine es_get C hP (es_wX_8 a cI cZ N S) rfl inlX3 (j := 4) (by decide) es_u5_19 rfl dX3_climb_48 ?_
            refine lv_iload_n hx hb dX3_climb_51 rfl (lv_at hl 3 rfl) ?_
            refine lv_iload_n hx hb dX3_climb_52 rfl (lv_at hl 2 rfl) ?_
            replace h := es_ck_e h
            obtain ⟨b23, h⟩ := h
            refine es_ast C hP hS (es_wX_34 a cI cZ N S) (es_rX_34 a cI cZ N S) (t0 := 0) rfl b23 dX3_climb_53 (fun S24 eS24 H locs hP hS => ?_)
            replace h := es_lt_e eS24 h
            exact es_vret C hr hlk h hP hS dX3_climb_54
  unfold f_X3_climb at h
  refine lv_aload_n hx hb dX3_climb_0 rfl (lv_at hl 0 rfl) ?_
  refine lv_iload_n hx hb dX3_climb_1 rfl (lv_at hl 1 rfl) ?_
  replace h := es_bd_e h
  obtain ⟨r1, S2, g3, h⟩ := h
  refine es_callVi C (c_X3_isLeaf l D cI cZ a N _ fu S S2 p1 r1 g3) es_u14_22 es_mX3_isLeaf ⟨rfl, rfl, by decide, by decide⟩ ⟨Nat.zero_le _, Nat.zero_le _⟩ hP hS (es_wX_8 a cI cZ N S) rfl rfl hl.1 rfl (Nat.le_of_ble_eq_true rfl) dX3_climb_2 (fun H locs _ _ hP hS => ?_)
  refine lv_if_ne (tgt := 9) hx hb dX3_climb_5 (by decide) (fun c4 => ?_) (fun c4 => ?_)
  · replace h := es_if_t c4 h
    refine lv_iload_n hx hb dX3_climb_9 rfl (lv_at hl 1 rfl) ?_
    refine lv_istore_n (lv' := [(2, .int p1), (0, .ref (a 8)), (1, .int p1)]) hx hb dX3_climb_10 rfl hl (by decide) rfl (fun ls hl => ?_)
    refine lv_aload_n hx hb dX3_climb_11 rfl (lv_at hl 1 rfl) ?_
    refine es_get C hP (es_wX_8 a cI cZ N S2) rfl inlX3 (j := 5) (by decide) es_u13_7 rfl dX3_climb_12 ?_
    refine lv_iload_n hx hb dX3_climb_15 rfl (lv_at hl 2 rfl) ?_
    refine lv_iadd hx hb dX3_climb_16 ?_
    refine lv_iconst (v := 2) hx hb dX3_climb_17 (by decide) ?_
    refine lv_idiv hx hb dX3_climb_18 (by decide) ?_
    refine lv_topi (fun y5 ey5 => ?_)
    replace h := es_lt_e ey5 h
    refine lv_istore_n (lv' := [(3, .int y5), (2, .int p1), (0, .ref (a 8)), (1, .int p1)]) hx hb dX3_climb_19 rfl hl (by decide) rfl (fun ls hl => ?_)
    exact J20  fu p1 y5 S2 _ _ _ h hP hS (lv_sub hl [2, 1, 0] rfl)
  · replace h := es_if_f (fun q => q c4) h
    exact es_vret C hr hlk h hP hS dX3_climb_8

set_option maxHeartbeats 4000000 in
set_option maxRecDepth 100000 in
theorem c_X3_build (l : Launch) (D : va_G) (cI cZ : ClassId) (a : Nat → Nat) (N : Nat → Nat) (sz fu : Nat) (S S' : es_St) (r : Int32) (h : f_X3_build N fu S = some (r, S')) : Met l yX3_build (Cond.code yX3_build cX3_build 2 none :: wsL_law) ({ frames := 3, cells := 0, slots := 0, locals := 72 } : Room) (es_Pre [.ref (a 8)] D [(cI, .int), (cZ, .boolean)] (es_wX a cI cZ N) a 35 S sz) (es_Qv D (es_wX a cI cZ N) a 35 S' sz) 0 0 (es_AA a 35 sz) := by
  refine es_intro (Qc := es_Qv D (es_wX a cI cZ N) a 35 S') (by decide) (es_okX a cI cZ N) (Nat.le_of_ble_eq_true rfl) ?_
  intro p e s m below meth c C hr hlk hP ls hl
  have hx := C.1
  have hb := C.2.1
  have hown := C.2.2.2.1
  have hts := C.2.2.2.2.1
  have hS : va_S (es_AA a 35 s.heap.size) s.heap s.heap [] := va_S.rf
  replace hl : lv_has ls 2 [(0, .ref (a 8))] := hl
  have J25 : ∀ n : Nat, (∀ (x1 : Int32) (S : es_St) (H : Heap) (locs : List Loc) (ls : Array Slot), f_X3_build_25 N fu n x1 S = some (r, S') → va_P D vwCl ((es_wX a cI cZ N) S) H → va_S (es_AA a 35 s.heap.size) s.heap H locs → lv_has ls 2 [(0, .ref (a 8)), (1, .int x1)] → W p l e ({ frames := 3, cells := 0, slots := 0, locals := 72 } : Room) s m ([.ref (a 8)] : List Value).toArray below meth c H locs 0 0 (MQ below (es_Qv D (es_wX a cI cZ N) a 35 S' s.heap.size) ([.ref (a 8)] : List Value).toArray s 0 0 (es_AA a 35 s.heap.size)) (F0 m 25 ls [])) := by
    intro n
    induction n with
    | zero => intro x1 S H locs ls h; rw [f_X3_build_25] at h; cases h
    | succ n ih =>
      intro x1 S H locs ls h hP hS hl
      rw [f_X3_build_25] at h
      refine lv_iload_n hx hb dX3_build_25 rfl (lv_at hl 1 rfl) ?_
      refine lv_aload_n hx hb dX3_build_26 rfl (lv_at hl 0 rfl) ?_
      refine es_get C hP (es_wX_8 a cI cZ N S) rfl inlX3 (j := 5) (by decide) es_u13_7 rfl dX3_build_27 ?_
      refine lv_icmp_ge (tgt := 44) hx hb dX3_build_30 (by decide) (fun c2 => ?_) (fun c2 => ?_)
      · replace h := es_if_t c2 h
        exact es_vret C hr hlk h hP hS dX3_build_44
      · replace h := es_if_f c2 h
        refine lv_aload_n hx hb dX3_build_33 rfl (lv_at hl 0 rfl) ?_
        refine lv_iload_n hx hb dX3_build_34 rfl (lv_at hl 1 rfl) ?_
        replace h := es_bd_e h
        obtain ⟨r3, S4, g5, h⟩ := h
        refine es_callVv C (c_X3_climb l D cI cZ a N _ fu S S4 x1 r3 g5) es_u15_10 es_mX3_climb ⟨rfl, rfl, by decide, by decide⟩ ⟨Nat.zero_le _, Nat.zero_le _⟩ hP hS (es_wX_8 a cI cZ N S) rfl rfl hl.1 rfl (Nat.le_of_ble_eq_true rfl) dX3_build_35 (fun H locs _ _ hP hS => ?_)
        obtain ⟨y6, ey6⟩ : ∃ y : Int32, y = x1 + 1 := ⟨_, rfl⟩
        refine lv_iinc (v := y6) (lv' := [(1, .int y6), (0, .ref (a 8))]) hx hb dX3_build_38 hl (k := 1) rfl (by rw [ey6]; rfl) (by decide) rfl (fun ls hl => ?_)
        replace h := es_lt_e ey6 h
        refine lv_goto (tgt := 25) hx hb dX3_build_41 (by decide) ?_
        exact ih y6 S4 _ _ _ h hP hS (lv_sub hl [1, 0] rfl)
  have J2 : ∀ n : Nat, (∀ (x1 : Int32) (S : es_St) (H : Heap) (locs : List Loc) (ls : Array Slot), f_X3_build_2 N fu n x1 S = some (r, S') → va_P D vwCl ((es_wX a cI cZ N) S) H → va_S (es_AA a 35 s.heap.size) s.heap H locs → lv_has ls 2 [(0, .ref (a 8)), (1, .int x1)] → W p l e ({ frames := 3, cells := 0, slots := 0, locals := 72 } : Room) s m ([.ref (a 8)] : List Value).toArray below meth c H locs 0 0 (MQ below (es_Qv D (es_wX a cI cZ N) a 35 S' s.heap.size) ([.ref (a 8)] : List Value).toArray s 0 0 (es_AA a 35 s.heap.size)) (F0 m 2 ls [])) := by
    intro n
    induction n with
    | zero => intro x1 S H locs ls h; rw [f_X3_build_2] at h; cases h
    | succ n ih =>
      intro x1 S H locs ls h hP hS hl
      rw [f_X3_build_2] at h
      refine lv_iload_n hx hb dX3_build_2 rfl (lv_at hl 1 rfl) ?_
      refine lv_aload_n hx hb dX3_build_3 rfl (lv_at hl 0 rfl) ?_
      refine es_get C hP (es_wX_8 a cI cZ N S) rfl inlX3 (j := 5) (by decide) es_u13_7 rfl dX3_build_4 ?_
      refine lv_icmp_ge (tgt := 23) hx hb dX3_build_7 (by decide) (fun c1 => ?_) (fun c1 => ?_)
      · replace h := es_if_t c1 h
        refine lv_iconst (v := 0) hx hb dX3_build_23 (by decide) ?_
        refine lv_istore_n (lv' := [(1, .int 0), (0, .ref (a 8))]) hx hb dX3_build_24 rfl hl (by decide) rfl (fun ls hl => ?_)
        exact J25  fu 0 S _ _ _ h hP hS (lv_sub hl [1, 0] rfl)
      · replace h := es_if_f c1 h
        refine lv_aload_n hx hb dX3_build_10 rfl (lv_at hl 0 rfl) ?_
        refine es_get C hP (es_wX_8 a cI cZ N S) rfl inlX3 (j := 4) (by decide) es_u5_19 rfl dX3_build_11 ?_
        refine lv_iload_n hx hb dX3_build_14 rfl (lv_at hl 1 rfl) ?_
        refine lv_iconst (v := (-1)) hx hb dX3_build_15 (by decide) ?_
        replace h := es_ck_e h
        obtain ⟨b7, h⟩ := h
        refine es_ast C hP hS (es_wX_34 a cI cZ N S) (es_rX_34 a cI cZ N S) (t0 := 0) rfl b7 dX3_build_16 (fun S8 eS8 H locs hP hS => ?_)
        replace h := es_lt_e eS8 h
        obtain ⟨y9, ey9⟩ : ∃ y : Int32, y = x1 + 1 := ⟨_, rfl⟩
        refine lv_iinc (v := y9) (lv' := [(1, .int y9), (0, .ref (a 8))]) hx hb dX3_build_17 hl (k := 1) rfl (by rw [ey9]; rfl) (by decide) rfl (fun ls hl => ?_)
        replace h := es_lt_e ey9 h
        refine lv_goto (tgt := 2) hx hb dX3_build_20 (by decide) ?_
        exact ih y9 S8 _ _ _ h hP hS (lv_sub hl [1, 0] rfl)
  unfold f_X3_build at h
  refine lv_iconst (v := 0) hx hb dX3_build_0 (by decide) ?_
  refine lv_istore_n (lv' := [(1, .int 0), (0, .ref (a 8))]) hx hb dX3_build_1 rfl hl (by decide) rfl (fun ls hl => ?_)
  exact J2  fu 0 S _ _ _ h hP hS (lv_sub hl [1, 0] rfl)
