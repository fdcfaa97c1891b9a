set_option maxHeartbeats 4000000 in
set_option maxRecDepth 100000 in
theorem c_X0_freePages (l : Launch) (D : va_G) (cI cZ : ClassId) (a : Nat → Nat) (N : Nat → Nat) (sz fu : Nat) (S S' : es_St) (r : Int32) (h : f_X0_freePages N fu S = some (r, S')) : Met l yX0_freePages (Cond.code yX0_freePages cX0_freePages 1 (some .int) :: wsL_law) ({ frames := 0, cells := 0, slots := 0, locals := 0 } : Room) (es_Pre [.ref (a 1)] D [(cI, .int), (cZ, .boolean)] (es_wX a cI cZ N) a 35 S sz) (es_Qi D (es_wX a cI cZ N) a 35 r S' sz) 0 0 (es_AA a 35 sz) := by
  refine es_intro (Qc := es_Qi D (es_wX a cI cZ N) a 35 r S') (by decide) (es_okX a cI cZ N) (Nat.le_of_ble_eq_true rfl) ?_
  intro p e s m below meth c C hr hlk hP ls hl
  have hx := C.1
  have hb := C.2.1
  have hown := C.2.2.2.1
  have hts := C.2.2.2.2.1
  have hS : va_S (es_AA a 35 s.heap.size) s.heap s.heap [] := va_S.rf
  replace hl : lv_has ls 1 [(0, .ref (a 1))] := hl
  unfold f_X0_freePages at h
  refine lv_aload_n hx hb dX0_freePages_0 rfl (lv_at hl 0 rfl) ?_
  refine es_get C hP (es_wX_1 a cI cZ N S) rfl inlX0 (j := 8) (by decide) es_u3_18 rfl dX0_freePages_1 ?_
  exact es_iret C hr hlk h hP hS dX0_freePages_4

set_option maxHeartbeats 4000000 in
set_option maxRecDepth 100000 in
theorem c_X0_handOver (l : Launch) (D : va_G) (cI cZ : ClassId) (a : Nat → Nat) (N : Nat → Nat) (sz fu : Nat) (S S' : es_St) (p1 : Int32) (p2 : Int32) (r : Int32) (h : f_X0_handOver N fu S p1 p2 = some (r, S')) : Met l yX0_handOver (Cond.code yX0_handOver cX0_handOver 4 none :: wsL_law) ({ frames := 0, cells := 0, slots := 0, locals := 0 } : Room) (es_Pre [.ref (a 1), .int p1, .int p2] D [(cI, .int), (cZ, .boolean)] (es_wX a cI cZ N) a 35 S sz) (es_Qv D (es_wX a cI cZ N) a 35 S' sz) 0 0 (es_AA a 35 sz) := by
  refine es_intro (Qc := es_Qv D (es_wX a cI cZ N) a 35 S') (by decide) (es_okX a cI cZ N) (Nat.le_of_ble_eq_true rfl) ?_
  intro p e s m below meth c C hr hlk hP ls hl
  have hx := C.1
  have hb := C.2.1
  have hown := C.2.2.2.1
  have hts := C.2.2.2.2.1
  have hS : va_S (es_AA a 35 s.heap.size) s.heap s.heap [] := va_S.rf
  replace hl : lv_has ls 4 [(0, .ref (a 1)), (1, .int p1), (2, .int p2)] := hl
  have J2 : ∀ n : Nat, (∀ (x1 : Int32) (x2 : Int32) (x3 : Int32) (S : es_St) (H : Heap) (locs : List Loc) (ls : Array Slot), f_X0_handOver_2 N fu n x1 x2 x3 S = some (r, S') → va_P D vwCl ((es_wX a cI cZ N) S) H → va_S (es_AA a 35 s.heap.size) s.heap H locs → lv_has ls 4 [(0, .ref (a 1)), (1, .int x1), (2, .int x2), (3, .int x3)] → W p l e ({ frames := 0, cells := 0, slots := 0, locals := 0 } : Room) s m ([.ref (a 1), .int p1, .int p2] : List Value).toArray below meth c H locs 0 0 (MQ below (es_Qv D (es_wX a cI cZ N) a 35 S' s.heap.size) ([.ref (a 1), .int p1, .int p2] : List Value).toArray s 0 0 (es_AA a 35 s.heap.size)) (F0 m 2 ls [])) := by
    intro n
    induction n with
    | zero => intro x1 x2 x3 S H locs ls h; rw [f_X0_handOver_2] at h; cases h
    | succ n ih =>
      intro x1 x2 x3 S H locs ls h hP hS hl
      rw [f_X0_handOver_2] at h
      refine lv_iload_n hx hb dX0_handOver_2 rfl (lv_at hl 3 rfl) ?_
      refine lv_aload_n hx hb dX0_handOver_3 rfl (lv_at hl 0 rfl) ?_
      refine es_get C hP (es_wX_1 a cI cZ N S) rfl inlX0 (j := 5) (by decide) es_u3_15 rfl dX0_handOver_4 ?_
      refine es_len C hP (es_wX_13 a cI cZ N S) (t0 := 0) rfl dX0_handOver_7 ?_
      refine lv_icmp_ge (tgt := 34) hx hb dX0_handOver_8 (by decide) (fun c1 => ?_) (fun c1 => ?_)
      · replace h := es_if_t c1 h
        exact es_vret C hr hlk h hP hS dX0_handOver_34
      · replace h := es_if_f c1 h
        refine lv_aload_n hx hb dX0_handOver_11 rfl (lv_at hl 0 rfl) ?_
        refine es_get C hP (es_wX_1 a cI cZ N S) rfl inlX0 (j := 5) (by decide) es_u3_15 rfl dX0_handOver_12 ?_
        refine lv_iload_n hx hb dX0_handOver_15 rfl (lv_at hl 3 rfl) ?_
        replace h := es_ck_e h
        obtain ⟨b2, h⟩ := h
        refine es_ald C hP (es_wX_13 a cI cZ N S) (t0 := 0) rfl b2 dX0_handOver_16 ?_
        refine lv_topi (fun v3 ev3 => ?_)
        replace h := es_lt_e ev3 h
        refine lv_iload_n hx hb dX0_handOver_17 rfl (lv_at hl 1 rfl) ?_
        refine lv_icmp_ne (tgt := 28) hx hb dX0_handOver_18 (by decide) (fun c4 => ?_) (fun c4 => ?_)
        · replace h := es_if_t c4 h
          obtain ⟨y5, ey5⟩ : ∃ y : Int32, y = x3 + 1 := ⟨_, rfl⟩
          refine lv_iinc (v := y5) (lv' := [(3, .int y5), (0, .ref (a 1)), (1, .int x1), (2, .int x2)]) hx hb dX0_handOver_28 hl (k := 3) rfl (by rw [ey5]; rfl) (by decide) rfl (fun ls hl => ?_)
          replace h := es_lt_e ey5 h
          refine lv_goto (tgt := 2) hx hb dX0_handOver_31 (by decide) ?_
          exact ih x1 x2 y5 S _ _ _ h hP hS (lv_sub hl [1, 2, 3, 0] rfl)
        · replace h := es_if_f (fun q => q c4) h
          refine lv_aload_n hx hb dX0_handOver_21 rfl (lv_at hl 0 rfl) ?_
          refine es_get C hP (es_wX_1 a cI cZ N S) rfl inlX0 (j := 5) (by decide) es_u3_15 rfl dX0_handOver_22 ?_
          refine lv_iload_n hx hb dX0_handOver_25 rfl (lv_at hl 3 rfl) ?_
          refine lv_iload_n hx hb dX0_handOver_26 rfl (lv_at hl 2 rfl) ?_
          replace h := es_ck_e h
          obtain ⟨b6, h⟩ := h
          refine es_ast C hP hS (es_wX_13 a cI cZ N S) (es_rX_13 a cI cZ N S) (t0 := 0) rfl b6 dX0_handOver_27 (fun S7 eS7 H locs hP hS => ?_)
          replace h := es_lt_e eS7 h
          obtain ⟨y8, ey8⟩ : ∃ y : Int32, y = x3 + 1 := ⟨_, rfl⟩
          refine lv_iinc (v := y8) (lv' := [(3, .int y8), (0, .ref (a 1)), (1, .int x1), (2, .int x2)]) hx hb dX0_handOver_28 hl (k := 3) rfl (by rw [ey8]; rfl) (by decide) rfl (fun ls hl => ?_)
          replace h := es_lt_e ey8 h
          refine lv_goto (tgt := 2) hx hb dX0_handOver_31 (by decide) ?_
          exact ih x1 x2 y8 S7 _ _ _ h hP hS (lv_sub hl [1, 2, 3, 0] rfl)
  unfold f_X0_handOver at h
  refine lv_iconst (v := 0) hx hb dX0_handOver_0 (by decide) ?_
  refine lv_istore_n (lv' := [(3, .int 0), (0, .ref (a 1)), (1, .int p1), (2, .int p2)]) hx hb dX0_handOver_1 rfl hl (by decide) rfl (fun ls hl => ?_)
  exact J2  fu p1 p2 0 S _ _ _ h hP hS (lv_sub hl [1, 2, 3, 0] rfl)

set_option maxHeartbeats 4000000 in
set_option maxRecDepth 100000 in
theorem c_X0_isCell (l : Launch) (D : va_G) (cI cZ : ClassId) (a : Nat → Nat) (N : Nat → Nat) (sz fu : Nat) (S S' : es_St) (p1 : Int32) (p2 : Int32) (r : Int32) (h : f_X0_isCell N fu S p1 p2 = some (r, S')) : Met l yX0_isCell (Cond.code yX0_isCell cX0_isCell 3 (some .boolean) :: wsL_law) ({ frames := 0, cells := 0, slots := 0, locals := 0 } : Room) (es_Pre [.ref (a 1), .int p1, .int p2] D [(cI, .int), (cZ, .boolean)] (es_wX a cI cZ N) a 35 S sz) (es_Qi D (es_wX a cI cZ N) a 35 r S' sz) 0 0 (es_AA a 35 sz) := by
  refine es_intro (Qc := es_Qi D (es_wX a cI cZ N) a 35 r S') (by decide) (es_okX a cI cZ N) (Nat.le_of_ble_eq_true rfl) ?_
  intro p e s m below meth c C hr hlk hP ls hl
  have hx := C.1
  have hb := C.2.1
  have hown := C.2.2.2.1
  have hts := C.2.2.2.2.1
  have hS : va_S (es_AA a 35 s.heap.size) s.heap s.heap [] := va_S.rf
  replace hl : lv_has ls 3 [(0, .ref (a 1)), (1, .int p1), (2, .int p2)] := hl
  unfold f_X0_isCell at h
  refine lv_iload_n hx hb dX0_isCell_0 rfl (lv_at hl 1 rfl) ?_
  refine lv_if_lt (tgt := 28) hx hb dX0_isCell_1 (by decide) (fun c1 => ?_) (fun c1 => ?_)
  · replace h := es_if_t c1 h
    refine lv_iconst (v := 0) hx hb dX0_isCell_28 (by decide) ?_
    exact es_zret C hr hlk ⟨rfl, rfl⟩ h hP hS dX0_isCell_29
  · replace h := es_if_f c1 h
    refine lv_iload_n hx hb dX0_isCell_4 rfl (lv_at hl 1 rfl) ?_
    refine lv_aload_n hx hb dX0_isCell_5 rfl (lv_at hl 0 rfl) ?_
    refine es_get C hP (es_wX_1 a cI cZ N S) rfl inlX0 (j := 0) (by decide) es_u3_10 rfl dX0_isCell_6 ?_
    refine lv_icmp_ge (tgt := 28) hx hb dX0_isCell_9 (by decide) (fun c2 => ?_) (fun c2 => ?_)
    · replace h := es_if_t c2 h
      refine lv_iconst (v := 0) hx hb dX0_isCell_28 (by decide) ?_
      exact es_zret C hr hlk ⟨rfl, rfl⟩ h hP hS dX0_isCell_29
    · replace h := es_if_f c2 h
      refine lv_iload_n hx hb dX0_isCell_12 rfl (lv_at hl 2 rfl) ?_
      refine lv_if_lt (tgt := 28) hx hb dX0_isCell_13 (by decide) (fun c3 => ?_) (fun c3 => ?_)
      · replace h := es_if_t c3 h
        refine lv_iconst (v := 0) hx hb dX0_isCell_28 (by decide) ?_
        exact es_zret C hr hlk ⟨rfl, rfl⟩ h hP hS dX0_isCell_29
      · replace h := es_if_f c3 h
        refine lv_iload_n hx hb dX0_isCell_16 rfl (lv_at hl 2 rfl) ?_
        refine lv_aload_n hx hb dX0_isCell_17 rfl (lv_at hl 0 rfl) ?_
        refine es_get C hP (es_wX_1 a cI cZ N S) rfl inlX0 (j := 1) (by decide) es_u3_11 rfl dX0_isCell_18 ?_
        refine lv_icmp_ge (tgt := 28) hx hb dX0_isCell_21 (by decide) (fun c4 => ?_) (fun c4 => ?_)
        · replace h := es_if_t c4 h
          refine lv_iconst (v := 0) hx hb dX0_isCell_28 (by decide) ?_
          exact es_zret C hr hlk ⟨rfl, rfl⟩ h hP hS dX0_isCell_29
        · replace h := es_if_f c4 h
          refine lv_iconst (v := 1) hx hb dX0_isCell_24 (by decide) ?_
          refine lv_goto (tgt := 29) hx hb dX0_isCell_25 (by decide) ?_
          exact es_zret C hr hlk ⟨rfl, rfl⟩ h hP hS dX0_isCell_29

set_option maxHeartbeats 4000000 in
set_option maxRecDepth 100000 in
theorem c_X0_isPage (l : Launch) (D : va_G) (cI cZ : ClassId) (a : Nat → Nat) (N : Nat → Nat) (sz fu : Nat) (S S' : es_St) (p1 : Int32) (r : Int32) (h : f_X0_isPage N fu S p1 = some (r, S')) : Met l yX0_isPage (Cond.code yX0_isPage cX0_isPage 2 (some .boolean) :: wsL_law) ({ frames := 0, cells := 0, slots := 0, locals := 0 } : Room) (es_Pre [.ref (a 1), .int p1] D [(cI, .int), (cZ, .boolean)] (es_wX a cI cZ N) a 35 S sz) (es_Qi D (es_wX a cI cZ N) a 35 r S' sz) 0 0 (es_AA a 35 sz) := by
  refine es_intro (Qc := es_Qi D (es_wX a cI cZ N) a 35 r S') (by decide) (es_okX a cI cZ N) (Nat.le_of_ble_eq_true rfl) ?_
  intro p e s m below meth c C hr hlk hP ls hl
  have hx := C.1
  have hb := C.2.1
  have hown := C.2.2.2.1
  have hts := C.2.2.2.2.1
  have hS : va_S (es_AA a 35 s.heap.size) s.heap s.heap [] := va_S.rf
  replace hl : lv_has ls 2 [(0, .ref (a 1)), (1, .int p1)] := hl
  unfold f_X0_isPage at h
  refine lv_iload_n hx hb dX0_isPage_0 rfl (lv_at hl 1 rfl) ?_
  refine lv_if_lt (tgt := 16) hx hb dX0_isPage_1 (by decide) (fun c1 => ?_) (fun c1 => ?_)
  · replace h := es_if_t c1 h
    refine lv_iconst (v := 0) hx hb dX0_isPage_16 (by decide) ?_
    exact es_zret C hr hlk ⟨rfl, rfl⟩ h hP hS dX0_isPage_17
  · replace h := es_if_f c1 h
    refine lv_iload_n hx hb dX0_isPage_4 rfl (lv_at hl 1 rfl) ?_
    refine lv_aload_n hx hb dX0_isPage_5 rfl (lv_at hl 0 rfl) ?_
    refine es_get C hP (es_wX_1 a cI cZ N S) rfl inlX0 (j := 0) (by decide) es_u3_10 rfl dX0_isPage_6 ?_
    refine lv_icmp_ge (tgt := 16) hx hb dX0_isPage_9 (by decide) (fun c2 => ?_) (fun c2 => ?_)
    · replace h := es_if_t c2 h
      refine lv_iconst (v := 0) hx hb dX0_isPage_16 (by decide) ?_
      exact es_zret C hr hlk ⟨rfl, rfl⟩ h hP hS dX0_isPage_17
    · replace h := es_if_f c2 h
      refine lv_iconst (v := 1) hx hb dX0_isPage_12 (by decide) ?_
      refine lv_goto (tgt := 17) hx hb dX0_isPage_13 (by decide) ?_
      exact es_zret C hr hlk ⟨rfl, rfl⟩ h hP hS dX0_isPage_17

set_option maxHeartbeats 4000000 in
set_option maxRecDepth 100000 in
theorem c_X0_keyAt (l : Launch) (D : va_G) (cI cZ : ClassId) (a : Nat → Nat) (N : Nat → Nat) (sz fu : Nat) (S S' : es_St) (p1 : Int32) (p2 : Int32) (r : Int32) (h : f_X0_keyAt N fu S p1 p2 = some (r, S')) : Met l yX0_keyAt (Cond.code yX0_keyAt cX0_keyAt 3 (some .int) :: wsL_law) ({ frames := 1, cells := 0, slots := 0, locals := 22 } : Room) (es_Pre [.ref (a 1), .int p1, .int p2] D [(cI, .int), (cZ, .boolean)] (es_wX a cI cZ N) a 35 S sz) (es_Qi D (es_wX a cI cZ N) a 35 r S' sz) 0 0 (es_AA a 35 sz) := by
  refine es_intro (Qc := es_Qi D (es_wX a cI cZ N) a 35 r S') (by decide) (es_okX a cI cZ N) (Nat.le_of_ble_eq_true rfl) ?_
  intro p e s m below meth c C hr hlk hP ls hl
  have hx := C.1
  have hb := C.2.1
  have hown := C.2.2.2.1
  have hts := C.2.2.2.2.1
  have hS : va_S (es_AA a 35 s.heap.size) s.heap s.heap [] := va_S.rf
  replace hl : lv_has ls 3 [(0, .ref (a 1)), (1, .int p1), (2, .int p2)] := hl
  unfold f_X0_keyAt at h
  refine lv_aload_n hx hb dX0_keyAt_0 rfl (lv_at hl 0 rfl) ?_
  refine lv_iload_n hx hb dX0_keyAt_1 rfl (lv_at hl 1 rfl) ?_
  refine lv_iload_n hx hb dX0_keyAt_2 rfl (lv_at hl 2 rfl) ?_
  replace h := es_bd_e h
  obtain ⟨r1, S2, g3, h⟩ := h
  refine es_callVi C (c_X0_isCell l D cI cZ a N _ fu S S2 p1 p2 r1 g3) es_u9_5 es_mX0_isCell ⟨rfl, rfl, by decide, by decide⟩ ⟨Nat.zero_le _, Nat.zero_le _⟩ hP hS (es_wX_1 a cI cZ N S) rfl rfl hl.1 rfl (Nat.le_of_ble_eq_true rfl) dX0_keyAt_3 (fun H locs _ _ hP hS => ?_)
  refine lv_if_eq (tgt := 25) hx hb dX0_keyAt_6 (by decide) (fun c4 => ?_) (fun c4 => ?_)
  · replace h := es_if_t c4 h
    refine lv_iconst (v := 0) hx hb dX0_keyAt_25 (by decide) ?_
    exact es_iret C hr hlk h hP hS dX0_keyAt_26
  · replace h := es_if_f c4 h
    refine lv_aload_n hx hb dX0_keyAt_9 rfl (lv_at hl 0 rfl) ?_
    refine es_get C hP (es_wX_1 a cI cZ N S2) rfl inlX0 (j := 3) (by decide) es_u3_13 rfl dX0_keyAt_10 ?_
    refine lv_iload_n hx hb dX0_keyAt_13 rfl (lv_at hl 1 rfl) ?_
    refine lv_aload_n hx hb dX0_keyAt_14 rfl (lv_at hl 0 rfl) ?_
    refine es_get C hP (es_wX_1 a cI cZ N S2) rfl inlX0 (j := 1) (by decide) es_u3_11 rfl dX0_keyAt_15 ?_
    refine lv_imul hx hb dX0_keyAt_18 ?_
    refine lv_iload_n hx hb dX0_keyAt_19 rfl (lv_at hl 2 rfl) ?_
    refine lv_iadd hx hb dX0_keyAt_20 ?_
    replace h := es_ck_e h
    obtain ⟨b5, h⟩ := h
    refine es_ald C hP (es_wX_11 a cI cZ N S2) (t0 := 0) rfl b5 dX0_keyAt_21 ?_
    refine lv_topi (fun v6 ev6 => ?_)
    replace h := es_lt_e ev6 h
    refine lv_goto (tgt := 26) hx hb dX0_keyAt_22 (by decide) ?_
    exact es_iret C hr hlk h hP hS dX0_keyAt_26

set_option maxHeartbeats 4000000 in
set_option maxRecDepth 100000 in
theorem c_X0_link (l : Launch) (D : va_G) (cI cZ : ClassId) (a : Nat → Nat) (N : Nat → Nat) (sz fu : Nat) (S S' : es_St) (p1 : Int32) (p2 : Int32) (r : Int32) (h : f_X0_link N fu S p1 p2 = some (r, S')) : Met l yX0_link (Cond.code yX0_link cX0_link 3 none :: wsL_law) ({ frames := 1, cells := 0, slots := 0, locals := 21 } : Room) (es_Pre [.ref (a 1), .int p1, .int p2] D [(cI, .int), (cZ, .boolean)] (es_wX a cI cZ N) a 35 S sz) (es_Qv D (es_wX a cI cZ N) a 35 S' sz) 0 0 (es_AA a 35 sz) := by
  refine es_intro (Qc := es_Qv D (es_wX a cI cZ N) a 35 S') (by decide) (es_okX a cI cZ N) (Nat.le_of_ble_eq_true rfl) ?_
  intro p e s m below meth c C hr hlk hP ls hl
  have hx := C.1
  have hb := C.2.1
  have hown := C.2.2.2.1
  have hts := C.2.2.2.2.1
  have hS : va_S (es_AA a 35 s.heap.size) s.heap s.heap [] := va_S.rf
  replace hl : lv_has ls 3 [(0, .ref (a 1)), (1, .int p1), (2, .int p2)] := hl
  unfold f_X0_link at h
  refine lv_aload_n hx hb dX0_link_0 rfl (lv_at hl 0 rfl) ?_
  refine lv_iload_n hx hb dX0_link_1 rfl (lv_at hl 1 rfl) ?_
  replace h := es_bd_e h
  obtain ⟨r1, S2, g3, h⟩ := h
  refine es_callVi C (c_X0_isPage l D cI cZ a N _ fu S S2 p1 r1 g3) es_u8_9 es_mX0_isPage ⟨rfl, rfl, by decide, by decide⟩ ⟨Nat.zero_le _, Nat.zero_le _⟩ hP hS (es_wX_1 a cI cZ N S) rfl rfl hl.1 rfl (Nat.le_of_ble_eq_true rfl) dX0_link_2 (fun H locs _ _ hP hS => ?_)
  refine lv_if_eq (tgt := 15) hx hb dX0_link_5 (by decide) (fun c4 => ?_) (fun c4 => ?_)
  · replace h := es_if_t c4 h
    exact es_vret C hr hlk h hP hS dX0_link_15
  · replace h := es_if_f c4 h
    refine lv_aload_n hx hb dX0_link_8 rfl (lv_at hl 0 rfl) ?_
    refine es_get C hP (es_wX_1 a cI cZ N S2) rfl inlX0 (j := 6) (by decide) es_u3_16 rfl dX0_link_9 ?_
    refine lv_iload_n hx hb dX0_link_12 rfl (lv_at hl 1 rfl) ?_
    refine lv_iload_n hx hb dX0_link_13 rfl (lv_at hl 2 rfl) ?_
    replace h := es_ck_e h
    obtain ⟨b5, h⟩ := h
    refine es_ast C hP hS (es_wX_14 a cI cZ N S2) (es_rX_14 a cI cZ N S2) (t0 := 0) rfl b5 dX0_link_14 (fun S6 eS6 H locs hP hS => ?_)
    replace h := es_lt_e eS6 h
    exact es_vret C hr hlk h hP hS dX0_link_15

set_option maxHeartbeats 4000000 in
set_option maxRecDepth 100000 in
theorem c_X0_nextOf (l : Launch) (D : va_G) (cI cZ : ClassId) (a : Nat → Nat) (N : Nat → Nat) (sz fu : Nat) (S S' : es_St) (p1 : Int32) (r : Int32) (h : f_X0_nextOf N fu S p1 = some (r, S')) : Met l yX0_nextOf (Cond.code yX0_nextOf cX0_nextOf 2 (some .int) :: wsL_law) ({ frames := 1, cells := 0, slots := 0, locals := 21 } : Room) (es_Pre [.ref (a 1), .int p1] D [(cI, .int), (cZ, .boolean)] (es_wX a cI cZ N) a 35 S sz) (es_Qi D (es_wX a cI cZ N) a 35 r S' sz) 0 0 (es_AA a 35 sz) := by
  refine es_intro (Qc := es_Qi D (es_wX a cI cZ N) a 35 r S') (by decide) (es_okX a cI cZ N) (Nat.le_of_ble_eq_true rfl) ?_
  intro p e s m below meth c C hr hlk hP ls hl
  have hx := C.1
  have hb := C.2.1
  have hown := C.2.2.2.1
  have hts := C.2.2.2.2.1
  have hS : va_S (es_AA a 35 s.heap.size) s.heap s.heap [] := va_S.rf
  replace hl : lv_has ls 2 [(0, .ref (a 1)), (1, .int p1)] := hl
  unfold f_X0_nextOf at h
  refine lv_aload_n hx hb dX0_nextOf_0 rfl (lv_at hl 0 rfl) ?_
  refine lv_iload_n hx hb dX0_nextOf_1 rfl (lv_at hl 1 rfl) ?_
  replace h := es_bd_e h
  obtain ⟨r1, S2, g3, h⟩ := h
  refine es_callVi C (c_X0_isPage l D cI cZ a N _ fu S S2 p1 r1 g3) es_u8_9 es_mX0_isPage ⟨rfl, rfl, by decide, by decide⟩ ⟨Nat.zero_le _, Nat.zero_le _⟩ hP hS (es_wX_1 a cI cZ N S) rfl rfl hl.1 rfl (Nat.le_of_ble_eq_true rfl) dX0_nextOf_2 (fun H locs _ _ hP hS => ?_)
  refine lv_if_eq (tgt := 17) hx hb dX0_nextOf_5 (by decide) (fun c4 => ?_) (fun c4 => ?_)
  · replace h := es_if_t c4 h
    refine lv_iconst (v := (-1)) hx hb dX0_nextOf_17 (by decide) ?_
    exact es_iret C hr hlk h hP hS dX0_nextOf_18
  · replace h := es_if_f c4 h
    refine lv_aload_n hx hb dX0_nextOf_8 rfl (lv_at hl 0 rfl) ?_
    refine es_get C hP (es_wX_1 a cI cZ N S2) rfl inlX0 (j := 6) (by decide) es_u3_16 rfl dX0_nextOf_9 ?_
    refine lv_iload_n hx hb dX0_nextOf_12 rfl (lv_at hl 1 rfl) ?_
    replace h := es_ck_e h
    obtain ⟨b5, h⟩ := h
    refine es_ald C hP (es_wX_14 a cI cZ N S2) (t0 := 0) rfl b5 dX0_nextOf_13 ?_
    refine lv_topi (fun v6 ev6 => ?_)
    replace h := es_lt_e ev6 h
    refine lv_goto (tgt := 18) hx hb dX0_nextOf_14 (by decide) ?_
    exact es_iret C hr hlk h hP hS dX0_nextOf_18

set_option maxHeartbeats 4000000 in
set_option maxRecDepth 100000 in
theorem c_X0_pageOf (l : Launch) (D : va_G) (cI cZ : ClassId) (a : Nat → Nat) (N : Nat → Nat) (sz fu : Nat) (S S' : es_St) (p1 : Int32) (p2 : Int32) (r : Int32) (h : f_X0_pageOf N fu S p1 p2 = some (r, S')) : Met l yX0_pageOf (Cond.code yX0_pageOf cX0_pageOf 6 (some .int) :: wsL_law) ({ frames := 2, cells := 0, slots := 0, locals := 42 } : Room) (es_Pre [.ref (a 1), .int p1, .int p2] D [(cI, .int), (cZ, .boolean)] (es_wX a cI cZ N) a 35 S sz) (es_Qi D (es_wX a cI cZ N) a 35 r S' sz) 0 0 (es_AA a 35 sz) := by
  refine es_intro (Qc := es_Qi D (es_wX a cI cZ N) a 35 r S') (by decide) (es_okX a cI cZ N) (Nat.le_of_ble_eq_true rfl) ?_
  intro p e s m below meth c C hr hlk hP ls hl
  have hx := C.1
  have hb := C.2.1
  have hown := C.2.2.2.1
  have hts := C.2.2.2.2.1
  have hS : va_S (es_AA a 35 s.heap.size) s.heap s.heap [] := va_S.rf
  replace hl : lv_has ls 6 [(0, .ref (a 1)), (1, .int p1), (2, .int p2)] := hl
  have J29 : ∀ n : Nat, (∀ (x3 : Int32) (x4 : Int32) (x5 : Int32) (S : es_St) (H : Heap) (locs : List Loc) (ls : Array Slot), f_X0_pageOf_29 N fu n x3 x4 x5 S = some (r, S') → va_P D vwCl ((es_wX a cI cZ N) S) H → va_S (es_AA a 35 s.heap.size) s.heap H locs → lv_has ls 6 [(0, .ref (a 1)), (3, .int x3), (4, .int x4), (5, .int x5)] → W p l e ({ frames := 2, cells := 0, slots := 0, locals := 42 } : Room) s m ([.ref (a 1), .int p1, .int p2] : List Value).toArray below meth c H locs 0 0 (MQ below (es_Qi D (es_wX a cI cZ N) a 35 r S' s.heap.size) ([.ref (a 1), .int p1, .int p2] : List Value).toArray s 0 0 (es_AA a 35 s.heap.size)) (F0 m 29 ls [])) := by
    intro n
    induction n with
    | zero => intro x3 x4 x5 S H locs ls h; rw [f_X0_pageOf_29] at h; cases h
    | succ n ih =>
      intro x3 x4 x5 S H locs ls h hP hS hl
      rw [f_X0_pageOf_29] at h
      refine lv_iload hx hb dX0_pageOf_29 (lv_at hl 3 rfl) ?_
      refine lv_iload_n hx hb dX0_pageOf_31 rfl (lv_at hl 1 rfl) ?_
      refine lv_icmp_ge (tgt := 49) hx hb dX0_pageOf_32 (by decide) (fun c2 => ?_) (fun c2 => ?_)
      · replace h := es_if_t c2 h
        refine lv_iload hx hb dX0_pageOf_49 (lv_at hl 2 rfl) ?_
        exact es_iret C hr hlk h hP hS dX0_pageOf_51
      · replace h := es_if_f c2 h
        refine lv_aload_n hx hb dX0_pageOf_35 rfl (lv_at hl 0 rfl) ?_
        refine lv_iload hx hb dX0_pageOf_36 (lv_at hl 2 rfl) ?_
        replace h := es_bd_e h
        obtain ⟨r3, S4, g5, h⟩ := h
        refine es_callVi C (c_X0_nextOf l D cI cZ a N _ fu S S4 x4 r3 g5) es_u8_17 es_mX0_nextOf ⟨rfl, rfl, by decide, by decide⟩ ⟨Nat.zero_le _, Nat.zero_le _⟩ hP hS (es_wX_1 a cI cZ N S) rfl rfl hl.1 rfl (Nat.le_of_ble_eq_true rfl) dX0_pageOf_38 (fun H locs _ _ hP hS => ?_)
        refine lv_istore (lv' := [(4, .int r3), (0, .ref (a 1)), (3, .int x3), (5, .int x5)]) hx hb dX0_pageOf_41 hl (by decide) rfl (fun ls hl => ?_)
        obtain ⟨y6, ey6⟩ : ∃ y : Int32, y = x5 + 1 := ⟨_, rfl⟩
        refine lv_iinc (v := y6) (lv' := [(5, .int y6), (4, .int r3), (0, .ref (a 1)), (3, .int x3)]) hx hb dX0_pageOf_43 hl (k := 3) rfl (by rw [ey6]; rfl) (by decide) rfl (fun ls hl => ?_)
        replace h := es_lt_e ey6 h
        refine lv_goto (tgt := 29) hx hb dX0_pageOf_46 (by decide) ?_
        exact ih x3 r3 y6 S4 _ _ _ h hP hS (lv_sub hl [2, 3, 1, 0] rfl)
  unfold f_X0_pageOf at h
  refine lv_aload_n hx hb dX0_pageOf_0 rfl (lv_at hl 0 rfl) ?_
  refine es_get C hP (es_wX_1 a cI cZ N S) rfl inlX0 (j := 1) (by decide) es_u3_11 rfl dX0_pageOf_1 ?_
  refine lv_iconst (v := 1) hx hb dX0_pageOf_4 (by decide) ?_
  refine lv_icmp_lt (tgt := 12) hx hb dX0_pageOf_5 (by decide) (fun c1 => ?_) (fun c1 => ?_)
  · replace h := es_if_t c1 h
    refine lv_iconst (v := 0) hx hb dX0_pageOf_12 (by decide) ?_
    refine lv_goto (tgt := 22) hx hb dX0_pageOf_13 (by decide) ?_
    refine lv_istore_n (lv' := [(3, .int 0), (0, .ref (a 1)), (1, .int p1), (2, .int p2)]) hx hb dX0_pageOf_22 rfl hl (by decide) rfl (fun ls hl => ?_)
    refine lv_iload_n hx hb dX0_pageOf_23 rfl (lv_at hl 2 rfl) ?_
    refine lv_istore (lv' := [(4, .int p1), (3, .int 0), (0, .ref (a 1)), (1, .int p1), (2, .int p2)]) hx hb dX0_pageOf_24 hl (by decide) rfl (fun ls hl => ?_)
    refine lv_iconst (v := 0) hx hb dX0_pageOf_26 (by decide) ?_
    refine lv_istore (lv' := [(5, .int 0), (4, .int p1), (3, .int 0), (0, .ref (a 1)), (1, .int p1), (2, .int p2)]) hx hb dX0_pageOf_27 hl (by decide) rfl (fun ls hl => ?_)
    exact J29  fu 0 p1 0 S _ _ _ h hP hS (lv_sub hl [3, 2, 1, 0] rfl)
  · replace h := es_if_f c1 h
    refine lv_iload_n hx hb dX0_pageOf_8 rfl (lv_at hl 2 rfl) ?_
    refine lv_if_ge (tgt := 16) hx hb dX0_pageOf_9 (by decide) (fun c7 => ?_) (fun c7 => ?_)
    · replace h := es_if_t c7 h
      refine lv_iload_n hx hb dX0_pageOf_16 rfl (lv_at hl 2 rfl) ?_
      refine lv_aload_n hx hb dX0_pageOf_17 rfl (lv_at hl 0 rfl) ?_
      refine es_get C hP (es_wX_1 a cI cZ N S) rfl inlX0 (j := 1) (by decide) es_u3_11 rfl dX0_pageOf_18 ?_
      replace h := es_ck_e h
      obtain ⟨b8, h⟩ := h
      refine lv_idiv hx hb dX0_pageOf_21 b8 ?_
      refine lv_topi (fun y9 ey9 => ?_)
      replace h := es_lt_e ey9 h
      refine lv_istore_n (lv' := [(3, .int y9), (0, .ref (a 1)), (1, .int p1), (2, .int p2)]) hx hb dX0_pageOf_22 rfl hl (by decide) rfl (fun ls hl => ?_)
      refine lv_iload_n hx hb dX0_pageOf_23 rfl (lv_at hl 2 rfl) ?_
      refine lv_istore (lv' := [(4, .int p1), (3, .int y9), (0, .ref (a 1)), (1, .int p1), (2, .int p2)]) hx hb dX0_pageOf_24 hl (by decide) rfl (fun ls hl => ?_)
      refine lv_iconst (v := 0) hx hb dX0_pageOf_26 (by decide) ?_
      refine lv_istore (lv' := [(5, .int 0), (4, .int p1), (3, .int y9), (0, .ref (a 1)), (1, .int p1), (2, .int p2)]) hx hb dX0_pageOf_27 hl (by decide) rfl (fun ls hl => ?_)
      exact J29  fu y9 p1 0 S _ _ _ h hP hS (lv_sub hl [3, 2, 1, 0] rfl)
    · replace h := es_if_f c7 h
      refine lv_iconst (v := 0) hx hb dX0_pageOf_12 (by decide) ?_
      refine lv_goto (tgt := 22) hx hb dX0_pageOf_13 (by decide) ?_
      refine lv_istore_n (lv' := [(3, .int 0), (0, .ref (a 1)), (1, .int p1), (2, .int p2)]) hx hb dX0_pageOf_22 rfl hl (by decide) rfl (fun ls hl => ?_)
      refine lv_iload_n hx hb dX0_pageOf_23 rfl (lv_at hl 2 rfl) ?_
      refine lv_istore (lv' := [(4, .int p1), (3, .int 0), (0, .ref (a 1)), (1, .int p1), (2, .int p2)]) hx hb dX0_pageOf_24 hl (by decide) rfl (fun ls hl => ?_)
      refine lv_iconst (v := 0) hx hb dX0_pageOf_26 (by decide) ?_
      refine lv_istore (lv' := [(5, .int 0), (4, .int p1), (3, .int 0), (0, .ref (a 1)), (1, .int p1), (2, .int p2)]) hx hb dX0_pageOf_27 hl (by decide) rfl (fun ls hl => ?_)
      exact J29  fu 0 p1 0 S _ _ _ h hP hS (lv_sub hl [3, 2, 1, 0] rfl)

set_option maxHeartbeats 4000000 in
set_option maxRecDepth 100000 in
theorem c_X0_pagesFor (l : Launch) (D : va_G) (cI cZ : ClassId) (a : Nat → Nat) (N : Nat → Nat) (sz fu : Nat) (S S' : es_St) (p1 : Int32) (r : Int32) (h : f_X0_pagesFor N fu S p1 = some (r, S')) : Met l yX0_pagesFor (Cond.code yX0_pagesFor cX0_pagesFor 2 (some .int) :: wsL_law) ({ frames := 0, cells := 0, slots := 0, locals := 0 } : Room) (es_Pre [.ref (a 1), .int p1] D [(cI, .int), (cZ, .boolean)] (es_wX a cI cZ N) a 35 S sz) (es_Qi D (es_wX a cI cZ N) a 35 r S' sz) 0 0 (es_AA a 35 sz) := by
  refine es_intro (Qc := es_Qi D (es_wX a cI cZ N) a 35 r S') (by decide) (es_okX a cI cZ N) (Nat.le_of_ble_eq_true rfl) ?_
  intro p e s m below meth c C hr hlk hP ls hl
  have hx := C.1
  have hb := C.2.1
  have hown := C.2.2.2.1
  have hts := C.2.2.2.2.1
  have hS : va_S (es_AA a 35 s.heap.size) s.heap s.heap [] := va_S.rf
  replace hl : lv_has ls 2 [(0, .ref (a 1)), (1, .int p1)] := hl
  unfold f_X0_pagesFor at h
  refine lv_aload_n hx hb dX0_pagesFor_0 rfl (lv_at hl 0 rfl) ?_
  refine es_get C hP (es_wX_1 a cI cZ N S) rfl inlX0 (j := 1) (by decide) es_u3_11 rfl dX0_pagesFor_1 ?_
  refine lv_iconst (v := 1) hx hb dX0_pagesFor_4 (by decide) ?_
  refine lv_icmp_lt (tgt := 13) hx hb dX0_pagesFor_5 (by decide) (fun c1 => ?_) (fun c1 => ?_)
  · replace h := es_if_t c1 h
    refine lv_iconst (v := 0) hx hb dX0_pagesFor_13 (by decide) ?_
    refine lv_goto (tgt := 27) hx hb dX0_pagesFor_14 (by decide) ?_
    exact es_iret C hr hlk h hP hS dX0_pagesFor_27
  · replace h := es_if_f c1 h
    refine lv_iload_n hx hb dX0_pagesFor_8 rfl (lv_at hl 1 rfl) ?_
    refine lv_iconst (v := 1) hx hb dX0_pagesFor_9 (by decide) ?_
    refine lv_icmp_ge (tgt := 17) hx hb dX0_pagesFor_10 (by decide) (fun c2 => ?_) (fun c2 => ?_)
    · replace h := es_if_t c2 h
      refine lv_iload_n hx hb dX0_pagesFor_17 rfl (lv_at hl 1 rfl) ?_
      refine lv_iconst (v := 1) hx hb dX0_pagesFor_18 (by decide) ?_
      refine lv_isub hx hb dX0_pagesFor_19 ?_
      refine lv_aload_n hx hb dX0_pagesFor_20 rfl (lv_at hl 0 rfl) ?_
      refine es_get C hP (es_wX_1 a cI cZ N S) rfl inlX0 (j := 1) (by decide) es_u3_11 rfl dX0_pagesFor_21 ?_
      replace h := es_ck_e h
      obtain ⟨b3, h⟩ := h
      refine lv_idiv hx hb dX0_pagesFor_24 b3 ?_
      refine lv_iconst (v := 1) hx hb dX0_pagesFor_25 (by decide) ?_
      refine lv_iadd hx hb dX0_pagesFor_26 ?_
      exact es_iret C hr hlk h hP hS dX0_pagesFor_27
    · replace h := es_if_f c2 h
      refine lv_iconst (v := 0) hx hb dX0_pagesFor_13 (by decide) ?_
      refine lv_goto (tgt := 27) hx hb dX0_pagesFor_14 (by decide) ?_
      exact es_iret C hr hlk h hP hS dX0_pagesFor_27

set_option maxHeartbeats 4000000 in
set_option maxRecDepth 100000 in
theorem c_X0_release (l : Launch) (D : va_G) (cI cZ : ClassId) (a : Nat → Nat) (N : Nat → Nat) (sz fu : Nat) (S S' : es_St) (p1 : Int32) (r : Int32) (h : f_X0_release N fu S p1 = some (r, S')) : Met l yX0_release (Cond.code yX0_release cX0_release 2 none :: wsL_law) ({ frames := 1, cells := 0, slots := 0, locals := 21 } : Room) (es_Pre [.ref (a 1), .int p1] D [(cI, .int), (cZ, .boolean)] (es_wX a cI cZ N) a 35 S sz) (es_Qv D (es_wX a cI cZ N) a 35 S' sz) 0 0 (es_AA a 35 sz) := by
  refine es_intro (Qc := es_Qv D (es_wX a cI cZ N) a 35 S') (by decide) (es_okX a cI cZ N) (Nat.le_of_ble_eq_true rfl) ?_
  intro p e s m below meth c C hr hlk hP ls hl
  have hx := C.1
  have hb := C.2.1
  have hown := C.2.2.2.1
  have hts := C.2.2.2.2.1
  have hS : va_S (es_AA a 35 s.heap.size) s.heap s.heap [] := va_S.rf
  replace hl : lv_has ls 2 [(0, .ref (a 1)), (1, .int p1)] := hl
  unfold f_X0_release at h
  refine lv_aload_n hx hb dX0_release_0 rfl (lv_at hl 0 rfl) ?_
  refine lv_iload_n hx hb dX0_release_1 rfl (lv_at hl 1 rfl) ?_
  replace h := es_bd_e h
  obtain ⟨r1, S2, g3, h⟩ := h
  refine es_callVi C (c_X0_isPage l D cI cZ a N _ fu S S2 p1 r1 g3) es_u8_9 es_mX0_isPage ⟨rfl, rfl, by decide, by decide⟩ ⟨Nat.zero_le _, Nat.zero_le _⟩ hP hS (es_wX_1 a cI cZ N S) rfl rfl hl.1 rfl (Nat.le_of_ble_eq_true rfl) dX0_release_2 (fun H locs _ _ hP hS => ?_)
  refine lv_if_eq (tgt := 64) hx hb dX0_release_5 (by decide) (fun c4 => ?_) (fun c4 => ?_)
  · replace h := es_if_t c4 h
    exact es_vret C hr hlk h hP hS dX0_release_64
  · replace h := es_if_f c4 h
    refine lv_aload_n hx hb dX0_release_8 rfl (lv_at hl 0 rfl) ?_
    refine es_get C hP (es_wX_1 a cI cZ N S2) rfl inlX0 (j := 5) (by decide) es_u3_15 rfl dX0_release_9 ?_
    refine lv_iload_n hx hb dX0_release_12 rfl (lv_at hl 1 rfl) ?_
    replace h := es_ck_e h
    obtain ⟨b5, h⟩ := h
    refine es_ald C hP (es_wX_13 a cI cZ N S2) (t0 := 0) rfl b5 dX0_release_13 ?_
    refine lv_topi (fun v6 ev6 => ?_)
    replace h := es_lt_e ev6 h
    refine lv_iconst (v := (-1)) hx hb dX0_release_14 (by decide) ?_
    refine lv_icmp_eq (tgt := 64) hx hb dX0_release_15 (by decide) (fun c7 => ?_) (fun c7 => ?_)
    · replace h := es_if_t c7 h
      exact es_vret C hr hlk h hP hS dX0_release_64
    · replace h := es_if_f c7 h
      refine lv_aload_n hx hb dX0_release_18 rfl (lv_at hl 0 rfl) ?_
      refine es_get C hP (es_wX_1 a cI cZ N S2) rfl inlX0 (j := 8) (by decide) es_u3_18 rfl dX0_release_19 ?_
      refine lv_if_lt (tgt := 64) hx hb dX0_release_22 (by decide) (fun c8 => ?_) (fun c8 => ?_)
      · replace h := es_if_t c8 h
        exact es_vret C hr hlk h hP hS dX0_release_64
      · replace h := es_if_f c8 h
        refine lv_aload_n hx hb dX0_release_25 rfl (lv_at hl 0 rfl) ?_
        refine es_get C hP (es_wX_1 a cI cZ N S2) rfl inlX0 (j := 8) (by decide) es_u3_18 rfl dX0_release_26 ?_
        refine lv_aload_n hx hb dX0_release_29 rfl (lv_at hl 0 rfl) ?_
        refine es_get C hP (es_wX_1 a cI cZ N S2) rfl inlX0 (j := 7) (by decide) es_u3_17 rfl dX0_release_30 ?_
        refine es_len C hP (es_wX_15 a cI cZ N S2) (t0 := 0) rfl dX0_release_33 ?_
        refine lv_icmp_ge (tgt := 64) hx hb dX0_release_34 (by decide) (fun c9 => ?_) (fun c9 => ?_)
        · replace h := es_if_t c9 h
          exact es_vret C hr hlk h hP hS dX0_release_64
        · replace h := es_if_f c9 h
          refine lv_aload_n hx hb dX0_release_37 rfl (lv_at hl 0 rfl) ?_
          refine es_get C hP (es_wX_1 a cI cZ N S2) rfl inlX0 (j := 5) (by decide) es_u3_15 rfl dX0_release_38 ?_
          refine lv_iload_n hx hb dX0_release_41 rfl (lv_at hl 1 rfl) ?_
          refine lv_iconst (v := (-1)) hx hb dX0_release_42 (by decide) ?_
          replace h := es_ck_e h
          obtain ⟨b10, h⟩ := h
          refine es_ast C hP hS (es_wX_13 a cI cZ N S2) (es_rX_13 a cI cZ N S2) (t0 := 0) rfl b10 dX0_release_43 (fun S11 eS11 H locs hP hS => ?_)
          replace h := es_lt_e eS11 h
          refine lv_aload_n hx hb dX0_release_44 rfl (lv_at hl 0 rfl) ?_
          refine es_get C hP (es_wX_1 a cI cZ N S11) rfl inlX0 (j := 7) (by decide) es_u3_17 rfl dX0_release_45 ?_
          refine lv_aload_n hx hb dX0_release_48 rfl (lv_at hl 0 rfl) ?_
          refine es_get C hP (es_wX_1 a cI cZ N S11) rfl inlX0 (j := 8) (by decide) es_u3_18 rfl dX0_release_49 ?_
          refine lv_iload_n hx hb dX0_release_52 rfl (lv_at hl 1 rfl) ?_
          replace h := es_ck_e h
          obtain ⟨b12, h⟩ := h
          refine es_ast C hP hS (es_wX_15 a cI cZ N S11) (es_rX_15 a cI cZ N S11) (t0 := 0) rfl b12 dX0_release_53 (fun S13 eS13 H locs hP hS => ?_)
          replace h := es_lt_e eS13 h
          refine lv_aload_n hx hb dX0_release_54 rfl (lv_at hl 0 rfl) ?_
          refine lv_dup hx hb dX0_release_55 rfl ?_
          refine es_get C hP (es_wX_1 a cI cZ N S13) rfl inlX0 (j := 8) (by decide) es_u3_18 rfl dX0_release_56 ?_
          refine lv_iconst (v := 1) hx hb dX0_release_59 (by decide) ?_
          refine lv_iadd hx hb dX0_release_60 ?_
          refine lv_topi (fun v14 ev14 => ?_)
          replace h := es_lt_e ev14 h
          refine es_put C hP hS (es_wX_1 a cI cZ N S13) rfl inlX0 tyX0_ok nmX0 (j := 8) (by decide) es_u3_18 rfl (tyX0_ok 8 (by decide)) rfl rfl (by simp) (es_sX_2 a cI cZ N S13 v14) dX0_release_61 (fun S15 eS15 H locs hP hS => ?_)
          replace h := es_lt_e eS15 h
          exact es_vret C hr hlk h hP hS dX0_release_64

set_option maxHeartbeats 4000000 in
set_option maxRecDepth 100000 in
theorem c_X0_releaseAll (l : Launch) (D : va_G) (cI cZ : ClassId) (a : Nat → Nat) (N : Nat → Nat) (sz fu : Nat) (S S' : es_St) (p1 : Int32) (r : Int32) (h : f_X0_releaseAll N fu S p1 = some (r, S')) : Met l yX0_releaseAll (Cond.code yX0_releaseAll cX0_releaseAll 4 (some .int) :: wsL_law) ({ frames := 2, cells := 0, slots := 0, locals := 42 } : Room) (es_Pre [.ref (a 1), .int p1] D [(cI, .int), (cZ, .boolean)] (es_wX a cI cZ N) a 35 S sz) (es_Qi D (es_wX a cI cZ N) a 35 r S' sz) 0 0 (es_AA a 35 sz) := by
  refine es_intro (Qc := es_Qi D (es_wX a cI cZ N) a 35 r S') (by decide) (es_okX a cI cZ N) (Nat.le_of_ble_eq_true rfl) ?_
  intro p e s m below meth c C hr hlk hP ls hl
  have hx := C.1
  have hb := C.2.1
  have hown := C.2.2.2.1
  have hts := C.2.2.2.2.1
  have hS : va_S (es_AA a 35 s.heap.size) s.heap s.heap [] := va_S.rf
  replace hl : lv_has ls 4 [(0, .ref (a 1)), (1, .int p1)] := hl
  have J7 : ∀ n : Nat, (∀ (x1 : Int32) (x2 : Int32) (x3 : Int32) (S : es_St) (H : Heap) (locs : List Loc) (ls : Array Slot), f_X0_releaseAll_7 N fu n x1 x2 x3 S = some (r, S') → va_P D vwCl ((es_wX a cI cZ N) S) H → va_S (es_AA a 35 s.heap.size) s.heap H locs → lv_has ls 4 [(0, .ref (a 1)), (1, .int x1), (2, .int x2), (3, .int x3)] → W p l e ({ frames := 2, cells := 0, slots := 0, locals := 42 } : Room) s m ([.ref (a 1), .int p1] : List Value).toArray below meth c H locs 0 0 (MQ below (es_Qi D (es_wX a cI cZ N) a 35 r S' s.heap.size) ([.ref (a 1), .int p1] : List Value).toArray s 0 0 (es_AA a 35 s.heap.size)) (F0 m 7 ls [])) := by
    intro n
    induction n with
    | zero => intro x1 x2 x3 S H locs ls h; rw [f_X0_releaseAll_7] at h; cases h
    | succ n ih =>
      intro x1 x2 x3 S H locs ls h hP hS hl
      rw [f_X0_releaseAll_7] at h
      refine lv_iload_n hx hb dX0_releaseAll_7 rfl (lv_at hl 3 rfl) ?_
      refine lv_aload_n hx hb dX0_releaseAll_8 rfl (lv_at hl 0 rfl) ?_
      refine es_get C hP (es_wX_1 a cI cZ N S) rfl inlX0 (j := 5) (by decide) es_u3_15 rfl dX0_releaseAll_9 ?_
      refine es_len C hP (es_wX_13 a cI cZ N S) (t0 := 0) rfl dX0_releaseAll_12 ?_
      refine lv_icmp_ge (tgt := 37) hx hb dX0_releaseAll_13 (by decide) (fun c1 => ?_) (fun c1 => ?_)
      · replace h := es_if_t c1 h
        refine lv_aload_n hx hb dX0_releaseAll_37 rfl (lv_at hl 0 rfl) ?_
        refine es_get C hP (es_wX_1 a cI cZ N S) rfl inlX0 (j := 8) (by decide) es_u3_18 rfl dX0_releaseAll_38 ?_
        refine lv_iload_n hx hb dX0_releaseAll_41 rfl (lv_at hl 2 rfl) ?_
        refine lv_isub hx hb dX0_releaseAll_42 ?_
        exact es_iret C hr hlk h hP hS dX0_releaseAll_43
      · replace h := es_if_f c1 h
        refine lv_aload_n hx hb dX0_releaseAll_16 rfl (lv_at hl 0 rfl) ?_
        refine es_get C hP (es_wX_1 a cI cZ N S) rfl inlX0 (j := 5) (by decide) es_u3_15 rfl dX0_releaseAll_17 ?_
        refine lv_iload_n hx hb dX0_releaseAll_20 rfl (lv_at hl 3 rfl) ?_
        replace h := es_ck_e h
        obtain ⟨b2, h⟩ := h
        refine es_ald C hP (es_wX_13 a cI cZ N S) (t0 := 0) rfl b2 dX0_releaseAll_21 ?_
        refine lv_topi (fun v3 ev3 => ?_)
        replace h := es_lt_e ev3 h
        refine lv_iload_n hx hb dX0_releaseAll_22 rfl (lv_at hl 1 rfl) ?_
        refine lv_icmp_ne (tgt := 31) hx hb dX0_releaseAll_23 (by decide) (fun c4 => ?_) (fun c4 => ?_)
        · replace h := es_if_t c4 h
          obtain ⟨y5, ey5⟩ : ∃ y : Int32, y = x3 + 1 := ⟨_, rfl⟩
          refine lv_iinc (v := y5) (lv' := [(3, .int y5), (0, .ref (a 1)), (1, .int x1), (2, .int x2)]) hx hb dX0_releaseAll_31 hl (k := 3) rfl (by rw [ey5]; rfl) (by decide) rfl (fun ls hl => ?_)
          replace h := es_lt_e ey5 h
          refine lv_goto (tgt := 7) hx hb dX0_releaseAll_34 (by decide) ?_
          exact ih x1 x2 y5 S _ _ _ h hP hS (lv_sub hl [1, 2, 3, 0] rfl)
        · replace h := es_if_f (fun q => q c4) h
          refine lv_aload_n hx hb dX0_releaseAll_26 rfl (lv_at hl 0 rfl) ?_
          refine lv_iload_n hx hb dX0_releaseAll_27 rfl (lv_at hl 3 rfl) ?_
          replace h := es_bd_e h
          obtain ⟨r6, S7, g8, h⟩ := h
          refine es_callVv C (c_X0_release l D cI cZ a N _ fu S S7 x3 r6 g8) es_u10_4 es_mX0_release ⟨rfl, rfl, by decide, by decide⟩ ⟨Nat.zero_le _, Nat.zero_le _⟩ hP hS (es_wX_1 a cI cZ N S) rfl rfl hl.1 rfl (Nat.le_of_ble_eq_true rfl) dX0_releaseAll_28 (fun H locs _ _ hP hS => ?_)
          obtain ⟨y9, ey9⟩ : ∃ y : Int32, y = x3 + 1 := ⟨_, rfl⟩
          refine lv_iinc (v := y9) (lv' := [(3, .int y9), (0, .ref (a 1)), (1, .int x1), (2, .int x2)]) hx hb dX0_releaseAll_31 hl (k := 3) rfl (by rw [ey9]; rfl) (by decide) rfl (fun ls hl => ?_)
          replace h := es_lt_e ey9 h
          refine lv_goto (tgt := 7) hx hb dX0_releaseAll_34 (by decide) ?_
          exact ih x1 x2 y9 S7 _ _ _ h hP hS (lv_sub hl [1, 2, 3, 0] rfl)
  unfold f_X0_releaseAll at h
  refine lv_aload_n hx hb dX0_releaseAll_0 rfl (lv_at hl 0 rfl) ?_
  refine es_get C hP (es_wX_1 a cI cZ N S) rfl inlX0 (j := 8) (by decide) es_u3_18 rfl dX0_releaseAll_1 ?_
  refine lv_istore_n (lv' := [(2, .int (S.1 2)), (0, .ref (a 1)), (1, .int p1)]) hx hb dX0_releaseAll_4 rfl hl (by decide) rfl (fun ls hl => ?_)
  refine lv_iconst (v := 0) hx hb dX0_releaseAll_5 (by decide) ?_
  refine lv_istore_n (lv' := [(3, .int 0), (2, .int (S.1 2)), (0, .ref (a 1)), (1, .int p1)]) hx hb dX0_releaseAll_6 rfl hl (by decide) rfl (fun ls hl => ?_)
  exact J7  fu p1 (S.1 2) 0 S _ _ _ h hP hS (lv_sub hl [2, 3, 1, 0] rfl)

set_option maxHeartbeats 4000000 in
set_option maxRecDepth 100000 in
theorem c_X0_slotOf (l : Launch) (D : va_G) (cI cZ : ClassId) (a : Nat → Nat) (N : Nat → Nat) (sz fu : Nat) (S S' : es_St) (p1 : Int32) (r : Int32) (h : f_X0_slotOf N fu S p1 = some (r, S')) : Met l yX0_slotOf (Cond.code yX0_slotOf cX0_slotOf 2 (some .int) :: wsL_law) ({ frames := 0, cells := 0, slots := 0, locals := 0 } : Room) (es_Pre [.ref (a 1), .int p1] D [(cI, .int), (cZ, .boolean)] (es_wX a cI cZ N) a 35 S sz) (es_Qi D (es_wX a cI cZ N) a 35 r S' sz) 0 0 (es_AA a 35 sz) := by
  refine es_intro (Qc := es_Qi D (es_wX a cI cZ N) a 35 r S') (by decide) (es_okX a cI cZ N) (Nat.le_of_ble_eq_true rfl) ?_
  intro p e s m below meth c C hr hlk hP ls hl
  have hx := C.1
  have hb := C.2.1
  have hown := C.2.2.2.1
  have hts := C.2.2.2.2.1
  have hS : va_S (es_AA a 35 s.heap.size) s.heap s.heap [] := va_S.rf
  replace hl : lv_has ls 2 [(0, .ref (a 1)), (1, .int p1)] := hl
  unfold f_X0_slotOf at h
  refine lv_aload_n hx hb dX0_slotOf_0 rfl (lv_at hl 0 rfl) ?_
  refine es_get C hP (es_wX_1 a cI cZ N S) rfl inlX0 (j := 1) (by decide) es_u3_11 rfl dX0_slotOf_1 ?_
  refine lv_iconst (v := 1) hx hb dX0_slotOf_4 (by decide) ?_
  refine lv_icmp_lt (tgt := 12) hx hb dX0_slotOf_5 (by decide) (fun c1 => ?_) (fun c1 => ?_)
  · replace h := es_if_t c1 h
    refine lv_iconst (v := 0) hx hb dX0_slotOf_12 (by decide) ?_
    refine lv_goto (tgt := 22) hx hb dX0_slotOf_13 (by decide) ?_
    exact es_iret C hr hlk h hP hS dX0_slotOf_22
  · replace h := es_if_f c1 h
    refine lv_iload_n hx hb dX0_slotOf_8 rfl (lv_at hl 1 rfl) ?_
    refine lv_if_ge (tgt := 16) hx hb dX0_slotOf_9 (by decide) (fun c2 => ?_) (fun c2 => ?_)
    · replace h := es_if_t c2 h
      refine lv_iload_n hx hb dX0_slotOf_16 rfl (lv_at hl 1 rfl) ?_
      refine lv_aload_n hx hb dX0_slotOf_17 rfl (lv_at hl 0 rfl) ?_
      refine es_get C hP (es_wX_1 a cI cZ N S) rfl inlX0 (j := 1) (by decide) es_u3_11 rfl dX0_slotOf_18 ?_
      replace h := es_ck_e h
      obtain ⟨b3, h⟩ := h
      refine lv_irem hx hb dX0_slotOf_21 b3 ?_
      exact es_iret C hr hlk h hP hS dX0_slotOf_22
    · replace h := es_if_f c2 h
      refine lv_iconst (v := 0) hx hb dX0_slotOf_12 (by decide) ?_
      refine lv_goto (tgt := 22) hx hb dX0_slotOf_13 (by decide) ?_
      exact es_iret C hr hlk h hP hS dX0_slotOf_22

set_option maxHeartbeats 4000000 in
set_option maxRecDepth 100000 in
theorem c_X0_store (l : Launch) (D : va_G) (cI cZ : ClassId) (a : Nat → Nat) (N : Nat → Nat) (sz fu : Nat) (S S' : es_St) (p1 : Int32) (p2 : Int32) (p3 : Int32) (p4 : Int32) (r : Int32) (h : f_X0_store N fu S p1 p2 p3 p4 = some (r, S')) : Met l yX0_store (Cond.code yX0_store cX0_store 5 none :: wsL_law) ({ frames := 1, cells := 0, slots := 0, locals := 22 } : Room) (es_Pre [.ref (a 1), .int p1, .int p2, .int p3, .int p4] D [(cI, .int), (cZ, .boolean)] (es_wX a cI cZ N) a 35 S sz) (es_Qv D (es_wX a cI cZ N) a 35 S' sz) 0 0 (es_AA a 35 sz) := by
  refine es_intro (Qc := es_Qv D (es_wX a cI cZ N) a 35 S') (by decide) (es_okX a cI cZ N) (Nat.le_of_ble_eq_true rfl) ?_
  intro p e s m below meth c C hr hlk hP ls hl
  have hx := C.1
  have hb := C.2.1
  have hown := C.2.2.2.1
  have hts := C.2.2.2.2.1
  have hS : va_S (es_AA a 35 s.heap.size) s.heap s.heap [] := va_S.rf
  replace hl : lv_has ls 5 [(0, .ref (a 1)), (1, .int p1), (2, .int p2), (3, .int p3), (4, .int p4)] := hl
  unfold f_X0_store at h
  refine lv_aload_n hx hb dX0_store_0 rfl (lv_at hl 0 rfl) ?_
  refine lv_iload_n hx hb dX0_store_1 rfl (lv_at hl 1 rfl) ?_
  refine lv_iload_n hx hb dX0_store_2 rfl (lv_at hl 2 rfl) ?_
  replace h := es_bd_e h
  obtain ⟨r1, S2, g3, h⟩ := h
  refine es_callVi C (c_X0_isCell l D cI cZ a N _ fu S S2 p1 p2 r1 g3) es_u9_5 es_mX0_isCell ⟨rfl, rfl, by decide, by decide⟩ ⟨Nat.zero_le _, Nat.zero_le _⟩ hP hS (es_wX_1 a cI cZ N S) rfl rfl hl.1 rfl (Nat.le_of_ble_eq_true rfl) dX0_store_3 (fun H locs _ _ hP hS => ?_)
  refine lv_if_eq (tgt := 38) hx hb dX0_store_6 (by decide) (fun c4 => ?_) (fun c4 => ?_)
  · replace h := es_if_t c4 h
    exact es_vret C hr hlk h hP hS dX0_store_38
  · replace h := es_if_f c4 h
    refine lv_aload_n hx hb dX0_store_9 rfl (lv_at hl 0 rfl) ?_
    refine es_get C hP (es_wX_1 a cI cZ N S2) rfl inlX0 (j := 3) (by decide) es_u3_13 rfl dX0_store_10 ?_
    refine lv_iload_n hx hb dX0_store_13 rfl (lv_at hl 1 rfl) ?_
    refine lv_aload_n hx hb dX0_store_14 rfl (lv_at hl 0 rfl) ?_
    refine es_get C hP (es_wX_1 a cI cZ N S2) rfl inlX0 (j := 1) (by decide) es_u3_11 rfl dX0_store_15 ?_
    refine lv_imul hx hb dX0_store_18 ?_
    refine lv_iload_n hx hb dX0_store_19 rfl (lv_at hl 2 rfl) ?_
    refine lv_iadd hx hb dX0_store_20 ?_
    refine lv_iload_n hx hb dX0_store_21 rfl (lv_at hl 3 rfl) ?_
    replace h := es_ck_e h
    obtain ⟨b5, h⟩ := h
    refine es_ast C hP hS (es_wX_11 a cI cZ N S2) (es_rX_11 a cI cZ N S2) (t0 := 0) rfl b5 dX0_store_22 (fun S6 eS6 H locs hP hS => ?_)
    replace h := es_lt_e eS6 h
    refine lv_aload_n hx hb dX0_store_23 rfl (lv_at hl 0 rfl) ?_
    refine es_get C hP (es_wX_1 a cI cZ N S6) rfl inlX0 (j := 4) (by decide) es_u3_14 rfl dX0_store_24 ?_
    refine lv_iload_n hx hb dX0_store_27 rfl (lv_at hl 1 rfl) ?_
    refine lv_aload_n hx hb dX0_store_28 rfl (lv_at hl 0 rfl) ?_
    refine es_get C hP (es_wX_1 a cI cZ N S6) rfl inlX0 (j := 1) (by decide) es_u3_11 rfl dX0_store_29 ?_
    refine lv_imul hx hb dX0_store_32 ?_
    refine lv_iload_n hx hb dX0_store_33 rfl (lv_at hl 2 rfl) ?_
    refine lv_iadd hx hb dX0_store_34 ?_
    refine lv_iload hx hb dX0_store_35 (lv_at hl 4 rfl) ?_
    replace h := es_ck_e h
    obtain ⟨b7, h⟩ := h
    refine es_ast C hP hS (es_wX_12 a cI cZ N S6) (es_rX_12 a cI cZ N S6) (t0 := 0) rfl b7 dX0_store_37 (fun S8 eS8 H locs hP hS => ?_)
    replace h := es_lt_e eS8 h
    exact es_vret C hr hlk h hP hS dX0_store_38

set_option maxHeartbeats 4000000 in
set_option maxRecDepth 100000 in
theorem c_X0_tagAt (l : Launch) (D : va_G) (cI cZ : ClassId) (a : Nat → Nat) (N : Nat → Nat) (sz fu : Nat) (S S' : es_St) (p1 : Int32) (p2 : Int32) (r : Int32) (h : f_X0_tagAt N fu S p1 p2 = some (r, S')) : Met l yX0_tagAt (Cond.code yX0_tagAt cX0_tagAt 3 (some .int) :: wsL_law) ({ frames := 1, cells := 0, slots := 0, locals := 22 } : Room) (es_Pre [.ref (a 1), .int p1, .int p2] D [(cI, .int), (cZ, .boolean)] (es_wX a cI cZ N) a 35 S sz) (es_Qi D (es_wX a cI cZ N) a 35 r S' sz) 0 0 (es_AA a 35 sz) := by
  refine es_intro (Qc := es_Qi D (es_wX a cI cZ N) a 35 r S') (by decide) (es_okX a cI cZ N) (Nat.le_of_ble_eq_true rfl) ?_
  intro p e s m below meth c C hr hlk hP ls hl
  have hx := C.1
  have hb := C.2.1
  have hown := C.2.2.2.1
  have hts := C.2.2.2.2.1
  have hS : va_S (es_AA a 35 s.heap.size) s.heap s.heap [] := va_S.rf
  replace hl : lv_has ls 3 [(0, .ref (a 1)), (1, .int p1), (2, .int p2)] := hl
  unfold f_X0_tagAt at h
  refine lv_aload_n hx hb dX0_tagAt_0 rfl (lv_at hl 0 rfl) ?_
  refine lv_iload_n hx hb dX0_tagAt_1 rfl (lv_at hl 1 rfl) ?_
  refine lv_iload_n hx hb dX0_tagAt_2 rfl (lv_at hl 2 rfl) ?_
  replace h := es_bd_e h
  obtain ⟨r1, S2, g3, h⟩ := h
  refine es_callVi C (c_X0_isCell l D cI cZ a N _ fu S S2 p1 p2 r1 g3) es_u9_5 es_mX0_isCell ⟨rfl, rfl, by decide, by decide⟩ ⟨Nat.zero_le _, Nat.zero_le _⟩ hP hS (es_wX_1 a cI cZ N S) rfl rfl hl.1 rfl (Nat.le_of_ble_eq_true rfl) dX0_tagAt_3 (fun H locs _ _ hP hS => ?_)
  refine lv_if_eq (tgt := 25) hx hb dX0_tagAt_6 (by decide) (fun c4 => ?_) (fun c4 => ?_)
  · replace h := es_if_t c4 h
    refine lv_iconst (v := 0) hx hb dX0_tagAt_25 (by decide) ?_
    exact es_iret C hr hlk h hP hS dX0_tagAt_26
  · replace h := es_if_f c4 h
    refine lv_aload_n hx hb dX0_tagAt_9 rfl (lv_at hl 0 rfl) ?_
    refine es_get C hP (es_wX_1 a cI cZ N S2) rfl inlX0 (j := 4) (by decide) es_u3_14 rfl dX0_tagAt_10 ?_
    refine lv_iload_n hx hb dX0_tagAt_13 rfl (lv_at hl 1 rfl) ?_
    refine lv_aload_n hx hb dX0_tagAt_14 rfl (lv_at hl 0 rfl) ?_
    refine es_get C hP (es_wX_1 a cI cZ N S2) rfl inlX0 (j := 1) (by decide) es_u3_11 rfl dX0_tagAt_15 ?_
    refine lv_imul hx hb dX0_tagAt_18 ?_
    refine lv_iload_n hx hb dX0_tagAt_19 rfl (lv_at hl 2 rfl) ?_
    refine lv_iadd hx hb dX0_tagAt_20 ?_
    replace h := es_ck_e h
    obtain ⟨b5, h⟩ := h
    refine es_ald C hP (es_wX_12 a cI cZ N S2) (t0 := 0) rfl b5 dX0_tagAt_21 ?_
    refine lv_topi (fun v6 ev6 => ?_)
    replace h := es_lt_e ev6 h
    refine lv_goto (tgt := 26) hx hb dX0_tagAt_22 (by decide) ?_
    exact es_iret C hr hlk h hP hS dX0_tagAt_26

set_option maxHeartbeats 4000000 in
set_option maxRecDepth 100000 in
theorem c_X0_take (l : Launch) (D : va_G) (cI cZ : ClassId) (a : Nat → Nat) (N : Nat → Nat) (sz fu : Nat) (S S' : es_St) (p1 : Int32) (r : Int32) (h : f_X0_take N fu S p1 = some (r, S')) : Met l yX0_take (Cond.code yX0_take cX0_take 4 (some .int) :: wsL_law) ({ frames := 1, cells := 0, slots := 0, locals := 21 } : Room) (es_Pre [.ref (a 1), .int p1] D [(cI, .int), (cZ, .boolean)] (es_wX a cI cZ N) a 35 S sz) (es_Qi D (es_wX a cI cZ N) a 35 r S' sz) 0 0 (es_AA a 35 sz) := by
  refine es_intro (Qc := es_Qi D (es_wX a cI cZ N) a 35 r S') (by decide) (es_okX a cI cZ N) (Nat.le_of_ble_eq_true rfl) ?_
  intro p e s m below meth c C hr hlk hP ls hl
  have hx := C.1
  have hb := C.2.1
  have hown := C.2.2.2.1
  have hts := C.2.2.2.2.1
  have hS : va_S (es_AA a 35 s.heap.size) s.heap s.heap [] := va_S.rf
  replace hl : lv_has ls 4 [(0, .ref (a 1)), (1, .int p1)] := hl
  unfold f_X0_take at h
  refine lv_aload_n hx hb dX0_take_0 rfl (lv_at hl 0 rfl) ?_
  refine es_get C hP (es_wX_1 a cI cZ N S) rfl inlX0 (j := 8) (by decide) es_u3_18 rfl dX0_take_1 ?_
  refine lv_iconst (v := 1) hx hb dX0_take_4 (by decide) ?_
  refine lv_icmp_lt (tgt := 20) hx hb dX0_take_5 (by decide) (fun c1 => ?_) (fun c1 => ?_)
  · replace h := es_if_t c1 h
    refine lv_iconst (v := (-1)) hx hb dX0_take_20 (by decide) ?_
    exact es_iret C hr hlk h hP hS dX0_take_21
  · replace h := es_if_f c1 h
    refine lv_aload_n hx hb dX0_take_8 rfl (lv_at hl 0 rfl) ?_
    refine es_get C hP (es_wX_1 a cI cZ N S) rfl inlX0 (j := 8) (by decide) es_u3_18 rfl dX0_take_9 ?_
    refine lv_aload_n hx hb dX0_take_12 rfl (lv_at hl 0 rfl) ?_
    refine es_get C hP (es_wX_1 a cI cZ N S) rfl inlX0 (j := 7) (by decide) es_u3_17 rfl dX0_take_13 ?_
    refine es_len C hP (es_wX_15 a cI cZ N S) (t0 := 0) rfl dX0_take_16 ?_
    refine lv_icmp_le (tgt := 22) hx hb dX0_take_17 (by decide) (fun c2 => ?_) (fun c2 => ?_)
    · replace h := es_if_t c2 h
      refine lv_aload_n hx hb dX0_take_22 rfl (lv_at hl 0 rfl) ?_
      refine es_get C hP (es_wX_1 a cI cZ N S) rfl inlX0 (j := 7) (by decide) es_u3_17 rfl dX0_take_23 ?_
      refine lv_aload_n hx hb dX0_take_26 rfl (lv_at hl 0 rfl) ?_
      refine es_get C hP (es_wX_1 a cI cZ N S) rfl inlX0 (j := 8) (by decide) es_u3_18 rfl dX0_take_27 ?_
      refine lv_iconst (v := 1) hx hb dX0_take_30 (by decide) ?_
      refine lv_isub hx hb dX0_take_31 ?_
      replace h := es_ck_e h
      obtain ⟨b3, h⟩ := h
      refine es_ald C hP (es_wX_15 a cI cZ N S) (t0 := 0) rfl b3 dX0_take_32 ?_
      refine lv_topi (fun v4 ev4 => ?_)
      replace h := es_lt_e ev4 h
      refine lv_istore_n (lv' := [(2, .int v4), (0, .ref (a 1)), (1, .int p1)]) hx hb dX0_take_33 rfl hl (by decide) rfl (fun ls hl => ?_)
      refine lv_aload_n hx hb dX0_take_34 rfl (lv_at hl 1 rfl) ?_
      refine lv_iload_n hx hb dX0_take_35 rfl (lv_at hl 0 rfl) ?_
      replace h := es_bd_e h
      obtain ⟨r5, S6, g7, h⟩ := h
      refine es_callVi C (c_X0_isPage l D cI cZ a N _ fu S S6 v4 r5 g7) es_u8_9 es_mX0_isPage ⟨rfl, rfl, by decide, by decide⟩ ⟨Nat.zero_le _, Nat.zero_le _⟩ hP hS (es_wX_1 a cI cZ N S) rfl rfl hl.1 rfl (Nat.le_of_ble_eq_true rfl) dX0_take_36 (fun H locs _ _ hP hS => ?_)
      refine lv_if_ne (tgt := 44) hx hb dX0_take_39 (by decide) (fun c8 => ?_) (fun c8 => ?_)
      · replace h := es_if_t c8 h
        refine lv_aload_n hx hb dX0_take_44 rfl (lv_at hl 1 rfl) ?_
        refine lv_dup hx hb dX0_take_45 rfl ?_
        refine es_get C hP (es_wX_1 a cI cZ N S6) rfl inlX0 (j := 8) (by decide) es_u3_18 rfl dX0_take_46 ?_
        refine lv_iconst (v := 1) hx hb dX0_take_49 (by decide) ?_
        refine lv_isub hx hb dX0_take_50 ?_
        refine lv_topi (fun v9 ev9 => ?_)
        replace h := es_lt_e ev9 h
        refine es_put C hP hS (es_wX_1 a cI cZ N S6) rfl inlX0 tyX0_ok nmX0 (j := 8) (by decide) es_u3_18 rfl (tyX0_ok 8 (by decide)) rfl rfl (by simp) (es_sX_2 a cI cZ N S6 v9) dX0_take_51 (fun S10 eS10 H locs hP hS => ?_)
        replace h := es_lt_e eS10 h
        refine lv_aload_n hx hb dX0_take_54 rfl (lv_at hl 1 rfl) ?_
        refine es_get C hP (es_wX_1 a cI cZ N S10) rfl inlX0 (j := 5) (by decide) es_u3_15 rfl dX0_take_55 ?_
        refine lv_iload_n hx hb dX0_take_58 rfl (lv_at hl 0 rfl) ?_
        refine lv_iload_n hx hb dX0_take_59 rfl (lv_at hl 2 rfl) ?_
        replace h := es_ck_e h
        obtain ⟨b11, h⟩ := h
        refine es_ast C hP hS (es_wX_13 a cI cZ N S10) (es_rX_13 a cI cZ N S10) (t0 := 0) rfl b11 dX0_take_60 (fun S12 eS12 H locs hP hS => ?_)
        replace h := es_lt_e eS12 h
        refine lv_aload_n hx hb dX0_take_61 rfl (lv_at hl 1 rfl) ?_
        refine es_get C hP (es_wX_1 a cI cZ N S12) rfl inlX0 (j := 6) (by decide) es_u3_16 rfl dX0_take_62 ?_
        refine lv_iload_n hx hb dX0_take_65 rfl (lv_at hl 0 rfl) ?_
        refine lv_iconst (v := (-1)) hx hb dX0_take_66 (by decide) ?_
        replace h := es_ck_e h
        obtain ⟨b13, h⟩ := h
        refine es_ast C hP hS (es_wX_14 a cI cZ N S12) (es_rX_14 a cI cZ N S12) (t0 := 0) rfl b13 dX0_take_67 (fun S14 eS14 H locs hP hS => ?_)
        replace h := es_lt_e eS14 h
        refine lv_aload_n hx hb dX0_take_68 rfl (lv_at hl 1 rfl) ?_
        refine es_get C hP (es_wX_1 a cI cZ N S14) rfl inlX0 (j := 0) (by decide) es_u3_10 rfl dX0_take_69 ?_
        refine lv_aload_n hx hb dX0_take_72 rfl (lv_at hl 1 rfl) ?_
        refine es_get C hP (es_wX_1 a cI cZ N S14) rfl inlX0 (j := 8) (by decide) es_u3_18 rfl dX0_take_73 ?_
        refine lv_isub hx hb dX0_take_76 ?_
        refine lv_topi (fun y15 ey15 => ?_)
        replace h := es_lt_e ey15 h
        refine lv_istore_n (lv' := [(3, .int y15), (2, .int v4), (0, .ref (a 1)), (1, .int p1)]) hx hb dX0_take_77 rfl hl (by decide) rfl (fun ls hl => ?_)
        refine lv_aload_n hx hb dX0_take_78 rfl (lv_at hl 2 rfl) ?_
        refine es_get C hP (es_wX_1 a cI cZ N S14) rfl inlX0 (j := 2) (by decide) es_u3_12 rfl dX0_take_79 ?_
        refine lv_iload_n hx hb dX0_take_82 rfl (lv_at hl 0 rfl) ?_
        refine lv_aload_n hx hb dX0_take_83 rfl (lv_at hl 2 rfl) ?_
        refine es_get C hP (es_wX_1 a cI cZ N S14) rfl inlX0 (j := 2) (by decide) es_u3_12 rfl dX0_take_84 ?_
        refine es_get C hP (es_wX_5 a cI cZ N S14) rfl inlX6 (j := 4) (by decide) es_u8_8 rfl dX0_take_87 ?_
        refine lv_icmp_le (tgt := 97) hx hb dX0_take_90 (by decide) (fun c16 => ?_) (fun c16 => ?_)
        · replace h := es_if_t c16 h
          refine lv_aload_n hx hb dX0_take_97 rfl (lv_at hl 2 rfl) ?_
          refine es_get C hP (es_wX_1 a cI cZ N S14) rfl inlX0 (j := 2) (by decide) es_u3_12 rfl dX0_take_98 ?_
          refine es_get C hP (es_wX_5 a cI cZ N S14) rfl inlX6 (j := 4) (by decide) es_u8_8 rfl dX0_take_101 ?_
          refine es_put C hP hS (es_wX_5 a cI cZ N S14) rfl inlX6 tyX6_ok nmX6 (j := 4) (by decide) es_u8_8 rfl (tyX6_ok 4 (by decide)) rfl rfl (by simp) (es_sX_26 a cI cZ N S14 (S14.1 26)) dX0_take_104 (fun S17 eS17 H locs hP hS => ?_)
          replace h := es_lt_e eS17 h
          refine lv_iload_n hx hb dX0_take_107 rfl (lv_at hl 1 rfl) ?_
          exact es_iret C hr hlk h hP hS dX0_take_108
        · replace h := es_if_f c16 h
          refine lv_iload_n hx hb dX0_take_93 rfl (lv_at hl 0 rfl) ?_
          refine lv_goto (tgt := 104) hx hb dX0_take_94 (by decide) ?_
          refine es_put C hP hS (es_wX_5 a cI cZ N S14) rfl inlX6 tyX6_ok nmX6 (j := 4) (by decide) es_u8_8 rfl (tyX6_ok 4 (by decide)) rfl rfl (by simp) (es_sX_26 a cI cZ N S14 y15) dX0_take_104 (fun S18 eS18 H locs hP hS => ?_)
          replace h := es_lt_e eS18 h
          refine lv_iload_n hx hb dX0_take_107 rfl (lv_at hl 1 rfl) ?_
          exact es_iret C hr hlk h hP hS dX0_take_108
      · replace h := es_if_f (fun q => q c8) h
        refine lv_iconst (v := (-1)) hx hb dX0_take_42 (by decide) ?_
        exact es_iret C hr hlk h hP hS dX0_take_43
    · replace h := es_if_f c2 h
      refine lv_iconst (v := (-1)) hx hb dX0_take_20 (by decide) ?_
      exact es_iret C hr hlk h hP hS dX0_take_21

set_option maxHeartbeats 4000000 in
set_option maxRecDepth 100000 in
theorem c_X0_usedPages (l : Launch) (D : va_G) (cI cZ : ClassId) (a : Nat → Nat) (N : Nat → Nat) (sz fu : Nat) (S S' : es_St) (r : Int32) (h : f_X0_usedPages N fu S = some (r, S')) : Met l yX0_usedPages (Cond.code yX0_usedPages cX0_usedPages 1 (some .int) :: wsL_law) ({ frames := 0, cells := 0, slots := 0, locals := 0 } : Room) (es_Pre [.ref (a 1)] D [(cI, .int), (cZ, .boolean)] (es_wX a cI cZ N) a 35 S sz) (es_Qi D (es_wX a cI cZ N) a 35 r S' sz) 0 0 (es_AA a 35 sz) := by
  refine es_intro (Qc := es_Qi D (es_wX a cI cZ N) a 35 r S') (by decide) (es_okX a cI cZ N) (Nat.le_of_ble_eq_true rfl) ?_
  intro p e s m below meth c C hr hlk hP ls hl
  have hx := C.1
  have hb := C.2.1
  have hown := C.2.2.2.1
  have hts := C.2.2.2.2.1
  have hS : va_S (es_AA a 35 s.heap.size) s.heap s.heap [] := va_S.rf
  replace hl : lv_has ls 1 [(0, .ref (a 1))] := hl
  unfold f_X0_usedPages at h
  refine lv_aload_n hx hb dX0_usedPages_0 rfl (lv_at hl 0 rfl) ?_
  refine es_get C hP (es_wX_1 a cI cZ N S) rfl inlX0 (j := 0) (by decide) es_u3_10 rfl dX0_usedPages_1 ?_
  refine lv_aload_n hx hb dX0_usedPages_4 rfl (lv_at hl 0 rfl) ?_
  refine es_get C hP (es_wX_1 a cI cZ N S) rfl inlX0 (j := 8) (by decide) es_u3_18 rfl dX0_usedPages_5 ?_
  refine lv_isub hx hb dX0_usedPages_8 ?_
  exact es_iret C hr hlk h hP hS dX0_usedPages_9
