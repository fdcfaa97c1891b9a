set_option maxHeartbeats 4000000 in
set_option maxRecDepth 100000 in
theorem c_X8_puts2 (l : Launch) (D : va_G) (cI cZ : ClassId) (a : Nat → Nat) (N : Nat → Nat) (sz fu : Nat) (S S' : es_St) (p1 : Int32) (p2 : Int32) (p3 : Int32) (r : Int32) (h : f_X8_puts2 N fu S p1 p2 p3 = some (r, S')) : Met l yX8_puts2 (Cond.code yX8_puts2 cX8_puts2 8 none :: wsL_law) ({ frames := 0, cells := 0, slots := 0, locals := 0 } : Room) (es_Pre [.ref (a 0), .int p1, .int p2, .int p3] D [(cI, .int), (cZ, .boolean)] (es_wM a cI cZ N) a 21 S sz) (es_Qv D (es_wM a cI cZ N) a 21 S' sz) 0 0 (es_AA a 21 sz) := by
  refine es_intro (Qc := es_Qv D (es_wM a cI cZ N) a 21 S') (by decide) (es_okM a cI cZ N) (Nat.le_of_ble_eq_true rfl) ?_
  intro p e s m below meth c C hr hlk hP ls hl
  have hx := C.1
  have hb := C.2.1
  have hown := C.2.2.2.1
  have hts := C.2.2.2.2.1
  have hS : va_S (es_AA a 21 s.heap.size) s.heap s.heap [] := va_S.rf
  replace hl : lv_has ls 8 [(0, .ref (a 0)), (1, .int p1), (2, .int p2), (3, .int p3)] := hl
  have J52 : ∀ (k13 : Int32 → Int32 → Int32 → Int32 → Int32 → es_St → Option (Int32 × es_St)) (hk13 : (∀ (x1 : Int32) (x2 : Int32) (x4 : Int32) (x5 : Int32) (x6 : Int32) (S : es_St) (H : Heap) (locs : List Loc) (ls : Array Slot), k13 x1 x2 x4 x5 x6 S = some (r, S') → va_P D vwCl ((es_wM a cI cZ N) S) H → va_S (es_AA a 21 s.heap.size) s.heap H locs → lv_has ls 8 [(0, .ref (a 0)), (1, .int x1), (2, .int x2), (4, .int x4), (5, .int x5), (6, .int x6)] → W p l e ({ frames := 0, cells := 0, slots := 0, locals := 0 } : Room) s m ([.ref (a 0), .int p1, .int p2, .int p3] : List Value).toArray below meth c H locs 0 0 (MQ below (es_Qv D (es_wM a cI cZ N) a 21 S' s.heap.size) ([.ref (a 0), .int p1, .int p2, .int p3] : List Value).toArray s 0 0 (es_AA a 21 s.heap.size)) (F0 m 13 ls []))), ∀ n : Nat, (∀ (x1 : Int32) (x2 : Int32) (x4 : Int32) (x5 : Int32) (x6 : Int32) (x7 : Int32) (S : es_St) (H : Heap) (locs : List Loc) (ls : Array Slot), f_X8_puts2_52 N fu k13 n x1 x2 x4 x5 x6 x7 S = some (r, S') → va_P D vwCl ((es_wM a cI cZ N) S) H → va_S (es_AA a 21 s.heap.size) s.heap H locs → lv_has ls 8 [(0, .ref (a 0)), (1, .int x1), (2, .int x2), (4, .int x4), (5, .int x5), (6, .int x6), (7, .int x7)] → W p l e ({ frames := 0, cells := 0, slots := 0, locals := 0 } : Room) s m ([.ref (a 0), .int p1, .int p2, .int p3] : List Value).toArray below meth c H locs 0 0 (MQ below (es_Qv D (es_wM a cI cZ N) a 21 S' s.heap.size) ([.ref (a 0), .int p1, .int p2, .int p3] : List Value).toArray s 0 0 (es_AA a 21 s.heap.size)) (F0 m 52 ls [])) := by
    intro k13 hk13
    intro n
    induction n with
    | zero => intro x1 x2 x4 x5 x6 x7 S H locs ls h; rw [f_X8_puts2_52] at h; cases h
    | succ n ih =>
      intro x1 x2 x4 x5 x6 x7 S H locs ls h hP hS hl
      rw [f_X8_puts2_52] at h
      refine lv_iload hx hb dX8_puts2_52 (lv_at hl 6 rfl) ?_
      refine lv_iload_n hx hb dX8_puts2_54 rfl (lv_at hl 2 rfl) ?_
      refine lv_icmp_ge (tgt := 112) hx hb dX8_puts2_55 (by decide) (fun c4 => ?_) (fun c4 => ?_)
      · replace h := es_if_t c4 h
        obtain ⟨y5, ey5⟩ : ∃ y : Int32, y = x6 + 1 := ⟨_, rfl⟩
        refine lv_iinc (v := y5) (lv' := [(6, .int y5), (0, .ref (a 0)), (1, .int x1), (2, .int x2), (4, .int x4), (5, .int x5), (7, .int x7)]) hx hb dX8_puts2_112 hl (k := 5) rfl (by rw [ey5]; rfl) (by decide) rfl (fun ls hl => ?_)
        replace h := es_lt_e ey5 h
        refine lv_goto (tgt := 13) hx hb dX8_puts2_115 (by decide) ?_
        exact hk13 x1 x2 x4 x5 y5 S _ _ _ h hP hS (lv_sub hl [1, 2, 3, 4, 5, 0] rfl)
      · replace h := es_if_f c4 h
        refine lv_aload_n hx hb dX8_puts2_58 rfl (lv_at hl 0 rfl) ?_
        refine es_get C hP (es_wM_0 a cI cZ N S) rfl inlX8 (j := 35) (by decide) es_u7_6 rfl dX8_puts2_59 ?_
        refine lv_iload hx hb dX8_puts2_62 (lv_at hl 6 rfl) ?_
        replace h := es_ck_e h
        obtain ⟨b6, h⟩ := h
        refine es_ald C hP (es_wM_19 a cI cZ N S) (t0 := 0) rfl b6 dX8_puts2_64 ?_
        refine lv_topi (fun v7 ev7 => ?_)
        replace h := es_lt_e ev7 h
        refine lv_aload_n hx hb dX8_puts2_65 rfl (lv_at hl 0 rfl) ?_
        refine es_get C hP (es_wM_0 a cI cZ N S) rfl inlX8 (j := 33) (by decide) es_u7_4 rfl dX8_puts2_66 ?_
        refine lv_iload hx hb dX8_puts2_69 (lv_at hl 5 rfl) ?_
        replace h := es_ck_e h
        obtain ⟨b8, h⟩ := h
        refine es_ald C hP (es_wM_17 a cI cZ N S) (t0 := 0) rfl b8 dX8_puts2_71 ?_
        refine lv_topi (fun v9 ev9 => ?_)
        replace h := es_lt_e ev9 h
        refine lv_icmp_ne (tgt := 112) hx hb dX8_puts2_72 (by decide) (fun c10 => ?_) (fun c10 => ?_)
        · replace h := es_if_t c10 h
          obtain ⟨y11, ey11⟩ : ∃ y : Int32, y = x6 + 1 := ⟨_, rfl⟩
          refine lv_iinc (v := y11) (lv' := [(6, .int y11), (0, .ref (a 0)), (1, .int x1), (2, .int x2), (4, .int x4), (5, .int x5), (7, .int x7)]) hx hb dX8_puts2_112 hl (k := 5) rfl (by rw [ey11]; rfl) (by decide) rfl (fun ls hl => ?_)
          replace h := es_lt_e ey11 h
          refine lv_goto (tgt := 13) hx hb dX8_puts2_115 (by decide) ?_
          exact hk13 x1 x2 x4 x5 y11 S _ _ _ h hP hS (lv_sub hl [1, 2, 3, 4, 5, 0] rfl)
        · replace h := es_if_f (fun q => q c10) h
          refine lv_aload_n hx hb dX8_puts2_75 rfl (lv_at hl 0 rfl) ?_
          refine es_get C hP (es_wM_0 a cI cZ N S) rfl inlX8 (j := 2) (by decide) es_u6_11 rfl dX8_puts2_76 ?_
          refine lv_iload hx hb dX8_puts2_79 (lv_at hl 3 rfl) ?_
          refine lv_aload_n hx hb dX8_puts2_81 rfl (lv_at hl 0 rfl) ?_
          refine es_get C hP (es_wM_0 a cI cZ N S) rfl inlX8 (j := 34) (by decide) es_u7_5 rfl dX8_puts2_82 ?_
          refine lv_iload hx hb dX8_puts2_85 (lv_at hl 5 rfl) ?_
          replace h := es_ck_e h
          obtain ⟨b12, h⟩ := h
          refine es_ald C hP (es_wM_18 a cI cZ N S) (t0 := 0) rfl b12 dX8_puts2_87 ?_
          refine lv_topi (fun v13 ev13 => ?_)
          replace h := es_lt_e ev13 h
          replace h := es_ck_e h
          obtain ⟨b14, h⟩ := h
          refine es_ast C hP hS (es_wM_1 a cI cZ N S) (es_rM_1 a cI cZ N S) (t0 := 0) rfl b14 dX8_puts2_88 (fun S15 eS15 H locs hP hS => ?_)
          replace h := es_lt_e eS15 h
          refine lv_aload_n hx hb dX8_puts2_89 rfl (lv_at hl 0 rfl) ?_
          refine es_get C hP (es_wM_0 a cI cZ N S15) rfl inlX8 (j := 3) (by decide) es_u6_12 rfl dX8_puts2_90 ?_
          refine lv_iload hx hb dX8_puts2_93 (lv_at hl 3 rfl) ?_
          refine lv_aload_n hx hb dX8_puts2_95 rfl (lv_at hl 0 rfl) ?_
          refine es_get C hP (es_wM_0 a cI cZ N S15) rfl inlX8 (j := 36) (by decide) es_u7_7 rfl dX8_puts2_96 ?_
          refine lv_iload hx hb dX8_puts2_99 (lv_at hl 6 rfl) ?_
          replace h := es_ck_e h
          obtain ⟨b16, h⟩ := h
          refine es_ald C hP (es_wM_20 a cI cZ N S15) (t0 := 0) rfl b16 dX8_puts2_101 ?_
          refine lv_topi (fun v17 ev17 => ?_)
          replace h := es_lt_e ev17 h
          replace h := es_ck_e h
          obtain ⟨b18, h⟩ := h
          refine es_ast C hP hS (es_wM_2 a cI cZ N S15) (es_rM_2 a cI cZ N S15) (t0 := 0) rfl b18 dX8_puts2_102 (fun S19 eS19 H locs hP hS => ?_)
          replace h := es_lt_e eS19 h
          obtain ⟨y20, ey20⟩ : ∃ y : Int32, y = x4 + 1 := ⟨_, rfl⟩
          refine lv_iinc (v := y20) (lv' := [(4, .int y20), (0, .ref (a 0)), (1, .int x1), (2, .int x2), (5, .int x5), (6, .int x6), (7, .int x7)]) hx hb dX8_puts2_103 hl (k := 3) rfl (by rw [ey20]; rfl) (by decide) rfl (fun ls hl => ?_)
          replace h := es_lt_e ey20 h
          obtain ⟨y21, ey21⟩ : ∃ y : Int32, y = x7 + 1 := ⟨_, rfl⟩
          refine lv_iinc (v := y21) (lv' := [(7, .int y21), (4, .int y20), (0, .ref (a 0)), (1, .int x1), (2, .int x2), (5, .int x5), (6, .int x6)]) hx hb dX8_puts2_106 hl (k := 6) rfl (by rw [ey21]; rfl) (by decide) rfl (fun ls hl => ?_)
          replace h := es_lt_e ey21 h
          refine lv_goto (tgt := 52) hx hb dX8_puts2_109 (by decide) ?_
          exact ih x1 x2 y20 x5 x6 y21 S19 _ _ _ h hP hS (lv_sub hl [2, 3, 4, 1, 5, 6, 0] rfl)
  have J19 : ∀ (k13 : Int32 → Int32 → Int32 → Int32 → Int32 → es_St → Option (Int32 × es_St)) (hk13 : (∀ (x1 : Int32) (x2 : Int32) (x4 : Int32) (x5 : Int32) (x6 : Int32) (S : es_St) (H : Heap) (locs : List Loc) (ls : Array Slot), k13 x1 x2 x4 x5 x6 S = some (r, S') → va_P D vwCl ((es_wM a cI cZ N) S) H → va_S (es_AA a 21 s.heap.size) s.heap H locs → lv_has ls 8 [(0, .ref (a 0)), (1, .int x1), (2, .int x2), (4, .int x4), (5, .int x5), (6, .int x6)] → W p l e ({ frames := 0, cells := 0, slots := 0, locals := 0 } : Room) s m ([.ref (a 0), .int p1, .int p2, .int p3] : List Value).toArray below meth c H locs 0 0 (MQ below (es_Qv D (es_wM a cI cZ N) a 21 S' s.heap.size) ([.ref (a 0), .int p1, .int p2, .int p3] : List Value).toArray s 0 0 (es_AA a 21 s.heap.size)) (F0 m 13 ls []))), ∀ n : Nat, (∀ (x1 : Int32) (x2 : Int32) (x4 : Int32) (x5 : Int32) (x6 : Int32) (S : es_St) (H : Heap) (locs : List Loc) (ls : Array Slot), f_X8_puts2_19 N fu k13 n x1 x2 x4 x5 x6 S = some (r, S') → va_P D vwCl ((es_wM a cI cZ N) S) H → va_S (es_AA a 21 s.heap.size) s.heap H locs → lv_has ls 8 [(0, .ref (a 0)), (1, .int x1), (2, .int x2), (4, .int x4), (5, .int x5), (6, .int x6)] → W p l e ({ frames := 0, cells := 0, slots := 0, locals := 0 } : Room) s m ([.ref (a 0), .int p1, .int p2, .int p3] : List Value).toArray below meth c H locs 0 0 (MQ below (es_Qv D (es_wM a cI cZ N) a 21 S' s.heap.size) ([.ref (a 0), .int p1, .int p2, .int p3] : List Value).toArray s 0 0 (es_AA a 21 s.heap.size)) (F0 m 19 ls [])) := by
    intro k13 hk13
    intro n
    induction n with
    | zero => intro x1 x2 x4 x5 x6 S H locs ls h; rw [f_X8_puts2_19] at h; cases h
    | succ n ih =>
      intro x1 x2 x4 x5 x6 S H locs ls h hP hS hl
      rw [f_X8_puts2_19] at h
      refine lv_iload hx hb dX8_puts2_19 (lv_at hl 4 rfl) ?_
      refine lv_iload_n hx hb dX8_puts2_21 rfl (lv_at hl 2 rfl) ?_
      refine lv_icmp_ge (tgt := 48) hx hb dX8_puts2_22 (by decide) (fun c3 => ?_) (fun c3 => ?_)
      · replace h := es_if_t c3 h
        refine lv_iload hx hb dX8_puts2_48 (lv_at hl 4 rfl) ?_
        refine lv_istore (lv' := [(7, .int x5), (0, .ref (a 0)), (1, .int x1), (2, .int x2), (4, .int x4), (5, .int x5), (6, .int x6)]) hx hb dX8_puts2_50 hl (by decide) rfl (fun ls hl => ?_)
        exact J52 k13 hk13 fu x1 x2 x4 x5 x6 x5 S _ _ _ h hP hS (lv_sub hl [1, 2, 3, 4, 5, 6, 0] rfl)
      · replace h := es_if_f c3 h
        refine lv_aload_n hx hb dX8_puts2_25 rfl (lv_at hl 0 rfl) ?_
        refine es_get C hP (es_wM_0 a cI cZ N S) rfl inlX8 (j := 35) (by decide) es_u7_6 rfl dX8_puts2_26 ?_
        refine lv_iload hx hb dX8_puts2_29 (lv_at hl 4 rfl) ?_
        replace h := es_ck_e h
        obtain ⟨b22, h⟩ := h
        refine es_ald C hP (es_wM_19 a cI cZ N S) (t0 := 0) rfl b22 dX8_puts2_31 ?_
        refine lv_topi (fun v23 ev23 => ?_)
        replace h := es_lt_e ev23 h
        refine lv_aload_n hx hb dX8_puts2_32 rfl (lv_at hl 0 rfl) ?_
        refine es_get C hP (es_wM_0 a cI cZ N S) rfl inlX8 (j := 33) (by decide) es_u7_4 rfl dX8_puts2_33 ?_
        refine lv_iload hx hb dX8_puts2_36 (lv_at hl 5 rfl) ?_
        replace h := es_ck_e h
        obtain ⟨b24, h⟩ := h
        refine es_ald C hP (es_wM_17 a cI cZ N S) (t0 := 0) rfl b24 dX8_puts2_38 ?_
        refine lv_topi (fun v25 ev25 => ?_)
        replace h := es_lt_e ev25 h
        refine lv_icmp_ge (tgt := 48) hx hb dX8_puts2_39 (by decide) (fun c26 => ?_) (fun c26 => ?_)
        · replace h := es_if_t c26 h
          refine lv_iload hx hb dX8_puts2_48 (lv_at hl 4 rfl) ?_
          refine lv_istore (lv' := [(7, .int x5), (0, .ref (a 0)), (1, .int x1), (2, .int x2), (4, .int x4), (5, .int x5), (6, .int x6)]) hx hb dX8_puts2_50 hl (by decide) rfl (fun ls hl => ?_)
          exact J52 k13 hk13 fu x1 x2 x4 x5 x6 x5 S _ _ _ h hP hS (lv_sub hl [1, 2, 3, 4, 5, 6, 0] rfl)
        · replace h := es_if_f c26 h
          obtain ⟨y27, ey27⟩ : ∃ y : Int32, y = x5 + 1 := ⟨_, rfl⟩
          refine lv_iinc (v := y27) (lv' := [(5, .int y27), (0, .ref (a 0)), (1, .int x1), (2, .int x2), (4, .int x4), (6, .int x6)]) hx hb dX8_puts2_42 hl (k := 4) rfl (by rw [ey27]; rfl) (by decide) rfl (fun ls hl => ?_)
          replace h := es_lt_e ey27 h
          refine lv_goto (tgt := 19) hx hb dX8_puts2_45 (by decide) ?_
          exact ih x1 x2 x4 y27 x6 S _ _ _ h hP hS (lv_sub hl [1, 2, 3, 4, 0, 5] rfl)
  have J13 : ∀ n : Nat, (∀ (x1 : Int32) (x2 : Int32) (x4 : Int32) (x5 : Int32) (x6 : Int32) (S : es_St) (H : Heap) (locs : List Loc) (ls : Array Slot), f_X8_puts2_13 N fu n x1 x2 x4 x5 x6 S = some (r, S') → va_P D vwCl ((es_wM a cI cZ N) S) H → va_S (es_AA a 21 s.heap.size) s.heap H locs → lv_has ls 8 [(0, .ref (a 0)), (1, .int x1), (2, .int x2), (4, .int x4), (5, .int x5), (6, .int x6)] → W p l e ({ frames := 0, cells := 0, slots := 0, locals := 0 } : Room) s m ([.ref (a 0), .int p1, .int p2, .int p3] : List Value).toArray below meth c H locs 0 0 (MQ below (es_Qv D (es_wM a cI cZ N) a 21 S' s.heap.size) ([.ref (a 0), .int p1, .int p2, .int p3] : List Value).toArray s 0 0 (es_AA a 21 s.heap.size)) (F0 m 13 ls [])) := by
    intro n
    induction n with
    | zero => intro x1 x2 x4 x5 x6 S H locs ls h; rw [f_X8_puts2_13] at h; cases h
    | succ n ih =>
      intro x1 x2 x4 x5 x6 S H locs ls h hP hS hl
      rw [f_X8_puts2_13] at h
      refine lv_iload hx hb dX8_puts2_13 (lv_at hl 5 rfl) ?_
      refine lv_iload_n hx hb dX8_puts2_15 rfl (lv_at hl 1 rfl) ?_
      refine lv_icmp_ge (tgt := 118) hx hb dX8_puts2_16 (by decide) (fun c2 => ?_) (fun c2 => ?_)
      · replace h := es_if_t c2 h
        exact es_vret C hr hlk h hP hS dX8_puts2_118
      · replace h := es_if_f c2 h
        exact J19 (fun x1 x2 x4 x5 x6 S => f_X8_puts2_13 N fu n x1 x2 x4 x5 x6 S) ih fu x1 x2 x4 x5 x6 S _ _ _ h hP hS (lv_sub hl [0, 1, 2, 3, 4, 5] rfl)
  unfold f_X8_puts2 at h
  refine lv_sipush (v := 8192) hx hb dX8_puts2_0 (by decide) ?_
  refine lv_iload_n hx hb dX8_puts2_3 rfl (lv_at hl 3 rfl) ?_
  refine lv_imul hx hb dX8_puts2_4 ?_
  refine lv_topi (fun y1 ey1 => ?_)
  replace h := es_lt_e ey1 h
  refine lv_istore (lv' := [(4, .int y1), (0, .ref (a 0)), (1, .int p1), (2, .int p2), (3, .int p3)]) hx hb dX8_puts2_5 hl (by decide) rfl (fun ls hl => ?_)
  refine lv_iconst (v := 0) hx hb dX8_puts2_7 (by decide) ?_
  refine lv_istore (lv' := [(5, .int 0), (4, .int y1), (0, .ref (a 0)), (1, .int p1), (2, .int p2), (3, .int p3)]) hx hb dX8_puts2_8 hl (by decide) rfl (fun ls hl => ?_)
  refine lv_iconst (v := 0) hx hb dX8_puts2_10 (by decide) ?_
  refine lv_istore (lv' := [(6, .int 0), (5, .int 0), (4, .int y1), (0, .ref (a 0)), (1, .int p1), (2, .int p2), (3, .int p3)]) hx hb dX8_puts2_11 hl (by decide) rfl (fun ls hl => ?_)
  exact J13  fu p1 p2 y1 0 0 S _ _ _ h hP hS (lv_sub hl [3, 4, 5, 2, 1, 0] rfl)

set_option maxHeartbeats 4000000 in
set_option maxRecDepth 100000 in
theorem c_X8_join (l : Launch) (D : va_G) (cI cZ : ClassId) (a : Nat → Nat) (N : Nat → Nat) (sz fu : Nat) (S S' : es_St) (p1 : Int32) (p2 : Int32) (p3 : Int32) (p4 : Int32) (r : Int32) (h : f_X8_join N fu S p1 p2 p3 p4 = some (r, S')) : Met l yX8_join (Cond.code yX8_join cX8_join 9 (some .int) :: wsL_law) ({ frames := 5, cells := 0, slots := 0, locals := 126 } : Room) (es_Pre [.ref (a 0), .int p1, .int p2, .int p3, .int p4] D [(cI, .int), (cZ, .boolean)] (es_wM a cI cZ N) a 21 S sz) (es_Qi D (es_wM a cI cZ N) a 21 r S' sz) 0 0 (es_AA a 21 sz) := by
  refine es_intro (Qc := es_Qi D (es_wM a cI cZ N) a 21 r S') (by decide) (es_okM a cI cZ N) (Nat.le_of_ble_eq_true rfl) ?_
  intro p e s m below meth c C hr hlk hP ls hl
  have hx := C.1
  have hb := C.2.1
  have hown := C.2.2.2.1
  have hts := C.2.2.2.2.1
  have hS : va_S (es_AA a 21 s.heap.size) s.heap s.heap [] := va_S.rf
  replace hl : lv_has ls 9 [(0, .ref (a 0)), (1, .int p1), (2, .int p2), (3, .int p3), (4, .int p4)] := hl
  have J305 : (∀ (x3 : Int32) (x6 : Int32) (x7 : Int32) (x8 : Int32) (t0 : Int32) (S : es_St) (H : Heap) (locs : List Loc) (ls : Array Slot), f_X8_join_305 N fu x3 x6 x7 x8 t0 S = some (r, S') → va_P D vwCl ((es_wM a cI cZ N) S) H → va_S (es_AA a 21 s.heap.size) s.heap H locs → lv_has ls 9 [(0, .ref (a 0)), (3, .int x3), (6, .int x6), (7, .int x7), (8, .int x8)] → W p l e ({ frames := 5, cells := 0, slots := 0, locals := 126 } : Room) s m ([.ref (a 0), .int p1, .int p2, .int p3, .int p4] : List Value).toArray below meth c H locs 0 0 (MQ below (es_Qi D (es_wM a cI cZ N) a 21 r S' s.heap.size) ([.ref (a 0), .int p1, .int p2, .int p3, .int p4] : List Value).toArray s 0 0 (es_AA a 21 s.heap.size)) (F0 m 305 ls [.int t0, .ref (a 0)])) := by
    intro x3 x6 x7 x8 t0 S H locs ls h hP hS hl
    unfold f_X8_join_305 at h
    refine es_put C hP hS (es_wM_0 a cI cZ N S) rfl inlX8 tyX8_ok nmX8 (j := 10) (by decide) es_u21_9 rfl (tyX8_ok 10 (by decide)) rfl rfl (by simp) (es_sM_7 a cI cZ N S t0) dX8_join_305 (fun S53 eS53 H locs hP hS => ?_)
    replace h := es_lt_e eS53 h
    refine lv_aload_n hx hb dX8_join_308 rfl (lv_at hl 0 rfl) ?_
    refine lv_dup hx hb dX8_join_309 rfl ?_
    refine es_get C hP (es_wM_0 a cI cZ N S53) rfl inlX8 (j := 5) (by decide) es_u9_13 rfl dX8_join_310 ?_
    refine lv_aload_n hx hb dX8_join_313 rfl (lv_at hl 0 rfl) ?_
    refine lv_aload_n hx hb dX8_join_314 rfl (lv_at hl 0 rfl) ?_
    refine es_get C hP (es_wM_0 a cI cZ N S53) rfl inlX8 (j := 4) (by decide) es_u6_13 rfl dX8_join_315 ?_
    refine lv_iload_n hx hb dX8_join_318 rfl (lv_at hl 1 rfl) ?_
    replace h := es_ck_e h
    obtain ⟨b54, h⟩ := h
    refine es_ald C hP (es_wM_3 a cI cZ N S53) (t0 := 0) rfl b54 dX8_join_319 ?_
    refine lv_topi (fun v55 ev55 => ?_)
    replace h := es_lt_e ev55 h
    replace h := es_bd_e h
    obtain ⟨r56, S57, g58, h⟩ := h
    refine es_callVi C (c_X8_pagesOf l D cI cZ a N _ fu S53 S57 v55 r56 g58) es_u10_12 es_mX8_pagesOf ⟨rfl, rfl, by decide, by decide⟩ ⟨Nat.zero_le _, Nat.zero_le _⟩ hP hS (es_wM_0 a cI cZ N S53) rfl rfl hl.1 rfl (Nat.le_of_ble_eq_true rfl) dX8_join_320 (fun H locs _ _ hP hS => ?_)
    refine lv_isub hx hb dX8_join_323 ?_
    refine lv_topi (fun v59 ev59 => ?_)
    replace h := es_lt_e ev59 h
    refine es_put C hP hS (es_wM_0 a cI cZ N S57) rfl inlX8 tyX8_ok nmX8 (j := 5) (by decide) es_u9_13 rfl (tyX8_ok 5 (by decide)) rfl rfl (by simp) (es_sM_2 a cI cZ N S57 v59) dX8_join_324 (fun S60 eS60 H locs hP hS => ?_)
    replace h := es_lt_e eS60 h
    refine lv_aload_n hx hb dX8_join_327 rfl (lv_at hl 0 rfl) ?_
    refine lv_iload hx hb dX8_join_328 (lv_at hl 2 rfl) ?_
    refine lv_iload hx hb dX8_join_330 (lv_at hl 3 rfl) ?_
    refine lv_iload_n hx hb dX8_join_332 rfl (lv_at hl 1 rfl) ?_
    replace h := es_bd_e h
    obtain ⟨r61, S62, g63, h⟩ := h
    refine es_callVv C (c_X8_puts2 l D cI cZ a N _ fu S60 S62 x6 x7 x3 r61 g63) es_u27_21 es_mX8_puts2 ⟨rfl, rfl, by decide, by decide⟩ ⟨Nat.zero_le _, Nat.zero_le _⟩ hP hS (es_wM_0 a cI cZ N S60) rfl rfl hl.1 rfl (Nat.le_of_ble_eq_true rfl) dX8_join_333 (fun H locs _ _ hP hS => ?_)
    refine lv_aload_n hx hb dX8_join_336 rfl (lv_at hl 0 rfl) ?_
    refine es_get C hP (es_wM_0 a cI cZ N S62) rfl inlX8 (j := 4) (by decide) es_u6_13 rfl dX8_join_337 ?_
    refine lv_iload_n hx hb dX8_join_340 rfl (lv_at hl 1 rfl) ?_
    refine lv_iload hx hb dX8_join_341 (lv_at hl 4 rfl) ?_
    replace h := es_ck_e h
    obtain ⟨b64, h⟩ := h
    refine es_ast C hP hS (es_wM_3 a cI cZ N S62) (es_rM_3 a cI cZ N S62) (t0 := 0) rfl b64 dX8_join_343 (fun S65 eS65 H locs hP hS => ?_)
    replace h := es_lt_e eS65 h
    refine lv_aload_n hx hb dX8_join_344 rfl (lv_at hl 0 rfl) ?_
    replace h := es_bd_e h
    obtain ⟨r66, S67, g68, h⟩ := h
    refine es_callVv C (c_X8_tells l D cI cZ a N _ fu S65 S67 r66 g68) es_u23_20 es_mX8_tells ⟨rfl, rfl, by decide, by decide⟩ ⟨Nat.zero_le _, Nat.zero_le _⟩ hP hS (es_wM_0 a cI cZ N S65) rfl rfl hl.1 rfl (Nat.le_of_ble_eq_true rfl) dX8_join_345 (fun H locs _ _ hP hS => ?_)
    refine lv_iload hx hb dX8_join_348 (lv_at hl 4 rfl) ?_
    exact es_iret C hr hlk h hP hS dX8_join_350
  have J216 : (∀ (x3 : Int32) (x5 : Int32) (x6 : Int32) (x7 : Int32) (t0 : Int32) (S : es_St) (H : Heap) (locs : List Loc) (ls : Array Slot), f_X8_join_216 N fu x3 x5 x6 x7 t0 S = some (r, S') → va_P D vwCl ((es_wM a cI cZ N) S) H → va_S (es_AA a 21 s.heap.size) s.heap H locs → lv_has ls 9 [(0, .ref (a 0)), (3, .int x3), (5, .int x5), (6, .int x6), (7, .int x7)] → W p l e ({ frames := 5, cells := 0, slots := 0, locals := 126 } : Room) s m ([.ref (a 0), .int p1, .int p2, .int p3, .int p4] : List Value).toArray below meth c H locs 0 0 (MQ below (es_Qi D (es_wM a cI cZ N) a 21 r S' s.heap.size) ([.ref (a 0), .int p1, .int p2, .int p3, .int p4] : List Value).toArray s 0 0 (es_AA a 21 s.heap.size)) (F0 m 216 ls [.int t0])) := by
    intro x3 x5 x6 x7 t0 S H locs ls h hP hS hl
    unfold f_X8_join_216 at h
    refine lv_istore (lv' := [(8, .int t0), (0, .ref (a 0)), (3, .int x3), (5, .int x5), (6, .int x6), (7, .int x7)]) hx hb dX8_join_216 hl (by decide) rfl (fun ls hl => ?_)
    refine lv_iload hx hb dX8_join_218 (lv_at hl 0 rfl) ?_
    refine lv_if_ge (tgt := 232) hx hb dX8_join_220 (by decide) (fun c33 => ?_) (fun c33 => ?_)
    · replace h := es_if_t c33 h
      refine lv_aload_n hx hb dX8_join_232 rfl (lv_at hl 1 rfl) ?_
      refine lv_dup hx hb dX8_join_233 rfl ?_
      refine es_get C hP (es_wM_0 a cI cZ N S) rfl inlX8 (j := 6) (by decide) es_u21_5 rfl dX8_join_234 ?_
      refine lv_aload_n hx hb dX8_join_237 rfl (lv_at hl 1 rfl) ?_
      refine lv_iload hx hb dX8_join_238 (lv_at hl 4 rfl) ?_
      replace h := es_bd_e h
      obtain ⟨r34, S35, g36, h⟩ := h
      refine es_callVi C (c_X8_pagesOf l D cI cZ a N _ fu S S35 x6 r34 g36) es_u10_12 es_mX8_pagesOf ⟨rfl, rfl, by decide, by decide⟩ ⟨Nat.zero_le _, Nat.zero_le _⟩ hP hS (es_wM_0 a cI cZ N S) rfl rfl hl.1 rfl (Nat.le_of_ble_eq_true rfl) dX8_join_240 (fun H locs _ _ hP hS => ?_)
      refine lv_aload_n hx hb dX8_join_243 rfl (lv_at hl 1 rfl) ?_
      refine lv_iload hx hb dX8_join_244 (lv_at hl 5 rfl) ?_
      replace h := es_bd_e h
      obtain ⟨r37, S38, g39, h⟩ := h
      refine es_callVi C (c_X8_pagesOf l D cI cZ a N _ fu S35 S38 x7 r37 g39) es_u10_12 es_mX8_pagesOf ⟨rfl, rfl, by decide, by decide⟩ ⟨Nat.zero_le _, Nat.zero_le _⟩ hP hS (es_wM_0 a cI cZ N S35) rfl rfl hl.1 rfl (Nat.le_of_ble_eq_true rfl) dX8_join_246 (fun H locs _ _ hP hS => ?_)
      refine lv_iadd hx hb dX8_join_249 ?_
      refine lv_iadd hx hb dX8_join_250 ?_
      refine lv_topi (fun v40 ev40 => ?_)
      replace h := es_lt_e ev40 h
      refine es_put C hP hS (es_wM_0 a cI cZ N S38) rfl inlX8 tyX8_ok nmX8 (j := 6) (by decide) es_u21_5 rfl (tyX8_ok 6 (by decide)) rfl rfl (by simp) (es_sM_3 a cI cZ N S38 v40) dX8_join_251 (fun S41 eS41 H locs hP hS => ?_)
      replace h := es_lt_e eS41 h
      refine lv_aload_n hx hb dX8_join_254 rfl (lv_at hl 1 rfl) ?_
      refine lv_iload hx hb dX8_join_255 (lv_at hl 3 rfl) ?_
      refine lv_aload_n hx hb dX8_join_257 rfl (lv_at hl 1 rfl) ?_
      refine lv_iload hx hb dX8_join_258 (lv_at hl 0 rfl) ?_
      replace h := es_bd_e h
      obtain ⟨r42, S43, g44, h⟩ := h
      refine es_callVi C (c_X8_pagesOf l D cI cZ a N _ fu S41 S43 t0 r42 g44) es_u10_12 es_mX8_pagesOf ⟨rfl, rfl, by decide, by decide⟩ ⟨Nat.zero_le _, Nat.zero_le _⟩ hP hS (es_wM_0 a cI cZ N S41) rfl rfl hl.1 rfl (Nat.le_of_ble_eq_true rfl) dX8_join_260 (fun H locs _ _ hP hS => ?_)
      refine lv_iadd hx hb dX8_join_263 ?_
      refine lv_topi (fun v45 ev45 => ?_)
      replace h := es_lt_e ev45 h
      refine es_put C hP hS (es_wM_0 a cI cZ N S43) rfl inlX8 tyX8_ok nmX8 (j := 5) (by decide) es_u9_13 rfl (tyX8_ok 5 (by decide)) rfl rfl (by simp) (es_sM_2 a cI cZ N S43 v45) dX8_join_264 (fun S46 eS46 H locs hP hS => ?_)
      replace h := es_lt_e eS46 h
      refine lv_aload_n hx hb dX8_join_267 rfl (lv_at hl 1 rfl) ?_
      refine lv_dup hx hb dX8_join_268 rfl ?_
      refine es_get C hP (es_wM_0 a cI cZ N S46) rfl inlX8 (j := 7) (by decide) es_u21_6 rfl dX8_join_269 ?_
      refine lv_aload_n hx hb dX8_join_272 rfl (lv_at hl 1 rfl) ?_
      refine lv_iload hx hb dX8_join_273 (lv_at hl 0 rfl) ?_
      replace h := es_bd_e h
      obtain ⟨r47, S48, g49, h⟩ := h
      refine es_callVi C (c_X8_pagesOf l D cI cZ a N _ fu S46 S48 t0 r47 g49) es_u10_12 es_mX8_pagesOf ⟨rfl, rfl, by decide, by decide⟩ ⟨Nat.zero_le _, Nat.zero_le _⟩ hP hS (es_wM_0 a cI cZ N S46) rfl rfl hl.1 rfl (Nat.le_of_ble_eq_true rfl) dX8_join_275 (fun H locs _ _ hP hS => ?_)
      refine lv_iadd hx hb dX8_join_278 ?_
      refine lv_topi (fun v50 ev50 => ?_)
      replace h := es_lt_e ev50 h
      refine es_put C hP hS (es_wM_0 a cI cZ N S48) rfl inlX8 tyX8_ok nmX8 (j := 7) (by decide) es_u21_6 rfl (tyX8_ok 7 (by decide)) rfl rfl (by simp) (es_sM_4 a cI cZ N S48 v50) dX8_join_279 (fun S51 eS51 H locs hP hS => ?_)
      replace h := es_lt_e eS51 h
      refine lv_aload_n hx hb dX8_join_282 rfl (lv_at hl 1 rfl) ?_
      refine lv_aload_n hx hb dX8_join_283 rfl (lv_at hl 1 rfl) ?_
      refine es_get C hP (es_wM_0 a cI cZ N S51) rfl inlX8 (j := 5) (by decide) es_u9_13 rfl dX8_join_284 ?_
      refine lv_aload_n hx hb dX8_join_287 rfl (lv_at hl 1 rfl) ?_
      refine es_get C hP (es_wM_0 a cI cZ N S51) rfl inlX8 (j := 10) (by decide) es_u21_9 rfl dX8_join_288 ?_
      refine lv_icmp_le (tgt := 301) hx hb dX8_join_291 (by decide) (fun c52 => ?_) (fun c52 => ?_)
      · replace h := es_if_t c52 h
        refine lv_aload_n hx hb dX8_join_301 rfl (lv_at hl 1 rfl) ?_
        refine es_get C hP (es_wM_0 a cI cZ N S51) rfl inlX8 (j := 10) (by decide) es_u21_9 rfl dX8_join_302 ?_
        exact J305  x3 x6 x7 t0 (S51.1 7) S51 _ _ _ h hP hS (lv_sub hl [1, 2, 4, 5, 0] rfl)
      · replace h := es_if_f c52 h
        refine lv_aload_n hx hb dX8_join_294 rfl (lv_at hl 1 rfl) ?_
        refine es_get C hP (es_wM_0 a cI cZ N S51) rfl inlX8 (j := 5) (by decide) es_u9_13 rfl dX8_join_295 ?_
        refine lv_goto (tgt := 305) hx hb dX8_join_298 (by decide) ?_
        exact J305  x3 x6 x7 t0 (S51.1 2) S51 _ _ _ h hP hS (lv_sub hl [1, 2, 4, 5, 0] rfl)
    · replace h := es_if_f c33 h
      refine lv_aload_n hx hb dX8_join_223 rfl (lv_at hl 1 rfl) ?_
      refine lv_iload hx hb dX8_join_224 (lv_at hl 3 rfl) ?_
      refine es_put C hP hS (es_wM_0 a cI cZ N S) rfl inlX8 tyX8_ok nmX8 (j := 5) (by decide) es_u9_13 rfl (tyX8_ok 5 (by decide)) rfl rfl (by simp) (es_sM_2 a cI cZ N S x5) dX8_join_226 (fun S69 eS69 H locs hP hS => ?_)
      replace h := es_lt_e eS69 h
      refine lv_iload hx hb dX8_join_229 (lv_at hl 0 rfl) ?_
      exact es_iret C hr hlk h hP hS dX8_join_231
  have J134 : ∀ n : Nat, (∀ (x3 : Int32) (x4 : Int32) (x5 : Int32) (x6 : Int32) (x7 : Int32) (x8 : Int32) (S : es_St) (H : Heap) (locs : List Loc) (ls : Array Slot), f_X8_join_134 N fu n x3 x4 x5 x6 x7 x8 S = some (r, S') → va_P D vwCl ((es_wM a cI cZ N) S) H → va_S (es_AA a 21 s.heap.size) s.heap H locs → lv_has ls 9 [(0, .ref (a 0)), (3, .int x3), (4, .int x4), (5, .int x5), (6, .int x6), (7, .int x7), (8, .int x8)] → W p l e ({ frames := 5, cells := 0, slots := 0, locals := 126 } : Room) s m ([.ref (a 0), .int p1, .int p2, .int p3, .int p4] : List Value).toArray below meth c H locs 0 0 (MQ below (es_Qi D (es_wM a cI cZ N) a 21 r S' s.heap.size) ([.ref (a 0), .int p1, .int p2, .int p3, .int p4] : List Value).toArray s 0 0 (es_AA a 21 s.heap.size)) (F0 m 134 ls [])) := by
    intro n
    induction n with
    | zero => intro x3 x4 x5 x6 x7 x8 S H locs ls h; rw [f_X8_join_134] at h; cases h
    | succ n ih =>
      intro x3 x4 x5 x6 x7 x8 S H locs ls h hP hS hl
      rw [f_X8_join_134] at h
      refine lv_iload hx hb dX8_join_134 (lv_at hl 6 rfl) ?_
      refine lv_iload hx hb dX8_join_136 (lv_at hl 5 rfl) ?_
      refine lv_icmp_ge (tgt := 185) hx hb dX8_join_138 (by decide) (fun c28 => ?_) (fun c28 => ?_)
      · replace h := es_if_t c28 h
        refine lv_aload_n hx hb dX8_join_185 rfl (lv_at hl 0 rfl) ?_
        refine es_get C hP (es_wM_0 a cI cZ N S) rfl inlX8 (j := 11) (by decide) es_u20_23 rfl dX8_join_186 ?_
        refine lv_if_eq (tgt := 197) hx hb dX8_join_189 (by decide) (fun c29 => ?_) (fun c29 => ?_)
        · replace h := es_if_t c29 h
          refine lv_aload_n hx hb dX8_join_197 rfl (lv_at hl 0 rfl) ?_
          refine lv_iload hx hb dX8_join_198 (lv_at hl 4 rfl) ?_
          refine lv_iload hx hb dX8_join_200 (lv_at hl 5 rfl) ?_
          refine lv_iload hx hb dX8_join_202 (lv_at hl 3 rfl) ?_
          refine lv_iload hx hb dX8_join_204 (lv_at hl 2 rfl) ?_
          refine lv_iconst (v := 2) hx hb dX8_join_206 (by decide) ?_
          refine lv_isub hx hb dX8_join_207 ?_
          refine lv_aload_n hx hb dX8_join_208 rfl (lv_at hl 0 rfl) ?_
          refine es_get C hP (es_wM_0 a cI cZ N S) rfl inlX8 (j := 1) (by decide) es_u7_9 rfl dX8_join_209 ?_
          refine lv_imul hx hb dX8_join_212 ?_
          replace h := es_bd_e h
          obtain ⟨r30, S31, g32, h⟩ := h
          refine es_callVi C (c_X8_joined l D cI cZ a N _ fu S S31 x6 x7 x5 ((x4 - 2) * (S.1 1)) r30 g32) es_u27_17 es_mX8_joined ⟨rfl, rfl, by decide, by decide⟩ ⟨Nat.zero_le _, Nat.zero_le _⟩ hP hS (es_wM_0 a cI cZ N S) rfl rfl hl.1 rfl (Nat.le_of_ble_eq_true rfl) dX8_join_213 (fun H locs _ _ hP hS => ?_)
          exact J216  x3 x5 x6 x7 r30 S31 _ _ _ h hP hS (lv_sub hl [0, 1, 3, 4, 5] rfl)
        · replace h := es_if_f c29 h
          refine lv_bipush (v := (-2)) hx hb dX8_join_192 (by decide) ?_
          refine lv_goto (tgt := 216) hx hb dX8_join_194 (by decide) ?_
          exact J216  x3 x5 x6 x7 (-2) S _ _ _ h hP hS (lv_sub hl [0, 1, 3, 4, 5] rfl)
      · replace h := es_if_f c28 h
        refine lv_aload_n hx hb dX8_join_141 rfl (lv_at hl 0 rfl) ?_
        refine es_get C hP (es_wM_0 a cI cZ N S) rfl inlX8 (j := 35) (by decide) es_u7_6 rfl dX8_join_142 ?_
        refine lv_iload hx hb dX8_join_145 (lv_at hl 6 rfl) ?_
        refine lv_aload_n hx hb dX8_join_147 rfl (lv_at hl 0 rfl) ?_
        refine es_get C hP (es_wM_0 a cI cZ N S) rfl inlX8 (j := 12) (by decide) es_u6_14 rfl dX8_join_148 ?_
        refine lv_aload_n hx hb dX8_join_151 rfl (lv_at hl 0 rfl) ?_
        refine es_get C hP (es_wM_0 a cI cZ N S) rfl inlX8 (j := 14) (by decide) es_u21_0 rfl dX8_join_152 ?_
        refine lv_iload hx hb dX8_join_155 (lv_at hl 6 rfl) ?_
        refine lv_iadd hx hb dX8_join_157 ?_
        replace h := es_ck_e h
        obtain ⟨b70, h⟩ := h
        refine es_ald C hP (es_wM_4 a cI cZ N S) (t0 := 0) rfl b70 dX8_join_158 ?_
        refine lv_topi (fun v71 ev71 => ?_)
        replace h := es_lt_e ev71 h
        replace h := es_ck_e h
        obtain ⟨b72, h⟩ := h
        refine es_ast C hP hS (es_wM_19 a cI cZ N S) (es_rM_19 a cI cZ N S) (t0 := 0) rfl b72 dX8_join_159 (fun S73 eS73 H locs hP hS => ?_)
        replace h := es_lt_e eS73 h
        refine lv_aload_n hx hb dX8_join_160 rfl (lv_at hl 0 rfl) ?_
        refine es_get C hP (es_wM_0 a cI cZ N S73) rfl inlX8 (j := 36) (by decide) es_u7_7 rfl dX8_join_161 ?_
        refine lv_iload hx hb dX8_join_164 (lv_at hl 6 rfl) ?_
        refine lv_aload_n hx hb dX8_join_166 rfl (lv_at hl 0 rfl) ?_
        refine es_get C hP (es_wM_0 a cI cZ N S73) rfl inlX8 (j := 13) (by decide) es_u6_15 rfl dX8_join_167 ?_
        refine lv_aload_n hx hb dX8_join_170 rfl (lv_at hl 0 rfl) ?_
        refine es_get C hP (es_wM_0 a cI cZ N S73) rfl inlX8 (j := 14) (by decide) es_u21_0 rfl dX8_join_171 ?_
        refine lv_iload hx hb dX8_join_174 (lv_at hl 6 rfl) ?_
        refine lv_iadd hx hb dX8_join_176 ?_
        replace h := es_ck_e h
        obtain ⟨b74, h⟩ := h
        refine es_ald C hP (es_wM_5 a cI cZ N S73) (t0 := 0) rfl b74 dX8_join_177 ?_
        refine lv_topi (fun v75 ev75 => ?_)
        replace h := es_lt_e ev75 h
        replace h := es_ck_e h
        obtain ⟨b76, h⟩ := h
        refine es_ast C hP hS (es_wM_20 a cI cZ N S73) (es_rM_20 a cI cZ N S73) (t0 := 0) rfl b76 dX8_join_178 (fun S77 eS77 H locs hP hS => ?_)
        replace h := es_lt_e eS77 h
        obtain ⟨y78, ey78⟩ : ∃ y : Int32, y = x8 + 1 := ⟨_, rfl⟩
        refine lv_iinc (v := y78) (lv' := [(8, .int y78), (0, .ref (a 0)), (3, .int x3), (4, .int x4), (5, .int x5), (6, .int x6), (7, .int x7)]) hx hb dX8_join_179 hl (k := 6) rfl (by rw [ey78]; rfl) (by decide) rfl (fun ls hl => ?_)
        replace h := es_lt_e ey78 h
        refine lv_goto (tgt := 134) hx hb dX8_join_182 (by decide) ?_
        exact ih x3 x4 x5 x6 x7 y78 S77 _ _ _ h hP hS (lv_sub hl [1, 2, 3, 4, 5, 6, 0] rfl)
  have J58 : ∀ n : Nat, (∀ (x2 : Int32) (x3 : Int32) (x4 : Int32) (x5 : Int32) (x6 : Int32) (x7 : Int32) (S : es_St) (H : Heap) (locs : List Loc) (ls : Array Slot), f_X8_join_58 N fu n x2 x3 x4 x5 x6 x7 S = some (r, S') → va_P D vwCl ((es_wM a cI cZ N) S) H → va_S (es_AA a 21 s.heap.size) s.heap H locs → lv_has ls 9 [(0, .ref (a 0)), (2, .int x2), (3, .int x3), (4, .int x4), (5, .int x5), (6, .int x6), (7, .int x7)] → W p l e ({ frames := 5, cells := 0, slots := 0, locals := 126 } : Room) s m ([.ref (a 0), .int p1, .int p2, .int p3, .int p4] : List Value).toArray below meth c H locs 0 0 (MQ below (es_Qi D (es_wM a cI cZ N) a 21 r S' s.heap.size) ([.ref (a 0), .int p1, .int p2, .int p3, .int p4] : List Value).toArray s 0 0 (es_AA a 21 s.heap.size)) (F0 m 58 ls [])) := by
    intro n
    induction n with
    | zero => intro x2 x3 x4 x5 x6 x7 S H locs ls h; rw [f_X8_join_58] at h; cases h
    | succ n ih =>
      intro x2 x3 x4 x5 x6 x7 S H locs ls h hP hS hl
      rw [f_X8_join_58] at h
      refine lv_iload hx hb dX8_join_58 (lv_at hl 6 rfl) ?_
      refine lv_iload hx hb dX8_join_60 (lv_at hl 5 rfl) ?_
      refine lv_icmp_ge (tgt := 109) hx hb dX8_join_62 (by decide) (fun c23 => ?_) (fun c23 => ?_)
      · replace h := es_if_t c23 h
        refine lv_aload_n hx hb dX8_join_109 rfl (lv_at hl 0 rfl) ?_
        refine es_get C hP (es_wM_0 a cI cZ N S) rfl inlX8 (j := 11) (by decide) es_u20_23 rfl dX8_join_110 ?_
        refine lv_if_eq (tgt := 120) hx hb dX8_join_113 (by decide) (fun c24 => ?_) (fun c24 => ?_)
        · replace h := es_if_t c24 h
          refine lv_aload_n hx hb dX8_join_120 rfl (lv_at hl 0 rfl) ?_
          refine lv_iload_n hx hb dX8_join_121 rfl (lv_at hl 1 rfl) ?_
          refine lv_iload hx hb dX8_join_122 (lv_at hl 3 rfl) ?_
          refine lv_iconst (v := 0) hx hb dX8_join_124 (by decide) ?_
          refine lv_iconst (v := 0) hx hb dX8_join_125 (by decide) ?_
          replace h := es_bd_e h
          obtain ⟨r25, S26, g27, h⟩ := h
          refine es_callVi C (c_X8_sorted l D cI cZ a N _ fu S S26 x2 x4 0 0 r25 g27) es_u21_11 es_mX8_sorted ⟨rfl, rfl, by decide, by decide⟩ ⟨Nat.zero_le _, Nat.zero_le _⟩ hP hS (es_wM_0 a cI cZ N S) rfl rfl hl.1 rfl (Nat.le_of_ble_eq_true rfl) dX8_join_126 (fun H locs _ _ hP hS => ?_)
          refine lv_istore (lv' := [(7, .int r25), (0, .ref (a 0)), (2, .int x2), (3, .int x3), (4, .int x4), (5, .int x5), (6, .int x6)]) hx hb dX8_join_129 hl (by decide) rfl (fun ls hl => ?_)
          refine lv_iconst (v := 0) hx hb dX8_join_131 (by decide) ?_
          refine lv_istore (lv' := [(8, .int 0), (7, .int r25), (0, .ref (a 0)), (2, .int x2), (3, .int x3), (4, .int x4), (5, .int x5), (6, .int x6)]) hx hb dX8_join_132 hl (by decide) rfl (fun ls hl => ?_)
          exact J134  fu x3 x4 x5 x6 r25 0 S26 _ _ _ h hP hS (lv_sub hl [2, 4, 5, 6, 7, 1, 0] rfl)
        · replace h := es_if_f c24 h
          refine lv_iconst (v := 0) hx hb dX8_join_116 (by decide) ?_
          refine lv_goto (tgt := 129) hx hb dX8_join_117 (by decide) ?_
          refine lv_istore (lv' := [(7, .int 0), (0, .ref (a 0)), (2, .int x2), (3, .int x3), (4, .int x4), (5, .int x5), (6, .int x6)]) hx hb dX8_join_129 hl (by decide) rfl (fun ls hl => ?_)
          refine lv_iconst (v := 0) hx hb dX8_join_131 (by decide) ?_
          refine lv_istore (lv' := [(8, .int 0), (7, .int 0), (0, .ref (a 0)), (2, .int x2), (3, .int x3), (4, .int x4), (5, .int x5), (6, .int x6)]) hx hb dX8_join_132 hl (by decide) rfl (fun ls hl => ?_)
          exact J134  fu x3 x4 x5 x6 0 0 S _ _ _ h hP hS (lv_sub hl [2, 4, 5, 6, 7, 1, 0] rfl)
      · replace h := es_if_f c23 h
        refine lv_aload_n hx hb dX8_join_65 rfl (lv_at hl 0 rfl) ?_
        refine es_get C hP (es_wM_0 a cI cZ N S) rfl inlX8 (j := 33) (by decide) es_u7_4 rfl dX8_join_66 ?_
        refine lv_iload hx hb dX8_join_69 (lv_at hl 6 rfl) ?_
        refine lv_aload_n hx hb dX8_join_71 rfl (lv_at hl 0 rfl) ?_
        refine es_get C hP (es_wM_0 a cI cZ N S) rfl inlX8 (j := 12) (by decide) es_u6_14 rfl dX8_join_72 ?_
        refine lv_aload_n hx hb dX8_join_75 rfl (lv_at hl 0 rfl) ?_
        refine es_get C hP (es_wM_0 a cI cZ N S) rfl inlX8 (j := 14) (by decide) es_u21_0 rfl dX8_join_76 ?_
        refine lv_iload hx hb dX8_join_79 (lv_at hl 6 rfl) ?_
        refine lv_iadd hx hb dX8_join_81 ?_
        replace h := es_ck_e h
        obtain ⟨b79, h⟩ := h
        refine es_ald C hP (es_wM_4 a cI cZ N S) (t0 := 0) rfl b79 dX8_join_82 ?_
        refine lv_topi (fun v80 ev80 => ?_)
        replace h := es_lt_e ev80 h
        replace h := es_ck_e h
        obtain ⟨b81, h⟩ := h
        refine es_ast C hP hS (es_wM_17 a cI cZ N S) (es_rM_17 a cI cZ N S) (t0 := 0) rfl b81 dX8_join_83 (fun S82 eS82 H locs hP hS => ?_)
        replace h := es_lt_e eS82 h
        refine lv_aload_n hx hb dX8_join_84 rfl (lv_at hl 0 rfl) ?_
        refine es_get C hP (es_wM_0 a cI cZ N S82) rfl inlX8 (j := 34) (by decide) es_u7_5 rfl dX8_join_85 ?_
        refine lv_iload hx hb dX8_join_88 (lv_at hl 6 rfl) ?_
        refine lv_aload_n hx hb dX8_join_90 rfl (lv_at hl 0 rfl) ?_
        refine es_get C hP (es_wM_0 a cI cZ N S82) rfl inlX8 (j := 13) (by decide) es_u6_15 rfl dX8_join_91 ?_
        refine lv_aload_n hx hb dX8_join_94 rfl (lv_at hl 0 rfl) ?_
        refine es_get C hP (es_wM_0 a cI cZ N S82) rfl inlX8 (j := 14) (by decide) es_u21_0 rfl dX8_join_95 ?_
        refine lv_iload hx hb dX8_join_98 (lv_at hl 6 rfl) ?_
        refine lv_iadd hx hb dX8_join_100 ?_
        replace h := es_ck_e h
        obtain ⟨b83, h⟩ := h
        refine es_ald C hP (es_wM_5 a cI cZ N S82) (t0 := 0) rfl b83 dX8_join_101 ?_
        refine lv_topi (fun v84 ev84 => ?_)
        replace h := es_lt_e ev84 h
        replace h := es_ck_e h
        obtain ⟨b85, h⟩ := h
        refine es_ast C hP hS (es_wM_18 a cI cZ N S82) (es_rM_18 a cI cZ N S82) (t0 := 0) rfl b85 dX8_join_102 (fun S86 eS86 H locs hP hS => ?_)
        replace h := es_lt_e eS86 h
        obtain ⟨y87, ey87⟩ : ∃ y : Int32, y = x7 + 1 := ⟨_, rfl⟩
        refine lv_iinc (v := y87) (lv' := [(7, .int y87), (0, .ref (a 0)), (2, .int x2), (3, .int x3), (4, .int x4), (5, .int x5), (6, .int x6)]) hx hb dX8_join_103 hl (k := 6) rfl (by rw [ey87]; rfl) (by decide) rfl (fun ls hl => ?_)
        replace h := es_lt_e ey87 h
        refine lv_goto (tgt := 58) hx hb dX8_join_106 (by decide) ?_
        exact ih x2 x3 x4 x5 x6 y87 S86 _ _ _ h hP hS (lv_sub hl [1, 2, 3, 4, 5, 6, 0] rfl)
  unfold f_X8_join at h
  refine lv_iload_n hx hb dX8_join_0 rfl (lv_at hl 1 rfl) ?_
  replace h := es_bd_e h
  obtain ⟨r1, S2, g3, h⟩ := h
  refine es_callSi C (c_X8_isFile l D cI cZ a N _ fu S S2 p1 r1 g3) es_u9_14 es_mX8_isFile ⟨rfl, rfl, by decide, by decide⟩ ⟨Nat.zero_le _, Nat.zero_le _⟩ hP hS rfl hl.1 rfl (Nat.le_of_ble_eq_true rfl) dX8_join_1 (fun H locs _ _ hP hS => ?_)
  refine lv_if_eq (tgt := 32) hx hb dX8_join_4 (by decide) (fun c4 => ?_) (fun c4 => ?_)
  · replace h := es_if_t c4 h
    refine lv_iconst (v := (-1)) hx hb dX8_join_32 (by decide) ?_
    exact es_iret C hr hlk h hP hS dX8_join_33
  · replace h := es_if_f c4 h
    refine lv_iload_n hx hb dX8_join_7 rfl (lv_at hl 2 rfl) ?_
    replace h := es_bd_e h
    obtain ⟨r5, S6, g7, h⟩ := h
    refine es_callSi C (c_X8_isFile l D cI cZ a N _ fu S2 S6 p2 r5 g7) es_u9_14 es_mX8_isFile ⟨rfl, rfl, by decide, by decide⟩ ⟨Nat.zero_le _, Nat.zero_le _⟩ hP hS rfl hl.1 rfl (Nat.le_of_ble_eq_true rfl) dX8_join_8 (fun H locs _ _ hP hS => ?_)
    refine lv_if_eq (tgt := 32) hx hb dX8_join_11 (by decide) (fun c8 => ?_) (fun c8 => ?_)
    · replace h := es_if_t c8 h
      refine lv_iconst (v := (-1)) hx hb dX8_join_32 (by decide) ?_
      exact es_iret C hr hlk h hP hS dX8_join_33
    · replace h := es_if_f c8 h
      refine lv_iload_n hx hb dX8_join_14 rfl (lv_at hl 3 rfl) ?_
      replace h := es_bd_e h
      obtain ⟨r9, S10, g11, h⟩ := h
      refine es_callSi C (c_X8_isFile l D cI cZ a N _ fu S6 S10 p3 r9 g11) es_u9_14 es_mX8_isFile ⟨rfl, rfl, by decide, by decide⟩ ⟨Nat.zero_le _, Nat.zero_le _⟩ hP hS rfl hl.1 rfl (Nat.le_of_ble_eq_true rfl) dX8_join_15 (fun H locs _ _ hP hS => ?_)
      refine lv_if_eq (tgt := 32) hx hb dX8_join_18 (by decide) (fun c12 => ?_) (fun c12 => ?_)
      · replace h := es_if_t c12 h
        refine lv_iconst (v := (-1)) hx hb dX8_join_32 (by decide) ?_
        exact es_iret C hr hlk h hP hS dX8_join_33
      · replace h := es_if_f c12 h
        refine lv_iload hx hb dX8_join_21 (lv_at hl 4 rfl) ?_
        refine lv_iconst (v := 3) hx hb dX8_join_23 (by decide) ?_
        refine lv_bipush (v := 16) hx hb dX8_join_24 (by decide) ?_
        replace h := es_bd_e h
        obtain ⟨r13, S14, g15, h⟩ := h
        refine es_callSi C (c_X8_in l D cI cZ a N _ fu S10 S14 p4 3 16 r13 g15) es_u9_17 es_mX8_in ⟨rfl, rfl, by decide, by decide⟩ ⟨Nat.zero_le _, Nat.zero_le _⟩ hP hS rfl hl.1 rfl (Nat.le_of_ble_eq_true rfl) dX8_join_26 (fun H locs _ _ hP hS => ?_)
        refine lv_if_ne (tgt := 34) hx hb dX8_join_29 (by decide) (fun c16 => ?_) (fun c16 => ?_)
        · replace h := es_if_t c16 h
          refine lv_aload_n hx hb dX8_join_34 rfl (lv_at hl 0 rfl) ?_
          refine es_get C hP (es_wM_0 a cI cZ N S14) rfl inlX8 (j := 5) (by decide) es_u9_13 rfl dX8_join_35 ?_
          refine lv_istore (lv' := [(5, .int (S14.1 2)), (0, .ref (a 0)), (1, .int p1), (2, .int p2), (3, .int p3), (4, .int p4)]) hx hb dX8_join_38 hl (by decide) rfl (fun ls hl => ?_)
          refine lv_aload_n hx hb dX8_join_40 rfl (lv_at hl 1 rfl) ?_
          replace h := es_bd_e h
          obtain ⟨r17, S18, g19, h⟩ := h
          refine es_callVv C (c_X8_begins l D cI cZ a N _ fu S14 S18 r17 g19) es_u21_1 es_mX8_begins ⟨rfl, rfl, by decide, by decide⟩ ⟨Nat.zero_le _, Nat.zero_le _⟩ hP hS (es_wM_0 a cI cZ N S14) rfl rfl hl.1 rfl (Nat.le_of_ble_eq_true rfl) dX8_join_41 (fun H locs _ _ hP hS => ?_)
          refine lv_aload_n hx hb dX8_join_44 rfl (lv_at hl 1 rfl) ?_
          refine lv_iload_n hx hb dX8_join_45 rfl (lv_at hl 2 rfl) ?_
          refine lv_iload hx hb dX8_join_46 (lv_at hl 5 rfl) ?_
          refine lv_iconst (v := 0) hx hb dX8_join_48 (by decide) ?_
          refine lv_iconst (v := 0) hx hb dX8_join_49 (by decide) ?_
          replace h := es_bd_e h
          obtain ⟨r20, S21, g22, h⟩ := h
          refine es_callVi C (c_X8_sorted l D cI cZ a N _ fu S18 S21 p1 p4 0 0 r20 g22) es_u21_11 es_mX8_sorted ⟨rfl, rfl, by decide, by decide⟩ ⟨Nat.zero_le _, Nat.zero_le _⟩ hP hS (es_wM_0 a cI cZ N S18) rfl rfl hl.1 rfl (Nat.le_of_ble_eq_true rfl) dX8_join_50 (fun H locs _ _ hP hS => ?_)
          refine lv_istore (lv' := [(6, .int r20), (5, .int (S14.1 2)), (0, .ref (a 0)), (1, .int p1), (2, .int p2), (3, .int p3), (4, .int p4)]) hx hb dX8_join_53 hl (by decide) rfl (fun ls hl => ?_)
          refine lv_iconst (v := 0) hx hb dX8_join_55 (by decide) ?_
          refine lv_istore (lv' := [(7, .int 0), (6, .int r20), (5, .int (S14.1 2)), (0, .ref (a 0)), (1, .int p1), (2, .int p2), (3, .int p3), (4, .int p4)]) hx hb dX8_join_56 hl (by decide) rfl (fun ls hl => ?_)
          exact J58  fu p2 p3 p4 (S14.1 2) r20 0 S21 _ _ _ h hP hS (lv_sub hl [3, 5, 6, 7, 2, 1, 0] rfl)
        · replace h := es_if_f (fun q => q c16) h
          refine lv_iconst (v := (-1)) hx hb dX8_join_32 (by decide) ?_
          exact es_iret C hr hlk h hP hS dX8_join_33

set_option maxHeartbeats 4000000 in
set_option maxRecDepth 100000 in
theorem c_X8_key (l : Launch) (D : va_G) (cI cZ : ClassId) (a : Nat → Nat) (N : Nat → Nat) (sz fu : Nat) (S S' : es_St) (p1 : Int32) (p2 : Int32) (r : Int32) (h : f_X8_key N fu S p1 p2 = some (r, S')) : Met l yX8_key (Cond.code yX8_key cX8_key 3 (some .int) :: wsL_law) ({ frames := 2, cells := 0, slots := 0, locals := 42 } : Room) (es_Pre [.ref (a 0), .int p1, .int p2] D [(cI, .int), (cZ, .boolean)] (es_wM a cI cZ N) a 21 S sz) (es_Qi D (es_wM a cI cZ N) a 21 r S' sz) 0 0 (es_AA a 21 sz) := by
  refine es_intro (Qc := es_Qi D (es_wM a cI cZ N) a 21 r S') (by decide) (es_okM a cI cZ N) (Nat.le_of_ble_eq_true rfl) ?_
  intro p e s m below meth c C hr hlk hP ls hl
  have hx := C.1
  have hb := C.2.1
  have hown := C.2.2.2.1
  have hts := C.2.2.2.2.1
  have hS : va_S (es_AA a 21 s.heap.size) s.heap s.heap [] := va_S.rf
  replace hl : lv_has ls 3 [(0, .ref (a 0)), (1, .int p1), (2, .int p2)] := hl
  unfold f_X8_key at h
  refine lv_iload_n hx hb dX8_key_0 rfl (lv_at hl 1 rfl) ?_
  replace h := es_bd_e h
  obtain ⟨r1, S2, g3, h⟩ := h
  refine es_callSi C (c_X8_isFile l D cI cZ a N _ fu S S2 p1 r1 g3) es_u9_14 es_mX8_isFile ⟨rfl, rfl, by decide, by decide⟩ ⟨Nat.zero_le _, Nat.zero_le _⟩ hP hS rfl hl.1 rfl (Nat.le_of_ble_eq_true rfl) dX8_key_1 (fun H locs _ _ hP hS => ?_)
  refine lv_if_eq (tgt := 38) hx hb dX8_key_4 (by decide) (fun c4 => ?_) (fun c4 => ?_)
  · replace h := es_if_t c4 h
    refine lv_iconst (v := 0) hx hb dX8_key_38 (by decide) ?_
    exact es_iret C hr hlk h hP hS dX8_key_39
  · replace h := es_if_f c4 h
    refine lv_iload_n hx hb dX8_key_7 rfl (lv_at hl 2 rfl) ?_
    refine lv_iconst (v := 0) hx hb dX8_key_8 (by decide) ?_
    refine lv_aload_n hx hb dX8_key_9 rfl (lv_at hl 0 rfl) ?_
    refine es_get C hP (es_wM_0 a cI cZ N S2) rfl inlX8 (j := 4) (by decide) es_u6_13 rfl dX8_key_10 ?_
    refine lv_iload_n hx hb dX8_key_13 rfl (lv_at hl 1 rfl) ?_
    replace h := es_ck_e h
    obtain ⟨b5, h⟩ := h
    refine es_ald C hP (es_wM_3 a cI cZ N S2) (t0 := 0) rfl b5 dX8_key_14 ?_
    refine lv_topi (fun v6 ev6 => ?_)
    replace h := es_lt_e ev6 h
    refine lv_iconst (v := 1) hx hb dX8_key_15 (by decide) ?_
    refine lv_isub hx hb dX8_key_16 ?_
    replace h := es_bd_e h
    obtain ⟨r7, S8, g9, h⟩ := h
    refine es_callSi C (c_X8_in l D cI cZ a N _ fu S2 S8 p2 0 (v6 - 1) r7 g9) es_u9_17 es_mX8_in ⟨rfl, rfl, by decide, by decide⟩ ⟨Nat.zero_le _, Nat.zero_le _⟩ hP hS rfl hl.1 rfl (Nat.le_of_ble_eq_true rfl) dX8_key_17 (fun H locs _ _ hP hS => ?_)
    refine lv_if_eq (tgt := 38) hx hb dX8_key_20 (by decide) (fun c10 => ?_) (fun c10 => ?_)
    · replace h := es_if_t c10 h
      refine lv_iconst (v := 0) hx hb dX8_key_38 (by decide) ?_
      exact es_iret C hr hlk h hP hS dX8_key_39
    · replace h := es_if_f c10 h
      refine lv_aload_n hx hb dX8_key_23 rfl (lv_at hl 0 rfl) ?_
      refine es_get C hP (es_wM_0 a cI cZ N S8) rfl inlX8 (j := 2) (by decide) es_u6_11 rfl dX8_key_24 ?_
      refine lv_sipush (v := 8192) hx hb dX8_key_27 (by decide) ?_
      refine lv_iload_n hx hb dX8_key_30 rfl (lv_at hl 1 rfl) ?_
      refine lv_imul hx hb dX8_key_31 ?_
      refine lv_iload_n hx hb dX8_key_32 rfl (lv_at hl 2 rfl) ?_
      refine lv_iadd hx hb dX8_key_33 ?_
      replace h := es_ck_e h
      obtain ⟨b11, h⟩ := h
      refine es_ald C hP (es_wM_1 a cI cZ N S8) (t0 := 0) rfl b11 dX8_key_34 ?_
      refine lv_topi (fun v12 ev12 => ?_)
      replace h := es_lt_e ev12 h
      refine lv_goto (tgt := 39) hx hb dX8_key_35 (by decide) ?_
      exact es_iret C hr hlk h hP hS dX8_key_39

set_option maxHeartbeats 4000000 in
set_option maxRecDepth 100000 in
theorem c_X8_run (l : Launch) (D : va_G) (cI cZ : ClassId) (a : Nat → Nat) (N : Nat → Nat) (sz fu : Nat) (S S' : es_St) (p1 : Int32) (r : Int32) (h : f_X8_run N fu S p1 = some (r, S')) : Met l yX8_run (Cond.code yX8_run cX8_run 2 (some .int) :: wsL_law) ({ frames := 1, cells := 0, slots := 0, locals := 22 } : Room) (es_Pre [.ref (a 0), .int p1] D [(cI, .int), (cZ, .boolean)] (es_wM a cI cZ N) a 21 S sz) (es_Qi D (es_wM a cI cZ N) a 21 r S' sz) 0 0 (es_AA a 21 sz) := by
  refine es_intro (Qc := es_Qi D (es_wM a cI cZ N) a 21 r S') (by decide) (es_okM a cI cZ N) (Nat.le_of_ble_eq_true rfl) ?_
  intro p e s m below meth c C hr hlk hP ls hl
  have hx := C.1
  have hb := C.2.1
  have hown := C.2.2.2.1
  have hts := C.2.2.2.2.1
  have hS : va_S (es_AA a 21 s.heap.size) s.heap s.heap [] := va_S.rf
  replace hl : lv_has ls 2 [(0, .ref (a 0)), (1, .int p1)] := hl
  unfold f_X8_run at h
  refine lv_iload_n hx hb dX8_run_0 rfl (lv_at hl 1 rfl) ?_
  refine lv_iconst (v := 0) hx hb dX8_run_1 (by decide) ?_
  refine lv_aload_n hx hb dX8_run_2 rfl (lv_at hl 0 rfl) ?_
  refine es_get C hP (es_wM_0 a cI cZ N S) rfl inlX8 (j := 28) (by decide) es_u24_0 rfl dX8_run_3 ?_
  refine lv_iconst (v := 1) hx hb dX8_run_6 (by decide) ?_
  refine lv_isub hx hb dX8_run_7 ?_
  replace h := es_bd_e h
  obtain ⟨r1, S2, g3, h⟩ := h
  refine es_callSi C (c_X8_in l D cI cZ a N _ fu S S2 p1 0 ((S.1 15) - 1) r1 g3) es_u9_17 es_mX8_in ⟨rfl, rfl, by decide, by decide⟩ ⟨Nat.zero_le _, Nat.zero_le _⟩ hP hS rfl hl.1 rfl (Nat.le_of_ble_eq_true rfl) dX8_run_8 (fun H locs _ _ hP hS => ?_)
  refine lv_if_eq (tgt := 23) hx hb dX8_run_11 (by decide) (fun c4 => ?_) (fun c4 => ?_)
  · replace h := es_if_t c4 h
    refine lv_iconst (v := (-1)) hx hb dX8_run_23 (by decide) ?_
    exact es_iret C hr hlk h hP hS dX8_run_24
  · replace h := es_if_f c4 h
    refine lv_aload_n hx hb dX8_run_14 rfl (lv_at hl 0 rfl) ?_
    refine es_get C hP (es_wM_0 a cI cZ N S2) rfl inlX8 (j := 27) (by decide) es_u7_0 rfl dX8_run_15 ?_
    refine lv_iload_n hx hb dX8_run_18 rfl (lv_at hl 1 rfl) ?_
    replace h := es_ck_e h
    obtain ⟨b5, h⟩ := h
    refine es_ald C hP (es_wM_13 a cI cZ N S2) (t0 := 0) rfl b5 dX8_run_19 ?_
    refine lv_topi (fun v6 ev6 => ?_)
    replace h := es_lt_e ev6 h
    refine lv_goto (tgt := 24) hx hb dX8_run_20 (by decide) ?_
    exact es_iret C hr hlk h hP hS dX8_run_24

set_option maxHeartbeats 4000000 in
set_option maxRecDepth 100000 in
theorem c_X8_size (l : Launch) (D : va_G) (cI cZ : ClassId) (a : Nat → Nat) (N : Nat → Nat) (sz fu : Nat) (S S' : es_St) (p1 : Int32) (r : Int32) (h : f_X8_size N fu S p1 = some (r, S')) : Met l yX8_size (Cond.code yX8_size cX8_size 2 (some .int) :: wsL_law) ({ frames := 2, cells := 0, slots := 0, locals := 42 } : Room) (es_Pre [.ref (a 0), .int p1] D [(cI, .int), (cZ, .boolean)] (es_wM a cI cZ N) a 21 S sz) (es_Qi D (es_wM a cI cZ N) a 21 r S' sz) 0 0 (es_AA a 21 sz) := by
  refine es_intro (Qc := es_Qi D (es_wM a cI cZ N) a 21 r S') (by decide) (es_okM a cI cZ N) (Nat.le_of_ble_eq_true rfl) ?_
  intro p e s m below meth c C hr hlk hP ls hl
  have hx := C.1
  have hb := C.2.1
  have hown := C.2.2.2.1
  have hts := C.2.2.2.2.1
  have hS : va_S (es_AA a 21 s.heap.size) s.heap s.heap [] := va_S.rf
  replace hl : lv_has ls 2 [(0, .ref (a 0)), (1, .int p1)] := hl
  unfold f_X8_size at h
  refine lv_iload_n hx hb dX8_size_0 rfl (lv_at hl 1 rfl) ?_
  replace h := es_bd_e h
  obtain ⟨r1, S2, g3, h⟩ := h
  refine es_callSi C (c_X8_isFile l D cI cZ a N _ fu S S2 p1 r1 g3) es_u9_14 es_mX8_isFile ⟨rfl, rfl, by decide, by decide⟩ ⟨Nat.zero_le _, Nat.zero_le _⟩ hP hS rfl hl.1 rfl (Nat.le_of_ble_eq_true rfl) dX8_size_1 (fun H locs _ _ hP hS => ?_)
  refine lv_if_eq (tgt := 16) hx hb dX8_size_4 (by decide) (fun c4 => ?_) (fun c4 => ?_)
  · replace h := es_if_t c4 h
    refine lv_iconst (v := (-1)) hx hb dX8_size_16 (by decide) ?_
    exact es_iret C hr hlk h hP hS dX8_size_17
  · replace h := es_if_f c4 h
    refine lv_aload_n hx hb dX8_size_7 rfl (lv_at hl 0 rfl) ?_
    refine es_get C hP (es_wM_0 a cI cZ N S2) rfl inlX8 (j := 4) (by decide) es_u6_13 rfl dX8_size_8 ?_
    refine lv_iload_n hx hb dX8_size_11 rfl (lv_at hl 1 rfl) ?_
    replace h := es_ck_e h
    obtain ⟨b5, h⟩ := h
    refine es_ald C hP (es_wM_3 a cI cZ N S2) (t0 := 0) rfl b5 dX8_size_12 ?_
    refine lv_topi (fun v6 ev6 => ?_)
    replace h := es_lt_e ev6 h
    refine lv_goto (tgt := 17) hx hb dX8_size_13 (by decide) ?_
    exact es_iret C hr hlk h hP hS dX8_size_17

set_option maxHeartbeats 4000000 in
set_option maxRecDepth 100000 in
theorem c_X8_sort (l : Launch) (D : va_G) (cI cZ : ClassId) (a : Nat → Nat) (N : Nat → Nat) (sz fu : Nat) (S S' : es_St) (p1 : Int32) (p2 : Int32) (p3 : Int32) (p4 : Int32) (r : Int32) (h : f_X8_sort N fu S p1 p2 p3 p4 = some (r, S')) : Met l yX8_sort (Cond.code yX8_sort cX8_sort 5 (some .int) :: wsL_law) ({ frames := 6, cells := 0, slots := 0, locals := 154 } : Room) (es_Pre [.ref (a 0), .int p1, .int p2, .int p3, .int p4] D [(cI, .int), (cZ, .boolean)] (es_wM a cI cZ N) a 21 S sz) (es_Qi D (es_wM a cI cZ N) a 21 r S' sz) 0 0 (es_AA a 21 sz) := by
  refine es_intro (Qc := es_Qi D (es_wM a cI cZ N) a 21 r S') (by decide) (es_okM a cI cZ N) (Nat.le_of_ble_eq_true rfl) ?_
  intro p e s m below meth c C hr hlk hP ls hl
  have hx := C.1
  have hb := C.2.1
  have hown := C.2.2.2.1
  have hts := C.2.2.2.2.1
  have hS : va_S (es_AA a 21 s.heap.size) s.heap s.heap [] := va_S.rf
  replace hl : lv_has ls 5 [(0, .ref (a 0)), (1, .int p1), (2, .int p2), (3, .int p3), (4, .int p4)] := hl
  unfold f_X8_sort at h
  refine lv_iload_n hx hb dX8_sort_0 rfl (lv_at hl 1 rfl) ?_
  replace h := es_bd_e h
  obtain ⟨r1, S2, g3, h⟩ := h
  refine es_callSi C (c_X8_isFile l D cI cZ a N _ fu S S2 p1 r1 g3) es_u9_14 es_mX8_isFile ⟨rfl, rfl, by decide, by decide⟩ ⟨Nat.zero_le _, Nat.zero_le _⟩ hP hS rfl hl.1 rfl (Nat.le_of_ble_eq_true rfl) dX8_sort_1 (fun H locs _ _ hP hS => ?_)
  refine lv_if_eq (tgt := 47) hx hb dX8_sort_4 (by decide) (fun c4 => ?_) (fun c4 => ?_)
  · replace h := es_if_t c4 h
    refine lv_iconst (v := (-1)) hx hb dX8_sort_47 (by decide) ?_
    exact es_iret C hr hlk h hP hS dX8_sort_48
  · replace h := es_if_f c4 h
    refine lv_iload_n hx hb dX8_sort_7 rfl (lv_at hl 2 rfl) ?_
    replace h := es_bd_e h
    obtain ⟨r5, S6, g7, h⟩ := h
    refine es_callSi C (c_X8_isFile l D cI cZ a N _ fu S2 S6 p2 r5 g7) es_u9_14 es_mX8_isFile ⟨rfl, rfl, by decide, by decide⟩ ⟨Nat.zero_le _, Nat.zero_le _⟩ hP hS rfl hl.1 rfl (Nat.le_of_ble_eq_true rfl) dX8_sort_8 (fun H locs _ _ hP hS => ?_)
    refine lv_if_eq (tgt := 47) hx hb dX8_sort_11 (by decide) (fun c8 => ?_) (fun c8 => ?_)
    · replace h := es_if_t c8 h
      refine lv_iconst (v := (-1)) hx hb dX8_sort_47 (by decide) ?_
      exact es_iret C hr hlk h hP hS dX8_sort_48
    · replace h := es_if_f c8 h
      refine lv_iload_n hx hb dX8_sort_14 rfl (lv_at hl 3 rfl) ?_
      refine lv_iconst (v := 3) hx hb dX8_sort_15 (by decide) ?_
      refine lv_bipush (v := 16) hx hb dX8_sort_16 (by decide) ?_
      replace h := es_bd_e h
      obtain ⟨r9, S10, g11, h⟩ := h
      refine es_callSi C (c_X8_in l D cI cZ a N _ fu S6 S10 p3 3 16 r9 g11) es_u9_17 es_mX8_in ⟨rfl, rfl, by decide, by decide⟩ ⟨Nat.zero_le _, Nat.zero_le _⟩ hP hS rfl hl.1 rfl (Nat.le_of_ble_eq_true rfl) dX8_sort_18 (fun H locs _ _ hP hS => ?_)
      refine lv_if_eq (tgt := 47) hx hb dX8_sort_21 (by decide) (fun c12 => ?_) (fun c12 => ?_)
      · replace h := es_if_t c12 h
        refine lv_iconst (v := (-1)) hx hb dX8_sort_47 (by decide) ?_
        exact es_iret C hr hlk h hP hS dX8_sort_48
      · replace h := es_if_f c12 h
        refine lv_iload hx hb dX8_sort_24 (lv_at hl 4 rfl) ?_
        refine lv_iconst (v := 0) hx hb dX8_sort_26 (by decide) ?_
        refine lv_iconst (v := 2) hx hb dX8_sort_27 (by decide) ?_
        replace h := es_bd_e h
        obtain ⟨r13, S14, g15, h⟩ := h
        refine es_callSi C (c_X8_in l D cI cZ a N _ fu S10 S14 p4 0 2 r13 g15) es_u9_17 es_mX8_in ⟨rfl, rfl, by decide, by decide⟩ ⟨Nat.zero_le _, Nat.zero_le _⟩ hP hS rfl hl.1 rfl (Nat.le_of_ble_eq_true rfl) dX8_sort_28 (fun H locs _ _ hP hS => ?_)
        refine lv_if_eq (tgt := 47) hx hb dX8_sort_31 (by decide) (fun c16 => ?_) (fun c16 => ?_)
        · replace h := es_if_t c16 h
          refine lv_iconst (v := (-1)) hx hb dX8_sort_47 (by decide) ?_
          exact es_iret C hr hlk h hP hS dX8_sort_48
        · replace h := es_if_f c16 h
          refine lv_aload_n hx hb dX8_sort_34 rfl (lv_at hl 0 rfl) ?_
          refine lv_iload_n hx hb dX8_sort_35 rfl (lv_at hl 1 rfl) ?_
          refine lv_iload_n hx hb dX8_sort_36 rfl (lv_at hl 2 rfl) ?_
          refine lv_iload_n hx hb dX8_sort_37 rfl (lv_at hl 3 rfl) ?_
          refine lv_iload hx hb dX8_sort_38 (lv_at hl 4 rfl) ?_
          refine lv_iconst (v := 0) hx hb dX8_sort_40 (by decide) ?_
          replace h := es_bd_e h
          obtain ⟨r17, S18, g19, h⟩ := h
          refine es_callVi C (c_X8_sorts l D cI cZ a N _ fu S14 S18 p1 p2 p3 p4 0 r17 g19) es_u20_19 es_mX8_sorts ⟨rfl, rfl, by decide, by decide⟩ ⟨Nat.zero_le _, Nat.zero_le _⟩ hP hS (es_wM_0 a cI cZ N S14) rfl rfl hl.1 rfl (Nat.le_of_ble_eq_true rfl) dX8_sort_41 (fun H locs _ _ hP hS => ?_)
          refine lv_goto (tgt := 48) hx hb dX8_sort_44 (by decide) ?_
          exact es_iret C hr hlk h hP hS dX8_sort_48
