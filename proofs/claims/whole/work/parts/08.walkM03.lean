set_option maxHeartbeats 4000000 in
set_option maxRecDepth 100000 in
theorem c_X8_merge (l : Launch) (D : va_G) (cI cZ : ClassId) (a : Nat → Nat) (N : Nat → Nat) (sz fu : Nat) (S S' : es_St) (p1 : Int32) (p2 : Int32) (p3 : Int32) (p4 : Int32) (r : Int32) (h : f_X8_merge N fu S p1 p2 p3 p4 = some (r, S')) : Met l yX8_merge (Cond.code yX8_merge cX8_merge 9 (some .int) :: wsL_law) ({ frames := 2, cells := 0, slots := 0, locals := 47 } : Room) (es_Pre [.ref (a 0), .int p1, .int p2, .int p3, .int p4] D [(cI, .int), (cZ, .boolean)] (es_wM a cI cZ N) a 21 S sz) (es_Qi D (es_wM a cI cZ N) a 21 r S' sz) 0 0 (es_AA a 21 sz) := by
  refine es_intro (Qc := es_Qi D (es_wM a cI cZ N) a 21 r S') (by decide) (es_okM a cI cZ N) (Nat.le_of_ble_eq_true rfl) ?_
  intro p e s m below meth c C hr hlk hP ls hl
  have hx := C.1
  have hb := C.2.1
  have hown := C.2.2.2.1
  have hts := C.2.2.2.2.1
  have hS : va_S (es_AA a 21 s.heap.size) s.heap s.heap [] := va_S.rf
  replace hl : lv_has ls 9 [(0, .ref (a 0)), (1, .int p1), (2, .int p2), (3, .int p3), (4, .int p4)] := hl
  have J191 : (∀ (x4 : Int32) (x5 : Int32) (S : es_St) (H : Heap) (locs : List Loc) (ls : Array Slot), f_X8_merge_191 N fu x4 x5 S = some (r, S') → va_P D vwCl ((es_wM a cI cZ N) S) H → va_S (es_AA a 21 s.heap.size) s.heap H locs → lv_has ls 9 [(0, .ref (a 0)), (4, .int x4), (5, .int x5)] → W p l e ({ frames := 2, cells := 0, slots := 0, locals := 47 } : Room) s m ([.ref (a 0), .int p1, .int p2, .int p3, .int p4] : List Value).toArray below meth c H locs 0 0 (MQ below (es_Qi D (es_wM a cI cZ N) a 21 r S' s.heap.size) ([.ref (a 0), .int p1, .int p2, .int p3, .int p4] : List Value).toArray s 0 0 (es_AA a 21 s.heap.size)) (F0 m 191 ls [])) := by
    intro x4 x5 S H locs ls h hP hS hl
    unfold f_X8_merge_191 at h
    refine lv_iload hx hb dX8_merge_191 (lv_at hl 2 rfl) ?_
    refine lv_iload hx hb dX8_merge_193 (lv_at hl 1 rfl) ?_
    refine lv_isub hx hb dX8_merge_195 ?_
    refine lv_aload_n hx hb dX8_merge_196 rfl (lv_at hl 0 rfl) ?_
    refine es_get C hP (es_wM_0 a cI cZ N S) rfl inlX8 (j := 1) (by decide) es_u7_9 rfl dX8_merge_197 ?_
    replace h := es_ck_e h
    obtain ⟨b6, h⟩ := h
    refine lv_irem hx hb dX8_merge_200 b6 ?_
    refine lv_if_eq (tgt := 215) hx hb dX8_merge_201 (by decide) (fun c7 => ?_) (fun c7 => ?_)
    · replace h := es_if_t c7 h
      refine lv_iload hx hb dX8_merge_215 (lv_at hl 2 rfl) ?_
      exact es_iret C hr hlk h hP hS dX8_merge_217
    · replace h := es_if_f c7 h
      refine lv_aload_n hx hb dX8_merge_204 rfl (lv_at hl 0 rfl) ?_
      refine es_get C hP (es_wM_0 a cI cZ N S) rfl inlX8 (j := 11) (by decide) es_u20_23 rfl dX8_merge_205 ?_
      refine lv_if_ne (tgt := 215) hx hb dX8_merge_208 (by decide) (fun c8 => ?_) (fun c8 => ?_)
      · replace h := es_if_t c8 h
        refine lv_iload hx hb dX8_merge_215 (lv_at hl 2 rfl) ?_
        exact es_iret C hr hlk h hP hS dX8_merge_217
      · replace h := es_if_f (fun q => q c8) h
        refine lv_aload_n hx hb dX8_merge_211 rfl (lv_at hl 0 rfl) ?_
        replace h := es_bd_e h
        obtain ⟨r9, S10, g11, h⟩ := h
        refine es_callVv C (c_X8_writes l D cI cZ a N _ fu S S10 r9 g11) es_u22_16 es_mX8_writes ⟨rfl, rfl, by decide, by decide⟩ ⟨Nat.zero_le _, Nat.zero_le _⟩ hP hS (es_wM_0 a cI cZ N S) rfl rfl hl.1 rfl (Nat.le_of_ble_eq_true rfl) dX8_merge_212 (fun H locs _ _ hP hS => ?_)
        refine lv_iload hx hb dX8_merge_215 (lv_at hl 2 rfl) ?_
        exact es_iret C hr hlk h hP hS dX8_merge_217
  have J167 : ∀ (k68 : Int32 → Int32 → Int32 → Int32 → Int32 → Int32 → es_St → Option (Int32 × es_St)) (hk68 : (∀ (x1 : Int32) (x2 : Int32) (x3 : Int32) (x4 : Int32) (x5 : Int32) (x6 : Int32) (S : es_St) (H : Heap) (locs : List Loc) (ls : Array Slot), k68 x1 x2 x3 x4 x5 x6 S = some (r, S') → va_P D vwCl ((es_wM a cI cZ N) S) H → va_S (es_AA a 21 s.heap.size) s.heap H locs → lv_has ls 9 [(0, .ref (a 0)), (1, .int x1), (2, .int x2), (3, .int x3), (4, .int x4), (5, .int x5), (6, .int x6)] → W p l e ({ frames := 2, cells := 0, slots := 0, locals := 47 } : Room) s m ([.ref (a 0), .int p1, .int p2, .int p3, .int p4] : List Value).toArray below meth c H locs 0 0 (MQ below (es_Qi D (es_wM a cI cZ N) a 21 r S' s.heap.size) ([.ref (a 0), .int p1, .int p2, .int p3, .int p4] : List Value).toArray s 0 0 (es_AA a 21 s.heap.size)) (F0 m 68 ls []))), (∀ (x1 : Int32) (x2 : Int32) (x3 : Int32) (x4 : Int32) (x5 : Int32) (x7 : Int32) (x8 : Int32) (S : es_St) (H : Heap) (locs : List Loc) (ls : Array Slot), f_X8_merge_167 N fu k68 x1 x2 x3 x4 x5 x7 x8 S = some (r, S') → va_P D vwCl ((es_wM a cI cZ N) S) H → va_S (es_AA a 21 s.heap.size) s.heap H locs → lv_has ls 9 [(0, .ref (a 0)), (1, .int x1), (2, .int x2), (3, .int x3), (4, .int x4), (5, .int x5), (7, .int x7), (8, .int x8)] → W p l e ({ frames := 2, cells := 0, slots := 0, locals := 47 } : Room) s m ([.ref (a 0), .int p1, .int p2, .int p3, .int p4] : List Value).toArray below meth c H locs 0 0 (MQ below (es_Qi D (es_wM a cI cZ N) a 21 r S' s.heap.size) ([.ref (a 0), .int p1, .int p2, .int p3, .int p4] : List Value).toArray s 0 0 (es_AA a 21 s.heap.size)) (F0 m 167 ls [])) := by
    intro k68 hk68 x1 x2 x3 x4 x5 x7 x8 S H locs ls h hP hS hl
    unfold f_X8_merge_167 at h
    refine lv_aload_n hx hb dX8_merge_167 rfl (lv_at hl 0 rfl) ?_
    refine lv_iload hx hb dX8_merge_168 (lv_at hl 5 rfl) ?_
    refine lv_iload hx hb dX8_merge_170 (lv_at hl 4 rfl) ?_
    refine lv_iload hx hb dX8_merge_172 (lv_at hl 6 rfl) ?_
    refine lv_iload hx hb dX8_merge_174 (lv_at hl 7 rfl) ?_
    replace h := es_bd_e h
    obtain ⟨r31, S32, g33, h⟩ := h
    refine es_callVi C (c_X8_puts l D cI cZ a N _ fu S S32 x5 x4 x7 x8 r31 g33) es_u22_20 es_mX8_puts ⟨rfl, rfl, by decide, by decide⟩ ⟨Nat.zero_le _, Nat.zero_le _⟩ hP hS (es_wM_0 a cI cZ N S) rfl rfl hl.1 rfl (Nat.le_of_ble_eq_true rfl) dX8_merge_176 (fun H locs _ _ hP hS => ?_)
    refine lv_istore (lv' := [(5, .int r31), (0, .ref (a 0)), (1, .int x1), (2, .int x2), (3, .int x3), (4, .int x4), (7, .int x7), (8, .int x8)]) hx hb dX8_merge_179 hl (by decide) rfl (fun ls hl => ?_)
    refine lv_aload_n hx hb dX8_merge_181 rfl (lv_at hl 1 rfl) ?_
    refine lv_iload_n hx hb dX8_merge_182 rfl (lv_at hl 4 rfl) ?_
    replace h := es_bd_e h
    obtain ⟨r34, S35, g36, h⟩ := h
    refine es_callVi C (c_X8_leastOf l D cI cZ a N _ fu S32 S35 x3 r34 g36) es_u23_16 es_mX8_leastOf ⟨rfl, rfl, by decide, by decide⟩ ⟨Nat.zero_le _, Nat.zero_le _⟩ hP hS (es_wM_0 a cI cZ N S32) rfl rfl hl.1 rfl (Nat.le_of_ble_eq_true rfl) dX8_merge_183 (fun H locs _ _ hP hS => ?_)
    refine lv_istore (lv' := [(6, .int r34), (5, .int r31), (0, .ref (a 0)), (1, .int x1), (2, .int x2), (3, .int x3), (4, .int x4), (7, .int x7), (8, .int x8)]) hx hb dX8_merge_186 hl (by decide) rfl (fun ls hl => ?_)
    refine lv_goto (tgt := 68) hx hb dX8_merge_188 (by decide) ?_
    exact hk68 x1 x2 x3 x4 r31 r34 S35 _ _ _ h hP hS (lv_sub hl [2, 3, 4, 5, 6, 1, 0] rfl)
  have J68 : ∀ n : Nat, (∀ (x1 : Int32) (x2 : Int32) (x3 : Int32) (x4 : Int32) (x5 : Int32) (x6 : Int32) (S : es_St) (H : Heap) (locs : List Loc) (ls : Array Slot), f_X8_merge_68 N fu n x1 x2 x3 x4 x5 x6 S = some (r, S') → va_P D vwCl ((es_wM a cI cZ N) S) H → va_S (es_AA a 21 s.heap.size) s.heap H locs → lv_has ls 9 [(0, .ref (a 0)), (1, .int x1), (2, .int x2), (3, .int x3), (4, .int x4), (5, .int x5), (6, .int x6)] → W p l e ({ frames := 2, cells := 0, slots := 0, locals := 47 } : Room) s m ([.ref (a 0), .int p1, .int p2, .int p3, .int p4] : List Value).toArray below meth c H locs 0 0 (MQ below (es_Qi D (es_wM a cI cZ N) a 21 r S' s.heap.size) ([.ref (a 0), .int p1, .int p2, .int p3, .int p4] : List Value).toArray s 0 0 (es_AA a 21 s.heap.size)) (F0 m 68 ls [])) := by
    intro n
    induction n with
    | zero => intro x1 x2 x3 x4 x5 x6 S H locs ls h; rw [f_X8_merge_68] at h; cases h
    | succ n ih =>
      intro x1 x2 x3 x4 x5 x6 S H locs ls h hP hS hl
      rw [f_X8_merge_68] at h
      refine lv_iload hx hb dX8_merge_68 (lv_at hl 6 rfl) ?_
      refine lv_if_lt (tgt := 191) hx hb dX8_merge_70 (by decide) (fun c5 => ?_) (fun c5 => ?_)
      · replace h := es_if_t c5 h
        exact J191  x4 x5 S _ _ _ h hP hS (lv_sub hl [0, 4, 5] rfl)
      · replace h := es_if_f c5 h
        refine lv_aload_n hx hb dX8_merge_73 rfl (lv_at hl 0 rfl) ?_
        refine es_get C hP (es_wM_0 a cI cZ N S) rfl inlX8 (j := 11) (by decide) es_u20_23 rfl dX8_merge_74 ?_
        refine lv_if_ne (tgt := 191) hx hb dX8_merge_77 (by decide) (fun c12 => ?_) (fun c12 => ?_)
        · replace h := es_if_t c12 h
          exact J191  x4 x5 S _ _ _ h hP hS (lv_sub hl [0, 4, 5] rfl)
        · replace h := es_if_f (fun q => q c12) h
          refine lv_aload_n hx hb dX8_merge_80 rfl (lv_at hl 0 rfl) ?_
          refine es_get C hP (es_wM_0 a cI cZ N S) rfl inlX8 (j := 12) (by decide) es_u6_14 rfl dX8_merge_81 ?_
          refine lv_aload_n hx hb dX8_merge_84 rfl (lv_at hl 0 rfl) ?_
          refine es_get C hP (es_wM_0 a cI cZ N S) rfl inlX8 (j := 31) (by decide) es_u7_2 rfl dX8_merge_85 ?_
          refine lv_iload hx hb dX8_merge_88 (lv_at hl 6 rfl) ?_
          replace h := es_ck_e h
          obtain ⟨b13, h⟩ := h
          refine es_ald C hP (es_wM_15 a cI cZ N S) (t0 := 0) rfl b13 dX8_merge_90 ?_
          refine lv_topi (fun v14 ev14 => ?_)
          replace h := es_lt_e ev14 h
          replace h := es_ck_e h
          obtain ⟨b15, h⟩ := h
          refine es_ald C hP (es_wM_4 a cI cZ N S) (t0 := 0) rfl b15 dX8_merge_91 ?_
          refine lv_topi (fun v16 ev16 => ?_)
          replace h := es_lt_e ev16 h
          refine lv_istore (lv' := [(7, .int v16), (0, .ref (a 0)), (1, .int x1), (2, .int x2), (3, .int x3), (4, .int x4), (5, .int x5), (6, .int x6)]) hx hb dX8_merge_92 hl (by decide) rfl (fun ls hl => ?_)
          refine lv_aload_n hx hb dX8_merge_94 rfl (lv_at hl 1 rfl) ?_
          refine es_get C hP (es_wM_0 a cI cZ N S) rfl inlX8 (j := 13) (by decide) es_u6_15 rfl dX8_merge_95 ?_
          refine lv_aload_n hx hb dX8_merge_98 rfl (lv_at hl 1 rfl) ?_
          refine es_get C hP (es_wM_0 a cI cZ N S) rfl inlX8 (j := 31) (by decide) es_u7_2 rfl dX8_merge_99 ?_
          refine lv_iload hx hb dX8_merge_102 (lv_at hl 7 rfl) ?_
          replace h := es_ck_e h
          obtain ⟨b17, h⟩ := h
          refine es_ald C hP (es_wM_15 a cI cZ N S) (t0 := 0) rfl b17 dX8_merge_104 ?_
          refine lv_topi (fun v18 ev18 => ?_)
          replace h := es_lt_e ev18 h
          replace h := es_ck_e h
          obtain ⟨b19, h⟩ := h
          refine es_ald C hP (es_wM_5 a cI cZ N S) (t0 := 0) rfl b19 dX8_merge_105 ?_
          refine lv_topi (fun v20 ev20 => ?_)
          replace h := es_lt_e ev20 h
          refine lv_istore (lv' := [(8, .int v20), (7, .int v16), (0, .ref (a 0)), (1, .int x1), (2, .int x2), (3, .int x3), (4, .int x4), (5, .int x5), (6, .int x6)]) hx hb dX8_merge_106 hl (by decide) rfl (fun ls hl => ?_)
          refine lv_aload_n hx hb dX8_merge_108 rfl (lv_at hl 2 rfl) ?_
          refine es_get C hP (es_wM_0 a cI cZ N S) rfl inlX8 (j := 31) (by decide) es_u7_2 rfl dX8_merge_109 ?_
          refine lv_iload hx hb dX8_merge_112 (lv_at hl 8 rfl) ?_
          refine lv_dup2_11 hx hb dX8_merge_114 rfl rfl ?_
          replace h := es_ck_e h
          obtain ⟨b21, h⟩ := h
          refine es_ald C hP (es_wM_15 a cI cZ N S) (t0 := 0) rfl b21 dX8_merge_115 ?_
          refine lv_topi (fun v22 ev22 => ?_)
          replace h := es_lt_e ev22 h
          refine lv_iconst (v := 1) hx hb dX8_merge_116 (by decide) ?_
          refine lv_iadd hx hb dX8_merge_117 ?_
          refine lv_topi (fun v23 ev23 => ?_)
          replace h := es_lt_e ev23 h
          replace h := es_ck_e h
          obtain ⟨b24, h⟩ := h
          refine es_ast C hP hS (es_wM_15 a cI cZ N S) (es_rM_15 a cI cZ N S) (t0 := 0) rfl b24 dX8_merge_118 (fun S25 eS25 H locs hP hS => ?_)
          replace h := es_lt_e eS25 h
          refine lv_aload_n hx hb dX8_merge_119 rfl (lv_at hl 2 rfl) ?_
          refine es_get C hP (es_wM_0 a cI cZ N S25) rfl inlX8 (j := 31) (by decide) es_u7_2 rfl dX8_merge_120 ?_
          refine lv_iload hx hb dX8_merge_123 (lv_at hl 8 rfl) ?_
          replace h := es_ck_e h
          obtain ⟨b26, h⟩ := h
          refine es_ald C hP (es_wM_15 a cI cZ N S25) (t0 := 0) rfl b26 dX8_merge_125 ?_
          refine lv_topi (fun v27 ev27 => ?_)
          replace h := es_lt_e ev27 h
          refine lv_aload_n hx hb dX8_merge_126 rfl (lv_at hl 2 rfl) ?_
          refine es_get C hP (es_wM_0 a cI cZ N S25) rfl inlX8 (j := 32) (by decide) es_u7_3 rfl dX8_merge_127 ?_
          refine lv_iload hx hb dX8_merge_130 (lv_at hl 8 rfl) ?_
          replace h := es_ck_e h
          obtain ⟨b28, h⟩ := h
          refine es_ald C hP (es_wM_16 a cI cZ N S25) (t0 := 0) rfl b28 dX8_merge_132 ?_
          refine lv_topi (fun v29 ev29 => ?_)
          replace h := es_lt_e ev29 h
          refine lv_icmp_ge (tgt := 167) hx hb dX8_merge_133 (by decide) (fun c30 => ?_) (fun c30 => ?_)
          · replace h := es_if_t c30 h
            exact J167 (fun x1 x2 x3 x4 x5 x6 S => f_X8_merge_68 N fu n x1 x2 x3 x4 x5 x6 S) ih x1 x2 x3 x4 x5 v16 v20 S25 _ _ _ h hP hS (lv_sub hl [2, 3, 4, 5, 6, 7, 1, 0] rfl)
          · replace h := es_if_f c30 h
            refine lv_aload_n hx hb dX8_merge_136 rfl (lv_at hl 2 rfl) ?_
            refine es_get C hP (es_wM_0 a cI cZ N S25) rfl inlX8 (j := 31) (by decide) es_u7_2 rfl dX8_merge_137 ?_
            refine lv_iload hx hb dX8_merge_140 (lv_at hl 8 rfl) ?_
            replace h := es_ck_e h
            obtain ⟨b37, h⟩ := h
            refine es_ald C hP (es_wM_15 a cI cZ N S25) (t0 := 0) rfl b37 dX8_merge_142 ?_
            refine lv_topi (fun v38 ev38 => ?_)
            replace h := es_lt_e ev38 h
            refine lv_iload_n hx hb dX8_merge_143 rfl (lv_at hl 3 rfl) ?_
            refine lv_isub hx hb dX8_merge_144 ?_
            refine lv_aload_n hx hb dX8_merge_145 rfl (lv_at hl 2 rfl) ?_
            refine es_get C hP (es_wM_0 a cI cZ N S25) rfl inlX8 (j := 16) (by decide) es_u6_16 rfl dX8_merge_146 ?_
            refine lv_iload_n hx hb dX8_merge_149 rfl (lv_at hl 4 rfl) ?_
            refine lv_iload hx hb dX8_merge_150 (lv_at hl 8 rfl) ?_
            refine lv_iadd hx hb dX8_merge_152 ?_
            replace h := es_ck_e h
            obtain ⟨b39, h⟩ := h
            refine es_ald C hP (es_wM_6 a cI cZ N S25) (t0 := 0) rfl b39 dX8_merge_153 ?_
            refine lv_topi (fun v40 ev40 => ?_)
            replace h := es_lt_e ev40 h
            refine lv_isub hx hb dX8_merge_154 ?_
            refine lv_aload_n hx hb dX8_merge_155 rfl (lv_at hl 2 rfl) ?_
            refine es_get C hP (es_wM_0 a cI cZ N S25) rfl inlX8 (j := 1) (by decide) es_u7_9 rfl dX8_merge_156 ?_
            replace h := es_ck_e h
            obtain ⟨b41, h⟩ := h
            refine lv_irem hx hb dX8_merge_159 b41 ?_
            refine lv_if_ne (tgt := 167) hx hb dX8_merge_160 (by decide) (fun c42 => ?_) (fun c42 => ?_)
            · replace h := es_if_t c42 h
              exact J167 (fun x1 x2 x3 x4 x5 x6 S => f_X8_merge_68 N fu n x1 x2 x3 x4 x5 x6 S) ih x1 x2 x3 x4 x5 v16 v20 S25 _ _ _ h hP hS (lv_sub hl [2, 3, 4, 5, 6, 7, 1, 0] rfl)
            · replace h := es_if_f (fun q => q c42) h
              refine lv_aload_n hx hb dX8_merge_163 rfl (lv_at hl 2 rfl) ?_
              replace h := es_bd_e h
              obtain ⟨r43, S44, g45, h⟩ := h
              refine es_callVv C (c_X8_readsPage l D cI cZ a N _ fu S25 S44 r43 g45) es_u23_12 es_mX8_readsPage ⟨rfl, rfl, by decide, by decide⟩ ⟨Nat.zero_le _, Nat.zero_le _⟩ hP hS (es_wM_0 a cI cZ N S25) rfl rfl hl.1 rfl (Nat.le_of_ble_eq_true rfl) dX8_merge_164 (fun H locs _ _ hP hS => ?_)
              exact J167 (fun x1 x2 x3 x4 x5 x6 S => f_X8_merge_68 N fu n x1 x2 x3 x4 x5 x6 S) ih x1 x2 x3 x4 x5 v16 v20 S44 _ _ _ h hP hS (lv_sub hl [2, 3, 4, 5, 6, 7, 1, 0] rfl)
  have J7 : ∀ n : Nat, (∀ (x1 : Int32) (x2 : Int32) (x3 : Int32) (x4 : Int32) (x5 : Int32) (x6 : Int32) (S : es_St) (H : Heap) (locs : List Loc) (ls : Array Slot), f_X8_merge_7 N fu n x1 x2 x3 x4 x5 x6 S = some (r, S') → va_P D vwCl ((es_wM a cI cZ N) S) H → va_S (es_AA a 21 s.heap.size) s.heap H locs → lv_has ls 9 [(0, .ref (a 0)), (1, .int x1), (2, .int x2), (3, .int x3), (4, .int x4), (5, .int x5), (6, .int x6)] → W p l e ({ frames := 2, cells := 0, slots := 0, locals := 47 } : Room) s m ([.ref (a 0), .int p1, .int p2, .int p3, .int p4] : List Value).toArray below meth c H locs 0 0 (MQ below (es_Qi D (es_wM a cI cZ N) a 21 r S' s.heap.size) ([.ref (a 0), .int p1, .int p2, .int p3, .int p4] : List Value).toArray s 0 0 (es_AA a 21 s.heap.size)) (F0 m 7 ls [])) := by
    intro n
    induction n with
    | zero => intro x1 x2 x3 x4 x5 x6 S H locs ls h; rw [f_X8_merge_7] at h; cases h
    | succ n ih =>
      intro x1 x2 x3 x4 x5 x6 S H locs ls h hP hS hl
      rw [f_X8_merge_7] at h
      refine lv_iload hx hb dX8_merge_7 (lv_at hl 6 rfl) ?_
      refine lv_iload_n hx hb dX8_merge_9 rfl (lv_at hl 3 rfl) ?_
      refine lv_icmp_ge (tgt := 61) hx hb dX8_merge_10 (by decide) (fun c1 => ?_) (fun c1 => ?_)
      · replace h := es_if_t c1 h
        refine lv_aload_n hx hb dX8_merge_61 rfl (lv_at hl 0 rfl) ?_
        refine lv_iload_n hx hb dX8_merge_62 rfl (lv_at hl 3 rfl) ?_
        replace h := es_bd_e h
        obtain ⟨r2, S3, g4, h⟩ := h
        refine es_callVi C (c_X8_leastOf l D cI cZ a N _ fu S S3 x3 r2 g4) es_u23_16 es_mX8_leastOf ⟨rfl, rfl, by decide, by decide⟩ ⟨Nat.zero_le _, Nat.zero_le _⟩ hP hS (es_wM_0 a cI cZ N S) rfl rfl hl.1 rfl (Nat.le_of_ble_eq_true rfl) dX8_merge_63 (fun H locs _ _ hP hS => ?_)
        refine lv_istore (lv' := [(6, .int r2), (0, .ref (a 0)), (1, .int x1), (2, .int x2), (3, .int x3), (4, .int x4), (5, .int x5)]) hx hb dX8_merge_66 hl (by decide) rfl (fun ls hl => ?_)
        exact J68  fu x1 x2 x3 x4 x5 r2 S3 _ _ _ h hP hS (lv_sub hl [1, 2, 3, 4, 5, 6, 0] rfl)
      · replace h := es_if_f c1 h
        refine lv_aload_n hx hb dX8_merge_13 rfl (lv_at hl 0 rfl) ?_
        refine es_get C hP (es_wM_0 a cI cZ N S) rfl inlX8 (j := 31) (by decide) es_u7_2 rfl dX8_merge_14 ?_
        refine lv_iload hx hb dX8_merge_17 (lv_at hl 6 rfl) ?_
        refine lv_iload_n hx hb dX8_merge_19 rfl (lv_at hl 1 rfl) ?_
        refine lv_aload_n hx hb dX8_merge_20 rfl (lv_at hl 0 rfl) ?_
        refine es_get C hP (es_wM_0 a cI cZ N S) rfl inlX8 (j := 16) (by decide) es_u6_16 rfl dX8_merge_21 ?_
        refine lv_iload_n hx hb dX8_merge_24 rfl (lv_at hl 2 rfl) ?_
        refine lv_iload hx hb dX8_merge_25 (lv_at hl 6 rfl) ?_
        refine lv_iadd hx hb dX8_merge_27 ?_
        replace h := es_ck_e h
        obtain ⟨b46, h⟩ := h
        refine es_ald C hP (es_wM_6 a cI cZ N S) (t0 := 0) rfl b46 dX8_merge_28 ?_
        refine lv_topi (fun v47 ev47 => ?_)
        replace h := es_lt_e ev47 h
        refine lv_iadd hx hb dX8_merge_29 ?_
        refine lv_topi (fun v48 ev48 => ?_)
        replace h := es_lt_e ev48 h
        replace h := es_ck_e h
        obtain ⟨b49, h⟩ := h
        refine es_ast C hP hS (es_wM_15 a cI cZ N S) (es_rM_15 a cI cZ N S) (t0 := 0) rfl b49 dX8_merge_30 (fun S50 eS50 H locs hP hS => ?_)
        replace h := es_lt_e eS50 h
        refine lv_aload_n hx hb dX8_merge_31 rfl (lv_at hl 0 rfl) ?_
        refine es_get C hP (es_wM_0 a cI cZ N S50) rfl inlX8 (j := 32) (by decide) es_u7_3 rfl dX8_merge_32 ?_
        refine lv_iload hx hb dX8_merge_35 (lv_at hl 6 rfl) ?_
        refine lv_iload_n hx hb dX8_merge_37 rfl (lv_at hl 1 rfl) ?_
        refine lv_aload_n hx hb dX8_merge_38 rfl (lv_at hl 0 rfl) ?_
        refine es_get C hP (es_wM_0 a cI cZ N S50) rfl inlX8 (j := 16) (by decide) es_u6_16 rfl dX8_merge_39 ?_
        refine lv_iload_n hx hb dX8_merge_42 rfl (lv_at hl 2 rfl) ?_
        refine lv_iload hx hb dX8_merge_43 (lv_at hl 6 rfl) ?_
        refine lv_iadd hx hb dX8_merge_45 ?_
        refine lv_iconst (v := 1) hx hb dX8_merge_46 (by decide) ?_
        refine lv_iadd hx hb dX8_merge_47 ?_
        replace h := es_ck_e h
        obtain ⟨b51, h⟩ := h
        refine es_ald C hP (es_wM_6 a cI cZ N S50) (t0 := 0) rfl b51 dX8_merge_48 ?_
        refine lv_topi (fun v52 ev52 => ?_)
        replace h := es_lt_e ev52 h
        refine lv_iadd hx hb dX8_merge_49 ?_
        refine lv_topi (fun v53 ev53 => ?_)
        replace h := es_lt_e ev53 h
        replace h := es_ck_e h
        obtain ⟨b54, h⟩ := h
        refine es_ast C hP hS (es_wM_16 a cI cZ N S50) (es_rM_16 a cI cZ N S50) (t0 := 0) rfl b54 dX8_merge_50 (fun S55 eS55 H locs hP hS => ?_)
        replace h := es_lt_e eS55 h
        refine lv_aload_n hx hb dX8_merge_51 rfl (lv_at hl 0 rfl) ?_
        replace h := es_bd_e h
        obtain ⟨r56, S57, g58, h⟩ := h
        refine es_callVv C (c_X8_readsPage l D cI cZ a N _ fu S55 S57 r56 g58) es_u23_12 es_mX8_readsPage ⟨rfl, rfl, by decide, by decide⟩ ⟨Nat.zero_le _, Nat.zero_le _⟩ hP hS (es_wM_0 a cI cZ N S55) rfl rfl hl.1 rfl (Nat.le_of_ble_eq_true rfl) dX8_merge_52 (fun H locs _ _ hP hS => ?_)
        obtain ⟨y59, ey59⟩ : ∃ y : Int32, y = x6 + 1 := ⟨_, rfl⟩
        refine lv_iinc (v := y59) (lv' := [(6, .int y59), (0, .ref (a 0)), (1, .int x1), (2, .int x2), (3, .int x3), (4, .int x4), (5, .int x5)]) hx hb dX8_merge_55 hl (k := 6) rfl (by rw [ey59]; rfl) (by decide) rfl (fun ls hl => ?_)
        replace h := es_lt_e ey59 h
        refine lv_goto (tgt := 7) hx hb dX8_merge_58 (by decide) ?_
        exact ih x1 x2 x3 x4 x5 y59 S57 _ _ _ h hP hS (lv_sub hl [1, 2, 3, 4, 5, 6, 0] rfl)
  unfold f_X8_merge at h
  refine lv_iload hx hb dX8_merge_0 (lv_at hl 4 rfl) ?_
  refine lv_istore (lv' := [(5, .int p4), (0, .ref (a 0)), (1, .int p1), (2, .int p2), (3, .int p3), (4, .int p4)]) hx hb dX8_merge_2 hl (by decide) rfl (fun ls hl => ?_)
  refine lv_iconst (v := 0) hx hb dX8_merge_4 (by decide) ?_
  refine lv_istore (lv' := [(6, .int 0), (5, .int p4), (0, .ref (a 0)), (1, .int p1), (2, .int p2), (3, .int p3), (4, .int p4)]) hx hb dX8_merge_5 hl (by decide) rfl (fun ls hl => ?_)
  exact J7  fu p1 p2 p3 p4 p4 0 S _ _ _ h hP hS (lv_sub hl [2, 3, 4, 5, 6, 1, 0] rfl)

set_option maxHeartbeats 4000000 in
set_option maxRecDepth 100000 in
theorem c_X8_merges (l : Launch) (D : va_G) (cI cZ : ClassId) (a : Nat → Nat) (N : Nat → Nat) (sz fu : Nat) (S S' : es_St) (p1 : Int32) (r : Int32) (h : f_X8_merges N fu S p1 = some (r, S')) : Met l yX8_merges (Cond.code yX8_merges cX8_merges 8 none :: wsL_law) ({ frames := 3, cells := 0, slots := 0, locals := 75 } : Room) (es_Pre [.ref (a 0), .int p1] D [(cI, .int), (cZ, .boolean)] (es_wM a cI cZ N) a 21 S sz) (es_Qv D (es_wM a cI cZ N) a 21 S' sz) 0 0 (es_AA a 21 sz) := by
  refine es_intro (Qc := es_Qv D (es_wM a cI cZ N) a 21 S') (by decide) (es_okM a cI cZ N) (Nat.le_of_ble_eq_true rfl) ?_
  intro p e s m below meth c C hr hlk hP ls hl
  have hx := C.1
  have hb := C.2.1
  have hown := C.2.2.2.1
  have hts := C.2.2.2.2.1
  have hS : va_S (es_AA a 21 s.heap.size) s.heap s.heap [] := va_S.rf
  replace hl : lv_has ls 8 [(0, .ref (a 0)), (1, .int p1)] := hl
  have J156 : ∀ (k0 : Int32 → es_St → Option (Int32 × es_St)) (hk0 : (∀ (x1 : Int32) (S : es_St) (H : Heap) (locs : List Loc) (ls : Array Slot), k0 x1 S = some (r, S') → va_P D vwCl ((es_wM a cI cZ N) S) H → va_S (es_AA a 21 s.heap.size) s.heap H locs → lv_has ls 8 [(0, .ref (a 0)), (1, .int x1)] → W p l e ({ frames := 3, cells := 0, slots := 0, locals := 75 } : Room) s m ([.ref (a 0), .int p1] : List Value).toArray below meth c H locs 0 0 (MQ below (es_Qv D (es_wM a cI cZ N) a 21 S' s.heap.size) ([.ref (a 0), .int p1] : List Value).toArray s 0 0 (es_AA a 21 s.heap.size)) (F0 m 0 ls []))), ∀ n : Nat, (∀ (x1 : Int32) (x3 : Int32) (x4 : Int32) (x6 : Int32) (S : es_St) (H : Heap) (locs : List Loc) (ls : Array Slot), f_X8_merges_156 N fu k0 n x1 x3 x4 x6 S = some (r, S') → va_P D vwCl ((es_wM a cI cZ N) S) H → va_S (es_AA a 21 s.heap.size) s.heap H locs → lv_has ls 8 [(0, .ref (a 0)), (1, .int x1), (3, .int x3), (4, .int x4), (6, .int x6)] → W p l e ({ frames := 3, cells := 0, slots := 0, locals := 75 } : Room) s m ([.ref (a 0), .int p1] : List Value).toArray below meth c H locs 0 0 (MQ below (es_Qv D (es_wM a cI cZ N) a 21 S' s.heap.size) ([.ref (a 0), .int p1] : List Value).toArray s 0 0 (es_AA a 21 s.heap.size)) (F0 m 156 ls [])) := by
    intro k0 hk0
    intro n
    induction n with
    | zero => intro x1 x3 x4 x6 S H locs ls h; rw [f_X8_merges_156] at h; cases h
    | succ n ih =>
      intro x1 x3 x4 x6 S H locs ls h hP hS hl
      rw [f_X8_merges_156] at h
      refine lv_iload hx hb dX8_merges_156 (lv_at hl 4 rfl) ?_
      refine lv_iload hx hb dX8_merges_158 (lv_at hl 3 rfl) ?_
      refine lv_icmp_gt (tgt := 183) hx hb dX8_merges_160 (by decide) (fun c10 => ?_) (fun c10 => ?_)
      · replace h := es_if_t c10 h
        refine lv_aload_n hx hb dX8_merges_183 rfl (lv_at hl 0 rfl) ?_
        refine lv_iload hx hb dX8_merges_184 (lv_at hl 3 rfl) ?_
        refine es_put C hP hS (es_wM_0 a cI cZ N S) rfl inlX8 tyX8_ok nmX8 (j := 15) (by decide) es_u21_17 rfl (tyX8_ok 15 (by decide)) rfl rfl (by simp) (es_sM_10 a cI cZ N S x4) dX8_merges_186 (fun S11 eS11 H locs hP hS => ?_)
        replace h := es_lt_e eS11 h
        refine lv_aload_n hx hb dX8_merges_189 rfl (lv_at hl 0 rfl) ?_
        refine lv_iload_n hx hb dX8_merges_190 rfl (lv_at hl 2 rfl) ?_
        refine es_put C hP hS (es_wM_0 a cI cZ N S11) rfl inlX8 tyX8_ok nmX8 (j := 14) (by decide) es_u21_0 rfl (tyX8_ok 14 (by decide)) rfl rfl (by simp) (es_sM_9 a cI cZ N S11 x3) dX8_merges_191 (fun S12 eS12 H locs hP hS => ?_)
        replace h := es_lt_e eS12 h
        refine lv_goto (tgt := 0) hx hb dX8_merges_194 (by decide) ?_
        exact hk0 x1 S12 _ _ _ h hP hS (lv_sub hl [0, 1] rfl)
      · replace h := es_if_f c10 h
        refine lv_aload_n hx hb dX8_merges_163 rfl (lv_at hl 0 rfl) ?_
        refine es_get C hP (es_wM_0 a cI cZ N S) rfl inlX8 (j := 16) (by decide) es_u6_16 rfl dX8_merges_164 ?_
        refine lv_iload hx hb dX8_merges_167 (lv_at hl 4 rfl) ?_
        refine lv_aload_n hx hb dX8_merges_169 rfl (lv_at hl 0 rfl) ?_
        refine es_get C hP (es_wM_0 a cI cZ N S) rfl inlX8 (j := 30) (by decide) es_u7_1 rfl dX8_merges_170 ?_
        refine lv_iload hx hb dX8_merges_173 (lv_at hl 4 rfl) ?_
        replace h := es_ck_e h
        obtain ⟨b13, h⟩ := h
        refine es_ald C hP (es_wM_14 a cI cZ N S) (t0 := 0) rfl b13 dX8_merges_175 ?_
        refine lv_topi (fun v14 ev14 => ?_)
        replace h := es_lt_e ev14 h
        replace h := es_ck_e h
        obtain ⟨b15, h⟩ := h
        refine es_ast C hP hS (es_wM_6 a cI cZ N S) (es_rM_6 a cI cZ N S) (t0 := 0) rfl b15 dX8_merges_176 (fun S16 eS16 H locs hP hS => ?_)
        replace h := es_lt_e eS16 h
        obtain ⟨y17, ey17⟩ : ∃ y : Int32, y = x6 + 1 := ⟨_, rfl⟩
        refine lv_iinc (v := y17) (lv' := [(6, .int y17), (0, .ref (a 0)), (1, .int x1), (3, .int x3), (4, .int x4)]) hx hb dX8_merges_177 hl (k := 4) rfl (by rw [ey17]; rfl) (by decide) rfl (fun ls hl => ?_)
        replace h := es_lt_e ey17 h
        refine lv_goto (tgt := 156) hx hb dX8_merges_180 (by decide) ?_
        exact ih x1 x3 x4 y17 S16 _ _ _ h hP hS (lv_sub hl [1, 2, 3, 4, 0] rfl)
  have J86 : ∀ (k0 : Int32 → es_St → Option (Int32 × es_St)) (hk0 : (∀ (x1 : Int32) (S : es_St) (H : Heap) (locs : List Loc) (ls : Array Slot), k0 x1 S = some (r, S') → va_P D vwCl ((es_wM a cI cZ N) S) H → va_S (es_AA a 21 s.heap.size) s.heap H locs → lv_has ls 8 [(0, .ref (a 0)), (1, .int x1)] → W p l e ({ frames := 3, cells := 0, slots := 0, locals := 75 } : Room) s m ([.ref (a 0), .int p1] : List Value).toArray below meth c H locs 0 0 (MQ below (es_Qv D (es_wM a cI cZ N) a 21 S' s.heap.size) ([.ref (a 0), .int p1] : List Value).toArray s 0 0 (es_AA a 21 s.heap.size)) (F0 m 0 ls []))) (k48 : Int32 → Int32 → Int32 → Int32 → Int32 → Int32 → es_St → Option (Int32 × es_St)) (hk48 : (∀ (x1 : Int32) (x2 : Int32) (x3 : Int32) (x4 : Int32) (x5 : Int32) (x6 : Int32) (S : es_St) (H : Heap) (locs : List Loc) (ls : Array Slot), k48 x1 x2 x3 x4 x5 x6 S = some (r, S') → va_P D vwCl ((es_wM a cI cZ N) S) H → va_S (es_AA a 21 s.heap.size) s.heap H locs → lv_has ls 8 [(0, .ref (a 0)), (1, .int x1), (2, .int x2), (3, .int x3), (4, .int x4), (5, .int x5), (6, .int x6)] → W p l e ({ frames := 3, cells := 0, slots := 0, locals := 75 } : Room) s m ([.ref (a 0), .int p1] : List Value).toArray below meth c H locs 0 0 (MQ below (es_Qv D (es_wM a cI cZ N) a 21 S' s.heap.size) ([.ref (a 0), .int p1] : List Value).toArray s 0 0 (es_AA a 21 s.heap.size)) (F0 m 48 ls []))), (∀ (x1 : Int32) (x2 : Int32) (x3 : Int32) (x4 : Int32) (x5 : Int32) (x6 : Int32) (t0 : Int32) (S : es_St) (H : Heap) (locs : List Loc) (ls : Array Slot), f_X8_merges_86 N fu k0 k48 x1 x2 x3 x4 x5 x6 t0 S = some (r, S') → va_P D vwCl ((es_wM a cI cZ N) S) H → va_S (es_AA a 21 s.heap.size) s.heap H locs → lv_has ls 8 [(0, .ref (a 0)), (1, .int x1), (2, .int x2), (3, .int x3), (4, .int x4), (5, .int x5), (6, .int x6)] → W p l e ({ frames := 3, cells := 0, slots := 0, locals := 75 } : Room) s m ([.ref (a 0), .int p1] : List Value).toArray below meth c H locs 0 0 (MQ below (es_Qv D (es_wM a cI cZ N) a 21 S' s.heap.size) ([.ref (a 0), .int p1] : List Value).toArray s 0 0 (es_AA a 21 s.heap.size)) (F0 m 86 ls [.int t0])) := by
    intro k0 hk0 k48 hk48 x1 x2 x3 x4 x5 x6 t0 S H locs ls h hP hS hl
    unfold f_X8_merges_86 at h
    refine lv_istore (lv' := [(7, .int t0), (0, .ref (a 0)), (1, .int x1), (2, .int x2), (3, .int x3), (4, .int x4), (5, .int x5), (6, .int x6)]) hx hb dX8_merges_86 hl (by decide) rfl (fun ls hl => ?_)
    refine lv_aload_n hx hb dX8_merges_88 rfl (lv_at hl 1 rfl) ?_
    refine es_get C hP (es_wM_0 a cI cZ N S) rfl inlX8 (j := 30) (by decide) es_u7_1 rfl dX8_merges_89 ?_
    refine lv_iload hx hb dX8_merges_92 (lv_at hl 5 rfl) ?_
    refine lv_iload hx hb dX8_merges_94 (lv_at hl 6 rfl) ?_
    refine lv_iload_n hx hb dX8_merges_96 rfl (lv_at hl 4 rfl) ?_
    refine lv_isub hx hb dX8_merges_97 ?_
    refine lv_topi (fun v23 ev23 => ?_)
    replace h := es_lt_e ev23 h
    replace h := es_ck_e h
    obtain ⟨b24, h⟩ := h
    refine es_ast C hP hS (es_wM_14 a cI cZ N S) (es_rM_14 a cI cZ N S) (t0 := 0) rfl b24 dX8_merges_98 (fun S25 eS25 H locs hP hS => ?_)
    replace h := es_lt_e eS25 h
    refine lv_iload hx hb dX8_merges_99 (lv_at hl 0 rfl) ?_
    refine lv_iconst (v := 1) hx hb dX8_merges_101 (by decide) ?_
    refine lv_icmp_ne (tgt := 117) hx hb dX8_merges_102 (by decide) (fun c26 => ?_) (fun c26 => ?_)
    · replace h := es_if_t c26 h
      refine lv_aload_n hx hb dX8_merges_117 rfl (lv_at hl 1 rfl) ?_
      refine lv_iload_n hx hb dX8_merges_118 rfl (lv_at hl 3 rfl) ?_
      refine lv_iload hx hb dX8_merges_119 (lv_at hl 7 rfl) ?_
      refine lv_iload hx hb dX8_merges_121 (lv_at hl 0 rfl) ?_
      refine lv_iload hx hb dX8_merges_123 (lv_at hl 6 rfl) ?_
      replace h := es_bd_e h
      obtain ⟨r27, S28, g29, h⟩ := h
      refine es_callVi C (c_X8_merge l D cI cZ a N _ fu S25 S28 x2 x6 t0 x5 r27 g29) es_u23_8 es_mX8_merge ⟨rfl, rfl, by decide, by decide⟩ ⟨Nat.zero_le _, Nat.zero_le _⟩ hP hS (es_wM_0 a cI cZ N S25) rfl rfl hl.1 rfl (Nat.le_of_ble_eq_true rfl) dX8_merges_125 (fun H locs _ _ hP hS => ?_)
      refine lv_istore (lv' := [(5, .int r27), (7, .int t0), (0, .ref (a 0)), (1, .int x1), (2, .int x2), (3, .int x3), (4, .int x4), (6, .int x6)]) hx hb dX8_merges_128 hl (by decide) rfl (fun ls hl => ?_)
      obtain ⟨y30, ey30⟩ : ∃ y : Int32, y = x4 + 1 := ⟨_, rfl⟩
      refine lv_iinc (v := y30) (lv' := [(4, .int y30), (5, .int r27), (7, .int t0), (0, .ref (a 0)), (1, .int x1), (2, .int x2), (3, .int x3), (6, .int x6)]) hx hb dX8_merges_130 hl (k := 6) rfl (by rw [ey30]; rfl) (by decide) rfl (fun ls hl => ?_)
      replace h := es_lt_e ey30 h
      refine lv_iload hx hb dX8_merges_133 (lv_at hl 7 rfl) ?_
      refine lv_iload_n hx hb dX8_merges_135 rfl (lv_at hl 4 rfl) ?_
      refine lv_iadd hx hb dX8_merges_136 ?_
      refine lv_topi (fun y31 ey31 => ?_)
      replace h := es_lt_e ey31 h
      refine lv_istore (lv' := [(6, .int y31), (4, .int y30), (5, .int r27), (7, .int t0), (0, .ref (a 0)), (1, .int x1), (2, .int x2), (3, .int x3)]) hx hb dX8_merges_137 hl (by decide) rfl (fun ls hl => ?_)
      refine lv_goto (tgt := 48) hx hb dX8_merges_139 (by decide) ?_
      exact hk48 x1 x2 x3 y30 r27 y31 S28 _ _ _ h hP hS (lv_sub hl [4, 5, 6, 7, 1, 2, 0] rfl)
    · replace h := es_if_f (fun q => q c26) h
      refine lv_aload_n hx hb dX8_merges_105 rfl (lv_at hl 1 rfl) ?_
      refine lv_iload_n hx hb dX8_merges_106 rfl (lv_at hl 3 rfl) ?_
      refine lv_iload hx hb dX8_merges_107 (lv_at hl 7 rfl) ?_
      refine lv_iload hx hb dX8_merges_109 (lv_at hl 6 rfl) ?_
      replace h := es_bd_e h
      obtain ⟨r32, S33, g34, h⟩ := h
      refine es_callVi C (c_X8_stays l D cI cZ a N _ fu S25 S33 x2 x6 x5 r32 g34) es_u23_4 es_mX8_stays ⟨rfl, rfl, by decide, by decide⟩ ⟨Nat.zero_le _, Nat.zero_le _⟩ hP hS (es_wM_0 a cI cZ N S25) rfl rfl hl.1 rfl (Nat.le_of_ble_eq_true rfl) dX8_merges_111 (fun H locs _ _ hP hS => ?_)
      refine lv_goto (tgt := 128) hx hb dX8_merges_114 (by decide) ?_
      refine lv_istore (lv' := [(5, .int r32), (7, .int t0), (0, .ref (a 0)), (1, .int x1), (2, .int x2), (3, .int x3), (4, .int x4), (6, .int x6)]) hx hb dX8_merges_128 hl (by decide) rfl (fun ls hl => ?_)
      obtain ⟨y35, ey35⟩ : ∃ y : Int32, y = x4 + 1 := ⟨_, rfl⟩
      refine lv_iinc (v := y35) (lv' := [(4, .int y35), (5, .int r32), (7, .int t0), (0, .ref (a 0)), (1, .int x1), (2, .int x2), (3, .int x3), (6, .int x6)]) hx hb dX8_merges_130 hl (k := 6) rfl (by rw [ey35]; rfl) (by decide) rfl (fun ls hl => ?_)
      replace h := es_lt_e ey35 h
      refine lv_iload hx hb dX8_merges_133 (lv_at hl 7 rfl) ?_
      refine lv_iload_n hx hb dX8_merges_135 rfl (lv_at hl 4 rfl) ?_
      refine lv_iadd hx hb dX8_merges_136 ?_
      refine lv_topi (fun y36 ey36 => ?_)
      replace h := es_lt_e ey36 h
      refine lv_istore (lv' := [(6, .int y36), (4, .int y35), (5, .int r32), (7, .int t0), (0, .ref (a 0)), (1, .int x1), (2, .int x2), (3, .int x3)]) hx hb dX8_merges_137 hl (by decide) rfl (fun ls hl => ?_)
      refine lv_goto (tgt := 48) hx hb dX8_merges_139 (by decide) ?_
      exact hk48 x1 x2 x3 y35 r32 y36 S33 _ _ _ h hP hS (lv_sub hl [4, 5, 6, 7, 1, 2, 0] rfl)
  have J48 : ∀ (k0 : Int32 → es_St → Option (Int32 × es_St)) (hk0 : (∀ (x1 : Int32) (S : es_St) (H : Heap) (locs : List Loc) (ls : Array Slot), k0 x1 S = some (r, S') → va_P D vwCl ((es_wM a cI cZ N) S) H → va_S (es_AA a 21 s.heap.size) s.heap H locs → lv_has ls 8 [(0, .ref (a 0)), (1, .int x1)] → W p l e ({ frames := 3, cells := 0, slots := 0, locals := 75 } : Room) s m ([.ref (a 0), .int p1] : List Value).toArray below meth c H locs 0 0 (MQ below (es_Qv D (es_wM a cI cZ N) a 21 S' s.heap.size) ([.ref (a 0), .int p1] : List Value).toArray s 0 0 (es_AA a 21 s.heap.size)) (F0 m 0 ls []))), ∀ n : Nat, (∀ (x1 : Int32) (x2 : Int32) (x3 : Int32) (x4 : Int32) (x5 : Int32) (x6 : Int32) (S : es_St) (H : Heap) (locs : List Loc) (ls : Array Slot), f_X8_merges_48 N fu k0 n x1 x2 x3 x4 x5 x6 S = some (r, S') → va_P D vwCl ((es_wM a cI cZ N) S) H → va_S (es_AA a 21 s.heap.size) s.heap H locs → lv_has ls 8 [(0, .ref (a 0)), (1, .int x1), (2, .int x2), (3, .int x3), (4, .int x4), (5, .int x5), (6, .int x6)] → W p l e ({ frames := 3, cells := 0, slots := 0, locals := 75 } : Room) s m ([.ref (a 0), .int p1] : List Value).toArray below meth c H locs 0 0 (MQ below (es_Qv D (es_wM a cI cZ N) a 21 S' s.heap.size) ([.ref (a 0), .int p1] : List Value).toArray s 0 0 (es_AA a 21 s.heap.size)) (F0 m 48 ls [])) := by
    intro k0 hk0
    intro n
    induction n with
    | zero => intro x1 x2 x3 x4 x5 x6 S H locs ls h; rw [f_X8_merges_48] at h; cases h
    | succ n ih =>
      intro x1 x2 x3 x4 x5 x6 S H locs ls h hP hS hl
      rw [f_X8_merges_48] at h
      refine lv_iload hx hb dX8_merges_48 (lv_at hl 6 rfl) ?_
      refine lv_aload_n hx hb dX8_merges_50 rfl (lv_at hl 0 rfl) ?_
      refine es_get C hP (es_wM_0 a cI cZ N S) rfl inlX8 (j := 15) (by decide) es_u21_17 rfl dX8_merges_51 ?_
      refine lv_icmp_ge (tgt := 142) hx hb dX8_merges_54 (by decide) (fun c6 => ?_) (fun c6 => ?_)
      · replace h := es_if_t c6 h
        refine lv_aload_n hx hb dX8_merges_142 rfl (lv_at hl 0 rfl) ?_
        refine es_get C hP (es_wM_0 a cI cZ N S) rfl inlX8 (j := 30) (by decide) es_u7_1 rfl dX8_merges_143 ?_
        refine lv_iload hx hb dX8_merges_146 (lv_at hl 4 rfl) ?_
        refine lv_iload hx hb dX8_merges_148 (lv_at hl 5 rfl) ?_
        refine lv_iload_n hx hb dX8_merges_150 rfl (lv_at hl 3 rfl) ?_
        refine lv_isub hx hb dX8_merges_151 ?_
        refine lv_topi (fun v7 ev7 => ?_)
        replace h := es_lt_e ev7 h
        replace h := es_ck_e h
        obtain ⟨b8, h⟩ := h
        refine es_ast C hP hS (es_wM_14 a cI cZ N S) (es_rM_14 a cI cZ N S) (t0 := 0) rfl b8 dX8_merges_152 (fun S9 eS9 H locs hP hS => ?_)
        replace h := es_lt_e eS9 h
        refine lv_iconst (v := 0) hx hb dX8_merges_153 (by decide) ?_
        refine lv_istore (lv' := [(6, .int 0), (0, .ref (a 0)), (1, .int x1), (2, .int x2), (3, .int x3), (4, .int x4), (5, .int x5)]) hx hb dX8_merges_154 hl (by decide) rfl (fun ls hl => ?_)
        exact J156 k0 hk0 fu x1 x3 x4 0 S9 _ _ _ h hP hS (lv_sub hl [1, 2, 4, 5, 0] rfl)
      · replace h := es_if_f c6 h
        refine lv_aload_n hx hb dX8_merges_57 rfl (lv_at hl 0 rfl) ?_
        refine es_get C hP (es_wM_0 a cI cZ N S) rfl inlX8 (j := 11) (by decide) es_u20_23 rfl dX8_merges_58 ?_
        refine lv_if_ne (tgt := 142) hx hb dX8_merges_61 (by decide) (fun c18 => ?_) (fun c18 => ?_)
        · replace h := es_if_t c18 h
          refine lv_aload_n hx hb dX8_merges_142 rfl (lv_at hl 0 rfl) ?_
          refine es_get C hP (es_wM_0 a cI cZ N S) rfl inlX8 (j := 30) (by decide) es_u7_1 rfl dX8_merges_143 ?_
          refine lv_iload hx hb dX8_merges_146 (lv_at hl 4 rfl) ?_
          refine lv_iload hx hb dX8_merges_148 (lv_at hl 5 rfl) ?_
          refine lv_iload_n hx hb dX8_merges_150 rfl (lv_at hl 3 rfl) ?_
          refine lv_isub hx hb dX8_merges_151 ?_
          refine lv_topi (fun v19 ev19 => ?_)
          replace h := es_lt_e ev19 h
          replace h := es_ck_e h
          obtain ⟨b20, h⟩ := h
          refine es_ast C hP hS (es_wM_14 a cI cZ N S) (es_rM_14 a cI cZ N S) (t0 := 0) rfl b20 dX8_merges_152 (fun S21 eS21 H locs hP hS => ?_)
          replace h := es_lt_e eS21 h
          refine lv_iconst (v := 0) hx hb dX8_merges_153 (by decide) ?_
          refine lv_istore (lv' := [(6, .int 0), (0, .ref (a 0)), (1, .int x1), (2, .int x2), (3, .int x3), (4, .int x4), (5, .int x5)]) hx hb dX8_merges_154 hl (by decide) rfl (fun ls hl => ?_)
          exact J156 k0 hk0 fu x1 x3 x4 0 S21 _ _ _ h hP hS (lv_sub hl [1, 2, 4, 5, 0] rfl)
        · replace h := es_if_f (fun q => q c18) h
          refine lv_aload_n hx hb dX8_merges_64 rfl (lv_at hl 0 rfl) ?_
          refine es_get C hP (es_wM_0 a cI cZ N S) rfl inlX8 (j := 15) (by decide) es_u21_17 rfl dX8_merges_65 ?_
          refine lv_iload hx hb dX8_merges_68 (lv_at hl 6 rfl) ?_
          refine lv_isub hx hb dX8_merges_70 ?_
          refine lv_iload_n hx hb dX8_merges_71 rfl (lv_at hl 1 rfl) ?_
          refine lv_icmp_ge (tgt := 85) hx hb dX8_merges_72 (by decide) (fun c22 => ?_) (fun c22 => ?_)
          · replace h := es_if_t c22 h
            refine lv_iload_n hx hb dX8_merges_85 rfl (lv_at hl 1 rfl) ?_
            exact J86 k0 hk0 (fun x1 x2 x3 x4 x5 x6 S => f_X8_merges_48 N fu k0 n x1 x2 x3 x4 x5 x6 S) ih x1 x2 x3 x4 x5 x6 x1 S _ _ _ h hP hS (lv_sub hl [0, 1, 2, 3, 4, 5, 6] rfl)
          · replace h := es_if_f c22 h
            refine lv_aload_n hx hb dX8_merges_75 rfl (lv_at hl 0 rfl) ?_
            refine es_get C hP (es_wM_0 a cI cZ N S) rfl inlX8 (j := 15) (by decide) es_u21_17 rfl dX8_merges_76 ?_
            refine lv_iload hx hb dX8_merges_79 (lv_at hl 6 rfl) ?_
            refine lv_isub hx hb dX8_merges_81 ?_
            refine lv_goto (tgt := 86) hx hb dX8_merges_82 (by decide) ?_
            exact J86 k0 hk0 (fun x1 x2 x3 x4 x5 x6 S => f_X8_merges_48 N fu k0 n x1 x2 x3 x4 x5 x6 S) ih x1 x2 x3 x4 x5 x6 ((S.1 10) - x6) S _ _ _ h hP hS (lv_sub hl [0, 1, 2, 3, 4, 5, 6] rfl)
  have J0 : ∀ n : Nat, (∀ (x1 : Int32) (S : es_St) (H : Heap) (locs : List Loc) (ls : Array Slot), f_X8_merges_0 N fu n x1 S = some (r, S') → va_P D vwCl ((es_wM a cI cZ N) S) H → va_S (es_AA a 21 s.heap.size) s.heap H locs → lv_has ls 8 [(0, .ref (a 0)), (1, .int x1)] → W p l e ({ frames := 3, cells := 0, slots := 0, locals := 75 } : Room) s m ([.ref (a 0), .int p1] : List Value).toArray below meth c H locs 0 0 (MQ below (es_Qv D (es_wM a cI cZ N) a 21 S' s.heap.size) ([.ref (a 0), .int p1] : List Value).toArray s 0 0 (es_AA a 21 s.heap.size)) (F0 m 0 ls [])) := by
    intro n
    induction n with
    | zero => intro x1 S H locs ls h; rw [f_X8_merges_0] at h; cases h
    | succ n ih =>
      intro x1 S H locs ls h hP hS hl
      rw [f_X8_merges_0] at h
      refine lv_aload_n hx hb dX8_merges_0 rfl (lv_at hl 0 rfl) ?_
      refine es_get C hP (es_wM_0 a cI cZ N S) rfl inlX8 (j := 15) (by decide) es_u21_17 rfl dX8_merges_1 ?_
      refine lv_iconst (v := 1) hx hb dX8_merges_4 (by decide) ?_
      refine lv_icmp_le (tgt := 197) hx hb dX8_merges_5 (by decide) (fun c1 => ?_) (fun c1 => ?_)
      · replace h := es_if_t c1 h
        exact es_vret C hr hlk h hP hS dX8_merges_197
      · replace h := es_if_f c1 h
        refine lv_aload_n hx hb dX8_merges_8 rfl (lv_at hl 0 rfl) ?_
        refine es_get C hP (es_wM_0 a cI cZ N S) rfl inlX8 (j := 11) (by decide) es_u20_23 rfl dX8_merges_9 ?_
        refine lv_if_ne (tgt := 197) hx hb dX8_merges_12 (by decide) (fun c2 => ?_) (fun c2 => ?_)
        · replace h := es_if_t c2 h
          exact es_vret C hr hlk h hP hS dX8_merges_197
        · replace h := es_if_f (fun q => q c2) h
          refine lv_aload_n hx hb dX8_merges_15 rfl (lv_at hl 0 rfl) ?_
          refine lv_dup hx hb dX8_merges_16 rfl ?_
          refine es_get C hP (es_wM_0 a cI cZ N S) rfl inlX8 (j := 9) (by decide) es_u21_8 rfl dX8_merges_17 ?_
          refine lv_iconst (v := 1) hx hb dX8_merges_20 (by decide) ?_
          refine lv_iadd hx hb dX8_merges_21 ?_
          refine lv_topi (fun v3 ev3 => ?_)
          replace h := es_lt_e ev3 h
          refine es_put C hP hS (es_wM_0 a cI cZ N S) rfl inlX8 tyX8_ok nmX8 (j := 9) (by decide) es_u21_8 rfl (tyX8_ok 9 (by decide)) rfl rfl (by simp) (es_sM_6 a cI cZ N S v3) dX8_merges_22 (fun S4 eS4 H locs hP hS => ?_)
          replace h := es_lt_e eS4 h
          refine lv_aload_n hx hb dX8_merges_25 rfl (lv_at hl 0 rfl) ?_
          refine es_get C hP (es_wM_0 a cI cZ N S4) rfl inlX8 (j := 14) (by decide) es_u21_0 rfl dX8_merges_26 ?_
          refine lv_istore_n (lv' := [(2, .int (S4.1 9)), (0, .ref (a 0)), (1, .int x1)]) hx hb dX8_merges_29 rfl hl (by decide) rfl (fun ls hl => ?_)
          refine lv_sipush (v := 8192) hx hb dX8_merges_30 (by decide) ?_
          refine lv_aload_n hx hb dX8_merges_33 rfl (lv_at hl 1 rfl) ?_
          refine es_get C hP (es_wM_0 a cI cZ N S4) rfl inlX8 (j := 14) (by decide) es_u21_0 rfl dX8_merges_34 ?_
          refine lv_isub hx hb dX8_merges_37 ?_
          refine lv_topi (fun y5 ey5 => ?_)
          replace h := es_lt_e ey5 h
          refine lv_istore_n (lv' := [(3, .int y5), (2, .int (S4.1 9)), (0, .ref (a 0)), (1, .int x1)]) hx hb dX8_merges_38 rfl hl (by decide) rfl (fun ls hl => ?_)
          refine lv_iconst (v := 0) hx hb dX8_merges_39 (by decide) ?_
          refine lv_istore (lv' := [(4, .int 0), (3, .int y5), (2, .int (S4.1 9)), (0, .ref (a 0)), (1, .int x1)]) hx hb dX8_merges_40 hl (by decide) rfl (fun ls hl => ?_)
          refine lv_iload_n hx hb dX8_merges_42 rfl (lv_at hl 1 rfl) ?_
          refine lv_istore (lv' := [(5, .int y5), (4, .int 0), (3, .int y5), (2, .int (S4.1 9)), (0, .ref (a 0)), (1, .int x1)]) hx hb dX8_merges_43 hl (by decide) rfl (fun ls hl => ?_)
          refine lv_iconst (v := 0) hx hb dX8_merges_45 (by decide) ?_
          refine lv_istore (lv' := [(6, .int 0), (5, .int y5), (4, .int 0), (3, .int y5), (2, .int (S4.1 9)), (0, .ref (a 0)), (1, .int x1)]) hx hb dX8_merges_46 hl (by decide) rfl (fun ls hl => ?_)
          exact J48 (fun x1 S => f_X8_merges_0 N fu n x1 S) ih fu x1 (S4.1 9) y5 0 y5 0 S4 _ _ _ h hP hS (lv_sub hl [5, 6, 4, 3, 2, 1, 0] rfl)
  unfold f_X8_merges at h
  exact J0  fu p1 S _ _ _ h hP hS (lv_sub hl [0, 1] rfl)

set_option maxHeartbeats 4000000 in
set_option maxRecDepth 100000 in
theorem c_X8_sorted (l : Launch) (D : va_G) (cI cZ : ClassId) (a : Nat → Nat) (N : Nat → Nat) (sz fu : Nat) (S S' : es_St) (p1 : Int32) (p2 : Int32) (p3 : Int32) (p4 : Int32) (r : Int32) (h : f_X8_sorted N fu S p1 p2 p3 p4 = some (r, S')) : Met l yX8_sorted (Cond.code yX8_sorted cX8_sorted 5 (some .int) :: wsL_law) ({ frames := 4, cells := 0, slots := 0, locals := 102 } : Room) (es_Pre [.ref (a 0), .int p1, .int p2, .int p3, .int p4] D [(cI, .int), (cZ, .boolean)] (es_wM a cI cZ N) a 21 S sz) (es_Qi D (es_wM a cI cZ N) a 21 r S' sz) 0 0 (es_AA a 21 sz) := by
  refine es_intro (Qc := es_Qi D (es_wM a cI cZ N) a 21 r S') (by decide) (es_okM a cI cZ N) (Nat.le_of_ble_eq_true rfl) ?_
  intro p e s m below meth c C hr hlk hP ls hl
  have hx := C.1
  have hb := C.2.1
  have hown := C.2.2.2.1
  have hts := C.2.2.2.2.1
  have hS : va_S (es_AA a 21 s.heap.size) s.heap s.heap [] := va_S.rf
  replace hl : lv_has ls 5 [(0, .ref (a 0)), (1, .int p1), (2, .int p2), (3, .int p3), (4, .int p4)] := hl
  unfold f_X8_sorted at h
  refine lv_aload_n hx hb dX8_sorted_0 rfl (lv_at hl 0 rfl) ?_
  refine lv_iload_n hx hb dX8_sorted_1 rfl (lv_at hl 3 rfl) ?_
  refine es_put C hP hS (es_wM_0 a cI cZ N S) rfl inlX8 tyX8_ok nmX8 (j := 24) (by decide) es_u21_15 rfl (tyX8_ok 24 (by decide)) rfl rfl (by simp) (es_sM_13 a cI cZ N S p3) dX8_sorted_2 (fun S1 eS1 H locs hP hS => ?_)
  replace h := es_lt_e eS1 h
  refine lv_aload_n hx hb dX8_sorted_5 rfl (lv_at hl 0 rfl) ?_
  refine lv_iload hx hb dX8_sorted_6 (lv_at hl 4 rfl) ?_
  replace h := es_ck_e h
  obtain ⟨b2, h⟩ := h
  refine es_put C hP hS (es_wM_0 a cI cZ N S1) rfl inlX8 tyX8_ok nmX8 (j := 25) (by decide) es_u21_16 rfl (tyX8_ok 25 (by decide)) b2.1 b2.2 (by simp) (es_sM_14 a cI cZ N S1 p4) dX8_sorted_8 (fun S3 eS3 H locs hP hS => ?_)
  replace h := es_lt_e eS3 h
  refine lv_aload_n hx hb dX8_sorted_11 rfl (lv_at hl 0 rfl) ?_
  refine lv_iload_n hx hb dX8_sorted_12 rfl (lv_at hl 1 rfl) ?_
  refine lv_iload_n hx hb dX8_sorted_13 rfl (lv_at hl 2 rfl) ?_
  refine lv_iconst (v := 2) hx hb dX8_sorted_14 (by decide) ?_
  refine lv_isub hx hb dX8_sorted_15 ?_
  refine lv_aload_n hx hb dX8_sorted_16 rfl (lv_at hl 0 rfl) ?_
  refine es_get C hP (es_wM_0 a cI cZ N S3) rfl inlX8 (j := 1) (by decide) es_u7_9 rfl dX8_sorted_17 ?_
  refine lv_imul hx hb dX8_sorted_20 ?_
  replace h := es_bd_e h
  obtain ⟨r4, S5, g6, h⟩ := h
  refine es_callVv C (c_X8_makeRuns l D cI cZ a N _ fu S3 S5 p1 ((p2 - 2) * (S3.1 1)) r4 g6) es_u21_18 es_mX8_makeRuns ⟨rfl, rfl, by decide, by decide⟩ ⟨Nat.zero_le _, Nat.zero_le _⟩ hP hS (es_wM_0 a cI cZ N S3) rfl rfl hl.1 rfl (Nat.le_of_ble_eq_true rfl) dX8_sorted_21 (fun H locs _ _ hP hS => ?_)
  refine lv_aload_n hx hb dX8_sorted_24 rfl (lv_at hl 0 rfl) ?_
  refine lv_iload_n hx hb dX8_sorted_25 rfl (lv_at hl 2 rfl) ?_
  refine lv_iconst (v := 1) hx hb dX8_sorted_26 (by decide) ?_
  refine lv_isub hx hb dX8_sorted_27 ?_
  replace h := es_bd_e h
  obtain ⟨r7, S8, g9, h⟩ := h
  refine es_callVv C (c_X8_merges l D cI cZ a N _ fu S5 S8 (p2 - 1) r7 g9) es_u23_0 es_mX8_merges ⟨rfl, rfl, by decide, by decide⟩ ⟨Nat.zero_le _, Nat.zero_le _⟩ hP hS (es_wM_0 a cI cZ N S5) rfl rfl hl.1 rfl (Nat.le_of_ble_eq_true rfl) dX8_sorted_28 (fun H locs _ _ hP hS => ?_)
  refine lv_aload_n hx hb dX8_sorted_31 rfl (lv_at hl 0 rfl) ?_
  refine es_get C hP (es_wM_0 a cI cZ N S8) rfl inlX8 (j := 15) (by decide) es_u21_17 rfl dX8_sorted_32 ?_
  refine lv_if_ne (tgt := 42) hx hb dX8_sorted_35 (by decide) (fun c10 => ?_) (fun c10 => ?_)
  · replace h := es_if_t c10 h
    refine lv_aload_n hx hb dX8_sorted_42 rfl (lv_at hl 0 rfl) ?_
    refine es_get C hP (es_wM_0 a cI cZ N S8) rfl inlX8 (j := 16) (by decide) es_u6_16 rfl dX8_sorted_43 ?_
    refine lv_iconst (v := 1) hx hb dX8_sorted_46 (by decide) ?_
    replace h := es_ck_e h
    obtain ⟨b11, h⟩ := h
    refine es_ald C hP (es_wM_6 a cI cZ N S8) (t0 := 0) rfl b11 dX8_sorted_47 ?_
    refine lv_topi (fun v12 ev12 => ?_)
    replace h := es_lt_e ev12 h
    exact es_iret C hr hlk h hP hS dX8_sorted_48
  · replace h := es_if_f (fun q => q c10) h
    refine lv_iconst (v := 0) hx hb dX8_sorted_38 (by decide) ?_
    refine lv_goto (tgt := 48) hx hb dX8_sorted_39 (by decide) ?_
    exact es_iret C hr hlk h hP hS dX8_sorted_48

set_option maxHeartbeats 4000000 in
set_option maxRecDepth 100000 in
theorem c_X8_pagesOf (l : Launch) (D : va_G) (cI cZ : ClassId) (a : Nat → Nat) (N : Nat → Nat) (sz fu : Nat) (S S' : es_St) (p1 : Int32) (r : Int32) (h : f_X8_pagesOf N fu S p1 = some (r, S')) : Met l yX8_pagesOf (Cond.code yX8_pagesOf cX8_pagesOf 2 (some .int) :: wsL_law) ({ frames := 0, cells := 0, slots := 0, locals := 0 } : Room) (es_Pre [.ref (a 0), .int p1] D [(cI, .int), (cZ, .boolean)] (es_wM a cI cZ N) a 21 S sz) (es_Qi D (es_wM a cI cZ N) a 21 r S' sz) 0 0 (es_AA a 21 sz) := by
  refine es_intro (Qc := es_Qi D (es_wM a cI cZ N) a 21 r S') (by decide) (es_okM a cI cZ N) (Nat.le_of_ble_eq_true rfl) ?_
  intro p e s m below meth c C hr hlk hP ls hl
  have hx := C.1
  have hb := C.2.1
  have hown := C.2.2.2.1
  have hts := C.2.2.2.2.1
  have hS : va_S (es_AA a 21 s.heap.size) s.heap s.heap [] := va_S.rf
  replace hl : lv_has ls 2 [(0, .ref (a 0)), (1, .int p1)] := hl
  unfold f_X8_pagesOf at h
  refine lv_iload_n hx hb dX8_pagesOf_0 rfl (lv_at hl 1 rfl) ?_
  refine lv_aload_n hx hb dX8_pagesOf_1 rfl (lv_at hl 0 rfl) ?_
  refine es_get C hP (es_wM_0 a cI cZ N S) rfl inlX8 (j := 1) (by decide) es_u7_9 rfl dX8_pagesOf_2 ?_
  refine lv_iadd hx hb dX8_pagesOf_5 ?_
  refine lv_iconst (v := 1) hx hb dX8_pagesOf_6 (by decide) ?_
  refine lv_isub hx hb dX8_pagesOf_7 ?_
  refine lv_aload_n hx hb dX8_pagesOf_8 rfl (lv_at hl 0 rfl) ?_
  refine es_get C hP (es_wM_0 a cI cZ N S) rfl inlX8 (j := 1) (by decide) es_u7_9 rfl dX8_pagesOf_9 ?_
  replace h := es_ck_e h
  obtain ⟨b1, h⟩ := h
  refine lv_idiv hx hb dX8_pagesOf_12 b1 ?_
  exact es_iret C hr hlk h hP hS dX8_pagesOf_13

set_option maxHeartbeats 4000000 in
set_option maxRecDepth 100000 in
theorem c_X8_tells (l : Launch) (D : va_G) (cI cZ : ClassId) (a : Nat → Nat) (N : Nat → Nat) (sz fu : Nat) (S S' : es_St) (r : Int32) (h : f_X8_tells N fu S = some (r, S')) : Met l yX8_tells (Cond.code yX8_tells cX8_tells 2 none :: wsL_law) ({ frames := 0, cells := 0, slots := 0, locals := 0 } : Room) (es_Pre [.ref (a 0)] D [(cI, .int), (cZ, .boolean)] (es_wM a cI cZ N) a 21 S sz) (es_Qv D (es_wM a cI cZ N) a 21 S' sz) 0 0 (es_AA a 21 sz) := by
  refine es_intro (Qc := es_Qv D (es_wM a cI cZ N) a 21 S') (by decide) (es_okM a cI cZ N) (Nat.le_of_ble_eq_true rfl) ?_
  intro p e s m below meth c C hr hlk hP ls hl
  have hx := C.1
  have hb := C.2.1
  have hown := C.2.2.2.1
  have hts := C.2.2.2.2.1
  have hS : va_S (es_AA a 21 s.heap.size) s.heap s.heap [] := va_S.rf
  replace hl : lv_has ls 2 [(0, .ref (a 0))] := hl
  have J75 : ∀ n : Nat, (∀ (x1 : Int32) (S : es_St) (H : Heap) (locs : List Loc) (ls : Array Slot), f_X8_tells_75 N fu n x1 S = some (r, S') → va_P D vwCl ((es_wM a cI cZ N) S) H → va_S (es_AA a 21 s.heap.size) s.heap H locs → lv_has ls 2 [(0, .ref (a 0)), (1, .int x1)] → W p l e ({ frames := 0, cells := 0, slots := 0, locals := 0 } : Room) s m ([.ref (a 0)] : List Value).toArray below meth c H locs 0 0 (MQ below (es_Qv D (es_wM a cI cZ N) a 21 S' s.heap.size) ([.ref (a 0)] : List Value).toArray s 0 0 (es_AA a 21 s.heap.size)) (F0 m 75 ls [])) := by
    intro n
    induction n with
    | zero => intro x1 S H locs ls h; rw [f_X8_tells_75] at h; cases h
    | succ n ih =>
      intro x1 S H locs ls h hP hS hl
      rw [f_X8_tells_75] at h
      refine lv_iload_n hx hb dX8_tells_75 rfl (lv_at hl 1 rfl) ?_
      refine lv_aload_n hx hb dX8_tells_76 rfl (lv_at hl 0 rfl) ?_
      refine es_get C hP (es_wM_0 a cI cZ N S) rfl inlX8 (j := 18) (by decide) es_u21_10 rfl dX8_tells_77 ?_
      refine lv_icmp_ge (tgt := 101) hx hb dX8_tells_80 (by decide) (fun c15 => ?_) (fun c15 => ?_)
      · replace h := es_if_t c15 h
        exact es_vret C hr hlk h hP hS dX8_tells_101
      · replace h := es_if_f c15 h
        refine lv_aload_n hx hb dX8_tells_83 rfl (lv_at hl 0 rfl) ?_
        refine es_get C hP (es_wM_0 a cI cZ N S) rfl inlX8 (j := 27) (by decide) es_u7_0 rfl dX8_tells_84 ?_
        refine lv_iload_n hx hb dX8_tells_87 rfl (lv_at hl 1 rfl) ?_
        refine lv_aload_n hx hb dX8_tells_88 rfl (lv_at hl 0 rfl) ?_
        refine es_get C hP (es_wM_0 a cI cZ N S) rfl inlX8 (j := 17) (by decide) es_u6_17 rfl dX8_tells_89 ?_
        refine lv_iload_n hx hb dX8_tells_92 rfl (lv_at hl 1 rfl) ?_
        replace h := es_ck_e h
        obtain ⟨b16, h⟩ := h
        refine es_ald C hP (es_wM_7 a cI cZ N S) (t0 := 0) rfl b16 dX8_tells_93 ?_
        refine lv_topi (fun v17 ev17 => ?_)
        replace h := es_lt_e ev17 h
        replace h := es_ck_e h
        obtain ⟨b18, h⟩ := h
        refine es_ast C hP hS (es_wM_13 a cI cZ N S) (es_rM_13 a cI cZ N S) (t0 := 0) rfl b18 dX8_tells_94 (fun S19 eS19 H locs hP hS => ?_)
        replace h := es_lt_e eS19 h
        obtain ⟨y20, ey20⟩ : ∃ y : Int32, y = x1 + 1 := ⟨_, rfl⟩
        refine lv_iinc (v := y20) (lv' := [(1, .int y20), (0, .ref (a 0))]) hx hb dX8_tells_95 hl (k := 1) rfl (by rw [ey20]; rfl) (by decide) rfl (fun ls hl => ?_)
        replace h := es_lt_e ey20 h
        refine lv_goto (tgt := 75) hx hb dX8_tells_98 (by decide) ?_
        exact ih y20 S19 _ _ _ h hP hS (lv_sub hl [1, 0] rfl)
  unfold f_X8_tells at h
  refine lv_aload_n hx hb dX8_tells_0 rfl (lv_at hl 0 rfl) ?_
  refine es_get C hP (es_wM_0 a cI cZ N S) rfl inlX8 (j := 26) (by decide) es_u6_23 rfl dX8_tells_1 ?_
  refine lv_iconst (v := 0) hx hb dX8_tells_4 (by decide) ?_
  refine lv_aload_n hx hb dX8_tells_5 rfl (lv_at hl 0 rfl) ?_
  refine es_get C hP (es_wM_0 a cI cZ N S) rfl inlX8 (j := 6) (by decide) es_u21_5 rfl dX8_tells_6 ?_
  refine lv_aload_n hx hb dX8_tells_9 rfl (lv_at hl 0 rfl) ?_
  refine es_get C hP (es_wM_0 a cI cZ N S) rfl inlX8 (j := 7) (by decide) es_u21_6 rfl dX8_tells_10 ?_
  refine lv_iadd hx hb dX8_tells_13 ?_
  refine lv_topi (fun v1 ev1 => ?_)
  replace h := es_lt_e ev1 h
  replace h := es_ck_e h
  obtain ⟨b2, h⟩ := h
  refine es_ast C hP hS (es_wM_12 a cI cZ N S) (es_rM_12 a cI cZ N S) (t0 := 0) rfl b2 dX8_tells_14 (fun S3 eS3 H locs hP hS => ?_)
  replace h := es_lt_e eS3 h
  refine lv_aload_n hx hb dX8_tells_15 rfl (lv_at hl 0 rfl) ?_
  refine es_get C hP (es_wM_0 a cI cZ N S3) rfl inlX8 (j := 26) (by decide) es_u6_23 rfl dX8_tells_16 ?_
  refine lv_iconst (v := 1) hx hb dX8_tells_19 (by decide) ?_
  refine lv_aload_n hx hb dX8_tells_20 rfl (lv_at hl 0 rfl) ?_
  refine es_get C hP (es_wM_0 a cI cZ N S3) rfl inlX8 (j := 6) (by decide) es_u21_5 rfl dX8_tells_21 ?_
  replace h := es_ck_e h
  obtain ⟨b4, h⟩ := h
  refine es_ast C hP hS (es_wM_12 a cI cZ N S3) (es_rM_12 a cI cZ N S3) (t0 := 0) rfl b4 dX8_tells_24 (fun S5 eS5 H locs hP hS => ?_)
  replace h := es_lt_e eS5 h
  refine lv_aload_n hx hb dX8_tells_25 rfl (lv_at hl 0 rfl) ?_
  refine es_get C hP (es_wM_0 a cI cZ N S5) rfl inlX8 (j := 26) (by decide) es_u6_23 rfl dX8_tells_26 ?_
  refine lv_iconst (v := 2) hx hb dX8_tells_29 (by decide) ?_
  refine lv_aload_n hx hb dX8_tells_30 rfl (lv_at hl 0 rfl) ?_
  refine es_get C hP (es_wM_0 a cI cZ N S5) rfl inlX8 (j := 7) (by decide) es_u21_6 rfl dX8_tells_31 ?_
  replace h := es_ck_e h
  obtain ⟨b6, h⟩ := h
  refine es_ast C hP hS (es_wM_12 a cI cZ N S5) (es_rM_12 a cI cZ N S5) (t0 := 0) rfl b6 dX8_tells_34 (fun S7 eS7 H locs hP hS => ?_)
  replace h := es_lt_e eS7 h
  refine lv_aload_n hx hb dX8_tells_35 rfl (lv_at hl 0 rfl) ?_
  refine es_get C hP (es_wM_0 a cI cZ N S7) rfl inlX8 (j := 26) (by decide) es_u6_23 rfl dX8_tells_36 ?_
  refine lv_iconst (v := 3) hx hb dX8_tells_39 (by decide) ?_
  refine lv_aload_n hx hb dX8_tells_40 rfl (lv_at hl 0 rfl) ?_
  refine es_get C hP (es_wM_0 a cI cZ N S7) rfl inlX8 (j := 8) (by decide) es_u21_7 rfl dX8_tells_41 ?_
  replace h := es_ck_e h
  obtain ⟨b8, h⟩ := h
  refine es_ast C hP hS (es_wM_12 a cI cZ N S7) (es_rM_12 a cI cZ N S7) (t0 := 0) rfl b8 dX8_tells_44 (fun S9 eS9 H locs hP hS => ?_)
  replace h := es_lt_e eS9 h
  refine lv_aload_n hx hb dX8_tells_45 rfl (lv_at hl 0 rfl) ?_
  refine es_get C hP (es_wM_0 a cI cZ N S9) rfl inlX8 (j := 26) (by decide) es_u6_23 rfl dX8_tells_46 ?_
  refine lv_iconst (v := 4) hx hb dX8_tells_49 (by decide) ?_
  refine lv_aload_n hx hb dX8_tells_50 rfl (lv_at hl 0 rfl) ?_
  refine es_get C hP (es_wM_0 a cI cZ N S9) rfl inlX8 (j := 9) (by decide) es_u21_8 rfl dX8_tells_51 ?_
  replace h := es_ck_e h
  obtain ⟨b10, h⟩ := h
  refine es_ast C hP hS (es_wM_12 a cI cZ N S9) (es_rM_12 a cI cZ N S9) (t0 := 0) rfl b10 dX8_tells_54 (fun S11 eS11 H locs hP hS => ?_)
  replace h := es_lt_e eS11 h
  refine lv_aload_n hx hb dX8_tells_55 rfl (lv_at hl 0 rfl) ?_
  refine es_get C hP (es_wM_0 a cI cZ N S11) rfl inlX8 (j := 26) (by decide) es_u6_23 rfl dX8_tells_56 ?_
  refine lv_iconst (v := 5) hx hb dX8_tells_59 (by decide) ?_
  refine lv_aload_n hx hb dX8_tells_60 rfl (lv_at hl 0 rfl) ?_
  refine es_get C hP (es_wM_0 a cI cZ N S11) rfl inlX8 (j := 10) (by decide) es_u21_9 rfl dX8_tells_61 ?_
  replace h := es_ck_e h
  obtain ⟨b12, h⟩ := h
  refine es_ast C hP hS (es_wM_12 a cI cZ N S11) (es_rM_12 a cI cZ N S11) (t0 := 0) rfl b12 dX8_tells_64 (fun S13 eS13 H locs hP hS => ?_)
  replace h := es_lt_e eS13 h
  refine lv_aload_n hx hb dX8_tells_65 rfl (lv_at hl 0 rfl) ?_
  refine lv_aload_n hx hb dX8_tells_66 rfl (lv_at hl 0 rfl) ?_
  refine es_get C hP (es_wM_0 a cI cZ N S13) rfl inlX8 (j := 18) (by decide) es_u21_10 rfl dX8_tells_67 ?_
  refine es_put C hP hS (es_wM_0 a cI cZ N S13) rfl inlX8 tyX8_ok nmX8 (j := 28) (by decide) es_u24_0 rfl (tyX8_ok 28 (by decide)) rfl rfl (by simp) (es_sM_15 a cI cZ N S13 (S13.1 11)) dX8_tells_70 (fun S14 eS14 H locs hP hS => ?_)
  replace h := es_lt_e eS14 h
  refine lv_iconst (v := 0) hx hb dX8_tells_73 (by decide) ?_
  refine lv_istore_n (lv' := [(1, .int 0), (0, .ref (a 0))]) hx hb dX8_tells_74 rfl hl (by decide) rfl (fun ls hl => ?_)
  exact J75  fu 0 S14 _ _ _ h hP hS (lv_sub hl [1, 0] rfl)
