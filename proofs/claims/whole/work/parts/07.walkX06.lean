set_option maxHeartbeats 4000000 in
set_option maxRecDepth 100000 in
theorem c_X5_makeRuns (l : Launch) (D : va_G) (cI cZ : ClassId) (a : Nat → Nat) (N : Nat → Nat) (sz fu : Nat) (S S' : es_St) (p1 : Int32) (p2 : Int32) (r : Int32) (h : f_X5_makeRuns N fu S p1 p2 = some (r, S')) : Met l yX5_makeRuns (Cond.code yX5_makeRuns cX5_makeRuns 7 (some .boolean) :: wsL_law) ({ frames := 5, cells := 0, slots := 0, locals := 117 } : Room) (es_Pre [.ref (a 3), .int p1, .int p2] D [(cI, .int), (cZ, .boolean)] (es_wX a cI cZ N) a 35 S sz) (es_Qi D (es_wX a cI cZ N) a 35 r S' sz) 0 0 (es_AA a 35 sz) := by
  refine es_intro (Qc := es_Qi D (es_wX a cI cZ N) a 35 r S') (by decide) (es_okX a cI cZ N) (Nat.le_of_ble_eq_true rfl) ?_
  intro p e s m below meth c C hr hlk hP ls hl
  have hx := C.1
  have hb := C.2.1
  have hown := C.2.2.2.1
  have hts := C.2.2.2.2.1
  have hS : va_S (es_AA a 35 s.heap.size) s.heap s.heap [] := va_S.rf
  replace hl : lv_has ls 7 [(0, .ref (a 3)), (1, .int p1), (2, .int p2)] := hl
  have J82 : ∀ (k31 : Int32 → Int32 → Int32 → Int32 → es_St → Option (Int32 × es_St)) (hk31 : (∀ (x2 : Int32) (x3 : Int32) (x4 : Int32) (x5 : Int32) (S : es_St) (H : Heap) (locs : List Loc) (ls : Array Slot), k31 x2 x3 x4 x5 S = some (r, S') → va_P D vwCl ((es_wX a cI cZ N) S) H → va_S (es_AA a 35 s.heap.size) s.heap H locs → lv_has ls 7 [(0, .ref (a 3)), (2, .int x2), (3, .int x3), (4, .int x4), (5, .int x5)] → W p l e ({ frames := 5, cells := 0, slots := 0, locals := 117 } : Room) s m ([.ref (a 3), .int p1, .int p2] : List Value).toArray below meth c H locs 0 0 (MQ below (es_Qi D (es_wX a cI cZ N) a 35 r S' s.heap.size) ([.ref (a 3), .int p1, .int p2] : List Value).toArray s 0 0 (es_AA a 35 s.heap.size)) (F0 m 31 ls []))), (∀ (x2 : Int32) (x3 : Int32) (x4 : Int32) (x5 : Int32) (x6 : Int32) (S : es_St) (H : Heap) (locs : List Loc) (ls : Array Slot), f_X5_makeRuns_82 N fu k31 x2 x3 x4 x5 x6 S = some (r, S') → va_P D vwCl ((es_wX a cI cZ N) S) H → va_S (es_AA a 35 s.heap.size) s.heap H locs → lv_has ls 7 [(0, .ref (a 3)), (2, .int x2), (3, .int x3), (4, .int x4), (5, .int x5), (6, .int x6)] → W p l e ({ frames := 5, cells := 0, slots := 0, locals := 117 } : Room) s m ([.ref (a 3), .int p1, .int p2] : List Value).toArray below meth c H locs 0 0 (MQ below (es_Qi D (es_wX a cI cZ N) a 35 r S' s.heap.size) ([.ref (a 3), .int p1, .int p2] : List Value).toArray s 0 0 (es_AA a 35 s.heap.size)) (F0 m 82 ls [])) := by
    intro k31 hk31 x2 x3 x4 x5 x6 S H locs ls h hP hS hl
    unfold f_X5_makeRuns_82 at h
    refine lv_aload_n hx hb dX5_makeRuns_82 rfl (lv_at hl 0 rfl) ?_
    refine es_get C hP (es_wX_3 a cI cZ N S) rfl inlX5 (j := 3) (by decide) es_u4_8 rfl dX5_makeRuns_83 ?_
    refine lv_aload_n hx hb dX5_makeRuns_86 rfl (lv_at hl 0 rfl) ?_
    refine es_get C hP (es_wX_3 a cI cZ N S) rfl inlX5 (j := 5) (by decide) es_u4_18 rfl dX5_makeRuns_87 ?_
    refine lv_iload hx hb dX5_makeRuns_90 (lv_at hl 5 rfl) ?_
    replace h := es_bd_e h
    obtain ⟨r23, S24, g25, h⟩ := h
    refine es_callVi C (c_X3_keyOf l D cI cZ a N _ fu S S24 x6 r23 g25) es_u17_18 es_mX3_keyOf ⟨rfl, rfl, by decide, by decide⟩ ⟨Nat.zero_le _, Nat.zero_le _⟩ hP hS (es_wX_8 a cI cZ N S) rfl rfl hl.1 rfl (Nat.le_of_ble_eq_true rfl) dX5_makeRuns_92 (fun H locs _ _ hP hS => ?_)
    refine lv_aload_n hx hb dX5_makeRuns_95 rfl (lv_at hl 0 rfl) ?_
    refine es_get C hP (es_wX_3 a cI cZ N S24) rfl inlX5 (j := 5) (by decide) es_u4_18 rfl dX5_makeRuns_96 ?_
    refine lv_iload hx hb dX5_makeRuns_99 (lv_at hl 5 rfl) ?_
    replace h := es_bd_e h
    obtain ⟨r26, S27, g28, h⟩ := h
    refine es_callVi C (c_X3_tagOf l D cI cZ a N _ fu S24 S27 x6 r26 g28) es_u17_22 es_mX3_tagOf ⟨rfl, rfl, by decide, by decide⟩ ⟨Nat.zero_le _, Nat.zero_le _⟩ hP hS (es_wX_8 a cI cZ N S24) rfl rfl hl.1 rfl (Nat.le_of_ble_eq_true rfl) dX5_makeRuns_101 (fun H locs _ _ hP hS => ?_)
    replace h := es_bd_e h
    obtain ⟨r29, S30, g31, h⟩ := h
    refine es_callVi C (c_X4_put l D cI cZ a N _ fu S27 S30 r23 r26 r29 g31) es_u18_2 es_mX4_put ⟨rfl, rfl, by decide, by decide⟩ ⟨Nat.zero_le _, Nat.zero_le _⟩ hP hS (es_wX_2 a cI cZ N S27) rfl rfl hl.1 rfl (Nat.le_of_ble_eq_true rfl) dX5_makeRuns_104 (fun H locs _ _ hP hS => ?_)
    refine lv_if_ne (tgt := 112) hx hb dX5_makeRuns_107 (by decide) (fun c32 => ?_) (fun c32 => ?_)
    · replace h := es_if_t c32 h
      refine lv_aload_n hx hb dX5_makeRuns_112 rfl (lv_at hl 0 rfl) ?_
      refine lv_iload hx hb dX5_makeRuns_113 (lv_at hl 5 rfl) ?_
      refine lv_iload_n hx hb dX5_makeRuns_115 rfl (lv_at hl 2 rfl) ?_
      refine lv_iload hx hb dX5_makeRuns_116 (lv_at hl 3 rfl) ?_
      refine lv_iload hx hb dX5_makeRuns_118 (lv_at hl 4 rfl) ?_
      refine lv_iadd hx hb dX5_makeRuns_120 ?_
      replace h := es_bd_e h
      obtain ⟨r33, S34, g35, h⟩ := h
      refine es_callVv C (c_X5_replace l D cI cZ a N _ fu S30 S34 x6 x3 (x4 + x5) r33 g35) es_u18_8 es_mX5_replace ⟨rfl, rfl, by decide, by decide⟩ ⟨Nat.zero_le _, Nat.zero_le _⟩ hP hS (es_wX_3 a cI cZ N S30) rfl rfl hl.1 rfl (Nat.le_of_ble_eq_true rfl) dX5_makeRuns_121 (fun H locs _ _ hP hS => ?_)
      refine lv_aload_n hx hb dX5_makeRuns_124 rfl (lv_at hl 0 rfl) ?_
      refine es_get C hP (es_wX_3 a cI cZ N S34) rfl inlX5 (j := 5) (by decide) es_u4_18 rfl dX5_makeRuns_125 ?_
      refine lv_iload hx hb dX5_makeRuns_128 (lv_at hl 5 rfl) ?_
      replace h := es_bd_e h
      obtain ⟨r36, S37, g38, h⟩ := h
      refine es_callVv C (c_X3_climb l D cI cZ a N _ fu S34 S37 x6 r36 g38) es_u18_22 es_mX3_climb ⟨rfl, rfl, by decide, by decide⟩ ⟨Nat.zero_le _, Nat.zero_le _⟩ hP hS (es_wX_8 a cI cZ N S34) rfl rfl hl.1 rfl (Nat.le_of_ble_eq_true rfl) dX5_makeRuns_130 (fun H locs _ _ hP hS => ?_)
      obtain ⟨y39, ey39⟩ : ∃ y : Int32, y = x5 + 1 := ⟨_, rfl⟩
      refine lv_iinc (v := y39) (lv' := [(5, .int y39), (0, .ref (a 3)), (2, .int x2), (3, .int x3), (4, .int x4), (6, .int x6)]) hx hb dX5_makeRuns_133 hl (k := 4) rfl (by rw [ey39]; rfl) (by decide) rfl (fun ls hl => ?_)
      replace h := es_lt_e ey39 h
      refine lv_goto (tgt := 31) hx hb dX5_makeRuns_136 (by decide) ?_
      exact hk31 x2 x3 x4 y39 S37 _ _ _ h hP hS (lv_sub hl [1, 2, 3, 4, 0] rfl)
    · replace h := es_if_f (fun q => q c32) h
      refine lv_iconst (v := 0) hx hb dX5_makeRuns_110 (by decide) ?_
      exact es_zret C hr hlk ⟨rfl, rfl⟩ h hP hS dX5_makeRuns_111
  have J31 : ∀ n : Nat, (∀ (x2 : Int32) (x3 : Int32) (x4 : Int32) (x5 : Int32) (S : es_St) (H : Heap) (locs : List Loc) (ls : Array Slot), f_X5_makeRuns_31 N fu n x2 x3 x4 x5 S = some (r, S') → va_P D vwCl ((es_wX a cI cZ N) S) H → va_S (es_AA a 35 s.heap.size) s.heap H locs → lv_has ls 7 [(0, .ref (a 3)), (2, .int x2), (3, .int x3), (4, .int x4), (5, .int x5)] → W p l e ({ frames := 5, cells := 0, slots := 0, locals := 117 } : Room) s m ([.ref (a 3), .int p1, .int p2] : List Value).toArray below meth c H locs 0 0 (MQ below (es_Qi D (es_wX a cI cZ N) a 35 r S' s.heap.size) ([.ref (a 3), .int p1, .int p2] : List Value).toArray s 0 0 (es_AA a 35 s.heap.size)) (F0 m 31 ls [])) := by
    intro n
    induction n with
    | zero => intro x2 x3 x4 x5 S H locs ls h; rw [f_X5_makeRuns_31] at h; cases h
    | succ n ih =>
      intro x2 x3 x4 x5 S H locs ls h hP hS hl
      rw [f_X5_makeRuns_31] at h
      refine lv_iload hx hb dX5_makeRuns_31 (lv_at hl 4 rfl) ?_
      refine lv_iload_n hx hb dX5_makeRuns_33 rfl (lv_at hl 1 rfl) ?_
      refine lv_icmp_ge (tgt := 139) hx hb dX5_makeRuns_34 (by decide) (fun c10 => ?_) (fun c10 => ?_)
      · replace h := es_if_t c10 h
        refine lv_iload_n hx hb dX5_makeRuns_139 rfl (lv_at hl 1 rfl) ?_
        refine lv_iconst (v := 1) hx hb dX5_makeRuns_140 (by decide) ?_
        refine lv_icmp_lt (tgt := 151) hx hb dX5_makeRuns_141 (by decide) (fun c11 => ?_) (fun c11 => ?_)
        · replace h := es_if_t c11 h
          refine lv_iconst (v := 1) hx hb dX5_makeRuns_151 (by decide) ?_
          refine lv_goto (tgt := 156) hx hb dX5_makeRuns_152 (by decide) ?_
          exact es_zret C hr hlk ⟨rfl, rfl⟩ h hP hS dX5_makeRuns_156
        · replace h := es_if_f c11 h
          refine lv_aload_n hx hb dX5_makeRuns_144 rfl (lv_at hl 0 rfl) ?_
          replace h := es_bd_e h
          obtain ⟨r12, S13, g14, h⟩ := h
          refine es_callVi C (c_X5_endRun l D cI cZ a N _ fu S S13 r12 g14) es_u16_14 es_mX5_endRun ⟨rfl, rfl, by decide, by decide⟩ ⟨Nat.zero_le _, Nat.zero_le _⟩ hP hS (es_wX_3 a cI cZ N S) rfl rfl hl.1 rfl (Nat.le_of_ble_eq_true rfl) dX5_makeRuns_145 (fun H locs _ _ hP hS => ?_)
          refine lv_if_eq (tgt := 155) hx hb dX5_makeRuns_148 (by decide) (fun c15 => ?_) (fun c15 => ?_)
          · replace h := es_if_t c15 h
            refine lv_iconst (v := 0) hx hb dX5_makeRuns_155 (by decide) ?_
            exact es_zret C hr hlk ⟨rfl, rfl⟩ h hP hS dX5_makeRuns_156
          · replace h := es_if_f c15 h
            refine lv_iconst (v := 1) hx hb dX5_makeRuns_151 (by decide) ?_
            refine lv_goto (tgt := 156) hx hb dX5_makeRuns_152 (by decide) ?_
            exact es_zret C hr hlk ⟨rfl, rfl⟩ h hP hS dX5_makeRuns_156
      · replace h := es_if_f c10 h
        refine lv_aload_n hx hb dX5_makeRuns_37 rfl (lv_at hl 0 rfl) ?_
        refine es_get C hP (es_wX_3 a cI cZ N S) rfl inlX5 (j := 5) (by decide) es_u4_18 rfl dX5_makeRuns_38 ?_
        replace h := es_bd_e h
        obtain ⟨r16, S17, g18, h⟩ := h
        refine es_callVi C (c_X3_winner l D cI cZ a N _ fu S S17 r16 g18) es_u16_5 es_mX3_winner ⟨rfl, rfl, by decide, by decide⟩ ⟨Nat.zero_le _, Nat.zero_le _⟩ hP hS (es_wX_8 a cI cZ N S) rfl rfl hl.1 rfl (Nat.le_of_ble_eq_true rfl) dX5_makeRuns_41 (fun H locs _ _ hP hS => ?_)
        refine lv_istore (lv' := [(6, .int r16), (0, .ref (a 3)), (2, .int x2), (3, .int x3), (4, .int x4), (5, .int x5)]) hx hb dX5_makeRuns_44 hl (by decide) rfl (fun ls hl => ?_)
        refine lv_aload_n hx hb dX5_makeRuns_46 rfl (lv_at hl 1 rfl) ?_
        refine es_get C hP (es_wX_3 a cI cZ N S17) rfl inlX5 (j := 5) (by decide) es_u4_18 rfl dX5_makeRuns_47 ?_
        refine lv_iload hx hb dX5_makeRuns_50 (lv_at hl 0 rfl) ?_
        replace h := es_bd_e h
        obtain ⟨r19, S20, g21, h⟩ := h
        refine es_callVi C (c_X3_roundOf l D cI cZ a N _ fu S17 S20 r16 r19 g21) es_u16_9 es_mX3_roundOf ⟨rfl, rfl, by decide, by decide⟩ ⟨Nat.zero_le _, Nat.zero_le _⟩ hP hS (es_wX_8 a cI cZ N S17) rfl rfl hl.1 rfl (Nat.le_of_ble_eq_true rfl) dX5_makeRuns_52 (fun H locs _ _ hP hS => ?_)
        refine lv_iload_n hx hb dX5_makeRuns_55 rfl (lv_at hl 3 rfl) ?_
        refine lv_icmp_eq (tgt := 82) hx hb dX5_makeRuns_56 (by decide) (fun c22 => ?_) (fun c22 => ?_)
        · replace h := es_if_t c22 h
          exact J82 (fun x2 x3 x4 x5 S => f_X5_makeRuns_31 N fu n x2 x3 x4 x5 S) ih x2 x3 x4 x5 r16 S20 _ _ _ h hP hS (lv_sub hl [1, 2, 3, 4, 5, 0] rfl)
        · replace h := es_if_f c22 h
          refine lv_aload_n hx hb dX5_makeRuns_59 rfl (lv_at hl 1 rfl) ?_
          replace h := es_bd_e h
          obtain ⟨r40, S41, g42, h⟩ := h
          refine es_callVi C (c_X5_endRun l D cI cZ a N _ fu S20 S41 r40 g42) es_u16_14 es_mX5_endRun ⟨rfl, rfl, by decide, by decide⟩ ⟨Nat.zero_le _, Nat.zero_le _⟩ hP hS (es_wX_3 a cI cZ N S20) rfl rfl hl.1 rfl (Nat.le_of_ble_eq_true rfl) dX5_makeRuns_60 (fun H locs _ _ hP hS => ?_)
          refine lv_if_ne (tgt := 68) hx hb dX5_makeRuns_63 (by decide) (fun c43 => ?_) (fun c43 => ?_)
          · replace h := es_if_t c43 h
            obtain ⟨y44, ey44⟩ : ∃ y : Int32, y = x3 + 1 := ⟨_, rfl⟩
            refine lv_iinc (v := y44) (lv' := [(3, .int y44), (6, .int r16), (0, .ref (a 3)), (2, .int x2), (4, .int x4), (5, .int x5)]) hx hb dX5_makeRuns_68 hl (k := 3) rfl (by rw [ey44]; rfl) (by decide) rfl (fun ls hl => ?_)
            replace h := es_lt_e ey44 h
            refine lv_aload_n hx hb dX5_makeRuns_71 rfl (lv_at hl 2 rfl) ?_
            refine es_get C hP (es_wX_3 a cI cZ N S41) rfl inlX5 (j := 3) (by decide) es_u4_8 rfl dX5_makeRuns_72 ?_
            refine lv_aload_n hx hb dX5_makeRuns_75 rfl (lv_at hl 2 rfl) ?_
            refine es_get C hP (es_wX_3 a cI cZ N S41) rfl inlX5 (j := 11) (by decide) es_u12_1 rfl dX5_makeRuns_76 ?_
            replace h := es_bd_e h
            obtain ⟨r45, S46, g47, h⟩ := h
            refine es_callVv C (c_X4_open l D cI cZ a N _ fu S41 S46 (S41.1 15) r45 g47) es_u15_20 es_mX4_open ⟨rfl, rfl, by decide, by decide⟩ ⟨Nat.zero_le _, Nat.zero_le _⟩ hP hS (es_wX_2 a cI cZ N S41) rfl rfl hl.1 rfl (Nat.le_of_ble_eq_true rfl) dX5_makeRuns_79 (fun H locs _ _ hP hS => ?_)
            exact J82 (fun x2 x3 x4 x5 S => f_X5_makeRuns_31 N fu n x2 x3 x4 x5 S) ih x2 y44 x4 x5 r16 S46 _ _ _ h hP hS (lv_sub hl [2, 3, 0, 4, 5, 1] rfl)
          · replace h := es_if_f (fun q => q c43) h
            refine lv_iconst (v := 0) hx hb dX5_makeRuns_66 (by decide) ?_
            exact es_zret C hr hlk ⟨rfl, rfl⟩ h hP hS dX5_makeRuns_67
  unfold f_X5_makeRuns at h
  refine lv_iconst (v := 0) hx hb dX5_makeRuns_0 (by decide) ?_
  refine lv_istore_n (lv' := [(3, .int 0), (0, .ref (a 3)), (1, .int p1), (2, .int p2)]) hx hb dX5_makeRuns_1 rfl hl (by decide) rfl (fun ls hl => ?_)
  refine lv_aload_n hx hb dX5_makeRuns_2 rfl (lv_at hl 1 rfl) ?_
  refine lv_iload_n hx hb dX5_makeRuns_3 rfl (lv_at hl 2 rfl) ?_
  refine lv_iload_n hx hb dX5_makeRuns_4 rfl (lv_at hl 3 rfl) ?_
  replace h := es_bd_e h
  obtain ⟨r1, S2, g3, h⟩ := h
  refine es_callVi C (c_X5_fillMemory l D cI cZ a N _ fu S S2 p1 p2 r1 g3) es_u12_13 es_mX5_fillMemory ⟨rfl, rfl, by decide, by decide⟩ ⟨Nat.zero_le _, Nat.zero_le _⟩ hP hS (es_wX_3 a cI cZ N S) rfl rfl hl.1 rfl (Nat.le_of_ble_eq_true rfl) dX5_makeRuns_5 (fun H locs _ _ hP hS => ?_)
  refine lv_istore (lv' := [(4, .int r1), (3, .int 0), (0, .ref (a 3)), (1, .int p1), (2, .int p2)]) hx hb dX5_makeRuns_8 hl (by decide) rfl (fun ls hl => ?_)
  refine lv_aload_n hx hb dX5_makeRuns_10 rfl (lv_at hl 2 rfl) ?_
  refine es_get C hP (es_wX_3 a cI cZ N S2) rfl inlX5 (j := 5) (by decide) es_u4_18 rfl dX5_makeRuns_11 ?_
  replace h := es_bd_e h
  obtain ⟨r4, S5, g6, h⟩ := h
  refine es_callVv C (c_X3_build l D cI cZ a N _ fu S2 S5 r4 g6) es_u15_6 es_mX3_build ⟨rfl, rfl, by decide, by decide⟩ ⟨Nat.zero_le _, Nat.zero_le _⟩ hP hS (es_wX_8 a cI cZ N S2) rfl rfl hl.1 rfl (Nat.le_of_ble_eq_true rfl) dX5_makeRuns_14 (fun H locs _ _ hP hS => ?_)
  refine lv_aload_n hx hb dX5_makeRuns_17 rfl (lv_at hl 2 rfl) ?_
  refine es_get C hP (es_wX_3 a cI cZ N S5) rfl inlX5 (j := 3) (by decide) es_u4_8 rfl dX5_makeRuns_18 ?_
  refine lv_aload_n hx hb dX5_makeRuns_21 rfl (lv_at hl 2 rfl) ?_
  refine es_get C hP (es_wX_3 a cI cZ N S5) rfl inlX5 (j := 11) (by decide) es_u12_1 rfl dX5_makeRuns_22 ?_
  replace h := es_bd_e h
  obtain ⟨r7, S8, g9, h⟩ := h
  refine es_callVv C (c_X4_open l D cI cZ a N _ fu S5 S8 (S5.1 15) r7 g9) es_u15_20 es_mX4_open ⟨rfl, rfl, by decide, by decide⟩ ⟨Nat.zero_le _, Nat.zero_le _⟩ hP hS (es_wX_2 a cI cZ N S5) rfl rfl hl.1 rfl (Nat.le_of_ble_eq_true rfl) dX5_makeRuns_25 (fun H locs _ _ hP hS => ?_)
  refine lv_iconst (v := 0) hx hb dX5_makeRuns_28 (by decide) ?_
  refine lv_istore (lv' := [(5, .int 0), (4, .int r1), (3, .int 0), (0, .ref (a 3)), (1, .int p1), (2, .int p2)]) hx hb dX5_makeRuns_29 hl (by decide) rfl (fun ls hl => ?_)
  exact J31  fu p2 0 r1 0 S8 _ _ _ h hP hS (lv_sub hl [3, 5, 2, 1, 0] rfl)

set_option maxHeartbeats 4000000 in
set_option maxRecDepth 100000 in
theorem c_X5_enterNext (l : Launch) (D : va_G) (cI cZ : ClassId) (a : Nat → Nat) (N : Nat → Nat) (sz fu : Nat) (S S' : es_St) (p1 : Int32) (r : Int32) (h : f_X5_enterNext N fu S p1 = some (r, S')) : Met l yX5_enterNext (Cond.code yX5_enterNext cX5_enterNext 2 none :: wsL_law) ({ frames := 2, cells := 0, slots := 0, locals := 46 } : Room) (es_Pre [.ref (a 3), .int p1] D [(cI, .int), (cZ, .boolean)] (es_wX a cI cZ N) a 35 S sz) (es_Qv D (es_wX a cI cZ N) a 35 S' sz) 0 0 (es_AA a 35 sz) := by
  refine es_intro (Qc := es_Qv D (es_wX a cI cZ N) a 35 S') (by decide) (es_okX a cI cZ N) (Nat.le_of_ble_eq_true rfl) ?_
  intro p e s m below meth c C hr hlk hP ls hl
  have hx := C.1
  have hb := C.2.1
  have hown := C.2.2.2.1
  have hts := C.2.2.2.2.1
  have hS : va_S (es_AA a 35 s.heap.size) s.heap s.heap [] := va_S.rf
  replace hl : lv_has ls 2 [(0, .ref (a 3)), (1, .int p1)] := hl
  unfold f_X5_enterNext at h
  refine lv_aload_n hx hb dX5_enterNext_0 rfl (lv_at hl 0 rfl) ?_
  refine es_get C hP (es_wX_3 a cI cZ N S) rfl inlX5 (j := 4) (by decide) es_u4_12 rfl dX5_enterNext_1 ?_
  refine lv_iload_n hx hb dX5_enterNext_4 rfl (lv_at hl 1 rfl) ?_
  replace h := es_bd_e h
  obtain ⟨r1, S2, g3, h⟩ := h
  refine es_callVi C (c_X1_hasMore l D cI cZ a N _ fu S S2 p1 r1 g3) es_u18_14 es_mX1_hasMore ⟨rfl, rfl, by decide, by decide⟩ ⟨Nat.zero_le _, Nat.zero_le _⟩ hP hS (es_wX_7 a cI cZ N S) rfl rfl hl.1 rfl (Nat.le_of_ble_eq_true rfl) dX5_enterNext_5 (fun H locs _ _ hP hS => ?_)
  refine lv_if_eq (tgt := 40) hx hb dX5_enterNext_8 (by decide) (fun c4 => ?_) (fun c4 => ?_)
  · replace h := es_if_t c4 h
    refine lv_aload_n hx hb dX5_enterNext_40 rfl (lv_at hl 0 rfl) ?_
    refine es_get C hP (es_wX_3 a cI cZ N S2) rfl inlX5 (j := 5) (by decide) es_u4_18 rfl dX5_enterNext_41 ?_
    refine lv_iload_n hx hb dX5_enterNext_44 rfl (lv_at hl 1 rfl) ?_
    replace h := es_bd_e h
    obtain ⟨r5, S6, g7, h⟩ := h
    refine es_callVv C (c_X3_retire l D cI cZ a N _ fu S2 S6 p1 r5 g7) es_u18_18 es_mX3_retire ⟨rfl, rfl, by decide, by decide⟩ ⟨Nat.zero_le _, Nat.zero_le _⟩ hP hS (es_wX_8 a cI cZ N S2) rfl rfl hl.1 rfl (Nat.le_of_ble_eq_true rfl) dX5_enterNext_45 (fun H locs _ _ hP hS => ?_)
    exact es_vret C hr hlk h hP hS dX5_enterNext_48
  · replace h := es_if_f c4 h
    refine lv_aload_n hx hb dX5_enterNext_11 rfl (lv_at hl 0 rfl) ?_
    refine es_get C hP (es_wX_3 a cI cZ N S2) rfl inlX5 (j := 5) (by decide) es_u4_18 rfl dX5_enterNext_12 ?_
    refine lv_iload_n hx hb dX5_enterNext_15 rfl (lv_at hl 1 rfl) ?_
    refine lv_iconst (v := 0) hx hb dX5_enterNext_16 (by decide) ?_
    refine lv_aload_n hx hb dX5_enterNext_17 rfl (lv_at hl 0 rfl) ?_
    refine es_get C hP (es_wX_3 a cI cZ N S2) rfl inlX5 (j := 4) (by decide) es_u4_12 rfl dX5_enterNext_18 ?_
    refine lv_iload_n hx hb dX5_enterNext_21 rfl (lv_at hl 1 rfl) ?_
    replace h := es_bd_e h
    obtain ⟨r8, S9, g10, h⟩ := h
    refine es_callVi C (c_X1_keyOf l D cI cZ a N _ fu S2 S9 p1 r8 g10) es_u14_9 es_mX1_keyOf ⟨rfl, rfl, by decide, by decide⟩ ⟨Nat.zero_le _, Nat.zero_le _⟩ hP hS (es_wX_7 a cI cZ N S2) rfl rfl hl.1 rfl (Nat.le_of_ble_eq_true rfl) dX5_enterNext_22 (fun H locs _ _ hP hS => ?_)
    refine lv_aload_n hx hb dX5_enterNext_25 rfl (lv_at hl 0 rfl) ?_
    refine es_get C hP (es_wX_3 a cI cZ N S9) rfl inlX5 (j := 4) (by decide) es_u4_12 rfl dX5_enterNext_26 ?_
    refine lv_iload_n hx hb dX5_enterNext_29 rfl (lv_at hl 1 rfl) ?_
    replace h := es_bd_e h
    obtain ⟨r11, S12, g13, h⟩ := h
    refine es_callVi C (c_X1_tagOf l D cI cZ a N _ fu S9 S12 p1 r11 g13) es_u14_14 es_mX1_tagOf ⟨rfl, rfl, by decide, by decide⟩ ⟨Nat.zero_le _, Nat.zero_le _⟩ hP hS (es_wX_7 a cI cZ N S9) rfl rfl hl.1 rfl (Nat.le_of_ble_eq_true rfl) dX5_enterNext_30 (fun H locs _ _ hP hS => ?_)
    refine lv_iload_n hx hb dX5_enterNext_33 rfl (lv_at hl 1 rfl) ?_
    replace h := es_bd_e h
    obtain ⟨r14, S15, g16, h⟩ := h
    refine es_callVv C (c_X3_enter l D cI cZ a N _ fu S12 S15 p1 0 r8 r11 p1 r14 g16) es_u14_18 es_mX3_enter ⟨rfl, rfl, by decide, by decide⟩ ⟨Nat.zero_le _, Nat.zero_le _⟩ hP hS (es_wX_8 a cI cZ N S12) rfl rfl hl.1 rfl (Nat.le_of_ble_eq_true rfl) dX5_enterNext_34 (fun H locs _ _ hP hS => ?_)
    refine lv_goto (tgt := 48) hx hb dX5_enterNext_37 (by decide) ?_
    exact es_vret C hr hlk h hP hS dX5_enterNext_48

set_option maxHeartbeats 4000000 in
set_option maxRecDepth 100000 in
theorem c_X5_openRuns (l : Launch) (D : va_G) (cI cZ : ClassId) (a : Nat → Nat) (N : Nat → Nat) (sz fu : Nat) (S S' : es_St) (p1 : Int32) (p2 : Int32) (r : Int32) (h : f_X5_openRuns N fu S p1 p2 = some (r, S')) : Met l yX5_openRuns (Cond.code yX5_openRuns cX5_openRuns 5 (some .int) :: wsL_law) ({ frames := 3, cells := 0, slots := 0, locals := 69 } : Room) (es_Pre [.ref (a 3), .int p1, .int p2] D [(cI, .int), (cZ, .boolean)] (es_wX a cI cZ N) a 35 S sz) (es_Qi D (es_wX a cI cZ N) a 35 r S' sz) 0 0 (es_AA a 35 sz) := by
  refine es_intro (Qc := es_Qi D (es_wX a cI cZ N) a 35 r S') (by decide) (es_okX a cI cZ N) (Nat.le_of_ble_eq_true rfl) ?_
  intro p e s m below meth c C hr hlk hP ls hl
  have hx := C.1
  have hb := C.2.1
  have hown := C.2.2.2.1
  have hts := C.2.2.2.2.1
  have hS : va_S (es_AA a 35 s.heap.size) s.heap s.heap [] := va_S.rf
  replace hl : lv_has ls 5 [(0, .ref (a 3)), (1, .int p1), (2, .int p2)] := hl
  have J17 : ∀ n : Nat, (∀ (x1 : Int32) (x2 : Int32) (x3 : Int32) (x4 : Int32) (S : es_St) (H : Heap) (locs : List Loc) (ls : Array Slot), f_X5_openRuns_17 N fu n x1 x2 x3 x4 S = some (r, S') → va_P D vwCl ((es_wX a cI cZ N) S) H → va_S (es_AA a 35 s.heap.size) s.heap H locs → lv_has ls 5 [(0, .ref (a 3)), (1, .int x1), (2, .int x2), (3, .int x3), (4, .int x4)] → W p l e ({ frames := 3, cells := 0, slots := 0, locals := 69 } : Room) s m ([.ref (a 3), .int p1, .int p2] : List Value).toArray below meth c H locs 0 0 (MQ below (es_Qi D (es_wX a cI cZ N) a 35 r S' s.heap.size) ([.ref (a 3), .int p1, .int p2] : List Value).toArray s 0 0 (es_AA a 35 s.heap.size)) (F0 m 17 ls [])) := by
    intro n
    induction n with
    | zero => intro x1 x2 x3 x4 S H locs ls h; rw [f_X5_openRuns_17] at h; cases h
    | succ n ih =>
      intro x1 x2 x3 x4 S H locs ls h hP hS hl
      rw [f_X5_openRuns_17] at h
      refine lv_iload hx hb dX5_openRuns_17 (lv_at hl 4 rfl) ?_
      refine lv_iload_n hx hb dX5_openRuns_19 rfl (lv_at hl 2 rfl) ?_
      refine lv_icmp_ge (tgt := 102) hx hb dX5_openRuns_20 (by decide) (fun c4 => ?_) (fun c4 => ?_)
      · replace h := es_if_t c4 h
        refine lv_iload_n hx hb dX5_openRuns_102 rfl (lv_at hl 3 rfl) ?_
        exact es_iret C hr hlk h hP hS dX5_openRuns_103
      · replace h := es_if_f c4 h
        refine lv_iload_n hx hb dX5_openRuns_23 rfl (lv_at hl 1 rfl) ?_
        refine lv_iload hx hb dX5_openRuns_24 (lv_at hl 4 rfl) ?_
        refine lv_iadd hx hb dX5_openRuns_26 ?_
        refine lv_aload_n hx hb dX5_openRuns_27 rfl (lv_at hl 0 rfl) ?_
        refine es_get C hP (es_wX_3 a cI cZ N S) rfl inlX5 (j := 6) (by decide) es_u4_20 rfl dX5_openRuns_28 ?_
        refine es_len C hP (es_wX_18 a cI cZ N S) (t0 := 0) rfl dX5_openRuns_31 ?_
        refine lv_icmp_ge (tgt := 102) hx hb dX5_openRuns_32 (by decide) (fun c5 => ?_) (fun c5 => ?_)
        · replace h := es_if_t c5 h
          refine lv_iload_n hx hb dX5_openRuns_102 rfl (lv_at hl 3 rfl) ?_
          exact es_iret C hr hlk h hP hS dX5_openRuns_103
        · replace h := es_if_f c5 h
          refine lv_aload_n hx hb dX5_openRuns_35 rfl (lv_at hl 0 rfl) ?_
          refine es_get C hP (es_wX_3 a cI cZ N S) rfl inlX5 (j := 4) (by decide) es_u4_12 rfl dX5_openRuns_36 ?_
          refine lv_iload hx hb dX5_openRuns_39 (lv_at hl 4 rfl) ?_
          refine lv_aload_n hx hb dX5_openRuns_41 rfl (lv_at hl 0 rfl) ?_
          refine es_get C hP (es_wX_3 a cI cZ N S) rfl inlX5 (j := 6) (by decide) es_u4_20 rfl dX5_openRuns_42 ?_
          refine lv_iload_n hx hb dX5_openRuns_45 rfl (lv_at hl 1 rfl) ?_
          refine lv_iload hx hb dX5_openRuns_46 (lv_at hl 4 rfl) ?_
          refine lv_iadd hx hb dX5_openRuns_48 ?_
          replace h := es_ck_e h
          obtain ⟨b6, h⟩ := h
          refine es_ald C hP (es_wX_18 a cI cZ N S) (t0 := 0) rfl b6 dX5_openRuns_49 ?_
          refine lv_topi (fun v7 ev7 => ?_)
          replace h := es_lt_e ev7 h
          refine lv_aload_n hx hb dX5_openRuns_50 rfl (lv_at hl 0 rfl) ?_
          refine es_get C hP (es_wX_3 a cI cZ N S) rfl inlX5 (j := 7) (by decide) es_u4_21 rfl dX5_openRuns_51 ?_
          refine lv_iload_n hx hb dX5_openRuns_54 rfl (lv_at hl 1 rfl) ?_
          refine lv_iload hx hb dX5_openRuns_55 (lv_at hl 4 rfl) ?_
          refine lv_iadd hx hb dX5_openRuns_57 ?_
          replace h := es_ck_e h
          obtain ⟨b8, h⟩ := h
          refine es_ald C hP (es_wX_19 a cI cZ N S) (t0 := 0) rfl b8 dX5_openRuns_58 ?_
          refine lv_topi (fun v9 ev9 => ?_)
          replace h := es_lt_e ev9 h
          replace h := es_bd_e h
          obtain ⟨r10, S11, g12, h⟩ := h
          refine es_callVv C (c_X1_open l D cI cZ a N _ fu S S11 x4 v7 v9 r10 g12) es_u12_22 es_mX1_open ⟨rfl, rfl, by decide, by decide⟩ ⟨Nat.zero_le _, Nat.zero_le _⟩ hP hS (es_wX_7 a cI cZ N S) rfl rfl hl.1 rfl (Nat.le_of_ble_eq_true rfl) dX5_openRuns_59 (fun H locs _ _ hP hS => ?_)
          refine lv_aload_n hx hb dX5_openRuns_62 rfl (lv_at hl 0 rfl) ?_
          refine es_get C hP (es_wX_3 a cI cZ N S11) rfl inlX5 (j := 2) (by decide) es_u4_7 rfl dX5_openRuns_63 ?_
          refine lv_aload_n hx hb dX5_openRuns_66 rfl (lv_at hl 0 rfl) ?_
          refine es_get C hP (es_wX_3 a cI cZ N S11) rfl inlX5 (j := 4) (by decide) es_u4_12 rfl dX5_openRuns_67 ?_
          refine lv_iload hx hb dX5_openRuns_70 (lv_at hl 4 rfl) ?_
          replace h := es_bd_e h
          obtain ⟨r13, S14, g15, h⟩ := h
          refine es_callVi C (c_X1_readPage l D cI cZ a N _ fu S11 S14 x4 r13 g15) es_u13_17 es_mX1_readPage ⟨rfl, rfl, by decide, by decide⟩ ⟨Nat.zero_le _, Nat.zero_le _⟩ hP hS (es_wX_7 a cI cZ N S11) rfl rfl hl.1 rfl (Nat.le_of_ble_eq_true rfl) dX5_openRuns_72 (fun H locs _ _ hP hS => ?_)
          replace h := es_bd_e h
          obtain ⟨r16, S17, g18, h⟩ := h
          refine es_callVv C (c_X0_release l D cI cZ a N _ fu S14 S17 r13 r16 g18) es_u19_12 es_mX0_release ⟨rfl, rfl, by decide, by decide⟩ ⟨Nat.zero_le _, Nat.zero_le _⟩ hP hS (es_wX_1 a cI cZ N S14) rfl rfl hl.1 rfl (Nat.le_of_ble_eq_true rfl) dX5_openRuns_75 (fun H locs _ _ hP hS => ?_)
          refine lv_aload_n hx hb dX5_openRuns_78 rfl (lv_at hl 0 rfl) ?_
          refine lv_iload hx hb dX5_openRuns_79 (lv_at hl 4 rfl) ?_
          replace h := es_bd_e h
          obtain ⟨r19, S20, g21, h⟩ := h
          refine es_callVv C (c_X5_enterNext l D cI cZ a N _ fu S17 S20 x4 r19 g21) es_u19_13 es_mX5_enterNext ⟨rfl, rfl, by decide, by decide⟩ ⟨Nat.zero_le _, Nat.zero_le _⟩ hP hS (es_wX_3 a cI cZ N S17) rfl rfl hl.1 rfl (Nat.le_of_ble_eq_true rfl) dX5_openRuns_81 (fun H locs _ _ hP hS => ?_)
          refine lv_iload_n hx hb dX5_openRuns_84 rfl (lv_at hl 3 rfl) ?_
          refine lv_aload_n hx hb dX5_openRuns_85 rfl (lv_at hl 0 rfl) ?_
          refine es_get C hP (es_wX_3 a cI cZ N S20) rfl inlX5 (j := 7) (by decide) es_u4_21 rfl dX5_openRuns_86 ?_
          refine lv_iload_n hx hb dX5_openRuns_89 rfl (lv_at hl 1 rfl) ?_
          refine lv_iload hx hb dX5_openRuns_90 (lv_at hl 4 rfl) ?_
          refine lv_iadd hx hb dX5_openRuns_92 ?_
          replace h := es_ck_e h
          obtain ⟨b22, h⟩ := h
          refine es_ald C hP (es_wX_19 a cI cZ N S20) (t0 := 0) rfl b22 dX5_openRuns_93 ?_
          refine lv_topi (fun v23 ev23 => ?_)
          replace h := es_lt_e ev23 h
          refine lv_iadd hx hb dX5_openRuns_94 ?_
          refine lv_topi (fun y24 ey24 => ?_)
          replace h := es_lt_e ey24 h
          refine lv_istore_n (lv' := [(3, .int y24), (0, .ref (a 3)), (1, .int x1), (2, .int x2), (4, .int x4)]) hx hb dX5_openRuns_95 rfl hl (by decide) rfl (fun ls hl => ?_)
          obtain ⟨y25, ey25⟩ : ∃ y : Int32, y = x4 + 1 := ⟨_, rfl⟩
          refine lv_iinc (v := y25) (lv' := [(4, .int y25), (3, .int y24), (0, .ref (a 3)), (1, .int x1), (2, .int x2)]) hx hb dX5_openRuns_96 hl (k := 4) rfl (by rw [ey25]; rfl) (by decide) rfl (fun ls hl => ?_)
          replace h := es_lt_e ey25 h
          refine lv_goto (tgt := 17) hx hb dX5_openRuns_99 (by decide) ?_
          exact ih x1 x2 y24 y25 S20 _ _ _ h hP hS (lv_sub hl [2, 3, 4, 1, 0] rfl)
  unfold f_X5_openRuns at h
  refine lv_iconst (v := 0) hx hb dX5_openRuns_0 (by decide) ?_
  refine lv_istore_n (lv' := [(3, .int 0), (0, .ref (a 3)), (1, .int p1), (2, .int p2)]) hx hb dX5_openRuns_1 rfl hl (by decide) rfl (fun ls hl => ?_)
  refine lv_aload_n hx hb dX5_openRuns_2 rfl (lv_at hl 1 rfl) ?_
  refine es_get C hP (es_wX_3 a cI cZ N S) rfl inlX5 (j := 5) (by decide) es_u4_18 rfl dX5_openRuns_3 ?_
  refine lv_iload_n hx hb dX5_openRuns_6 rfl (lv_at hl 3 rfl) ?_
  refine lv_aload_n hx hb dX5_openRuns_7 rfl (lv_at hl 1 rfl) ?_
  refine es_get C hP (es_wX_3 a cI cZ N S) rfl inlX5 (j := 10) (by decide) es_u12_0 rfl dX5_openRuns_8 ?_
  replace h := es_bd_e h
  obtain ⟨r1, S2, g3, h⟩ := h
  refine es_callVv C (c_X3_begin l D cI cZ a N _ fu S S2 p2 (S.1 14) r1 g3) es_u13_2 es_mX3_begin ⟨rfl, rfl, by decide, by decide⟩ ⟨Nat.zero_le _, Nat.zero_le _⟩ hP hS (es_wX_8 a cI cZ N S) rfl rfl hl.1 rfl (Nat.le_of_ble_eq_true rfl) dX5_openRuns_11 (fun H locs _ _ hP hS => ?_)
  refine lv_iconst (v := 0) hx hb dX5_openRuns_14 (by decide) ?_
  refine lv_istore (lv' := [(4, .int 0), (3, .int 0), (0, .ref (a 3)), (1, .int p1), (2, .int p2)]) hx hb dX5_openRuns_15 hl (by decide) rfl (fun ls hl => ?_)
  exact J17  fu p1 p2 0 0 S2 _ _ _ h hP hS (lv_sub hl [2, 3, 4, 1, 0] rfl)

set_option maxHeartbeats 4000000 in
set_option maxRecDepth 100000 in
theorem c_X5_mergeRuns (l : Launch) (D : va_G) (cI cZ : ClassId) (a : Nat → Nat) (N : Nat → Nat) (sz fu : Nat) (S S' : es_St) (p1 : Int32) (p2 : Int32) (r : Int32) (h : f_X5_mergeRuns N fu S p1 p2 = some (r, S')) : Met l yX5_mergeRuns (Cond.code yX5_mergeRuns cX5_mergeRuns 8 (some .boolean) :: wsL_law) ({ frames := 4, cells := 0, slots := 0, locals := 93 } : Room) (es_Pre [.ref (a 3), .int p1, .int p2] D [(cI, .int), (cZ, .boolean)] (es_wX a cI cZ N) a 35 S sz) (es_Qi D (es_wX a cI cZ N) a 35 r S' sz) 0 0 (es_AA a 35 sz) := by
  refine es_intro (Qc := es_Qi D (es_wX a cI cZ N) a 35 r S') (by decide) (es_okX a cI cZ N) (Nat.le_of_ble_eq_true rfl) ?_
  intro p e s m below meth c C hr hlk hP ls hl
  have hx := C.1
  have hb := C.2.1
  have hown := C.2.2.2.1
  have hts := C.2.2.2.2.1
  have hS : va_S (es_AA a 35 s.heap.size) s.heap s.heap [] := va_S.rf
  replace hl : lv_has ls 8 [(0, .ref (a 3)), (1, .int p1), (2, .int p2)] := hl
  have J102 : ∀ (k28 : Int32 → Int32 → es_St → Option (Int32 × es_St)) (hk28 : (∀ (x3 : Int32) (x4 : Int32) (S : es_St) (H : Heap) (locs : List Loc) (ls : Array Slot), k28 x3 x4 S = some (r, S') → va_P D vwCl ((es_wX a cI cZ N) S) H → va_S (es_AA a 35 s.heap.size) s.heap H locs → lv_has ls 8 [(0, .ref (a 3)), (3, .int x3), (4, .int x4)] → W p l e ({ frames := 4, cells := 0, slots := 0, locals := 93 } : Room) s m ([.ref (a 3), .int p1, .int p2] : List Value).toArray below meth c H locs 0 0 (MQ below (es_Qi D (es_wX a cI cZ N) a 35 r S' s.heap.size) ([.ref (a 3), .int p1, .int p2] : List Value).toArray s 0 0 (es_AA a 35 s.heap.size)) (F0 m 28 ls []))), (∀ (x3 : Int32) (x4 : Int32) (x5 : Int32) (x6 : Int32) (x7 : Int32) (S : es_St) (H : Heap) (locs : List Loc) (ls : Array Slot), f_X5_mergeRuns_102 N fu k28 x3 x4 x5 x6 x7 S = some (r, S') → va_P D vwCl ((es_wX a cI cZ N) S) H → va_S (es_AA a 35 s.heap.size) s.heap H locs → lv_has ls 8 [(0, .ref (a 3)), (3, .int x3), (4, .int x4), (5, .int x5), (6, .int x6), (7, .int x7)] → W p l e ({ frames := 4, cells := 0, slots := 0, locals := 93 } : Room) s m ([.ref (a 3), .int p1, .int p2] : List Value).toArray below meth c H locs 0 0 (MQ below (es_Qi D (es_wX a cI cZ N) a 35 r S' s.heap.size) ([.ref (a 3), .int p1, .int p2] : List Value).toArray s 0 0 (es_AA a 35 s.heap.size)) (F0 m 102 ls [])) := by
    intro k28 hk28 x3 x4 x5 x6 x7 S H locs ls h hP hS hl
    unfold f_X5_mergeRuns_102 at h
    refine lv_aload_n hx hb dX5_mergeRuns_102 rfl (lv_at hl 0 rfl) ?_
    refine lv_iload hx hb dX5_mergeRuns_103 (lv_at hl 3 rfl) ?_
    replace h := es_bd_e h
    obtain ⟨r31, S32, g33, h⟩ := h
    refine es_callVv C (c_X5_enterNext l D cI cZ a N _ fu S S32 x5 r31 g33) es_u19_13 es_mX5_enterNext ⟨rfl, rfl, by decide, by decide⟩ ⟨Nat.zero_le _, Nat.zero_le _⟩ hP hS (es_wX_3 a cI cZ N S) rfl rfl hl.1 rfl (Nat.le_of_ble_eq_true rfl) dX5_mergeRuns_105 (fun H locs _ _ hP hS => ?_)
    refine lv_aload_n hx hb dX5_mergeRuns_108 rfl (lv_at hl 0 rfl) ?_
    refine es_get C hP (es_wX_3 a cI cZ N S32) rfl inlX5 (j := 5) (by decide) es_u4_18 rfl dX5_mergeRuns_109 ?_
    refine lv_iload hx hb dX5_mergeRuns_112 (lv_at hl 3 rfl) ?_
    replace h := es_bd_e h
    obtain ⟨r34, S35, g36, h⟩ := h
    refine es_callVv C (c_X3_climb l D cI cZ a N _ fu S32 S35 x5 r34 g36) es_u18_22 es_mX3_climb ⟨rfl, rfl, by decide, by decide⟩ ⟨Nat.zero_le _, Nat.zero_le _⟩ hP hS (es_wX_8 a cI cZ N S32) rfl rfl hl.1 rfl (Nat.le_of_ble_eq_true rfl) dX5_mergeRuns_114 (fun H locs _ _ hP hS => ?_)
    refine lv_aload_n hx hb dX5_mergeRuns_117 rfl (lv_at hl 0 rfl) ?_
    refine es_get C hP (es_wX_3 a cI cZ N S35) rfl inlX5 (j := 3) (by decide) es_u4_8 rfl dX5_mergeRuns_118 ?_
    refine lv_iload hx hb dX5_mergeRuns_121 (lv_at hl 4 rfl) ?_
    refine lv_iload hx hb dX5_mergeRuns_123 (lv_at hl 5 rfl) ?_
    replace h := es_bd_e h
    obtain ⟨r37, S38, g39, h⟩ := h
    refine es_callVi C (c_X4_put l D cI cZ a N _ fu S35 S38 x6 x7 r37 g39) es_u18_2 es_mX4_put ⟨rfl, rfl, by decide, by decide⟩ ⟨Nat.zero_le _, Nat.zero_le _⟩ hP hS (es_wX_2 a cI cZ N S35) rfl rfl hl.1 rfl (Nat.le_of_ble_eq_true rfl) dX5_mergeRuns_125 (fun H locs _ _ hP hS => ?_)
    refine lv_if_ne (tgt := 133) hx hb dX5_mergeRuns_128 (by decide) (fun c40 => ?_) (fun c40 => ?_)
    · replace h := es_if_t c40 h
      obtain ⟨y41, ey41⟩ : ∃ y : Int32, y = x4 + 1 := ⟨_, rfl⟩
      refine lv_iinc (v := y41) (lv' := [(4, .int y41), (0, .ref (a 3)), (3, .int x3), (5, .int x5), (6, .int x6), (7, .int x7)]) hx hb dX5_mergeRuns_133 hl (k := 2) rfl (by rw [ey41]; rfl) (by decide) rfl (fun ls hl => ?_)
      replace h := es_lt_e ey41 h
      refine lv_goto (tgt := 28) hx hb dX5_mergeRuns_136 (by decide) ?_
      exact hk28 x3 y41 S38 _ _ _ h hP hS (lv_sub hl [1, 2, 0] rfl)
    · replace h := es_if_f (fun q => q c40) h
      refine lv_iconst (v := 0) hx hb dX5_mergeRuns_131 (by decide) ?_
      exact es_zret C hr hlk ⟨rfl, rfl⟩ h hP hS dX5_mergeRuns_132
  have J28 : ∀ n : Nat, (∀ (x3 : Int32) (x4 : Int32) (S : es_St) (H : Heap) (locs : List Loc) (ls : Array Slot), f_X5_mergeRuns_28 N fu n x3 x4 S = some (r, S') → va_P D vwCl ((es_wX a cI cZ N) S) H → va_S (es_AA a 35 s.heap.size) s.heap H locs → lv_has ls 8 [(0, .ref (a 3)), (3, .int x3), (4, .int x4)] → W p l e ({ frames := 4, cells := 0, slots := 0, locals := 93 } : Room) s m ([.ref (a 3), .int p1, .int p2] : List Value).toArray below meth c H locs 0 0 (MQ below (es_Qi D (es_wX a cI cZ N) a 35 r S' s.heap.size) ([.ref (a 3), .int p1, .int p2] : List Value).toArray s 0 0 (es_AA a 35 s.heap.size)) (F0 m 28 ls [])) := by
    intro n
    induction n with
    | zero => intro x3 x4 S H locs ls h; rw [f_X5_mergeRuns_28] at h; cases h
    | succ n ih =>
      intro x3 x4 S H locs ls h hP hS hl
      rw [f_X5_mergeRuns_28] at h
      refine lv_iload hx hb dX5_mergeRuns_28 (lv_at hl 2 rfl) ?_
      refine lv_iload_n hx hb dX5_mergeRuns_30 rfl (lv_at hl 1 rfl) ?_
      refine lv_icmp_ge (tgt := 139) hx hb dX5_mergeRuns_31 (by decide) (fun c10 => ?_) (fun c10 => ?_)
      · replace h := es_if_t c10 h
        refine lv_aload_n hx hb dX5_mergeRuns_139 rfl (lv_at hl 0 rfl) ?_
        refine es_get C hP (es_wX_3 a cI cZ N S) rfl inlX5 (j := 3) (by decide) es_u4_8 rfl dX5_mergeRuns_140 ?_
        replace h := es_bd_e h
        obtain ⟨r11, S12, g13, h⟩ := h
        refine es_callVi C (c_X4_close l D cI cZ a N _ fu S S12 r11 g13) es_u16_21 es_mX4_close ⟨rfl, rfl, by decide, by decide⟩ ⟨Nat.zero_le _, Nat.zero_le _⟩ hP hS (es_wX_2 a cI cZ N S) rfl rfl hl.1 rfl (Nat.le_of_ble_eq_true rfl) dX5_mergeRuns_143 (fun H locs _ _ hP hS => ?_)
        replace h := es_ck_e h
        obtain ⟨b14, h⟩ := h
        exact es_zret C hr hlk b14 h hP hS dX5_mergeRuns_146
      · replace h := es_if_f c10 h
        refine lv_aload_n hx hb dX5_mergeRuns_34 rfl (lv_at hl 0 rfl) ?_
        refine es_get C hP (es_wX_3 a cI cZ N S) rfl inlX5 (j := 5) (by decide) es_u4_18 rfl dX5_mergeRuns_35 ?_
        replace h := es_bd_e h
        obtain ⟨r15, S16, g17, h⟩ := h
        refine es_callVi C (c_X3_winner l D cI cZ a N _ fu S S16 r15 g17) es_u16_5 es_mX3_winner ⟨rfl, rfl, by decide, by decide⟩ ⟨Nat.zero_le _, Nat.zero_le _⟩ hP hS (es_wX_8 a cI cZ N S) rfl rfl hl.1 rfl (Nat.le_of_ble_eq_true rfl) dX5_mergeRuns_38 (fun H locs _ _ hP hS => ?_)
        refine lv_istore (lv' := [(5, .int r15), (0, .ref (a 3)), (3, .int x3), (4, .int x4)]) hx hb dX5_mergeRuns_41 hl (by decide) rfl (fun ls hl => ?_)
        refine lv_aload_n hx hb dX5_mergeRuns_43 rfl (lv_at hl 1 rfl) ?_
        refine es_get C hP (es_wX_3 a cI cZ N S16) rfl inlX5 (j := 5) (by decide) es_u4_18 rfl dX5_mergeRuns_44 ?_
        refine lv_iload hx hb dX5_mergeRuns_47 (lv_at hl 0 rfl) ?_
        replace h := es_bd_e h
        obtain ⟨r18, S19, g20, h⟩ := h
        refine es_callVi C (c_X3_keyOf l D cI cZ a N _ fu S16 S19 r15 r18 g20) es_u17_18 es_mX3_keyOf ⟨rfl, rfl, by decide, by decide⟩ ⟨Nat.zero_le _, Nat.zero_le _⟩ hP hS (es_wX_8 a cI cZ N S16) rfl rfl hl.1 rfl (Nat.le_of_ble_eq_true rfl) dX5_mergeRuns_49 (fun H locs _ _ hP hS => ?_)
        refine lv_istore (lv' := [(6, .int r18), (5, .int r15), (0, .ref (a 3)), (3, .int x3), (4, .int x4)]) hx hb dX5_mergeRuns_52 hl (by decide) rfl (fun ls hl => ?_)
        refine lv_aload_n hx hb dX5_mergeRuns_54 rfl (lv_at hl 2 rfl) ?_
        refine es_get C hP (es_wX_3 a cI cZ N S19) rfl inlX5 (j := 5) (by decide) es_u4_18 rfl dX5_mergeRuns_55 ?_
        refine lv_iload hx hb dX5_mergeRuns_58 (lv_at hl 1 rfl) ?_
        replace h := es_bd_e h
        obtain ⟨r21, S22, g23, h⟩ := h
        refine es_callVi C (c_X3_tagOf l D cI cZ a N _ fu S19 S22 r15 r21 g23) es_u17_22 es_mX3_tagOf ⟨rfl, rfl, by decide, by decide⟩ ⟨Nat.zero_le _, Nat.zero_le _⟩ hP hS (es_wX_8 a cI cZ N S19) rfl rfl hl.1 rfl (Nat.le_of_ble_eq_true rfl) dX5_mergeRuns_60 (fun H locs _ _ hP hS => ?_)
        refine lv_istore (lv' := [(7, .int r21), (6, .int r18), (5, .int r15), (0, .ref (a 3)), (3, .int x3), (4, .int x4)]) hx hb dX5_mergeRuns_63 hl (by decide) rfl (fun ls hl => ?_)
        refine lv_aload_n hx hb dX5_mergeRuns_65 rfl (lv_at hl 3 rfl) ?_
        refine es_get C hP (es_wX_3 a cI cZ N S22) rfl inlX5 (j := 4) (by decide) es_u4_12 rfl dX5_mergeRuns_66 ?_
        refine lv_iload hx hb dX5_mergeRuns_69 (lv_at hl 2 rfl) ?_
        replace h := es_bd_e h
        obtain ⟨r24, S25, g26, h⟩ := h
        refine es_callVv C (c_X1_step l D cI cZ a N _ fu S22 S25 r15 r24 g26) es_u15_2 es_mX1_step ⟨rfl, rfl, by decide, by decide⟩ ⟨Nat.zero_le _, Nat.zero_le _⟩ hP hS (es_wX_7 a cI cZ N S22) rfl rfl hl.1 rfl (Nat.le_of_ble_eq_true rfl) dX5_mergeRuns_71 (fun H locs _ _ hP hS => ?_)
        refine lv_aload_n hx hb dX5_mergeRuns_74 rfl (lv_at hl 3 rfl) ?_
        refine es_get C hP (es_wX_3 a cI cZ N S25) rfl inlX5 (j := 4) (by decide) es_u4_12 rfl dX5_mergeRuns_75 ?_
        refine lv_iload hx hb dX5_mergeRuns_78 (lv_at hl 2 rfl) ?_
        replace h := es_bd_e h
        obtain ⟨r27, S28, g29, h⟩ := h
        refine es_callVi C (c_X1_isUsedUp l D cI cZ a N _ fu S25 S28 r15 r27 g29) es_u13_13 es_mX1_isUsedUp ⟨rfl, rfl, by decide, by decide⟩ ⟨Nat.zero_le _, Nat.zero_le _⟩ hP hS (es_wX_7 a cI cZ N S25) rfl rfl hl.1 rfl (Nat.le_of_ble_eq_true rfl) dX5_mergeRuns_80 (fun H locs _ _ hP hS => ?_)
        refine lv_if_eq (tgt := 102) hx hb dX5_mergeRuns_83 (by decide) (fun c30 => ?_) (fun c30 => ?_)
        · replace h := es_if_t c30 h
          exact J102 (fun x3 x4 S => f_X5_mergeRuns_28 N fu n x3 x4 S) ih x3 x4 r15 r18 r21 S28 _ _ _ h hP hS (lv_sub hl [3, 4, 5, 2, 1, 0] rfl)
        · replace h := es_if_f c30 h
          refine lv_aload_n hx hb dX5_mergeRuns_86 rfl (lv_at hl 3 rfl) ?_
          refine es_get C hP (es_wX_3 a cI cZ N S28) rfl inlX5 (j := 2) (by decide) es_u4_7 rfl dX5_mergeRuns_87 ?_
          refine lv_aload_n hx hb dX5_mergeRuns_90 rfl (lv_at hl 3 rfl) ?_
          refine es_get C hP (es_wX_3 a cI cZ N S28) rfl inlX5 (j := 4) (by decide) es_u4_12 rfl dX5_mergeRuns_91 ?_
          refine lv_iload hx hb dX5_mergeRuns_94 (lv_at hl 2 rfl) ?_
          replace h := es_bd_e h
          obtain ⟨r42, S43, g44, h⟩ := h
          refine es_callVi C (c_X1_readPage l D cI cZ a N _ fu S28 S43 r15 r42 g44) es_u13_17 es_mX1_readPage ⟨rfl, rfl, by decide, by decide⟩ ⟨Nat.zero_le _, Nat.zero_le _⟩ hP hS (es_wX_7 a cI cZ N S28) rfl rfl hl.1 rfl (Nat.le_of_ble_eq_true rfl) dX5_mergeRuns_96 (fun H locs _ _ hP hS => ?_)
          replace h := es_bd_e h
          obtain ⟨r45, S46, g47, h⟩ := h
          refine es_callVv C (c_X0_release l D cI cZ a N _ fu S43 S46 r42 r45 g47) es_u19_12 es_mX0_release ⟨rfl, rfl, by decide, by decide⟩ ⟨Nat.zero_le _, Nat.zero_le _⟩ hP hS (es_wX_1 a cI cZ N S43) rfl rfl hl.1 rfl (Nat.le_of_ble_eq_true rfl) dX5_mergeRuns_99 (fun H locs _ _ hP hS => ?_)
          exact J102 (fun x3 x4 S => f_X5_mergeRuns_28 N fu n x3 x4 S) ih x3 x4 r15 r18 r21 S46 _ _ _ h hP hS (lv_sub hl [3, 4, 5, 2, 1, 0] rfl)
  unfold f_X5_mergeRuns at h
  refine lv_aload_n hx hb dX5_mergeRuns_0 rfl (lv_at hl 0 rfl) ?_
  refine lv_iload_n hx hb dX5_mergeRuns_1 rfl (lv_at hl 1 rfl) ?_
  refine lv_iload_n hx hb dX5_mergeRuns_2 rfl (lv_at hl 2 rfl) ?_
  replace h := es_bd_e h
  obtain ⟨r1, S2, g3, h⟩ := h
  refine es_callVi C (c_X5_openRuns l D cI cZ a N _ fu S S2 p1 p2 r1 g3) es_u19_8 es_mX5_openRuns ⟨rfl, rfl, by decide, by decide⟩ ⟨Nat.zero_le _, Nat.zero_le _⟩ hP hS (es_wX_3 a cI cZ N S) rfl rfl hl.1 rfl (Nat.le_of_ble_eq_true rfl) dX5_mergeRuns_3 (fun H locs _ _ hP hS => ?_)
  refine lv_istore_n (lv' := [(3, .int r1), (0, .ref (a 3)), (1, .int p1), (2, .int p2)]) hx hb dX5_mergeRuns_6 rfl hl (by decide) rfl (fun ls hl => ?_)
  refine lv_aload_n hx hb dX5_mergeRuns_7 rfl (lv_at hl 1 rfl) ?_
  refine es_get C hP (es_wX_3 a cI cZ N S2) rfl inlX5 (j := 5) (by decide) es_u4_18 rfl dX5_mergeRuns_8 ?_
  replace h := es_bd_e h
  obtain ⟨r4, S5, g6, h⟩ := h
  refine es_callVv C (c_X3_build l D cI cZ a N _ fu S2 S5 r4 g6) es_u15_6 es_mX3_build ⟨rfl, rfl, by decide, by decide⟩ ⟨Nat.zero_le _, Nat.zero_le _⟩ hP hS (es_wX_8 a cI cZ N S2) rfl rfl hl.1 rfl (Nat.le_of_ble_eq_true rfl) dX5_mergeRuns_11 (fun H locs _ _ hP hS => ?_)
  refine lv_aload_n hx hb dX5_mergeRuns_14 rfl (lv_at hl 1 rfl) ?_
  refine es_get C hP (es_wX_3 a cI cZ N S5) rfl inlX5 (j := 3) (by decide) es_u4_8 rfl dX5_mergeRuns_15 ?_
  refine lv_aload_n hx hb dX5_mergeRuns_18 rfl (lv_at hl 1 rfl) ?_
  refine es_get C hP (es_wX_3 a cI cZ N S5) rfl inlX5 (j := 11) (by decide) es_u12_1 rfl dX5_mergeRuns_19 ?_
  replace h := es_bd_e h
  obtain ⟨r7, S8, g9, h⟩ := h
  refine es_callVv C (c_X4_open l D cI cZ a N _ fu S5 S8 (S5.1 15) r7 g9) es_u15_20 es_mX4_open ⟨rfl, rfl, by decide, by decide⟩ ⟨Nat.zero_le _, Nat.zero_le _⟩ hP hS (es_wX_2 a cI cZ N S5) rfl rfl hl.1 rfl (Nat.le_of_ble_eq_true rfl) dX5_mergeRuns_22 (fun H locs _ _ hP hS => ?_)
  refine lv_iconst (v := 0) hx hb dX5_mergeRuns_25 (by decide) ?_
  refine lv_istore (lv' := [(4, .int 0), (3, .int r1), (0, .ref (a 3)), (1, .int p1), (2, .int p2)]) hx hb dX5_mergeRuns_26 hl (by decide) rfl (fun ls hl => ?_)
  exact J28  fu r1 0 S8 _ _ _ h hP hS (lv_sub hl [2, 1, 0] rfl)

set_option maxHeartbeats 4000000 in
set_option maxRecDepth 100000 in
theorem c_X5_mergePass (l : Launch) (D : va_G) (cI cZ : ClassId) (a : Nat → Nat) (N : Nat → Nat) (sz fu : Nat) (S S' : es_St) (r : Int32) (h : f_X5_mergePass N fu S = some (r, S')) : Met l yX5_mergePass (Cond.code yX5_mergePass cX5_mergePass 6 (some .boolean) :: wsL_law) ({ frames := 5, cells := 0, slots := 0, locals := 120 } : Room) (es_Pre [.ref (a 3)] D [(cI, .int), (cZ, .boolean)] (es_wX a cI cZ N) a 35 S sz) (es_Qi D (es_wX a cI cZ N) a 35 r S' sz) 0 0 (es_AA a 35 sz) := by
  refine es_intro (Qc := es_Qi D (es_wX a cI cZ N) a 35 r S') (by decide) (es_okX a cI cZ N) (Nat.le_of_ble_eq_true rfl) ?_
  intro p e s m below meth c C hr hlk hP ls hl
  have hx := C.1
  have hb := C.2.1
  have hown := C.2.2.2.1
  have hts := C.2.2.2.2.1
  have hS : va_S (es_AA a 35 s.heap.size) s.heap s.heap [] := va_S.rf
  replace hl : lv_has ls 6 [(0, .ref (a 3))] := hl
  have J29 : ∀ n : Nat, (∀ (x1 : Int32) (x2 : Int32) (x3 : Int32) (x4 : Int32) (S : es_St) (H : Heap) (locs : List Loc) (ls : Array Slot), f_X5_mergePass_29 N fu n x1 x2 x3 x4 S = some (r, S') → va_P D vwCl ((es_wX a cI cZ N) S) H → va_S (es_AA a 35 s.heap.size) s.heap H locs → lv_has ls 6 [(0, .ref (a 3)), (1, .int x1), (2, .int x2), (3, .int x3), (4, .int x4)] → W p l e ({ frames := 5, cells := 0, slots := 0, locals := 120 } : Room) s m ([.ref (a 3)] : List Value).toArray below meth c H locs 0 0 (MQ below (es_Qi D (es_wX a cI cZ N) a 35 r S' s.heap.size) ([.ref (a 3)] : List Value).toArray s 0 0 (es_AA a 35 s.heap.size)) (F0 m 29 ls [])) := by
    intro n
    induction n with
    | zero => intro x1 x2 x3 x4 S H locs ls h; rw [f_X5_mergePass_29] at h; cases h
    | succ n ih =>
      intro x1 x2 x3 x4 S H locs ls h hP hS hl
      rw [f_X5_mergePass_29] at h
      refine lv_iload hx hb dX5_mergePass_29 (lv_at hl 4 rfl) ?_
      refine lv_iload_n hx hb dX5_mergePass_31 rfl (lv_at hl 2 rfl) ?_
      refine lv_icmp_ge (tgt := 120) hx hb dX5_mergePass_32 (by decide) (fun c3 => ?_) (fun c3 => ?_)
      · replace h := es_if_t c3 h
        refine lv_aload_n hx hb dX5_mergePass_120 rfl (lv_at hl 0 rfl) ?_
        refine lv_iload_n hx hb dX5_mergePass_121 rfl (lv_at hl 3 rfl) ?_
        refine es_put C hP hS (es_wX_3 a cI cZ N S) rfl inlX5 tyX5_ok nmX5 (j := 8) (by decide) es_u12_6 rfl (tyX5_ok 8 (by decide)) rfl rfl (by simp) (es_sX_12 a cI cZ N S x3) dX5_mergePass_122 (fun S4 eS4 H locs hP hS => ?_)
        replace h := es_lt_e eS4 h
        refine lv_aload_n hx hb dX5_mergePass_125 rfl (lv_at hl 0 rfl) ?_
        refine es_get C hP (es_wX_3 a cI cZ N S4) rfl inlX5 (j := 2) (by decide) es_u4_7 rfl dX5_mergePass_126 ?_
        refine es_get C hP (es_wX_1 a cI cZ N S4) rfl inlX0 (j := 2) (by decide) es_u16_18 rfl dX5_mergePass_129 ?_
        refine lv_dup hx hb dX5_mergePass_132 rfl ?_
        refine es_get C hP (es_wX_5 a cI cZ N S4) rfl inlX6 (j := 3) (by decide) es_u19_3 rfl dX5_mergePass_133 ?_
        refine lv_iconst (v := 1) hx hb dX5_mergePass_136 (by decide) ?_
        refine lv_iadd hx hb dX5_mergePass_137 ?_
        refine lv_topi (fun v5 ev5 => ?_)
        replace h := es_lt_e ev5 h
        refine es_put C hP hS (es_wX_5 a cI cZ N S4) rfl inlX6 tyX6_ok nmX6 (j := 3) (by decide) es_u19_3 rfl (tyX6_ok 3 (by decide)) rfl rfl (by simp) (es_sX_25 a cI cZ N S4 v5) dX5_mergePass_138 (fun S6 eS6 H locs hP hS => ?_)
        replace h := es_lt_e eS6 h
        refine lv_iconst (v := 1) hx hb dX5_mergePass_141 (by decide) ?_
        exact es_zret C hr hlk ⟨rfl, rfl⟩ h hP hS dX5_mergePass_142
      · replace h := es_if_f c3 h
        refine lv_iload_n hx hb dX5_mergePass_35 rfl (lv_at hl 1 rfl) ?_
        refine lv_iload_n hx hb dX5_mergePass_36 rfl (lv_at hl 2 rfl) ?_
        refine lv_iload hx hb dX5_mergePass_37 (lv_at hl 4 rfl) ?_
        refine lv_isub hx hb dX5_mergePass_39 ?_
        refine va_mmin hx hb (C.2.2.1.trans hl.1.symm) hown (hts _ es_u12_17) (hts _ es_u1_20) (hts _ es_u1_21) (hts _ es_u1_22) (by decide) (Nat.le_of_ble_eq_true rfl) (Nat.zero_le _) (Nat.zero_le _) dX5_mergePass_40 ?_
        refine lv_topi (fun v7 ev7 => ?_)
        replace h := es_lt_e ev7 h
        refine lv_istore (lv' := [(5, .int v7), (0, .ref (a 3)), (1, .int x1), (2, .int x2), (3, .int x3), (4, .int x4)]) hx hb dX5_mergePass_43 hl (by decide) rfl (fun ls hl => ?_)
        refine lv_iload hx hb dX5_mergePass_45 (lv_at hl 0 rfl) ?_
        refine lv_iconst (v := 1) hx hb dX5_mergePass_47 (by decide) ?_
        refine lv_icmp_ne (tgt := 73) hx hb dX5_mergePass_48 (by decide) (fun c8 => ?_) (fun c8 => ?_)
        · replace h := es_if_t c8 h
          refine lv_aload_n hx hb dX5_mergePass_73 rfl (lv_at hl 1 rfl) ?_
          refine lv_iload hx hb dX5_mergePass_74 (lv_at hl 5 rfl) ?_
          refine lv_iload hx hb dX5_mergePass_76 (lv_at hl 0 rfl) ?_
          replace h := es_bd_e h
          obtain ⟨r9, S10, g11, h⟩ := h
          refine es_callVi C (c_X5_mergeRuns l D cI cZ a N _ fu S S10 x4 v7 r9 g11) es_u19_4 es_mX5_mergeRuns ⟨rfl, rfl, by decide, by decide⟩ ⟨Nat.zero_le _, Nat.zero_le _⟩ hP hS (es_wX_3 a cI cZ N S) rfl rfl hl.1 rfl (Nat.le_of_ble_eq_true rfl) dX5_mergePass_78 (fun H locs _ _ hP hS => ?_)
          refine lv_if_eq (tgt := 106) hx hb dX5_mergePass_81 (by decide) (fun c12 => ?_) (fun c12 => ?_)
          · replace h := es_if_t c12 h
            refine lv_iconst (v := 0) hx hb dX5_mergePass_106 (by decide) ?_
            exact es_zret C hr hlk ⟨rfl, rfl⟩ h hP hS dX5_mergePass_107
          · replace h := es_if_f c12 h
            refine lv_aload_n hx hb dX5_mergePass_84 rfl (lv_at hl 1 rfl) ?_
            refine lv_iload_n hx hb dX5_mergePass_85 rfl (lv_at hl 4 rfl) ?_
            refine lv_aload_n hx hb dX5_mergePass_86 rfl (lv_at hl 1 rfl) ?_
            refine es_get C hP (es_wX_3 a cI cZ N S10) rfl inlX5 (j := 3) (by decide) es_u4_8 rfl dX5_mergePass_87 ?_
            refine es_get C hP (es_wX_2 a cI cZ N S10) rfl inlX4 (j := 0) (by decide) es_u16_20 rfl dX5_mergePass_90 ?_
            refine lv_aload_n hx hb dX5_mergePass_93 rfl (lv_at hl 1 rfl) ?_
            refine es_get C hP (es_wX_3 a cI cZ N S10) rfl inlX5 (j := 3) (by decide) es_u4_8 rfl dX5_mergePass_94 ?_
            refine es_get C hP (es_wX_2 a cI cZ N S10) rfl inlX4 (j := 1) (by decide) es_u16_19 rfl dX5_mergePass_97 ?_
            replace h := es_bd_e h
            obtain ⟨r13, S14, g15, h⟩ := h
            refine es_callVv C (c_X5_keepRun l D cI cZ a N _ fu S10 S14 x3 (S10.1 3) (S10.1 4) r13 g15) es_u17_14 es_mX5_keepRun ⟨rfl, rfl, by decide, by decide⟩ ⟨Nat.zero_le _, Nat.zero_le _⟩ hP hS (es_wX_3 a cI cZ N S10) rfl rfl hl.1 rfl (Nat.le_of_ble_eq_true rfl) dX5_mergePass_100 (fun H locs _ _ hP hS => ?_)
            refine lv_goto (tgt := 108) hx hb dX5_mergePass_103 (by decide) ?_
            obtain ⟨y16, ey16⟩ : ∃ y : Int32, y = x3 + 1 := ⟨_, rfl⟩
            refine lv_iinc (v := y16) (lv' := [(3, .int y16), (5, .int v7), (0, .ref (a 3)), (1, .int x1), (2, .int x2), (4, .int x4)]) hx hb dX5_mergePass_108 hl (k := 4) rfl (by rw [ey16]; rfl) (by decide) rfl (fun ls hl => ?_)
            replace h := es_lt_e ey16 h
            refine lv_iload hx hb dX5_mergePass_111 (lv_at hl 5 rfl) ?_
            refine lv_iload_n hx hb dX5_mergePass_113 rfl (lv_at hl 3 rfl) ?_
            refine lv_iadd hx hb dX5_mergePass_114 ?_
            refine lv_topi (fun y17 ey17 => ?_)
            replace h := es_lt_e ey17 h
            refine lv_istore (lv' := [(4, .int y17), (3, .int y16), (5, .int v7), (0, .ref (a 3)), (1, .int x1), (2, .int x2)]) hx hb dX5_mergePass_115 hl (by decide) rfl (fun ls hl => ?_)
            refine lv_goto (tgt := 29) hx hb dX5_mergePass_117 (by decide) ?_
            exact ih x1 x2 y16 y17 S14 _ _ _ h hP hS (lv_sub hl [3, 4, 5, 1, 0] rfl)
        · replace h := es_if_f (fun q => q c8) h
          refine lv_aload_n hx hb dX5_mergePass_51 rfl (lv_at hl 1 rfl) ?_
          refine lv_iload_n hx hb dX5_mergePass_52 rfl (lv_at hl 4 rfl) ?_
          refine lv_aload_n hx hb dX5_mergePass_53 rfl (lv_at hl 1 rfl) ?_
          refine es_get C hP (es_wX_3 a cI cZ N S) rfl inlX5 (j := 6) (by decide) es_u4_20 rfl dX5_mergePass_54 ?_
          refine lv_iload hx hb dX5_mergePass_57 (lv_at hl 5 rfl) ?_
          replace h := es_ck_e h
          obtain ⟨b18, h⟩ := h
          refine es_ald C hP (es_wX_18 a cI cZ N S) (t0 := 0) rfl b18 dX5_mergePass_59 ?_
          refine lv_topi (fun v19 ev19 => ?_)
          replace h := es_lt_e ev19 h
          refine lv_aload_n hx hb dX5_mergePass_60 rfl (lv_at hl 1 rfl) ?_
          refine es_get C hP (es_wX_3 a cI cZ N S) rfl inlX5 (j := 7) (by decide) es_u4_21 rfl dX5_mergePass_61 ?_
          refine lv_iload hx hb dX5_mergePass_64 (lv_at hl 5 rfl) ?_
          replace h := es_ck_e h
          obtain ⟨b20, h⟩ := h
          refine es_ald C hP (es_wX_19 a cI cZ N S) (t0 := 0) rfl b20 dX5_mergePass_66 ?_
          refine lv_topi (fun v21 ev21 => ?_)
          replace h := es_lt_e ev21 h
          replace h := es_bd_e h
          obtain ⟨r22, S23, g24, h⟩ := h
          refine es_callVv C (c_X5_keepRun l D cI cZ a N _ fu S S23 x3 v19 v21 r22 g24) es_u17_14 es_mX5_keepRun ⟨rfl, rfl, by decide, by decide⟩ ⟨Nat.zero_le _, Nat.zero_le _⟩ hP hS (es_wX_3 a cI cZ N S) rfl rfl hl.1 rfl (Nat.le_of_ble_eq_true rfl) dX5_mergePass_67 (fun H locs _ _ hP hS => ?_)
          refine lv_goto (tgt := 108) hx hb dX5_mergePass_70 (by decide) ?_
          obtain ⟨y25, ey25⟩ : ∃ y : Int32, y = x3 + 1 := ⟨_, rfl⟩
          refine lv_iinc (v := y25) (lv' := [(3, .int y25), (5, .int v7), (0, .ref (a 3)), (1, .int x1), (2, .int x2), (4, .int x4)]) hx hb dX5_mergePass_108 hl (k := 4) rfl (by rw [ey25]; rfl) (by decide) rfl (fun ls hl => ?_)
          replace h := es_lt_e ey25 h
          refine lv_iload hx hb dX5_mergePass_111 (lv_at hl 5 rfl) ?_
          refine lv_iload_n hx hb dX5_mergePass_113 rfl (lv_at hl 3 rfl) ?_
          refine lv_iadd hx hb dX5_mergePass_114 ?_
          refine lv_topi (fun y26 ey26 => ?_)
          replace h := es_lt_e ey26 h
          refine lv_istore (lv' := [(4, .int y26), (3, .int y25), (5, .int v7), (0, .ref (a 3)), (1, .int x1), (2, .int x2)]) hx hb dX5_mergePass_115 hl (by decide) rfl (fun ls hl => ?_)
          refine lv_goto (tgt := 29) hx hb dX5_mergePass_117 (by decide) ?_
          exact ih x1 x2 y25 y26 S23 _ _ _ h hP hS (lv_sub hl [3, 4, 5, 1, 0] rfl)
  unfold f_X5_mergePass at h
  refine lv_iconst (v := 2) hx hb dX5_mergePass_0 (by decide) ?_
  refine lv_aload_n hx hb dX5_mergePass_1 rfl (lv_at hl 0 rfl) ?_
  refine es_get C hP (es_wX_3 a cI cZ N S) rfl inlX5 (j := 9) (by decide) es_u11_23 rfl dX5_mergePass_2 ?_
  refine lv_iconst (v := 1) hx hb dX5_mergePass_5 (by decide) ?_
  refine lv_isub hx hb dX5_mergePass_6 ?_
  refine va_mmax hx hb (C.2.2.1.trans hl.1.symm) hown (hts _ es_u4_17) (hts _ es_u2_0) (hts _ es_u1_21) (hts _ es_u2_1) (by decide) (Nat.le_of_ble_eq_true rfl) (Nat.zero_le _) (Nat.zero_le _) dX5_mergePass_7 ?_
  refine lv_topi (fun v1 ev1 => ?_)
  replace h := es_lt_e ev1 h
  refine lv_istore_n (lv' := [(1, .int v1), (0, .ref (a 3))]) hx hb dX5_mergePass_10 rfl hl (by decide) rfl (fun ls hl => ?_)
  refine lv_aload_n hx hb dX5_mergePass_11 rfl (lv_at hl 1 rfl) ?_
  refine es_get C hP (es_wX_3 a cI cZ N S) rfl inlX5 (j := 8) (by decide) es_u12_6 rfl dX5_mergePass_12 ?_
  refine lv_aload_n hx hb dX5_mergePass_15 rfl (lv_at hl 1 rfl) ?_
  refine es_get C hP (es_wX_3 a cI cZ N S) rfl inlX5 (j := 6) (by decide) es_u4_20 rfl dX5_mergePass_16 ?_
  refine es_len C hP (es_wX_18 a cI cZ N S) (t0 := 0) rfl dX5_mergePass_19 ?_
  refine va_mmin hx hb (C.2.2.1.trans hl.1.symm) hown (hts _ es_u12_17) (hts _ es_u1_20) (hts _ es_u1_21) (hts _ es_u1_22) (by decide) (Nat.le_of_ble_eq_true rfl) (Nat.zero_le _) (Nat.zero_le _) dX5_mergePass_20 ?_
  refine lv_topi (fun v2 ev2 => ?_)
  replace h := es_lt_e ev2 h
  refine lv_istore_n (lv' := [(2, .int v2), (1, .int v1), (0, .ref (a 3))]) hx hb dX5_mergePass_23 rfl hl (by decide) rfl (fun ls hl => ?_)
  refine lv_iconst (v := 0) hx hb dX5_mergePass_24 (by decide) ?_
  refine lv_istore_n (lv' := [(3, .int 0), (2, .int v2), (1, .int v1), (0, .ref (a 3))]) hx hb dX5_mergePass_25 rfl hl (by decide) rfl (fun ls hl => ?_)
  refine lv_iconst (v := 0) hx hb dX5_mergePass_26 (by decide) ?_
  refine lv_istore (lv' := [(4, .int 0), (3, .int 0), (2, .int v2), (1, .int v1), (0, .ref (a 3))]) hx hb dX5_mergePass_27 hl (by decide) rfl (fun ls hl => ?_)
  exact J29  fu v1 v2 0 0 S _ _ _ h hP hS (lv_sub hl [4, 3, 2, 1, 0] rfl)
