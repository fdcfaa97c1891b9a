set_option maxHeartbeats 4000000 in
set_option maxRecDepth 100000 in
theorem c_X2_findGroup (l : Launch) (D : va_G) (cI cZ : ClassId) (a : Nat → Nat) (N : Nat → Nat) (sz fu : Nat) (S S' : es_St) (r : Int32) (h : f_X2_findGroup N fu S = some (r, S')) : Met l yX2_findGroup (Cond.code yX2_findGroup cX2_findGroup 2 (some .boolean) :: wsL_law) ({ frames := 1, cells := 0, slots := 0, locals := 23 } : Room) (es_Pre [.ref (a 4)] D [(cI, .int), (cZ, .boolean)] (es_wX a cI cZ N) a 35 S sz) (es_Qi D (es_wX a cI cZ N) a 35 r S' sz) 0 0 (es_AA a 35 sz) := by
  refine es_intro (Qc := es_Qi D (es_wX a cI cZ N) a 35 r S') (by decide) (es_okX a cI cZ N) (Nat.le_of_ble_eq_true rfl) ?_
  intro p e s m below meth c C hr hlk hP ls hl
  have hx := C.1
  have hb := C.2.1
  have hown := C.2.2.2.1
  have hts := C.2.2.2.2.1
  have hS : va_S (es_AA a 35 s.heap.size) s.heap s.heap [] := va_S.rf
  replace hl : lv_has ls 2 [(0, .ref (a 4))] := hl
  have J18 : ∀ n : Nat, (∀ (x1 : Int32) (S : es_St) (H : Heap) (locs : List Loc) (ls : Array Slot), f_X2_findGroup_18 N fu n x1 S = some (r, S') → va_P D vwCl ((es_wX a cI cZ N) S) H → va_S (es_AA a 35 s.heap.size) s.heap H locs → lv_has ls 2 [(0, .ref (a 4)), (1, .int x1)] → W p l e ({ frames := 1, cells := 0, slots := 0, locals := 23 } : Room) s m ([.ref (a 4)] : List Value).toArray below meth c H locs 0 0 (MQ below (es_Qi D (es_wX a cI cZ N) a 35 r S' s.heap.size) ([.ref (a 4)] : List Value).toArray s 0 0 (es_AA a 35 s.heap.size)) (F0 m 18 ls [])) := by
    intro n
    induction n with
    | zero => intro x1 S H locs ls h; rw [f_X2_findGroup_18] at h; cases h
    | succ n ih =>
      intro x1 S H locs ls h hP hS hl
      rw [f_X2_findGroup_18] at h
      refine lv_iload_n hx hb dX2_findGroup_18 rfl (lv_at hl 1 rfl) ?_
      refine lv_aload_n hx hb dX2_findGroup_19 rfl (lv_at hl 0 rfl) ?_
      refine es_get C hP (es_wX_4 a cI cZ N S) rfl inlX2 (j := 5) (by decide) es_u24_20 rfl dX2_findGroup_20 ?_
      refine lv_icmp_ge (tgt := 153) hx hb dX2_findGroup_23 (by decide) (fun c3 => ?_) (fun c3 => ?_)
      · replace h := es_if_t c3 h
        refine lv_iconst (v := 0) hx hb dX2_findGroup_153 (by decide) ?_
        exact es_zret C hr hlk ⟨rfl, rfl⟩ h hP hS dX2_findGroup_154
      · replace h := es_if_f c3 h
        refine lv_aload_n hx hb dX2_findGroup_26 rfl (lv_at hl 0 rfl) ?_
        refine es_get C hP (es_wX_4 a cI cZ N S) rfl inlX2 (j := 6) (by decide) es_u25_20 rfl dX2_findGroup_27 ?_
        refine lv_aload_n hx hb dX2_findGroup_30 rfl (lv_at hl 0 rfl) ?_
        refine es_get C hP (es_wX_4 a cI cZ N S) rfl inlX2 (j := 4) (by decide) es_u24_19 rfl dX2_findGroup_31 ?_
        refine lv_icmp_ge (tgt := 153) hx hb dX2_findGroup_34 (by decide) (fun c4 => ?_) (fun c4 => ?_)
        · replace h := es_if_t c4 h
          refine lv_iconst (v := 0) hx hb dX2_findGroup_153 (by decide) ?_
          exact es_zret C hr hlk ⟨rfl, rfl⟩ h hP hS dX2_findGroup_154
        · replace h := es_if_f c4 h
          refine lv_aload_n hx hb dX2_findGroup_37 rfl (lv_at hl 0 rfl) ?_
          refine es_get C hP (es_wX_4 a cI cZ N S) rfl inlX2 (j := 8) (by decide) es_u25_22 rfl dX2_findGroup_38 ?_
          refine lv_aload_n hx hb dX2_findGroup_41 rfl (lv_at hl 0 rfl) ?_
          refine es_get C hP (es_wX_4 a cI cZ N S) rfl inlX2 (j := 5) (by decide) es_u24_20 rfl dX2_findGroup_42 ?_
          refine lv_icmp_ge (tgt := 153) hx hb dX2_findGroup_45 (by decide) (fun c5 => ?_) (fun c5 => ?_)
          · replace h := es_if_t c5 h
            refine lv_iconst (v := 0) hx hb dX2_findGroup_153 (by decide) ?_
            exact es_zret C hr hlk ⟨rfl, rfl⟩ h hP hS dX2_findGroup_154
          · replace h := es_if_f c5 h
            refine lv_aload_n hx hb dX2_findGroup_48 rfl (lv_at hl 0 rfl) ?_
            refine es_get C hP (es_wX_4 a cI cZ N S) rfl inlX2 (j := 2) (by decide) es_u6_4 rfl dX2_findGroup_49 ?_
            refine lv_aload_n hx hb dX2_findGroup_52 rfl (lv_at hl 0 rfl) ?_
            refine es_get C hP (es_wX_4 a cI cZ N S) rfl inlX2 (j := 6) (by decide) es_u25_20 rfl dX2_findGroup_53 ?_
            replace h := es_ck_e h
            obtain ⟨b6, h⟩ := h
            refine es_ald C hP (es_wX_20 a cI cZ N S) (t0 := 0) rfl b6 dX2_findGroup_56 ?_
            refine lv_topi (fun v7 ev7 => ?_)
            replace h := es_lt_e ev7 h
            refine lv_aload_n hx hb dX2_findGroup_57 rfl (lv_at hl 0 rfl) ?_
            refine es_get C hP (es_wX_4 a cI cZ N S) rfl inlX2 (j := 2) (by decide) es_u6_4 rfl dX2_findGroup_58 ?_
            refine lv_aload_n hx hb dX2_findGroup_61 rfl (lv_at hl 0 rfl) ?_
            refine es_get C hP (es_wX_4 a cI cZ N S) rfl inlX2 (j := 8) (by decide) es_u25_22 rfl dX2_findGroup_62 ?_
            replace h := es_ck_e h
            obtain ⟨b8, h⟩ := h
            refine es_ald C hP (es_wX_20 a cI cZ N S) (t0 := 0) rfl b8 dX2_findGroup_65 ?_
            refine lv_topi (fun v9 ev9 => ?_)
            replace h := es_lt_e ev9 h
            refine lv_icmp_ne (tgt := 103) hx hb dX2_findGroup_66 (by decide) (fun c10 => ?_) (fun c10 => ?_)
            · replace h := es_if_t c10 h
              refine lv_aload_n hx hb dX2_findGroup_103 rfl (lv_at hl 0 rfl) ?_
              refine es_get C hP (es_wX_4 a cI cZ N S) rfl inlX2 (j := 2) (by decide) es_u6_4 rfl dX2_findGroup_104 ?_
              refine lv_aload_n hx hb dX2_findGroup_107 rfl (lv_at hl 0 rfl) ?_
              refine es_get C hP (es_wX_4 a cI cZ N S) rfl inlX2 (j := 6) (by decide) es_u25_20 rfl dX2_findGroup_108 ?_
              replace h := es_ck_e h
              obtain ⟨b11, h⟩ := h
              refine es_ald C hP (es_wX_20 a cI cZ N S) (t0 := 0) rfl b11 dX2_findGroup_111 ?_
              refine lv_topi (fun v12 ev12 => ?_)
              replace h := es_lt_e ev12 h
              refine lv_aload_n hx hb dX2_findGroup_112 rfl (lv_at hl 0 rfl) ?_
              refine es_get C hP (es_wX_4 a cI cZ N S) rfl inlX2 (j := 2) (by decide) es_u6_4 rfl dX2_findGroup_113 ?_
              refine lv_aload_n hx hb dX2_findGroup_116 rfl (lv_at hl 0 rfl) ?_
              refine es_get C hP (es_wX_4 a cI cZ N S) rfl inlX2 (j := 8) (by decide) es_u25_22 rfl dX2_findGroup_117 ?_
              replace h := es_ck_e h
              obtain ⟨b13, h⟩ := h
              refine es_ald C hP (es_wX_20 a cI cZ N S) (t0 := 0) rfl b13 dX2_findGroup_120 ?_
              refine lv_topi (fun v14 ev14 => ?_)
              replace h := es_lt_e ev14 h
              refine lv_icmp_ge (tgt := 137) hx hb dX2_findGroup_121 (by decide) (fun c15 => ?_) (fun c15 => ?_)
              · replace h := es_if_t c15 h
                refine lv_aload_n hx hb dX2_findGroup_137 rfl (lv_at hl 0 rfl) ?_
                refine lv_dup hx hb dX2_findGroup_138 rfl ?_
                refine es_get C hP (es_wX_4 a cI cZ N S) rfl inlX2 (j := 8) (by decide) es_u25_22 rfl dX2_findGroup_139 ?_
                refine lv_iconst (v := 1) hx hb dX2_findGroup_142 (by decide) ?_
                refine lv_iadd hx hb dX2_findGroup_143 ?_
                refine lv_topi (fun v16 ev16 => ?_)
                replace h := es_lt_e ev16 h
                refine es_put C hP hS (es_wX_4 a cI cZ N S) rfl inlX2 tyX2_ok nmX2 (j := 8) (by decide) es_u25_22 rfl (tyX2_ok 8 (by decide)) rfl rfl (by simp) (es_sX_20 a cI cZ N S v16) dX2_findGroup_144 (fun S17 eS17 H locs hP hS => ?_)
                replace h := es_lt_e eS17 h
                obtain ⟨y18, ey18⟩ : ∃ y : Int32, y = x1 + 1 := ⟨_, rfl⟩
                refine lv_iinc (v := y18) (lv' := [(1, .int y18), (0, .ref (a 4))]) hx hb dX2_findGroup_147 hl (k := 1) rfl (by rw [ey18]; rfl) (by decide) rfl (fun ls hl => ?_)
                replace h := es_lt_e ey18 h
                refine lv_goto (tgt := 18) hx hb dX2_findGroup_150 (by decide) ?_
                exact ih y18 S17 _ _ _ h hP hS (lv_sub hl [1, 0] rfl)
              · replace h := es_if_f c15 h
                refine lv_aload_n hx hb dX2_findGroup_124 rfl (lv_at hl 0 rfl) ?_
                refine lv_dup hx hb dX2_findGroup_125 rfl ?_
                refine es_get C hP (es_wX_4 a cI cZ N S) rfl inlX2 (j := 6) (by decide) es_u25_20 rfl dX2_findGroup_126 ?_
                refine lv_iconst (v := 1) hx hb dX2_findGroup_129 (by decide) ?_
                refine lv_iadd hx hb dX2_findGroup_130 ?_
                refine lv_topi (fun v19 ev19 => ?_)
                replace h := es_lt_e ev19 h
                refine es_put C hP hS (es_wX_4 a cI cZ N S) rfl inlX2 tyX2_ok nmX2 (j := 6) (by decide) es_u25_20 rfl (tyX2_ok 6 (by decide)) rfl rfl (by simp) (es_sX_18 a cI cZ N S v19) dX2_findGroup_131 (fun S20 eS20 H locs hP hS => ?_)
                replace h := es_lt_e eS20 h
                refine lv_goto (tgt := 147) hx hb dX2_findGroup_134 (by decide) ?_
                obtain ⟨y21, ey21⟩ : ∃ y : Int32, y = x1 + 1 := ⟨_, rfl⟩
                refine lv_iinc (v := y21) (lv' := [(1, .int y21), (0, .ref (a 4))]) hx hb dX2_findGroup_147 hl (k := 1) rfl (by rw [ey21]; rfl) (by decide) rfl (fun ls hl => ?_)
                replace h := es_lt_e ey21 h
                refine lv_goto (tgt := 18) hx hb dX2_findGroup_150 (by decide) ?_
                exact ih y21 S20 _ _ _ h hP hS (lv_sub hl [1, 0] rfl)
            · replace h := es_if_f (fun q => q c10) h
              refine lv_aload_n hx hb dX2_findGroup_69 rfl (lv_at hl 0 rfl) ?_
              refine lv_aload_n hx hb dX2_findGroup_70 rfl (lv_at hl 0 rfl) ?_
              refine lv_aload_n hx hb dX2_findGroup_71 rfl (lv_at hl 0 rfl) ?_
              refine es_get C hP (es_wX_4 a cI cZ N S) rfl inlX2 (j := 6) (by decide) es_u25_20 rfl dX2_findGroup_72 ?_
              refine lv_aload_n hx hb dX2_findGroup_75 rfl (lv_at hl 0 rfl) ?_
              refine es_get C hP (es_wX_4 a cI cZ N S) rfl inlX2 (j := 4) (by decide) es_u24_19 rfl dX2_findGroup_76 ?_
              replace h := es_bd_e h
              obtain ⟨r22, S23, g24, h⟩ := h
              refine es_callVi C (c_X2_groupEnd l D cI cZ a N _ fu S S23 (S.1 18) (S.1 16) r22 g24) es_u26_7 es_mX2_groupEnd ⟨rfl, rfl, by decide, by decide⟩ ⟨Nat.zero_le _, Nat.zero_le _⟩ hP hS (es_wX_4 a cI cZ N S) rfl rfl hl.1 rfl (Nat.le_of_ble_eq_true rfl) dX2_findGroup_79 (fun H locs _ _ hP hS => ?_)
              refine es_put C hP hS (es_wX_4 a cI cZ N S23) rfl inlX2 tyX2_ok nmX2 (j := 7) (by decide) es_u25_19 rfl (tyX2_ok 7 (by decide)) rfl rfl (by simp) (es_sX_19 a cI cZ N S23 r22) dX2_findGroup_82 (fun S25 eS25 H locs hP hS => ?_)
              replace h := es_lt_e eS25 h
              refine lv_aload_n hx hb dX2_findGroup_85 rfl (lv_at hl 0 rfl) ?_
              refine lv_aload_n hx hb dX2_findGroup_86 rfl (lv_at hl 0 rfl) ?_
              refine lv_aload_n hx hb dX2_findGroup_87 rfl (lv_at hl 0 rfl) ?_
              refine es_get C hP (es_wX_4 a cI cZ N S25) rfl inlX2 (j := 8) (by decide) es_u25_22 rfl dX2_findGroup_88 ?_
              refine lv_aload_n hx hb dX2_findGroup_91 rfl (lv_at hl 0 rfl) ?_
              refine es_get C hP (es_wX_4 a cI cZ N S25) rfl inlX2 (j := 5) (by decide) es_u24_20 rfl dX2_findGroup_92 ?_
              replace h := es_bd_e h
              obtain ⟨r26, S27, g28, h⟩ := h
              refine es_callVi C (c_X2_groupEnd l D cI cZ a N _ fu S25 S27 (S25.1 20) (S25.1 17) r26 g28) es_u26_7 es_mX2_groupEnd ⟨rfl, rfl, by decide, by decide⟩ ⟨Nat.zero_le _, Nat.zero_le _⟩ hP hS (es_wX_4 a cI cZ N S25) rfl rfl hl.1 rfl (Nat.le_of_ble_eq_true rfl) dX2_findGroup_95 (fun H locs _ _ hP hS => ?_)
              refine es_put C hP hS (es_wX_4 a cI cZ N S27) rfl inlX2 tyX2_ok nmX2 (j := 9) (by decide) es_u25_21 rfl (tyX2_ok 9 (by decide)) rfl rfl (by simp) (es_sX_21 a cI cZ N S27 r26) dX2_findGroup_98 (fun S29 eS29 H locs hP hS => ?_)
              replace h := es_lt_e eS29 h
              refine lv_iconst (v := 1) hx hb dX2_findGroup_101 (by decide) ?_
              exact es_zret C hr hlk ⟨rfl, rfl⟩ h hP hS dX2_findGroup_102
  unfold f_X2_findGroup at h
  refine lv_aload_n hx hb dX2_findGroup_0 rfl (lv_at hl 0 rfl) ?_
  refine lv_aload_n hx hb dX2_findGroup_1 rfl (lv_at hl 0 rfl) ?_
  refine es_get C hP (es_wX_4 a cI cZ N S) rfl inlX2 (j := 7) (by decide) es_u25_19 rfl dX2_findGroup_2 ?_
  refine es_put C hP hS (es_wX_4 a cI cZ N S) rfl inlX2 tyX2_ok nmX2 (j := 6) (by decide) es_u25_20 rfl (tyX2_ok 6 (by decide)) rfl rfl (by simp) (es_sX_18 a cI cZ N S (S.1 19)) dX2_findGroup_5 (fun S1 eS1 H locs hP hS => ?_)
  replace h := es_lt_e eS1 h
  refine lv_aload_n hx hb dX2_findGroup_8 rfl (lv_at hl 0 rfl) ?_
  refine lv_aload_n hx hb dX2_findGroup_9 rfl (lv_at hl 0 rfl) ?_
  refine es_get C hP (es_wX_4 a cI cZ N S1) rfl inlX2 (j := 9) (by decide) es_u25_21 rfl dX2_findGroup_10 ?_
  refine es_put C hP hS (es_wX_4 a cI cZ N S1) rfl inlX2 tyX2_ok nmX2 (j := 8) (by decide) es_u25_22 rfl (tyX2_ok 8 (by decide)) rfl rfl (by simp) (es_sX_20 a cI cZ N S1 (S1.1 21)) dX2_findGroup_13 (fun S2 eS2 H locs hP hS => ?_)
  replace h := es_lt_e eS2 h
  refine lv_iconst (v := 0) hx hb dX2_findGroup_16 (by decide) ?_
  refine lv_istore_n (lv' := [(1, .int 0), (0, .ref (a 4))]) hx hb dX2_findGroup_17 rfl hl (by decide) rfl (fun ls hl => ?_)
  exact J18  fu 0 S2 _ _ _ h hP hS (lv_sub hl [1, 0] rfl)

set_option maxHeartbeats 4000000 in
set_option maxRecDepth 100000 in
theorem c_X2_countPairs (l : Launch) (D : va_G) (cI cZ : ClassId) (a : Nat → Nat) (N : Nat → Nat) (sz fu : Nat) (S S' : es_St) (r : Int32) (h : f_X2_countPairs N fu S = some (r, S')) : Met l yX2_countPairs (Cond.code yX2_countPairs cX2_countPairs 3 (some .int) :: wsL_law) ({ frames := 2, cells := 0, slots := 0, locals := 44 } : Room) (es_Pre [.ref (a 4)] D [(cI, .int), (cZ, .boolean)] (es_wX a cI cZ N) a 35 S sz) (es_Qi D (es_wX a cI cZ N) a 35 r S' sz) 0 0 (es_AA a 35 sz) := by
  refine es_intro (Qc := es_Qi D (es_wX a cI cZ N) a 35 r S') (by decide) (es_okX a cI cZ N) (Nat.le_of_ble_eq_true rfl) ?_
  intro p e s m below meth c C hr hlk hP ls hl
  have hx := C.1
  have hb := C.2.1
  have hown := C.2.2.2.1
  have hts := C.2.2.2.2.1
  have hS : va_S (es_AA a 35 s.heap.size) s.heap s.heap [] := va_S.rf
  replace hl : lv_has ls 3 [(0, .ref (a 4))] := hl
  have J8 : ∀ n : Nat, (∀ (x1 : Int32) (x2 : Int32) (S : es_St) (H : Heap) (locs : List Loc) (ls : Array Slot), f_X2_countPairs_8 N fu n x1 x2 S = some (r, S') → va_P D vwCl ((es_wX a cI cZ N) S) H → va_S (es_AA a 35 s.heap.size) s.heap H locs → lv_has ls 3 [(0, .ref (a 4)), (1, .int x1), (2, .int x2)] → W p l e ({ frames := 2, cells := 0, slots := 0, locals := 44 } : Room) s m ([.ref (a 4)] : List Value).toArray below meth c H locs 0 0 (MQ below (es_Qi D (es_wX a cI cZ N) a 35 r S' s.heap.size) ([.ref (a 4)] : List Value).toArray s 0 0 (es_AA a 35 s.heap.size)) (F0 m 8 ls [])) := by
    intro n
    induction n with
    | zero => intro x1 x2 S H locs ls h; rw [f_X2_countPairs_8] at h; cases h
    | succ n ih =>
      intro x1 x2 S H locs ls h hP hS hl
      rw [f_X2_countPairs_8] at h
      refine lv_iload_n hx hb dX2_countPairs_8 rfl (lv_at hl 2 rfl) ?_
      refine lv_aload_n hx hb dX2_countPairs_9 rfl (lv_at hl 0 rfl) ?_
      refine es_get C hP (es_wX_4 a cI cZ N S) rfl inlX2 (j := 2) (by decide) es_u6_4 rfl dX2_countPairs_10 ?_
      refine es_len C hP (es_wX_20 a cI cZ N S) (t0 := 0) rfl dX2_countPairs_13 ?_
      refine lv_icmp_ge (tgt := 52) hx hb dX2_countPairs_14 (by decide) (fun c4 => ?_) (fun c4 => ?_)
      · replace h := es_if_t c4 h
        refine lv_iload_n hx hb dX2_countPairs_52 rfl (lv_at hl 1 rfl) ?_
        exact es_iret C hr hlk h hP hS dX2_countPairs_53
      · replace h := es_if_f c4 h
        refine lv_aload_n hx hb dX2_countPairs_17 rfl (lv_at hl 0 rfl) ?_
        replace h := es_bd_e h
        obtain ⟨r5, S6, g7, h⟩ := h
        refine es_callVi C (c_X2_findGroup l D cI cZ a N _ fu S S6 r5 g7) es_u26_3 es_mX2_findGroup ⟨rfl, rfl, by decide, by decide⟩ ⟨Nat.zero_le _, Nat.zero_le _⟩ hP hS (es_wX_4 a cI cZ N S) rfl rfl hl.1 rfl (Nat.le_of_ble_eq_true rfl) dX2_countPairs_18 (fun H locs _ _ hP hS => ?_)
        refine lv_if_eq (tgt := 52) hx hb dX2_countPairs_21 (by decide) (fun c8 => ?_) (fun c8 => ?_)
        · replace h := es_if_t c8 h
          refine lv_iload_n hx hb dX2_countPairs_52 rfl (lv_at hl 1 rfl) ?_
          exact es_iret C hr hlk h hP hS dX2_countPairs_53
        · replace h := es_if_f c8 h
          refine lv_iload_n hx hb dX2_countPairs_24 rfl (lv_at hl 1 rfl) ?_
          refine lv_aload_n hx hb dX2_countPairs_25 rfl (lv_at hl 0 rfl) ?_
          refine es_get C hP (es_wX_4 a cI cZ N S6) rfl inlX2 (j := 7) (by decide) es_u25_19 rfl dX2_countPairs_26 ?_
          refine lv_aload_n hx hb dX2_countPairs_29 rfl (lv_at hl 0 rfl) ?_
          refine es_get C hP (es_wX_4 a cI cZ N S6) rfl inlX2 (j := 6) (by decide) es_u25_20 rfl dX2_countPairs_30 ?_
          refine lv_isub hx hb dX2_countPairs_33 ?_
          refine lv_aload_n hx hb dX2_countPairs_34 rfl (lv_at hl 0 rfl) ?_
          refine es_get C hP (es_wX_4 a cI cZ N S6) rfl inlX2 (j := 9) (by decide) es_u25_21 rfl dX2_countPairs_35 ?_
          refine lv_aload_n hx hb dX2_countPairs_38 rfl (lv_at hl 0 rfl) ?_
          refine es_get C hP (es_wX_4 a cI cZ N S6) rfl inlX2 (j := 8) (by decide) es_u25_22 rfl dX2_countPairs_39 ?_
          refine lv_isub hx hb dX2_countPairs_42 ?_
          refine lv_imul hx hb dX2_countPairs_43 ?_
          refine lv_iadd hx hb dX2_countPairs_44 ?_
          refine lv_topi (fun y9 ey9 => ?_)
          replace h := es_lt_e ey9 h
          refine lv_istore_n (lv' := [(1, .int y9), (0, .ref (a 4)), (2, .int x2)]) hx hb dX2_countPairs_45 rfl hl (by decide) rfl (fun ls hl => ?_)
          obtain ⟨y10, ey10⟩ : ∃ y : Int32, y = x2 + 1 := ⟨_, rfl⟩
          refine lv_iinc (v := y10) (lv' := [(2, .int y10), (1, .int y9), (0, .ref (a 4))]) hx hb dX2_countPairs_46 hl (k := 2) rfl (by rw [ey10]; rfl) (by decide) rfl (fun ls hl => ?_)
          replace h := es_lt_e ey10 h
          refine lv_goto (tgt := 8) hx hb dX2_countPairs_49 (by decide) ?_
          exact ih y9 y10 S6 _ _ _ h hP hS (lv_sub hl [2, 1, 0] rfl)
  unfold f_X2_countPairs at h
  refine lv_iconst (v := 0) hx hb dX2_countPairs_0 (by decide) ?_
  refine lv_istore_n (lv' := [(1, .int 0), (0, .ref (a 4))]) hx hb dX2_countPairs_1 rfl hl (by decide) rfl (fun ls hl => ?_)
  refine lv_aload_n hx hb dX2_countPairs_2 rfl (lv_at hl 1 rfl) ?_
  replace h := es_bd_e h
  obtain ⟨r1, S2, g3, h⟩ := h
  refine es_callVv C (c_X2_rewind l D cI cZ a N _ fu S S2 r1 g3) es_u25_23 es_mX2_rewind ⟨rfl, rfl, by decide, by decide⟩ ⟨Nat.zero_le _, Nat.zero_le _⟩ hP hS (es_wX_4 a cI cZ N S) rfl rfl hl.1 rfl (Nat.le_of_ble_eq_true rfl) dX2_countPairs_3 (fun H locs _ _ hP hS => ?_)
  refine lv_iconst (v := 0) hx hb dX2_countPairs_6 (by decide) ?_
  refine lv_istore_n (lv' := [(2, .int 0), (1, .int 0), (0, .ref (a 4))]) hx hb dX2_countPairs_7 rfl hl (by decide) rfl (fun ls hl => ?_)
  exact J8  fu 0 0 S2 _ _ _ h hP hS (lv_sub hl [2, 1, 0] rfl)

set_option maxHeartbeats 4000000 in
set_option maxRecDepth 100000 in
theorem c_X2_largestGroupOfB (l : Launch) (D : va_G) (cI cZ : ClassId) (a : Nat → Nat) (N : Nat → Nat) (sz fu : Nat) (S S' : es_St) (r : Int32) (h : f_X2_largestGroupOfB N fu S = some (r, S')) : Met l yX2_largestGroupOfB (Cond.code yX2_largestGroupOfB cX2_largestGroupOfB 4 (some .int) :: wsL_law) ({ frames := 1, cells := 0, slots := 0, locals := 21 } : Room) (es_Pre [.ref (a 4)] D [(cI, .int), (cZ, .boolean)] (es_wX a cI cZ N) a 35 S sz) (es_Qi D (es_wX a cI cZ N) a 35 r S' sz) 0 0 (es_AA a 35 sz) := by
  refine es_intro (Qc := es_Qi D (es_wX a cI cZ N) a 35 r S') (by decide) (es_okX a cI cZ N) (Nat.le_of_ble_eq_true rfl) ?_
  intro p e s m below meth c C hr hlk hP ls hl
  have hx := C.1
  have hb := C.2.1
  have hown := C.2.2.2.1
  have hts := C.2.2.2.2.1
  have hS : va_S (es_AA a 35 s.heap.size) s.heap s.heap [] := va_S.rf
  replace hl : lv_has ls 4 [(0, .ref (a 4))] := hl
  have J9 : ∀ n : Nat, (∀ (x1 : Int32) (x2 : Int32) (x3 : Int32) (S : es_St) (H : Heap) (locs : List Loc) (ls : Array Slot), f_X2_largestGroupOfB_9 N fu n x1 x2 x3 S = some (r, S') → va_P D vwCl ((es_wX a cI cZ N) S) H → va_S (es_AA a 35 s.heap.size) s.heap H locs → lv_has ls 4 [(0, .ref (a 4)), (1, .int x1), (2, .int x2), (3, .int x3)] → W p l e ({ frames := 1, cells := 0, slots := 0, locals := 21 } : Room) s m ([.ref (a 4)] : List Value).toArray below meth c H locs 0 0 (MQ below (es_Qi D (es_wX a cI cZ N) a 35 r S' s.heap.size) ([.ref (a 4)] : List Value).toArray s 0 0 (es_AA a 35 s.heap.size)) (F0 m 9 ls [])) := by
    intro n
    induction n with
    | zero => intro x1 x2 x3 S H locs ls h; rw [f_X2_largestGroupOfB_9] at h; cases h
    | succ n ih =>
      intro x1 x2 x3 S H locs ls h hP hS hl
      rw [f_X2_largestGroupOfB_9] at h
      refine lv_iload_n hx hb dX2_largestGroupOfB_9 rfl (lv_at hl 3 rfl) ?_
      refine lv_aload_n hx hb dX2_largestGroupOfB_10 rfl (lv_at hl 0 rfl) ?_
      refine es_get C hP (es_wX_4 a cI cZ N S) rfl inlX2 (j := 5) (by decide) es_u24_20 rfl dX2_largestGroupOfB_11 ?_
      refine lv_icmp_ge (tgt := 62) hx hb dX2_largestGroupOfB_14 (by decide) (fun c1 => ?_) (fun c1 => ?_)
      · replace h := es_if_t c1 h
        refine lv_iload_n hx hb dX2_largestGroupOfB_62 rfl (lv_at hl 1 rfl) ?_
        exact es_iret C hr hlk h hP hS dX2_largestGroupOfB_63
      · replace h := es_if_f c1 h
        refine lv_iload_n hx hb dX2_largestGroupOfB_17 rfl (lv_at hl 3 rfl) ?_
        refine lv_aload_n hx hb dX2_largestGroupOfB_18 rfl (lv_at hl 0 rfl) ?_
        refine es_get C hP (es_wX_4 a cI cZ N S) rfl inlX2 (j := 4) (by decide) es_u24_19 rfl dX2_largestGroupOfB_19 ?_
        refine lv_icmp_le (tgt := 48) hx hb dX2_largestGroupOfB_22 (by decide) (fun c2 => ?_) (fun c2 => ?_)
        · replace h := es_if_t c2 h
          refine lv_iconst (v := 1) hx hb dX2_largestGroupOfB_48 (by decide) ?_
          refine lv_istore_n (lv' := [(2, .int 1), (0, .ref (a 4)), (1, .int x1), (3, .int x3)]) hx hb dX2_largestGroupOfB_49 rfl hl (by decide) rfl (fun ls hl => ?_)
          refine lv_iload_n hx hb dX2_largestGroupOfB_50 rfl (lv_at hl 2 rfl) ?_
          refine lv_iload_n hx hb dX2_largestGroupOfB_51 rfl (lv_at hl 0 rfl) ?_
          refine va_mmax hx hb (C.2.2.1.trans hl.1.symm) hown (hts _ es_u25_9) (hts _ es_u2_0) (hts _ es_u1_21) (hts _ es_u2_1) (by decide) (Nat.le_of_ble_eq_true rfl) (Nat.zero_le _) (Nat.zero_le _) dX2_largestGroupOfB_52 ?_
          refine lv_topi (fun v3 ev3 => ?_)
          replace h := es_lt_e ev3 h
          refine lv_istore_n (lv' := [(1, .int v3), (2, .int 1), (0, .ref (a 4)), (3, .int x3)]) hx hb dX2_largestGroupOfB_55 rfl hl (by decide) rfl (fun ls hl => ?_)
          obtain ⟨y4, ey4⟩ : ∃ y : Int32, y = x3 + 1 := ⟨_, rfl⟩
          refine lv_iinc (v := y4) (lv' := [(3, .int y4), (1, .int v3), (2, .int 1), (0, .ref (a 4))]) hx hb dX2_largestGroupOfB_56 hl (k := 3) rfl (by rw [ey4]; rfl) (by decide) rfl (fun ls hl => ?_)
          replace h := es_lt_e ey4 h
          refine lv_goto (tgt := 9) hx hb dX2_largestGroupOfB_59 (by decide) ?_
          exact ih v3 1 y4 S _ _ _ h hP hS (lv_sub hl [3, 1, 2, 0] rfl)
        · replace h := es_if_f c2 h
          refine lv_aload_n hx hb dX2_largestGroupOfB_25 rfl (lv_at hl 0 rfl) ?_
          refine es_get C hP (es_wX_4 a cI cZ N S) rfl inlX2 (j := 2) (by decide) es_u6_4 rfl dX2_largestGroupOfB_26 ?_
          refine lv_iload_n hx hb dX2_largestGroupOfB_29 rfl (lv_at hl 3 rfl) ?_
          replace h := es_ck_e h
          obtain ⟨b5, h⟩ := h
          refine es_ald C hP (es_wX_20 a cI cZ N S) (t0 := 0) rfl b5 dX2_largestGroupOfB_30 ?_
          refine lv_topi (fun v6 ev6 => ?_)
          replace h := es_lt_e ev6 h
          refine lv_aload_n hx hb dX2_largestGroupOfB_31 rfl (lv_at hl 0 rfl) ?_
          refine es_get C hP (es_wX_4 a cI cZ N S) rfl inlX2 (j := 2) (by decide) es_u6_4 rfl dX2_largestGroupOfB_32 ?_
          refine lv_iload_n hx hb dX2_largestGroupOfB_35 rfl (lv_at hl 3 rfl) ?_
          refine lv_iconst (v := 1) hx hb dX2_largestGroupOfB_36 (by decide) ?_
          refine lv_isub hx hb dX2_largestGroupOfB_37 ?_
          replace h := es_ck_e h
          obtain ⟨b7, h⟩ := h
          refine es_ald C hP (es_wX_20 a cI cZ N S) (t0 := 0) rfl b7 dX2_largestGroupOfB_38 ?_
          refine lv_topi (fun v8 ev8 => ?_)
          replace h := es_lt_e ev8 h
          refine lv_icmp_ne (tgt := 48) hx hb dX2_largestGroupOfB_39 (by decide) (fun c9 => ?_) (fun c9 => ?_)
          · replace h := es_if_t c9 h
            refine lv_iconst (v := 1) hx hb dX2_largestGroupOfB_48 (by decide) ?_
            refine lv_istore_n (lv' := [(2, .int 1), (0, .ref (a 4)), (1, .int x1), (3, .int x3)]) hx hb dX2_largestGroupOfB_49 rfl hl (by decide) rfl (fun ls hl => ?_)
            refine lv_iload_n hx hb dX2_largestGroupOfB_50 rfl (lv_at hl 2 rfl) ?_
            refine lv_iload_n hx hb dX2_largestGroupOfB_51 rfl (lv_at hl 0 rfl) ?_
            refine va_mmax hx hb (C.2.2.1.trans hl.1.symm) hown (hts _ es_u25_9) (hts _ es_u2_0) (hts _ es_u1_21) (hts _ es_u2_1) (by decide) (Nat.le_of_ble_eq_true rfl) (Nat.zero_le _) (Nat.zero_le _) dX2_largestGroupOfB_52 ?_
            refine lv_topi (fun v10 ev10 => ?_)
            replace h := es_lt_e ev10 h
            refine lv_istore_n (lv' := [(1, .int v10), (2, .int 1), (0, .ref (a 4)), (3, .int x3)]) hx hb dX2_largestGroupOfB_55 rfl hl (by decide) rfl (fun ls hl => ?_)
            obtain ⟨y11, ey11⟩ : ∃ y : Int32, y = x3 + 1 := ⟨_, rfl⟩
            refine lv_iinc (v := y11) (lv' := [(3, .int y11), (1, .int v10), (2, .int 1), (0, .ref (a 4))]) hx hb dX2_largestGroupOfB_56 hl (k := 3) rfl (by rw [ey11]; rfl) (by decide) rfl (fun ls hl => ?_)
            replace h := es_lt_e ey11 h
            refine lv_goto (tgt := 9) hx hb dX2_largestGroupOfB_59 (by decide) ?_
            exact ih v10 1 y11 S _ _ _ h hP hS (lv_sub hl [3, 1, 2, 0] rfl)
          · replace h := es_if_f (fun q => q c9) h
            refine lv_iload_n hx hb dX2_largestGroupOfB_42 rfl (lv_at hl 2 rfl) ?_
            refine lv_iconst (v := 1) hx hb dX2_largestGroupOfB_43 (by decide) ?_
            refine lv_iadd hx hb dX2_largestGroupOfB_44 ?_
            refine lv_goto (tgt := 49) hx hb dX2_largestGroupOfB_45 (by decide) ?_
            refine lv_topi (fun y12 ey12 => ?_)
            replace h := es_lt_e ey12 h
            refine lv_istore_n (lv' := [(2, .int y12), (0, .ref (a 4)), (1, .int x1), (3, .int x3)]) hx hb dX2_largestGroupOfB_49 rfl hl (by decide) rfl (fun ls hl => ?_)
            refine lv_iload_n hx hb dX2_largestGroupOfB_50 rfl (lv_at hl 2 rfl) ?_
            refine lv_iload_n hx hb dX2_largestGroupOfB_51 rfl (lv_at hl 0 rfl) ?_
            refine va_mmax hx hb (C.2.2.1.trans hl.1.symm) hown (hts _ es_u25_9) (hts _ es_u2_0) (hts _ es_u1_21) (hts _ es_u2_1) (by decide) (Nat.le_of_ble_eq_true rfl) (Nat.zero_le _) (Nat.zero_le _) dX2_largestGroupOfB_52 ?_
            refine lv_topi (fun v13 ev13 => ?_)
            replace h := es_lt_e ev13 h
            refine lv_istore_n (lv' := [(1, .int v13), (2, .int y12), (0, .ref (a 4)), (3, .int x3)]) hx hb dX2_largestGroupOfB_55 rfl hl (by decide) rfl (fun ls hl => ?_)
            obtain ⟨y14, ey14⟩ : ∃ y : Int32, y = x3 + 1 := ⟨_, rfl⟩
            refine lv_iinc (v := y14) (lv' := [(3, .int y14), (1, .int v13), (2, .int y12), (0, .ref (a 4))]) hx hb dX2_largestGroupOfB_56 hl (k := 3) rfl (by rw [ey14]; rfl) (by decide) rfl (fun ls hl => ?_)
            replace h := es_lt_e ey14 h
            refine lv_goto (tgt := 9) hx hb dX2_largestGroupOfB_59 (by decide) ?_
            exact ih v13 y12 y14 S _ _ _ h hP hS (lv_sub hl [3, 1, 2, 0] rfl)
  unfold f_X2_largestGroupOfB at h
  refine lv_iconst (v := 0) hx hb dX2_largestGroupOfB_0 (by decide) ?_
  refine lv_istore_n (lv' := [(1, .int 0), (0, .ref (a 4))]) hx hb dX2_largestGroupOfB_1 rfl hl (by decide) rfl (fun ls hl => ?_)
  refine lv_iconst (v := 0) hx hb dX2_largestGroupOfB_2 (by decide) ?_
  refine lv_istore_n (lv' := [(2, .int 0), (1, .int 0), (0, .ref (a 4))]) hx hb dX2_largestGroupOfB_3 rfl hl (by decide) rfl (fun ls hl => ?_)
  refine lv_aload_n hx hb dX2_largestGroupOfB_4 rfl (lv_at hl 2 rfl) ?_
  refine es_get C hP (es_wX_4 a cI cZ N S) rfl inlX2 (j := 4) (by decide) es_u24_19 rfl dX2_largestGroupOfB_5 ?_
  refine lv_istore_n (lv' := [(3, .int (S.1 16)), (2, .int 0), (1, .int 0), (0, .ref (a 4))]) hx hb dX2_largestGroupOfB_8 rfl hl (by decide) rfl (fun ls hl => ?_)
  exact J9  fu 0 0 (S.1 16) S _ _ _ h hP hS (lv_sub hl [3, 2, 1, 0] rfl)

set_option maxHeartbeats 4000000 in
set_option maxRecDepth 100000 in
theorem c_X2_look (l : Launch) (D : va_G) (cI cZ : ClassId) (a : Nat → Nat) (N : Nat → Nat) (sz fu : Nat) (S S' : es_St) (p1 : Int32) (p2 : Int32) (p3 : Int32) (p4 : Int32) (r : Int32) (h : f_X2_look N fu S p1 p2 p3 p4 = some (r, S')) : Met l yX2_look (Cond.code yX2_look cX2_look 5 none :: wsL_law) ({ frames := 3, cells := 0, slots := 0, locals := 71 } : Room) (es_Pre [.ref (a 4), .int p1, .int p2, .int p3, .int p4] D [(cI, .int), (cZ, .boolean)] (es_wX a cI cZ N) a 35 S sz) (es_Qv D (es_wX a cI cZ N) a 35 S' sz) 0 0 (es_AA a 35 sz) := by
  refine es_intro (Qc := es_Qv D (es_wX a cI cZ N) a 35 S') (by decide) (es_okX a cI cZ N) (Nat.le_of_ble_eq_true rfl) ?_
  intro p e s m below meth c C hr hlk hP ls hl
  have hx := C.1
  have hb := C.2.1
  have hown := C.2.2.2.1
  have hts := C.2.2.2.2.1
  have hS : va_S (es_AA a 35 s.heap.size) s.heap s.heap [] := va_S.rf
  replace hl : lv_has ls 5 [(0, .ref (a 4)), (1, .int p1), (2, .int p2), (3, .int p3), (4, .int p4)] := hl
  unfold f_X2_look at h
  refine lv_aload_n hx hb dX2_look_0 rfl (lv_at hl 0 rfl) ?_
  refine lv_aload_n hx hb dX2_look_1 rfl (lv_at hl 0 rfl) ?_
  refine lv_iload_n hx hb dX2_look_2 rfl (lv_at hl 1 rfl) ?_
  refine lv_iload_n hx hb dX2_look_3 rfl (lv_at hl 2 rfl) ?_
  refine lv_iconst (v := 0) hx hb dX2_look_4 (by decide) ?_
  replace h := es_bd_e h
  obtain ⟨r1, S2, g3, h⟩ := h
  refine es_callVi C (c_X2_copy l D cI cZ a N _ fu S S2 p1 p2 0 r1 g3) es_u24_21 es_mX2_copy ⟨rfl, rfl, by decide, by decide⟩ ⟨Nat.zero_le _, Nat.zero_le _⟩ hP hS (es_wX_4 a cI cZ N S) rfl rfl hl.1 rfl (Nat.le_of_ble_eq_true rfl) dX2_look_5 (fun H locs _ _ hP hS => ?_)
  refine es_put C hP hS (es_wX_4 a cI cZ N S2) rfl inlX2 tyX2_ok nmX2 (j := 4) (by decide) es_u24_19 rfl (tyX2_ok 4 (by decide)) rfl rfl (by simp) (es_sX_16 a cI cZ N S2 r1) dX2_look_8 (fun S4 eS4 H locs hP hS => ?_)
  replace h := es_lt_e eS4 h
  refine lv_aload_n hx hb dX2_look_11 rfl (lv_at hl 0 rfl) ?_
  refine lv_aload_n hx hb dX2_look_12 rfl (lv_at hl 0 rfl) ?_
  refine lv_iload_n hx hb dX2_look_13 rfl (lv_at hl 3 rfl) ?_
  refine lv_iload hx hb dX2_look_14 (lv_at hl 4 rfl) ?_
  refine lv_aload_n hx hb dX2_look_16 rfl (lv_at hl 0 rfl) ?_
  refine es_get C hP (es_wX_4 a cI cZ N S4) rfl inlX2 (j := 4) (by decide) es_u24_19 rfl dX2_look_17 ?_
  replace h := es_bd_e h
  obtain ⟨r5, S6, g7, h⟩ := h
  refine es_callVi C (c_X2_copy l D cI cZ a N _ fu S4 S6 p3 p4 (S4.1 16) r5 g7) es_u24_21 es_mX2_copy ⟨rfl, rfl, by decide, by decide⟩ ⟨Nat.zero_le _, Nat.zero_le _⟩ hP hS (es_wX_4 a cI cZ N S4) rfl rfl hl.1 rfl (Nat.le_of_ble_eq_true rfl) dX2_look_20 (fun H locs _ _ hP hS => ?_)
  refine es_put C hP hS (es_wX_4 a cI cZ N S6) rfl inlX2 tyX2_ok nmX2 (j := 5) (by decide) es_u24_20 rfl (tyX2_ok 5 (by decide)) rfl rfl (by simp) (es_sX_17 a cI cZ N S6 r5) dX2_look_23 (fun S8 eS8 H locs hP hS => ?_)
  replace h := es_lt_e eS8 h
  exact es_vret C hr hlk h hP hS dX2_look_26

set_option maxHeartbeats 4000000 in
set_option maxRecDepth 100000 in
theorem c_X2_sortedPages (l : Launch) (D : va_G) (cI cZ : ClassId) (a : Nat → Nat) (N : Nat → Nat) (sz fu : Nat) (S S' : es_St) (r : Int32) (h : f_X2_sortedPages N fu S = some (r, S')) : Met l yX2_sortedPages (Cond.code yX2_sortedPages cX2_sortedPages 1 (some .int) :: wsL_law) ({ frames := 1, cells := 0, slots := 0, locals := 21 } : Room) (es_Pre [.ref (a 4)] D [(cI, .int), (cZ, .boolean)] (es_wX a cI cZ N) a 35 S sz) (es_Qi D (es_wX a cI cZ N) a 35 r S' sz) 0 0 (es_AA a 35 sz) := by
  refine es_intro (Qc := es_Qi D (es_wX a cI cZ N) a 35 r S') (by decide) (es_okX a cI cZ N) (Nat.le_of_ble_eq_true rfl) ?_
  intro p e s m below meth c C hr hlk hP ls hl
  have hx := C.1
  have hb := C.2.1
  have hown := C.2.2.2.1
  have hts := C.2.2.2.2.1
  have hS : va_S (es_AA a 35 s.heap.size) s.heap s.heap [] := va_S.rf
  replace hl : lv_has ls 1 [(0, .ref (a 4))] := hl
  unfold f_X2_sortedPages at h
  refine lv_aload_n hx hb dX2_sortedPages_0 rfl (lv_at hl 0 rfl) ?_
  refine es_get C hP (es_wX_4 a cI cZ N S) rfl inlX2 (j := 0) (by decide) es_u6_0 rfl dX2_sortedPages_1 ?_
  refine lv_aload_n hx hb dX2_sortedPages_4 rfl (lv_at hl 0 rfl) ?_
  refine es_get C hP (es_wX_4 a cI cZ N S) rfl inlX2 (j := 4) (by decide) es_u24_19 rfl dX2_sortedPages_5 ?_
  replace h := es_bd_e h
  obtain ⟨r1, S2, g3, h⟩ := h
  refine es_callVi C (c_X0_pagesFor l D cI cZ a N _ fu S S2 (S.1 16) r1 g3) es_u26_11 es_mX0_pagesFor ⟨rfl, rfl, by decide, by decide⟩ ⟨Nat.zero_le _, Nat.zero_le _⟩ hP hS (es_wX_1 a cI cZ N S) rfl rfl hl.1 rfl (Nat.le_of_ble_eq_true rfl) dX2_sortedPages_8 (fun H locs _ _ hP hS => ?_)
  refine lv_aload_n hx hb dX2_sortedPages_11 rfl (lv_at hl 0 rfl) ?_
  refine es_get C hP (es_wX_4 a cI cZ N S2) rfl inlX2 (j := 0) (by decide) es_u6_0 rfl dX2_sortedPages_12 ?_
  refine lv_aload_n hx hb dX2_sortedPages_15 rfl (lv_at hl 0 rfl) ?_
  refine es_get C hP (es_wX_4 a cI cZ N S2) rfl inlX2 (j := 5) (by decide) es_u24_20 rfl dX2_sortedPages_16 ?_
  refine lv_aload_n hx hb dX2_sortedPages_19 rfl (lv_at hl 0 rfl) ?_
  refine es_get C hP (es_wX_4 a cI cZ N S2) rfl inlX2 (j := 4) (by decide) es_u24_19 rfl dX2_sortedPages_20 ?_
  refine lv_isub hx hb dX2_sortedPages_23 ?_
  replace h := es_bd_e h
  obtain ⟨r4, S5, g6, h⟩ := h
  refine es_callVi C (c_X0_pagesFor l D cI cZ a N _ fu S2 S5 ((S2.1 17) - (S2.1 16)) r4 g6) es_u26_11 es_mX0_pagesFor ⟨rfl, rfl, by decide, by decide⟩ ⟨Nat.zero_le _, Nat.zero_le _⟩ hP hS (es_wX_1 a cI cZ N S2) rfl rfl hl.1 rfl (Nat.le_of_ble_eq_true rfl) dX2_sortedPages_24 (fun H locs _ _ hP hS => ?_)
  refine lv_iadd hx hb dX2_sortedPages_27 ?_
  exact es_iret C hr hlk h hP hS dX2_sortedPages_28

set_option maxHeartbeats 4000000 in
set_option maxRecDepth 100000 in
theorem c_X2_pairsFit (l : Launch) (D : va_G) (cI cZ : ClassId) (a : Nat → Nat) (N : Nat → Nat) (sz fu : Nat) (S S' : es_St) (r : Int32) (h : f_X2_pairsFit N fu S = some (r, S')) : Met l yX2_pairsFit (Cond.code yX2_pairsFit cX2_pairsFit 1 (some .boolean) :: wsL_law) ({ frames := 3, cells := 0, slots := 0, locals := 66 } : Room) (es_Pre [.ref (a 4)] D [(cI, .int), (cZ, .boolean)] (es_wX a cI cZ N) a 35 S sz) (es_Qi D (es_wX a cI cZ N) a 35 r S' sz) 0 0 (es_AA a 35 sz) := by
  refine es_intro (Qc := es_Qi D (es_wX a cI cZ N) a 35 r S') (by decide) (es_okX a cI cZ N) (Nat.le_of_ble_eq_true rfl) ?_
  intro p e s m below meth c C hr hlk hP ls hl
  have hx := C.1
  have hb := C.2.1
  have hown := C.2.2.2.1
  have hts := C.2.2.2.2.1
  have hS : va_S (es_AA a 35 s.heap.size) s.heap s.heap [] := va_S.rf
  replace hl : lv_has ls 1 [(0, .ref (a 4))] := hl
  unfold f_X2_pairsFit at h
  refine lv_aload_n hx hb dX2_pairsFit_0 rfl (lv_at hl 0 rfl) ?_
  refine es_get C hP (es_wX_4 a cI cZ N S) rfl inlX2 (j := 0) (by decide) es_u6_0 rfl dX2_pairsFit_1 ?_
  refine lv_aload_n hx hb dX2_pairsFit_4 rfl (lv_at hl 0 rfl) ?_
  replace h := es_bd_e h
  obtain ⟨r1, S2, g3, h⟩ := h
  refine es_callVi C (c_X2_countPairs l D cI cZ a N _ fu S S2 r1 g3) es_u25_15 es_mX2_countPairs ⟨rfl, rfl, by decide, by decide⟩ ⟨Nat.zero_le _, Nat.zero_le _⟩ hP hS (es_wX_4 a cI cZ N S) rfl rfl hl.1 rfl (Nat.le_of_ble_eq_true rfl) dX2_pairsFit_5 (fun H locs _ _ hP hS => ?_)
  replace h := es_bd_e h
  obtain ⟨r4, S5, g6, h⟩ := h
  refine es_callVi C (c_X0_pagesFor l D cI cZ a N _ fu S2 S5 r1 r4 g6) es_u26_11 es_mX0_pagesFor ⟨rfl, rfl, by decide, by decide⟩ ⟨Nat.zero_le _, Nat.zero_le _⟩ hP hS (es_wX_1 a cI cZ N S2) rfl rfl hl.1 rfl (Nat.le_of_ble_eq_true rfl) dX2_pairsFit_8 (fun H locs _ _ hP hS => ?_)
  refine lv_aload_n hx hb dX2_pairsFit_11 rfl (lv_at hl 0 rfl) ?_
  refine es_get C hP (es_wX_4 a cI cZ N S5) rfl inlX2 (j := 0) (by decide) es_u6_0 rfl dX2_pairsFit_12 ?_
  replace h := es_bd_e h
  obtain ⟨r7, S8, g9, h⟩ := h
  refine es_callVi C (c_X0_freePages l D cI cZ a N _ fu S5 S8 r7 g9) es_u26_15 es_mX0_freePages ⟨rfl, rfl, by decide, by decide⟩ ⟨Nat.zero_le _, Nat.zero_le _⟩ hP hS (es_wX_1 a cI cZ N S5) rfl rfl hl.1 rfl (Nat.le_of_ble_eq_true rfl) dX2_pairsFit_15 (fun H locs _ _ hP hS => ?_)
  refine lv_aload_n hx hb dX2_pairsFit_18 rfl (lv_at hl 0 rfl) ?_
  replace h := es_bd_e h
  obtain ⟨r10, S11, g12, h⟩ := h
  refine es_callVi C (c_X2_sortedPages l D cI cZ a N _ fu S8 S11 r10 g12) es_u26_19 es_mX2_sortedPages ⟨rfl, rfl, by decide, by decide⟩ ⟨Nat.zero_le _, Nat.zero_le _⟩ hP hS (es_wX_4 a cI cZ N S8) rfl rfl hl.1 rfl (Nat.le_of_ble_eq_true rfl) dX2_pairsFit_19 (fun H locs _ _ hP hS => ?_)
  refine lv_iadd hx hb dX2_pairsFit_22 ?_
  refine lv_icmp_gt (tgt := 30) hx hb dX2_pairsFit_23 (by decide) (fun c13 => ?_) (fun c13 => ?_)
  · replace h := es_if_t c13 h
    refine lv_iconst (v := 0) hx hb dX2_pairsFit_30 (by decide) ?_
    exact es_zret C hr hlk ⟨rfl, rfl⟩ h hP hS dX2_pairsFit_31
  · replace h := es_if_f c13 h
    refine lv_iconst (v := 1) hx hb dX2_pairsFit_26 (by decide) ?_
    refine lv_goto (tgt := 31) hx hb dX2_pairsFit_27 (by decide) ?_
    exact es_zret C hr hlk ⟨rfl, rfl⟩ h hP hS dX2_pairsFit_31

set_option maxHeartbeats 4000000 in
set_option maxRecDepth 100000 in
theorem c_X4_writePage (l : Launch) (D : va_G) (cI cZ : ClassId) (a : Nat → Nat) (N : Nat → Nat) (sz fu : Nat) (S S' : es_St) (r : Int32) (h : f_X4_writePage N fu S = some (r, S')) : Met l yX4_writePage (Cond.code yX4_writePage cX4_writePage 3 (some .boolean) :: wsL_law) ({ frames := 2, cells := 0, slots := 0, locals := 46 } : Room) (es_Pre [.ref (a 2)] D [(cI, .int), (cZ, .boolean)] (es_wX a cI cZ N) a 35 S sz) (es_Qi D (es_wX a cI cZ N) a 35 r S' sz) 0 0 (es_AA a 35 sz) := by
  refine es_intro (Qc := es_Qi D (es_wX a cI cZ N) a 35 r S') (by decide) (es_okX a cI cZ N) (Nat.le_of_ble_eq_true rfl) ?_
  intro p e s m below meth c C hr hlk hP ls hl
  have hx := C.1
  have hb := C.2.1
  have hown := C.2.2.2.1
  have hts := C.2.2.2.2.1
  have hS : va_S (es_AA a 35 s.heap.size) s.heap s.heap [] := va_S.rf
  replace hl : lv_has ls 3 [(0, .ref (a 2))] := hl
  have J91 : (∀ (x1 : Int32) (S : es_St) (H : Heap) (locs : List Loc) (ls : Array Slot), f_X4_writePage_91 N fu x1 S = some (r, S') → va_P D vwCl ((es_wX a cI cZ N) S) H → va_S (es_AA a 35 s.heap.size) s.heap H locs → lv_has ls 3 [(0, .ref (a 2)), (1, .int x1)] → W p l e ({ frames := 2, cells := 0, slots := 0, locals := 46 } : Room) s m ([.ref (a 2)] : List Value).toArray below meth c H locs 0 0 (MQ below (es_Qi D (es_wX a cI cZ N) a 35 r S' s.heap.size) ([.ref (a 2)] : List Value).toArray s 0 0 (es_AA a 35 s.heap.size)) (F0 m 91 ls [])) := by
    intro x1 S H locs ls h hP hS hl
    unfold f_X4_writePage_91 at h
    refine lv_aload_n hx hb dX4_writePage_91 rfl (lv_at hl 0 rfl) ?_
    refine lv_iload_n hx hb dX4_writePage_92 rfl (lv_at hl 1 rfl) ?_
    refine es_put C hP hS (es_wX_2 a cI cZ N S) rfl inlX4 tyX4_ok nmX4 (j := 9) (by decide) es_u16_2 rfl (tyX4_ok 9 (by decide)) rfl rfl (by simp) (es_sX_9 a cI cZ N S x1) dX4_writePage_93 (fun S10 eS10 H locs hP hS => ?_)
    replace h := es_lt_e eS10 h
    refine lv_aload_n hx hb dX4_writePage_96 rfl (lv_at hl 0 rfl) ?_
    refine lv_iconst (v := 0) hx hb dX4_writePage_97 (by decide) ?_
    refine es_put C hP hS (es_wX_2 a cI cZ N S10) rfl inlX4 tyX4_ok nmX4 (j := 8) (by decide) es_u16_4 rfl (tyX4_ok 8 (by decide)) rfl rfl (by simp) (es_sX_8 a cI cZ N S10 0) dX4_writePage_98 (fun S11 eS11 H locs hP hS => ?_)
    replace h := es_lt_e eS11 h
    refine lv_aload_n hx hb dX4_writePage_101 rfl (lv_at hl 0 rfl) ?_
    refine es_get C hP (es_wX_2 a cI cZ N S11) rfl inlX4 (j := 4) (by decide) es_u3_23 rfl dX4_writePage_102 ?_
    refine es_get C hP (es_wX_1 a cI cZ N S11) rfl inlX0 (j := 2) (by decide) es_u17_5 rfl dX4_writePage_105 ?_
    refine lv_dup hx hb dX4_writePage_108 rfl ?_
    refine es_get C hP (es_wX_5 a cI cZ N S11) rfl inlX6 (j := 1) (by decide) es_u17_6 rfl dX4_writePage_109 ?_
    refine lv_iconst (v := 1) hx hb dX4_writePage_112 (by decide) ?_
    refine lv_iadd hx hb dX4_writePage_113 ?_
    refine lv_topi (fun v12 ev12 => ?_)
    replace h := es_lt_e ev12 h
    refine es_put C hP hS (es_wX_5 a cI cZ N S11) rfl inlX6 tyX6_ok nmX6 (j := 1) (by decide) es_u17_6 rfl (tyX6_ok 1 (by decide)) rfl rfl (by simp) (es_sX_23 a cI cZ N S11 v12) dX4_writePage_114 (fun S13 eS13 H locs hP hS => ?_)
    replace h := es_lt_e eS13 h
    refine lv_iconst (v := 1) hx hb dX4_writePage_117 (by decide) ?_
    exact es_zret C hr hlk ⟨rfl, rfl⟩ h hP hS dX4_writePage_118
  have J63 : (∀ (x1 : Int32) (S : es_St) (H : Heap) (locs : List Loc) (ls : Array Slot), f_X4_writePage_63 N fu x1 S = some (r, S') → va_P D vwCl ((es_wX a cI cZ N) S) H → va_S (es_AA a 35 s.heap.size) s.heap H locs → lv_has ls 3 [(0, .ref (a 2)), (1, .int x1)] → W p l e ({ frames := 2, cells := 0, slots := 0, locals := 46 } : Room) s m ([.ref (a 2)] : List Value).toArray below meth c H locs 0 0 (MQ below (es_Qi D (es_wX a cI cZ N) a 35 r S' s.heap.size) ([.ref (a 2)] : List Value).toArray s 0 0 (es_AA a 35 s.heap.size)) (F0 m 63 ls [])) := by
    intro x1 S H locs ls h hP hS hl
    unfold f_X4_writePage_63 at h
    refine lv_aload_n hx hb dX4_writePage_63 rfl (lv_at hl 0 rfl) ?_
    refine es_get C hP (es_wX_2 a cI cZ N S) rfl inlX4 (j := 9) (by decide) es_u16_2 rfl dX4_writePage_64 ?_
    refine lv_iconst (v := (-1)) hx hb dX4_writePage_67 (by decide) ?_
    refine lv_icmp_ne (tgt := 79) hx hb dX4_writePage_68 (by decide) (fun c6 => ?_) (fun c6 => ?_)
    · replace h := es_if_t c6 h
      refine lv_aload_n hx hb dX4_writePage_79 rfl (lv_at hl 0 rfl) ?_
      refine es_get C hP (es_wX_2 a cI cZ N S) rfl inlX4 (j := 4) (by decide) es_u3_23 rfl dX4_writePage_80 ?_
      refine lv_aload_n hx hb dX4_writePage_83 rfl (lv_at hl 0 rfl) ?_
      refine es_get C hP (es_wX_2 a cI cZ N S) rfl inlX4 (j := 9) (by decide) es_u16_2 rfl dX4_writePage_84 ?_
      refine lv_iload_n hx hb dX4_writePage_87 rfl (lv_at hl 1 rfl) ?_
      replace h := es_bd_e h
      obtain ⟨r7, S8, g9, h⟩ := h
      refine es_callVv C (c_X0_link l D cI cZ a N _ fu S S8 (S.1 9) x1 r7 g9) es_u17_9 es_mX0_link ⟨rfl, rfl, by decide, by decide⟩ ⟨Nat.zero_le _, Nat.zero_le _⟩ hP hS (es_wX_1 a cI cZ N S) rfl rfl hl.1 rfl (Nat.le_of_ble_eq_true rfl) dX4_writePage_88 (fun H locs _ _ hP hS => ?_)
      exact J91  x1 S8 _ _ _ h hP hS (lv_sub hl [0, 1] rfl)
    · replace h := es_if_f (fun q => q c6) h
      refine lv_aload_n hx hb dX4_writePage_71 rfl (lv_at hl 0 rfl) ?_
      refine lv_iload_n hx hb dX4_writePage_72 rfl (lv_at hl 1 rfl) ?_
      refine es_put C hP hS (es_wX_2 a cI cZ N S) rfl inlX4 tyX4_ok nmX4 (j := 0) (by decide) es_u16_1 rfl (tyX4_ok 0 (by decide)) rfl rfl (by simp) (es_sX_3 a cI cZ N S x1) dX4_writePage_73 (fun S14 eS14 H locs hP hS => ?_)
      replace h := es_lt_e eS14 h
      refine lv_goto (tgt := 91) hx hb dX4_writePage_76 (by decide) ?_
      exact J91  x1 S14 _ _ _ h hP hS (lv_sub hl [0, 1] rfl)
  have J19 : ∀ n : Nat, (∀ (x1 : Int32) (x2 : Int32) (S : es_St) (H : Heap) (locs : List Loc) (ls : Array Slot), f_X4_writePage_19 N fu n x1 x2 S = some (r, S') → va_P D vwCl ((es_wX a cI cZ N) S) H → va_S (es_AA a 35 s.heap.size) s.heap H locs → lv_has ls 3 [(0, .ref (a 2)), (1, .int x1), (2, .int x2)] → W p l e ({ frames := 2, cells := 0, slots := 0, locals := 46 } : Room) s m ([.ref (a 2)] : List Value).toArray below meth c H locs 0 0 (MQ below (es_Qi D (es_wX a cI cZ N) a 35 r S' s.heap.size) ([.ref (a 2)] : List Value).toArray s 0 0 (es_AA a 35 s.heap.size)) (F0 m 19 ls [])) := by
    intro n
    induction n with
    | zero => intro x1 x2 S H locs ls h; rw [f_X4_writePage_19] at h; cases h
    | succ n ih =>
      intro x1 x2 S H locs ls h hP hS hl
      rw [f_X4_writePage_19] at h
      refine lv_iload_n hx hb dX4_writePage_19 rfl (lv_at hl 2 rfl) ?_
      refine lv_aload_n hx hb dX4_writePage_20 rfl (lv_at hl 0 rfl) ?_
      refine es_get C hP (es_wX_2 a cI cZ N S) rfl inlX4 (j := 8) (by decide) es_u16_4 rfl dX4_writePage_21 ?_
      refine lv_icmp_ge (tgt := 63) hx hb dX4_writePage_24 (by decide) (fun c5 => ?_) (fun c5 => ?_)
      · replace h := es_if_t c5 h
        exact J63  x1 S _ _ _ h hP hS (lv_sub hl [0, 1] rfl)
      · replace h := es_if_f c5 h
        refine lv_iload_n hx hb dX4_writePage_27 rfl (lv_at hl 2 rfl) ?_
        refine lv_aload_n hx hb dX4_writePage_28 rfl (lv_at hl 0 rfl) ?_
        refine es_get C hP (es_wX_2 a cI cZ N S) rfl inlX4 (j := 5) (by decide) es_u4_1 rfl dX4_writePage_29 ?_
        refine es_len C hP (es_wX_16 a cI cZ N S) (t0 := 0) rfl dX4_writePage_32 ?_
        refine lv_icmp_ge (tgt := 63) hx hb dX4_writePage_33 (by decide) (fun c15 => ?_) (fun c15 => ?_)
        · replace h := es_if_t c15 h
          exact J63  x1 S _ _ _ h hP hS (lv_sub hl [0, 1] rfl)
        · replace h := es_if_f c15 h
          refine lv_aload_n hx hb dX4_writePage_36 rfl (lv_at hl 0 rfl) ?_
          refine es_get C hP (es_wX_2 a cI cZ N S) rfl inlX4 (j := 4) (by decide) es_u3_23 rfl dX4_writePage_37 ?_
          refine lv_iload_n hx hb dX4_writePage_40 rfl (lv_at hl 1 rfl) ?_
          refine lv_iload_n hx hb dX4_writePage_41 rfl (lv_at hl 2 rfl) ?_
          refine lv_aload_n hx hb dX4_writePage_42 rfl (lv_at hl 0 rfl) ?_
          refine es_get C hP (es_wX_2 a cI cZ N S) rfl inlX4 (j := 5) (by decide) es_u4_1 rfl dX4_writePage_43 ?_
          refine lv_iload_n hx hb dX4_writePage_46 rfl (lv_at hl 2 rfl) ?_
          replace h := es_ck_e h
          obtain ⟨b16, h⟩ := h
          refine es_ald C hP (es_wX_16 a cI cZ N S) (t0 := 0) rfl b16 dX4_writePage_47 ?_
          refine lv_topi (fun v17 ev17 => ?_)
          replace h := es_lt_e ev17 h
          refine lv_aload_n hx hb dX4_writePage_48 rfl (lv_at hl 0 rfl) ?_
          refine es_get C hP (es_wX_2 a cI cZ N S) rfl inlX4 (j := 6) (by decide) es_u4_2 rfl dX4_writePage_49 ?_
          refine lv_iload_n hx hb dX4_writePage_52 rfl (lv_at hl 2 rfl) ?_
          replace h := es_ck_e h
          obtain ⟨b18, h⟩ := h
          refine es_ald C hP (es_wX_17 a cI cZ N S) (t0 := 0) rfl b18 dX4_writePage_53 ?_
          refine lv_topi (fun v19 ev19 => ?_)
          replace h := es_lt_e ev19 h
          replace h := es_bd_e h
          obtain ⟨r20, S21, g22, h⟩ := h
          refine es_callVv C (c_X0_store l D cI cZ a N _ fu S S21 x1 x2 v17 v19 r20 g22) es_u17_8 es_mX0_store ⟨rfl, rfl, by decide, by decide⟩ ⟨Nat.zero_le _, Nat.zero_le _⟩ hP hS (es_wX_1 a cI cZ N S) rfl rfl hl.1 rfl (Nat.le_of_ble_eq_true rfl) dX4_writePage_54 (fun H locs _ _ hP hS => ?_)
          obtain ⟨y23, ey23⟩ : ∃ y : Int32, y = x2 + 1 := ⟨_, rfl⟩
          refine lv_iinc (v := y23) (lv' := [(2, .int y23), (0, .ref (a 2)), (1, .int x1)]) hx hb dX4_writePage_57 hl (k := 2) rfl (by rw [ey23]; rfl) (by decide) rfl (fun ls hl => ?_)
          replace h := es_lt_e ey23 h
          refine lv_goto (tgt := 19) hx hb dX4_writePage_60 (by decide) ?_
          exact ih x1 y23 S21 _ _ _ h hP hS (lv_sub hl [1, 2, 0] rfl)
  unfold f_X4_writePage at h
  refine lv_aload_n hx hb dX4_writePage_0 rfl (lv_at hl 0 rfl) ?_
  refine es_get C hP (es_wX_2 a cI cZ N S) rfl inlX4 (j := 4) (by decide) es_u3_23 rfl dX4_writePage_1 ?_
  refine lv_bipush (v := 6) hx hb dX4_writePage_4 (by decide) ?_
  replace h := es_bd_e h
  obtain ⟨r1, S2, g3, h⟩ := h
  refine es_callVi C (c_X0_take l D cI cZ a N _ fu S S2 6 r1 g3) es_u17_7 es_mX0_take ⟨rfl, rfl, by decide, by decide⟩ ⟨Nat.zero_le _, Nat.zero_le _⟩ hP hS (es_wX_1 a cI cZ N S) rfl rfl hl.1 rfl (Nat.le_of_ble_eq_true rfl) dX4_writePage_6 (fun H locs _ _ hP hS => ?_)
  refine lv_istore_n (lv' := [(1, .int r1), (0, .ref (a 2))]) hx hb dX4_writePage_9 rfl hl (by decide) rfl (fun ls hl => ?_)
  refine lv_iload_n hx hb dX4_writePage_10 rfl (lv_at hl 0 rfl) ?_
  refine lv_iconst (v := (-1)) hx hb dX4_writePage_11 (by decide) ?_
  refine lv_icmp_ne (tgt := 17) hx hb dX4_writePage_12 (by decide) (fun c4 => ?_) (fun c4 => ?_)
  · replace h := es_if_t c4 h
    refine lv_iconst (v := 0) hx hb dX4_writePage_17 (by decide) ?_
    refine lv_istore_n (lv' := [(2, .int 0), (1, .int r1), (0, .ref (a 2))]) hx hb dX4_writePage_18 rfl hl (by decide) rfl (fun ls hl => ?_)
    exact J19  fu r1 0 S2 _ _ _ h hP hS (lv_sub hl [2, 1, 0] rfl)
  · replace h := es_if_f (fun q => q c4) h
    refine lv_iconst (v := 0) hx hb dX4_writePage_15 (by decide) ?_
    exact es_zret C hr hlk ⟨rfl, rfl⟩ h hP hS dX4_writePage_16

set_option maxHeartbeats 4000000 in
set_option maxRecDepth 100000 in
theorem c_X4_put (l : Launch) (D : va_G) (cI cZ : ClassId) (a : Nat → Nat) (N : Nat → Nat) (sz fu : Nat) (S S' : es_St) (p1 : Int32) (p2 : Int32) (r : Int32) (h : f_X4_put N fu S p1 p2 = some (r, S')) : Met l yX4_put (Cond.code yX4_put cX4_put 3 (some .boolean) :: wsL_law) ({ frames := 3, cells := 0, slots := 0, locals := 68 } : Room) (es_Pre [.ref (a 2), .int p1, .int p2] D [(cI, .int), (cZ, .boolean)] (es_wX a cI cZ N) a 35 S sz) (es_Qi D (es_wX a cI cZ N) a 35 r S' sz) 0 0 (es_AA a 35 sz) := by
  refine es_intro (Qc := es_Qi D (es_wX a cI cZ N) a 35 r S') (by decide) (es_okX a cI cZ N) (Nat.le_of_ble_eq_true rfl) ?_
  intro p e s m below meth c C hr hlk hP ls hl
  have hx := C.1
  have hb := C.2.1
  have hown := C.2.2.2.1
  have hts := C.2.2.2.2.1
  have hS : va_S (es_AA a 35 s.heap.size) s.heap s.heap [] := va_S.rf
  replace hl : lv_has ls 3 [(0, .ref (a 2)), (1, .int p1), (2, .int p2)] := hl
  have J81 : (∀ (x1 : Int32) (x2 : Int32) (S : es_St) (H : Heap) (locs : List Loc) (ls : Array Slot), f_X4_put_81 N fu x1 x2 S = some (r, S') → va_P D vwCl ((es_wX a cI cZ N) S) H → va_S (es_AA a 35 s.heap.size) s.heap H locs → lv_has ls 3 [(0, .ref (a 2)), (1, .int x1), (2, .int x2)] → W p l e ({ frames := 3, cells := 0, slots := 0, locals := 68 } : Room) s m ([.ref (a 2), .int p1, .int p2] : List Value).toArray below meth c H locs 0 0 (MQ below (es_Qi D (es_wX a cI cZ N) a 35 r S' s.heap.size) ([.ref (a 2), .int p1, .int p2] : List Value).toArray s 0 0 (es_AA a 35 s.heap.size)) (F0 m 81 ls [])) := by
    intro x1 x2 S H locs ls h hP hS hl
    unfold f_X4_put_81 at h
    refine lv_aload_n hx hb dX4_put_81 rfl (lv_at hl 0 rfl) ?_
    refine lv_iload_n hx hb dX4_put_82 rfl (lv_at hl 1 rfl) ?_
    refine es_put C hP hS (es_wX_2 a cI cZ N S) rfl inlX4 tyX4_ok nmX4 (j := 2) (by decide) es_u18_6 rfl (tyX4_ok 2 (by decide)) rfl rfl (by simp) (es_sX_5 a cI cZ N S x1) dX4_put_83 (fun S3 eS3 H locs hP hS => ?_)
    replace h := es_lt_e eS3 h
    refine lv_aload_n hx hb dX4_put_86 rfl (lv_at hl 0 rfl) ?_
    refine lv_iload_n hx hb dX4_put_87 rfl (lv_at hl 2 rfl) ?_
    refine es_put C hP hS (es_wX_2 a cI cZ N S3) rfl inlX4 tyX4_ok nmX4 (j := 3) (by decide) es_u18_7 rfl (tyX4_ok 3 (by decide)) rfl rfl (by simp) (es_sX_6 a cI cZ N S3 x2) dX4_put_88 (fun S4 eS4 H locs hP hS => ?_)
    replace h := es_lt_e eS4 h
    refine lv_aload_n hx hb dX4_put_91 rfl (lv_at hl 0 rfl) ?_
    refine lv_dup hx hb dX4_put_92 rfl ?_
    refine es_get C hP (es_wX_2 a cI cZ N S4) rfl inlX4 (j := 1) (by decide) es_u16_3 rfl dX4_put_93 ?_
    refine lv_iconst (v := 1) hx hb dX4_put_96 (by decide) ?_
    refine lv_iadd hx hb dX4_put_97 ?_
    refine lv_topi (fun v5 ev5 => ?_)
    replace h := es_lt_e ev5 h
    refine es_put C hP hS (es_wX_2 a cI cZ N S4) rfl inlX4 tyX4_ok nmX4 (j := 1) (by decide) es_u16_3 rfl (tyX4_ok 1 (by decide)) rfl rfl (by simp) (es_sX_4 a cI cZ N S4 v5) dX4_put_98 (fun S6 eS6 H locs hP hS => ?_)
    replace h := es_lt_e eS6 h
    refine lv_aload_n hx hb dX4_put_101 rfl (lv_at hl 0 rfl) ?_
    refine es_get C hP (es_wX_2 a cI cZ N S6) rfl inlX4 (j := 8) (by decide) es_u16_4 rfl dX4_put_102 ?_
    refine lv_aload_n hx hb dX4_put_105 rfl (lv_at hl 0 rfl) ?_
    refine es_get C hP (es_wX_2 a cI cZ N S6) rfl inlX4 (j := 5) (by decide) es_u4_1 rfl dX4_put_106 ?_
    refine es_len C hP (es_wX_16 a cI cZ N S6) (t0 := 0) rfl dX4_put_109 ?_
    refine lv_icmp_lt (tgt := 120) hx hb dX4_put_110 (by decide) (fun c7 => ?_) (fun c7 => ?_)
    · replace h := es_if_t c7 h
      refine lv_iconst (v := 1) hx hb dX4_put_120 (by decide) ?_
      refine lv_goto (tgt := 125) hx hb dX4_put_121 (by decide) ?_
      exact es_zret C hr hlk ⟨rfl, rfl⟩ h hP hS dX4_put_125
    · replace h := es_if_f c7 h
      refine lv_aload_n hx hb dX4_put_113 rfl (lv_at hl 0 rfl) ?_
      replace h := es_bd_e h
      obtain ⟨r8, S9, g10, h⟩ := h
      refine es_callVi C (c_X4_writePage l D cI cZ a N _ fu S6 S9 r8 g10) es_u17_1 es_mX4_writePage ⟨rfl, rfl, by decide, by decide⟩ ⟨Nat.zero_le _, Nat.zero_le _⟩ hP hS (es_wX_2 a cI cZ N S6) rfl rfl hl.1 rfl (Nat.le_of_ble_eq_true rfl) dX4_put_114 (fun H locs _ _ hP hS => ?_)
      refine lv_if_eq (tgt := 124) hx hb dX4_put_117 (by decide) (fun c11 => ?_) (fun c11 => ?_)
      · replace h := es_if_t c11 h
        refine lv_iconst (v := 0) hx hb dX4_put_124 (by decide) ?_
        exact es_zret C hr hlk ⟨rfl, rfl⟩ h hP hS dX4_put_125
      · replace h := es_if_f c11 h
        refine lv_iconst (v := 1) hx hb dX4_put_120 (by decide) ?_
        refine lv_goto (tgt := 125) hx hb dX4_put_121 (by decide) ?_
        exact es_zret C hr hlk ⟨rfl, rfl⟩ h hP hS dX4_put_125
  have J32 : (∀ (x1 : Int32) (x2 : Int32) (S : es_St) (H : Heap) (locs : List Loc) (ls : Array Slot), f_X4_put_32 N fu x1 x2 S = some (r, S') → va_P D vwCl ((es_wX a cI cZ N) S) H → va_S (es_AA a 35 s.heap.size) s.heap H locs → lv_has ls 3 [(0, .ref (a 2)), (1, .int x1), (2, .int x2)] → W p l e ({ frames := 3, cells := 0, slots := 0, locals := 68 } : Room) s m ([.ref (a 2), .int p1, .int p2] : List Value).toArray below meth c H locs 0 0 (MQ below (es_Qi D (es_wX a cI cZ N) a 35 r S' s.heap.size) ([.ref (a 2), .int p1, .int p2] : List Value).toArray s 0 0 (es_AA a 35 s.heap.size)) (F0 m 32 ls [])) := by
    intro x1 x2 S H locs ls h hP hS hl
    unfold f_X4_put_32 at h
    refine lv_aload_n hx hb dX4_put_32 rfl (lv_at hl 0 rfl) ?_
    refine es_get C hP (es_wX_2 a cI cZ N S) rfl inlX4 (j := 8) (by decide) es_u16_4 rfl dX4_put_33 ?_
    refine lv_if_lt (tgt := 81) hx hb dX4_put_36 (by decide) (fun c2 => ?_) (fun c2 => ?_)
    · replace h := es_if_t c2 h
      exact J81  x1 x2 S _ _ _ h hP hS (lv_sub hl [0, 1, 2] rfl)
    · replace h := es_if_f c2 h
      refine lv_aload_n hx hb dX4_put_39 rfl (lv_at hl 0 rfl) ?_
      refine es_get C hP (es_wX_2 a cI cZ N S) rfl inlX4 (j := 8) (by decide) es_u16_4 rfl dX4_put_40 ?_
      refine lv_aload_n hx hb dX4_put_43 rfl (lv_at hl 0 rfl) ?_
      refine es_get C hP (es_wX_2 a cI cZ N S) rfl inlX4 (j := 5) (by decide) es_u4_1 rfl dX4_put_44 ?_
      refine es_len C hP (es_wX_16 a cI cZ N S) (t0 := 0) rfl dX4_put_47 ?_
      refine lv_icmp_ge (tgt := 81) hx hb dX4_put_48 (by decide) (fun c12 => ?_) (fun c12 => ?_)
      · replace h := es_if_t c12 h
        exact J81  x1 x2 S _ _ _ h hP hS (lv_sub hl [0, 1, 2] rfl)
      · replace h := es_if_f c12 h
        refine lv_aload_n hx hb dX4_put_51 rfl (lv_at hl 0 rfl) ?_
        refine es_get C hP (es_wX_2 a cI cZ N S) rfl inlX4 (j := 5) (by decide) es_u4_1 rfl dX4_put_52 ?_
        refine lv_aload_n hx hb dX4_put_55 rfl (lv_at hl 0 rfl) ?_
        refine es_get C hP (es_wX_2 a cI cZ N S) rfl inlX4 (j := 8) (by decide) es_u16_4 rfl dX4_put_56 ?_
        refine lv_iload_n hx hb dX4_put_59 rfl (lv_at hl 1 rfl) ?_
        replace h := es_ck_e h
        obtain ⟨b13, h⟩ := h
        refine es_ast C hP hS (es_wX_16 a cI cZ N S) (es_rX_16 a cI cZ N S) (t0 := 0) rfl b13 dX4_put_60 (fun S14 eS14 H locs hP hS => ?_)
        replace h := es_lt_e eS14 h
        refine lv_aload_n hx hb dX4_put_61 rfl (lv_at hl 0 rfl) ?_
        refine es_get C hP (es_wX_2 a cI cZ N S14) rfl inlX4 (j := 6) (by decide) es_u4_2 rfl dX4_put_62 ?_
        refine lv_aload_n hx hb dX4_put_65 rfl (lv_at hl 0 rfl) ?_
        refine es_get C hP (es_wX_2 a cI cZ N S14) rfl inlX4 (j := 8) (by decide) es_u16_4 rfl dX4_put_66 ?_
        refine lv_iload_n hx hb dX4_put_69 rfl (lv_at hl 2 rfl) ?_
        replace h := es_ck_e h
        obtain ⟨b15, h⟩ := h
        refine es_ast C hP hS (es_wX_17 a cI cZ N S14) (es_rX_17 a cI cZ N S14) (t0 := 0) rfl b15 dX4_put_70 (fun S16 eS16 H locs hP hS => ?_)
        replace h := es_lt_e eS16 h
        refine lv_aload_n hx hb dX4_put_71 rfl (lv_at hl 0 rfl) ?_
        refine lv_dup hx hb dX4_put_72 rfl ?_
        refine es_get C hP (es_wX_2 a cI cZ N S16) rfl inlX4 (j := 8) (by decide) es_u16_4 rfl dX4_put_73 ?_
        refine lv_iconst (v := 1) hx hb dX4_put_76 (by decide) ?_
        refine lv_iadd hx hb dX4_put_77 ?_
        refine lv_topi (fun v17 ev17 => ?_)
        replace h := es_lt_e ev17 h
        refine es_put C hP hS (es_wX_2 a cI cZ N S16) rfl inlX4 tyX4_ok nmX4 (j := 8) (by decide) es_u16_4 rfl (tyX4_ok 8 (by decide)) rfl rfl (by simp) (es_sX_8 a cI cZ N S16 v17) dX4_put_78 (fun S18 eS18 H locs hP hS => ?_)
        replace h := es_lt_e eS18 h
        exact J81  x1 x2 S18 _ _ _ h hP hS (lv_sub hl [0, 1, 2] rfl)
  unfold f_X4_put at h
  refine lv_aload_n hx hb dX4_put_0 rfl (lv_at hl 0 rfl) ?_
  refine es_get C hP (es_wX_2 a cI cZ N S) rfl inlX4 (j := 7) (by decide) es_u16_0 rfl dX4_put_1 ?_
  refine lv_if_eq (tgt := 32) hx hb dX4_put_4 (by decide) (fun c1 => ?_) (fun c1 => ?_)
  · replace h := es_if_t c1 h
    exact J32  p1 p2 S _ _ _ h hP hS (lv_sub hl [0, 1, 2] rfl)
  · replace h := es_if_f c1 h
    refine lv_aload_n hx hb dX4_put_7 rfl (lv_at hl 0 rfl) ?_
    refine es_get C hP (es_wX_2 a cI cZ N S) rfl inlX4 (j := 1) (by decide) es_u16_3 rfl dX4_put_8 ?_
    refine lv_if_le (tgt := 32) hx hb dX4_put_11 (by decide) (fun c19 => ?_) (fun c19 => ?_)
    · replace h := es_if_t c19 h
      exact J32  p1 p2 S _ _ _ h hP hS (lv_sub hl [0, 1, 2] rfl)
    · replace h := es_if_f c19 h
      refine lv_iload_n hx hb dX4_put_14 rfl (lv_at hl 1 rfl) ?_
      refine lv_aload_n hx hb dX4_put_15 rfl (lv_at hl 0 rfl) ?_
      refine es_get C hP (es_wX_2 a cI cZ N S) rfl inlX4 (j := 2) (by decide) es_u18_6 rfl dX4_put_16 ?_
      refine lv_icmp_ne (tgt := 32) hx hb dX4_put_19 (by decide) (fun c20 => ?_) (fun c20 => ?_)
      · replace h := es_if_t c20 h
        exact J32  p1 p2 S _ _ _ h hP hS (lv_sub hl [0, 1, 2] rfl)
      · replace h := es_if_f (fun q => q c20) h
        refine lv_iload_n hx hb dX4_put_22 rfl (lv_at hl 2 rfl) ?_
        refine lv_aload_n hx hb dX4_put_23 rfl (lv_at hl 0 rfl) ?_
        refine es_get C hP (es_wX_2 a cI cZ N S) rfl inlX4 (j := 3) (by decide) es_u18_7 rfl dX4_put_24 ?_
        refine lv_icmp_ne (tgt := 32) hx hb dX4_put_27 (by decide) (fun c21 => ?_) (fun c21 => ?_)
        · replace h := es_if_t c21 h
          exact J32  p1 p2 S _ _ _ h hP hS (lv_sub hl [0, 1, 2] rfl)
        · replace h := es_if_f (fun q => q c21) h
          refine lv_iconst (v := 1) hx hb dX4_put_30 (by decide) ?_
          exact es_zret C hr hlk ⟨rfl, rfl⟩ h hP hS dX4_put_31
