set_option maxRecDepth 100000 in
theorem lw_u1_0 : Cond.classLink RL 7 RX7 ∈ lw_tbl := List.mem_append_right _ (List.mem_append_left _ (List.mem_of_getElem? (i := 11) rfl))
set_option maxRecDepth 100000 in
theorem lw_u1_1 : Cond.instantiable RX7 8 ∈ lw_tbl := List.mem_append_right _ (List.mem_append_left _ (List.mem_of_getElem? (i := 12) rfl))
set_option maxRecDepth 100000 in
theorem lw_u1_2 : Cond.initialized RX7 ∈ lw_tbl := List.mem_append_right _ (List.mem_append_left _ (List.mem_of_getElem? (i := 1) rfl))
set_option maxRecDepth 100000 in
theorem lw_u1_3 : Cond.classLink RL 18 RX8 ∈ lw_tbl := List.mem_append_right _ (List.mem_append_right _ (List.mem_append_right _ (List.mem_append_left _ (List.mem_of_getElem? (i := 205) rfl))))
set_option maxRecDepth 100000 in
theorem lw_u1_4 : Cond.instantiable RX8 37 ∈ lw_tbl := List.mem_append_right _ (List.mem_append_right _ (List.mem_append_right _ (List.mem_append_left _ (List.mem_of_getElem? (i := 206) rfl))))
set_option maxRecDepth 100000 in
theorem lw_u1_5 : Cond.initialized RX8 ∈ lw_tbl := List.mem_append_right _ (List.mem_append_left _ (List.mem_of_getElem? (i := 10) rfl))
set_option maxRecDepth 100000 in
theorem lw_u1_6 : Cond.methodLink RL 9 yL_cell ∈ lw_tbl := List.mem_append_right _ (List.mem_append_right _ (List.mem_append_right _ (List.mem_append_left _ (List.mem_of_getElem? (i := 202) rfl))))
set_option maxRecDepth 100000 in
theorem lw_u1_7 : Cond.static yL_cell ∈ lw_tbl := List.mem_append_right _ (List.mem_append_right _ (List.mem_append_right _ (List.mem_append_left _ (List.mem_of_getElem? (i := 203) rfl))))
set_option maxRecDepth 100000 in
theorem lw_u1_8 : Cond.initialized RL ∈ lw_tbl := List.mem_append_right _ (List.mem_append_left _ (List.mem_of_getElem? (i := 0) rfl))
set_option maxRecDepth 100000 in
theorem lw_u1_9 : Cond.code yL_cell cL_cell 2 (some .int) ∈ lw_tbl := List.mem_append_right _ (List.mem_append_right _ (List.mem_append_right _ (List.mem_append_left _ (List.mem_of_getElem? (i := 204) rfl))))
set_option maxRecDepth 100000 in
theorem lw_u1_10 : Cond.methodLink RL 15 yX7_init ∈ lw_tbl := List.mem_append_right _ (List.mem_append_left _ (List.mem_of_getElem? (i := 13) rfl))
set_option maxRecDepth 100000 in
theorem lw_u1_11 : Cond.instanceMethod yX7_init ∈ lw_tbl := List.mem_append_right _ (List.mem_append_left _ (List.mem_of_getElem? (i := 14) rfl))
set_option maxRecDepth 100000 in
theorem lw_u1_12 : Cond.code yX7_init cX7_init 6 none ∈ lw_tbl := List.mem_append_right _ (List.mem_append_left _ (List.mem_of_getElem? (i := 15) rfl))
set_option maxRecDepth 100000 in
theorem lw_u1_13 : Cond.methodLink RX7 3 objectInit ∈ lw_tbl := List.mem_append_right _ (List.mem_append_left _ (List.mem_of_getElem? (i := 16) rfl))
set_option maxRecDepth 100000 in
theorem lw_u1_14 : Cond.instanceMethod objectInit ∈ lw_tbl := List.mem_append_right _ (List.mem_append_left _ (List.mem_of_getElem? (i := 17) rfl))
set_option maxRecDepth 100000 in
theorem lw_u1_15 : Cond.code objectInit ⟨#[0xb1]⟩ 1 none ∈ lw_tbl := List.mem_append_right _ (List.mem_append_left _ (List.mem_of_getElem? (i := 18) rfl))
set_option maxRecDepth 100000 in
theorem lw_u1_16 : Cond.arrayClass .int ∈ lw_tbl := List.mem_append_right _ (List.mem_append_left _ (List.mem_of_getElem? (i := 61) rfl))
set_option maxRecDepth 100000 in
theorem lw_u1_17 : Cond.fieldLink RX7 9 "ExternalSort" "fileHead" "[I" ∈ lw_tbl := List.mem_append_right _ (List.mem_append_right _ (List.mem_append_left _ (List.mem_of_getElem? (i := 58) rfl)))
set_option maxRecDepth 100000 in
theorem lw_u1_18 : Cond.fieldLink RX7 13 "ExternalSort" "fileCount" "[I" ∈ lw_tbl := List.mem_append_right _ (List.mem_append_right _ (List.mem_append_left _ (List.mem_of_getElem? (i := 59) rfl)))
set_option maxRecDepth 100000 in
theorem lw_u1_19 : Cond.methodLink RX7 16 Lib.Math.min.name ∈ lw_tbl := List.mem_append_right _ (List.mem_append_left _ (List.mem_of_getElem? (i := 19) rfl))
set_option maxRecDepth 100000 in
theorem lw_u1_20 : Cond.static Lib.Math.min.name ∈ lw_tbl := List.mem_append_right _ (List.mem_append_left _ (List.mem_of_getElem? (i := 20) rfl))
set_option maxRecDepth 100000 in
theorem lw_u1_21 : Cond.initialized "java/lang/Math" ∈ lw_tbl := List.mem_append_right _ (List.mem_append_left _ (List.mem_of_getElem? (i := 2) rfl))
set_option maxRecDepth 100000 in
theorem lw_u1_22 : Cond.code Lib.Math.min.name Lib.Math.min.code 2 (some .int) ∈ lw_tbl := List.mem_append_right _ (List.mem_append_left _ (List.mem_of_getElem? (i := 21) rfl))
set_option maxRecDepth 100000 in
theorem lw_u1_23 : Cond.methodLink RX7 22 Lib.Math.max.name ∈ lw_tbl := List.mem_append_right _ (List.mem_append_left _ (List.mem_of_getElem? (i := 22) rfl))
theorem lw_ru1 : ∀ w ∈ wsL_law_r1, w ∈ lw_tbl := List.forall_mem_cons.mpr ⟨lw_u1_0, List.forall_mem_cons.mpr ⟨lw_u1_1, List.forall_mem_cons.mpr ⟨lw_u1_2, List.forall_mem_cons.mpr ⟨lw_u1_3, List.forall_mem_cons.mpr ⟨lw_u1_4, List.forall_mem_cons.mpr ⟨lw_u1_5, List.forall_mem_cons.mpr ⟨lw_u1_6, List.forall_mem_cons.mpr ⟨lw_u1_7, List.forall_mem_cons.mpr ⟨lw_u1_8, List.forall_mem_cons.mpr ⟨lw_u1_9, List.forall_mem_cons.mpr ⟨lw_u1_10, List.forall_mem_cons.mpr ⟨lw_u1_11, List.forall_mem_cons.mpr ⟨lw_u1_12, List.forall_mem_cons.mpr ⟨lw_u1_13, List.forall_mem_cons.mpr ⟨lw_u1_14, List.forall_mem_cons.mpr ⟨lw_u1_15, List.forall_mem_cons.mpr ⟨lw_u1_16, List.forall_mem_cons.mpr ⟨lw_u1_17, List.forall_mem_cons.mpr ⟨lw_u1_18, List.forall_mem_cons.mpr ⟨lw_u1_19, List.forall_mem_cons.mpr ⟨lw_u1_20, List.forall_mem_cons.mpr ⟨lw_u1_21, List.forall_mem_cons.mpr ⟨lw_u1_22, List.forall_mem_cons.mpr ⟨lw_u1_23, fun _ h => absurd h List.not_mem_nil⟩⟩⟩⟩⟩⟩⟩⟩⟩⟩⟩⟩⟩⟩⟩⟩⟩⟩⟩⟩⟩⟩⟩⟩
set_option maxRecDepth 100000 in
theorem lw_u2_0 : Cond.static Lib.Math.max.name ∈ lw_tbl := List.mem_append_right _ (List.mem_append_left _ (List.mem_of_getElem? (i := 23) rfl))
set_option maxRecDepth 100000 in
theorem lw_u2_1 : Cond.code Lib.Math.max.name Lib.Math.max.code 2 (some .int) ∈ lw_tbl := List.mem_append_right _ (List.mem_append_left _ (List.mem_of_getElem? (i := 24) rfl))
set_option maxRecDepth 100000 in
theorem lw_u2_2 : Cond.classLink RX7 25 RX6 ∈ lw_tbl := List.mem_append_right _ (List.mem_append_left _ (List.mem_of_getElem? (i := 25) rfl))
set_option maxRecDepth 100000 in
theorem lw_u2_3 : Cond.instantiable RX6 6 ∈ lw_tbl := List.mem_append_right _ (List.mem_append_left _ (List.mem_of_getElem? (i := 26) rfl))
set_option maxRecDepth 100000 in
theorem lw_u2_4 : Cond.initialized RX6 ∈ lw_tbl := List.mem_append_right _ (List.mem_append_left _ (List.mem_of_getElem? (i := 3) rfl))
set_option maxRecDepth 100000 in
theorem lw_u2_5 : Cond.fieldLink RX7 30 "ExternalSort" "pending" "LExternalSort$Tally;" ∈ lw_tbl := List.mem_append_right _ (List.mem_append_right _ (List.mem_append_left _ (List.mem_of_getElem? (i := 56) rfl)))
set_option maxRecDepth 100000 in
theorem lw_u2_6 : Cond.fieldLink RX7 34 "ExternalSort" "latest" "LExternalSort$Tally;" ∈ lw_tbl := List.mem_append_right _ (List.mem_append_right _ (List.mem_append_left _ (List.mem_of_getElem? (i := 57) rfl)))
set_option maxRecDepth 100000 in
theorem lw_u2_7 : Cond.classLink RX7 37 RX0 ∈ lw_tbl := List.mem_append_right _ (List.mem_append_left _ (List.mem_of_getElem? (i := 62) rfl))
set_option maxRecDepth 100000 in
theorem lw_u2_8 : Cond.instantiable RX0 9 ∈ lw_tbl := List.mem_append_right _ (List.mem_append_left _ (List.mem_of_getElem? (i := 63) rfl))
set_option maxRecDepth 100000 in
theorem lw_u2_9 : Cond.initialized RX0 ∈ lw_tbl := List.mem_append_right _ (List.mem_append_left _ (List.mem_of_getElem? (i := 4) rfl))
set_option maxRecDepth 100000 in
theorem lw_u2_10 : Cond.fieldLink RX7 42 "ExternalSort" "disk" "LExternalSort$Disk;" ∈ lw_tbl := List.mem_append_right _ (List.mem_append_right _ (List.mem_append_left _ (List.mem_of_getElem? (i := 52) rfl)))
set_option maxRecDepth 100000 in
theorem lw_u2_11 : Cond.classLink RX7 46 RX4 ∈ lw_tbl := List.mem_append_right _ (List.mem_append_left _ (List.mem_of_getElem? (i := 109) rfl))
set_option maxRecDepth 100000 in
theorem lw_u2_12 : Cond.instantiable RX4 10 ∈ lw_tbl := List.mem_append_right _ (List.mem_append_left _ (List.mem_of_getElem? (i := 110) rfl))
set_option maxRecDepth 100000 in
theorem lw_u2_13 : Cond.initialized RX4 ∈ lw_tbl := List.mem_append_right _ (List.mem_append_left _ (List.mem_of_getElem? (i := 5) rfl))
set_option maxRecDepth 100000 in
theorem lw_u2_14 : Cond.fieldLink RX7 51 "ExternalSort" "output" "LExternalSort$Output;" ∈ lw_tbl := List.mem_append_right _ (List.mem_append_right _ (List.mem_append_left _ (List.mem_of_getElem? (i := 53) rfl)))
set_option maxRecDepth 100000 in
theorem lw_u2_15 : Cond.classLink RX7 55 RX5 ∈ lw_tbl := List.mem_append_right _ (List.mem_append_left _ (List.mem_of_getElem? (i := 152) rfl))
set_option maxRecDepth 100000 in
theorem lw_u2_16 : Cond.instantiable RX5 12 ∈ lw_tbl := List.mem_append_right _ (List.mem_append_left _ (List.mem_of_getElem? (i := 153) rfl))
set_option maxRecDepth 100000 in
theorem lw_u2_17 : Cond.initialized RX5 ∈ lw_tbl := List.mem_append_right _ (List.mem_append_left _ (List.mem_of_getElem? (i := 6) rfl))
set_option maxRecDepth 100000 in
theorem lw_u2_18 : Cond.fieldLink RX7 60 "ExternalSort" "sorter" "LExternalSort$Sorter;" ∈ lw_tbl := List.mem_append_right _ (List.mem_append_right _ (List.mem_append_left _ (List.mem_of_getElem? (i := 54) rfl)))
set_option maxRecDepth 100000 in
theorem lw_u2_19 : Cond.classLink RX7 64 RX2 ∈ lw_tbl := List.mem_append_right _ (List.mem_append_right _ (List.mem_append_left _ (List.mem_of_getElem? (i := 15) rfl)))
set_option maxRecDepth 100000 in
theorem lw_u2_20 : Cond.instantiable RX2 10 ∈ lw_tbl := List.mem_append_right _ (List.mem_append_right _ (List.mem_append_left _ (List.mem_of_getElem? (i := 16) rfl)))
set_option maxRecDepth 100000 in
theorem lw_u2_21 : Cond.initialized RX2 ∈ lw_tbl := List.mem_append_right _ (List.mem_append_left _ (List.mem_of_getElem? (i := 9) rfl))
set_option maxRecDepth 100000 in
theorem lw_u2_22 : Cond.fieldLink RX7 67 "ExternalSort" "joiner" "LExternalSort$Joiner;" ∈ lw_tbl := List.mem_append_right _ (List.mem_append_right _ (List.mem_append_left _ (List.mem_of_getElem? (i := 55) rfl)))
set_option maxRecDepth 100000 in
theorem lw_u2_23 : Cond.methodLink RX7 27 yX6_init ∈ lw_tbl := List.mem_append_right _ (List.mem_append_left _ (List.mem_of_getElem? (i := 27) rfl))
theorem lw_ru2 : ∀ w ∈ wsL_law_r2, w ∈ lw_tbl := List.forall_mem_cons.mpr ⟨lw_u2_0, List.forall_mem_cons.mpr ⟨lw_u2_1, List.forall_mem_cons.mpr ⟨lw_u2_2, List.forall_mem_cons.mpr ⟨lw_u2_3, List.forall_mem_cons.mpr ⟨lw_u2_4, List.forall_mem_cons.mpr ⟨lw_u2_5, List.forall_mem_cons.mpr ⟨lw_u2_6, List.forall_mem_cons.mpr ⟨lw_u2_7, List.forall_mem_cons.mpr ⟨lw_u2_8, List.forall_mem_cons.mpr ⟨lw_u2_9, List.forall_mem_cons.mpr ⟨lw_u2_10, List.forall_mem_cons.mpr ⟨lw_u2_11, List.forall_mem_cons.mpr ⟨lw_u2_12, List.forall_mem_cons.mpr ⟨lw_u2_13, List.forall_mem_cons.mpr ⟨lw_u2_14, List.forall_mem_cons.mpr ⟨lw_u2_15, List.forall_mem_cons.mpr ⟨lw_u2_16, List.forall_mem_cons.mpr ⟨lw_u2_17, List.forall_mem_cons.mpr ⟨lw_u2_18, List.forall_mem_cons.mpr ⟨lw_u2_19, List.forall_mem_cons.mpr ⟨lw_u2_20, List.forall_mem_cons.mpr ⟨lw_u2_21, List.forall_mem_cons.mpr ⟨lw_u2_22, List.forall_mem_cons.mpr ⟨lw_u2_23, fun _ h => absurd h List.not_mem_nil⟩⟩⟩⟩⟩⟩⟩⟩⟩⟩⟩⟩⟩⟩⟩⟩⟩⟩⟩⟩⟩⟩⟩⟩
set_option maxRecDepth 100000 in
theorem lw_u3_0 : Cond.instanceMethod yX6_init ∈ lw_tbl := List.mem_append_right _ (List.mem_append_left _ (List.mem_of_getElem? (i := 28) rfl))
set_option maxRecDepth 100000 in
theorem lw_u3_1 : Cond.code yX6_init cX6_init 2 none ∈ lw_tbl := List.mem_append_right _ (List.mem_append_left _ (List.mem_of_getElem? (i := 29) rfl))
set_option maxRecDepth 100000 in
theorem lw_u3_2 : Cond.methodLink RX6 3 objectInit ∈ lw_tbl := List.mem_append_right _ (List.mem_append_left _ (List.mem_of_getElem? (i := 30) rfl))
set_option maxRecDepth 100000 in
theorem lw_u3_3 : Cond.methodLink RX6 9 Lib.Math.max.name ∈ lw_tbl := List.mem_append_right _ (List.mem_append_left _ (List.mem_of_getElem? (i := 31) rfl))
set_option maxRecDepth 100000 in
theorem lw_u3_4 : Cond.fieldLink RX6 15 "ExternalSort$Tally" "lengths" "[I" ∈ lw_tbl := List.mem_append_right _ (List.mem_append_left _ (List.mem_of_getElem? (i := 47) rfl))
set_option maxRecDepth 100000 in
theorem lw_u3_5 : Cond.methodLink RX7 39 yX0_init ∈ lw_tbl := List.mem_append_right _ (List.mem_append_left _ (List.mem_of_getElem? (i := 64) rfl))
set_option maxRecDepth 100000 in
theorem lw_u3_6 : Cond.instanceMethod yX0_init ∈ lw_tbl := List.mem_append_right _ (List.mem_append_left _ (List.mem_of_getElem? (i := 65) rfl))
set_option maxRecDepth 100000 in
theorem lw_u3_7 : Cond.code yX0_init cX0_init 5 none ∈ lw_tbl := List.mem_append_right _ (List.mem_append_left _ (List.mem_of_getElem? (i := 66) rfl))
set_option maxRecDepth 100000 in
theorem lw_u3_8 : Cond.methodLink RX0 3 objectInit ∈ lw_tbl := List.mem_append_right _ (List.mem_append_left _ (List.mem_of_getElem? (i := 67) rfl))
set_option maxRecDepth 100000 in
theorem lw_u3_9 : Cond.methodLink RX0 9 Lib.Math.max.name ∈ lw_tbl := List.mem_append_right _ (List.mem_append_left _ (List.mem_of_getElem? (i := 68) rfl))
set_option maxRecDepth 100000 in
theorem lw_u3_10 : Cond.fieldLink RX0 15 "ExternalSort$Disk" "pages" "I" ∈ lw_tbl := List.mem_append_right _ (List.mem_append_left _ (List.mem_of_getElem? (i := 69) rfl))
set_option maxRecDepth 100000 in
theorem lw_u3_11 : Cond.fieldLink RX0 21 "ExternalSort$Disk" "records" "I" ∈ lw_tbl := List.mem_append_right _ (List.mem_append_left _ (List.mem_of_getElem? (i := 74) rfl))
set_option maxRecDepth 100000 in
theorem lw_u3_12 : Cond.fieldLink RX0 24 "ExternalSort$Disk" "tally" "LExternalSort$Tally;" ∈ lw_tbl := List.mem_append_right _ (List.mem_append_left _ (List.mem_of_getElem? (i := 79) rfl))
set_option maxRecDepth 100000 in
theorem lw_u3_13 : Cond.fieldLink RX0 28 "ExternalSort$Disk" "keys" "[I" ∈ lw_tbl := List.mem_append_right _ (List.mem_append_left _ (List.mem_of_getElem? (i := 84) rfl))
set_option maxRecDepth 100000 in
theorem lw_u3_14 : Cond.fieldLink RX0 32 "ExternalSort$Disk" "tags" "[I" ∈ lw_tbl := List.mem_append_right _ (List.mem_append_left _ (List.mem_of_getElem? (i := 85) rfl))
set_option maxRecDepth 100000 in
theorem lw_u3_15 : Cond.fieldLink RX0 35 "ExternalSort$Disk" "owner" "[I" ∈ lw_tbl := List.mem_append_right _ (List.mem_append_left _ (List.mem_of_getElem? (i := 86) rfl))
set_option maxRecDepth 100000 in
theorem lw_u3_16 : Cond.fieldLink RX0 38 "ExternalSort$Disk" "follower" "[I" ∈ lw_tbl := List.mem_append_right _ (List.mem_append_left _ (List.mem_of_getElem? (i := 87) rfl))
set_option maxRecDepth 100000 in
theorem lw_u3_17 : Cond.fieldLink RX0 41 "ExternalSort$Disk" "free" "[I" ∈ lw_tbl := List.mem_append_right _ (List.mem_append_left _ (List.mem_of_getElem? (i := 88) rfl))
set_option maxRecDepth 100000 in
theorem lw_u3_18 : Cond.fieldLink RX0 44 "ExternalSort$Disk" "freeCount" "I" ∈ lw_tbl := List.mem_append_right _ (List.mem_append_left _ (List.mem_of_getElem? (i := 89) rfl))
set_option maxRecDepth 100000 in
theorem lw_u3_19 : Cond.methodLink RX7 48 yX4_init ∈ lw_tbl := List.mem_append_right _ (List.mem_append_left _ (List.mem_of_getElem? (i := 111) rfl))
set_option maxRecDepth 100000 in
theorem lw_u3_20 : Cond.instanceMethod yX4_init ∈ lw_tbl := List.mem_append_right _ (List.mem_append_left _ (List.mem_of_getElem? (i := 112) rfl))
set_option maxRecDepth 100000 in
theorem lw_u3_21 : Cond.code yX4_init cX4_init 2 none ∈ lw_tbl := List.mem_append_right _ (List.mem_append_left _ (List.mem_of_getElem? (i := 113) rfl))
set_option maxRecDepth 100000 in
theorem lw_u3_22 : Cond.methodLink RX4 3 objectInit ∈ lw_tbl := List.mem_append_right _ (List.mem_append_left _ (List.mem_of_getElem? (i := 114) rfl))
set_option maxRecDepth 100000 in
theorem lw_u3_23 : Cond.fieldLink RX4 9 "ExternalSort$Output" "disk" "LExternalSort$Disk;" ∈ lw_tbl := List.mem_append_right _ (List.mem_append_left _ (List.mem_of_getElem? (i := 125) rfl))
theorem lw_ru3 : ∀ w ∈ wsL_law_r3, w ∈ lw_tbl := List.forall_mem_cons.mpr ⟨lw_u3_0, List.forall_mem_cons.mpr ⟨lw_u3_1, List.forall_mem_cons.mpr ⟨lw_u3_2, List.forall_mem_cons.mpr ⟨lw_u3_3, List.forall_mem_cons.mpr ⟨lw_u3_4, List.forall_mem_cons.mpr ⟨lw_u3_5, List.forall_mem_cons.mpr ⟨lw_u3_6, List.forall_mem_cons.mpr ⟨lw_u3_7, List.forall_mem_cons.mpr ⟨lw_u3_8, List.forall_mem_cons.mpr ⟨lw_u3_9, List.forall_mem_cons.mpr ⟨lw_u3_10, List.forall_mem_cons.mpr ⟨lw_u3_11, List.forall_mem_cons.mpr ⟨lw_u3_12, List.forall_mem_cons.mpr ⟨lw_u3_13, List.forall_mem_cons.mpr ⟨lw_u3_14, List.forall_mem_cons.mpr ⟨lw_u3_15, List.forall_mem_cons.mpr ⟨lw_u3_16, List.forall_mem_cons.mpr ⟨lw_u3_17, List.forall_mem_cons.mpr ⟨lw_u3_18, List.forall_mem_cons.mpr ⟨lw_u3_19, List.forall_mem_cons.mpr ⟨lw_u3_20, List.forall_mem_cons.mpr ⟨lw_u3_21, List.forall_mem_cons.mpr ⟨lw_u3_22, List.forall_mem_cons.mpr ⟨lw_u3_23, fun _ h => absurd h List.not_mem_nil⟩⟩⟩⟩⟩⟩⟩⟩⟩⟩⟩⟩⟩⟩⟩⟩⟩⟩⟩⟩⟩⟩⟩⟩
set_option maxRecDepth 100000 in
theorem lw_u4_0 : Cond.fieldLink RX4 15 "ExternalSort$Disk" "records" "I" ∈ lw_tbl := List.mem_append_right _ (List.mem_append_left _ (List.mem_of_getElem? (i := 73) rfl))
set_option maxRecDepth 100000 in
theorem lw_u4_1 : Cond.fieldLink RX4 21 "ExternalSort$Output" "keys" "[I" ∈ lw_tbl := List.mem_append_right _ (List.mem_append_left _ (List.mem_of_getElem? (i := 126) rfl))
set_option maxRecDepth 100000 in
theorem lw_u4_2 : Cond.fieldLink RX4 25 "ExternalSort$Output" "tags" "[I" ∈ lw_tbl := List.mem_append_right _ (List.mem_append_left _ (List.mem_of_getElem? (i := 127) rfl))
set_option maxRecDepth 100000 in
theorem lw_u4_3 : Cond.methodLink RX7 57 yX5_init ∈ lw_tbl := List.mem_append_right _ (List.mem_append_left _ (List.mem_of_getElem? (i := 154) rfl))
set_option maxRecDepth 100000 in
theorem lw_u4_4 : Cond.instanceMethod yX5_init ∈ lw_tbl := List.mem_append_right _ (List.mem_append_left _ (List.mem_of_getElem? (i := 155) rfl))
set_option maxRecDepth 100000 in
theorem lw_u4_5 : Cond.code yX5_init cX5_init 3 none ∈ lw_tbl := List.mem_append_right _ (List.mem_append_left _ (List.mem_of_getElem? (i := 156) rfl))
set_option maxRecDepth 100000 in
theorem lw_u4_6 : Cond.methodLink RX5 3 objectInit ∈ lw_tbl := List.mem_append_right _ (List.mem_append_left _ (List.mem_of_getElem? (i := 157) rfl))
set_option maxRecDepth 100000 in
theorem lw_u4_7 : Cond.fieldLink RX5 9 "ExternalSort$Sorter" "disk" "LExternalSort$Disk;" ∈ lw_tbl := List.mem_append_right _ (List.mem_append_left _ (List.mem_of_getElem? (i := 220) rfl))
set_option maxRecDepth 100000 in
theorem lw_u4_8 : Cond.fieldLink RX5 15 "ExternalSort$Sorter" "output" "LExternalSort$Output;" ∈ lw_tbl := List.mem_append_right _ (List.mem_append_left _ (List.mem_of_getElem? (i := 221) rfl))
set_option maxRecDepth 100000 in
theorem lw_u4_9 : Cond.classLink RX5 19 RX1 ∈ lw_tbl := List.mem_append_right _ (List.mem_append_left _ (List.mem_of_getElem? (i := 158) rfl))
set_option maxRecDepth 100000 in
theorem lw_u4_10 : Cond.instantiable RX1 7 ∈ lw_tbl := List.mem_append_right _ (List.mem_append_left _ (List.mem_of_getElem? (i := 159) rfl))
set_option maxRecDepth 100000 in
theorem lw_u4_11 : Cond.initialized RX1 ∈ lw_tbl := List.mem_append_right _ (List.mem_append_left _ (List.mem_of_getElem? (i := 7) rfl))
set_option maxRecDepth 100000 in
theorem lw_u4_12 : Cond.fieldLink RX5 24 "ExternalSort$Sorter" "inputs" "LExternalSort$Inputs;" ∈ lw_tbl := List.mem_append_right _ (List.mem_append_left _ (List.mem_of_getElem? (i := 222) rfl))
set_option maxRecDepth 100000 in
theorem lw_u4_13 : Cond.classLink RX5 28 RX3 ∈ lw_tbl := List.mem_append_right _ (List.mem_append_left _ (List.mem_of_getElem? (i := 186) rfl))
set_option maxRecDepth 100000 in
theorem lw_u4_14 : Cond.instantiable RX3 7 ∈ lw_tbl := List.mem_append_right _ (List.mem_append_left _ (List.mem_of_getElem? (i := 187) rfl))
set_option maxRecDepth 100000 in
theorem lw_u4_15 : Cond.initialized RX3 ∈ lw_tbl := List.mem_append_right _ (List.mem_append_left _ (List.mem_of_getElem? (i := 8) rfl))
set_option maxRecDepth 100000 in
theorem lw_u4_16 : Cond.fieldLink RX5 30 "ExternalSort$Disk" "records" "I" ∈ lw_tbl := List.mem_append_right _ (List.mem_append_left _ (List.mem_of_getElem? (i := 76) rfl))
set_option maxRecDepth 100000 in
theorem lw_u4_17 : Cond.methodLink RX5 36 Lib.Math.max.name ∈ lw_tbl := List.mem_append_right _ (List.mem_append_left _ (List.mem_of_getElem? (i := 188) rfl))
set_option maxRecDepth 100000 in
theorem lw_u4_18 : Cond.fieldLink RX5 45 "ExternalSort$Sorter" "tree" "LExternalSort$LoserTree;" ∈ lw_tbl := List.mem_append_right _ (List.mem_append_left _ (List.mem_of_getElem? (i := 223) rfl))
set_option maxRecDepth 100000 in
theorem lw_u4_19 : Cond.fieldLink RX5 49 "ExternalSort$Disk" "pages" "I" ∈ lw_tbl := List.mem_append_right _ (List.mem_append_left _ (List.mem_of_getElem? (i := 71) rfl))
set_option maxRecDepth 100000 in
theorem lw_u4_20 : Cond.fieldLink RX5 52 "ExternalSort$Sorter" "runHead" "[I" ∈ lw_tbl := List.mem_append_right _ (List.mem_append_left _ (List.mem_of_getElem? (i := 224) rfl))
set_option maxRecDepth 100000 in
theorem lw_u4_21 : Cond.fieldLink RX5 56 "ExternalSort$Sorter" "runCount" "[I" ∈ lw_tbl := List.mem_append_right _ (List.mem_append_left _ (List.mem_of_getElem? (i := 225) rfl))
set_option maxRecDepth 100000 in
theorem lw_u4_22 : Cond.methodLink RX5 21 yX1_init ∈ lw_tbl := List.mem_append_right _ (List.mem_append_left _ (List.mem_of_getElem? (i := 160) rfl))
set_option maxRecDepth 100000 in
theorem lw_u4_23 : Cond.instanceMethod yX1_init ∈ lw_tbl := List.mem_append_right _ (List.mem_append_left _ (List.mem_of_getElem? (i := 161) rfl))
theorem lw_ru4 : ∀ w ∈ wsL_law_r4, w ∈ lw_tbl := List.forall_mem_cons.mpr ⟨lw_u4_0, List.forall_mem_cons.mpr ⟨lw_u4_1, List.forall_mem_cons.mpr ⟨lw_u4_2, List.forall_mem_cons.mpr ⟨lw_u4_3, List.forall_mem_cons.mpr ⟨lw_u4_4, List.forall_mem_cons.mpr ⟨lw_u4_5, List.forall_mem_cons.mpr ⟨lw_u4_6, List.forall_mem_cons.mpr ⟨lw_u4_7, List.forall_mem_cons.mpr ⟨lw_u4_8, List.forall_mem_cons.mpr ⟨lw_u4_9, List.forall_mem_cons.mpr ⟨lw_u4_10, List.forall_mem_cons.mpr ⟨lw_u4_11, List.forall_mem_cons.mpr ⟨lw_u4_12, List.forall_mem_cons.mpr ⟨lw_u4_13, List.forall_mem_cons.mpr ⟨lw_u4_14, List.forall_mem_cons.mpr ⟨lw_u4_15, List.forall_mem_cons.mpr ⟨lw_u4_16, List.forall_mem_cons.mpr ⟨lw_u4_17, List.forall_mem_cons.mpr ⟨lw_u4_18, List.forall_mem_cons.mpr ⟨lw_u4_19, List.forall_mem_cons.mpr ⟨lw_u4_20, List.forall_mem_cons.mpr ⟨lw_u4_21, List.forall_mem_cons.mpr ⟨lw_u4_22, List.forall_mem_cons.mpr ⟨lw_u4_23, fun _ h => absurd h List.not_mem_nil⟩⟩⟩⟩⟩⟩⟩⟩⟩⟩⟩⟩⟩⟩⟩⟩⟩⟩⟩⟩⟩⟩⟩⟩
set_option maxRecDepth 100000 in
theorem lw_u5_0 : Cond.code yX1_init cX1_init 2 none ∈ lw_tbl := List.mem_append_right _ (List.mem_append_left _ (List.mem_of_getElem? (i := 162) rfl))
set_option maxRecDepth 100000 in
theorem lw_u5_1 : Cond.methodLink RX1 3 objectInit ∈ lw_tbl := List.mem_append_right _ (List.mem_append_left _ (List.mem_of_getElem? (i := 163) rfl))
set_option maxRecDepth 100000 in
theorem lw_u5_2 : Cond.fieldLink RX1 11 "ExternalSort$Inputs" "nextPage" "[I" ∈ lw_tbl := List.mem_append_right _ (List.mem_append_left _ (List.mem_of_getElem? (i := 167) rfl))
set_option maxRecDepth 100000 in
theorem lw_u5_3 : Cond.fieldLink RX1 15 "ExternalSort$Inputs" "unread" "[I" ∈ lw_tbl := List.mem_append_right _ (List.mem_append_left _ (List.mem_of_getElem? (i := 168) rfl))
set_option maxRecDepth 100000 in
theorem lw_u5_4 : Cond.fieldLink RX1 18 "ExternalSort$Inputs" "at" "[I" ∈ lw_tbl := List.mem_append_right _ (List.mem_append_left _ (List.mem_of_getElem? (i := 169) rfl))
set_option maxRecDepth 100000 in
theorem lw_u5_5 : Cond.fieldLink RX1 21 "ExternalSort$Inputs" "filled" "[I" ∈ lw_tbl := List.mem_append_right _ (List.mem_append_left _ (List.mem_of_getElem? (i := 170) rfl))
set_option maxRecDepth 100000 in
theorem lw_u5_6 : Cond.fieldLink RX1 24 "ExternalSort$Inputs" "disk" "LExternalSort$Disk;" ∈ lw_tbl := List.mem_append_right _ (List.mem_append_left _ (List.mem_of_getElem? (i := 164) rfl))
set_option maxRecDepth 100000 in
theorem lw_u5_7 : Cond.fieldLink RX1 28 "ExternalSort$Disk" "records" "I" ∈ lw_tbl := List.mem_append_right _ (List.mem_append_left _ (List.mem_of_getElem? (i := 77) rfl))
set_option maxRecDepth 100000 in
theorem lw_u5_8 : Cond.fieldLink RX1 34 "ExternalSort$Inputs" "keys" "[I" ∈ lw_tbl := List.mem_append_right _ (List.mem_append_left _ (List.mem_of_getElem? (i := 165) rfl))
set_option maxRecDepth 100000 in
theorem lw_u5_9 : Cond.fieldLink RX1 37 "ExternalSort$Inputs" "tags" "[I" ∈ lw_tbl := List.mem_append_right _ (List.mem_append_left _ (List.mem_of_getElem? (i := 166) rfl))
set_option maxRecDepth 100000 in
theorem lw_u5_10 : Cond.methodLink RX5 42 yX3_init ∈ lw_tbl := List.mem_append_right _ (List.mem_append_left _ (List.mem_of_getElem? (i := 189) rfl))
set_option maxRecDepth 100000 in
theorem lw_u5_11 : Cond.instanceMethod yX3_init ∈ lw_tbl := List.mem_append_right _ (List.mem_append_left _ (List.mem_of_getElem? (i := 190) rfl))
set_option maxRecDepth 100000 in
theorem lw_u5_12 : Cond.code yX3_init cX3_init 3 none ∈ lw_tbl := List.mem_append_right _ (List.mem_append_left _ (List.mem_of_getElem? (i := 191) rfl))
set_option maxRecDepth 100000 in
theorem lw_u5_13 : Cond.methodLink RX3 5 objectInit ∈ lw_tbl := List.mem_append_right _ (List.mem_append_left _ (List.mem_of_getElem? (i := 192) rfl))
set_option maxRecDepth 100000 in
theorem lw_u5_14 : Cond.methodLink RX3 11 Lib.Math.max.name ∈ lw_tbl := List.mem_append_right _ (List.mem_append_left _ (List.mem_of_getElem? (i := 193) rfl))
set_option maxRecDepth 100000 in
theorem lw_u5_15 : Cond.fieldLink RX3 17 "ExternalSort$LoserTree" "rounds" "[I" ∈ lw_tbl := List.mem_append_right _ (List.mem_append_left _ (List.mem_of_getElem? (i := 194) rfl))
set_option maxRecDepth 100000 in
theorem lw_u5_16 : Cond.fieldLink RX3 23 "ExternalSort$LoserTree" "keys" "[I" ∈ lw_tbl := List.mem_append_right _ (List.mem_append_left _ (List.mem_of_getElem? (i := 195) rfl))
set_option maxRecDepth 100000 in
theorem lw_u5_17 : Cond.fieldLink RX3 26 "ExternalSort$LoserTree" "tags" "[I" ∈ lw_tbl := List.mem_append_right _ (List.mem_append_left _ (List.mem_of_getElem? (i := 196) rfl))
set_option maxRecDepth 100000 in
theorem lw_u5_18 : Cond.fieldLink RX3 29 "ExternalSort$LoserTree" "came" "[I" ∈ lw_tbl := List.mem_append_right _ (List.mem_append_left _ (List.mem_of_getElem? (i := 197) rfl))
set_option maxRecDepth 100000 in
theorem lw_u5_19 : Cond.fieldLink RX3 32 "ExternalSort$LoserTree" "losers" "[I" ∈ lw_tbl := List.mem_append_right _ (List.mem_append_left _ (List.mem_of_getElem? (i := 198) rfl))
set_option maxRecDepth 100000 in
theorem lw_u5_20 : Cond.methodLink RX7 66 yX2_init ∈ lw_tbl := List.mem_append_right _ (List.mem_append_right _ (List.mem_append_left _ (List.mem_of_getElem? (i := 17) rfl)))
set_option maxRecDepth 100000 in
theorem lw_u5_21 : Cond.instanceMethod yX2_init ∈ lw_tbl := List.mem_append_right _ (List.mem_append_right _ (List.mem_append_left _ (List.mem_of_getElem? (i := 18) rfl)))
set_option maxRecDepth 100000 in
theorem lw_u5_22 : Cond.code yX2_init cX2_init 3 none ∈ lw_tbl := List.mem_append_right _ (List.mem_append_right _ (List.mem_append_left _ (List.mem_of_getElem? (i := 19) rfl)))
set_option maxRecDepth 100000 in
theorem lw_u5_23 : Cond.methodLink RX2 3 objectInit ∈ lw_tbl := List.mem_append_right _ (List.mem_append_right _ (List.mem_append_left _ (List.mem_of_getElem? (i := 20) rfl)))
theorem lw_ru5 : ∀ w ∈ wsL_law_r5, w ∈ lw_tbl := List.forall_mem_cons.mpr ⟨lw_u5_0, List.forall_mem_cons.mpr ⟨lw_u5_1, List.forall_mem_cons.mpr ⟨lw_u5_2, List.forall_mem_cons.mpr ⟨lw_u5_3, List.forall_mem_cons.mpr ⟨lw_u5_4, List.forall_mem_cons.mpr ⟨lw_u5_5, List.forall_mem_cons.mpr ⟨lw_u5_6, List.forall_mem_cons.mpr ⟨lw_u5_7, List.forall_mem_cons.mpr ⟨lw_u5_8, List.forall_mem_cons.mpr ⟨lw_u5_9, List.forall_mem_cons.mpr ⟨lw_u5_10, List.forall_mem_cons.mpr ⟨lw_u5_11, List.forall_mem_cons.mpr ⟨lw_u5_12, List.forall_mem_cons.mpr ⟨lw_u5_13, List.forall_mem_cons.mpr ⟨lw_u5_14, List.forall_mem_cons.mpr ⟨lw_u5_15, List.forall_mem_cons.mpr ⟨lw_u5_16, List.forall_mem_cons.mpr ⟨lw_u5_17, List.forall_mem_cons.mpr ⟨lw_u5_18, List.forall_mem_cons.mpr ⟨lw_u5_19, List.forall_mem_cons.mpr ⟨lw_u5_20, List.forall_mem_cons.mpr ⟨lw_u5_21, List.forall_mem_cons.mpr ⟨lw_u5_22, List.forall_mem_cons.mpr ⟨lw_u5_23, fun _ h => absurd h List.not_mem_nil⟩⟩⟩⟩⟩⟩⟩⟩⟩⟩⟩⟩⟩⟩⟩⟩⟩⟩⟩⟩⟩⟩⟩⟩
set_option maxRecDepth 100000 in
theorem lw_u6_0 : Cond.fieldLink RX2 9 "ExternalSort$Joiner" "disk" "LExternalSort$Disk;" ∈ lw_tbl := List.mem_append_right _ (List.mem_append_right _ (List.mem_append_left _ (List.mem_of_getElem? (i := 21) rfl)))
set_option maxRecDepth 100000 in
theorem lw_u6_1 : Cond.fieldLink RX2 15 "ExternalSort$Joiner" "output" "LExternalSort$Output;" ∈ lw_tbl := List.mem_append_right _ (List.mem_append_right _ (List.mem_append_left _ (List.mem_of_getElem? (i := 22) rfl)))
set_option maxRecDepth 100000 in
theorem lw_u6_2 : Cond.fieldLink RX2 19 "ExternalSort$Disk" "pages" "I" ∈ lw_tbl := List.mem_append_right _ (List.mem_append_left _ (List.mem_of_getElem? (i := 70) rfl))
set_option maxRecDepth 100000 in
theorem lw_u6_3 : Cond.fieldLink RX2 25 "ExternalSort$Disk" "records" "I" ∈ lw_tbl := List.mem_append_right _ (List.mem_append_left _ (List.mem_of_getElem? (i := 75) rfl))
set_option maxRecDepth 100000 in
theorem lw_u6_4 : Cond.fieldLink RX2 28 "ExternalSort$Joiner" "keys" "[I" ∈ lw_tbl := List.mem_append_right _ (List.mem_append_right _ (List.mem_append_left _ (List.mem_of_getElem? (i := 23) rfl)))
set_option maxRecDepth 100000 in
theorem lw_u6_5 : Cond.fieldLink RX2 32 "ExternalSort$Joiner" "tags" "[I" ∈ lw_tbl := List.mem_append_right _ (List.mem_append_right _ (List.mem_append_left _ (List.mem_of_getElem? (i := 24) rfl)))
set_option maxRecDepth 100000 in
theorem lw_u6_6 : Cond.methodLink RL 20 yX8_init ∈ lw_tbl := List.mem_append_right _ (List.mem_append_right _ (List.mem_append_right _ (List.mem_append_left _ (List.mem_of_getElem? (i := 207) rfl))))
set_option maxRecDepth 100000 in
theorem lw_u6_7 : Cond.instanceMethod yX8_init ∈ lw_tbl := List.mem_append_right _ (List.mem_append_right _ (List.mem_append_right _ (List.mem_append_left _ (List.mem_of_getElem? (i := 208) rfl))))
set_option maxRecDepth 100000 in
theorem lw_u6_8 : Cond.code yX8_init cX8_init 3 none ∈ lw_tbl := List.mem_append_right _ (List.mem_append_right _ (List.mem_append_right _ (List.mem_append_left _ (List.mem_of_getElem? (i := 209) rfl))))
set_option maxRecDepth 100000 in
theorem lw_u6_9 : Cond.methodLink RX8 1 objectInit ∈ lw_tbl := List.mem_append_right _ (List.mem_append_right _ (List.mem_append_right _ (List.mem_append_left _ (List.mem_of_getElem? (i := 210) rfl))))
set_option maxRecDepth 100000 in
theorem lw_u6_10 : Cond.constant RX8 7 (49152) ∈ lw_tbl := List.mem_append_right _ (List.mem_append_right _ (List.mem_append_right _ (List.mem_append_left _ (List.mem_of_getElem? (i := 211) rfl))))
set_option maxRecDepth 100000 in
theorem lw_u6_11 : Cond.fieldLink RX8 8 "ExternalSortModel" "key" "[I" ∈ lw_tbl := List.mem_append_right _ (List.mem_append_right _ (List.mem_append_right _ (List.mem_append_left _ (List.mem_of_getElem? (i := 217) rfl))))
set_option maxRecDepth 100000 in
theorem lw_u6_12 : Cond.fieldLink RX8 14 "ExternalSortModel" "tag" "[I" ∈ lw_tbl := List.mem_append_right _ (List.mem_append_right _ (List.mem_append_right _ (List.mem_append_left _ (List.mem_of_getElem? (i := 218) rfl))))
set_option maxRecDepth 100000 in
theorem lw_u6_13 : Cond.fieldLink RX8 17 "ExternalSortModel" "many" "[I" ∈ lw_tbl := List.mem_append_right _ (List.mem_append_right _ (List.mem_append_right _ (List.mem_append_left _ (List.mem_of_getElem? (i := 219) rfl))))
set_option maxRecDepth 100000 in
theorem lw_u6_14 : Cond.fieldLink RX8 20 "ExternalSortModel" "runKey" "[I" ∈ lw_tbl := List.mem_append_right _ (List.mem_append_right _ (List.mem_append_right _ (List.mem_append_left _ (List.mem_of_getElem? (i := 227) rfl))))
set_option maxRecDepth 100000 in
theorem lw_u6_15 : Cond.fieldLink RX8 23 "ExternalSortModel" "runTag" "[I" ∈ lw_tbl := List.mem_append_right _ (List.mem_append_right _ (List.mem_append_right _ (List.mem_append_left _ (List.mem_of_getElem? (i := 228) rfl))))
set_option maxRecDepth 100000 in
theorem lw_u6_16 : Cond.fieldLink RX8 26 "ExternalSortModel" "start" "[I" ∈ lw_tbl := List.mem_append_right _ (List.mem_append_right _ (List.mem_append_right _ (List.mem_append_left _ (List.mem_of_getElem? (i := 231) rfl))))
set_option maxRecDepth 100000 in
theorem lw_u6_17 : Cond.fieldLink RX8 29 "ExternalSortModel" "firstRuns" "[I" ∈ lw_tbl := List.mem_append_right _ (List.mem_append_right _ (List.mem_append_right _ (List.mem_append_left _ (List.mem_of_getElem? (i := 232) rfl))))
set_option maxRecDepth 100000 in
theorem lw_u6_18 : Cond.fieldLink RX8 32 "ExternalSortModel" "memoryKey" "[I" ∈ lw_tbl := List.mem_append_right _ (List.mem_append_right _ (List.mem_append_right _ (List.mem_append_left _ (List.mem_of_getElem? (i := 234) rfl))))
set_option maxRecDepth 100000 in
theorem lw_u6_19 : Cond.fieldLink RX8 35 "ExternalSortModel" "memoryTag" "[I" ∈ lw_tbl := List.mem_append_right _ (List.mem_append_right _ (List.mem_append_right _ (List.mem_append_left _ (List.mem_of_getElem? (i := 235) rfl))))
set_option maxRecDepth 100000 in
theorem lw_u6_20 : Cond.fieldLink RX8 38 "ExternalSortModel" "memoryCame" "[I" ∈ lw_tbl := List.mem_append_right _ (List.mem_append_right _ (List.mem_append_right _ (List.mem_append_left _ (List.mem_of_getElem? (i := 236) rfl))))
set_option maxRecDepth 100000 in
theorem lw_u6_21 : Cond.arrayClass .boolean ∈ lw_tbl := List.mem_append_right _ (List.mem_append_right _ (List.mem_append_right _ (List.mem_append_right _ (List.mem_of_getElem? (i := 87) rfl))))
set_option maxRecDepth 100000 in
theorem lw_u6_22 : Cond.fieldLink RX8 41 "ExternalSortModel" "isNext" "[Z" ∈ lw_tbl := List.mem_append_right _ (List.mem_append_right _ (List.mem_append_right _ (List.mem_append_left _ (List.mem_of_getElem? (i := 237) rfl))))
set_option maxRecDepth 100000 in
theorem lw_u6_23 : Cond.fieldLink RX8 45 "ExternalSortModel" "told" "[I" ∈ lw_tbl := List.mem_append_right _ (List.mem_append_right _ (List.mem_append_right _ (List.mem_append_right _ (List.mem_of_getElem? (i := 1) rfl))))
theorem lw_ru6 : ∀ w ∈ wsL_law_r6, w ∈ lw_tbl := List.forall_mem_cons.mpr ⟨lw_u6_0, List.forall_mem_cons.mpr ⟨lw_u6_1, List.forall_mem_cons.mpr ⟨lw_u6_2, List.forall_mem_cons.mpr ⟨lw_u6_3, List.forall_mem_cons.mpr ⟨lw_u6_4, List.forall_mem_cons.mpr ⟨lw_u6_5, List.forall_mem_cons.mpr ⟨lw_u6_6, List.forall_mem_cons.mpr ⟨lw_u6_7, List.forall_mem_cons.mpr ⟨lw_u6_8, List.forall_mem_cons.mpr ⟨lw_u6_9, List.forall_mem_cons.mpr ⟨lw_u6_10, List.forall_mem_cons.mpr ⟨lw_u6_11, List.forall_mem_cons.mpr ⟨lw_u6_12, List.forall_mem_cons.mpr ⟨lw_u6_13, List.forall_mem_cons.mpr ⟨lw_u6_14, List.forall_mem_cons.mpr ⟨lw_u6_15, List.forall_mem_cons.mpr ⟨lw_u6_16, List.forall_mem_cons.mpr ⟨lw_u6_17, List.forall_mem_cons.mpr ⟨lw_u6_18, List.forall_mem_cons.mpr ⟨lw_u6_19, List.forall_mem_cons.mpr ⟨lw_u6_20, List.forall_mem_cons.mpr ⟨lw_u6_21, List.forall_mem_cons.mpr ⟨lw_u6_22, List.forall_mem_cons.mpr ⟨lw_u6_23, fun _ h => absurd h List.not_mem_nil⟩⟩⟩⟩⟩⟩⟩⟩⟩⟩⟩⟩⟩⟩⟩⟩⟩⟩⟩⟩⟩⟩⟩⟩
set_option maxRecDepth 100000 in
theorem lw_u7_0 : Cond.fieldLink RX8 48 "ExternalSortModel" "toldRuns" "[I" ∈ lw_tbl := List.mem_append_right _ (List.mem_append_right _ (List.mem_append_right _ (List.mem_append_right _ (List.mem_of_getElem? (i := 2) rfl))))
set_option maxRecDepth 100000 in
theorem lw_u7_1 : Cond.fieldLink RX8 51 "ExternalSortModel" "newStart" "[I" ∈ lw_tbl := List.mem_append_right _ (List.mem_append_right _ (List.mem_append_right _ (List.mem_append_right _ (List.mem_of_getElem? (i := 5) rfl))))
set_option maxRecDepth 100000 in
theorem lw_u7_2 : Cond.fieldLink RX8 54 "ExternalSortModel" "place" "[I" ∈ lw_tbl := List.mem_append_right _ (List.mem_append_right _ (List.mem_append_right _ (List.mem_append_right _ (List.mem_of_getElem? (i := 6) rfl))))
set_option maxRecDepth 100000 in
theorem lw_u7_3 : Cond.fieldLink RX8 57 "ExternalSortModel" "end" "[I" ∈ lw_tbl := List.mem_append_right _ (List.mem_append_right _ (List.mem_append_right _ (List.mem_append_right _ (List.mem_of_getElem? (i := 7) rfl))))
set_option maxRecDepth 100000 in
theorem lw_u7_4 : Cond.fieldLink RX8 60 "ExternalSortModel" "leftKey" "[I" ∈ lw_tbl := List.mem_append_right _ (List.mem_append_right _ (List.mem_append_right _ (List.mem_append_right _ (List.mem_of_getElem? (i := 8) rfl))))
set_option maxRecDepth 100000 in
theorem lw_u7_5 : Cond.fieldLink RX8 63 "ExternalSortModel" "leftTag" "[I" ∈ lw_tbl := List.mem_append_right _ (List.mem_append_right _ (List.mem_append_right _ (List.mem_append_right _ (List.mem_of_getElem? (i := 9) rfl))))
set_option maxRecDepth 100000 in
theorem lw_u7_6 : Cond.fieldLink RX8 66 "ExternalSortModel" "rightKey" "[I" ∈ lw_tbl := List.mem_append_right _ (List.mem_append_right _ (List.mem_append_right _ (List.mem_append_right _ (List.mem_of_getElem? (i := 10) rfl))))
set_option maxRecDepth 100000 in
theorem lw_u7_7 : Cond.fieldLink RX8 69 "ExternalSortModel" "rightTag" "[I" ∈ lw_tbl := List.mem_append_right _ (List.mem_append_right _ (List.mem_append_right _ (List.mem_append_right _ (List.mem_of_getElem? (i := 11) rfl))))
set_option maxRecDepth 100000 in
theorem lw_u7_8 : Cond.fieldLink RX8 76 "ExternalSortModel" "pages" "I" ∈ lw_tbl := List.mem_append_right _ (List.mem_append_right _ (List.mem_append_right _ (List.mem_append_left _ (List.mem_of_getElem? (i := 215) rfl))))
set_option maxRecDepth 100000 in
theorem lw_u7_9 : Cond.fieldLink RX8 80 "ExternalSortModel" "records" "I" ∈ lw_tbl := List.mem_append_right _ (List.mem_append_right _ (List.mem_append_right _ (List.mem_append_left _ (List.mem_of_getElem? (i := 216) rfl))))
set_option maxRecDepth 100000 in
theorem lw_u7_10 : Cond.methodLink RX8 72 yX8_within ∈ lw_tbl := List.mem_append_right _ (List.mem_append_right _ (List.mem_append_right _ (List.mem_append_left _ (List.mem_of_getElem? (i := 212) rfl))))
set_option maxRecDepth 100000 in
theorem lw_u7_11 : Cond.static yX8_within ∈ lw_tbl := List.mem_append_right _ (List.mem_append_right _ (List.mem_append_right _ (List.mem_append_left _ (List.mem_of_getElem? (i := 213) rfl))))
set_option maxRecDepth 100000 in
theorem lw_u7_12 : Cond.code yX8_within cX8_within 3 (some .int) ∈ lw_tbl := List.mem_append_right _ (List.mem_append_right _ (List.mem_append_right _ (List.mem_append_left _ (List.mem_of_getElem? (i := 214) rfl))))
set_option maxRecDepth 100000 in
theorem lw_u7_13 : Cond.methodLink RL 21 yX7_append ∈ lw_tbl := List.mem_append_right _ (List.mem_append_right _ (List.mem_append_left _ (List.mem_of_getElem? (i := 77) rfl)))
set_option maxRecDepth 100000 in
theorem lw_u7_14 : Cond.instanceMethod yX7_append ∈ lw_tbl := List.mem_append_right _ (List.mem_append_right _ (List.mem_append_left _ (List.mem_of_getElem? (i := 78) rfl)))
set_option maxRecDepth 100000 in
theorem lw_u7_15 : Cond.selects RX7 yX7_append yX7_append ∈ lw_tbl := List.mem_append_right _ (List.mem_append_right _ (List.mem_append_left _ (List.mem_of_getElem? (i := 79) rfl)))
set_option maxRecDepth 100000 in
theorem lw_u7_16 : Cond.code yX7_append cX7_append 7 (some .int) ∈ lw_tbl := List.mem_append_right _ (List.mem_append_right _ (List.mem_append_left _ (List.mem_of_getElem? (i := 80) rfl)))
set_option maxRecDepth 100000 in
theorem lw_u7_17 : Cond.methodLink RX7 71 yX7_isFile ∈ lw_tbl := List.mem_append_right _ (List.mem_append_right _ (List.mem_append_left _ (List.mem_of_getElem? (i := 81) rfl)))
set_option maxRecDepth 100000 in
theorem lw_u7_18 : Cond.static yX7_isFile ∈ lw_tbl := List.mem_append_right _ (List.mem_append_right _ (List.mem_append_left _ (List.mem_of_getElem? (i := 82) rfl)))
set_option maxRecDepth 100000 in
theorem lw_u7_19 : Cond.code yX7_isFile cX7_isFile 1 (some .boolean) ∈ lw_tbl := List.mem_append_right _ (List.mem_append_right _ (List.mem_append_left _ (List.mem_of_getElem? (i := 83) rfl)))
set_option maxRecDepth 100000 in
theorem lw_u7_20 : Cond.methodLink RX7 75 yX0_slotOf ∈ lw_tbl := List.mem_append_right _ (List.mem_append_right _ (List.mem_append_left _ (List.mem_of_getElem? (i := 84) rfl)))
set_option maxRecDepth 100000 in
theorem lw_u7_21 : Cond.instanceMethod yX0_slotOf ∈ lw_tbl := List.mem_append_right _ (List.mem_append_right _ (List.mem_append_left _ (List.mem_of_getElem? (i := 85) rfl)))
set_option maxRecDepth 100000 in
theorem lw_u7_22 : Cond.selects RX0 yX0_slotOf yX0_slotOf ∈ lw_tbl := List.mem_append_right _ (List.mem_append_right _ (List.mem_append_left _ (List.mem_of_getElem? (i := 86) rfl)))
set_option maxRecDepth 100000 in
theorem lw_u7_23 : Cond.code yX0_slotOf cX0_slotOf 2 (some .int) ∈ lw_tbl := List.mem_append_right _ (List.mem_append_right _ (List.mem_append_left _ (List.mem_of_getElem? (i := 87) rfl)))
theorem lw_ru7 : ∀ w ∈ wsL_law_r7, w ∈ lw_tbl := List.forall_mem_cons.mpr ⟨lw_u7_0, List.forall_mem_cons.mpr ⟨lw_u7_1, List.forall_mem_cons.mpr ⟨lw_u7_2, List.forall_mem_cons.mpr ⟨lw_u7_3, List.forall_mem_cons.mpr ⟨lw_u7_4, List.forall_mem_cons.mpr ⟨lw_u7_5, List.forall_mem_cons.mpr ⟨lw_u7_6, List.forall_mem_cons.mpr ⟨lw_u7_7, List.forall_mem_cons.mpr ⟨lw_u7_8, List.forall_mem_cons.mpr ⟨lw_u7_9, List.forall_mem_cons.mpr ⟨lw_u7_10, List.forall_mem_cons.mpr ⟨lw_u7_11, List.forall_mem_cons.mpr ⟨lw_u7_12, List.forall_mem_cons.mpr ⟨lw_u7_13, List.forall_mem_cons.mpr ⟨lw_u7_14, List.forall_mem_cons.mpr ⟨lw_u7_15, List.forall_mem_cons.mpr ⟨lw_u7_16, List.forall_mem_cons.mpr ⟨lw_u7_17, List.forall_mem_cons.mpr ⟨lw_u7_18, List.forall_mem_cons.mpr ⟨lw_u7_19, List.forall_mem_cons.mpr ⟨lw_u7_20, List.forall_mem_cons.mpr ⟨lw_u7_21, List.forall_mem_cons.mpr ⟨lw_u7_22, List.forall_mem_cons.mpr ⟨lw_u7_23, fun _ h => absurd h List.not_mem_nil⟩⟩⟩⟩⟩⟩⟩⟩⟩⟩⟩⟩⟩⟩⟩⟩⟩⟩⟩⟩⟩⟩⟩⟩
set_option maxRecDepth 100000 in
theorem lw_u8_0 : Cond.methodLink RX7 79 yX7_addPage ∈ lw_tbl := List.mem_append_right _ (List.mem_append_right _ (List.mem_append_left _ (List.mem_of_getElem? (i := 88) rfl)))
set_option maxRecDepth 100000 in
theorem lw_u8_1 : Cond.instanceMethod yX7_addPage ∈ lw_tbl := List.mem_append_right _ (List.mem_append_right _ (List.mem_append_left _ (List.mem_of_getElem? (i := 90) rfl)))
set_option maxRecDepth 100000 in
theorem lw_u8_2 : Cond.selects RX7 yX7_addPage yX7_addPage ∈ lw_tbl := List.mem_append_left _ (List.mem_of_getElem? (i := 0) rfl)
set_option maxRecDepth 100000 in
theorem lw_u8_3 : Cond.code yX7_addPage cX7_addPage 3 (some .int) ∈ lw_tbl := List.mem_append_right _ (List.mem_append_right _ (List.mem_append_left _ (List.mem_of_getElem? (i := 91) rfl)))
set_option maxRecDepth 100000 in
theorem lw_u8_4 : Cond.methodLink RX7 183 yX0_take ∈ lw_tbl := List.mem_append_right _ (List.mem_append_right _ (List.mem_append_left _ (List.mem_of_getElem? (i := 92) rfl)))
set_option maxRecDepth 100000 in
theorem lw_u8_5 : Cond.instanceMethod yX0_take ∈ lw_tbl := List.mem_append_right _ (List.mem_append_right _ (List.mem_append_left _ (List.mem_of_getElem? (i := 93) rfl)))
set_option maxRecDepth 100000 in
theorem lw_u8_6 : Cond.selects RX0 yX0_take yX0_take ∈ lw_tbl := List.mem_append_right _ (List.mem_append_right _ (List.mem_append_left _ (List.mem_of_getElem? (i := 94) rfl)))
set_option maxRecDepth 100000 in
theorem lw_u8_7 : Cond.code yX0_take cX0_take 4 (some .int) ∈ lw_tbl := List.mem_append_right _ (List.mem_append_right _ (List.mem_append_left _ (List.mem_of_getElem? (i := 95) rfl)))
set_option maxRecDepth 100000 in
theorem lw_u8_8 : Cond.fieldLink RX0 59 "ExternalSort$Tally" "peak" "I" ∈ lw_tbl := List.mem_append_right _ (List.mem_append_left _ (List.mem_of_getElem? (i := 46) rfl))
set_option maxRecDepth 100000 in
theorem lw_u8_9 : Cond.methodLink RX0 51 yX0_isPage ∈ lw_tbl := List.mem_append_right _ (List.mem_append_right _ (List.mem_append_left _ (List.mem_of_getElem? (i := 96) rfl)))
set_option maxRecDepth 100000 in
theorem lw_u8_10 : Cond.instanceMethod yX0_isPage ∈ lw_tbl := List.mem_append_right _ (List.mem_append_right _ (List.mem_append_left _ (List.mem_of_getElem? (i := 98) rfl)))
set_option maxRecDepth 100000 in
theorem lw_u8_11 : Cond.selects RX0 yX0_isPage yX0_isPage ∈ lw_tbl := List.mem_append_left _ (List.mem_of_getElem? (i := 1) rfl)
set_option maxRecDepth 100000 in
theorem lw_u8_12 : Cond.code yX0_isPage cX0_isPage 2 (some .boolean) ∈ lw_tbl := List.mem_append_right _ (List.mem_append_right _ (List.mem_append_left _ (List.mem_of_getElem? (i := 99) rfl)))
set_option maxRecDepth 100000 in
theorem lw_u8_13 : Cond.methodLink RX7 82 yX0_pageOf ∈ lw_tbl := List.mem_append_right _ (List.mem_append_right _ (List.mem_append_left _ (List.mem_of_getElem? (i := 100) rfl)))
set_option maxRecDepth 100000 in
theorem lw_u8_14 : Cond.instanceMethod yX0_pageOf ∈ lw_tbl := List.mem_append_right _ (List.mem_append_right _ (List.mem_append_left _ (List.mem_of_getElem? (i := 101) rfl)))
set_option maxRecDepth 100000 in
theorem lw_u8_15 : Cond.selects RX0 yX0_pageOf yX0_pageOf ∈ lw_tbl := List.mem_append_right _ (List.mem_append_right _ (List.mem_append_left _ (List.mem_of_getElem? (i := 102) rfl)))
set_option maxRecDepth 100000 in
theorem lw_u8_16 : Cond.code yX0_pageOf cX0_pageOf 6 (some .int) ∈ lw_tbl := List.mem_append_right _ (List.mem_append_right _ (List.mem_append_left _ (List.mem_of_getElem? (i := 103) rfl)))
set_option maxRecDepth 100000 in
theorem lw_u8_17 : Cond.methodLink RX0 47 yX0_nextOf ∈ lw_tbl := List.mem_append_right _ (List.mem_append_right _ (List.mem_append_left _ (List.mem_of_getElem? (i := 104) rfl)))
set_option maxRecDepth 100000 in
theorem lw_u8_18 : Cond.instanceMethod yX0_nextOf ∈ lw_tbl := List.mem_append_right _ (List.mem_append_right _ (List.mem_append_left _ (List.mem_of_getElem? (i := 105) rfl)))
set_option maxRecDepth 100000 in
theorem lw_u8_19 : Cond.selects RX0 yX0_nextOf yX0_nextOf ∈ lw_tbl := List.mem_append_right _ (List.mem_append_right _ (List.mem_append_left _ (List.mem_of_getElem? (i := 106) rfl)))
set_option maxRecDepth 100000 in
theorem lw_u8_20 : Cond.code yX0_nextOf cX0_nextOf 2 (some .int) ∈ lw_tbl := List.mem_append_right _ (List.mem_append_right _ (List.mem_append_left _ (List.mem_of_getElem? (i := 107) rfl)))
set_option maxRecDepth 100000 in
theorem lw_u8_21 : Cond.methodLink RX7 186 yX0_link ∈ lw_tbl := List.mem_append_right _ (List.mem_append_right _ (List.mem_append_left _ (List.mem_of_getElem? (i := 108) rfl)))
set_option maxRecDepth 100000 in
theorem lw_u8_22 : Cond.instanceMethod yX0_link ∈ lw_tbl := List.mem_append_right _ (List.mem_append_right _ (List.mem_append_left _ (List.mem_of_getElem? (i := 109) rfl)))
set_option maxRecDepth 100000 in
theorem lw_u8_23 : Cond.selects RX0 yX0_link yX0_link ∈ lw_tbl := List.mem_append_right _ (List.mem_append_right _ (List.mem_append_left _ (List.mem_of_getElem? (i := 110) rfl)))
theorem lw_ru8 : ∀ w ∈ wsL_law_r8, w ∈ lw_tbl := List.forall_mem_cons.mpr ⟨lw_u8_0, List.forall_mem_cons.mpr ⟨lw_u8_1, List.forall_mem_cons.mpr ⟨lw_u8_2, List.forall_mem_cons.mpr ⟨lw_u8_3, List.forall_mem_cons.mpr ⟨lw_u8_4, List.forall_mem_cons.mpr ⟨lw_u8_5, List.forall_mem_cons.mpr ⟨lw_u8_6, List.forall_mem_cons.mpr ⟨lw_u8_7, List.forall_mem_cons.mpr ⟨lw_u8_8, List.forall_mem_cons.mpr ⟨lw_u8_9, List.forall_mem_cons.mpr ⟨lw_u8_10, List.forall_mem_cons.mpr ⟨lw_u8_11, List.forall_mem_cons.mpr ⟨lw_u8_12, List.forall_mem_cons.mpr ⟨lw_u8_13, List.forall_mem_cons.mpr ⟨lw_u8_14, List.forall_mem_cons.mpr ⟨lw_u8_15, List.forall_mem_cons.mpr ⟨lw_u8_16, List.forall_mem_cons.mpr ⟨lw_u8_17, List.forall_mem_cons.mpr ⟨lw_u8_18, List.forall_mem_cons.mpr ⟨lw_u8_19, List.forall_mem_cons.mpr ⟨lw_u8_20, List.forall_mem_cons.mpr ⟨lw_u8_21, List.forall_mem_cons.mpr ⟨lw_u8_22, List.forall_mem_cons.mpr ⟨lw_u8_23, fun _ h => absurd h List.not_mem_nil⟩⟩⟩⟩⟩⟩⟩⟩⟩⟩⟩⟩⟩⟩⟩⟩⟩⟩⟩⟩⟩⟩⟩⟩
set_option maxRecDepth 100000 in
theorem lw_u9_0 : Cond.code yX0_link cX0_link 3 none ∈ lw_tbl := List.mem_append_right _ (List.mem_append_right _ (List.mem_append_left _ (List.mem_of_getElem? (i := 111) rfl)))
set_option maxRecDepth 100000 in
theorem lw_u9_1 : Cond.methodLink RX7 85 yX0_store ∈ lw_tbl := List.mem_append_right _ (List.mem_append_right _ (List.mem_append_left _ (List.mem_of_getElem? (i := 112) rfl)))
set_option maxRecDepth 100000 in
theorem lw_u9_2 : Cond.instanceMethod yX0_store ∈ lw_tbl := List.mem_append_right _ (List.mem_append_right _ (List.mem_append_left _ (List.mem_of_getElem? (i := 113) rfl)))
set_option maxRecDepth 100000 in
theorem lw_u9_3 : Cond.selects RX0 yX0_store yX0_store ∈ lw_tbl := List.mem_append_right _ (List.mem_append_right _ (List.mem_append_left _ (List.mem_of_getElem? (i := 114) rfl)))
set_option maxRecDepth 100000 in
theorem lw_u9_4 : Cond.code yX0_store cX0_store 5 none ∈ lw_tbl := List.mem_append_right _ (List.mem_append_right _ (List.mem_append_left _ (List.mem_of_getElem? (i := 115) rfl)))
set_option maxRecDepth 100000 in
theorem lw_u9_5 : Cond.methodLink RX0 55 yX0_isCell ∈ lw_tbl := List.mem_append_right _ (List.mem_append_right _ (List.mem_append_left _ (List.mem_of_getElem? (i := 116) rfl)))
set_option maxRecDepth 100000 in
theorem lw_u9_6 : Cond.instanceMethod yX0_isCell ∈ lw_tbl := List.mem_append_right _ (List.mem_append_right _ (List.mem_append_left _ (List.mem_of_getElem? (i := 118) rfl)))
set_option maxRecDepth 100000 in
theorem lw_u9_7 : Cond.selects RX0 yX0_isCell yX0_isCell ∈ lw_tbl := List.mem_append_left _ (List.mem_of_getElem? (i := 2) rfl)
set_option maxRecDepth 100000 in
theorem lw_u9_8 : Cond.code yX0_isCell cX0_isCell 3 (some .boolean) ∈ lw_tbl := List.mem_append_right _ (List.mem_append_right _ (List.mem_append_left _ (List.mem_of_getElem? (i := 119) rfl)))
set_option maxRecDepth 100000 in
theorem lw_u9_9 : Cond.methodLink RL 25 yX8_append ∈ lw_tbl := List.mem_append_right _ (List.mem_append_right _ (List.mem_append_right _ (List.mem_append_right _ (List.mem_of_getElem? (i := 88) rfl))))
set_option maxRecDepth 100000 in
theorem lw_u9_10 : Cond.instanceMethod yX8_append ∈ lw_tbl := List.mem_append_right _ (List.mem_append_right _ (List.mem_append_right _ (List.mem_append_right _ (List.mem_of_getElem? (i := 89) rfl))))
set_option maxRecDepth 100000 in
theorem lw_u9_11 : Cond.selects RX8 yX8_append yX8_append ∈ lw_tbl := List.mem_append_right _ (List.mem_append_right _ (List.mem_append_right _ (List.mem_append_right _ (List.mem_of_getElem? (i := 90) rfl))))
set_option maxRecDepth 100000 in
theorem lw_u9_12 : Cond.code yX8_append cX8_append 4 (some .int) ∈ lw_tbl := List.mem_append_right _ (List.mem_append_right _ (List.mem_append_right _ (List.mem_append_right _ (List.mem_of_getElem? (i := 91) rfl))))
set_option maxRecDepth 100000 in
theorem lw_u9_13 : Cond.fieldLink RX8 91 "ExternalSortModel" "used" "I" ∈ lw_tbl := List.mem_append_right _ (List.mem_append_right _ (List.mem_append_right _ (List.mem_append_left _ (List.mem_of_getElem? (i := 220) rfl))))
set_option maxRecDepth 100000 in
theorem lw_u9_14 : Cond.methodLink RX8 87 yX8_isFile ∈ lw_tbl := List.mem_append_right _ (List.mem_append_right _ (List.mem_append_right _ (List.mem_append_right _ (List.mem_of_getElem? (i := 92) rfl))))
set_option maxRecDepth 100000 in
theorem lw_u9_15 : Cond.static yX8_isFile ∈ lw_tbl := List.mem_append_right _ (List.mem_append_right _ (List.mem_append_right _ (List.mem_append_right _ (List.mem_of_getElem? (i := 93) rfl))))
set_option maxRecDepth 100000 in
theorem lw_u9_16 : Cond.code yX8_isFile cX8_isFile 1 (some .boolean) ∈ lw_tbl := List.mem_append_right _ (List.mem_append_right _ (List.mem_append_right _ (List.mem_append_right _ (List.mem_of_getElem? (i := 94) rfl))))
set_option maxRecDepth 100000 in
theorem lw_u9_17 : Cond.methodLink RX8 83 yX8_in ∈ lw_tbl := List.mem_append_right _ (List.mem_append_right _ (List.mem_append_right _ (List.mem_append_right _ (List.mem_of_getElem? (i := 95) rfl))))
set_option maxRecDepth 100000 in
theorem lw_u9_18 : Cond.static yX8_in ∈ lw_tbl := List.mem_append_right _ (List.mem_append_right _ (List.mem_append_right _ (List.mem_append_right _ (List.mem_of_getElem? (i := 96) rfl))))
set_option maxRecDepth 100000 in
theorem lw_u9_19 : Cond.code yX8_in cX8_in 3 (some .boolean) ∈ lw_tbl := List.mem_append_right _ (List.mem_append_right _ (List.mem_append_right _ (List.mem_append_right _ (List.mem_of_getElem? (i := 97) rfl))))
set_option maxRecDepth 100000 in
theorem lw_u9_20 : Cond.methodLink RL 26 yX7_drop ∈ lw_tbl := List.mem_append_right _ (List.mem_append_right _ (List.mem_append_left _ (List.mem_of_getElem? (i := 120) rfl)))
set_option maxRecDepth 100000 in
theorem lw_u9_21 : Cond.instanceMethod yX7_drop ∈ lw_tbl := List.mem_append_right _ (List.mem_append_right _ (List.mem_append_left _ (List.mem_of_getElem? (i := 121) rfl)))
set_option maxRecDepth 100000 in
theorem lw_u9_22 : Cond.selects RX7 yX7_drop yX7_drop ∈ lw_tbl := List.mem_append_right _ (List.mem_append_right _ (List.mem_append_left _ (List.mem_of_getElem? (i := 122) rfl)))
set_option maxRecDepth 100000 in
theorem lw_u9_23 : Cond.code yX7_drop cX7_drop 2 (some .int) ∈ lw_tbl := List.mem_append_right _ (List.mem_append_right _ (List.mem_append_left _ (List.mem_of_getElem? (i := 123) rfl)))
theorem lw_ru9 : ∀ w ∈ wsL_law_r9, w ∈ lw_tbl := List.forall_mem_cons.mpr ⟨lw_u9_0, List.forall_mem_cons.mpr ⟨lw_u9_1, List.forall_mem_cons.mpr ⟨lw_u9_2, List.forall_mem_cons.mpr ⟨lw_u9_3, List.forall_mem_cons.mpr ⟨lw_u9_4, List.forall_mem_cons.mpr ⟨lw_u9_5, List.forall_mem_cons.mpr ⟨lw_u9_6, List.forall_mem_cons.mpr ⟨lw_u9_7, List.forall_mem_cons.mpr ⟨lw_u9_8, List.forall_mem_cons.mpr ⟨lw_u9_9, List.forall_mem_cons.mpr ⟨lw_u9_10, List.forall_mem_cons.mpr ⟨lw_u9_11, List.forall_mem_cons.mpr ⟨lw_u9_12, List.forall_mem_cons.mpr ⟨lw_u9_13, List.forall_mem_cons.mpr ⟨lw_u9_14, List.forall_mem_cons.mpr ⟨lw_u9_15, List.forall_mem_cons.mpr ⟨lw_u9_16, List.forall_mem_cons.mpr ⟨lw_u9_17, List.forall_mem_cons.mpr ⟨lw_u9_18, List.forall_mem_cons.mpr ⟨lw_u9_19, List.forall_mem_cons.mpr ⟨lw_u9_20, List.forall_mem_cons.mpr ⟨lw_u9_21, List.forall_mem_cons.mpr ⟨lw_u9_22, List.forall_mem_cons.mpr ⟨lw_u9_23, fun _ h => absurd h List.not_mem_nil⟩⟩⟩⟩⟩⟩⟩⟩⟩⟩⟩⟩⟩⟩⟩⟩⟩⟩⟩⟩⟩⟩⟩⟩
set_option maxRecDepth 100000 in
theorem lw_u10_0 : Cond.methodLink RX7 89 yX0_releaseAll ∈ lw_tbl := List.mem_append_right _ (List.mem_append_right _ (List.mem_append_left _ (List.mem_of_getElem? (i := 124) rfl)))
set_option maxRecDepth 100000 in
theorem lw_u10_1 : Cond.instanceMethod yX0_releaseAll ∈ lw_tbl := List.mem_append_right _ (List.mem_append_right _ (List.mem_append_left _ (List.mem_of_getElem? (i := 125) rfl)))
set_option maxRecDepth 100000 in
theorem lw_u10_2 : Cond.selects RX0 yX0_releaseAll yX0_releaseAll ∈ lw_tbl := List.mem_append_right _ (List.mem_append_right _ (List.mem_append_left _ (List.mem_of_getElem? (i := 126) rfl)))
set_option maxRecDepth 100000 in
theorem lw_u10_3 : Cond.code yX0_releaseAll cX0_releaseAll 4 (some .int) ∈ lw_tbl := List.mem_append_right _ (List.mem_append_right _ (List.mem_append_left _ (List.mem_of_getElem? (i := 127) rfl)))
set_option maxRecDepth 100000 in
theorem lw_u10_4 : Cond.methodLink RX0 64 yX0_release ∈ lw_tbl := List.mem_append_right _ (List.mem_append_right _ (List.mem_append_left _ (List.mem_of_getElem? (i := 128) rfl)))
set_option maxRecDepth 100000 in
theorem lw_u10_5 : Cond.instanceMethod yX0_release ∈ lw_tbl := List.mem_append_right _ (List.mem_append_right _ (List.mem_append_left _ (List.mem_of_getElem? (i := 129) rfl)))
set_option maxRecDepth 100000 in
theorem lw_u10_6 : Cond.selects RX0 yX0_release yX0_release ∈ lw_tbl := List.mem_append_right _ (List.mem_append_right _ (List.mem_append_left _ (List.mem_of_getElem? (i := 130) rfl)))
set_option maxRecDepth 100000 in
theorem lw_u10_7 : Cond.code yX0_release cX0_release 2 none ∈ lw_tbl := List.mem_append_right _ (List.mem_append_right _ (List.mem_append_left _ (List.mem_of_getElem? (i := 131) rfl)))
set_option maxRecDepth 100000 in
theorem lw_u10_8 : Cond.methodLink RL 30 yX8_drop ∈ lw_tbl := List.mem_append_right _ (List.mem_append_right _ (List.mem_append_right _ (List.mem_append_right _ (List.mem_of_getElem? (i := 98) rfl))))
set_option maxRecDepth 100000 in
theorem lw_u10_9 : Cond.instanceMethod yX8_drop ∈ lw_tbl := List.mem_append_right _ (List.mem_append_right _ (List.mem_append_right _ (List.mem_append_right _ (List.mem_of_getElem? (i := 99) rfl))))
set_option maxRecDepth 100000 in
theorem lw_u10_10 : Cond.selects RX8 yX8_drop yX8_drop ∈ lw_tbl := List.mem_append_right _ (List.mem_append_right _ (List.mem_append_right _ (List.mem_append_right _ (List.mem_of_getElem? (i := 100) rfl))))
set_option maxRecDepth 100000 in
theorem lw_u10_11 : Cond.code yX8_drop cX8_drop 3 (some .int) ∈ lw_tbl := List.mem_append_right _ (List.mem_append_right _ (List.mem_append_right _ (List.mem_append_right _ (List.mem_of_getElem? (i := 101) rfl))))
set_option maxRecDepth 100000 in
theorem lw_u10_12 : Cond.methodLink RX8 94 yX8_pagesOf ∈ lw_tbl := List.mem_append_right _ (List.mem_append_right _ (List.mem_append_right _ (List.mem_append_right _ (List.mem_of_getElem? (i := 102) rfl))))
set_option maxRecDepth 100000 in
theorem lw_u10_13 : Cond.instanceMethod yX8_pagesOf ∈ lw_tbl := List.mem_append_right _ (List.mem_append_right _ (List.mem_append_right _ (List.mem_append_right _ (List.mem_of_getElem? (i := 104) rfl))))
set_option maxRecDepth 100000 in
theorem lw_u10_14 : Cond.selects RX8 yX8_pagesOf yX8_pagesOf ∈ lw_tbl := List.mem_append_left _ (List.mem_of_getElem? (i := 28) rfl)
set_option maxRecDepth 100000 in
theorem lw_u10_15 : Cond.code yX8_pagesOf cX8_pagesOf 2 (some .int) ∈ lw_tbl := List.mem_append_right _ (List.mem_append_right _ (List.mem_append_right _ (List.mem_append_right _ (List.mem_of_getElem? (i := 105) rfl))))
set_option maxRecDepth 100000 in
theorem lw_u10_16 : Cond.methodLink RL 31 yX7_sort ∈ lw_tbl := List.mem_append_right _ (List.mem_append_right _ (List.mem_append_left _ (List.mem_of_getElem? (i := 132) rfl)))
set_option maxRecDepth 100000 in
theorem lw_u10_17 : Cond.instanceMethod yX7_sort ∈ lw_tbl := List.mem_append_right _ (List.mem_append_right _ (List.mem_append_left _ (List.mem_of_getElem? (i := 133) rfl)))
set_option maxRecDepth 100000 in
theorem lw_u10_18 : Cond.selects RX7 yX7_sort yX7_sort ∈ lw_tbl := List.mem_append_right _ (List.mem_append_right _ (List.mem_append_left _ (List.mem_of_getElem? (i := 134) rfl)))
set_option maxRecDepth 100000 in
theorem lw_u10_19 : Cond.code yX7_sort cX7_sort 5 (some .int) ∈ lw_tbl := List.mem_append_right _ (List.mem_append_right _ (List.mem_append_left _ (List.mem_of_getElem? (i := 135) rfl)))
set_option maxRecDepth 100000 in
theorem lw_u10_20 : Cond.methodLink RX7 92 yX7_isBudget ∈ lw_tbl := List.mem_append_right _ (List.mem_append_right _ (List.mem_append_left _ (List.mem_of_getElem? (i := 136) rfl)))
set_option maxRecDepth 100000 in
theorem lw_u10_21 : Cond.static yX7_isBudget ∈ lw_tbl := List.mem_append_right _ (List.mem_append_right _ (List.mem_append_left _ (List.mem_of_getElem? (i := 137) rfl)))
set_option maxRecDepth 100000 in
theorem lw_u10_22 : Cond.code yX7_isBudget cX7_isBudget 1 (some .boolean) ∈ lw_tbl := List.mem_append_right _ (List.mem_append_right _ (List.mem_append_left _ (List.mem_of_getElem? (i := 138) rfl)))
set_option maxRecDepth 100000 in
theorem lw_u10_23 : Cond.methodLink RX7 95 yX7_isMode ∈ lw_tbl := List.mem_append_right _ (List.mem_append_right _ (List.mem_append_left _ (List.mem_of_getElem? (i := 139) rfl)))
theorem lw_ru10 : ∀ w ∈ wsL_law_r10, w ∈ lw_tbl := List.forall_mem_cons.mpr ⟨lw_u10_0, List.forall_mem_cons.mpr ⟨lw_u10_1, List.forall_mem_cons.mpr ⟨lw_u10_2, List.forall_mem_cons.mpr ⟨lw_u10_3, List.forall_mem_cons.mpr ⟨lw_u10_4, List.forall_mem_cons.mpr ⟨lw_u10_5, List.forall_mem_cons.mpr ⟨lw_u10_6, List.forall_mem_cons.mpr ⟨lw_u10_7, List.forall_mem_cons.mpr ⟨lw_u10_8, List.forall_mem_cons.mpr ⟨lw_u10_9, List.forall_mem_cons.mpr ⟨lw_u10_10, List.forall_mem_cons.mpr ⟨lw_u10_11, List.forall_mem_cons.mpr ⟨lw_u10_12, List.forall_mem_cons.mpr ⟨lw_u10_13, List.forall_mem_cons.mpr ⟨lw_u10_14, List.forall_mem_cons.mpr ⟨lw_u10_15, List.forall_mem_cons.mpr ⟨lw_u10_16, List.forall_mem_cons.mpr ⟨lw_u10_17, List.forall_mem_cons.mpr ⟨lw_u10_18, List.forall_mem_cons.mpr ⟨lw_u10_19, List.forall_mem_cons.mpr ⟨lw_u10_20, List.forall_mem_cons.mpr ⟨lw_u10_21, List.forall_mem_cons.mpr ⟨lw_u10_22, List.forall_mem_cons.mpr ⟨lw_u10_23, fun _ h => absurd h List.not_mem_nil⟩⟩⟩⟩⟩⟩⟩⟩⟩⟩⟩⟩⟩⟩⟩⟩⟩⟩⟩⟩⟩⟩⟩⟩
set_option maxRecDepth 100000 in
theorem lw_u11_0 : Cond.static yX7_isMode ∈ lw_tbl := List.mem_append_right _ (List.mem_append_right _ (List.mem_append_left _ (List.mem_of_getElem? (i := 140) rfl)))
set_option maxRecDepth 100000 in
theorem lw_u11_1 : Cond.code yX7_isMode cX7_isMode 1 (some .boolean) ∈ lw_tbl := List.mem_append_right _ (List.mem_append_right _ (List.mem_append_left _ (List.mem_of_getElem? (i := 141) rfl)))
set_option maxRecDepth 100000 in
theorem lw_u11_2 : Cond.methodLink RX7 98 yX7_begin ∈ lw_tbl := List.mem_append_right _ (List.mem_append_right _ (List.mem_append_left _ (List.mem_of_getElem? (i := 142) rfl)))
set_option maxRecDepth 100000 in
theorem lw_u11_3 : Cond.instanceMethod yX7_begin ∈ lw_tbl := List.mem_append_right _ (List.mem_append_right _ (List.mem_append_left _ (List.mem_of_getElem? (i := 144) rfl)))
set_option maxRecDepth 100000 in
theorem lw_u11_4 : Cond.selects RX7 yX7_begin yX7_begin ∈ lw_tbl := List.mem_append_left _ (List.mem_of_getElem? (i := 3) rfl)
set_option maxRecDepth 100000 in
theorem lw_u11_5 : Cond.code yX7_begin cX7_begin 4 none ∈ lw_tbl := List.mem_append_right _ (List.mem_append_right _ (List.mem_append_left _ (List.mem_of_getElem? (i := 145) rfl)))
set_option maxRecDepth 100000 in
theorem lw_u11_6 : Cond.methodLink RX7 190 yX0_usedPages ∈ lw_tbl := List.mem_append_right _ (List.mem_append_right _ (List.mem_append_left _ (List.mem_of_getElem? (i := 146) rfl)))
set_option maxRecDepth 100000 in
theorem lw_u11_7 : Cond.instanceMethod yX0_usedPages ∈ lw_tbl := List.mem_append_right _ (List.mem_append_right _ (List.mem_append_left _ (List.mem_of_getElem? (i := 147) rfl)))
set_option maxRecDepth 100000 in
theorem lw_u11_8 : Cond.selects RX0 yX0_usedPages yX0_usedPages ∈ lw_tbl := List.mem_append_right _ (List.mem_append_right _ (List.mem_append_left _ (List.mem_of_getElem? (i := 148) rfl)))
set_option maxRecDepth 100000 in
theorem lw_u11_9 : Cond.code yX0_usedPages cX0_usedPages 1 (some .int) ∈ lw_tbl := List.mem_append_right _ (List.mem_append_right _ (List.mem_append_left _ (List.mem_of_getElem? (i := 149) rfl)))
set_option maxRecDepth 100000 in
theorem lw_u11_10 : Cond.methodLink RX7 193 yX6_begin ∈ lw_tbl := List.mem_append_right _ (List.mem_append_right _ (List.mem_append_left _ (List.mem_of_getElem? (i := 150) rfl)))
set_option maxRecDepth 100000 in
theorem lw_u11_11 : Cond.instanceMethod yX6_begin ∈ lw_tbl := List.mem_append_right _ (List.mem_append_right _ (List.mem_append_left _ (List.mem_of_getElem? (i := 151) rfl)))
set_option maxRecDepth 100000 in
theorem lw_u11_12 : Cond.selects RX6 yX6_begin yX6_begin ∈ lw_tbl := List.mem_append_right _ (List.mem_append_right _ (List.mem_append_left _ (List.mem_of_getElem? (i := 152) rfl)))
set_option maxRecDepth 100000 in
theorem lw_u11_13 : Cond.code yX6_begin cX6_begin 2 none ∈ lw_tbl := List.mem_append_right _ (List.mem_append_right _ (List.mem_append_left _ (List.mem_of_getElem? (i := 153) rfl)))
set_option maxRecDepth 100000 in
theorem lw_u11_14 : Cond.fieldLink RX6 21 "ExternalSort$Tally" "reads" "I" ∈ lw_tbl := List.mem_append_right _ (List.mem_append_left _ (List.mem_of_getElem? (i := 32) rfl))
set_option maxRecDepth 100000 in
theorem lw_u11_15 : Cond.fieldLink RX6 25 "ExternalSort$Tally" "writes" "I" ∈ lw_tbl := List.mem_append_right _ (List.mem_append_left _ (List.mem_of_getElem? (i := 36) rfl))
set_option maxRecDepth 100000 in
theorem lw_u11_16 : Cond.fieldLink RX6 28 "ExternalSort$Tally" "runs" "I" ∈ lw_tbl := List.mem_append_right _ (List.mem_append_left _ (List.mem_of_getElem? (i := 39) rfl))
set_option maxRecDepth 100000 in
theorem lw_u11_17 : Cond.fieldLink RX6 31 "ExternalSort$Tally" "passes" "I" ∈ lw_tbl := List.mem_append_right _ (List.mem_append_left _ (List.mem_of_getElem? (i := 41) rfl))
set_option maxRecDepth 100000 in
theorem lw_u11_18 : Cond.fieldLink RX6 34 "ExternalSort$Tally" "peak" "I" ∈ lw_tbl := List.mem_append_right _ (List.mem_append_left _ (List.mem_of_getElem? (i := 44) rfl))
set_option maxRecDepth 100000 in
theorem lw_u11_19 : Cond.methodLink RX7 195 yX5_prepare ∈ lw_tbl := List.mem_append_right _ (List.mem_append_right _ (List.mem_append_left _ (List.mem_of_getElem? (i := 154) rfl)))
set_option maxRecDepth 100000 in
theorem lw_u11_20 : Cond.instanceMethod yX5_prepare ∈ lw_tbl := List.mem_append_right _ (List.mem_append_right _ (List.mem_append_left _ (List.mem_of_getElem? (i := 155) rfl)))
set_option maxRecDepth 100000 in
theorem lw_u11_21 : Cond.selects RX5 yX5_prepare yX5_prepare ∈ lw_tbl := List.mem_append_right _ (List.mem_append_right _ (List.mem_append_left _ (List.mem_of_getElem? (i := 156) rfl)))
set_option maxRecDepth 100000 in
theorem lw_u11_22 : Cond.code yX5_prepare cX5_prepare 4 none ∈ lw_tbl := List.mem_append_right _ (List.mem_append_right _ (List.mem_append_left _ (List.mem_of_getElem? (i := 157) rfl)))
set_option maxRecDepth 100000 in
theorem lw_u11_23 : Cond.fieldLink RX5 59 "ExternalSort$Sorter" "budget" "I" ∈ lw_tbl := List.mem_append_right _ (List.mem_append_left _ (List.mem_of_getElem? (i := 227) rfl))
theorem lw_ru11 : ∀ w ∈ wsL_law_r11, w ∈ lw_tbl := List.forall_mem_cons.mpr ⟨lw_u11_0, List.forall_mem_cons.mpr ⟨lw_u11_1, List.forall_mem_cons.mpr ⟨lw_u11_2, List.forall_mem_cons.mpr ⟨lw_u11_3, List.forall_mem_cons.mpr ⟨lw_u11_4, List.forall_mem_cons.mpr ⟨lw_u11_5, List.forall_mem_cons.mpr ⟨lw_u11_6, List.forall_mem_cons.mpr ⟨lw_u11_7, List.forall_mem_cons.mpr ⟨lw_u11_8, List.forall_mem_cons.mpr ⟨lw_u11_9, List.forall_mem_cons.mpr ⟨lw_u11_10, List.forall_mem_cons.mpr ⟨lw_u11_11, List.forall_mem_cons.mpr ⟨lw_u11_12, List.forall_mem_cons.mpr ⟨lw_u11_13, List.forall_mem_cons.mpr ⟨lw_u11_14, List.forall_mem_cons.mpr ⟨lw_u11_15, List.forall_mem_cons.mpr ⟨lw_u11_16, List.forall_mem_cons.mpr ⟨lw_u11_17, List.forall_mem_cons.mpr ⟨lw_u11_18, List.forall_mem_cons.mpr ⟨lw_u11_19, List.forall_mem_cons.mpr ⟨lw_u11_20, List.forall_mem_cons.mpr ⟨lw_u11_21, List.forall_mem_cons.mpr ⟨lw_u11_22, List.forall_mem_cons.mpr ⟨lw_u11_23, fun _ h => absurd h List.not_mem_nil⟩⟩⟩⟩⟩⟩⟩⟩⟩⟩⟩⟩⟩⟩⟩⟩⟩⟩⟩⟩⟩⟩⟩⟩
set_option maxRecDepth 100000 in
theorem lw_u12_0 : Cond.fieldLink RX5 62 "ExternalSort$Sorter" "mode" "I" ∈ lw_tbl := List.mem_append_right _ (List.mem_append_left _ (List.mem_of_getElem? (i := 228) rfl))
set_option maxRecDepth 100000 in
theorem lw_u12_1 : Cond.fieldLink RX5 65 "ExternalSort$Sorter" "once" "Z" ∈ lw_tbl := List.mem_append_right _ (List.mem_append_left _ (List.mem_of_getElem? (i := 229) rfl))
set_option maxRecDepth 100000 in
theorem lw_u12_2 : Cond.methodLink RX7 102 yX5_arrange ∈ lw_tbl := List.mem_append_right _ (List.mem_append_right _ (List.mem_append_left _ (List.mem_of_getElem? (i := 158) rfl)))
set_option maxRecDepth 100000 in
theorem lw_u12_3 : Cond.instanceMethod yX5_arrange ∈ lw_tbl := List.mem_append_right _ (List.mem_append_right _ (List.mem_append_left _ (List.mem_of_getElem? (i := 159) rfl)))
set_option maxRecDepth 100000 in
theorem lw_u12_4 : Cond.selects RX5 yX5_arrange yX5_arrange ∈ lw_tbl := List.mem_append_right _ (List.mem_append_right _ (List.mem_append_left _ (List.mem_of_getElem? (i := 160) rfl)))
set_option maxRecDepth 100000 in
theorem lw_u12_5 : Cond.code yX5_arrange cX5_arrange 4 (some .boolean) ∈ lw_tbl := List.mem_append_right _ (List.mem_append_right _ (List.mem_append_left _ (List.mem_of_getElem? (i := 161) rfl)))
set_option maxRecDepth 100000 in
theorem lw_u12_6 : Cond.fieldLink RX5 69 "ExternalSort$Sorter" "runs" "I" ∈ lw_tbl := List.mem_append_right _ (List.mem_append_left _ (List.mem_of_getElem? (i := 226) rfl))
set_option maxRecDepth 100000 in
theorem lw_u12_7 : Cond.fieldLink RX5 80 "ExternalSort$Sorter" "resultHead" "I" ∈ lw_tbl := List.mem_append_right _ (List.mem_append_left _ (List.mem_of_getElem? (i := 216) rfl))
set_option maxRecDepth 100000 in
theorem lw_u12_8 : Cond.fieldLink RX5 83 "ExternalSort$Sorter" "resultCount" "I" ∈ lw_tbl := List.mem_append_right _ (List.mem_append_left _ (List.mem_of_getElem? (i := 218) rfl))
set_option maxRecDepth 100000 in
theorem lw_u12_9 : Cond.methodLink RX5 72 yX5_makeRuns ∈ lw_tbl := List.mem_append_right _ (List.mem_append_right _ (List.mem_append_left _ (List.mem_of_getElem? (i := 162) rfl)))
set_option maxRecDepth 100000 in
theorem lw_u12_10 : Cond.instanceMethod yX5_makeRuns ∈ lw_tbl := List.mem_append_right _ (List.mem_append_right _ (List.mem_append_left _ (List.mem_of_getElem? (i := 164) rfl)))
set_option maxRecDepth 100000 in
theorem lw_u12_11 : Cond.selects RX5 yX5_makeRuns yX5_makeRuns ∈ lw_tbl := List.mem_append_left _ (List.mem_of_getElem? (i := 4) rfl)
set_option maxRecDepth 100000 in
theorem lw_u12_12 : Cond.code yX5_makeRuns cX5_makeRuns 7 (some .boolean) ∈ lw_tbl := List.mem_append_right _ (List.mem_append_right _ (List.mem_append_left _ (List.mem_of_getElem? (i := 165) rfl)))
set_option maxRecDepth 100000 in
theorem lw_u12_13 : Cond.methodLink RX5 86 yX5_fillMemory ∈ lw_tbl := List.mem_append_right _ (List.mem_append_right _ (List.mem_append_left _ (List.mem_of_getElem? (i := 166) rfl)))
set_option maxRecDepth 100000 in
theorem lw_u12_14 : Cond.instanceMethod yX5_fillMemory ∈ lw_tbl := List.mem_append_right _ (List.mem_append_right _ (List.mem_append_left _ (List.mem_of_getElem? (i := 168) rfl)))
set_option maxRecDepth 100000 in
theorem lw_u12_15 : Cond.selects RX5 yX5_fillMemory yX5_fillMemory ∈ lw_tbl := List.mem_append_left _ (List.mem_of_getElem? (i := 5) rfl)
set_option maxRecDepth 100000 in
theorem lw_u12_16 : Cond.code yX5_fillMemory cX5_fillMemory 5 (some .int) ∈ lw_tbl := List.mem_append_right _ (List.mem_append_right _ (List.mem_append_left _ (List.mem_of_getElem? (i := 169) rfl)))
set_option maxRecDepth 100000 in
theorem lw_u12_17 : Cond.methodLink RX5 128 Lib.Math.min.name ∈ lw_tbl := List.mem_append_right _ (List.mem_append_right _ (List.mem_append_left _ (List.mem_of_getElem? (i := 174) rfl)))
set_option maxRecDepth 100000 in
theorem lw_u12_18 : Cond.methodLink RX5 125 yX5_room ∈ lw_tbl := List.mem_append_right _ (List.mem_append_right _ (List.mem_append_left _ (List.mem_of_getElem? (i := 170) rfl)))
set_option maxRecDepth 100000 in
theorem lw_u12_19 : Cond.instanceMethod yX5_room ∈ lw_tbl := List.mem_append_right _ (List.mem_append_right _ (List.mem_append_left _ (List.mem_of_getElem? (i := 171) rfl)))
set_option maxRecDepth 100000 in
theorem lw_u12_20 : Cond.selects RX5 yX5_room yX5_room ∈ lw_tbl := List.mem_append_right _ (List.mem_append_right _ (List.mem_append_left _ (List.mem_of_getElem? (i := 172) rfl)))
set_option maxRecDepth 100000 in
theorem lw_u12_21 : Cond.code yX5_room cX5_room 1 (some .int) ∈ lw_tbl := List.mem_append_right _ (List.mem_append_right _ (List.mem_append_left _ (List.mem_of_getElem? (i := 173) rfl)))
set_option maxRecDepth 100000 in
theorem lw_u12_22 : Cond.methodLink RX5 131 yX1_open ∈ lw_tbl := List.mem_append_right _ (List.mem_append_right _ (List.mem_append_left _ (List.mem_of_getElem? (i := 175) rfl)))
set_option maxRecDepth 100000 in
theorem lw_u12_23 : Cond.instanceMethod yX1_open ∈ lw_tbl := List.mem_append_right _ (List.mem_append_right _ (List.mem_append_left _ (List.mem_of_getElem? (i := 176) rfl)))
theorem lw_ru12 : ∀ w ∈ wsL_law_r12, w ∈ lw_tbl := List.forall_mem_cons.mpr ⟨lw_u12_0, List.forall_mem_cons.mpr ⟨lw_u12_1, List.forall_mem_cons.mpr ⟨lw_u12_2, List.forall_mem_cons.mpr ⟨lw_u12_3, List.forall_mem_cons.mpr ⟨lw_u12_4, List.forall_mem_cons.mpr ⟨lw_u12_5, List.forall_mem_cons.mpr ⟨lw_u12_6, List.forall_mem_cons.mpr ⟨lw_u12_7, List.forall_mem_cons.mpr ⟨lw_u12_8, List.forall_mem_cons.mpr ⟨lw_u12_9, List.forall_mem_cons.mpr ⟨lw_u12_10, List.forall_mem_cons.mpr ⟨lw_u12_11, List.forall_mem_cons.mpr ⟨lw_u12_12, List.forall_mem_cons.mpr ⟨lw_u12_13, List.forall_mem_cons.mpr ⟨lw_u12_14, List.forall_mem_cons.mpr ⟨lw_u12_15, List.forall_mem_cons.mpr ⟨lw_u12_16, List.forall_mem_cons.mpr ⟨lw_u12_17, List.forall_mem_cons.mpr ⟨lw_u12_18, List.forall_mem_cons.mpr ⟨lw_u12_19, List.forall_mem_cons.mpr ⟨lw_u12_20, List.forall_mem_cons.mpr ⟨lw_u12_21, List.forall_mem_cons.mpr ⟨lw_u12_22, List.forall_mem_cons.mpr ⟨lw_u12_23, fun _ h => absurd h List.not_mem_nil⟩⟩⟩⟩⟩⟩⟩⟩⟩⟩⟩⟩⟩⟩⟩⟩⟩⟩⟩⟩⟩⟩⟩⟩
set_option maxRecDepth 100000 in
theorem lw_u13_0 : Cond.selects RX1 yX1_open yX1_open ∈ lw_tbl := List.mem_append_right _ (List.mem_append_right _ (List.mem_append_left _ (List.mem_of_getElem? (i := 177) rfl)))
set_option maxRecDepth 100000 in
theorem lw_u13_1 : Cond.code yX1_open cX1_open 4 none ∈ lw_tbl := List.mem_append_right _ (List.mem_append_right _ (List.mem_append_left _ (List.mem_of_getElem? (i := 178) rfl)))
set_option maxRecDepth 100000 in
theorem lw_u13_2 : Cond.methodLink RX5 133 yX3_begin ∈ lw_tbl := List.mem_append_right _ (List.mem_append_right _ (List.mem_append_left _ (List.mem_of_getElem? (i := 179) rfl)))
set_option maxRecDepth 100000 in
theorem lw_u13_3 : Cond.instanceMethod yX3_begin ∈ lw_tbl := List.mem_append_right _ (List.mem_append_right _ (List.mem_append_left _ (List.mem_of_getElem? (i := 180) rfl)))
set_option maxRecDepth 100000 in
theorem lw_u13_4 : Cond.selects RX3 yX3_begin yX3_begin ∈ lw_tbl := List.mem_append_right _ (List.mem_append_right _ (List.mem_append_left _ (List.mem_of_getElem? (i := 181) rfl)))
set_option maxRecDepth 100000 in
theorem lw_u13_5 : Cond.code yX3_begin cX3_begin 3 none ∈ lw_tbl := List.mem_append_right _ (List.mem_append_right _ (List.mem_append_left _ (List.mem_of_getElem? (i := 182) rfl)))
set_option maxRecDepth 100000 in
theorem lw_u13_6 : Cond.methodLink RX3 35 Lib.Math.min.name ∈ lw_tbl := List.mem_append_right _ (List.mem_append_right _ (List.mem_append_left _ (List.mem_of_getElem? (i := 183) rfl)))
set_option maxRecDepth 100000 in
theorem lw_u13_7 : Cond.fieldLink RX3 38 "ExternalSort$LoserTree" "leaves" "I" ∈ lw_tbl := List.mem_append_right _ (List.mem_append_left _ (List.mem_of_getElem? (i := 199) rfl))
set_option maxRecDepth 100000 in
theorem lw_u13_8 : Cond.fieldLink RX3 42 "ExternalSort$LoserTree" "mode" "I" ∈ lw_tbl := List.mem_append_right _ (List.mem_append_left _ (List.mem_of_getElem? (i := 200) rfl))
set_option maxRecDepth 100000 in
theorem lw_u13_9 : Cond.methodLink RX5 137 yX5_takeInto ∈ lw_tbl := List.mem_append_right _ (List.mem_append_right _ (List.mem_append_left _ (List.mem_of_getElem? (i := 184) rfl)))
set_option maxRecDepth 100000 in
theorem lw_u13_10 : Cond.instanceMethod yX5_takeInto ∈ lw_tbl := List.mem_append_right _ (List.mem_append_right _ (List.mem_append_left _ (List.mem_of_getElem? (i := 186) rfl)))
set_option maxRecDepth 100000 in
theorem lw_u13_11 : Cond.selects RX5 yX5_takeInto yX5_takeInto ∈ lw_tbl := List.mem_append_left _ (List.mem_of_getElem? (i := 6) rfl)
set_option maxRecDepth 100000 in
theorem lw_u13_12 : Cond.code yX5_takeInto cX5_takeInto 4 none ∈ lw_tbl := List.mem_append_right _ (List.mem_append_right _ (List.mem_append_left _ (List.mem_of_getElem? (i := 187) rfl)))
set_option maxRecDepth 100000 in
theorem lw_u13_13 : Cond.methodLink RX5 161 yX1_isUsedUp ∈ lw_tbl := List.mem_append_right _ (List.mem_append_right _ (List.mem_append_left _ (List.mem_of_getElem? (i := 188) rfl)))
set_option maxRecDepth 100000 in
theorem lw_u13_14 : Cond.instanceMethod yX1_isUsedUp ∈ lw_tbl := List.mem_append_right _ (List.mem_append_right _ (List.mem_append_left _ (List.mem_of_getElem? (i := 189) rfl)))
set_option maxRecDepth 100000 in
theorem lw_u13_15 : Cond.selects RX1 yX1_isUsedUp yX1_isUsedUp ∈ lw_tbl := List.mem_append_right _ (List.mem_append_right _ (List.mem_append_left _ (List.mem_of_getElem? (i := 190) rfl)))
set_option maxRecDepth 100000 in
theorem lw_u13_16 : Cond.code yX1_isUsedUp cX1_isUsedUp 2 (some .boolean) ∈ lw_tbl := List.mem_append_right _ (List.mem_append_right _ (List.mem_append_left _ (List.mem_of_getElem? (i := 191) rfl)))
set_option maxRecDepth 100000 in
theorem lw_u13_17 : Cond.methodLink RX5 164 yX1_readPage ∈ lw_tbl := List.mem_append_right _ (List.mem_append_right _ (List.mem_append_left _ (List.mem_of_getElem? (i := 192) rfl)))
set_option maxRecDepth 100000 in
theorem lw_u13_18 : Cond.instanceMethod yX1_readPage ∈ lw_tbl := List.mem_append_right _ (List.mem_append_right _ (List.mem_append_left _ (List.mem_of_getElem? (i := 193) rfl)))
set_option maxRecDepth 100000 in
theorem lw_u13_19 : Cond.selects RX1 yX1_readPage yX1_readPage ∈ lw_tbl := List.mem_append_right _ (List.mem_append_right _ (List.mem_append_left _ (List.mem_of_getElem? (i := 194) rfl)))
set_option maxRecDepth 100000 in
theorem lw_u13_20 : Cond.code yX1_readPage cX1_readPage 6 (some .int) ∈ lw_tbl := List.mem_append_right _ (List.mem_append_right _ (List.mem_append_left _ (List.mem_of_getElem? (i := 195) rfl)))
set_option maxRecDepth 100000 in
theorem lw_u13_21 : Cond.methodLink RX1 40 Lib.Math.min.name ∈ lw_tbl := List.mem_append_right _ (List.mem_append_right _ (List.mem_append_left _ (List.mem_of_getElem? (i := 196) rfl)))
set_option maxRecDepth 100000 in
theorem lw_u13_22 : Cond.fieldLink RX1 56 "ExternalSort$Disk" "tally" "LExternalSort$Tally;" ∈ lw_tbl := List.mem_append_right _ (List.mem_append_left _ (List.mem_of_getElem? (i := 82) rfl))
set_option maxRecDepth 100000 in
theorem lw_u13_23 : Cond.fieldLink RX1 60 "ExternalSort$Tally" "reads" "I" ∈ lw_tbl := List.mem_append_right _ (List.mem_append_left _ (List.mem_of_getElem? (i := 34) rfl))
theorem lw_ru13 : ∀ w ∈ wsL_law_r13, w ∈ lw_tbl := List.forall_mem_cons.mpr ⟨lw_u13_0, List.forall_mem_cons.mpr ⟨lw_u13_1, List.forall_mem_cons.mpr ⟨lw_u13_2, List.forall_mem_cons.mpr ⟨lw_u13_3, List.forall_mem_cons.mpr ⟨lw_u13_4, List.forall_mem_cons.mpr ⟨lw_u13_5, List.forall_mem_cons.mpr ⟨lw_u13_6, List.forall_mem_cons.mpr ⟨lw_u13_7, List.forall_mem_cons.mpr ⟨lw_u13_8, List.forall_mem_cons.mpr ⟨lw_u13_9, List.forall_mem_cons.mpr ⟨lw_u13_10, List.forall_mem_cons.mpr ⟨lw_u13_11, List.forall_mem_cons.mpr ⟨lw_u13_12, List.forall_mem_cons.mpr ⟨lw_u13_13, List.forall_mem_cons.mpr ⟨lw_u13_14, List.forall_mem_cons.mpr ⟨lw_u13_15, List.forall_mem_cons.mpr ⟨lw_u13_16, List.forall_mem_cons.mpr ⟨lw_u13_17, List.forall_mem_cons.mpr ⟨lw_u13_18, List.forall_mem_cons.mpr ⟨lw_u13_19, List.forall_mem_cons.mpr ⟨lw_u13_20, List.forall_mem_cons.mpr ⟨lw_u13_21, List.forall_mem_cons.mpr ⟨lw_u13_22, List.forall_mem_cons.mpr ⟨lw_u13_23, fun _ h => absurd h List.not_mem_nil⟩⟩⟩⟩⟩⟩⟩⟩⟩⟩⟩⟩⟩⟩⟩⟩⟩⟩⟩⟩⟩⟩⟩⟩
set_option maxRecDepth 100000 in
theorem lw_u14_0 : Cond.methodLink RX1 46 yX0_keyAt ∈ lw_tbl := List.mem_append_right _ (List.mem_append_right _ (List.mem_append_left _ (List.mem_of_getElem? (i := 197) rfl)))
set_option maxRecDepth 100000 in
theorem lw_u14_1 : Cond.instanceMethod yX0_keyAt ∈ lw_tbl := List.mem_append_right _ (List.mem_append_right _ (List.mem_append_left _ (List.mem_of_getElem? (i := 198) rfl)))
set_option maxRecDepth 100000 in
theorem lw_u14_2 : Cond.selects RX0 yX0_keyAt yX0_keyAt ∈ lw_tbl := List.mem_append_right _ (List.mem_append_right _ (List.mem_append_left _ (List.mem_of_getElem? (i := 199) rfl)))
set_option maxRecDepth 100000 in
theorem lw_u14_3 : Cond.code yX0_keyAt cX0_keyAt 3 (some .int) ∈ lw_tbl := List.mem_append_right _ (List.mem_append_right _ (List.mem_append_left _ (List.mem_of_getElem? (i := 200) rfl)))
set_option maxRecDepth 100000 in
theorem lw_u14_4 : Cond.methodLink RX1 49 yX0_tagAt ∈ lw_tbl := List.mem_append_right _ (List.mem_append_right _ (List.mem_append_left _ (List.mem_of_getElem? (i := 201) rfl)))
set_option maxRecDepth 100000 in
theorem lw_u14_5 : Cond.instanceMethod yX0_tagAt ∈ lw_tbl := List.mem_append_right _ (List.mem_append_right _ (List.mem_append_left _ (List.mem_of_getElem? (i := 202) rfl)))
set_option maxRecDepth 100000 in
theorem lw_u14_6 : Cond.selects RX0 yX0_tagAt yX0_tagAt ∈ lw_tbl := List.mem_append_right _ (List.mem_append_right _ (List.mem_append_left _ (List.mem_of_getElem? (i := 203) rfl)))
set_option maxRecDepth 100000 in
theorem lw_u14_7 : Cond.code yX0_tagAt cX0_tagAt 3 (some .int) ∈ lw_tbl := List.mem_append_right _ (List.mem_append_right _ (List.mem_append_left _ (List.mem_of_getElem? (i := 204) rfl)))
set_option maxRecDepth 100000 in
theorem lw_u14_8 : Cond.methodLink RX1 52 yX0_nextOf ∈ lw_tbl := List.mem_append_right _ (List.mem_append_right _ (List.mem_append_left _ (List.mem_of_getElem? (i := 205) rfl)))
set_option maxRecDepth 100000 in
theorem lw_u14_9 : Cond.methodLink RX5 167 yX1_keyOf ∈ lw_tbl := List.mem_append_right _ (List.mem_append_right _ (List.mem_append_left _ (List.mem_of_getElem? (i := 206) rfl)))
set_option maxRecDepth 100000 in
theorem lw_u14_10 : Cond.instanceMethod yX1_keyOf ∈ lw_tbl := List.mem_append_right _ (List.mem_append_right _ (List.mem_append_left _ (List.mem_of_getElem? (i := 207) rfl)))
set_option maxRecDepth 100000 in
theorem lw_u14_11 : Cond.selects RX1 yX1_keyOf yX1_keyOf ∈ lw_tbl := List.mem_append_right _ (List.mem_append_right _ (List.mem_append_left _ (List.mem_of_getElem? (i := 208) rfl)))
set_option maxRecDepth 100000 in
theorem lw_u14_12 : Cond.code yX1_keyOf cX1_keyOf 3 (some .int) ∈ lw_tbl := List.mem_append_right _ (List.mem_append_right _ (List.mem_append_left _ (List.mem_of_getElem? (i := 209) rfl)))
set_option maxRecDepth 100000 in
theorem lw_u14_13 : Cond.methodLink RX1 65 yX1_isUsedUp ∈ lw_tbl := List.mem_append_right _ (List.mem_append_right _ (List.mem_append_left _ (List.mem_of_getElem? (i := 210) rfl)))
set_option maxRecDepth 100000 in
theorem lw_u14_14 : Cond.methodLink RX5 168 yX1_tagOf ∈ lw_tbl := List.mem_append_right _ (List.mem_append_right _ (List.mem_append_left _ (List.mem_of_getElem? (i := 211) rfl)))
set_option maxRecDepth 100000 in
theorem lw_u14_15 : Cond.instanceMethod yX1_tagOf ∈ lw_tbl := List.mem_append_right _ (List.mem_append_right _ (List.mem_append_left _ (List.mem_of_getElem? (i := 212) rfl)))
set_option maxRecDepth 100000 in
theorem lw_u14_16 : Cond.selects RX1 yX1_tagOf yX1_tagOf ∈ lw_tbl := List.mem_append_right _ (List.mem_append_right _ (List.mem_append_left _ (List.mem_of_getElem? (i := 213) rfl)))
set_option maxRecDepth 100000 in
theorem lw_u14_17 : Cond.code yX1_tagOf cX1_tagOf 3 (some .int) ∈ lw_tbl := List.mem_append_right _ (List.mem_append_right _ (List.mem_append_left _ (List.mem_of_getElem? (i := 214) rfl)))
set_option maxRecDepth 100000 in
theorem lw_u14_18 : Cond.methodLink RX5 157 yX3_enter ∈ lw_tbl := List.mem_append_right _ (List.mem_append_right _ (List.mem_append_left _ (List.mem_of_getElem? (i := 215) rfl)))
set_option maxRecDepth 100000 in
theorem lw_u14_19 : Cond.instanceMethod yX3_enter ∈ lw_tbl := List.mem_append_right _ (List.mem_append_right _ (List.mem_append_left _ (List.mem_of_getElem? (i := 216) rfl)))
set_option maxRecDepth 100000 in
theorem lw_u14_20 : Cond.selects RX3 yX3_enter yX3_enter ∈ lw_tbl := List.mem_append_right _ (List.mem_append_right _ (List.mem_append_left _ (List.mem_of_getElem? (i := 217) rfl)))
set_option maxRecDepth 100000 in
theorem lw_u14_21 : Cond.code yX3_enter cX3_enter 6 none ∈ lw_tbl := List.mem_append_right _ (List.mem_append_right _ (List.mem_append_left _ (List.mem_of_getElem? (i := 218) rfl)))
set_option maxRecDepth 100000 in
theorem lw_u14_22 : Cond.methodLink RX3 45 yX3_isLeaf ∈ lw_tbl := List.mem_append_right _ (List.mem_append_right _ (List.mem_append_left _ (List.mem_of_getElem? (i := 219) rfl)))
set_option maxRecDepth 100000 in
theorem lw_u14_23 : Cond.instanceMethod yX3_isLeaf ∈ lw_tbl := List.mem_append_right _ (List.mem_append_right _ (List.mem_append_left _ (List.mem_of_getElem? (i := 221) rfl)))
theorem lw_ru14 : ∀ w ∈ wsL_law_r14, w ∈ lw_tbl := List.forall_mem_cons.mpr ⟨lw_u14_0, List.forall_mem_cons.mpr ⟨lw_u14_1, List.forall_mem_cons.mpr ⟨lw_u14_2, List.forall_mem_cons.mpr ⟨lw_u14_3, List.forall_mem_cons.mpr ⟨lw_u14_4, List.forall_mem_cons.mpr ⟨lw_u14_5, List.forall_mem_cons.mpr ⟨lw_u14_6, List.forall_mem_cons.mpr ⟨lw_u14_7, List.forall_mem_cons.mpr ⟨lw_u14_8, List.forall_mem_cons.mpr ⟨lw_u14_9, List.forall_mem_cons.mpr ⟨lw_u14_10, List.forall_mem_cons.mpr ⟨lw_u14_11, List.forall_mem_cons.mpr ⟨lw_u14_12, List.forall_mem_cons.mpr ⟨lw_u14_13, List.forall_mem_cons.mpr ⟨lw_u14_14, List.forall_mem_cons.mpr ⟨lw_u14_15, List.forall_mem_cons.mpr ⟨lw_u14_16, List.forall_mem_cons.mpr ⟨lw_u14_17, List.forall_mem_cons.mpr ⟨lw_u14_18, List.forall_mem_cons.mpr ⟨lw_u14_19, List.forall_mem_cons.mpr ⟨lw_u14_20, List.forall_mem_cons.mpr ⟨lw_u14_21, List.forall_mem_cons.mpr ⟨lw_u14_22, List.forall_mem_cons.mpr ⟨lw_u14_23, fun _ h => absurd h List.not_mem_nil⟩⟩⟩⟩⟩⟩⟩⟩⟩⟩⟩⟩⟩⟩⟩⟩⟩⟩⟩⟩⟩⟩⟩⟩
set_option maxRecDepth 100000 in
theorem lw_u15_0 : Cond.selects RX3 yX3_isLeaf yX3_isLeaf ∈ lw_tbl := List.mem_append_left _ (List.mem_of_getElem? (i := 7) rfl)
set_option maxRecDepth 100000 in
theorem lw_u15_1 : Cond.code yX3_isLeaf cX3_isLeaf 2 (some .boolean) ∈ lw_tbl := List.mem_append_right _ (List.mem_append_right _ (List.mem_append_left _ (List.mem_of_getElem? (i := 222) rfl)))
set_option maxRecDepth 100000 in
theorem lw_u15_2 : Cond.methodLink RX5 169 yX1_step ∈ lw_tbl := List.mem_append_right _ (List.mem_append_right _ (List.mem_append_left _ (List.mem_of_getElem? (i := 223) rfl)))
set_option maxRecDepth 100000 in
theorem lw_u15_3 : Cond.instanceMethod yX1_step ∈ lw_tbl := List.mem_append_right _ (List.mem_append_right _ (List.mem_append_left _ (List.mem_of_getElem? (i := 224) rfl)))
set_option maxRecDepth 100000 in
theorem lw_u15_4 : Cond.selects RX1 yX1_step yX1_step ∈ lw_tbl := List.mem_append_right _ (List.mem_append_right _ (List.mem_append_left _ (List.mem_of_getElem? (i := 225) rfl)))
set_option maxRecDepth 100000 in
theorem lw_u15_5 : Cond.code yX1_step cX1_step 2 none ∈ lw_tbl := List.mem_append_right _ (List.mem_append_right _ (List.mem_append_left _ (List.mem_of_getElem? (i := 226) rfl)))
set_option maxRecDepth 100000 in
theorem lw_u15_6 : Cond.methodLink RX5 89 yX3_build ∈ lw_tbl := List.mem_append_right _ (List.mem_append_right _ (List.mem_append_left _ (List.mem_of_getElem? (i := 227) rfl)))
set_option maxRecDepth 100000 in
theorem lw_u15_7 : Cond.instanceMethod yX3_build ∈ lw_tbl := List.mem_append_right _ (List.mem_append_right _ (List.mem_append_left _ (List.mem_of_getElem? (i := 228) rfl)))
set_option maxRecDepth 100000 in
theorem lw_u15_8 : Cond.selects RX3 yX3_build yX3_build ∈ lw_tbl := List.mem_append_right _ (List.mem_append_right _ (List.mem_append_left _ (List.mem_of_getElem? (i := 229) rfl)))
set_option maxRecDepth 100000 in
theorem lw_u15_9 : Cond.code yX3_build cX3_build 2 none ∈ lw_tbl := List.mem_append_right _ (List.mem_append_right _ (List.mem_append_left _ (List.mem_of_getElem? (i := 230) rfl)))
set_option maxRecDepth 100000 in
theorem lw_u15_10 : Cond.methodLink RX3 50 yX3_climb ∈ lw_tbl := List.mem_append_right _ (List.mem_append_right _ (List.mem_append_left _ (List.mem_of_getElem? (i := 231) rfl)))
set_option maxRecDepth 100000 in
theorem lw_u15_11 : Cond.instanceMethod yX3_climb ∈ lw_tbl := List.mem_append_right _ (List.mem_append_right _ (List.mem_append_left _ (List.mem_of_getElem? (i := 232) rfl)))
set_option maxRecDepth 100000 in
theorem lw_u15_12 : Cond.selects RX3 yX3_climb yX3_climb ∈ lw_tbl := List.mem_append_right _ (List.mem_append_right _ (List.mem_append_left _ (List.mem_of_getElem? (i := 233) rfl)))
set_option maxRecDepth 100000 in
theorem lw_u15_13 : Cond.code yX3_climb cX3_climb 5 none ∈ lw_tbl := List.mem_append_right _ (List.mem_append_right _ (List.mem_append_left _ (List.mem_of_getElem? (i := 234) rfl)))
set_option maxRecDepth 100000 in
theorem lw_u15_14 : Cond.methodLink RX3 54 yX3_beats ∈ lw_tbl := List.mem_append_right _ (List.mem_append_right _ (List.mem_append_left _ (List.mem_of_getElem? (i := 235) rfl)))
set_option maxRecDepth 100000 in
theorem lw_u15_15 : Cond.instanceMethod yX3_beats ∈ lw_tbl := List.mem_append_right _ (List.mem_append_right _ (List.mem_append_left _ (List.mem_of_getElem? (i := 237) rfl)))
set_option maxRecDepth 100000 in
theorem lw_u15_16 : Cond.selects RX3 yX3_beats yX3_beats ∈ lw_tbl := List.mem_append_left _ (List.mem_of_getElem? (i := 8) rfl)
set_option maxRecDepth 100000 in
theorem lw_u15_17 : Cond.code yX3_beats cX3_beats 4 (some .boolean) ∈ lw_tbl := List.mem_append_right _ (List.mem_append_right _ (List.mem_append_left _ (List.mem_of_getElem? (i := 238) rfl)))
set_option maxRecDepth 100000 in
theorem lw_u15_18 : Cond.static yX7_inOrder ∈ lw_tbl := List.mem_append_right _ (List.mem_append_right _ (List.mem_append_right _ (List.mem_append_left _ (List.mem_of_getElem? (i := 0) rfl))))
set_option maxRecDepth 100000 in
theorem lw_u15_19 : Cond.code yX7_inOrder cX7_inOrder 6 (some .int) ∈ lw_tbl := List.mem_append_right _ (List.mem_append_right _ (List.mem_append_right _ (List.mem_append_left _ (List.mem_of_getElem? (i := 1) rfl))))
set_option maxRecDepth 100000 in
theorem lw_u15_20 : Cond.methodLink RX5 92 yX4_open ∈ lw_tbl := List.mem_append_right _ (List.mem_append_right _ (List.mem_append_right _ (List.mem_append_left _ (List.mem_of_getElem? (i := 2) rfl))))
set_option maxRecDepth 100000 in
theorem lw_u15_21 : Cond.instanceMethod yX4_open ∈ lw_tbl := List.mem_append_right _ (List.mem_append_right _ (List.mem_append_right _ (List.mem_append_left _ (List.mem_of_getElem? (i := 3) rfl))))
set_option maxRecDepth 100000 in
theorem lw_u15_22 : Cond.selects RX4 yX4_open yX4_open ∈ lw_tbl := List.mem_append_right _ (List.mem_append_right _ (List.mem_append_right _ (List.mem_append_left _ (List.mem_of_getElem? (i := 4) rfl))))
set_option maxRecDepth 100000 in
theorem lw_u15_23 : Cond.code yX4_open cX4_open 2 none ∈ lw_tbl := List.mem_append_right _ (List.mem_append_right _ (List.mem_append_right _ (List.mem_append_left _ (List.mem_of_getElem? (i := 5) rfl))))
theorem lw_ru15 : ∀ w ∈ wsL_law_r15, w ∈ lw_tbl := List.forall_mem_cons.mpr ⟨lw_u15_0, List.forall_mem_cons.mpr ⟨lw_u15_1, List.forall_mem_cons.mpr ⟨lw_u15_2, List.forall_mem_cons.mpr ⟨lw_u15_3, List.forall_mem_cons.mpr ⟨lw_u15_4, List.forall_mem_cons.mpr ⟨lw_u15_5, List.forall_mem_cons.mpr ⟨lw_u15_6, List.forall_mem_cons.mpr ⟨lw_u15_7, List.forall_mem_cons.mpr ⟨lw_u15_8, List.forall_mem_cons.mpr ⟨lw_u15_9, List.forall_mem_cons.mpr ⟨lw_u15_10, List.forall_mem_cons.mpr ⟨lw_u15_11, List.forall_mem_cons.mpr ⟨lw_u15_12, List.forall_mem_cons.mpr ⟨lw_u15_13, List.forall_mem_cons.mpr ⟨lw_u15_14, List.forall_mem_cons.mpr ⟨lw_u15_15, List.forall_mem_cons.mpr ⟨lw_u15_16, List.forall_mem_cons.mpr ⟨lw_u15_17, List.forall_mem_cons.mpr ⟨lw_u15_18, List.forall_mem_cons.mpr ⟨lw_u15_19, List.forall_mem_cons.mpr ⟨lw_u15_20, List.forall_mem_cons.mpr ⟨lw_u15_21, List.forall_mem_cons.mpr ⟨lw_u15_22, List.forall_mem_cons.mpr ⟨lw_u15_23, fun _ h => absurd h List.not_mem_nil⟩⟩⟩⟩⟩⟩⟩⟩⟩⟩⟩⟩⟩⟩⟩⟩⟩⟩⟩⟩⟩⟩⟩⟩
set_option maxRecDepth 100000 in
theorem lw_u16_0 : Cond.fieldLink RX4 28 "ExternalSort$Output" "once" "Z" ∈ lw_tbl := List.mem_append_right _ (List.mem_append_left _ (List.mem_of_getElem? (i := 128) rfl))
set_option maxRecDepth 100000 in
theorem lw_u16_1 : Cond.fieldLink RX4 32 "ExternalSort$Output" "head" "I" ∈ lw_tbl := List.mem_append_right _ (List.mem_append_left _ (List.mem_of_getElem? (i := 115) rfl))
set_option maxRecDepth 100000 in
theorem lw_u16_2 : Cond.fieldLink RX4 35 "ExternalSort$Output" "tail" "I" ∈ lw_tbl := List.mem_append_right _ (List.mem_append_left _ (List.mem_of_getElem? (i := 130) rfl))
set_option maxRecDepth 100000 in
theorem lw_u16_3 : Cond.fieldLink RX4 38 "ExternalSort$Output" "count" "I" ∈ lw_tbl := List.mem_append_right _ (List.mem_append_left _ (List.mem_of_getElem? (i := 118) rfl))
set_option maxRecDepth 100000 in
theorem lw_u16_4 : Cond.fieldLink RX4 41 "ExternalSort$Output" "filled" "I" ∈ lw_tbl := List.mem_append_right _ (List.mem_append_left _ (List.mem_of_getElem? (i := 129) rfl))
set_option maxRecDepth 100000 in
theorem lw_u16_5 : Cond.methodLink RX5 98 yX3_winner ∈ lw_tbl := List.mem_append_right _ (List.mem_append_right _ (List.mem_append_right _ (List.mem_append_left _ (List.mem_of_getElem? (i := 6) rfl))))
set_option maxRecDepth 100000 in
theorem lw_u16_6 : Cond.instanceMethod yX3_winner ∈ lw_tbl := List.mem_append_right _ (List.mem_append_right _ (List.mem_append_right _ (List.mem_append_left _ (List.mem_of_getElem? (i := 7) rfl))))
set_option maxRecDepth 100000 in
theorem lw_u16_7 : Cond.selects RX3 yX3_winner yX3_winner ∈ lw_tbl := List.mem_append_right _ (List.mem_append_right _ (List.mem_append_right _ (List.mem_append_left _ (List.mem_of_getElem? (i := 8) rfl))))
set_option maxRecDepth 100000 in
theorem lw_u16_8 : Cond.code yX3_winner cX3_winner 1 (some .int) ∈ lw_tbl := List.mem_append_right _ (List.mem_append_right _ (List.mem_append_right _ (List.mem_append_left _ (List.mem_of_getElem? (i := 9) rfl))))
set_option maxRecDepth 100000 in
theorem lw_u16_9 : Cond.methodLink RX5 102 yX3_roundOf ∈ lw_tbl := List.mem_append_right _ (List.mem_append_right _ (List.mem_append_right _ (List.mem_append_left _ (List.mem_of_getElem? (i := 10) rfl))))
set_option maxRecDepth 100000 in
theorem lw_u16_10 : Cond.instanceMethod yX3_roundOf ∈ lw_tbl := List.mem_append_right _ (List.mem_append_right _ (List.mem_append_right _ (List.mem_append_left _ (List.mem_of_getElem? (i := 11) rfl))))
set_option maxRecDepth 100000 in
theorem lw_u16_11 : Cond.selects RX3 yX3_roundOf yX3_roundOf ∈ lw_tbl := List.mem_append_right _ (List.mem_append_right _ (List.mem_append_right _ (List.mem_append_left _ (List.mem_of_getElem? (i := 12) rfl))))
set_option maxRecDepth 100000 in
theorem lw_u16_12 : Cond.code yX3_roundOf cX3_roundOf 2 (some .int) ∈ lw_tbl := List.mem_append_right _ (List.mem_append_right _ (List.mem_append_right _ (List.mem_append_left _ (List.mem_of_getElem? (i := 13) rfl))))
set_option maxRecDepth 100000 in
theorem lw_u16_13 : Cond.constant RX3 49 (2147483647) ∈ lw_tbl := List.mem_append_right _ (List.mem_append_right _ (List.mem_append_right _ (List.mem_append_left _ (List.mem_of_getElem? (i := 14) rfl))))
set_option maxRecDepth 100000 in
theorem lw_u16_14 : Cond.methodLink RX5 106 yX5_endRun ∈ lw_tbl := List.mem_append_right _ (List.mem_append_right _ (List.mem_append_right _ (List.mem_append_left _ (List.mem_of_getElem? (i := 15) rfl))))
set_option maxRecDepth 100000 in
theorem lw_u16_15 : Cond.instanceMethod yX5_endRun ∈ lw_tbl := List.mem_append_right _ (List.mem_append_right _ (List.mem_append_right _ (List.mem_append_left _ (List.mem_of_getElem? (i := 17) rfl))))
set_option maxRecDepth 100000 in
theorem lw_u16_16 : Cond.selects RX5 yX5_endRun yX5_endRun ∈ lw_tbl := List.mem_append_left _ (List.mem_of_getElem? (i := 9) rfl)
set_option maxRecDepth 100000 in
theorem lw_u16_17 : Cond.code yX5_endRun cX5_endRun 1 (some .boolean) ∈ lw_tbl := List.mem_append_right _ (List.mem_append_right _ (List.mem_append_right _ (List.mem_append_left _ (List.mem_of_getElem? (i := 18) rfl))))
set_option maxRecDepth 100000 in
theorem lw_u16_18 : Cond.fieldLink RX5 175 "ExternalSort$Disk" "tally" "LExternalSort$Tally;" ∈ lw_tbl := List.mem_append_right _ (List.mem_append_left _ (List.mem_of_getElem? (i := 83) rfl))
set_option maxRecDepth 100000 in
theorem lw_u16_19 : Cond.fieldLink RX5 179 "ExternalSort$Output" "count" "I" ∈ lw_tbl := List.mem_append_right _ (List.mem_append_left _ (List.mem_of_getElem? (i := 120) rfl))
set_option maxRecDepth 100000 in
theorem lw_u16_20 : Cond.fieldLink RX5 187 "ExternalSort$Output" "head" "I" ∈ lw_tbl := List.mem_append_right _ (List.mem_append_left _ (List.mem_of_getElem? (i := 117) rfl))
set_option maxRecDepth 100000 in
theorem lw_u16_21 : Cond.methodLink RX5 172 yX4_close ∈ lw_tbl := List.mem_append_right _ (List.mem_append_right _ (List.mem_append_right _ (List.mem_append_left _ (List.mem_of_getElem? (i := 19) rfl))))
set_option maxRecDepth 100000 in
theorem lw_u16_22 : Cond.instanceMethod yX4_close ∈ lw_tbl := List.mem_append_right _ (List.mem_append_right _ (List.mem_append_right _ (List.mem_append_left _ (List.mem_of_getElem? (i := 20) rfl))))
set_option maxRecDepth 100000 in
theorem lw_u16_23 : Cond.selects RX4 yX4_close yX4_close ∈ lw_tbl := List.mem_append_right _ (List.mem_append_right _ (List.mem_append_right _ (List.mem_append_left _ (List.mem_of_getElem? (i := 21) rfl))))
theorem lw_ru16 : ∀ w ∈ wsL_law_r16, w ∈ lw_tbl := List.forall_mem_cons.mpr ⟨lw_u16_0, List.forall_mem_cons.mpr ⟨lw_u16_1, List.forall_mem_cons.mpr ⟨lw_u16_2, List.forall_mem_cons.mpr ⟨lw_u16_3, List.forall_mem_cons.mpr ⟨lw_u16_4, List.forall_mem_cons.mpr ⟨lw_u16_5, List.forall_mem_cons.mpr ⟨lw_u16_6, List.forall_mem_cons.mpr ⟨lw_u16_7, List.forall_mem_cons.mpr ⟨lw_u16_8, List.forall_mem_cons.mpr ⟨lw_u16_9, List.forall_mem_cons.mpr ⟨lw_u16_10, List.forall_mem_cons.mpr ⟨lw_u16_11, List.forall_mem_cons.mpr ⟨lw_u16_12, List.forall_mem_cons.mpr ⟨lw_u16_13, List.forall_mem_cons.mpr ⟨lw_u16_14, List.forall_mem_cons.mpr ⟨lw_u16_15, List.forall_mem_cons.mpr ⟨lw_u16_16, List.forall_mem_cons.mpr ⟨lw_u16_17, List.forall_mem_cons.mpr ⟨lw_u16_18, List.forall_mem_cons.mpr ⟨lw_u16_19, List.forall_mem_cons.mpr ⟨lw_u16_20, List.forall_mem_cons.mpr ⟨lw_u16_21, List.forall_mem_cons.mpr ⟨lw_u16_22, List.forall_mem_cons.mpr ⟨lw_u16_23, fun _ h => absurd h List.not_mem_nil⟩⟩⟩⟩⟩⟩⟩⟩⟩⟩⟩⟩⟩⟩⟩⟩⟩⟩⟩⟩⟩⟩⟩⟩
set_option maxRecDepth 100000 in
theorem lw_u17_0 : Cond.code yX4_close cX4_close 1 (some .boolean) ∈ lw_tbl := List.mem_append_right _ (List.mem_append_right _ (List.mem_append_right _ (List.mem_append_left _ (List.mem_of_getElem? (i := 22) rfl))))
set_option maxRecDepth 100000 in
theorem lw_u17_1 : Cond.methodLink RX4 50 yX4_writePage ∈ lw_tbl := List.mem_append_right _ (List.mem_append_right _ (List.mem_append_right _ (List.mem_append_left _ (List.mem_of_getElem? (i := 23) rfl))))
set_option maxRecDepth 100000 in
theorem lw_u17_2 : Cond.instanceMethod yX4_writePage ∈ lw_tbl := List.mem_append_right _ (List.mem_append_right _ (List.mem_append_right _ (List.mem_append_left _ (List.mem_of_getElem? (i := 25) rfl))))
set_option maxRecDepth 100000 in
theorem lw_u17_3 : Cond.selects RX4 yX4_writePage yX4_writePage ∈ lw_tbl := List.mem_append_left _ (List.mem_of_getElem? (i := 10) rfl)
set_option maxRecDepth 100000 in
theorem lw_u17_4 : Cond.code yX4_writePage cX4_writePage 3 (some .boolean) ∈ lw_tbl := List.mem_append_right _ (List.mem_append_right _ (List.mem_append_right _ (List.mem_append_left _ (List.mem_of_getElem? (i := 26) rfl))))
set_option maxRecDepth 100000 in
theorem lw_u17_5 : Cond.fieldLink RX4 66 "ExternalSort$Disk" "tally" "LExternalSort$Tally;" ∈ lw_tbl := List.mem_append_right _ (List.mem_append_left _ (List.mem_of_getElem? (i := 81) rfl))
set_option maxRecDepth 100000 in
theorem lw_u17_6 : Cond.fieldLink RX4 70 "ExternalSort$Tally" "writes" "I" ∈ lw_tbl := List.mem_append_right _ (List.mem_append_left _ (List.mem_of_getElem? (i := 37) rfl))
set_option maxRecDepth 100000 in
theorem lw_u17_7 : Cond.methodLink RX4 54 yX0_take ∈ lw_tbl := List.mem_append_right _ (List.mem_append_right _ (List.mem_append_right _ (List.mem_append_left _ (List.mem_of_getElem? (i := 27) rfl))))
set_option maxRecDepth 100000 in
theorem lw_u17_8 : Cond.methodLink RX4 58 yX0_store ∈ lw_tbl := List.mem_append_right _ (List.mem_append_right _ (List.mem_append_right _ (List.mem_append_left _ (List.mem_of_getElem? (i := 28) rfl))))
set_option maxRecDepth 100000 in
theorem lw_u17_9 : Cond.methodLink RX4 62 yX0_link ∈ lw_tbl := List.mem_append_right _ (List.mem_append_right _ (List.mem_append_right _ (List.mem_append_left _ (List.mem_of_getElem? (i := 29) rfl))))
set_option maxRecDepth 100000 in
theorem lw_u17_10 : Cond.methodLink RX5 182 yX6_addRun ∈ lw_tbl := List.mem_append_right _ (List.mem_append_right _ (List.mem_append_right _ (List.mem_append_left _ (List.mem_of_getElem? (i := 30) rfl))))
set_option maxRecDepth 100000 in
theorem lw_u17_11 : Cond.instanceMethod yX6_addRun ∈ lw_tbl := List.mem_append_right _ (List.mem_append_right _ (List.mem_append_right _ (List.mem_append_left _ (List.mem_of_getElem? (i := 31) rfl))))
set_option maxRecDepth 100000 in
theorem lw_u17_12 : Cond.selects RX6 yX6_addRun yX6_addRun ∈ lw_tbl := List.mem_append_right _ (List.mem_append_right _ (List.mem_append_right _ (List.mem_append_left _ (List.mem_of_getElem? (i := 32) rfl))))
set_option maxRecDepth 100000 in
theorem lw_u17_13 : Cond.code yX6_addRun cX6_addRun 2 none ∈ lw_tbl := List.mem_append_right _ (List.mem_append_right _ (List.mem_append_right _ (List.mem_append_left _ (List.mem_of_getElem? (i := 33) rfl))))
set_option maxRecDepth 100000 in
theorem lw_u17_14 : Cond.methodLink RX5 190 yX5_keepRun ∈ lw_tbl := List.mem_append_right _ (List.mem_append_right _ (List.mem_append_right _ (List.mem_append_left _ (List.mem_of_getElem? (i := 34) rfl))))
set_option maxRecDepth 100000 in
theorem lw_u17_15 : Cond.instanceMethod yX5_keepRun ∈ lw_tbl := List.mem_append_right _ (List.mem_append_right _ (List.mem_append_right _ (List.mem_append_left _ (List.mem_of_getElem? (i := 36) rfl))))
set_option maxRecDepth 100000 in
theorem lw_u17_16 : Cond.selects RX5 yX5_keepRun yX5_keepRun ∈ lw_tbl := List.mem_append_left _ (List.mem_of_getElem? (i := 11) rfl)
set_option maxRecDepth 100000 in
theorem lw_u17_17 : Cond.code yX5_keepRun cX5_keepRun 4 none ∈ lw_tbl := List.mem_append_right _ (List.mem_append_right _ (List.mem_append_right _ (List.mem_append_left _ (List.mem_of_getElem? (i := 37) rfl))))
set_option maxRecDepth 100000 in
theorem lw_u17_18 : Cond.methodLink RX5 109 yX3_keyOf ∈ lw_tbl := List.mem_append_right _ (List.mem_append_right _ (List.mem_append_right _ (List.mem_append_left _ (List.mem_of_getElem? (i := 38) rfl))))
set_option maxRecDepth 100000 in
theorem lw_u17_19 : Cond.instanceMethod yX3_keyOf ∈ lw_tbl := List.mem_append_right _ (List.mem_append_right _ (List.mem_append_right _ (List.mem_append_left _ (List.mem_of_getElem? (i := 39) rfl))))
set_option maxRecDepth 100000 in
theorem lw_u17_20 : Cond.selects RX3 yX3_keyOf yX3_keyOf ∈ lw_tbl := List.mem_append_right _ (List.mem_append_right _ (List.mem_append_right _ (List.mem_append_left _ (List.mem_of_getElem? (i := 40) rfl))))
set_option maxRecDepth 100000 in
theorem lw_u17_21 : Cond.code yX3_keyOf cX3_keyOf 2 (some .int) ∈ lw_tbl := List.mem_append_right _ (List.mem_append_right _ (List.mem_append_right _ (List.mem_append_left _ (List.mem_of_getElem? (i := 41) rfl))))
set_option maxRecDepth 100000 in
theorem lw_u17_22 : Cond.methodLink RX5 112 yX3_tagOf ∈ lw_tbl := List.mem_append_right _ (List.mem_append_right _ (List.mem_append_right _ (List.mem_append_left _ (List.mem_of_getElem? (i := 42) rfl))))
set_option maxRecDepth 100000 in
theorem lw_u17_23 : Cond.instanceMethod yX3_tagOf ∈ lw_tbl := List.mem_append_right _ (List.mem_append_right _ (List.mem_append_right _ (List.mem_append_left _ (List.mem_of_getElem? (i := 43) rfl))))
theorem lw_ru17 : ∀ w ∈ wsL_law_r17, w ∈ lw_tbl := List.forall_mem_cons.mpr ⟨lw_u17_0, List.forall_mem_cons.mpr ⟨lw_u17_1, List.forall_mem_cons.mpr ⟨lw_u17_2, List.forall_mem_cons.mpr ⟨lw_u17_3, List.forall_mem_cons.mpr ⟨lw_u17_4, List.forall_mem_cons.mpr ⟨lw_u17_5, List.forall_mem_cons.mpr ⟨lw_u17_6, List.forall_mem_cons.mpr ⟨lw_u17_7, List.forall_mem_cons.mpr ⟨lw_u17_8, List.forall_mem_cons.mpr ⟨lw_u17_9, List.forall_mem_cons.mpr ⟨lw_u17_10, List.forall_mem_cons.mpr ⟨lw_u17_11, List.forall_mem_cons.mpr ⟨lw_u17_12, List.forall_mem_cons.mpr ⟨lw_u17_13, List.forall_mem_cons.mpr ⟨lw_u17_14, List.forall_mem_cons.mpr ⟨lw_u17_15, List.forall_mem_cons.mpr ⟨lw_u17_16, List.forall_mem_cons.mpr ⟨lw_u17_17, List.forall_mem_cons.mpr ⟨lw_u17_18, List.forall_mem_cons.mpr ⟨lw_u17_19, List.forall_mem_cons.mpr ⟨lw_u17_20, List.forall_mem_cons.mpr ⟨lw_u17_21, List.forall_mem_cons.mpr ⟨lw_u17_22, List.forall_mem_cons.mpr ⟨lw_u17_23, fun _ h => absurd h List.not_mem_nil⟩⟩⟩⟩⟩⟩⟩⟩⟩⟩⟩⟩⟩⟩⟩⟩⟩⟩⟩⟩⟩⟩⟩⟩
set_option maxRecDepth 100000 in
theorem lw_u18_0 : Cond.selects RX3 yX3_tagOf yX3_tagOf ∈ lw_tbl := List.mem_append_right _ (List.mem_append_right _ (List.mem_append_right _ (List.mem_append_left _ (List.mem_of_getElem? (i := 44) rfl))))
set_option maxRecDepth 100000 in
theorem lw_u18_1 : Cond.code yX3_tagOf cX3_tagOf 2 (some .int) ∈ lw_tbl := List.mem_append_right _ (List.mem_append_right _ (List.mem_append_right _ (List.mem_append_left _ (List.mem_of_getElem? (i := 45) rfl))))
set_option maxRecDepth 100000 in
theorem lw_u18_2 : Cond.methodLink RX5 115 yX4_put ∈ lw_tbl := List.mem_append_right _ (List.mem_append_right _ (List.mem_append_right _ (List.mem_append_left _ (List.mem_of_getElem? (i := 46) rfl))))
set_option maxRecDepth 100000 in
theorem lw_u18_3 : Cond.instanceMethod yX4_put ∈ lw_tbl := List.mem_append_right _ (List.mem_append_right _ (List.mem_append_right _ (List.mem_append_left _ (List.mem_of_getElem? (i := 47) rfl))))
set_option maxRecDepth 100000 in
theorem lw_u18_4 : Cond.selects RX4 yX4_put yX4_put ∈ lw_tbl := List.mem_append_right _ (List.mem_append_right _ (List.mem_append_right _ (List.mem_append_left _ (List.mem_of_getElem? (i := 48) rfl))))
set_option maxRecDepth 100000 in
theorem lw_u18_5 : Cond.code yX4_put cX4_put 3 (some .boolean) ∈ lw_tbl := List.mem_append_right _ (List.mem_append_right _ (List.mem_append_right _ (List.mem_append_left _ (List.mem_of_getElem? (i := 49) rfl))))
set_option maxRecDepth 100000 in
theorem lw_u18_6 : Cond.fieldLink RX4 44 "ExternalSort$Output" "lastKey" "I" ∈ lw_tbl := List.mem_append_right _ (List.mem_append_left _ (List.mem_of_getElem? (i := 121) rfl))
set_option maxRecDepth 100000 in
theorem lw_u18_7 : Cond.fieldLink RX4 47 "ExternalSort$Output" "lastTag" "I" ∈ lw_tbl := List.mem_append_right _ (List.mem_append_left _ (List.mem_of_getElem? (i := 123) rfl))
set_option maxRecDepth 100000 in
theorem lw_u18_8 : Cond.methodLink RX5 118 yX5_replace ∈ lw_tbl := List.mem_append_right _ (List.mem_append_right _ (List.mem_append_right _ (List.mem_append_left _ (List.mem_of_getElem? (i := 50) rfl))))
set_option maxRecDepth 100000 in
theorem lw_u18_9 : Cond.instanceMethod yX5_replace ∈ lw_tbl := List.mem_append_right _ (List.mem_append_right _ (List.mem_append_right _ (List.mem_append_left _ (List.mem_of_getElem? (i := 52) rfl))))
set_option maxRecDepth 100000 in
theorem lw_u18_10 : Cond.selects RX5 yX5_replace yX5_replace ∈ lw_tbl := List.mem_append_left _ (List.mem_of_getElem? (i := 12) rfl)
set_option maxRecDepth 100000 in
theorem lw_u18_11 : Cond.code yX5_replace cX5_replace 6 none ∈ lw_tbl := List.mem_append_right _ (List.mem_append_right _ (List.mem_append_right _ (List.mem_append_left _ (List.mem_of_getElem? (i := 53) rfl))))
set_option maxRecDepth 100000 in
theorem lw_u18_12 : Cond.fieldLink RX5 147 "ExternalSort$Output" "lastKey" "I" ∈ lw_tbl := List.mem_append_right _ (List.mem_append_left _ (List.mem_of_getElem? (i := 122) rfl))
set_option maxRecDepth 100000 in
theorem lw_u18_13 : Cond.fieldLink RX5 150 "ExternalSort$Output" "lastTag" "I" ∈ lw_tbl := List.mem_append_right _ (List.mem_append_left _ (List.mem_of_getElem? (i := 124) rfl))
set_option maxRecDepth 100000 in
theorem lw_u18_14 : Cond.methodLink RX5 140 yX1_hasMore ∈ lw_tbl := List.mem_append_right _ (List.mem_append_right _ (List.mem_append_right _ (List.mem_append_left _ (List.mem_of_getElem? (i := 54) rfl))))
set_option maxRecDepth 100000 in
theorem lw_u18_15 : Cond.instanceMethod yX1_hasMore ∈ lw_tbl := List.mem_append_right _ (List.mem_append_right _ (List.mem_append_right _ (List.mem_append_left _ (List.mem_of_getElem? (i := 55) rfl))))
set_option maxRecDepth 100000 in
theorem lw_u18_16 : Cond.selects RX1 yX1_hasMore yX1_hasMore ∈ lw_tbl := List.mem_append_right _ (List.mem_append_right _ (List.mem_append_right _ (List.mem_append_left _ (List.mem_of_getElem? (i := 56) rfl))))
set_option maxRecDepth 100000 in
theorem lw_u18_17 : Cond.code yX1_hasMore cX1_hasMore 2 (some .boolean) ∈ lw_tbl := List.mem_append_right _ (List.mem_append_right _ (List.mem_append_right _ (List.mem_append_left _ (List.mem_of_getElem? (i := 57) rfl))))
set_option maxRecDepth 100000 in
theorem lw_u18_18 : Cond.methodLink RX5 144 yX3_retire ∈ lw_tbl := List.mem_append_right _ (List.mem_append_right _ (List.mem_append_right _ (List.mem_append_left _ (List.mem_of_getElem? (i := 58) rfl))))
set_option maxRecDepth 100000 in
theorem lw_u18_19 : Cond.instanceMethod yX3_retire ∈ lw_tbl := List.mem_append_right _ (List.mem_append_right _ (List.mem_append_right _ (List.mem_append_left _ (List.mem_of_getElem? (i := 59) rfl))))
set_option maxRecDepth 100000 in
theorem lw_u18_20 : Cond.selects RX3 yX3_retire yX3_retire ∈ lw_tbl := List.mem_append_right _ (List.mem_append_right _ (List.mem_append_right _ (List.mem_append_left _ (List.mem_of_getElem? (i := 60) rfl))))
set_option maxRecDepth 100000 in
theorem lw_u18_21 : Cond.code yX3_retire cX3_retire 2 none ∈ lw_tbl := List.mem_append_right _ (List.mem_append_right _ (List.mem_append_right _ (List.mem_append_left _ (List.mem_of_getElem? (i := 61) rfl))))
set_option maxRecDepth 100000 in
theorem lw_u18_22 : Cond.methodLink RX5 122 yX3_climb ∈ lw_tbl := List.mem_append_right _ (List.mem_append_right _ (List.mem_append_right _ (List.mem_append_left _ (List.mem_of_getElem? (i := 63) rfl))))
set_option maxRecDepth 100000 in
theorem lw_u18_23 : Cond.methodLink RX5 76 yX5_mergePass ∈ lw_tbl := List.mem_append_right _ (List.mem_append_right _ (List.mem_append_right _ (List.mem_append_left _ (List.mem_of_getElem? (i := 64) rfl))))
theorem lw_ru18 : ∀ w ∈ wsL_law_r18, w ∈ lw_tbl := List.forall_mem_cons.mpr ⟨lw_u18_0, List.forall_mem_cons.mpr ⟨lw_u18_1, List.forall_mem_cons.mpr ⟨lw_u18_2, List.forall_mem_cons.mpr ⟨lw_u18_3, List.forall_mem_cons.mpr ⟨lw_u18_4, List.forall_mem_cons.mpr ⟨lw_u18_5, List.forall_mem_cons.mpr ⟨lw_u18_6, List.forall_mem_cons.mpr ⟨lw_u18_7, List.forall_mem_cons.mpr ⟨lw_u18_8, List.forall_mem_cons.mpr ⟨lw_u18_9, List.forall_mem_cons.mpr ⟨lw_u18_10, List.forall_mem_cons.mpr ⟨lw_u18_11, List.forall_mem_cons.mpr ⟨lw_u18_12, List.forall_mem_cons.mpr ⟨lw_u18_13, List.forall_mem_cons.mpr ⟨lw_u18_14, List.forall_mem_cons.mpr ⟨lw_u18_15, List.forall_mem_cons.mpr ⟨lw_u18_16, List.forall_mem_cons.mpr ⟨lw_u18_17, List.forall_mem_cons.mpr ⟨lw_u18_18, List.forall_mem_cons.mpr ⟨lw_u18_19, List.forall_mem_cons.mpr ⟨lw_u18_20, List.forall_mem_cons.mpr ⟨lw_u18_21, List.forall_mem_cons.mpr ⟨lw_u18_22, List.forall_mem_cons.mpr ⟨lw_u18_23, fun _ h => absurd h List.not_mem_nil⟩⟩⟩⟩⟩⟩⟩⟩⟩⟩⟩⟩⟩⟩⟩⟩⟩⟩⟩⟩⟩⟩⟩⟩
set_option maxRecDepth 100000 in
theorem lw_u19_0 : Cond.instanceMethod yX5_mergePass ∈ lw_tbl := List.mem_append_right _ (List.mem_append_right _ (List.mem_append_right _ (List.mem_append_left _ (List.mem_of_getElem? (i := 66) rfl))))
set_option maxRecDepth 100000 in
theorem lw_u19_1 : Cond.selects RX5 yX5_mergePass yX5_mergePass ∈ lw_tbl := List.mem_append_left _ (List.mem_of_getElem? (i := 13) rfl)
set_option maxRecDepth 100000 in
theorem lw_u19_2 : Cond.code yX5_mergePass cX5_mergePass 6 (some .boolean) ∈ lw_tbl := List.mem_append_right _ (List.mem_append_right _ (List.mem_append_right _ (List.mem_append_left _ (List.mem_of_getElem? (i := 67) rfl))))
set_option maxRecDepth 100000 in
theorem lw_u19_3 : Cond.fieldLink RX5 196 "ExternalSort$Tally" "passes" "I" ∈ lw_tbl := List.mem_append_right _ (List.mem_append_left _ (List.mem_of_getElem? (i := 43) rfl))
set_option maxRecDepth 100000 in
theorem lw_u19_4 : Cond.methodLink RX5 193 yX5_mergeRuns ∈ lw_tbl := List.mem_append_right _ (List.mem_append_right _ (List.mem_append_right _ (List.mem_append_left _ (List.mem_of_getElem? (i := 68) rfl))))
set_option maxRecDepth 100000 in
theorem lw_u19_5 : Cond.instanceMethod yX5_mergeRuns ∈ lw_tbl := List.mem_append_right _ (List.mem_append_right _ (List.mem_append_right _ (List.mem_append_left _ (List.mem_of_getElem? (i := 70) rfl))))
set_option maxRecDepth 100000 in
theorem lw_u19_6 : Cond.selects RX5 yX5_mergeRuns yX5_mergeRuns ∈ lw_tbl := List.mem_append_left _ (List.mem_of_getElem? (i := 14) rfl)
set_option maxRecDepth 100000 in
theorem lw_u19_7 : Cond.code yX5_mergeRuns cX5_mergeRuns 8 (some .boolean) ∈ lw_tbl := List.mem_append_right _ (List.mem_append_right _ (List.mem_append_right _ (List.mem_append_left _ (List.mem_of_getElem? (i := 71) rfl))))
set_option maxRecDepth 100000 in
theorem lw_u19_8 : Cond.methodLink RX5 199 yX5_openRuns ∈ lw_tbl := List.mem_append_right _ (List.mem_append_right _ (List.mem_append_right _ (List.mem_append_left _ (List.mem_of_getElem? (i := 72) rfl))))
set_option maxRecDepth 100000 in
theorem lw_u19_9 : Cond.instanceMethod yX5_openRuns ∈ lw_tbl := List.mem_append_right _ (List.mem_append_right _ (List.mem_append_right _ (List.mem_append_left _ (List.mem_of_getElem? (i := 74) rfl))))
set_option maxRecDepth 100000 in
theorem lw_u19_10 : Cond.selects RX5 yX5_openRuns yX5_openRuns ∈ lw_tbl := List.mem_append_left _ (List.mem_of_getElem? (i := 15) rfl)
set_option maxRecDepth 100000 in
theorem lw_u19_11 : Cond.code yX5_openRuns cX5_openRuns 5 (some .int) ∈ lw_tbl := List.mem_append_right _ (List.mem_append_right _ (List.mem_append_right _ (List.mem_append_left _ (List.mem_of_getElem? (i := 75) rfl))))
set_option maxRecDepth 100000 in
theorem lw_u19_12 : Cond.methodLink RX5 202 yX0_release ∈ lw_tbl := List.mem_append_right _ (List.mem_append_right _ (List.mem_append_right _ (List.mem_append_left _ (List.mem_of_getElem? (i := 76) rfl))))
set_option maxRecDepth 100000 in
theorem lw_u19_13 : Cond.methodLink RX5 205 yX5_enterNext ∈ lw_tbl := List.mem_append_right _ (List.mem_append_right _ (List.mem_append_right _ (List.mem_append_left _ (List.mem_of_getElem? (i := 77) rfl))))
set_option maxRecDepth 100000 in
theorem lw_u19_14 : Cond.instanceMethod yX5_enterNext ∈ lw_tbl := List.mem_append_right _ (List.mem_append_right _ (List.mem_append_right _ (List.mem_append_left _ (List.mem_of_getElem? (i := 79) rfl))))
set_option maxRecDepth 100000 in
theorem lw_u19_15 : Cond.selects RX5 yX5_enterNext yX5_enterNext ∈ lw_tbl := List.mem_append_left _ (List.mem_of_getElem? (i := 16) rfl)
set_option maxRecDepth 100000 in
theorem lw_u19_16 : Cond.code yX5_enterNext cX5_enterNext 2 none ∈ lw_tbl := List.mem_append_right _ (List.mem_append_right _ (List.mem_append_right _ (List.mem_append_left _ (List.mem_of_getElem? (i := 80) rfl))))
set_option maxRecDepth 100000 in
theorem lw_u19_17 : Cond.methodLink RX7 106 yX7_settleSorted ∈ lw_tbl := List.mem_append_right _ (List.mem_append_right _ (List.mem_append_right _ (List.mem_append_left _ (List.mem_of_getElem? (i := 81) rfl))))
set_option maxRecDepth 100000 in
theorem lw_u19_18 : Cond.instanceMethod yX7_settleSorted ∈ lw_tbl := List.mem_append_right _ (List.mem_append_right _ (List.mem_append_right _ (List.mem_append_left _ (List.mem_of_getElem? (i := 83) rfl))))
set_option maxRecDepth 100000 in
theorem lw_u19_19 : Cond.selects RX7 yX7_settleSorted yX7_settleSorted ∈ lw_tbl := List.mem_append_left _ (List.mem_of_getElem? (i := 17) rfl)
set_option maxRecDepth 100000 in
theorem lw_u19_20 : Cond.code yX7_settleSorted cX7_settleSorted 3 (some .int) ∈ lw_tbl := List.mem_append_right _ (List.mem_append_right _ (List.mem_append_right _ (List.mem_append_left _ (List.mem_of_getElem? (i := 84) rfl))))
set_option maxRecDepth 100000 in
theorem lw_u19_21 : Cond.fieldLink RX7 113 "ExternalSort$Sorter" "resultHead" "I" ∈ lw_tbl := List.mem_append_right _ (List.mem_append_left _ (List.mem_of_getElem? (i := 217) rfl))
set_option maxRecDepth 100000 in
theorem lw_u19_22 : Cond.fieldLink RX7 117 "ExternalSort$Sorter" "resultCount" "I" ∈ lw_tbl := List.mem_append_right _ (List.mem_append_left _ (List.mem_of_getElem? (i := 219) rfl))
set_option maxRecDepth 100000 in
theorem lw_u19_23 : Cond.methodLink RX7 143 yX7_settle ∈ lw_tbl := List.mem_append_right _ (List.mem_append_right _ (List.mem_append_right _ (List.mem_append_left _ (List.mem_of_getElem? (i := 85) rfl))))
theorem lw_ru19 : ∀ w ∈ wsL_law_r19, w ∈ lw_tbl := List.forall_mem_cons.mpr ⟨lw_u19_0, List.forall_mem_cons.mpr ⟨lw_u19_1, List.forall_mem_cons.mpr ⟨lw_u19_2, List.forall_mem_cons.mpr ⟨lw_u19_3, List.forall_mem_cons.mpr ⟨lw_u19_4, List.forall_mem_cons.mpr ⟨lw_u19_5, List.forall_mem_cons.mpr ⟨lw_u19_6, List.forall_mem_cons.mpr ⟨lw_u19_7, List.forall_mem_cons.mpr ⟨lw_u19_8, List.forall_mem_cons.mpr ⟨lw_u19_9, List.forall_mem_cons.mpr ⟨lw_u19_10, List.forall_mem_cons.mpr ⟨lw_u19_11, List.forall_mem_cons.mpr ⟨lw_u19_12, List.forall_mem_cons.mpr ⟨lw_u19_13, List.forall_mem_cons.mpr ⟨lw_u19_14, List.forall_mem_cons.mpr ⟨lw_u19_15, List.forall_mem_cons.mpr ⟨lw_u19_16, List.forall_mem_cons.mpr ⟨lw_u19_17, List.forall_mem_cons.mpr ⟨lw_u19_18, List.forall_mem_cons.mpr ⟨lw_u19_19, List.forall_mem_cons.mpr ⟨lw_u19_20, List.forall_mem_cons.mpr ⟨lw_u19_21, List.forall_mem_cons.mpr ⟨lw_u19_22, List.forall_mem_cons.mpr ⟨lw_u19_23, fun _ h => absurd h List.not_mem_nil⟩⟩⟩⟩⟩⟩⟩⟩⟩⟩⟩⟩⟩⟩⟩⟩⟩⟩⟩⟩⟩⟩⟩⟩
set_option maxRecDepth 100000 in
theorem lw_u20_0 : Cond.instanceMethod yX7_settle ∈ lw_tbl := List.mem_append_right _ (List.mem_append_right _ (List.mem_append_right _ (List.mem_append_left _ (List.mem_of_getElem? (i := 87) rfl))))
set_option maxRecDepth 100000 in
theorem lw_u20_1 : Cond.selects RX7 yX7_settle yX7_settle ∈ lw_tbl := List.mem_append_left _ (List.mem_of_getElem? (i := 18) rfl)
set_option maxRecDepth 100000 in
theorem lw_u20_2 : Cond.code yX7_settle cX7_settle 4 (some .int) ∈ lw_tbl := List.mem_append_right _ (List.mem_append_right _ (List.mem_append_right _ (List.mem_append_left _ (List.mem_of_getElem? (i := 88) rfl))))
set_option maxRecDepth 100000 in
theorem lw_u20_3 : Cond.methodLink RX7 198 yX0_handOver ∈ lw_tbl := List.mem_append_right _ (List.mem_append_right _ (List.mem_append_right _ (List.mem_append_left _ (List.mem_of_getElem? (i := 89) rfl))))
set_option maxRecDepth 100000 in
theorem lw_u20_4 : Cond.instanceMethod yX0_handOver ∈ lw_tbl := List.mem_append_right _ (List.mem_append_right _ (List.mem_append_right _ (List.mem_append_left _ (List.mem_of_getElem? (i := 90) rfl))))
set_option maxRecDepth 100000 in
theorem lw_u20_5 : Cond.selects RX0 yX0_handOver yX0_handOver ∈ lw_tbl := List.mem_append_right _ (List.mem_append_right _ (List.mem_append_right _ (List.mem_append_left _ (List.mem_of_getElem? (i := 91) rfl))))
set_option maxRecDepth 100000 in
theorem lw_u20_6 : Cond.code yX0_handOver cX0_handOver 4 none ∈ lw_tbl := List.mem_append_right _ (List.mem_append_right _ (List.mem_append_right _ (List.mem_append_left _ (List.mem_of_getElem? (i := 92) rfl))))
set_option maxRecDepth 100000 in
theorem lw_u20_7 : Cond.methodLink RX7 201 yX6_copyFrom ∈ lw_tbl := List.mem_append_right _ (List.mem_append_right _ (List.mem_append_right _ (List.mem_append_left _ (List.mem_of_getElem? (i := 93) rfl))))
set_option maxRecDepth 100000 in
theorem lw_u20_8 : Cond.instanceMethod yX6_copyFrom ∈ lw_tbl := List.mem_append_right _ (List.mem_append_right _ (List.mem_append_right _ (List.mem_append_left _ (List.mem_of_getElem? (i := 94) rfl))))
set_option maxRecDepth 100000 in
theorem lw_u20_9 : Cond.selects RX6 yX6_copyFrom yX6_copyFrom ∈ lw_tbl := List.mem_append_right _ (List.mem_append_right _ (List.mem_append_right _ (List.mem_append_left _ (List.mem_of_getElem? (i := 95) rfl))))
set_option maxRecDepth 100000 in
theorem lw_u20_10 : Cond.code yX6_copyFrom cX6_copyFrom 3 none ∈ lw_tbl := List.mem_append_right _ (List.mem_append_right _ (List.mem_append_right _ (List.mem_append_left _ (List.mem_of_getElem? (i := 96) rfl))))
set_option maxRecDepth 100000 in
theorem lw_u20_11 : Cond.methodLink RX7 110 yX7_giveUp ∈ lw_tbl := List.mem_append_right _ (List.mem_append_right _ (List.mem_append_right _ (List.mem_append_left _ (List.mem_of_getElem? (i := 97) rfl))))
set_option maxRecDepth 100000 in
theorem lw_u20_12 : Cond.instanceMethod yX7_giveUp ∈ lw_tbl := List.mem_append_right _ (List.mem_append_right _ (List.mem_append_right _ (List.mem_append_left _ (List.mem_of_getElem? (i := 99) rfl))))
set_option maxRecDepth 100000 in
theorem lw_u20_13 : Cond.selects RX7 yX7_giveUp yX7_giveUp ∈ lw_tbl := List.mem_append_left _ (List.mem_of_getElem? (i := 19) rfl)
set_option maxRecDepth 100000 in
theorem lw_u20_14 : Cond.code yX7_giveUp cX7_giveUp 2 (some .int) ∈ lw_tbl := List.mem_append_right _ (List.mem_append_right _ (List.mem_append_right _ (List.mem_append_left _ (List.mem_of_getElem? (i := 100) rfl))))
set_option maxRecDepth 100000 in
theorem lw_u20_15 : Cond.methodLink RL 35 yX8_sort ∈ lw_tbl := List.mem_append_right _ (List.mem_append_right _ (List.mem_append_right _ (List.mem_append_right _ (List.mem_of_getElem? (i := 106) rfl))))
set_option maxRecDepth 100000 in
theorem lw_u20_16 : Cond.instanceMethod yX8_sort ∈ lw_tbl := List.mem_append_right _ (List.mem_append_right _ (List.mem_append_right _ (List.mem_append_right _ (List.mem_of_getElem? (i := 107) rfl))))
set_option maxRecDepth 100000 in
theorem lw_u20_17 : Cond.selects RX8 yX8_sort yX8_sort ∈ lw_tbl := List.mem_append_right _ (List.mem_append_right _ (List.mem_append_right _ (List.mem_append_right _ (List.mem_of_getElem? (i := 108) rfl))))
set_option maxRecDepth 100000 in
theorem lw_u20_18 : Cond.code yX8_sort cX8_sort 5 (some .int) ∈ lw_tbl := List.mem_append_right _ (List.mem_append_right _ (List.mem_append_right _ (List.mem_append_right _ (List.mem_of_getElem? (i := 109) rfl))))
set_option maxRecDepth 100000 in
theorem lw_u20_19 : Cond.methodLink RX8 193 yX8_sorts ∈ lw_tbl := List.mem_append_right _ (List.mem_append_right _ (List.mem_append_right _ (List.mem_append_right _ (List.mem_of_getElem? (i := 110) rfl))))
set_option maxRecDepth 100000 in
theorem lw_u20_20 : Cond.instanceMethod yX8_sorts ∈ lw_tbl := List.mem_append_right _ (List.mem_append_right _ (List.mem_append_right _ (List.mem_append_right _ (List.mem_of_getElem? (i := 112) rfl))))
set_option maxRecDepth 100000 in
theorem lw_u20_21 : Cond.selects RX8 yX8_sorts yX8_sorts ∈ lw_tbl := List.mem_append_left _ (List.mem_of_getElem? (i := 29) rfl)
set_option maxRecDepth 100000 in
theorem lw_u20_22 : Cond.code yX8_sorts cX8_sorts 9 (some .int) ∈ lw_tbl := List.mem_append_right _ (List.mem_append_right _ (List.mem_append_right _ (List.mem_append_right _ (List.mem_of_getElem? (i := 113) rfl))))
set_option maxRecDepth 100000 in
theorem lw_u20_23 : Cond.fieldLink RX8 101 "ExternalSortModel" "isFull" "Z" ∈ lw_tbl := List.mem_append_right _ (List.mem_append_right _ (List.mem_append_right _ (List.mem_append_left _ (List.mem_of_getElem? (i := 226) rfl))))
theorem lw_ru20 : ∀ w ∈ wsL_law_r20, w ∈ lw_tbl := List.forall_mem_cons.mpr ⟨lw_u20_0, List.forall_mem_cons.mpr ⟨lw_u20_1, List.forall_mem_cons.mpr ⟨lw_u20_2, List.forall_mem_cons.mpr ⟨lw_u20_3, List.forall_mem_cons.mpr ⟨lw_u20_4, List.forall_mem_cons.mpr ⟨lw_u20_5, List.forall_mem_cons.mpr ⟨lw_u20_6, List.forall_mem_cons.mpr ⟨lw_u20_7, List.forall_mem_cons.mpr ⟨lw_u20_8, List.forall_mem_cons.mpr ⟨lw_u20_9, List.forall_mem_cons.mpr ⟨lw_u20_10, List.forall_mem_cons.mpr ⟨lw_u20_11, List.forall_mem_cons.mpr ⟨lw_u20_12, List.forall_mem_cons.mpr ⟨lw_u20_13, List.forall_mem_cons.mpr ⟨lw_u20_14, List.forall_mem_cons.mpr ⟨lw_u20_15, List.forall_mem_cons.mpr ⟨lw_u20_16, List.forall_mem_cons.mpr ⟨lw_u20_17, List.forall_mem_cons.mpr ⟨lw_u20_18, List.forall_mem_cons.mpr ⟨lw_u20_19, List.forall_mem_cons.mpr ⟨lw_u20_20, List.forall_mem_cons.mpr ⟨lw_u20_21, List.forall_mem_cons.mpr ⟨lw_u20_22, List.forall_mem_cons.mpr ⟨lw_u20_23, fun _ h => absurd h List.not_mem_nil⟩⟩⟩⟩⟩⟩⟩⟩⟩⟩⟩⟩⟩⟩⟩⟩⟩⟩⟩⟩⟩⟩⟩⟩
set_option maxRecDepth 100000 in
theorem lw_u21_0 : Cond.fieldLink RX8 124 "ExternalSortModel" "here" "I" ∈ lw_tbl := List.mem_append_right _ (List.mem_append_right _ (List.mem_append_right _ (List.mem_append_left _ (List.mem_of_getElem? (i := 229) rfl))))
set_option maxRecDepth 100000 in
theorem lw_u21_1 : Cond.methodLink RX8 183 yX8_begins ∈ lw_tbl := List.mem_append_right _ (List.mem_append_right _ (List.mem_append_right _ (List.mem_append_right _ (List.mem_of_getElem? (i := 114) rfl))))
set_option maxRecDepth 100000 in
theorem lw_u21_2 : Cond.instanceMethod yX8_begins ∈ lw_tbl := List.mem_append_right _ (List.mem_append_right _ (List.mem_append_right _ (List.mem_append_right _ (List.mem_of_getElem? (i := 116) rfl))))
set_option maxRecDepth 100000 in
theorem lw_u21_3 : Cond.selects RX8 yX8_begins yX8_begins ∈ lw_tbl := List.mem_append_left _ (List.mem_of_getElem? (i := 30) rfl)
set_option maxRecDepth 100000 in
theorem lw_u21_4 : Cond.code yX8_begins cX8_begins 1 none ∈ lw_tbl := List.mem_append_right _ (List.mem_append_right _ (List.mem_append_right _ (List.mem_append_right _ (List.mem_of_getElem? (i := 117) rfl))))
set_option maxRecDepth 100000 in
theorem lw_u21_5 : Cond.fieldLink RX8 111 "ExternalSortModel" "read" "I" ∈ lw_tbl := List.mem_append_right _ (List.mem_append_right _ (List.mem_append_right _ (List.mem_append_left _ (List.mem_of_getElem? (i := 221) rfl))))
set_option maxRecDepth 100000 in
theorem lw_u21_6 : Cond.fieldLink RX8 105 "ExternalSortModel" "written" "I" ∈ lw_tbl := List.mem_append_right _ (List.mem_append_right _ (List.mem_append_right _ (List.mem_append_left _ (List.mem_of_getElem? (i := 222) rfl))))
set_option maxRecDepth 100000 in
theorem lw_u21_7 : Cond.fieldLink RX8 145 "ExternalSortModel" "runs" "I" ∈ lw_tbl := List.mem_append_right _ (List.mem_append_right _ (List.mem_append_right _ (List.mem_append_left _ (List.mem_of_getElem? (i := 223) rfl))))
set_option maxRecDepth 100000 in
theorem lw_u21_8 : Cond.fieldLink RX8 157 "ExternalSortModel" "passes" "I" ∈ lw_tbl := List.mem_append_right _ (List.mem_append_right _ (List.mem_append_right _ (List.mem_append_left _ (List.mem_of_getElem? (i := 224) rfl))))
set_option maxRecDepth 100000 in
theorem lw_u21_9 : Cond.fieldLink RX8 108 "ExternalSortModel" "most" "I" ∈ lw_tbl := List.mem_append_right _ (List.mem_append_right _ (List.mem_append_right _ (List.mem_append_left _ (List.mem_of_getElem? (i := 225) rfl))))
set_option maxRecDepth 100000 in
theorem lw_u21_10 : Cond.fieldLink RX8 154 "ExternalSortModel" "firsts" "I" ∈ lw_tbl := List.mem_append_right _ (List.mem_append_right _ (List.mem_append_right _ (List.mem_append_left _ (List.mem_of_getElem? (i := 233) rfl))))
set_option maxRecDepth 100000 in
theorem lw_u21_11 : Cond.methodLink RX8 186 yX8_sorted ∈ lw_tbl := List.mem_append_right _ (List.mem_append_right _ (List.mem_append_right _ (List.mem_append_right _ (List.mem_of_getElem? (i := 118) rfl))))
set_option maxRecDepth 100000 in
theorem lw_u21_12 : Cond.instanceMethod yX8_sorted ∈ lw_tbl := List.mem_append_right _ (List.mem_append_right _ (List.mem_append_right _ (List.mem_append_right _ (List.mem_of_getElem? (i := 120) rfl))))
set_option maxRecDepth 100000 in
theorem lw_u21_13 : Cond.selects RX8 yX8_sorted yX8_sorted ∈ lw_tbl := List.mem_append_left _ (List.mem_of_getElem? (i := 31) rfl)
set_option maxRecDepth 100000 in
theorem lw_u21_14 : Cond.code yX8_sorted cX8_sorted 5 (some .int) ∈ lw_tbl := List.mem_append_right _ (List.mem_append_right _ (List.mem_append_right _ (List.mem_append_right _ (List.mem_of_getElem? (i := 121) rfl))))
set_option maxRecDepth 100000 in
theorem lw_u21_15 : Cond.fieldLink RX8 98 "ExternalSortModel" "mode" "I" ∈ lw_tbl := List.mem_append_right _ (List.mem_append_right _ (List.mem_append_right _ (List.mem_append_left _ (List.mem_of_getElem? (i := 239) rfl))))
set_option maxRecDepth 100000 in
theorem lw_u21_16 : Cond.fieldLink RX8 148 "ExternalSortModel" "isOnce" "Z" ∈ lw_tbl := List.mem_append_right _ (List.mem_append_right _ (List.mem_append_right _ (List.mem_append_right _ (List.mem_of_getElem? (i := 0) rfl))))
set_option maxRecDepth 100000 in
theorem lw_u21_17 : Cond.fieldLink RX8 127 "ExternalSortModel" "count" "I" ∈ lw_tbl := List.mem_append_right _ (List.mem_append_right _ (List.mem_append_right _ (List.mem_append_left _ (List.mem_of_getElem? (i := 230) rfl))))
set_option maxRecDepth 100000 in
theorem lw_u21_18 : Cond.methodLink RX8 172 yX8_makeRuns ∈ lw_tbl := List.mem_append_right _ (List.mem_append_right _ (List.mem_append_right _ (List.mem_append_right _ (List.mem_of_getElem? (i := 122) rfl))))
set_option maxRecDepth 100000 in
theorem lw_u21_19 : Cond.instanceMethod yX8_makeRuns ∈ lw_tbl := List.mem_append_right _ (List.mem_append_right _ (List.mem_append_right _ (List.mem_append_right _ (List.mem_of_getElem? (i := 124) rfl))))
set_option maxRecDepth 100000 in
theorem lw_u21_20 : Cond.selects RX8 yX8_makeRuns yX8_makeRuns ∈ lw_tbl := List.mem_append_left _ (List.mem_of_getElem? (i := 32) rfl)
set_option maxRecDepth 100000 in
theorem lw_u21_21 : Cond.code yX8_makeRuns cX8_makeRuns 7 none ∈ lw_tbl := List.mem_append_right _ (List.mem_append_right _ (List.mem_append_right _ (List.mem_append_right _ (List.mem_of_getElem? (i := 125) rfl))))
set_option maxRecDepth 100000 in
theorem lw_u21_22 : Cond.fieldLink RX8 117 "ExternalSortModel" "held" "I" ∈ lw_tbl := List.mem_append_right _ (List.mem_append_right _ (List.mem_append_right _ (List.mem_append_left _ (List.mem_of_getElem? (i := 238) rfl))))
set_option maxRecDepth 100000 in
theorem lw_u21_23 : Cond.fieldLink RX8 114 "ExternalSortModel" "taken" "I" ∈ lw_tbl := List.mem_append_right _ (List.mem_append_right _ (List.mem_append_right _ (List.mem_append_right _ (List.mem_of_getElem? (i := 4) rfl))))
theorem lw_ru21 : ∀ w ∈ wsL_law_r21, w ∈ lw_tbl := List.forall_mem_cons.mpr ⟨lw_u21_0, List.forall_mem_cons.mpr ⟨lw_u21_1, List.forall_mem_cons.mpr ⟨lw_u21_2, List.forall_mem_cons.mpr ⟨lw_u21_3, List.forall_mem_cons.mpr ⟨lw_u21_4, List.forall_mem_cons.mpr ⟨lw_u21_5, List.forall_mem_cons.mpr ⟨lw_u21_6, List.forall_mem_cons.mpr ⟨lw_u21_7, List.forall_mem_cons.mpr ⟨lw_u21_8, List.forall_mem_cons.mpr ⟨lw_u21_9, List.forall_mem_cons.mpr ⟨lw_u21_10, List.forall_mem_cons.mpr ⟨lw_u21_11, List.forall_mem_cons.mpr ⟨lw_u21_12, List.forall_mem_cons.mpr ⟨lw_u21_13, List.forall_mem_cons.mpr ⟨lw_u21_14, List.forall_mem_cons.mpr ⟨lw_u21_15, List.forall_mem_cons.mpr ⟨lw_u21_16, List.forall_mem_cons.mpr ⟨lw_u21_17, List.forall_mem_cons.mpr ⟨lw_u21_18, List.forall_mem_cons.mpr ⟨lw_u21_19, List.forall_mem_cons.mpr ⟨lw_u21_20, List.forall_mem_cons.mpr ⟨lw_u21_21, List.forall_mem_cons.mpr ⟨lw_u21_22, List.forall_mem_cons.mpr ⟨lw_u21_23, fun _ h => absurd h List.not_mem_nil⟩⟩⟩⟩⟩⟩⟩⟩⟩⟩⟩⟩⟩⟩⟩⟩⟩⟩⟩⟩⟩⟩⟩⟩
set_option maxRecDepth 100000 in
theorem lw_u22_0 : Cond.methodLink RX8 130 yX8_takes ∈ lw_tbl := List.mem_append_right _ (List.mem_append_right _ (List.mem_append_right _ (List.mem_append_right _ (List.mem_of_getElem? (i := 126) rfl))))
set_option maxRecDepth 100000 in
theorem lw_u22_1 : Cond.instanceMethod yX8_takes ∈ lw_tbl := List.mem_append_right _ (List.mem_append_right _ (List.mem_append_right _ (List.mem_append_right _ (List.mem_of_getElem? (i := 128) rfl))))
set_option maxRecDepth 100000 in
theorem lw_u22_2 : Cond.selects RX8 yX8_takes yX8_takes ∈ lw_tbl := List.mem_append_left _ (List.mem_of_getElem? (i := 33) rfl)
set_option maxRecDepth 100000 in
theorem lw_u22_3 : Cond.code yX8_takes cX8_takes 3 none ∈ lw_tbl := List.mem_append_right _ (List.mem_append_right _ (List.mem_append_right _ (List.mem_append_right _ (List.mem_of_getElem? (i := 129) rfl))))
set_option maxRecDepth 100000 in
theorem lw_u22_4 : Cond.methodLink RX8 134 yX8_first ∈ lw_tbl := List.mem_append_right _ (List.mem_append_right _ (List.mem_append_right _ (List.mem_append_right _ (List.mem_of_getElem? (i := 130) rfl))))
set_option maxRecDepth 100000 in
theorem lw_u22_5 : Cond.instanceMethod yX8_first ∈ lw_tbl := List.mem_append_right _ (List.mem_append_right _ (List.mem_append_right _ (List.mem_append_right _ (List.mem_of_getElem? (i := 132) rfl))))
set_option maxRecDepth 100000 in
theorem lw_u22_6 : Cond.selects RX8 yX8_first yX8_first ∈ lw_tbl := List.mem_append_left _ (List.mem_of_getElem? (i := 34) rfl)
set_option maxRecDepth 100000 in
theorem lw_u22_7 : Cond.code yX8_first cX8_first 3 (some .int) ∈ lw_tbl := List.mem_append_right _ (List.mem_append_right _ (List.mem_append_right _ (List.mem_append_right _ (List.mem_of_getElem? (i := 133) rfl))))
set_option maxRecDepth 100000 in
theorem lw_u22_8 : Cond.methodLink RX8 120 yX8_isAhead ∈ lw_tbl := List.mem_append_right _ (List.mem_append_right _ (List.mem_append_right _ (List.mem_append_right _ (List.mem_of_getElem? (i := 134) rfl))))
set_option maxRecDepth 100000 in
theorem lw_u22_9 : Cond.instanceMethod yX8_isAhead ∈ lw_tbl := List.mem_append_right _ (List.mem_append_right _ (List.mem_append_right _ (List.mem_append_right _ (List.mem_of_getElem? (i := 136) rfl))))
set_option maxRecDepth 100000 in
theorem lw_u22_10 : Cond.selects RX8 yX8_isAhead yX8_isAhead ∈ lw_tbl := List.mem_append_left _ (List.mem_of_getElem? (i := 35) rfl)
set_option maxRecDepth 100000 in
theorem lw_u22_11 : Cond.code yX8_isAhead cX8_isAhead 5 (some .boolean) ∈ lw_tbl := List.mem_append_right _ (List.mem_append_right _ (List.mem_append_right _ (List.mem_append_right _ (List.mem_of_getElem? (i := 137) rfl))))
set_option maxRecDepth 100000 in
theorem lw_u22_12 : Cond.methodLink RX8 138 yX8_endsRun ∈ lw_tbl := List.mem_append_right _ (List.mem_append_right _ (List.mem_append_right _ (List.mem_append_right _ (List.mem_of_getElem? (i := 138) rfl))))
set_option maxRecDepth 100000 in
theorem lw_u22_13 : Cond.instanceMethod yX8_endsRun ∈ lw_tbl := List.mem_append_right _ (List.mem_append_right _ (List.mem_append_right _ (List.mem_append_right _ (List.mem_of_getElem? (i := 140) rfl))))
set_option maxRecDepth 100000 in
theorem lw_u22_14 : Cond.selects RX8 yX8_endsRun yX8_endsRun ∈ lw_tbl := List.mem_append_left _ (List.mem_of_getElem? (i := 36) rfl)
set_option maxRecDepth 100000 in
theorem lw_u22_15 : Cond.code yX8_endsRun cX8_endsRun 3 (some .int) ∈ lw_tbl := List.mem_append_right _ (List.mem_append_right _ (List.mem_append_right _ (List.mem_append_right _ (List.mem_of_getElem? (i := 141) rfl))))
set_option maxRecDepth 100000 in
theorem lw_u22_16 : Cond.methodLink RX8 151 yX8_writes ∈ lw_tbl := List.mem_append_right _ (List.mem_append_right _ (List.mem_append_right _ (List.mem_append_right _ (List.mem_of_getElem? (i := 142) rfl))))
set_option maxRecDepth 100000 in
theorem lw_u22_17 : Cond.instanceMethod yX8_writes ∈ lw_tbl := List.mem_append_right _ (List.mem_append_right _ (List.mem_append_right _ (List.mem_append_right _ (List.mem_of_getElem? (i := 144) rfl))))
set_option maxRecDepth 100000 in
theorem lw_u22_18 : Cond.selects RX8 yX8_writes yX8_writes ∈ lw_tbl := List.mem_append_left _ (List.mem_of_getElem? (i := 37) rfl)
set_option maxRecDepth 100000 in
theorem lw_u22_19 : Cond.code yX8_writes cX8_writes 1 none ∈ lw_tbl := List.mem_append_right _ (List.mem_append_right _ (List.mem_append_right _ (List.mem_append_right _ (List.mem_of_getElem? (i := 145) rfl))))
set_option maxRecDepth 100000 in
theorem lw_u22_20 : Cond.methodLink RX8 141 yX8_puts ∈ lw_tbl := List.mem_append_right _ (List.mem_append_right _ (List.mem_append_right _ (List.mem_append_right _ (List.mem_of_getElem? (i := 146) rfl))))
set_option maxRecDepth 100000 in
theorem lw_u22_21 : Cond.instanceMethod yX8_puts ∈ lw_tbl := List.mem_append_right _ (List.mem_append_right _ (List.mem_append_right _ (List.mem_append_right _ (List.mem_of_getElem? (i := 148) rfl))))
set_option maxRecDepth 100000 in
theorem lw_u22_22 : Cond.selects RX8 yX8_puts yX8_puts ∈ lw_tbl := List.mem_append_left _ (List.mem_of_getElem? (i := 38) rfl)
set_option maxRecDepth 100000 in
theorem lw_u22_23 : Cond.code yX8_puts cX8_puts 5 (some .int) ∈ lw_tbl := List.mem_append_right _ (List.mem_append_right _ (List.mem_append_right _ (List.mem_append_right _ (List.mem_of_getElem? (i := 149) rfl))))
theorem lw_ru22 : ∀ w ∈ wsL_law_r22, w ∈ lw_tbl := List.forall_mem_cons.mpr ⟨lw_u22_0, List.forall_mem_cons.mpr ⟨lw_u22_1, List.forall_mem_cons.mpr ⟨lw_u22_2, List.forall_mem_cons.mpr ⟨lw_u22_3, List.forall_mem_cons.mpr ⟨lw_u22_4, List.forall_mem_cons.mpr ⟨lw_u22_5, List.forall_mem_cons.mpr ⟨lw_u22_6, List.forall_mem_cons.mpr ⟨lw_u22_7, List.forall_mem_cons.mpr ⟨lw_u22_8, List.forall_mem_cons.mpr ⟨lw_u22_9, List.forall_mem_cons.mpr ⟨lw_u22_10, List.forall_mem_cons.mpr ⟨lw_u22_11, List.forall_mem_cons.mpr ⟨lw_u22_12, List.forall_mem_cons.mpr ⟨lw_u22_13, List.forall_mem_cons.mpr ⟨lw_u22_14, List.forall_mem_cons.mpr ⟨lw_u22_15, List.forall_mem_cons.mpr ⟨lw_u22_16, List.forall_mem_cons.mpr ⟨lw_u22_17, List.forall_mem_cons.mpr ⟨lw_u22_18, List.forall_mem_cons.mpr ⟨lw_u22_19, List.forall_mem_cons.mpr ⟨lw_u22_20, List.forall_mem_cons.mpr ⟨lw_u22_21, List.forall_mem_cons.mpr ⟨lw_u22_22, List.forall_mem_cons.mpr ⟨lw_u22_23, fun _ h => absurd h List.not_mem_nil⟩⟩⟩⟩⟩⟩⟩⟩⟩⟩⟩⟩⟩⟩⟩⟩⟩⟩⟩⟩⟩⟩⟩⟩
set_option maxRecDepth 100000 in
theorem lw_u23_0 : Cond.methodLink RX8 176 yX8_merges ∈ lw_tbl := List.mem_append_right _ (List.mem_append_right _ (List.mem_append_right _ (List.mem_append_right _ (List.mem_of_getElem? (i := 150) rfl))))
set_option maxRecDepth 100000 in
theorem lw_u23_1 : Cond.instanceMethod yX8_merges ∈ lw_tbl := List.mem_append_right _ (List.mem_append_right _ (List.mem_append_right _ (List.mem_append_right _ (List.mem_of_getElem? (i := 152) rfl))))
set_option maxRecDepth 100000 in
theorem lw_u23_2 : Cond.selects RX8 yX8_merges yX8_merges ∈ lw_tbl := List.mem_append_left _ (List.mem_of_getElem? (i := 39) rfl)
set_option maxRecDepth 100000 in
theorem lw_u23_3 : Cond.code yX8_merges cX8_merges 8 none ∈ lw_tbl := List.mem_append_right _ (List.mem_append_right _ (List.mem_append_right _ (List.mem_append_right _ (List.mem_of_getElem? (i := 153) rfl))))
set_option maxRecDepth 100000 in
theorem lw_u23_4 : Cond.methodLink RX8 160 yX8_stays ∈ lw_tbl := List.mem_append_right _ (List.mem_append_right _ (List.mem_append_right _ (List.mem_append_right _ (List.mem_of_getElem? (i := 154) rfl))))
set_option maxRecDepth 100000 in
theorem lw_u23_5 : Cond.instanceMethod yX8_stays ∈ lw_tbl := List.mem_append_right _ (List.mem_append_right _ (List.mem_append_right _ (List.mem_append_right _ (List.mem_of_getElem? (i := 156) rfl))))
set_option maxRecDepth 100000 in
theorem lw_u23_6 : Cond.selects RX8 yX8_stays yX8_stays ∈ lw_tbl := List.mem_append_left _ (List.mem_of_getElem? (i := 40) rfl)
set_option maxRecDepth 100000 in
theorem lw_u23_7 : Cond.code yX8_stays cX8_stays 6 (some .int) ∈ lw_tbl := List.mem_append_right _ (List.mem_append_right _ (List.mem_append_right _ (List.mem_append_right _ (List.mem_of_getElem? (i := 157) rfl))))
set_option maxRecDepth 100000 in
theorem lw_u23_8 : Cond.methodLink RX8 163 yX8_merge ∈ lw_tbl := List.mem_append_right _ (List.mem_append_right _ (List.mem_append_right _ (List.mem_append_right _ (List.mem_of_getElem? (i := 158) rfl))))
set_option maxRecDepth 100000 in
theorem lw_u23_9 : Cond.instanceMethod yX8_merge ∈ lw_tbl := List.mem_append_right _ (List.mem_append_right _ (List.mem_append_right _ (List.mem_append_right _ (List.mem_of_getElem? (i := 160) rfl))))
set_option maxRecDepth 100000 in
theorem lw_u23_10 : Cond.selects RX8 yX8_merge yX8_merge ∈ lw_tbl := List.mem_append_left _ (List.mem_of_getElem? (i := 41) rfl)
set_option maxRecDepth 100000 in
theorem lw_u23_11 : Cond.code yX8_merge cX8_merge 9 (some .int) ∈ lw_tbl := List.mem_append_right _ (List.mem_append_right _ (List.mem_append_right _ (List.mem_append_right _ (List.mem_of_getElem? (i := 161) rfl))))
set_option maxRecDepth 100000 in
theorem lw_u23_12 : Cond.methodLink RX8 166 yX8_readsPage ∈ lw_tbl := List.mem_append_right _ (List.mem_append_right _ (List.mem_append_right _ (List.mem_append_right _ (List.mem_of_getElem? (i := 162) rfl))))
set_option maxRecDepth 100000 in
theorem lw_u23_13 : Cond.instanceMethod yX8_readsPage ∈ lw_tbl := List.mem_append_right _ (List.mem_append_right _ (List.mem_append_right _ (List.mem_append_right _ (List.mem_of_getElem? (i := 164) rfl))))
set_option maxRecDepth 100000 in
theorem lw_u23_14 : Cond.selects RX8 yX8_readsPage yX8_readsPage ∈ lw_tbl := List.mem_append_left _ (List.mem_of_getElem? (i := 42) rfl)
set_option maxRecDepth 100000 in
theorem lw_u23_15 : Cond.code yX8_readsPage cX8_readsPage 1 none ∈ lw_tbl := List.mem_append_right _ (List.mem_append_right _ (List.mem_append_right _ (List.mem_append_right _ (List.mem_of_getElem? (i := 165) rfl))))
set_option maxRecDepth 100000 in
theorem lw_u23_16 : Cond.methodLink RX8 169 yX8_leastOf ∈ lw_tbl := List.mem_append_right _ (List.mem_append_right _ (List.mem_append_right _ (List.mem_append_right _ (List.mem_of_getElem? (i := 166) rfl))))
set_option maxRecDepth 100000 in
theorem lw_u23_17 : Cond.instanceMethod yX8_leastOf ∈ lw_tbl := List.mem_append_right _ (List.mem_append_right _ (List.mem_append_right _ (List.mem_append_right _ (List.mem_of_getElem? (i := 168) rfl))))
set_option maxRecDepth 100000 in
theorem lw_u23_18 : Cond.selects RX8 yX8_leastOf yX8_leastOf ∈ lw_tbl := List.mem_append_left _ (List.mem_of_getElem? (i := 43) rfl)
set_option maxRecDepth 100000 in
theorem lw_u23_19 : Cond.code yX8_leastOf cX8_leastOf 4 (some .int) ∈ lw_tbl := List.mem_append_right _ (List.mem_append_right _ (List.mem_append_right _ (List.mem_append_right _ (List.mem_of_getElem? (i := 169) rfl))))
set_option maxRecDepth 100000 in
theorem lw_u23_20 : Cond.methodLink RX8 190 yX8_tells ∈ lw_tbl := List.mem_append_right _ (List.mem_append_right _ (List.mem_append_right _ (List.mem_append_right _ (List.mem_of_getElem? (i := 170) rfl))))
set_option maxRecDepth 100000 in
theorem lw_u23_21 : Cond.instanceMethod yX8_tells ∈ lw_tbl := List.mem_append_right _ (List.mem_append_right _ (List.mem_append_right _ (List.mem_append_right _ (List.mem_of_getElem? (i := 172) rfl))))
set_option maxRecDepth 100000 in
theorem lw_u23_22 : Cond.selects RX8 yX8_tells yX8_tells ∈ lw_tbl := List.mem_append_left _ (List.mem_of_getElem? (i := 44) rfl)
set_option maxRecDepth 100000 in
theorem lw_u23_23 : Cond.code yX8_tells cX8_tells 2 none ∈ lw_tbl := List.mem_append_right _ (List.mem_append_right _ (List.mem_append_right _ (List.mem_append_right _ (List.mem_of_getElem? (i := 173) rfl))))
theorem lw_ru23 : ∀ w ∈ wsL_law_r23, w ∈ lw_tbl := List.forall_mem_cons.mpr ⟨lw_u23_0, List.forall_mem_cons.mpr ⟨lw_u23_1, List.forall_mem_cons.mpr ⟨lw_u23_2, List.forall_mem_cons.mpr ⟨lw_u23_3, List.forall_mem_cons.mpr ⟨lw_u23_4, List.forall_mem_cons.mpr ⟨lw_u23_5, List.forall_mem_cons.mpr ⟨lw_u23_6, List.forall_mem_cons.mpr ⟨lw_u23_7, List.forall_mem_cons.mpr ⟨lw_u23_8, List.forall_mem_cons.mpr ⟨lw_u23_9, List.forall_mem_cons.mpr ⟨lw_u23_10, List.forall_mem_cons.mpr ⟨lw_u23_11, List.forall_mem_cons.mpr ⟨lw_u23_12, List.forall_mem_cons.mpr ⟨lw_u23_13, List.forall_mem_cons.mpr ⟨lw_u23_14, List.forall_mem_cons.mpr ⟨lw_u23_15, List.forall_mem_cons.mpr ⟨lw_u23_16, List.forall_mem_cons.mpr ⟨lw_u23_17, List.forall_mem_cons.mpr ⟨lw_u23_18, List.forall_mem_cons.mpr ⟨lw_u23_19, List.forall_mem_cons.mpr ⟨lw_u23_20, List.forall_mem_cons.mpr ⟨lw_u23_21, List.forall_mem_cons.mpr ⟨lw_u23_22, List.forall_mem_cons.mpr ⟨lw_u23_23, fun _ h => absurd h List.not_mem_nil⟩⟩⟩⟩⟩⟩⟩⟩⟩⟩⟩⟩⟩⟩⟩⟩⟩⟩⟩⟩⟩⟩⟩⟩
set_option maxRecDepth 100000 in
theorem lw_u24_0 : Cond.fieldLink RX8 180 "ExternalSortModel" "toldMany" "I" ∈ lw_tbl := List.mem_append_right _ (List.mem_append_right _ (List.mem_append_right _ (List.mem_append_right _ (List.mem_of_getElem? (i := 3) rfl))))
set_option maxRecDepth 100000 in
theorem lw_u24_1 : Cond.methodLink RL 36 yX7_distinct ∈ lw_tbl := List.mem_append_right _ (List.mem_append_right _ (List.mem_append_right _ (List.mem_append_left _ (List.mem_of_getElem? (i := 101) rfl))))
set_option maxRecDepth 100000 in
theorem lw_u24_2 : Cond.instanceMethod yX7_distinct ∈ lw_tbl := List.mem_append_right _ (List.mem_append_right _ (List.mem_append_right _ (List.mem_append_left _ (List.mem_of_getElem? (i := 102) rfl))))
set_option maxRecDepth 100000 in
theorem lw_u24_3 : Cond.selects RX7 yX7_distinct yX7_distinct ∈ lw_tbl := List.mem_append_right _ (List.mem_append_right _ (List.mem_append_right _ (List.mem_append_left _ (List.mem_of_getElem? (i := 103) rfl))))
set_option maxRecDepth 100000 in
theorem lw_u24_4 : Cond.code yX7_distinct cX7_distinct 4 (some .int) ∈ lw_tbl := List.mem_append_right _ (List.mem_append_right _ (List.mem_append_right _ (List.mem_append_left _ (List.mem_of_getElem? (i := 104) rfl))))
set_option maxRecDepth 100000 in
theorem lw_u24_5 : Cond.methodLink RL 39 yX8_distinct ∈ lw_tbl := List.mem_append_right _ (List.mem_append_right _ (List.mem_append_right _ (List.mem_append_right _ (List.mem_of_getElem? (i := 174) rfl))))
set_option maxRecDepth 100000 in
theorem lw_u24_6 : Cond.instanceMethod yX8_distinct ∈ lw_tbl := List.mem_append_right _ (List.mem_append_right _ (List.mem_append_right _ (List.mem_append_right _ (List.mem_of_getElem? (i := 175) rfl))))
set_option maxRecDepth 100000 in
theorem lw_u24_7 : Cond.selects RX8 yX8_distinct yX8_distinct ∈ lw_tbl := List.mem_append_right _ (List.mem_append_right _ (List.mem_append_right _ (List.mem_append_right _ (List.mem_of_getElem? (i := 176) rfl))))
set_option maxRecDepth 100000 in
theorem lw_u24_8 : Cond.code yX8_distinct cX8_distinct 4 (some .int) ∈ lw_tbl := List.mem_append_right _ (List.mem_append_right _ (List.mem_append_right _ (List.mem_append_right _ (List.mem_of_getElem? (i := 177) rfl))))
set_option maxRecDepth 100000 in
theorem lw_u24_9 : Cond.methodLink RL 40 yX7_join ∈ lw_tbl := List.mem_append_right _ (List.mem_append_right _ (List.mem_append_right _ (List.mem_append_left _ (List.mem_of_getElem? (i := 105) rfl))))
set_option maxRecDepth 100000 in
theorem lw_u24_10 : Cond.instanceMethod yX7_join ∈ lw_tbl := List.mem_append_right _ (List.mem_append_right _ (List.mem_append_right _ (List.mem_append_left _ (List.mem_of_getElem? (i := 106) rfl))))
set_option maxRecDepth 100000 in
theorem lw_u24_11 : Cond.selects RX7 yX7_join yX7_join ∈ lw_tbl := List.mem_append_right _ (List.mem_append_right _ (List.mem_append_right _ (List.mem_append_left _ (List.mem_of_getElem? (i := 107) rfl))))
set_option maxRecDepth 100000 in
theorem lw_u24_12 : Cond.code yX7_join cX7_join 7 (some .int) ∈ lw_tbl := List.mem_append_right _ (List.mem_append_right _ (List.mem_append_right _ (List.mem_append_left _ (List.mem_of_getElem? (i := 108) rfl))))
set_option maxRecDepth 100000 in
theorem lw_u24_13 : Cond.fieldLink RX7 137 "ExternalSort$Output" "head" "I" ∈ lw_tbl := List.mem_append_right _ (List.mem_append_left _ (List.mem_of_getElem? (i := 116) rfl))
set_option maxRecDepth 100000 in
theorem lw_u24_14 : Cond.fieldLink RX7 140 "ExternalSort$Output" "count" "I" ∈ lw_tbl := List.mem_append_right _ (List.mem_append_left _ (List.mem_of_getElem? (i := 119) rfl))
set_option maxRecDepth 100000 in
theorem lw_u24_15 : Cond.methodLink RX7 120 yX2_look ∈ lw_tbl := List.mem_append_right _ (List.mem_append_right _ (List.mem_append_right _ (List.mem_append_left _ (List.mem_of_getElem? (i := 109) rfl))))
set_option maxRecDepth 100000 in
theorem lw_u24_16 : Cond.instanceMethod yX2_look ∈ lw_tbl := List.mem_append_right _ (List.mem_append_right _ (List.mem_append_right _ (List.mem_append_left _ (List.mem_of_getElem? (i := 110) rfl))))
set_option maxRecDepth 100000 in
theorem lw_u24_17 : Cond.selects RX2 yX2_look yX2_look ∈ lw_tbl := List.mem_append_right _ (List.mem_append_right _ (List.mem_append_right _ (List.mem_append_left _ (List.mem_of_getElem? (i := 111) rfl))))
set_option maxRecDepth 100000 in
theorem lw_u24_18 : Cond.code yX2_look cX2_look 5 none ∈ lw_tbl := List.mem_append_right _ (List.mem_append_right _ (List.mem_append_right _ (List.mem_append_left _ (List.mem_of_getElem? (i := 112) rfl))))
set_option maxRecDepth 100000 in
theorem lw_u24_19 : Cond.fieldLink RX2 39 "ExternalSort$Joiner" "split" "I" ∈ lw_tbl := List.mem_append_right _ (List.mem_append_right _ (List.mem_append_left _ (List.mem_of_getElem? (i := 25) rfl)))
set_option maxRecDepth 100000 in
theorem lw_u24_20 : Cond.fieldLink RX2 42 "ExternalSort$Joiner" "end" "I" ∈ lw_tbl := List.mem_append_right _ (List.mem_append_right _ (List.mem_append_left _ (List.mem_of_getElem? (i := 26) rfl)))
set_option maxRecDepth 100000 in
theorem lw_u24_21 : Cond.methodLink RX2 35 yX2_copy ∈ lw_tbl := List.mem_append_right _ (List.mem_append_right _ (List.mem_append_right _ (List.mem_append_left _ (List.mem_of_getElem? (i := 113) rfl))))
set_option maxRecDepth 100000 in
theorem lw_u24_22 : Cond.instanceMethod yX2_copy ∈ lw_tbl := List.mem_append_right _ (List.mem_append_right _ (List.mem_append_right _ (List.mem_append_left _ (List.mem_of_getElem? (i := 115) rfl))))
set_option maxRecDepth 100000 in
theorem lw_u24_23 : Cond.selects RX2 yX2_copy yX2_copy ∈ lw_tbl := List.mem_append_left _ (List.mem_of_getElem? (i := 20) rfl)
theorem lw_ru24 : ∀ w ∈ wsL_law_r24, w ∈ lw_tbl := List.forall_mem_cons.mpr ⟨lw_u24_0, List.forall_mem_cons.mpr ⟨lw_u24_1, List.forall_mem_cons.mpr ⟨lw_u24_2, List.forall_mem_cons.mpr ⟨lw_u24_3, List.forall_mem_cons.mpr ⟨lw_u24_4, List.forall_mem_cons.mpr ⟨lw_u24_5, List.forall_mem_cons.mpr ⟨lw_u24_6, List.forall_mem_cons.mpr ⟨lw_u24_7, List.forall_mem_cons.mpr ⟨lw_u24_8, List.forall_mem_cons.mpr ⟨lw_u24_9, List.forall_mem_cons.mpr ⟨lw_u24_10, List.forall_mem_cons.mpr ⟨lw_u24_11, List.forall_mem_cons.mpr ⟨lw_u24_12, List.forall_mem_cons.mpr ⟨lw_u24_13, List.forall_mem_cons.mpr ⟨lw_u24_14, List.forall_mem_cons.mpr ⟨lw_u24_15, List.forall_mem_cons.mpr ⟨lw_u24_16, List.forall_mem_cons.mpr ⟨lw_u24_17, List.forall_mem_cons.mpr ⟨lw_u24_18, List.forall_mem_cons.mpr ⟨lw_u24_19, List.forall_mem_cons.mpr ⟨lw_u24_20, List.forall_mem_cons.mpr ⟨lw_u24_21, List.forall_mem_cons.mpr ⟨lw_u24_22, List.forall_mem_cons.mpr ⟨lw_u24_23, fun _ h => absurd h List.not_mem_nil⟩⟩⟩⟩⟩⟩⟩⟩⟩⟩⟩⟩⟩⟩⟩⟩⟩⟩⟩⟩⟩⟩⟩⟩
set_option maxRecDepth 100000 in
theorem lw_u25_0 : Cond.code yX2_copy cX2_copy 8 (some .int) ∈ lw_tbl := List.mem_append_right _ (List.mem_append_right _ (List.mem_append_right _ (List.mem_append_left _ (List.mem_of_getElem? (i := 116) rfl))))
set_option maxRecDepth 100000 in
theorem lw_u25_1 : Cond.methodLink RX2 96 Lib.Math.min.name ∈ lw_tbl := List.mem_append_right _ (List.mem_append_right _ (List.mem_append_right _ (List.mem_append_left _ (List.mem_of_getElem? (i := 117) rfl))))
set_option maxRecDepth 100000 in
theorem lw_u25_2 : Cond.methodLink RX2 99 yX0_keyAt ∈ lw_tbl := List.mem_append_right _ (List.mem_append_right _ (List.mem_append_right _ (List.mem_append_left _ (List.mem_of_getElem? (i := 118) rfl))))
set_option maxRecDepth 100000 in
theorem lw_u25_3 : Cond.methodLink RX2 102 yX0_tagAt ∈ lw_tbl := List.mem_append_right _ (List.mem_append_right _ (List.mem_append_right _ (List.mem_append_left _ (List.mem_of_getElem? (i := 119) rfl))))
set_option maxRecDepth 100000 in
theorem lw_u25_4 : Cond.methodLink RX2 105 yX0_nextOf ∈ lw_tbl := List.mem_append_right _ (List.mem_append_right _ (List.mem_append_right _ (List.mem_append_left _ (List.mem_of_getElem? (i := 120) rfl))))
set_option maxRecDepth 100000 in
theorem lw_u25_5 : Cond.methodLink RX7 123 yX2_largestGroupOfB ∈ lw_tbl := List.mem_append_right _ (List.mem_append_right _ (List.mem_append_right _ (List.mem_append_left _ (List.mem_of_getElem? (i := 121) rfl))))
set_option maxRecDepth 100000 in
theorem lw_u25_6 : Cond.instanceMethod yX2_largestGroupOfB ∈ lw_tbl := List.mem_append_right _ (List.mem_append_right _ (List.mem_append_right _ (List.mem_append_left _ (List.mem_of_getElem? (i := 122) rfl))))
set_option maxRecDepth 100000 in
theorem lw_u25_7 : Cond.selects RX2 yX2_largestGroupOfB yX2_largestGroupOfB ∈ lw_tbl := List.mem_append_right _ (List.mem_append_right _ (List.mem_append_right _ (List.mem_append_left _ (List.mem_of_getElem? (i := 123) rfl))))
set_option maxRecDepth 100000 in
theorem lw_u25_8 : Cond.code yX2_largestGroupOfB cX2_largestGroupOfB 4 (some .int) ∈ lw_tbl := List.mem_append_right _ (List.mem_append_right _ (List.mem_append_right _ (List.mem_append_left _ (List.mem_of_getElem? (i := 124) rfl))))
set_option maxRecDepth 100000 in
theorem lw_u25_9 : Cond.methodLink RX2 45 Lib.Math.max.name ∈ lw_tbl := List.mem_append_right _ (List.mem_append_right _ (List.mem_append_right _ (List.mem_append_left _ (List.mem_of_getElem? (i := 125) rfl))))
set_option maxRecDepth 100000 in
theorem lw_u25_10 : Cond.methodLink RX7 127 yX5_room ∈ lw_tbl := List.mem_append_right _ (List.mem_append_right _ (List.mem_append_right _ (List.mem_append_left _ (List.mem_of_getElem? (i := 126) rfl))))
set_option maxRecDepth 100000 in
theorem lw_u25_11 : Cond.methodLink RX7 130 yX2_pairsFit ∈ lw_tbl := List.mem_append_right _ (List.mem_append_right _ (List.mem_append_right _ (List.mem_append_left _ (List.mem_of_getElem? (i := 127) rfl))))
set_option maxRecDepth 100000 in
theorem lw_u25_12 : Cond.instanceMethod yX2_pairsFit ∈ lw_tbl := List.mem_append_right _ (List.mem_append_right _ (List.mem_append_right _ (List.mem_append_left _ (List.mem_of_getElem? (i := 128) rfl))))
set_option maxRecDepth 100000 in
theorem lw_u25_13 : Cond.selects RX2 yX2_pairsFit yX2_pairsFit ∈ lw_tbl := List.mem_append_right _ (List.mem_append_right _ (List.mem_append_right _ (List.mem_append_left _ (List.mem_of_getElem? (i := 129) rfl))))
set_option maxRecDepth 100000 in
theorem lw_u25_14 : Cond.code yX2_pairsFit cX2_pairsFit 1 (some .boolean) ∈ lw_tbl := List.mem_append_right _ (List.mem_append_right _ (List.mem_append_right _ (List.mem_append_left _ (List.mem_of_getElem? (i := 130) rfl))))
set_option maxRecDepth 100000 in
theorem lw_u25_15 : Cond.methodLink RX2 51 yX2_countPairs ∈ lw_tbl := List.mem_append_right _ (List.mem_append_right _ (List.mem_append_right _ (List.mem_append_left _ (List.mem_of_getElem? (i := 131) rfl))))
set_option maxRecDepth 100000 in
theorem lw_u25_16 : Cond.instanceMethod yX2_countPairs ∈ lw_tbl := List.mem_append_right _ (List.mem_append_right _ (List.mem_append_right _ (List.mem_append_left _ (List.mem_of_getElem? (i := 133) rfl))))
set_option maxRecDepth 100000 in
theorem lw_u25_17 : Cond.selects RX2 yX2_countPairs yX2_countPairs ∈ lw_tbl := List.mem_append_left _ (List.mem_of_getElem? (i := 21) rfl)
set_option maxRecDepth 100000 in
theorem lw_u25_18 : Cond.code yX2_countPairs cX2_countPairs 3 (some .int) ∈ lw_tbl := List.mem_append_right _ (List.mem_append_right _ (List.mem_append_right _ (List.mem_append_left _ (List.mem_of_getElem? (i := 134) rfl))))
set_option maxRecDepth 100000 in
theorem lw_u25_19 : Cond.fieldLink RX2 108 "ExternalSort$Joiner" "endA" "I" ∈ lw_tbl := List.mem_append_right _ (List.mem_append_right _ (List.mem_append_left _ (List.mem_of_getElem? (i := 28) rfl)))
set_option maxRecDepth 100000 in
theorem lw_u25_20 : Cond.fieldLink RX2 111 "ExternalSort$Joiner" "groupA" "I" ∈ lw_tbl := List.mem_append_right _ (List.mem_append_right _ (List.mem_append_left _ (List.mem_of_getElem? (i := 27) rfl)))
set_option maxRecDepth 100000 in
theorem lw_u25_21 : Cond.fieldLink RX2 114 "ExternalSort$Joiner" "endB" "I" ∈ lw_tbl := List.mem_append_right _ (List.mem_append_right _ (List.mem_append_left _ (List.mem_of_getElem? (i := 30) rfl)))
set_option maxRecDepth 100000 in
theorem lw_u25_22 : Cond.fieldLink RX2 117 "ExternalSort$Joiner" "groupB" "I" ∈ lw_tbl := List.mem_append_right _ (List.mem_append_right _ (List.mem_append_left _ (List.mem_of_getElem? (i := 29) rfl)))
set_option maxRecDepth 100000 in
theorem lw_u25_23 : Cond.methodLink RX2 83 yX2_rewind ∈ lw_tbl := List.mem_append_right _ (List.mem_append_right _ (List.mem_append_right _ (List.mem_append_left _ (List.mem_of_getElem? (i := 135) rfl))))
theorem lw_ru25 : ∀ w ∈ wsL_law_r25, w ∈ lw_tbl := List.forall_mem_cons.mpr ⟨lw_u25_0, List.forall_mem_cons.mpr ⟨lw_u25_1, List.forall_mem_cons.mpr ⟨lw_u25_2, List.forall_mem_cons.mpr ⟨lw_u25_3, List.forall_mem_cons.mpr ⟨lw_u25_4, List.forall_mem_cons.mpr ⟨lw_u25_5, List.forall_mem_cons.mpr ⟨lw_u25_6, List.forall_mem_cons.mpr ⟨lw_u25_7, List.forall_mem_cons.mpr ⟨lw_u25_8, List.forall_mem_cons.mpr ⟨lw_u25_9, List.forall_mem_cons.mpr ⟨lw_u25_10, List.forall_mem_cons.mpr ⟨lw_u25_11, List.forall_mem_cons.mpr ⟨lw_u25_12, List.forall_mem_cons.mpr ⟨lw_u25_13, List.forall_mem_cons.mpr ⟨lw_u25_14, List.forall_mem_cons.mpr ⟨lw_u25_15, List.forall_mem_cons.mpr ⟨lw_u25_16, List.forall_mem_cons.mpr ⟨lw_u25_17, List.forall_mem_cons.mpr ⟨lw_u25_18, List.forall_mem_cons.mpr ⟨lw_u25_19, List.forall_mem_cons.mpr ⟨lw_u25_20, List.forall_mem_cons.mpr ⟨lw_u25_21, List.forall_mem_cons.mpr ⟨lw_u25_22, List.forall_mem_cons.mpr ⟨lw_u25_23, fun _ h => absurd h List.not_mem_nil⟩⟩⟩⟩⟩⟩⟩⟩⟩⟩⟩⟩⟩⟩⟩⟩⟩⟩⟩⟩⟩⟩⟩⟩
set_option maxRecDepth 100000 in
theorem lw_u26_0 : Cond.instanceMethod yX2_rewind ∈ lw_tbl := List.mem_append_right _ (List.mem_append_right _ (List.mem_append_right _ (List.mem_append_left _ (List.mem_of_getElem? (i := 137) rfl))))
set_option maxRecDepth 100000 in
theorem lw_u26_1 : Cond.selects RX2 yX2_rewind yX2_rewind ∈ lw_tbl := List.mem_append_left _ (List.mem_of_getElem? (i := 22) rfl)
set_option maxRecDepth 100000 in
theorem lw_u26_2 : Cond.code yX2_rewind cX2_rewind 1 none ∈ lw_tbl := List.mem_append_right _ (List.mem_append_right _ (List.mem_append_right _ (List.mem_append_left _ (List.mem_of_getElem? (i := 138) rfl))))
set_option maxRecDepth 100000 in
theorem lw_u26_3 : Cond.methodLink RX2 86 yX2_findGroup ∈ lw_tbl := List.mem_append_right _ (List.mem_append_right _ (List.mem_append_right _ (List.mem_append_left _ (List.mem_of_getElem? (i := 139) rfl))))
set_option maxRecDepth 100000 in
theorem lw_u26_4 : Cond.instanceMethod yX2_findGroup ∈ lw_tbl := List.mem_append_right _ (List.mem_append_right _ (List.mem_append_right _ (List.mem_append_left _ (List.mem_of_getElem? (i := 141) rfl))))
set_option maxRecDepth 100000 in
theorem lw_u26_5 : Cond.selects RX2 yX2_findGroup yX2_findGroup ∈ lw_tbl := List.mem_append_left _ (List.mem_of_getElem? (i := 23) rfl)
set_option maxRecDepth 100000 in
theorem lw_u26_6 : Cond.code yX2_findGroup cX2_findGroup 2 (some .boolean) ∈ lw_tbl := List.mem_append_right _ (List.mem_append_right _ (List.mem_append_right _ (List.mem_append_left _ (List.mem_of_getElem? (i := 142) rfl))))
set_option maxRecDepth 100000 in
theorem lw_u26_7 : Cond.methodLink RX2 120 yX2_groupEnd ∈ lw_tbl := List.mem_append_right _ (List.mem_append_right _ (List.mem_append_right _ (List.mem_append_left _ (List.mem_of_getElem? (i := 143) rfl))))
set_option maxRecDepth 100000 in
theorem lw_u26_8 : Cond.instanceMethod yX2_groupEnd ∈ lw_tbl := List.mem_append_right _ (List.mem_append_right _ (List.mem_append_right _ (List.mem_append_left _ (List.mem_of_getElem? (i := 145) rfl))))
set_option maxRecDepth 100000 in
theorem lw_u26_9 : Cond.selects RX2 yX2_groupEnd yX2_groupEnd ∈ lw_tbl := List.mem_append_left _ (List.mem_of_getElem? (i := 24) rfl)
set_option maxRecDepth 100000 in
theorem lw_u26_10 : Cond.code yX2_groupEnd cX2_groupEnd 4 (some .int) ∈ lw_tbl := List.mem_append_right _ (List.mem_append_right _ (List.mem_append_right _ (List.mem_append_left _ (List.mem_of_getElem? (i := 146) rfl))))
set_option maxRecDepth 100000 in
theorem lw_u26_11 : Cond.methodLink RX2 55 yX0_pagesFor ∈ lw_tbl := List.mem_append_right _ (List.mem_append_right _ (List.mem_append_right _ (List.mem_append_left _ (List.mem_of_getElem? (i := 147) rfl))))
set_option maxRecDepth 100000 in
theorem lw_u26_12 : Cond.instanceMethod yX0_pagesFor ∈ lw_tbl := List.mem_append_right _ (List.mem_append_right _ (List.mem_append_right _ (List.mem_append_left _ (List.mem_of_getElem? (i := 148) rfl))))
set_option maxRecDepth 100000 in
theorem lw_u26_13 : Cond.selects RX0 yX0_pagesFor yX0_pagesFor ∈ lw_tbl := List.mem_append_right _ (List.mem_append_right _ (List.mem_append_right _ (List.mem_append_left _ (List.mem_of_getElem? (i := 149) rfl))))
set_option maxRecDepth 100000 in
theorem lw_u26_14 : Cond.code yX0_pagesFor cX0_pagesFor 2 (some .int) ∈ lw_tbl := List.mem_append_right _ (List.mem_append_right _ (List.mem_append_right _ (List.mem_append_left _ (List.mem_of_getElem? (i := 150) rfl))))
set_option maxRecDepth 100000 in
theorem lw_u26_15 : Cond.methodLink RX2 59 yX0_freePages ∈ lw_tbl := List.mem_append_right _ (List.mem_append_right _ (List.mem_append_right _ (List.mem_append_left _ (List.mem_of_getElem? (i := 151) rfl))))
set_option maxRecDepth 100000 in
theorem lw_u26_16 : Cond.instanceMethod yX0_freePages ∈ lw_tbl := List.mem_append_right _ (List.mem_append_right _ (List.mem_append_right _ (List.mem_append_left _ (List.mem_of_getElem? (i := 152) rfl))))
set_option maxRecDepth 100000 in
theorem lw_u26_17 : Cond.selects RX0 yX0_freePages yX0_freePages ∈ lw_tbl := List.mem_append_right _ (List.mem_append_right _ (List.mem_append_right _ (List.mem_append_left _ (List.mem_of_getElem? (i := 153) rfl))))
set_option maxRecDepth 100000 in
theorem lw_u26_18 : Cond.code yX0_freePages cX0_freePages 1 (some .int) ∈ lw_tbl := List.mem_append_right _ (List.mem_append_right _ (List.mem_append_right _ (List.mem_append_left _ (List.mem_of_getElem? (i := 154) rfl))))
set_option maxRecDepth 100000 in
theorem lw_u26_19 : Cond.methodLink RX2 62 yX2_sortedPages ∈ lw_tbl := List.mem_append_right _ (List.mem_append_right _ (List.mem_append_right _ (List.mem_append_left _ (List.mem_of_getElem? (i := 155) rfl))))
set_option maxRecDepth 100000 in
theorem lw_u26_20 : Cond.instanceMethod yX2_sortedPages ∈ lw_tbl := List.mem_append_right _ (List.mem_append_right _ (List.mem_append_right _ (List.mem_append_left _ (List.mem_of_getElem? (i := 157) rfl))))
set_option maxRecDepth 100000 in
theorem lw_u26_21 : Cond.selects RX2 yX2_sortedPages yX2_sortedPages ∈ lw_tbl := List.mem_append_left _ (List.mem_of_getElem? (i := 25) rfl)
set_option maxRecDepth 100000 in
theorem lw_u26_22 : Cond.code yX2_sortedPages cX2_sortedPages 1 (some .int) ∈ lw_tbl := List.mem_append_right _ (List.mem_append_right _ (List.mem_append_right _ (List.mem_append_left _ (List.mem_of_getElem? (i := 158) rfl))))
set_option maxRecDepth 100000 in
theorem lw_u26_23 : Cond.methodLink RX7 134 yX2_writePairs ∈ lw_tbl := List.mem_append_right _ (List.mem_append_right _ (List.mem_append_right _ (List.mem_append_left _ (List.mem_of_getElem? (i := 159) rfl))))
theorem lw_ru26 : ∀ w ∈ wsL_law_r26, w ∈ lw_tbl := List.forall_mem_cons.mpr ⟨lw_u26_0, List.forall_mem_cons.mpr ⟨lw_u26_1, List.forall_mem_cons.mpr ⟨lw_u26_2, List.forall_mem_cons.mpr ⟨lw_u26_3, List.forall_mem_cons.mpr ⟨lw_u26_4, List.forall_mem_cons.mpr ⟨lw_u26_5, List.forall_mem_cons.mpr ⟨lw_u26_6, List.forall_mem_cons.mpr ⟨lw_u26_7, List.forall_mem_cons.mpr ⟨lw_u26_8, List.forall_mem_cons.mpr ⟨lw_u26_9, List.forall_mem_cons.mpr ⟨lw_u26_10, List.forall_mem_cons.mpr ⟨lw_u26_11, List.forall_mem_cons.mpr ⟨lw_u26_12, List.forall_mem_cons.mpr ⟨lw_u26_13, List.forall_mem_cons.mpr ⟨lw_u26_14, List.forall_mem_cons.mpr ⟨lw_u26_15, List.forall_mem_cons.mpr ⟨lw_u26_16, List.forall_mem_cons.mpr ⟨lw_u26_17, List.forall_mem_cons.mpr ⟨lw_u26_18, List.forall_mem_cons.mpr ⟨lw_u26_19, List.forall_mem_cons.mpr ⟨lw_u26_20, List.forall_mem_cons.mpr ⟨lw_u26_21, List.forall_mem_cons.mpr ⟨lw_u26_22, List.forall_mem_cons.mpr ⟨lw_u26_23, fun _ h => absurd h List.not_mem_nil⟩⟩⟩⟩⟩⟩⟩⟩⟩⟩⟩⟩⟩⟩⟩⟩⟩⟩⟩⟩⟩⟩⟩⟩
set_option maxRecDepth 100000 in
theorem lw_u27_0 : Cond.instanceMethod yX2_writePairs ∈ lw_tbl := List.mem_append_right _ (List.mem_append_right _ (List.mem_append_right _ (List.mem_append_left _ (List.mem_of_getElem? (i := 160) rfl))))
set_option maxRecDepth 100000 in
theorem lw_u27_1 : Cond.selects RX2 yX2_writePairs yX2_writePairs ∈ lw_tbl := List.mem_append_right _ (List.mem_append_right _ (List.mem_append_right _ (List.mem_append_left _ (List.mem_of_getElem? (i := 161) rfl))))
set_option maxRecDepth 100000 in
theorem lw_u27_2 : Cond.code yX2_writePairs cX2_writePairs 2 (some .boolean) ∈ lw_tbl := List.mem_append_right _ (List.mem_append_right _ (List.mem_append_right _ (List.mem_append_left _ (List.mem_of_getElem? (i := 162) rfl))))
set_option maxRecDepth 100000 in
theorem lw_u27_3 : Cond.fieldLink RX2 65 "ExternalSort$Disk" "tally" "LExternalSort$Tally;" ∈ lw_tbl := List.mem_append_right _ (List.mem_append_left _ (List.mem_of_getElem? (i := 80) rfl))
set_option maxRecDepth 100000 in
theorem lw_u27_4 : Cond.fieldLink RX2 69 "ExternalSort$Tally" "reads" "I" ∈ lw_tbl := List.mem_append_right _ (List.mem_append_left _ (List.mem_of_getElem? (i := 33) rfl))
set_option maxRecDepth 100000 in
theorem lw_u27_5 : Cond.methodLink RX2 74 yX0_releaseAll ∈ lw_tbl := List.mem_append_right _ (List.mem_append_right _ (List.mem_append_right _ (List.mem_append_left _ (List.mem_of_getElem? (i := 163) rfl))))
set_option maxRecDepth 100000 in
theorem lw_u27_6 : Cond.methodLink RX2 77 yX4_open ∈ lw_tbl := List.mem_append_right _ (List.mem_append_right _ (List.mem_append_right _ (List.mem_append_left _ (List.mem_of_getElem? (i := 164) rfl))))
set_option maxRecDepth 100000 in
theorem lw_u27_7 : Cond.methodLink RX2 90 yX2_writeGroup ∈ lw_tbl := List.mem_append_right _ (List.mem_append_right _ (List.mem_append_right _ (List.mem_append_left _ (List.mem_of_getElem? (i := 165) rfl))))
set_option maxRecDepth 100000 in
theorem lw_u27_8 : Cond.instanceMethod yX2_writeGroup ∈ lw_tbl := List.mem_append_right _ (List.mem_append_right _ (List.mem_append_right _ (List.mem_append_left _ (List.mem_of_getElem? (i := 167) rfl))))
set_option maxRecDepth 100000 in
theorem lw_u27_9 : Cond.selects RX2 yX2_writeGroup yX2_writeGroup ∈ lw_tbl := List.mem_append_left _ (List.mem_of_getElem? (i := 26) rfl)
set_option maxRecDepth 100000 in
theorem lw_u27_10 : Cond.code yX2_writeGroup cX2_writeGroup 3 (some .boolean) ∈ lw_tbl := List.mem_append_right _ (List.mem_append_right _ (List.mem_append_right _ (List.mem_append_left _ (List.mem_of_getElem? (i := 168) rfl))))
set_option maxRecDepth 100000 in
theorem lw_u27_11 : Cond.methodLink RX2 123 yX4_put ∈ lw_tbl := List.mem_append_right _ (List.mem_append_right _ (List.mem_append_right _ (List.mem_append_left _ (List.mem_of_getElem? (i := 169) rfl))))
set_option maxRecDepth 100000 in
theorem lw_u27_12 : Cond.methodLink RX2 93 yX4_close ∈ lw_tbl := List.mem_append_right _ (List.mem_append_right _ (List.mem_append_right _ (List.mem_append_left _ (List.mem_of_getElem? (i := 170) rfl))))
set_option maxRecDepth 100000 in
theorem lw_u27_13 : Cond.methodLink RL 43 yX8_join ∈ lw_tbl := List.mem_append_right _ (List.mem_append_right _ (List.mem_append_right _ (List.mem_append_right _ (List.mem_of_getElem? (i := 178) rfl))))
set_option maxRecDepth 100000 in
theorem lw_u27_14 : Cond.instanceMethod yX8_join ∈ lw_tbl := List.mem_append_right _ (List.mem_append_right _ (List.mem_append_right _ (List.mem_append_right _ (List.mem_of_getElem? (i := 179) rfl))))
set_option maxRecDepth 100000 in
theorem lw_u27_15 : Cond.selects RX8 yX8_join yX8_join ∈ lw_tbl := List.mem_append_right _ (List.mem_append_right _ (List.mem_append_right _ (List.mem_append_right _ (List.mem_of_getElem? (i := 180) rfl))))
set_option maxRecDepth 100000 in
theorem lw_u27_16 : Cond.code yX8_join cX8_join 9 (some .int) ∈ lw_tbl := List.mem_append_right _ (List.mem_append_right _ (List.mem_append_right _ (List.mem_append_right _ (List.mem_of_getElem? (i := 181) rfl))))
set_option maxRecDepth 100000 in
theorem lw_u27_17 : Cond.methodLink RX8 197 yX8_joined ∈ lw_tbl := List.mem_append_right _ (List.mem_append_right _ (List.mem_append_right _ (List.mem_append_right _ (List.mem_of_getElem? (i := 182) rfl))))
set_option maxRecDepth 100000 in
theorem lw_u27_18 : Cond.instanceMethod yX8_joined ∈ lw_tbl := List.mem_append_right _ (List.mem_append_right _ (List.mem_append_right _ (List.mem_append_right _ (List.mem_of_getElem? (i := 184) rfl))))
set_option maxRecDepth 100000 in
theorem lw_u27_19 : Cond.selects RX8 yX8_joined yX8_joined ∈ lw_tbl := List.mem_append_left _ (List.mem_of_getElem? (i := 45) rfl)
set_option maxRecDepth 100000 in
theorem lw_u27_20 : Cond.code yX8_joined cX8_joined 12 (some .int) ∈ lw_tbl := List.mem_append_right _ (List.mem_append_right _ (List.mem_append_right _ (List.mem_append_right _ (List.mem_of_getElem? (i := 185) rfl))))
set_option maxRecDepth 100000 in
theorem lw_u27_21 : Cond.methodLink RX8 200 yX8_puts2 ∈ lw_tbl := List.mem_append_right _ (List.mem_append_right _ (List.mem_append_right _ (List.mem_append_right _ (List.mem_of_getElem? (i := 186) rfl))))
set_option maxRecDepth 100000 in
theorem lw_u27_22 : Cond.instanceMethod yX8_puts2 ∈ lw_tbl := List.mem_append_right _ (List.mem_append_right _ (List.mem_append_right _ (List.mem_append_right _ (List.mem_of_getElem? (i := 188) rfl))))
set_option maxRecDepth 100000 in
theorem lw_u27_23 : Cond.selects RX8 yX8_puts2 yX8_puts2 ∈ lw_tbl := List.mem_append_left _ (List.mem_of_getElem? (i := 46) rfl)
theorem lw_ru27 : ∀ w ∈ wsL_law_r27, w ∈ lw_tbl := List.forall_mem_cons.mpr ⟨lw_u27_0, List.forall_mem_cons.mpr ⟨lw_u27_1, List.forall_mem_cons.mpr ⟨lw_u27_2, List.forall_mem_cons.mpr ⟨lw_u27_3, List.forall_mem_cons.mpr ⟨lw_u27_4, List.forall_mem_cons.mpr ⟨lw_u27_5, List.forall_mem_cons.mpr ⟨lw_u27_6, List.forall_mem_cons.mpr ⟨lw_u27_7, List.forall_mem_cons.mpr ⟨lw_u27_8, List.forall_mem_cons.mpr ⟨lw_u27_9, List.forall_mem_cons.mpr ⟨lw_u27_10, List.forall_mem_cons.mpr ⟨lw_u27_11, List.forall_mem_cons.mpr ⟨lw_u27_12, List.forall_mem_cons.mpr ⟨lw_u27_13, List.forall_mem_cons.mpr ⟨lw_u27_14, List.forall_mem_cons.mpr ⟨lw_u27_15, List.forall_mem_cons.mpr ⟨lw_u27_16, List.forall_mem_cons.mpr ⟨lw_u27_17, List.forall_mem_cons.mpr ⟨lw_u27_18, List.forall_mem_cons.mpr ⟨lw_u27_19, List.forall_mem_cons.mpr ⟨lw_u27_20, List.forall_mem_cons.mpr ⟨lw_u27_21, List.forall_mem_cons.mpr ⟨lw_u27_22, List.forall_mem_cons.mpr ⟨lw_u27_23, fun _ h => absurd h List.not_mem_nil⟩⟩⟩⟩⟩⟩⟩⟩⟩⟩⟩⟩⟩⟩⟩⟩⟩⟩⟩⟩⟩⟩⟩⟩
set_option maxRecDepth 100000 in
theorem lw_u28_0 : Cond.code yX8_puts2 cX8_puts2 8 none ∈ lw_tbl := List.mem_append_right _ (List.mem_append_right _ (List.mem_append_right _ (List.mem_append_right _ (List.mem_of_getElem? (i := 189) rfl))))
set_option maxRecDepth 100000 in
theorem lw_u28_1 : Cond.methodLink RL 44 yX7_size ∈ lw_tbl := List.mem_append_right _ (List.mem_append_right _ (List.mem_append_right _ (List.mem_append_left _ (List.mem_of_getElem? (i := 171) rfl))))
set_option maxRecDepth 100000 in
theorem lw_u28_2 : Cond.instanceMethod yX7_size ∈ lw_tbl := List.mem_append_right _ (List.mem_append_right _ (List.mem_append_right _ (List.mem_append_left _ (List.mem_of_getElem? (i := 172) rfl))))
set_option maxRecDepth 100000 in
theorem lw_u28_3 : Cond.selects RX7 yX7_size yX7_size ∈ lw_tbl := List.mem_append_right _ (List.mem_append_right _ (List.mem_append_right _ (List.mem_append_left _ (List.mem_of_getElem? (i := 173) rfl))))
set_option maxRecDepth 100000 in
theorem lw_u28_4 : Cond.code yX7_size cX7_size 2 (some .int) ∈ lw_tbl := List.mem_append_right _ (List.mem_append_right _ (List.mem_append_right _ (List.mem_append_left _ (List.mem_of_getElem? (i := 174) rfl))))
set_option maxRecDepth 100000 in
theorem lw_u28_5 : Cond.methodLink RL 47 yX8_size ∈ lw_tbl := List.mem_append_right _ (List.mem_append_right _ (List.mem_append_right _ (List.mem_append_right _ (List.mem_of_getElem? (i := 190) rfl))))
set_option maxRecDepth 100000 in
theorem lw_u28_6 : Cond.instanceMethod yX8_size ∈ lw_tbl := List.mem_append_right _ (List.mem_append_right _ (List.mem_append_right _ (List.mem_append_right _ (List.mem_of_getElem? (i := 191) rfl))))
set_option maxRecDepth 100000 in
theorem lw_u28_7 : Cond.selects RX8 yX8_size yX8_size ∈ lw_tbl := List.mem_append_right _ (List.mem_append_right _ (List.mem_append_right _ (List.mem_append_right _ (List.mem_of_getElem? (i := 192) rfl))))
set_option maxRecDepth 100000 in
theorem lw_u28_8 : Cond.code yX8_size cX8_size 2 (some .int) ∈ lw_tbl := List.mem_append_right _ (List.mem_append_right _ (List.mem_append_right _ (List.mem_append_right _ (List.mem_of_getElem? (i := 193) rfl))))
set_option maxRecDepth 100000 in
theorem lw_u28_9 : Cond.methodLink RL 48 yX7_key ∈ lw_tbl := List.mem_append_right _ (List.mem_append_right _ (List.mem_append_right _ (List.mem_append_left _ (List.mem_of_getElem? (i := 175) rfl))))
set_option maxRecDepth 100000 in
theorem lw_u28_10 : Cond.instanceMethod yX7_key ∈ lw_tbl := List.mem_append_right _ (List.mem_append_right _ (List.mem_append_right _ (List.mem_append_left _ (List.mem_of_getElem? (i := 176) rfl))))
set_option maxRecDepth 100000 in
theorem lw_u28_11 : Cond.selects RX7 yX7_key yX7_key ∈ lw_tbl := List.mem_append_right _ (List.mem_append_right _ (List.mem_append_right _ (List.mem_append_left _ (List.mem_of_getElem? (i := 177) rfl))))
set_option maxRecDepth 100000 in
theorem lw_u28_12 : Cond.code yX7_key cX7_key 3 (some .int) ∈ lw_tbl := List.mem_append_right _ (List.mem_append_right _ (List.mem_append_right _ (List.mem_append_left _ (List.mem_of_getElem? (i := 178) rfl))))
set_option maxRecDepth 100000 in
theorem lw_u28_13 : Cond.methodLink RX7 147 yX7_hasRecord ∈ lw_tbl := List.mem_append_right _ (List.mem_append_right _ (List.mem_append_right _ (List.mem_append_left _ (List.mem_of_getElem? (i := 179) rfl))))
set_option maxRecDepth 100000 in
theorem lw_u28_14 : Cond.instanceMethod yX7_hasRecord ∈ lw_tbl := List.mem_append_right _ (List.mem_append_right _ (List.mem_append_right _ (List.mem_append_left _ (List.mem_of_getElem? (i := 181) rfl))))
set_option maxRecDepth 100000 in
theorem lw_u28_15 : Cond.selects RX7 yX7_hasRecord yX7_hasRecord ∈ lw_tbl := List.mem_append_left _ (List.mem_of_getElem? (i := 27) rfl)
set_option maxRecDepth 100000 in
theorem lw_u28_16 : Cond.code yX7_hasRecord cX7_hasRecord 3 (some .boolean) ∈ lw_tbl := List.mem_append_right _ (List.mem_append_right _ (List.mem_append_right _ (List.mem_append_left _ (List.mem_of_getElem? (i := 182) rfl))))
set_option maxRecDepth 100000 in
theorem lw_u28_17 : Cond.methodLink RX7 150 yX0_keyAt ∈ lw_tbl := List.mem_append_right _ (List.mem_append_right _ (List.mem_append_right _ (List.mem_append_left _ (List.mem_of_getElem? (i := 183) rfl))))
set_option maxRecDepth 100000 in
theorem lw_u28_18 : Cond.methodLink RL 52 yX8_key ∈ lw_tbl := List.mem_append_right _ (List.mem_append_right _ (List.mem_append_right _ (List.mem_append_right _ (List.mem_of_getElem? (i := 194) rfl))))
set_option maxRecDepth 100000 in
theorem lw_u28_19 : Cond.instanceMethod yX8_key ∈ lw_tbl := List.mem_append_right _ (List.mem_append_right _ (List.mem_append_right _ (List.mem_append_right _ (List.mem_of_getElem? (i := 195) rfl))))
set_option maxRecDepth 100000 in
theorem lw_u28_20 : Cond.selects RX8 yX8_key yX8_key ∈ lw_tbl := List.mem_append_right _ (List.mem_append_right _ (List.mem_append_right _ (List.mem_append_right _ (List.mem_of_getElem? (i := 196) rfl))))
set_option maxRecDepth 100000 in
theorem lw_u28_21 : Cond.code yX8_key cX8_key 3 (some .int) ∈ lw_tbl := List.mem_append_right _ (List.mem_append_right _ (List.mem_append_right _ (List.mem_append_right _ (List.mem_of_getElem? (i := 197) rfl))))
set_option maxRecDepth 100000 in
theorem lw_u28_22 : Cond.methodLink RL 53 yX7_tag ∈ lw_tbl := List.mem_append_right _ (List.mem_append_right _ (List.mem_append_right _ (List.mem_append_left _ (List.mem_of_getElem? (i := 184) rfl))))
set_option maxRecDepth 100000 in
theorem lw_u28_23 : Cond.instanceMethod yX7_tag ∈ lw_tbl := List.mem_append_right _ (List.mem_append_right _ (List.mem_append_right _ (List.mem_append_left _ (List.mem_of_getElem? (i := 185) rfl))))
theorem lw_ru28 : ∀ w ∈ wsL_law_r28, w ∈ lw_tbl := List.forall_mem_cons.mpr ⟨lw_u28_0, List.forall_mem_cons.mpr ⟨lw_u28_1, List.forall_mem_cons.mpr ⟨lw_u28_2, List.forall_mem_cons.mpr ⟨lw_u28_3, List.forall_mem_cons.mpr ⟨lw_u28_4, List.forall_mem_cons.mpr ⟨lw_u28_5, List.forall_mem_cons.mpr ⟨lw_u28_6, List.forall_mem_cons.mpr ⟨lw_u28_7, List.forall_mem_cons.mpr ⟨lw_u28_8, List.forall_mem_cons.mpr ⟨lw_u28_9, List.forall_mem_cons.mpr ⟨lw_u28_10, List.forall_mem_cons.mpr ⟨lw_u28_11, List.forall_mem_cons.mpr ⟨lw_u28_12, List.forall_mem_cons.mpr ⟨lw_u28_13, List.forall_mem_cons.mpr ⟨lw_u28_14, List.forall_mem_cons.mpr ⟨lw_u28_15, List.forall_mem_cons.mpr ⟨lw_u28_16, List.forall_mem_cons.mpr ⟨lw_u28_17, List.forall_mem_cons.mpr ⟨lw_u28_18, List.forall_mem_cons.mpr ⟨lw_u28_19, List.forall_mem_cons.mpr ⟨lw_u28_20, List.forall_mem_cons.mpr ⟨lw_u28_21, List.forall_mem_cons.mpr ⟨lw_u28_22, List.forall_mem_cons.mpr ⟨lw_u28_23, fun _ h => absurd h List.not_mem_nil⟩⟩⟩⟩⟩⟩⟩⟩⟩⟩⟩⟩⟩⟩⟩⟩⟩⟩⟩⟩⟩⟩⟩⟩
set_option maxRecDepth 100000 in
theorem lw_u29_0 : Cond.selects RX7 yX7_tag yX7_tag ∈ lw_tbl := List.mem_append_right _ (List.mem_append_right _ (List.mem_append_right _ (List.mem_append_left _ (List.mem_of_getElem? (i := 186) rfl))))
set_option maxRecDepth 100000 in
theorem lw_u29_1 : Cond.code yX7_tag cX7_tag 3 (some .int) ∈ lw_tbl := List.mem_append_right _ (List.mem_append_right _ (List.mem_append_right _ (List.mem_append_left _ (List.mem_of_getElem? (i := 187) rfl))))
set_option maxRecDepth 100000 in
theorem lw_u29_2 : Cond.methodLink RX7 153 yX0_tagAt ∈ lw_tbl := List.mem_append_right _ (List.mem_append_right _ (List.mem_append_right _ (List.mem_append_left _ (List.mem_of_getElem? (i := 188) rfl))))
set_option maxRecDepth 100000 in
theorem lw_u29_3 : Cond.methodLink RL 56 yX8_tag ∈ lw_tbl := List.mem_append_right _ (List.mem_append_right _ (List.mem_append_right _ (List.mem_append_right _ (List.mem_of_getElem? (i := 198) rfl))))
set_option maxRecDepth 100000 in
theorem lw_u29_4 : Cond.instanceMethod yX8_tag ∈ lw_tbl := List.mem_append_right _ (List.mem_append_right _ (List.mem_append_right _ (List.mem_append_right _ (List.mem_of_getElem? (i := 199) rfl))))
set_option maxRecDepth 100000 in
theorem lw_u29_5 : Cond.selects RX8 yX8_tag yX8_tag ∈ lw_tbl := List.mem_append_right _ (List.mem_append_right _ (List.mem_append_right _ (List.mem_append_right _ (List.mem_of_getElem? (i := 200) rfl))))
set_option maxRecDepth 100000 in
theorem lw_u29_6 : Cond.code yX8_tag cX8_tag 3 (some .int) ∈ lw_tbl := List.mem_append_right _ (List.mem_append_right _ (List.mem_append_right _ (List.mem_append_right _ (List.mem_of_getElem? (i := 201) rfl))))
set_option maxRecDepth 100000 in
theorem lw_u29_7 : Cond.methodLink RL 57 yX7_told ∈ lw_tbl := List.mem_append_right _ (List.mem_append_right _ (List.mem_append_right _ (List.mem_append_left _ (List.mem_of_getElem? (i := 189) rfl))))
set_option maxRecDepth 100000 in
theorem lw_u29_8 : Cond.instanceMethod yX7_told ∈ lw_tbl := List.mem_append_right _ (List.mem_append_right _ (List.mem_append_right _ (List.mem_append_left _ (List.mem_of_getElem? (i := 190) rfl))))
set_option maxRecDepth 100000 in
theorem lw_u29_9 : Cond.selects RX7 yX7_told yX7_told ∈ lw_tbl := List.mem_append_right _ (List.mem_append_right _ (List.mem_append_right _ (List.mem_append_left _ (List.mem_of_getElem? (i := 191) rfl))))
set_option maxRecDepth 100000 in
theorem lw_u29_10 : Cond.code yX7_told cX7_told 2 (some .int) ∈ lw_tbl := List.mem_append_right _ (List.mem_append_right _ (List.mem_append_right _ (List.mem_append_left _ (List.mem_of_getElem? (i := 192) rfl))))
set_option maxRecDepth 100000 in
theorem lw_u29_11 : Cond.fieldLink RX7 156 "ExternalSort$Tally" "reads" "I" ∈ lw_tbl := List.mem_append_right _ (List.mem_append_left _ (List.mem_of_getElem? (i := 35) rfl))
set_option maxRecDepth 100000 in
theorem lw_u29_12 : Cond.fieldLink RX7 159 "ExternalSort$Tally" "writes" "I" ∈ lw_tbl := List.mem_append_right _ (List.mem_append_left _ (List.mem_of_getElem? (i := 38) rfl))
set_option maxRecDepth 100000 in
theorem lw_u29_13 : Cond.fieldLink RX7 162 "ExternalSort$Tally" "runs" "I" ∈ lw_tbl := List.mem_append_right _ (List.mem_append_left _ (List.mem_of_getElem? (i := 40) rfl))
set_option maxRecDepth 100000 in
theorem lw_u29_14 : Cond.fieldLink RX7 165 "ExternalSort$Tally" "passes" "I" ∈ lw_tbl := List.mem_append_right _ (List.mem_append_left _ (List.mem_of_getElem? (i := 42) rfl))
set_option maxRecDepth 100000 in
theorem lw_u29_15 : Cond.fieldLink RX7 168 "ExternalSort$Tally" "peak" "I" ∈ lw_tbl := List.mem_append_right _ (List.mem_append_left _ (List.mem_of_getElem? (i := 45) rfl))
set_option maxRecDepth 100000 in
theorem lw_u29_16 : Cond.fieldLink RX7 174 "ExternalSort$Disk" "pages" "I" ∈ lw_tbl := List.mem_append_right _ (List.mem_append_left _ (List.mem_of_getElem? (i := 72) rfl))
set_option maxRecDepth 100000 in
theorem lw_u29_17 : Cond.fieldLink RX7 177 "ExternalSort$Disk" "records" "I" ∈ lw_tbl := List.mem_append_right _ (List.mem_append_left _ (List.mem_of_getElem? (i := 78) rfl))
set_option maxRecDepth 100000 in
theorem lw_u29_18 : Cond.methodLink RX7 171 yX0_freePages ∈ lw_tbl := List.mem_append_right _ (List.mem_append_right _ (List.mem_append_right _ (List.mem_append_left _ (List.mem_of_getElem? (i := 193) rfl))))
set_option maxRecDepth 100000 in
theorem lw_u29_19 : Cond.methodLink RL 60 yX8_told ∈ lw_tbl := List.mem_append_right _ (List.mem_append_right _ (List.mem_append_right _ (List.mem_append_right _ (List.mem_of_getElem? (i := 202) rfl))))
set_option maxRecDepth 100000 in
theorem lw_u29_20 : Cond.instanceMethod yX8_told ∈ lw_tbl := List.mem_append_right _ (List.mem_append_right _ (List.mem_append_right _ (List.mem_append_right _ (List.mem_of_getElem? (i := 203) rfl))))
set_option maxRecDepth 100000 in
theorem lw_u29_21 : Cond.selects RX8 yX8_told yX8_told ∈ lw_tbl := List.mem_append_right _ (List.mem_append_right _ (List.mem_append_right _ (List.mem_append_right _ (List.mem_of_getElem? (i := 204) rfl))))
set_option maxRecDepth 100000 in
theorem lw_u29_22 : Cond.code yX8_told cX8_told 2 (some .int) ∈ lw_tbl := List.mem_append_right _ (List.mem_append_right _ (List.mem_append_right _ (List.mem_append_right _ (List.mem_of_getElem? (i := 205) rfl))))
set_option maxRecDepth 100000 in
theorem lw_u29_23 : Cond.methodLink RL 61 yX7_run ∈ lw_tbl := List.mem_append_right _ (List.mem_append_right _ (List.mem_append_right _ (List.mem_append_left _ (List.mem_of_getElem? (i := 194) rfl))))
theorem lw_ru29 : ∀ w ∈ wsL_law_r29, w ∈ lw_tbl := List.forall_mem_cons.mpr ⟨lw_u29_0, List.forall_mem_cons.mpr ⟨lw_u29_1, List.forall_mem_cons.mpr ⟨lw_u29_2, List.forall_mem_cons.mpr ⟨lw_u29_3, List.forall_mem_cons.mpr ⟨lw_u29_4, List.forall_mem_cons.mpr ⟨lw_u29_5, List.forall_mem_cons.mpr ⟨lw_u29_6, List.forall_mem_cons.mpr ⟨lw_u29_7, List.forall_mem_cons.mpr ⟨lw_u29_8, List.forall_mem_cons.mpr ⟨lw_u29_9, List.forall_mem_cons.mpr ⟨lw_u29_10, List.forall_mem_cons.mpr ⟨lw_u29_11, List.forall_mem_cons.mpr ⟨lw_u29_12, List.forall_mem_cons.mpr ⟨lw_u29_13, List.forall_mem_cons.mpr ⟨lw_u29_14, List.forall_mem_cons.mpr ⟨lw_u29_15, List.forall_mem_cons.mpr ⟨lw_u29_16, List.forall_mem_cons.mpr ⟨lw_u29_17, List.forall_mem_cons.mpr ⟨lw_u29_18, List.forall_mem_cons.mpr ⟨lw_u29_19, List.forall_mem_cons.mpr ⟨lw_u29_20, List.forall_mem_cons.mpr ⟨lw_u29_21, List.forall_mem_cons.mpr ⟨lw_u29_22, List.forall_mem_cons.mpr ⟨lw_u29_23, fun _ h => absurd h List.not_mem_nil⟩⟩⟩⟩⟩⟩⟩⟩⟩⟩⟩⟩⟩⟩⟩⟩⟩⟩⟩⟩⟩⟩⟩⟩
set_option maxRecDepth 100000 in
theorem lw_u30_0 : Cond.instanceMethod yX7_run ∈ lw_tbl := List.mem_append_right _ (List.mem_append_right _ (List.mem_append_right _ (List.mem_append_left _ (List.mem_of_getElem? (i := 195) rfl))))
set_option maxRecDepth 100000 in
theorem lw_u30_1 : Cond.selects RX7 yX7_run yX7_run ∈ lw_tbl := List.mem_append_right _ (List.mem_append_right _ (List.mem_append_right _ (List.mem_append_left _ (List.mem_of_getElem? (i := 196) rfl))))
set_option maxRecDepth 100000 in
theorem lw_u30_2 : Cond.code yX7_run cX7_run 2 (some .int) ∈ lw_tbl := List.mem_append_right _ (List.mem_append_right _ (List.mem_append_right _ (List.mem_append_left _ (List.mem_of_getElem? (i := 197) rfl))))
set_option maxRecDepth 100000 in
theorem lw_u30_3 : Cond.methodLink RX7 180 yX6_lengthOf ∈ lw_tbl := List.mem_append_right _ (List.mem_append_right _ (List.mem_append_right _ (List.mem_append_left _ (List.mem_of_getElem? (i := 198) rfl))))
set_option maxRecDepth 100000 in
theorem lw_u30_4 : Cond.instanceMethod yX6_lengthOf ∈ lw_tbl := List.mem_append_right _ (List.mem_append_right _ (List.mem_append_right _ (List.mem_append_left _ (List.mem_of_getElem? (i := 199) rfl))))
set_option maxRecDepth 100000 in
theorem lw_u30_5 : Cond.selects RX6 yX6_lengthOf yX6_lengthOf ∈ lw_tbl := List.mem_append_right _ (List.mem_append_right _ (List.mem_append_right _ (List.mem_append_left _ (List.mem_of_getElem? (i := 200) rfl))))
set_option maxRecDepth 100000 in
theorem lw_u30_6 : Cond.code yX6_lengthOf cX6_lengthOf 2 (some .int) ∈ lw_tbl := List.mem_append_right _ (List.mem_append_right _ (List.mem_append_right _ (List.mem_append_left _ (List.mem_of_getElem? (i := 201) rfl))))
set_option maxRecDepth 100000 in
theorem lw_u30_7 : Cond.methodLink RL 64 yX8_run ∈ lw_tbl := List.mem_append_right _ (List.mem_append_right _ (List.mem_append_right _ (List.mem_append_right _ (List.mem_of_getElem? (i := 206) rfl))))
set_option maxRecDepth 100000 in
theorem lw_u30_8 : Cond.instanceMethod yX8_run ∈ lw_tbl := List.mem_append_right _ (List.mem_append_right _ (List.mem_append_right _ (List.mem_append_right _ (List.mem_of_getElem? (i := 207) rfl))))
set_option maxRecDepth 100000 in
theorem lw_u30_9 : Cond.selects RX8 yX8_run yX8_run ∈ lw_tbl := List.mem_append_right _ (List.mem_append_right _ (List.mem_append_right _ (List.mem_append_right _ (List.mem_of_getElem? (i := 208) rfl))))
set_option maxRecDepth 100000 in
theorem lw_u30_10 : Cond.code yX8_run cX8_run 2 (some .int) ∈ lw_tbl := List.mem_append_right _ (List.mem_append_right _ (List.mem_append_right _ (List.mem_append_right _ (List.mem_of_getElem? (i := 209) rfl))))
theorem lw_ru30 : ∀ w ∈ wsL_law_r30, w ∈ lw_tbl := List.forall_mem_cons.mpr ⟨lw_u30_0, List.forall_mem_cons.mpr ⟨lw_u30_1, List.forall_mem_cons.mpr ⟨lw_u30_2, List.forall_mem_cons.mpr ⟨lw_u30_3, List.forall_mem_cons.mpr ⟨lw_u30_4, List.forall_mem_cons.mpr ⟨lw_u30_5, List.forall_mem_cons.mpr ⟨lw_u30_6, List.forall_mem_cons.mpr ⟨lw_u30_7, List.forall_mem_cons.mpr ⟨lw_u30_8, List.forall_mem_cons.mpr ⟨lw_u30_9, List.forall_mem_cons.mpr ⟨lw_u30_10, fun _ h => absurd h List.not_mem_nil⟩⟩⟩⟩⟩⟩⟩⟩⟩⟩⟩
set_option maxRecDepth 100000 in
theorem lw_lay0 : ∀ w ∈ wsX00, w ∈ lw_tbl := by
  intro w hw
  obtain ⟨k, hk, rfl⟩ := List.mem_map.mp hw
  have hk := List.mem_range.mp hk
  match k, hk with
  | 0, _ => exact List.mem_append_right _ (List.mem_append_left _ (List.mem_of_getElem? (i := 90) rfl))
  | 1, _ => exact List.mem_append_right _ (List.mem_append_left _ (List.mem_of_getElem? (i := 92) rfl))
  | 2, _ => exact List.mem_append_right _ (List.mem_append_left _ (List.mem_of_getElem? (i := 94) rfl))
  | 3, _ => exact List.mem_append_right _ (List.mem_append_left _ (List.mem_of_getElem? (i := 96) rfl))
  | 4, _ => exact List.mem_append_right _ (List.mem_append_left _ (List.mem_of_getElem? (i := 98) rfl))
  | 5, _ => exact List.mem_append_right _ (List.mem_append_left _ (List.mem_of_getElem? (i := 100) rfl))
  | 6, _ => exact List.mem_append_right _ (List.mem_append_left _ (List.mem_of_getElem? (i := 102) rfl))
  | 7, _ => exact List.mem_append_right _ (List.mem_append_left _ (List.mem_of_getElem? (i := 104) rfl))
  | 8, _ => exact List.mem_append_right _ (List.mem_append_left _ (List.mem_of_getElem? (i := 106) rfl))
  | k + 9, hk => exact absurd hk (by omega)
set_option maxRecDepth 100000 in
theorem lw_lay1 : ∀ w ∈ wsX10, w ∈ lw_tbl := by
  intro w hw
  obtain ⟨k, hk, rfl⟩ := List.mem_map.mp hw
  have hk := List.mem_range.mp hk
  match k, hk with
  | 0, _ => exact List.mem_append_right _ (List.mem_append_left _ (List.mem_of_getElem? (i := 171) rfl))
  | 1, _ => exact List.mem_append_right _ (List.mem_append_left _ (List.mem_of_getElem? (i := 173) rfl))
  | 2, _ => exact List.mem_append_right _ (List.mem_append_left _ (List.mem_of_getElem? (i := 175) rfl))
  | 3, _ => exact List.mem_append_right _ (List.mem_append_left _ (List.mem_of_getElem? (i := 177) rfl))
  | 4, _ => exact List.mem_append_right _ (List.mem_append_left _ (List.mem_of_getElem? (i := 179) rfl))
  | 5, _ => exact List.mem_append_right _ (List.mem_append_left _ (List.mem_of_getElem? (i := 181) rfl))
  | 6, _ => exact List.mem_append_right _ (List.mem_append_left _ (List.mem_of_getElem? (i := 183) rfl))
  | k + 7, hk => exact absurd hk (by omega)
set_option maxRecDepth 100000 in
theorem lw_lay2 : ∀ w ∈ wsX20, w ∈ lw_tbl := by
  intro w hw
  obtain ⟨k, hk, rfl⟩ := List.mem_map.mp hw
  have hk := List.mem_range.mp hk
  match k, hk with
  | 0, _ => exact List.mem_append_right _ (List.mem_append_right _ (List.mem_append_left _ (List.mem_of_getElem? (i := 31) rfl)))
  | 1, _ => exact List.mem_append_right _ (List.mem_append_right _ (List.mem_append_left _ (List.mem_of_getElem? (i := 33) rfl)))
  | 2, _ => exact List.mem_append_right _ (List.mem_append_right _ (List.mem_append_left _ (List.mem_of_getElem? (i := 35) rfl)))
  | 3, _ => exact List.mem_append_right _ (List.mem_append_right _ (List.mem_append_left _ (List.mem_of_getElem? (i := 37) rfl)))
  | 4, _ => exact List.mem_append_right _ (List.mem_append_right _ (List.mem_append_left _ (List.mem_of_getElem? (i := 39) rfl)))
  | 5, _ => exact List.mem_append_right _ (List.mem_append_right _ (List.mem_append_left _ (List.mem_of_getElem? (i := 41) rfl)))
  | 6, _ => exact List.mem_append_right _ (List.mem_append_right _ (List.mem_append_left _ (List.mem_of_getElem? (i := 43) rfl)))
  | 7, _ => exact List.mem_append_right _ (List.mem_append_right _ (List.mem_append_left _ (List.mem_of_getElem? (i := 45) rfl)))
  | 8, _ => exact List.mem_append_right _ (List.mem_append_right _ (List.mem_append_left _ (List.mem_of_getElem? (i := 47) rfl)))
  | 9, _ => exact List.mem_append_right _ (List.mem_append_right _ (List.mem_append_left _ (List.mem_of_getElem? (i := 49) rfl)))
  | k + 10, hk => exact absurd hk (by omega)
set_option maxRecDepth 100000 in
theorem lw_lay3 : ∀ w ∈ wsX30, w ∈ lw_tbl := by
  intro w hw
  obtain ⟨k, hk, rfl⟩ := List.mem_map.mp hw
  have hk := List.mem_range.mp hk
  match k, hk with
  | 0, _ => exact List.mem_append_right _ (List.mem_append_left _ (List.mem_of_getElem? (i := 201) rfl))
  | 1, _ => exact List.mem_append_right _ (List.mem_append_left _ (List.mem_of_getElem? (i := 203) rfl))
  | 2, _ => exact List.mem_append_right _ (List.mem_append_left _ (List.mem_of_getElem? (i := 205) rfl))
  | 3, _ => exact List.mem_append_right _ (List.mem_append_left _ (List.mem_of_getElem? (i := 207) rfl))
  | 4, _ => exact List.mem_append_right _ (List.mem_append_left _ (List.mem_of_getElem? (i := 209) rfl))
  | 5, _ => exact List.mem_append_right _ (List.mem_append_left _ (List.mem_of_getElem? (i := 211) rfl))
  | 6, _ => exact List.mem_append_right _ (List.mem_append_left _ (List.mem_of_getElem? (i := 213) rfl))
  | k + 7, hk => exact absurd hk (by omega)
set_option maxRecDepth 100000 in
theorem lw_lay4 : ∀ w ∈ wsX40, w ∈ lw_tbl := by
  intro w hw
  obtain ⟨k, hk, rfl⟩ := List.mem_map.mp hw
  have hk := List.mem_range.mp hk
  match k, hk with
  | 0, _ => exact List.mem_append_right _ (List.mem_append_left _ (List.mem_of_getElem? (i := 131) rfl))
  | 1, _ => exact List.mem_append_right _ (List.mem_append_left _ (List.mem_of_getElem? (i := 133) rfl))
  | 2, _ => exact List.mem_append_right _ (List.mem_append_left _ (List.mem_of_getElem? (i := 135) rfl))
  | 3, _ => exact List.mem_append_right _ (List.mem_append_left _ (List.mem_of_getElem? (i := 137) rfl))
  | 4, _ => exact List.mem_append_right _ (List.mem_append_left _ (List.mem_of_getElem? (i := 139) rfl))
  | 5, _ => exact List.mem_append_right _ (List.mem_append_left _ (List.mem_of_getElem? (i := 141) rfl))
  | 6, _ => exact List.mem_append_right _ (List.mem_append_left _ (List.mem_of_getElem? (i := 143) rfl))
  | 7, _ => exact List.mem_append_right _ (List.mem_append_left _ (List.mem_of_getElem? (i := 145) rfl))
  | 8, _ => exact List.mem_append_right _ (List.mem_append_left _ (List.mem_of_getElem? (i := 147) rfl))
  | 9, _ => exact List.mem_append_right _ (List.mem_append_left _ (List.mem_of_getElem? (i := 149) rfl))
  | k + 10, hk => exact absurd hk (by omega)
set_option maxRecDepth 100000 in
theorem lw_lay5 : ∀ w ∈ wsX50, w ∈ lw_tbl := by
  intro w hw
  obtain ⟨k, hk, rfl⟩ := List.mem_map.mp hw
  have hk := List.mem_range.mp hk
  match k, hk with
  | 0, _ => exact List.mem_append_right _ (List.mem_append_left _ (List.mem_of_getElem? (i := 230) rfl))
  | 1, _ => exact List.mem_append_right _ (List.mem_append_left _ (List.mem_of_getElem? (i := 232) rfl))
  | 2, _ => exact List.mem_append_right _ (List.mem_append_left _ (List.mem_of_getElem? (i := 234) rfl))
  | 3, _ => exact List.mem_append_right _ (List.mem_append_left _ (List.mem_of_getElem? (i := 236) rfl))
  | 4, _ => exact List.mem_append_right _ (List.mem_append_left _ (List.mem_of_getElem? (i := 238) rfl))
  | 5, _ => exact List.mem_append_right _ (List.mem_append_right _ (List.mem_append_left _ (List.mem_of_getElem? (i := 0) rfl)))
  | 6, _ => exact List.mem_append_right _ (List.mem_append_right _ (List.mem_append_left _ (List.mem_of_getElem? (i := 2) rfl)))
  | 7, _ => exact List.mem_append_right _ (List.mem_append_right _ (List.mem_append_left _ (List.mem_of_getElem? (i := 4) rfl)))
  | 8, _ => exact List.mem_append_right _ (List.mem_append_right _ (List.mem_append_left _ (List.mem_of_getElem? (i := 6) rfl)))
  | 9, _ => exact List.mem_append_right _ (List.mem_append_right _ (List.mem_append_left _ (List.mem_of_getElem? (i := 8) rfl)))
  | 10, _ => exact List.mem_append_right _ (List.mem_append_right _ (List.mem_append_left _ (List.mem_of_getElem? (i := 10) rfl)))
  | 11, _ => exact List.mem_append_right _ (List.mem_append_right _ (List.mem_append_left _ (List.mem_of_getElem? (i := 12) rfl)))
  | k + 12, hk => exact absurd hk (by omega)
set_option maxRecDepth 100000 in
theorem lw_lay6 : ∀ w ∈ wsX60, w ∈ lw_tbl := by
  intro w hw
  obtain ⟨k, hk, rfl⟩ := List.mem_map.mp hw
  have hk := List.mem_range.mp hk
  match k, hk with
  | 0, _ => exact List.mem_append_right _ (List.mem_append_left _ (List.mem_of_getElem? (i := 48) rfl))
  | 1, _ => exact List.mem_append_right _ (List.mem_append_left _ (List.mem_of_getElem? (i := 50) rfl))
  | 2, _ => exact List.mem_append_right _ (List.mem_append_left _ (List.mem_of_getElem? (i := 52) rfl))
  | 3, _ => exact List.mem_append_right _ (List.mem_append_left _ (List.mem_of_getElem? (i := 54) rfl))
  | 4, _ => exact List.mem_append_right _ (List.mem_append_left _ (List.mem_of_getElem? (i := 56) rfl))
  | 5, _ => exact List.mem_append_right _ (List.mem_append_left _ (List.mem_of_getElem? (i := 58) rfl))
  | k + 6, hk => exact absurd hk (by omega)
set_option maxRecDepth 100000 in
theorem lw_lay7 : ∀ w ∈ wsX70, w ∈ lw_tbl := by
  intro w hw
  obtain ⟨k, hk, rfl⟩ := List.mem_map.mp hw
  have hk := List.mem_range.mp hk
  match k, hk with
  | 0, _ => exact List.mem_append_right _ (List.mem_append_right _ (List.mem_append_left _ (List.mem_of_getElem? (i := 60) rfl)))
  | 1, _ => exact List.mem_append_right _ (List.mem_append_right _ (List.mem_append_left _ (List.mem_of_getElem? (i := 62) rfl)))
  | 2, _ => exact List.mem_append_right _ (List.mem_append_right _ (List.mem_append_left _ (List.mem_of_getElem? (i := 64) rfl)))
  | 3, _ => exact List.mem_append_right _ (List.mem_append_right _ (List.mem_append_left _ (List.mem_of_getElem? (i := 66) rfl)))
  | 4, _ => exact List.mem_append_right _ (List.mem_append_right _ (List.mem_append_left _ (List.mem_of_getElem? (i := 68) rfl)))
  | 5, _ => exact List.mem_append_right _ (List.mem_append_right _ (List.mem_append_left _ (List.mem_of_getElem? (i := 70) rfl)))
  | 6, _ => exact List.mem_append_right _ (List.mem_append_right _ (List.mem_append_left _ (List.mem_of_getElem? (i := 72) rfl)))
  | 7, _ => exact List.mem_append_right _ (List.mem_append_right _ (List.mem_append_left _ (List.mem_of_getElem? (i := 74) rfl)))
  | k + 8, hk => exact absurd hk (by omega)
set_option maxRecDepth 100000 in
theorem lw_lay8 : ∀ w ∈ wsX80, w ∈ lw_tbl := by
  intro w hw
  obtain ⟨k, hk, rfl⟩ := List.mem_map.mp hw
  have hk := List.mem_range.mp hk
  match k, hk with
  | 0, _ => exact List.mem_append_right _ (List.mem_append_right _ (List.mem_append_right _ (List.mem_append_right _ (List.mem_of_getElem? (i := 12) rfl))))
  | 1, _ => exact List.mem_append_right _ (List.mem_append_right _ (List.mem_append_right _ (List.mem_append_right _ (List.mem_of_getElem? (i := 14) rfl))))
  | 2, _ => exact List.mem_append_right _ (List.mem_append_right _ (List.mem_append_right _ (List.mem_append_right _ (List.mem_of_getElem? (i := 16) rfl))))
  | 3, _ => exact List.mem_append_right _ (List.mem_append_right _ (List.mem_append_right _ (List.mem_append_right _ (List.mem_of_getElem? (i := 18) rfl))))
  | 4, _ => exact List.mem_append_right _ (List.mem_append_right _ (List.mem_append_right _ (List.mem_append_right _ (List.mem_of_getElem? (i := 20) rfl))))
  | 5, _ => exact List.mem_append_right _ (List.mem_append_right _ (List.mem_append_right _ (List.mem_append_right _ (List.mem_of_getElem? (i := 22) rfl))))
  | 6, _ => exact List.mem_append_right _ (List.mem_append_right _ (List.mem_append_right _ (List.mem_append_right _ (List.mem_of_getElem? (i := 24) rfl))))
  | 7, _ => exact List.mem_append_right _ (List.mem_append_right _ (List.mem_append_right _ (List.mem_append_right _ (List.mem_of_getElem? (i := 26) rfl))))
  | 8, _ => exact List.mem_append_right _ (List.mem_append_right _ (List.mem_append_right _ (List.mem_append_right _ (List.mem_of_getElem? (i := 28) rfl))))
  | 9, _ => exact List.mem_append_right _ (List.mem_append_right _ (List.mem_append_right _ (List.mem_append_right _ (List.mem_of_getElem? (i := 30) rfl))))
  | 10, _ => exact List.mem_append_right _ (List.mem_append_right _ (List.mem_append_right _ (List.mem_append_right _ (List.mem_of_getElem? (i := 32) rfl))))
  | 11, _ => exact List.mem_append_right _ (List.mem_append_right _ (List.mem_append_right _ (List.mem_append_right _ (List.mem_of_getElem? (i := 34) rfl))))
  | 12, _ => exact List.mem_append_right _ (List.mem_append_right _ (List.mem_append_right _ (List.mem_append_right _ (List.mem_of_getElem? (i := 36) rfl))))
  | 13, _ => exact List.mem_append_right _ (List.mem_append_right _ (List.mem_append_right _ (List.mem_append_right _ (List.mem_of_getElem? (i := 38) rfl))))
  | 14, _ => exact List.mem_append_right _ (List.mem_append_right _ (List.mem_append_right _ (List.mem_append_right _ (List.mem_of_getElem? (i := 40) rfl))))
  | 15, _ => exact List.mem_append_right _ (List.mem_append_right _ (List.mem_append_right _ (List.mem_append_right _ (List.mem_of_getElem? (i := 42) rfl))))
  | 16, _ => exact List.mem_append_right _ (List.mem_append_right _ (List.mem_append_right _ (List.mem_append_right _ (List.mem_of_getElem? (i := 44) rfl))))
  | 17, _ => exact List.mem_append_right _ (List.mem_append_right _ (List.mem_append_right _ (List.mem_append_right _ (List.mem_of_getElem? (i := 46) rfl))))
  | 18, _ => exact List.mem_append_right _ (List.mem_append_right _ (List.mem_append_right _ (List.mem_append_right _ (List.mem_of_getElem? (i := 48) rfl))))
  | 19, _ => exact List.mem_append_right _ (List.mem_append_right _ (List.mem_append_right _ (List.mem_append_right _ (List.mem_of_getElem? (i := 50) rfl))))
  | 20, _ => exact List.mem_append_right _ (List.mem_append_right _ (List.mem_append_right _ (List.mem_append_right _ (List.mem_of_getElem? (i := 52) rfl))))
  | 21, _ => exact List.mem_append_right _ (List.mem_append_right _ (List.mem_append_right _ (List.mem_append_right _ (List.mem_of_getElem? (i := 54) rfl))))
  | 22, _ => exact List.mem_append_right _ (List.mem_append_right _ (List.mem_append_right _ (List.mem_append_right _ (List.mem_of_getElem? (i := 56) rfl))))
  | 23, _ => exact List.mem_append_right _ (List.mem_append_right _ (List.mem_append_right _ (List.mem_append_right _ (List.mem_of_getElem? (i := 58) rfl))))
  | 24, _ => exact List.mem_append_right _ (List.mem_append_right _ (List.mem_append_right _ (List.mem_append_right _ (List.mem_of_getElem? (i := 60) rfl))))
  | 25, _ => exact List.mem_append_right _ (List.mem_append_right _ (List.mem_append_right _ (List.mem_append_right _ (List.mem_of_getElem? (i := 62) rfl))))
  | 26, _ => exact List.mem_append_right _ (List.mem_append_right _ (List.mem_append_right _ (List.mem_append_right _ (List.mem_of_getElem? (i := 64) rfl))))
  | 27, _ => exact List.mem_append_right _ (List.mem_append_right _ (List.mem_append_right _ (List.mem_append_right _ (List.mem_of_getElem? (i := 66) rfl))))
  | 28, _ => exact List.mem_append_right _ (List.mem_append_right _ (List.mem_append_right _ (List.mem_append_right _ (List.mem_of_getElem? (i := 68) rfl))))
  | 29, _ => exact List.mem_append_right _ (List.mem_append_right _ (List.mem_append_right _ (List.mem_append_right _ (List.mem_of_getElem? (i := 70) rfl))))
  | 30, _ => exact List.mem_append_right _ (List.mem_append_right _ (List.mem_append_right _ (List.mem_append_right _ (List.mem_of_getElem? (i := 72) rfl))))
  | 31, _ => exact List.mem_append_right _ (List.mem_append_right _ (List.mem_append_right _ (List.mem_append_right _ (List.mem_of_getElem? (i := 74) rfl))))
  | 32, _ => exact List.mem_append_right _ (List.mem_append_right _ (List.mem_append_right _ (List.mem_append_right _ (List.mem_of_getElem? (i := 76) rfl))))
  | 33, _ => exact List.mem_append_right _ (List.mem_append_right _ (List.mem_append_right _ (List.mem_append_right _ (List.mem_of_getElem? (i := 78) rfl))))
  | 34, _ => exact List.mem_append_right _ (List.mem_append_right _ (List.mem_append_right _ (List.mem_append_right _ (List.mem_of_getElem? (i := 80) rfl))))
  | 35, _ => exact List.mem_append_right _ (List.mem_append_right _ (List.mem_append_right _ (List.mem_append_right _ (List.mem_of_getElem? (i := 82) rfl))))
  | 36, _ => exact List.mem_append_right _ (List.mem_append_right _ (List.mem_append_right _ (List.mem_append_right _ (List.mem_of_getElem? (i := 84) rfl))))
  | k + 37, hk => exact absurd hk (by omega)
theorem lw_law : ∀ w ∈ wsL_law, w ∈ lw_tbl := by
  intro w hw
  unfold wsL_law at hw
  simp only [List.mem_append] at hw
  rcases hw with ((((((((((h | (h | (h | (h | (h | (h | (h | (h | (h | (h | (h | (h | (h | (h | (h | (h | (h | (h | (h | (h | (h | (h | (h | (h | (h | (h | (h | (h | (h | (h)))))))))))))))))))))))))))))) | h) | h) | h) | h) | h) | h) | h) | h) | h) | h
  · exact lw_ru1 w h
  · exact lw_ru2 w h
  · exact lw_ru3 w h
  · exact lw_ru4 w h
  · exact lw_ru5 w h
  · exact lw_ru6 w h
  · exact lw_ru7 w h
  · exact lw_ru8 w h
  · exact lw_ru9 w h
  · exact lw_ru10 w h
  · exact lw_ru11 w h
  · exact lw_ru12 w h
  · exact lw_ru13 w h
  · exact lw_ru14 w h
  · exact lw_ru15 w h
  · exact lw_ru16 w h
  · exact lw_ru17 w h
  · exact lw_ru18 w h
  · exact lw_ru19 w h
  · exact lw_ru20 w h
  · exact lw_ru21 w h
  · exact lw_ru22 w h
  · exact lw_ru23 w h
  · exact lw_ru24 w h
  · exact lw_ru25 w h
  · exact lw_ru26 w h
  · exact lw_ru27 w h
  · exact lw_ru28 w h
  · exact lw_ru29 w h
  · exact lw_ru30 w h
  · exact lw_lay7 w h
  · exact lw_lay8 w h
  · exact lw_lay6 w h
  · exact lw_lay0 w h
  · exact lw_lay4 w h
  · exact lw_lay5 w h
  · exact lw_lay2 w h
  · exact lw_lay1 w h
  · exact lw_lay3 w h
  · exact absurd h List.not_mem_nil
set_option maxRecDepth 100000 in
theorem lw_nest0 : Cond.methodLinkNest RX3 58 yX7_inOrder RX7 ∈ lw_tbl := List.mem_append_right _ (List.mem_append_right _ (List.mem_append_left _ (List.mem_of_getElem? (i := 239) rfl)))
set_option maxRecDepth 100000 in
theorem lw_nest1 : Cond.methodLinkNest RX5 153 yX7_inOrder RX7 ∈ lw_tbl := List.mem_append_right _ (List.mem_append_right _ (List.mem_append_right _ (List.mem_append_left _ (List.mem_of_getElem? (i := 62) rfl))))
