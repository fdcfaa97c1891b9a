theorem es_u1_11 : Cond.instanceMethod yX7_init ∈ wsL_law := es_ur1 _ (List.mem_of_getElem? (i := 11) rfl)
theorem es_u1_12 : Cond.code yX7_init cX7_init 6 none ∈ wsL_law := es_ur1 _ (List.mem_of_getElem? (i := 12) rfl)
theorem es_u1_13 : Cond.methodLink RX7 3 objectInit ∈ wsL_law := es_ur1 _ (List.mem_of_getElem? (i := 13) rfl)
theorem es_u1_14 : Cond.instanceMethod objectInit ∈ wsL_law := es_ur1 _ (List.mem_of_getElem? (i := 14) rfl)
theorem es_u1_15 : Cond.code objectInit ⟨#[0xb1]⟩ 1 none ∈ wsL_law := es_ur1 _ (List.mem_of_getElem? (i := 15) rfl)
theorem es_u1_16 : Cond.arrayClass .int ∈ wsL_law := es_ur1 _ (List.mem_of_getElem? (i := 16) rfl)
theorem es_u1_19 : Cond.methodLink RX7 16 Lib.Math.min.name ∈ wsL_law := es_ur1 _ (List.mem_of_getElem? (i := 19) rfl)
theorem es_u1_23 : Cond.methodLink RX7 22 Lib.Math.max.name ∈ wsL_law := es_ur1 _ (List.mem_of_getElem? (i := 23) rfl)
theorem es_u2_2 : Cond.classLink RX7 25 RX6 ∈ wsL_law := es_ur2 _ (List.mem_of_getElem? (i := 2) rfl)
theorem es_u2_3 : Cond.instantiable RX6 6 ∈ wsL_law := es_ur2 _ (List.mem_of_getElem? (i := 3) rfl)
theorem es_u2_7 : Cond.classLink RX7 37 RX0 ∈ wsL_law := es_ur2 _ (List.mem_of_getElem? (i := 7) rfl)
theorem es_u2_8 : Cond.instantiable RX0 9 ∈ wsL_law := es_ur2 _ (List.mem_of_getElem? (i := 8) rfl)
theorem es_u2_11 : Cond.classLink RX7 46 RX4 ∈ wsL_law := es_ur2 _ (List.mem_of_getElem? (i := 11) rfl)
theorem es_u2_12 : Cond.instantiable RX4 10 ∈ wsL_law := es_ur2 _ (List.mem_of_getElem? (i := 12) rfl)
theorem es_u2_15 : Cond.classLink RX7 55 RX5 ∈ wsL_law := es_ur2 _ (List.mem_of_getElem? (i := 15) rfl)
theorem es_u2_16 : Cond.instantiable RX5 12 ∈ wsL_law := es_ur2 _ (List.mem_of_getElem? (i := 16) rfl)
theorem es_u2_19 : Cond.classLink RX7 64 RX2 ∈ wsL_law := es_ur2 _ (List.mem_of_getElem? (i := 19) rfl)
theorem es_u2_20 : Cond.instantiable RX2 10 ∈ wsL_law := es_ur2 _ (List.mem_of_getElem? (i := 20) rfl)
theorem es_u2_23 : Cond.methodLink RX7 27 yX6_init ∈ wsL_law := es_ur2 _ (List.mem_of_getElem? (i := 23) rfl)
theorem es_u3_0 : Cond.instanceMethod yX6_init ∈ wsL_law := es_ur3 _ (List.mem_of_getElem? (i := 0) rfl)
theorem es_u3_1 : Cond.code yX6_init cX6_init 2 none ∈ wsL_law := es_ur3 _ (List.mem_of_getElem? (i := 1) rfl)
theorem es_u3_2 : Cond.methodLink RX6 3 objectInit ∈ wsL_law := es_ur3 _ (List.mem_of_getElem? (i := 2) rfl)
theorem es_u3_3 : Cond.methodLink RX6 9 Lib.Math.max.name ∈ wsL_law := es_ur3 _ (List.mem_of_getElem? (i := 3) rfl)
theorem es_u3_5 : Cond.methodLink RX7 39 yX0_init ∈ wsL_law := es_ur3 _ (List.mem_of_getElem? (i := 5) rfl)
theorem es_u3_6 : Cond.instanceMethod yX0_init ∈ wsL_law := es_ur3 _ (List.mem_of_getElem? (i := 6) rfl)
theorem es_u3_7 : Cond.code yX0_init cX0_init 5 none ∈ wsL_law := es_ur3 _ (List.mem_of_getElem? (i := 7) rfl)
theorem es_u3_8 : Cond.methodLink RX0 3 objectInit ∈ wsL_law := es_ur3 _ (List.mem_of_getElem? (i := 8) rfl)
theorem es_u3_9 : Cond.methodLink RX0 9 Lib.Math.max.name ∈ wsL_law := es_ur3 _ (List.mem_of_getElem? (i := 9) rfl)
theorem es_u3_19 : Cond.methodLink RX7 48 yX4_init ∈ wsL_law := es_ur3 _ (List.mem_of_getElem? (i := 19) rfl)
theorem es_u3_20 : Cond.instanceMethod yX4_init ∈ wsL_law := es_ur3 _ (List.mem_of_getElem? (i := 20) rfl)
theorem es_u3_21 : Cond.code yX4_init cX4_init 2 none ∈ wsL_law := es_ur3 _ (List.mem_of_getElem? (i := 21) rfl)
theorem es_u3_22 : Cond.methodLink RX4 3 objectInit ∈ wsL_law := es_ur3 _ (List.mem_of_getElem? (i := 22) rfl)
theorem es_u4_0 : Cond.fieldLink RX4 15 "ExternalSort$Disk" "records" "I" ∈ wsL_law := es_ur4 _ (List.mem_of_getElem? (i := 0) rfl)
theorem es_u4_3 : Cond.methodLink RX7 57 yX5_init ∈ wsL_law := es_ur4 _ (List.mem_of_getElem? (i := 3) rfl)
theorem es_u4_4 : Cond.instanceMethod yX5_init ∈ wsL_law := es_ur4 _ (List.mem_of_getElem? (i := 4) rfl)
theorem es_u4_5 : Cond.code yX5_init cX5_init 3 none ∈ wsL_law := es_ur4 _ (List.mem_of_getElem? (i := 5) rfl)
theorem es_u4_6 : Cond.methodLink RX5 3 objectInit ∈ wsL_law := es_ur4 _ (List.mem_of_getElem? (i := 6) rfl)
theorem es_u4_9 : Cond.classLink RX5 19 RX1 ∈ wsL_law := es_ur4 _ (List.mem_of_getElem? (i := 9) rfl)
theorem es_u4_10 : Cond.instantiable RX1 7 ∈ wsL_law := es_ur4 _ (List.mem_of_getElem? (i := 10) rfl)
theorem es_u4_13 : Cond.classLink RX5 28 RX3 ∈ wsL_law := es_ur4 _ (List.mem_of_getElem? (i := 13) rfl)
theorem es_u4_14 : Cond.instantiable RX3 7 ∈ wsL_law := es_ur4 _ (List.mem_of_getElem? (i := 14) rfl)
theorem es_u4_19 : Cond.fieldLink RX5 49 "ExternalSort$Disk" "pages" "I" ∈ wsL_law := es_ur4 _ (List.mem_of_getElem? (i := 19) rfl)
theorem es_u4_22 : Cond.methodLink RX5 21 yX1_init ∈ wsL_law := es_ur4 _ (List.mem_of_getElem? (i := 22) rfl)
theorem es_u4_23 : Cond.instanceMethod yX1_init ∈ wsL_law := es_ur4 _ (List.mem_of_getElem? (i := 23) rfl)
theorem es_u5_0 : Cond.code yX1_init cX1_init 2 none ∈ wsL_law := es_ur5 _ (List.mem_of_getElem? (i := 0) rfl)
theorem es_u5_1 : Cond.methodLink RX1 3 objectInit ∈ wsL_law := es_ur5 _ (List.mem_of_getElem? (i := 1) rfl)
theorem es_u5_10 : Cond.methodLink RX5 42 yX3_init ∈ wsL_law := es_ur5 _ (List.mem_of_getElem? (i := 10) rfl)
theorem es_u5_11 : Cond.instanceMethod yX3_init ∈ wsL_law := es_ur5 _ (List.mem_of_getElem? (i := 11) rfl)
theorem es_u5_12 : Cond.code yX3_init cX3_init 3 none ∈ wsL_law := es_ur5 _ (List.mem_of_getElem? (i := 12) rfl)
theorem es_u5_13 : Cond.methodLink RX3 5 objectInit ∈ wsL_law := es_ur5 _ (List.mem_of_getElem? (i := 13) rfl)
theorem es_u5_20 : Cond.methodLink RX7 66 yX2_init ∈ wsL_law := es_ur5 _ (List.mem_of_getElem? (i := 20) rfl)
theorem es_u5_21 : Cond.instanceMethod yX2_init ∈ wsL_law := es_ur5 _ (List.mem_of_getElem? (i := 21) rfl)
theorem es_u5_22 : Cond.code yX2_init cX2_init 3 none ∈ wsL_law := es_ur5 _ (List.mem_of_getElem? (i := 22) rfl)
theorem es_u5_23 : Cond.methodLink RX2 3 objectInit ∈ wsL_law := es_ur5 _ (List.mem_of_getElem? (i := 23) rfl)
theorem es_u6_2 : Cond.fieldLink RX2 19 "ExternalSort$Disk" "pages" "I" ∈ wsL_law := es_ur6 _ (List.mem_of_getElem? (i := 2) rfl)
theorem es_u6_7 : Cond.instanceMethod yX8_init ∈ wsL_law := es_ur6 _ (List.mem_of_getElem? (i := 7) rfl)
theorem es_u6_8 : Cond.code yX8_init cX8_init 3 none ∈ wsL_law := es_ur6 _ (List.mem_of_getElem? (i := 8) rfl)
theorem es_u6_9 : Cond.methodLink RX8 1 objectInit ∈ wsL_law := es_ur6 _ (List.mem_of_getElem? (i := 9) rfl)
theorem es_u6_10 : Cond.constant RX8 7 (49152) ∈ wsL_law := es_ur6 _ (List.mem_of_getElem? (i := 10) rfl)
theorem es_u6_21 : Cond.arrayClass .boolean ∈ wsL_law := es_ur6 _ (List.mem_of_getElem? (i := 21) rfl)
theorem es_u7_10 : Cond.methodLink RX8 72 yX8_within ∈ wsL_law := es_ur7 _ (List.mem_of_getElem? (i := 10) rfl)
theorem es_kX6_init : es_mI yX6_init cX6_init 2 1 := ⟨es_u3_0, es_u2_4, es_u3_1, rfl, by decide, by decide, by decide +kernel⟩
theorem es_kX0_init : es_mI yX0_init cX0_init 5 3 := ⟨es_u3_6, es_u2_9, es_u3_7, rfl, by decide, by decide, by decide +kernel⟩
theorem es_kX4_init : es_mI yX4_init cX4_init 2 1 := ⟨es_u3_20, es_u2_13, es_u3_21, rfl, by decide, by decide, by decide +kernel⟩
theorem es_kX1_init : es_mI yX1_init cX1_init 2 1 := ⟨es_u4_23, es_u4_11, es_u5_0, rfl, by decide, by decide, by decide +kernel⟩
theorem es_kX3_init : es_mI yX3_init cX3_init 3 1 := ⟨es_u5_11, es_u4_15, es_u5_12, rfl, by decide, by decide, by decide +kernel⟩
theorem es_kX2_init : es_mI yX2_init cX2_init 3 2 := ⟨es_u5_21, es_u2_21, es_u5_22, rfl, by decide, by decide, by decide +kernel⟩
theorem es_kX5_init : es_mI yX5_init cX5_init 3 2 := ⟨es_u4_4, es_u2_17, es_u4_5, rfl, by decide, by decide, by decide +kernel⟩
theorem es_kX7_init : es_mI yX7_init cX7_init 6 2 := ⟨es_u1_11, es_u1_2, es_u1_12, rfl, by decide, by decide, by decide +kernel⟩
theorem es_kX8_init : es_mI yX8_init cX8_init 3 2 := ⟨es_u6_7, es_u1_5, es_u6_8, rfl, by decide, by decide, by decide +kernel⟩
def es_T (R : Nat) : Nat := if 15 < 14 * R then 14 * R else 15
theorem es_max1 {n : Nat} (h : 1 ≤ n) (h2 : n < 2 ^ 31) : (if (1 : Int32) < nI n then nI n else 1) = nI n := by
  by_cases h3 : 1 < n
  · rw [if_pos (show (1 : Int32) < nI n from nI_lt (a := 1) h3 h2)]
  · have h4 : n = 1 := by omega
    subst h4
    rfl
theorem es_maxT {R : Nat} (h : 1 ≤ R ∧ R ≤ 16) : (if (15 : Int32) < 14 * nI R then 14 * nI R else 15) = nI (es_T R) := by
  have e : (14 : Int32) * nI R = nI (14 * R) := pk_mul 14 R
  rw [e]
  unfold es_T
  by_cases h3 : 15 < 14 * R
  · rw [if_pos h3, if_pos (show (15 : Int32) < nI (14 * R) from nI_lt (a := 15) h3 (by omega))]
  · rw [if_neg h3, if_neg (show ¬ (15 : Int32) < nI (14 * R) from nI_nlt (a := 15) (by omega) (by omega))]
    rfl
theorem es_TR {R : Nat} (h : 1 ≤ R ∧ R ≤ 16) : es_T R ≤ 224 := by
  unfold es_T
  split <;> omega
theorem es_Tb {R : Nat} (h : 1 ≤ R ∧ R ≤ 16) : 1 ≤ es_T R ∧ es_T R ≤ 224 := by
  refine ⟨?_, es_TR h⟩
  unfold es_T
  split <;> omega
theorem es_PR {P R : Nat} (h : 1 ≤ P ∧ P ≤ 512 ∧ 1 ≤ R ∧ R ≤ 16) : P * R ≤ 8192 := Nat.le_trans (Nat.mul_le_mul h.2.1 h.2.2.2) (by decide)
theorem es_upc (i : Nat) (hi : i < 2 ^ 31) : upd (fun j => if j < i then (-1 : Int32) else 0) (nI i).toNatClampNeg (-1) = (fun j => if j < i + 1 then (-1 : Int32) else 0) := by
  rw [nI_clamp hi]
  funext j
  by_cases h1 : j = i
  · subst h1; rw [pk_us, if_pos (by omega)]
  · rw [pk_un h1]
    by_cases h2 : j < i
    · rw [if_pos h2, if_pos (by omega)]
    · rw [if_neg h2, if_neg (by omega)]
theorem es_upi (i : Nat) (hi : i < 2 ^ 31) : upd (fun j => if j < i then nI j else 0) (nI i).toNatClampNeg (nI i) = (fun j => if j < i + 1 then nI j else 0) := by
  rw [nI_clamp hi]
  funext j
  by_cases h1 : j = i
  · subst h1; rw [pk_us, if_pos (by omega)]
  · rw [pk_un h1]
    by_cases h2 : j < i
    · rw [if_pos h2, if_pos (by omega)]
    · rw [if_neg h2, if_neg (by omega)]
def es_NX (P R : Nat) : Nat → Nat := fun k => ([0, 0, 0, 0, 0, 0, 0, 0, 0, 6, 6, P * R, P * R, P, P, P, R, R, P, P, P * R, P * R, 2 * P, 2 * P, 15 * R, 15 * R, 15, 15, 15, 15, es_T R, es_T R, es_T R, es_T R, es_T R] : List Nat).getD k 0
def es_S0X (P R : Nat) : es_St := (fun j => ([nI P, nI R, nI P] : List Int32).getD j 0, fun k => if k = 9 then (fun j => if j < 6 then -1 else 0) else if k = 13 then (fun j => if j < P then -1 else 0) else if k = 14 then (fun j => if j < P then -1 else 0) else if k = 15 then (fun j => if j < P then nI j else 0) else (fun _ => 0))
set_option maxHeartbeats 4000000 in
set_option maxRecDepth 100000 in
theorem k_X6_init (l : Launch) (D : va_G) (cI cZ : ClassId) (sz : Nat) (h0 mm : Nat) (hm : 1 ≤ mm ∧ mm ≤ 1024) : Met l yX6_init (Cond.code yX6_init cX6_init 2 none :: wsL_law) ({ frames := 1, cells := 1, slots := 1024, locals := 21 } : Room) (es_PreL [.ref h0, .int (nI mm)] D [(cI, .int), (cZ, .boolean)] [(h0, .inr (6, [.int 0, .int 0, .int 0, .int 0, .int 0, .null]))] sz) (es_QL D (fun _ => True) (fun u => [(h0, .inr (6, [.int 0, .int 0, .int 0, .int 0, .int 0, .ref (u 0)])), ((u 0), .inl (cI, mm, .inl (fun _ => 0)))]) [(h0, .inr (6, [.int 0, .int 0, .int 0, .int 0, .int 0, .null]))] sz) 1 1024 (va_A [(h0, .inr (6, [.int 0, .int 0, .int 0, .int 0, .int 0, .null]))] sz) := by
  refine es_introL (l := l) (y := yX6_init) (cc := cX6_init) (maxL := 2) (ret := none) (D := D) (tys := [(cI, .int), (cZ, .boolean)]) (ws := [(h0, .inr (6, [.int 0, .int 0, .int 0, .int 0, .int 0, .null]))]) (sz := sz) (mc := 1) (ms := 1024) (av := [.ref h0, .int (nI mm)]) (Qc := es_QL D (fun _ => True) (fun u => [(h0, .inr (6, [.int 0, .int 0, .int 0, .int 0, .int 0, .ref (u 0)])), ((u 0), .inl (cI, mm, .inl (fun _ => 0)))]) [(h0, .inr (6, [.int 0, .int 0, .int 0, .int 0, .int 0, .null]))]) (by decide) (Nat.le_of_ble_eq_true rfl) ?_
  intro p e s m below meth c C hini hr hlk hP hD ls hl
  have hx := C.1
  have hb := C.2.1
  have hown := C.2.2.2.1
  have hts := C.2.2.2.2.1
  generalize hAe : va_A [(h0, .inr (6, [.int 0, .int 0, .int 0, .int 0, .int 0, .null]))] s.heap.size = A at C hD ⊢
  have hS : va_S A s.heap s.heap [] := va_S.rf
  replace hl : lv_has ls 2 [(0, .ref h0), (1, .int (nI mm))] := hl
  refine lv_aload_n hx hb dX6_init_0 rfl (lv_at hl 0 rfl) ?_
  refine es_oinit C es_u3_2 es_u1_14 es_u1_15 hl.1 dX6_init_1 (by decide) (Nat.le_of_ble_eq_true rfl) ?_
  refine lv_aload_n hx hb dX6_init_4 rfl (lv_at hl 0 rfl) ?_
  refine lv_iconst (v := 1) hx hb dX6_init_5 (by decide) ?_
  refine lv_iload_n hx hb dX6_init_6 rfl (lv_at hl 1 rfl) ?_
  refine va_mmax hx hb (C.2.2.1.trans hl.1.symm) hown (hts _ es_u3_3) (hts _ es_u2_0) (hts _ es_u1_21) (hts _ es_u2_1) (by decide) (Nat.le_of_ble_eq_true rfl) (by show 0 ≤ 1; decide) (by show 0 ≤ 1024; decide) dX6_init_7 ?_
  refine lv_topi (fun v1 ev1 => ?_)
  replace ev1 : v1 = nI mm := ev1.trans (es_max1 hm.1 (by omega))
  subst ev1
  refine es_newI C es_u1_16 hP hD hS 0 rfl mm (rfl) (by omega) (c1 := 1) (s1 := 1024) (by omega) (by omega) (by decide) (by decide) dX6_init_10 (fun q2 H hP hD hS => ?_)
  replace hP : va_P D vwCl [(h0, .inr (6, [.int 0, .int 0, .int 0, .int 0, .int 0, .null])), (q2, .inl (cI, mm, .inl (fun _ => 0)))] H := hP
  replace hD : va_D A [(h0, .inr (6, [.int 0, .int 0, .int 0, .int 0, .int 0, .null])), (q2, .inl (cI, mm, .inl (fun _ => 0)))] := hD
  refine es_putFL C hini hP hD hS 0 rfl rfl inlX6 tyX6_ok nmX6 (j := 5) (by decide) es_u3_4 rfl rfl (tyX6_ok 5 (by decide)) rfl rfl (Nat.le_of_ble_eq_true rfl) (ws1 := [(h0, .inr (6, [.int 0, .int 0, .int 0, .int 0, .int 0, .ref q2])), (q2, .inl (cI, mm, .inl (fun _ => 0)))]) rfl dX6_init_12 (fun H locs hP hD hS => ?_)
  refine W.widen (k := 1) (n := 1024) (by decide) (by decide) ?_
  exact es_vretA hAe C hr hlk (fun k => ([q2] : List Nat).getD k 0) trivial (hP.sub [0, 1] rfl) (hD.sub [0, 1] (by decide) rfl) hS dX6_init_15

set_option maxHeartbeats 4000000 in
set_option maxRecDepth 100000 in
theorem k_X0_init (l : Launch) (D : va_G) (cI cZ : ClassId) (sz : Nat) (h0 hT P R : Nat) (hPR : 1 ≤ P ∧ P ≤ 512 ∧ 1 ≤ R ∧ R ≤ 16) : Met l yX0_init (Cond.code yX0_init cX0_init 5 none :: wsL_law) ({ frames := 1, cells := 5, slots := 17920, locals := 21 } : Room) (es_PreL [.ref h0, .int (nI P), .int (nI R), .ref hT] D [(cI, .int), (cZ, .boolean)] [(h0, .inr (0, [.int 0, .int 0, .null, .null, .null, .null, .null, .null, .int 0]))] sz) (es_QL D (fun _ => True) (fun u => [(h0, .inr (0, [.int (nI P), .int (nI R), .ref hT, .ref (u 0), .ref (u 1), .ref (u 2), .ref (u 3), .ref (u 4), .int (nI P)])), ((u 0), .inl (cI, (P * R), .inl (fun _ => 0))), ((u 1), .inl (cI, (P * R), .inl (fun _ => 0))), ((u 2), .inl (cI, P, .inl (fun j => if j < P then -1 else 0))), ((u 3), .inl (cI, P, .inl (fun j => if j < P then -1 else 0))), ((u 4), .inl (cI, P, .inl (fun j => if j < P then nI j else 0)))]) [(h0, .inr (0, [.int 0, .int 0, .null, .null, .null, .null, .null, .null, .int 0]))] sz) 5 17920 (va_A [(h0, .inr (0, [.int 0, .int 0, .null, .null, .null, .null, .null, .null, .int 0]))] sz) := by
  refine es_introL (l := l) (y := yX0_init) (cc := cX0_init) (maxL := 5) (ret := none) (D := D) (tys := [(cI, .int), (cZ, .boolean)]) (ws := [(h0, .inr (0, [.int 0, .int 0, .null, .null, .null, .null, .null, .null, .int 0]))]) (sz := sz) (mc := 5) (ms := 17920) (av := [.ref h0, .int (nI P), .int (nI R), .ref hT]) (Qc := es_QL D (fun _ => True) (fun u => [(h0, .inr (0, [.int (nI P), .int (nI R), .ref hT, .ref (u 0), .ref (u 1), .ref (u 2), .ref (u 3), .ref (u 4), .int (nI P)])), ((u 0), .inl (cI, (P * R), .inl (fun _ => 0))), ((u 1), .inl (cI, (P * R), .inl (fun _ => 0))), ((u 2), .inl (cI, P, .inl (fun j => if j < P then -1 else 0))), ((u 3), .inl (cI, P, .inl (fun j => if j < P then -1 else 0))), ((u 4), .inl (cI, P, .inl (fun j => if j < P then nI j else 0)))]) [(h0, .inr (0, [.int 0, .int 0, .null, .null, .null, .null, .null, .null, .int 0]))]) (by decide) (Nat.le_of_ble_eq_true rfl) ?_
  intro p e s m below meth c C hini hr hlk hP hD ls hl
  have hx := C.1
  have hb := C.2.1
  have hown := C.2.2.2.1
  have hts := C.2.2.2.2.1
  generalize hAe : va_A [(h0, .inr (0, [.int 0, .int 0, .null, .null, .null, .null, .null, .null, .int 0]))] s.heap.size = A at C hD ⊢
  have hS : va_S A s.heap s.heap [] := va_S.rf
  replace hl : lv_has ls 5 [(0, .ref h0), (1, .int (nI P)), (2, .int (nI R)), (3, .ref hT)] := hl
  refine lv_aload_n hx hb dX0_init_0 rfl (lv_at hl 0 rfl) ?_
  refine es_oinit C es_u3_8 es_u1_14 es_u1_15 hl.1 dX0_init_1 (by decide) (Nat.le_of_ble_eq_true rfl) ?_
  refine lv_aload_n hx hb dX0_init_4 rfl (lv_at hl 0 rfl) ?_
  refine lv_iconst (v := 1) hx hb dX0_init_5 (by decide) ?_
  refine lv_iload_n hx hb dX0_init_6 rfl (lv_at hl 1 rfl) ?_
  refine va_mmax hx hb (C.2.2.1.trans hl.1.symm) hown (hts _ es_u3_9) (hts _ es_u2_0) (hts _ es_u1_21) (hts _ es_u2_1) (by decide) (Nat.le_of_ble_eq_true rfl) (by show 0 ≤ 5; decide) (by show 0 ≤ 17920; decide) dX0_init_7 ?_
  refine lv_topi (fun v1 ev1 => ?_)
  replace ev1 : v1 = nI P := ev1.trans (es_max1 hPR.1 (by omega))
  subst ev1
  refine es_putFL C hini hP hD hS 0 rfl rfl inlX0 tyX0_ok nmX0 (j := 0) (by decide) es_u3_10 rfl rfl (tyX0_ok 0 (by decide)) rfl rfl (Nat.le_of_ble_eq_true rfl) (ws1 := [(h0, .inr (0, [.int (nI P), .int 0, .null, .null, .null, .null, .null, .null, .int 0]))]) rfl dX0_init_10 (fun H locs hP hD hS => ?_)
  refine lv_aload_n hx hb dX0_init_13 rfl (lv_at hl 0 rfl) ?_
  refine lv_iconst (v := 1) hx hb dX0_init_14 (by decide) ?_
  refine lv_iload_n hx hb dX0_init_15 rfl (lv_at hl 2 rfl) ?_
  refine va_mmax hx hb (C.2.2.1.trans hl.1.symm) hown (hts _ es_u3_9) (hts _ es_u2_0) (hts _ es_u1_21) (hts _ es_u2_1) (by decide) (Nat.le_of_ble_eq_true rfl) (by show 0 ≤ 5; decide) (by show 0 ≤ 17920; decide) dX0_init_16 ?_
  refine lv_topi (fun v2 ev2 => ?_)
  replace ev2 : v2 = nI R := ev2.trans (es_max1 hPR.2.2.1 (by omega))
  subst ev2
  refine es_putFL C hini hP hD hS 0 rfl rfl inlX0 tyX0_ok nmX0 (j := 1) (by decide) es_u3_11 rfl rfl (tyX0_ok 1 (by decide)) rfl rfl (Nat.le_of_ble_eq_true rfl) (ws1 := [(h0, .inr (0, [.int (nI P), .int (nI R), .null, .null, .null, .null, .null, .null, .int 0]))]) rfl dX0_init_19 (fun H locs hP hD hS => ?_)
  refine lv_aload_n hx hb dX0_init_22 rfl (lv_at hl 0 rfl) ?_
  refine lv_aload_n hx hb dX0_init_23 rfl (lv_at hl 3 rfl) ?_
  refine es_putFL C hini hP hD hS 0 rfl rfl inlX0 tyX0_ok nmX0 (j := 2) (by decide) es_u3_12 rfl rfl (tyX0_ok 2 (by decide)) rfl rfl (Nat.le_of_ble_eq_true rfl) (ws1 := [(h0, .inr (0, [.int (nI P), .int (nI R), .ref hT, .null, .null, .null, .null, .null, .int 0]))]) rfl dX0_init_24 (fun H locs hP hD hS => ?_)
  refine lv_aload_n hx hb dX0_init_27 rfl (lv_at hl 0 rfl) ?_
  refine lv_aload_n hx hb dX0_init_28 rfl (lv_at hl 0 rfl) ?_
  refine es_getL C hP 0 rfl rfl inlX0 (j := 0) (by decide) es_u3_10 rfl dX0_init_29 ?_
  refine lv_aload_n hx hb dX0_init_32 rfl (lv_at hl 0 rfl) ?_
  refine es_getL C hP 0 rfl rfl inlX0 (j := 1) (by decide) es_u3_11 rfl dX0_init_33 ?_
  refine lv_imul hx hb dX0_init_36 ?_
  refine es_newI C es_u1_16 hP hD hS 0 rfl (P * R) (pk_mul P R) (Nat.le_trans (es_PR hPR) (by decide)) (c1 := 1) (s1 := 8192) (by omega) (by have := es_PR hPR; omega) (by decide) (by decide) dX0_init_37 (fun q3 H hP hD hS => ?_)
  replace hP : va_P D vwCl [(h0, .inr (0, [.int (nI P), .int (nI R), .ref hT, .null, .null, .null, .null, .null, .int 0])), (q3, .inl (cI, (P * R), .inl (fun _ => 0)))] H := hP
  replace hD : va_D A [(h0, .inr (0, [.int (nI P), .int (nI R), .ref hT, .null, .null, .null, .null, .null, .int 0])), (q3, .inl (cI, (P * R), .inl (fun _ => 0)))] := hD
  refine es_putFL C hini hP hD hS 0 rfl rfl inlX0 tyX0_ok nmX0 (j := 3) (by decide) es_u3_13 rfl rfl (tyX0_ok 3 (by decide)) rfl rfl (Nat.le_of_ble_eq_true rfl) (ws1 := [(h0, .inr (0, [.int (nI P), .int (nI R), .ref hT, .ref q3, .null, .null, .null, .null, .int 0])), (q3, .inl (cI, (P * R), .inl (fun _ => 0)))]) rfl dX0_init_39 (fun H locs hP hD hS => ?_)
  refine lv_aload_n hx hb dX0_init_42 rfl (lv_at hl 0 rfl) ?_
  refine lv_aload_n hx hb dX0_init_43 rfl (lv_at hl 0 rfl) ?_
  refine es_getL C hP 0 rfl rfl inlX0 (j := 0) (by decide) es_u3_10 rfl dX0_init_44 ?_
  refine lv_aload_n hx hb dX0_init_47 rfl (lv_at hl 0 rfl) ?_
  refine es_getL C hP 0 rfl rfl inlX0 (j := 1) (by decide) es_u3_11 rfl dX0_init_48 ?_
  refine lv_imul hx hb dX0_init_51 ?_
  refine es_newI C es_u1_16 hP hD hS 0 rfl (P * R) (pk_mul P R) (Nat.le_trans (es_PR hPR) (by decide)) (c1 := 2) (s1 := 16384) (by omega) (by have := es_PR hPR; omega) (by decide) (by decide) dX0_init_52 (fun q4 H hP hD hS => ?_)
  replace hP : va_P D vwCl [(h0, .inr (0, [.int (nI P), .int (nI R), .ref hT, .ref q3, .null, .null, .null, .null, .int 0])), (q3, .inl (cI, (P * R), .inl (fun _ => 0))), (q4, .inl (cI, (P * R), .inl (fun _ => 0)))] H := hP
  replace hD : va_D A [(h0, .inr (0, [.int (nI P), .int (nI R), .ref hT, .ref q3, .null, .null, .null, .null, .int 0])), (q3, .inl (cI, (P * R), .inl (fun _ => 0))), (q4, .inl (cI, (P * R), .inl (fun _ => 0)))] := hD
  refine es_putFL C hini hP hD hS 0 rfl rfl inlX0 tyX0_ok nmX0 (j := 4) (by decide) es_u3_14 rfl rfl (tyX0_ok 4 (by decide)) rfl rfl (Nat.le_of_ble_eq_true rfl) (ws1 := [(h0, .inr (0, [.int (nI P), .int (nI R), .ref hT, .ref q3, .ref q4, .null, .null, .null, .int 0])), (q3, .inl (cI, (P * R), .inl (fun _ => 0))), (q4, .inl (cI, (P * R), .inl (fun _ => 0)))]) rfl dX0_init_54 (fun H locs hP hD hS => ?_)
  refine lv_aload_n hx hb dX0_init_57 rfl (lv_at hl 0 rfl) ?_
  refine lv_aload_n hx hb dX0_init_58 rfl (lv_at hl 0 rfl) ?_
  refine es_getL C hP 0 rfl rfl inlX0 (j := 0) (by decide) es_u3_10 rfl dX0_init_59 ?_
  refine es_newI C es_u1_16 hP hD hS 0 rfl P (rfl) (by omega) (c1 := 3) (s1 := 16896) (by omega) (by omega) (by decide) (by decide) dX0_init_62 (fun q5 H hP hD hS => ?_)
  replace hP : va_P D vwCl [(h0, .inr (0, [.int (nI P), .int (nI R), .ref hT, .ref q3, .ref q4, .null, .null, .null, .int 0])), (q3, .inl (cI, (P * R), .inl (fun _ => 0))), (q4, .inl (cI, (P * R), .inl (fun _ => 0))), (q5, .inl (cI, P, .inl (fun _ => 0)))] H := hP
  replace hD : va_D A [(h0, .inr (0, [.int (nI P), .int (nI R), .ref hT, .ref q3, .ref q4, .null, .null, .null, .int 0])), (q3, .inl (cI, (P * R), .inl (fun _ => 0))), (q4, .inl (cI, (P * R), .inl (fun _ => 0))), (q5, .inl (cI, P, .inl (fun _ => 0)))] := hD
  refine es_putFL C hini hP hD hS 0 rfl rfl inlX0 tyX0_ok nmX0 (j := 5) (by decide) es_u3_15 rfl rfl (tyX0_ok 5 (by decide)) rfl rfl (Nat.le_of_ble_eq_true rfl) (ws1 := [(h0, .inr (0, [.int (nI P), .int (nI R), .ref hT, .ref q3, .ref q4, .ref q5, .null, .null, .int 0])), (q3, .inl (cI, (P * R), .inl (fun _ => 0))), (q4, .inl (cI, (P * R), .inl (fun _ => 0))), (q5, .inl (cI, P, .inl (fun _ => 0)))]) rfl dX0_init_64 (fun H locs hP hD hS => ?_)
  refine lv_aload_n hx hb dX0_init_67 rfl (lv_at hl 0 rfl) ?_
  refine lv_aload_n hx hb dX0_init_68 rfl (lv_at hl 0 rfl) ?_
  refine es_getL C hP 0 rfl rfl inlX0 (j := 0) (by decide) es_u3_10 rfl dX0_init_69 ?_
  refine es_newI C es_u1_16 hP hD hS 0 rfl P (rfl) (by omega) (c1 := 4) (s1 := 17408) (by omega) (by omega) (by decide) (by decide) dX0_init_72 (fun q6 H hP hD hS => ?_)
  replace hP : va_P D vwCl [(h0, .inr (0, [.int (nI P), .int (nI R), .ref hT, .ref q3, .ref q4, .ref q5, .null, .null, .int 0])), (q3, .inl (cI, (P * R), .inl (fun _ => 0))), (q4, .inl (cI, (P * R), .inl (fun _ => 0))), (q5, .inl (cI, P, .inl (fun _ => 0))), (q6, .inl (cI, P, .inl (fun _ => 0)))] H := hP
  replace hD : va_D A [(h0, .inr (0, [.int (nI P), .int (nI R), .ref hT, .ref q3, .ref q4, .ref q5, .null, .null, .int 0])), (q3, .inl (cI, (P * R), .inl (fun _ => 0))), (q4, .inl (cI, (P * R), .inl (fun _ => 0))), (q5, .inl (cI, P, .inl (fun _ => 0))), (q6, .inl (cI, P, .inl (fun _ => 0)))] := hD
  refine es_putFL C hini hP hD hS 0 rfl rfl inlX0 tyX0_ok nmX0 (j := 6) (by decide) es_u3_16 rfl rfl (tyX0_ok 6 (by decide)) rfl rfl (Nat.le_of_ble_eq_true rfl) (ws1 := [(h0, .inr (0, [.int (nI P), .int (nI R), .ref hT, .ref q3, .ref q4, .ref q5, .ref q6, .null, .int 0])), (q3, .inl (cI, (P * R), .inl (fun _ => 0))), (q4, .inl (cI, (P * R), .inl (fun _ => 0))), (q5, .inl (cI, P, .inl (fun _ => 0))), (q6, .inl (cI, P, .inl (fun _ => 0)))]) rfl dX0_init_74 (fun H locs hP hD hS => ?_)
  refine lv_aload_n hx hb dX0_init_77 rfl (lv_at hl 0 rfl) ?_
  refine lv_aload_n hx hb dX0_init_78 rfl (lv_at hl 0 rfl) ?_
  refine es_getL C hP 0 rfl rfl inlX0 (j := 0) (by decide) es_u3_10 rfl dX0_init_79 ?_
  refine es_newI C es_u1_16 hP hD hS 0 rfl P (rfl) (by omega) (c1 := 5) (s1 := 17920) (by omega) (by omega) (by decide) (by decide) dX0_init_82 (fun q7 H hP hD hS => ?_)
  replace hP : va_P D vwCl [(h0, .inr (0, [.int (nI P), .int (nI R), .ref hT, .ref q3, .ref q4, .ref q5, .ref q6, .null, .int 0])), (q3, .inl (cI, (P * R), .inl (fun _ => 0))), (q4, .inl (cI, (P * R), .inl (fun _ => 0))), (q5, .inl (cI, P, .inl (fun _ => 0))), (q6, .inl (cI, P, .inl (fun _ => 0))), (q7, .inl (cI, P, .inl (fun _ => 0)))] H := hP
  replace hD : va_D A [(h0, .inr (0, [.int (nI P), .int (nI R), .ref hT, .ref q3, .ref q4, .ref q5, .ref q6, .null, .int 0])), (q3, .inl (cI, (P * R), .inl (fun _ => 0))), (q4, .inl (cI, (P * R), .inl (fun _ => 0))), (q5, .inl (cI, P, .inl (fun _ => 0))), (q6, .inl (cI, P, .inl (fun _ => 0))), (q7, .inl (cI, P, .inl (fun _ => 0)))] := hD
  refine es_putFL C hini hP hD hS 0 rfl rfl inlX0 tyX0_ok nmX0 (j := 7) (by decide) es_u3_17 rfl rfl (tyX0_ok 7 (by decide)) rfl rfl (Nat.le_of_ble_eq_true rfl) (ws1 := [(h0, .inr (0, [.int (nI P), .int (nI R), .ref hT, .ref q3, .ref q4, .ref q5, .ref q6, .ref q7, .int 0])), (q3, .inl (cI, (P * R), .inl (fun _ => 0))), (q4, .inl (cI, (P * R), .inl (fun _ => 0))), (q5, .inl (cI, P, .inl (fun _ => 0))), (q6, .inl (cI, P, .inl (fun _ => 0))), (q7, .inl (cI, P, .inl (fun _ => 0)))]) rfl dX0_init_84 (fun H locs hP hD hS => ?_)
  refine lv_iconst (v := 0) hx hb dX0_init_87 (by decide) ?_
  refine lv_istore (lv' := [(4, .int 0), (0, .ref h0), (1, .int (nI P)), (2, .int (nI R)), (3, .ref hT)]) hx hb dX0_init_88 hl (by decide) rfl (fun ls hl => ?_)
  have J : ∀ (n i : Nat), i + n = P → ∀ (H : Heap) (locs : List Loc) (ls : Array Slot), va_P D vwCl [(h0, .inr (0, [.int (nI P), .int (nI R), .ref hT, .ref q3, .ref q4, .ref q5, .ref q6, .ref q7, .int 0])), (q3, .inl (cI, (P * R), .inl (fun _ => 0))), (q4, .inl (cI, (P * R), .inl (fun _ => 0))), (q5, .inl (cI, P, .inl (fun j => if j < i then -1 else 0))), (q6, .inl (cI, P, .inl (fun j => if j < i then -1 else 0))), (q7, .inl (cI, P, .inl (fun j => if j < i then nI j else 0)))] H → va_D A [(h0, .inr (0, [.int (nI P), .int (nI R), .ref hT, .ref q3, .ref q4, .ref q5, .ref q6, .ref q7, .int 0])), (q3, .inl (cI, (P * R), .inl (fun _ => 0))), (q4, .inl (cI, (P * R), .inl (fun _ => 0))), (q5, .inl (cI, P, .inl (fun j => if j < i then -1 else 0))), (q6, .inl (cI, P, .inl (fun j => if j < i then -1 else 0))), (q7, .inl (cI, P, .inl (fun j => if j < i then nI j else 0)))] → va_S A s.heap H locs → lv_has ls 5 [(4, .int (nI i)), (0, .ref h0), (1, .int (nI P)), (2, .int (nI R)), (3, .ref hT)] → (∀ (H : Heap) (locs : List Loc) (ls : Array Slot), va_P D vwCl [(h0, .inr (0, [.int (nI P), .int (nI R), .ref hT, .ref q3, .ref q4, .ref q5, .ref q6, .ref q7, .int 0])), (q3, .inl (cI, (P * R), .inl (fun _ => 0))), (q4, .inl (cI, (P * R), .inl (fun _ => 0))), (q5, .inl (cI, P, .inl (fun j => if j < P then -1 else 0))), (q6, .inl (cI, P, .inl (fun j => if j < P then -1 else 0))), (q7, .inl (cI, P, .inl (fun j => if j < P then nI j else 0)))] H → va_D A [(h0, .inr (0, [.int (nI P), .int (nI R), .ref hT, .ref q3, .ref q4, .ref q5, .ref q6, .ref q7, .int 0])), (q3, .inl (cI, (P * R), .inl (fun _ => 0))), (q4, .inl (cI, (P * R), .inl (fun _ => 0))), (q5, .inl (cI, P, .inl (fun j => if j < P then -1 else 0))), (q6, .inl (cI, P, .inl (fun j => if j < P then -1 else 0))), (q7, .inl (cI, P, .inl (fun j => if j < P then nI j else 0)))] → va_S A s.heap H locs → lv_has ls 5 [(4, .int (nI P)), (0, .ref h0), (1, .int (nI P)), (2, .int (nI R)), (3, .ref hT)] → W p l e ({ frames := 1, cells := 5, slots := 17920, locals := 21 } : Room) s m ([.ref h0, .int (nI P), .int (nI R), .ref hT] : List Value).toArray below meth c H locs 5 17920 (MQ below (es_QL D (fun _ => True) (fun u => [(h0, .inr (0, [.int (nI P), .int (nI R), .ref hT, .ref (u 0), .ref (u 1), .ref (u 2), .ref (u 3), .ref (u 4), .int (nI P)])), ((u 0), .inl (cI, (P * R), .inl (fun _ => 0))), ((u 1), .inl (cI, (P * R), .inl (fun _ => 0))), ((u 2), .inl (cI, P, .inl (fun j => if j < P then -1 else 0))), ((u 3), .inl (cI, P, .inl (fun j => if j < P then -1 else 0))), ((u 4), .inl (cI, P, .inl (fun j => if j < P then nI j else 0)))]) [(h0, .inr (0, [.int 0, .int 0, .null, .null, .null, .null, .null, .null, .int 0]))] s.heap.size) ([.ref h0, .int (nI P), .int (nI R), .ref hT] : List Value).toArray s 5 17920 A) (F0 m 130 ls [])) → W p l e ({ frames := 1, cells := 5, slots := 17920, locals := 21 } : Room) s m ([.ref h0, .int (nI P), .int (nI R), .ref hT] : List Value).toArray below meth c H locs 5 17920 (MQ below (es_QL D (fun _ => True) (fun u => [(h0, .inr (0, [.int (nI P), .int (nI R), .ref hT, .ref (u 0), .ref (u 1), .ref (u 2), .ref (u 3), .ref (u 4), .int (nI P)])), ((u 0), .inl (cI, (P * R), .inl (fun _ => 0))), ((u 1), .inl (cI, (P * R), .inl (fun _ => 0))), ((u 2), .inl (cI, P, .inl (fun j => if j < P then -1 else 0))), ((u 3), .inl (cI, P, .inl (fun j => if j < P then -1 else 0))), ((u 4), .inl (cI, P, .inl (fun j => if j < P then nI j else 0)))]) [(h0, .inr (0, [.int 0, .int 0, .null, .null, .null, .null, .null, .null, .int 0]))] s.heap.size) ([.ref h0, .int (nI P), .int (nI R), .ref hT] : List Value).toArray s 5 17920 A) (F0 m 90 ls []) := by
    intro n
    induction n with
    | zero =>
      intro i hi H locs ls hP hD hS hl kk
      have hi2 : i = P := by omega
      subst hi2
      refine lv_iload hx hb dX0_init_90 (lv_at hl 0 rfl) ?_
      refine lv_aload_n hx hb dX0_init_92 rfl (lv_at hl 1 rfl) ?_
      refine es_getL C hP 0 rfl rfl inlX0 (j := 0) (by decide) es_u3_10 rfl dX0_init_93 ?_
      refine lv_icmp_ge (tgt := 130) hx hb dX0_init_96 (by decide) (fun c1 => ?_) (fun c1 => ?_)
      · exact kk H locs ls hP hD hS hl
      · exact absurd (nI_le (Nat.le_refl _) (by omega)) c1
    | succ n ih =>
      intro i hi H locs ls hP hD hS hl kk
      refine lv_iload hx hb dX0_init_90 (lv_at hl 0 rfl) ?_
      refine lv_aload_n hx hb dX0_init_92 rfl (lv_at hl 1 rfl) ?_
      refine es_getL C hP 0 rfl rfl inlX0 (j := 0) (by decide) es_u3_10 rfl dX0_init_93 ?_
      refine lv_icmp_ge (tgt := 130) hx hb dX0_init_96 (by decide) (fun c1 => ?_) (fun c1 => ?_)
      · exact absurd c1 (nI_ge (by omega) (by omega))
      · have hin : vp_in (nI i) P := vp_in_nI (by omega) (by omega)
        refine lv_aload_n hx hb dX0_init_99 rfl (lv_at hl 1 rfl) ?_
        refine es_getL C hP 0 rfl rfl inlX0 (j := 5) (by decide) es_u3_15 rfl dX0_init_100 ?_
        refine lv_iload hx hb dX0_init_103 (lv_at hl 0 rfl) ?_
        refine lv_iconst (v := (-1)) hx hb dX0_init_105 (by decide) ?_
        refine es_astL C hP hD hS 3 rfl (t0 := 0) rfl hin (f1 := (fun j => if j < i + 1 then -1 else 0)) (es_upc i (by omega)) (ws1 := [(h0, .inr (0, [.int (nI P), .int (nI R), .ref hT, .ref q3, .ref q4, .ref q5, .ref q6, .ref q7, .int 0])), (q3, .inl (cI, (P * R), .inl (fun _ => 0))), (q4, .inl (cI, (P * R), .inl (fun _ => 0))), (q5, .inl (cI, P, .inl (fun j => if j < i + 1 then -1 else 0))), (q6, .inl (cI, P, .inl (fun j => if j < i then -1 else 0))), (q7, .inl (cI, P, .inl (fun j => if j < i then nI j else 0)))]) rfl dX0_init_106 (fun H locs hP hD hS => ?_)
        refine lv_aload_n hx hb dX0_init_107 rfl (lv_at hl 1 rfl) ?_
        refine es_getL C hP 0 rfl rfl inlX0 (j := 6) (by decide) es_u3_16 rfl dX0_init_108 ?_
        refine lv_iload hx hb dX0_init_111 (lv_at hl 0 rfl) ?_
        refine lv_iconst (v := (-1)) hx hb dX0_init_113 (by decide) ?_
        refine es_astL C hP hD hS 4 rfl (t0 := 0) rfl hin (f1 := (fun j => if j < i + 1 then -1 else 0)) (es_upc i (by omega)) (ws1 := [(h0, .inr (0, [.int (nI P), .int (nI R), .ref hT, .ref q3, .ref q4, .ref q5, .ref q6, .ref q7, .int 0])), (q3, .inl (cI, (P * R), .inl (fun _ => 0))), (q4, .inl (cI, (P * R), .inl (fun _ => 0))), (q5, .inl (cI, P, .inl (fun j => if j < i + 1 then -1 else 0))), (q6, .inl (cI, P, .inl (fun j => if j < i + 1 then -1 else 0))), (q7, .inl (cI, P, .inl (fun j => if j < i then nI j else 0)))]) rfl dX0_init_114 (fun H locs hP hD hS => ?_)
        refine lv_aload_n hx hb dX0_init_115 rfl (lv_at hl 1 rfl) ?_
        refine es_getL C hP 0 rfl rfl inlX0 (j := 7) (by decide) es_u3_17 rfl dX0_init_116 ?_
        refine lv_iload hx hb dX0_init_119 (lv_at hl 0 rfl) ?_
        refine lv_iload hx hb dX0_init_121 (lv_at hl 0 rfl) ?_
        refine es_astL C hP hD hS 5 rfl (t0 := 0) rfl hin (f1 := (fun j => if j < i + 1 then nI j else 0)) (es_upi i (by omega)) (ws1 := [(h0, .inr (0, [.int (nI P), .int (nI R), .ref hT, .ref q3, .ref q4, .ref q5, .ref q6, .ref q7, .int 0])), (q3, .inl (cI, (P * R), .inl (fun _ => 0))), (q4, .inl (cI, (P * R), .inl (fun _ => 0))), (q5, .inl (cI, P, .inl (fun j => if j < i + 1 then -1 else 0))), (q6, .inl (cI, P, .inl (fun j => if j < i + 1 then -1 else 0))), (q7, .inl (cI, P, .inl (fun j => if j < i + 1 then nI j else 0)))]) rfl dX0_init_123 (fun H locs hP hD hS => ?_)
        refine lv_iinc (v := nI (i + 1)) (lv' := [(4, .int (nI (i + 1))), (0, .ref h0), (1, .int (nI P)), (2, .int (nI R)), (3, .ref hT)]) hx hb dX0_init_124 hl (k := 0) rfl (nI_1 i) (by decide) rfl (fun ls hl => ?_)
        refine lv_goto (tgt := 90) hx hb dX0_init_127 (by decide) ?_
        exact ih (i + 1) (by omega) H locs ls hP hD hS hl kk
  refine J P 0 (by omega) H locs ls hP hD hS hl (fun H locs ls hP hD hS hl => ?_)
  refine lv_aload_n hx hb dX0_init_130 rfl (lv_at hl 1 rfl) ?_
  refine lv_aload_n hx hb dX0_init_131 rfl (lv_at hl 1 rfl) ?_
  refine es_getL C hP 0 rfl rfl inlX0 (j := 0) (by decide) es_u3_10 rfl dX0_init_132 ?_
  refine es_putL C hP hD hS 0 rfl rfl inlX0 tyX0_ok nmX0 (j := 8) (by decide) es_u3_18 rfl (tyX0_ok 8 (by decide)) rfl rfl (Nat.le_of_ble_eq_true rfl) (ws1 := [(h0, .inr (0, [.int (nI P), .int (nI R), .ref hT, .ref q3, .ref q4, .ref q5, .ref q6, .ref q7, .int (nI P)])), (q3, .inl (cI, (P * R), .inl (fun _ => 0))), (q4, .inl (cI, (P * R), .inl (fun _ => 0))), (q5, .inl (cI, P, .inl (fun j => if j < P then -1 else 0))), (q6, .inl (cI, P, .inl (fun j => if j < P then -1 else 0))), (q7, .inl (cI, P, .inl (fun j => if j < P then nI j else 0)))]) rfl dX0_init_135 (fun H locs hP hD hS => ?_)
  refine W.widen (k := 5) (n := 17920) (by decide) (by decide) ?_
  exact es_vretA hAe C hr hlk (fun k => ([q3, q4, q5, q6, q7] : List Nat).getD k 0) trivial (hP.sub [0, 1, 2, 3, 4, 5] rfl) (hD.sub [0, 1, 2, 3, 4, 5] (by decide) rfl) hS dX0_init_138

set_option maxHeartbeats 4000000 in
set_option maxRecDepth 100000 in
theorem k_X4_init (l : Launch) (D : va_G) (cI cZ : ClassId) (sz : Nat) (h0 hd hT P R d0 d1 d2 d3 d4 : Nat) (hPR : 1 ≤ P ∧ P ≤ 512 ∧ 1 ≤ R ∧ R ≤ 16) : Met l yX4_init (Cond.code yX4_init cX4_init 2 none :: wsL_law) ({ frames := 1, cells := 2, slots := 32, locals := 21 } : Room) (es_PreL [.ref h0, .ref hd] D [(cI, .int), (cZ, .boolean)] [(h0, .inr (4, [.int 0, .int 0, .int 0, .int 0, .null, .null, .null, .int 0, .int 0, .int 0])), (hd, .inr (0, [.int (nI P), .int (nI R), .ref hT, .ref d0, .ref d1, .ref d2, .ref d3, .ref d4, .int (nI P)]))] sz) (es_QL D (fun _ => True) (fun u => [(h0, .inr (4, [.int 0, .int 0, .int 0, .int 0, .ref hd, .ref (u 0), .ref (u 1), .int 0, .int 0, .int 0])), (hd, .inr (0, [.int (nI P), .int (nI R), .ref hT, .ref d0, .ref d1, .ref d2, .ref d3, .ref d4, .int (nI P)])), ((u 0), .inl (cI, R, .inl (fun _ => 0))), ((u 1), .inl (cI, R, .inl (fun _ => 0)))]) [(h0, .inr (4, [.int 0, .int 0, .int 0, .int 0, .null, .null, .null, .int 0, .int 0, .int 0])), (hd, .inr (0, [.int (nI P), .int (nI R), .ref hT, .ref d0, .ref d1, .ref d2, .ref d3, .ref d4, .int (nI P)]))] sz) 2 32 (va_A [(h0, .inr (4, [.int 0, .int 0, .int 0, .int 0, .null, .null, .null, .int 0, .int 0, .int 0])), (hd, .inr (0, [.int (nI P), .int (nI R), .ref hT, .ref d0, .ref d1, .ref d2, .ref d3, .ref d4, .int (nI P)]))] sz) := by
  refine es_introL (l := l) (y := yX4_init) (cc := cX4_init) (maxL := 2) (ret := none) (D := D) (tys := [(cI, .int), (cZ, .boolean)]) (ws := [(h0, .inr (4, [.int 0, .int 0, .int 0, .int 0, .null, .null, .null, .int 0, .int 0, .int 0])), (hd, .inr (0, [.int (nI P), .int (nI R), .ref hT, .ref d0, .ref d1, .ref d2, .ref d3, .ref d4, .int (nI P)]))]) (sz := sz) (mc := 2) (ms := 32) (av := [.ref h0, .ref hd]) (Qc := es_QL D (fun _ => True) (fun u => [(h0, .inr (4, [.int 0, .int 0, .int 0, .int 0, .ref hd, .ref (u 0), .ref (u 1), .int 0, .int 0, .int 0])), (hd, .inr (0, [.int (nI P), .int (nI R), .ref hT, .ref d0, .ref d1, .ref d2, .ref d3, .ref d4, .int (nI P)])), ((u 0), .inl (cI, R, .inl (fun _ => 0))), ((u 1), .inl (cI, R, .inl (fun _ => 0)))]) [(h0, .inr (4, [.int 0, .int 0, .int 0, .int 0, .null, .null, .null, .int 0, .int 0, .int 0])), (hd, .inr (0, [.int (nI P), .int (nI R), .ref hT, .ref d0, .ref d1, .ref d2, .ref d3, .ref d4, .int (nI P)]))]) (by decide) (Nat.le_of_ble_eq_true rfl) ?_
  intro p e s m below meth c C hini hr hlk hP hD ls hl
  have hx := C.1
  have hb := C.2.1
  have hown := C.2.2.2.1
  have hts := C.2.2.2.2.1
  generalize hAe : va_A [(h0, .inr (4, [.int 0, .int 0, .int 0, .int 0, .null, .null, .null, .int 0, .int 0, .int 0])), (hd, .inr (0, [.int (nI P), .int (nI R), .ref hT, .ref d0, .ref d1, .ref d2, .ref d3, .ref d4, .int (nI P)]))] s.heap.size = A at C hD ⊢
  have hS : va_S A s.heap s.heap [] := va_S.rf
  replace hl : lv_has ls 2 [(0, .ref h0), (1, .ref hd)] := hl
  refine lv_aload_n hx hb dX4_init_0 rfl (lv_at hl 0 rfl) ?_
  refine es_oinit C es_u3_22 es_u1_14 es_u1_15 hl.1 dX4_init_1 (by decide) (Nat.le_of_ble_eq_true rfl) ?_
  refine lv_aload_n hx hb dX4_init_4 rfl (lv_at hl 0 rfl) ?_
  refine lv_aload_n hx hb dX4_init_5 rfl (lv_at hl 1 rfl) ?_
  refine es_putFL C hini hP hD hS 0 rfl rfl inlX4 tyX4_ok nmX4 (j := 4) (by decide) es_u3_23 rfl rfl (tyX4_ok 4 (by decide)) rfl rfl (Nat.le_of_ble_eq_true rfl) (ws1 := [(h0, .inr (4, [.int 0, .int 0, .int 0, .int 0, .ref hd, .null, .null, .int 0, .int 0, .int 0])), (hd, .inr (0, [.int (nI P), .int (nI R), .ref hT, .ref d0, .ref d1, .ref d2, .ref d3, .ref d4, .int (nI P)]))]) rfl dX4_init_6 (fun H locs hP hD hS => ?_)
  refine lv_aload_n hx hb dX4_init_9 rfl (lv_at hl 0 rfl) ?_
  refine lv_aload_n hx hb dX4_init_10 rfl (lv_at hl 1 rfl) ?_
  refine es_getL C hP 1 rfl rfl inlX0 (j := 1) (by decide) es_u4_0 rfl dX4_init_11 ?_
  refine es_newI C es_u1_16 hP hD hS 0 rfl R (rfl) (by omega) (c1 := 1) (s1 := 16) (by omega) (by omega) (by decide) (by decide) dX4_init_14 (fun q1 H hP hD hS => ?_)
  replace hP : va_P D vwCl [(h0, .inr (4, [.int 0, .int 0, .int 0, .int 0, .ref hd, .null, .null, .int 0, .int 0, .int 0])), (hd, .inr (0, [.int (nI P), .int (nI R), .ref hT, .ref d0, .ref d1, .ref d2, .ref d3, .ref d4, .int (nI P)])), (q1, .inl (cI, R, .inl (fun _ => 0)))] H := hP
  replace hD : va_D A [(h0, .inr (4, [.int 0, .int 0, .int 0, .int 0, .ref hd, .null, .null, .int 0, .int 0, .int 0])), (hd, .inr (0, [.int (nI P), .int (nI R), .ref hT, .ref d0, .ref d1, .ref d2, .ref d3, .ref d4, .int (nI P)])), (q1, .inl (cI, R, .inl (fun _ => 0)))] := hD
  refine es_putFL C hini hP hD hS 0 rfl rfl inlX4 tyX4_ok nmX4 (j := 5) (by decide) es_u4_1 rfl rfl (tyX4_ok 5 (by decide)) rfl rfl (Nat.le_of_ble_eq_true rfl) (ws1 := [(h0, .inr (4, [.int 0, .int 0, .int 0, .int 0, .ref hd, .ref q1, .null, .int 0, .int 0, .int 0])), (hd, .inr (0, [.int (nI P), .int (nI R), .ref hT, .ref d0, .ref d1, .ref d2, .ref d3, .ref d4, .int (nI P)])), (q1, .inl (cI, R, .inl (fun _ => 0)))]) rfl dX4_init_16 (fun H locs hP hD hS => ?_)
  refine lv_aload_n hx hb dX4_init_19 rfl (lv_at hl 0 rfl) ?_
  refine lv_aload_n hx hb dX4_init_20 rfl (lv_at hl 1 rfl) ?_
  refine es_getL C hP 1 rfl rfl inlX0 (j := 1) (by decide) es_u4_0 rfl dX4_init_21 ?_
  refine es_newI C es_u1_16 hP hD hS 0 rfl R (rfl) (by omega) (c1 := 2) (s1 := 32) (by omega) (by omega) (by decide) (by decide) dX4_init_24 (fun q2 H hP hD hS => ?_)
  replace hP : va_P D vwCl [(h0, .inr (4, [.int 0, .int 0, .int 0, .int 0, .ref hd, .ref q1, .null, .int 0, .int 0, .int 0])), (hd, .inr (0, [.int (nI P), .int (nI R), .ref hT, .ref d0, .ref d1, .ref d2, .ref d3, .ref d4, .int (nI P)])), (q1, .inl (cI, R, .inl (fun _ => 0))), (q2, .inl (cI, R, .inl (fun _ => 0)))] H := hP
  replace hD : va_D A [(h0, .inr (4, [.int 0, .int 0, .int 0, .int 0, .ref hd, .ref q1, .null, .int 0, .int 0, .int 0])), (hd, .inr (0, [.int (nI P), .int (nI R), .ref hT, .ref d0, .ref d1, .ref d2, .ref d3, .ref d4, .int (nI P)])), (q1, .inl (cI, R, .inl (fun _ => 0))), (q2, .inl (cI, R, .inl (fun _ => 0)))] := hD
  refine es_putFL C hini hP hD hS 0 rfl rfl inlX4 tyX4_ok nmX4 (j := 6) (by decide) es_u4_2 rfl rfl (tyX4_ok 6 (by decide)) rfl rfl (Nat.le_of_ble_eq_true rfl) (ws1 := [(h0, .inr (4, [.int 0, .int 0, .int 0, .int 0, .ref hd, .ref q1, .ref q2, .int 0, .int 0, .int 0])), (hd, .inr (0, [.int (nI P), .int (nI R), .ref hT, .ref d0, .ref d1, .ref d2, .ref d3, .ref d4, .int (nI P)])), (q1, .inl (cI, R, .inl (fun _ => 0))), (q2, .inl (cI, R, .inl (fun _ => 0)))]) rfl dX4_init_26 (fun H locs hP hD hS => ?_)
  refine W.widen (k := 2) (n := 32) (by decide) (by decide) ?_
  exact es_vretA hAe C hr hlk (fun k => ([q1, q2] : List Nat).getD k 0) trivial (hP.sub [0, 1, 2, 3] rfl) (hD.sub [0, 1, 2, 3] (by decide) rfl) hS dX4_init_29

set_option maxHeartbeats 4000000 in
set_option maxRecDepth 100000 in
theorem k_X1_init (l : Launch) (D : va_G) (cI cZ : ClassId) (sz : Nat) (h0 hd hT P R d0 d1 d2 d3 d4 : Nat) (hPR : 1 ≤ P ∧ P ≤ 512 ∧ 1 ≤ R ∧ R ≤ 16) : Met l yX1_init (Cond.code yX1_init cX1_init 2 none :: wsL_law) ({ frames := 1, cells := 6, slots := 540, locals := 21 } : Room) (es_PreL [.ref h0, .ref hd] D [(cI, .int), (cZ, .boolean)] [(h0, .inr (1, [.null, .null, .null, .null, .null, .null, .null])), (hd, .inr (0, [.int (nI P), .int (nI R), .ref hT, .ref d0, .ref d1, .ref d2, .ref d3, .ref d4, .int (nI P)]))] sz) (es_QL D (fun _ => True) (fun u => [(h0, .inr (1, [.ref hd, .ref (u 0), .ref (u 1), .ref (u 2), .ref (u 3), .ref (u 4), .ref (u 5)])), (hd, .inr (0, [.int (nI P), .int (nI R), .ref hT, .ref d0, .ref d1, .ref d2, .ref d3, .ref d4, .int (nI P)])), ((u 0), .inl (cI, (15 * R), .inl (fun _ => 0))), ((u 1), .inl (cI, (15 * R), .inl (fun _ => 0))), ((u 2), .inl (cI, 15, .inl (fun _ => 0))), ((u 3), .inl (cI, 15, .inl (fun _ => 0))), ((u 4), .inl (cI, 15, .inl (fun _ => 0))), ((u 5), .inl (cI, 15, .inl (fun _ => 0)))]) [(h0, .inr (1, [.null, .null, .null, .null, .null, .null, .null])), (hd, .inr (0, [.int (nI P), .int (nI R), .ref hT, .ref d0, .ref d1, .ref d2, .ref d3, .ref d4, .int (nI P)]))] sz) 6 540 (va_A [(h0, .inr (1, [.null, .null, .null, .null, .null, .null, .null])), (hd, .inr (0, [.int (nI P), .int (nI R), .ref hT, .ref d0, .ref d1, .ref d2, .ref d3, .ref d4, .int (nI P)]))] sz) := by
  refine es_introL (l := l) (y := yX1_init) (cc := cX1_init) (maxL := 2) (ret := none) (D := D) (tys := [(cI, .int), (cZ, .boolean)]) (ws := [(h0, .inr (1, [.null, .null, .null, .null, .null, .null, .null])), (hd, .inr (0, [.int (nI P), .int (nI R), .ref hT, .ref d0, .ref d1, .ref d2, .ref d3, .ref d4, .int (nI P)]))]) (sz := sz) (mc := 6) (ms := 540) (av := [.ref h0, .ref hd]) (Qc := es_QL D (fun _ => True) (fun u => [(h0, .inr (1, [.ref hd, .ref (u 0), .ref (u 1), .ref (u 2), .ref (u 3), .ref (u 4), .ref (u 5)])), (hd, .inr (0, [.int (nI P), .int (nI R), .ref hT, .ref d0, .ref d1, .ref d2, .ref d3, .ref d4, .int (nI P)])), ((u 0), .inl (cI, (15 * R), .inl (fun _ => 0))), ((u 1), .inl (cI, (15 * R), .inl (fun _ => 0))), ((u 2), .inl (cI, 15, .inl (fun _ => 0))), ((u 3), .inl (cI, 15, .inl (fun _ => 0))), ((u 4), .inl (cI, 15, .inl (fun _ => 0))), ((u 5), .inl (cI, 15, .inl (fun _ => 0)))]) [(h0, .inr (1, [.null, .null, .null, .null, .null, .null, .null])), (hd, .inr (0, [.int (nI P), .int (nI R), .ref hT, .ref d0, .ref d1, .ref d2, .ref d3, .ref d4, .int (nI P)]))]) (by decide) (Nat.le_of_ble_eq_true rfl) ?_
  intro p e s m below meth c C hini hr hlk hP hD ls hl
  have hx := C.1
  have hb := C.2.1
  have hown := C.2.2.2.1
  have hts := C.2.2.2.2.1
  generalize hAe : va_A [(h0, .inr (1, [.null, .null, .null, .null, .null, .null, .null])), (hd, .inr (0, [.int (nI P), .int (nI R), .ref hT, .ref d0, .ref d1, .ref d2, .ref d3, .ref d4, .int (nI P)]))] s.heap.size = A at C hD ⊢
  have hS : va_S A s.heap s.heap [] := va_S.rf
  replace hl : lv_has ls 2 [(0, .ref h0), (1, .ref hd)] := hl
  refine lv_aload_n hx hb dX1_init_0 rfl (lv_at hl 0 rfl) ?_
  refine es_oinit C es_u5_1 es_u1_14 es_u1_15 hl.1 dX1_init_1 (by decide) (Nat.le_of_ble_eq_true rfl) ?_
  refine lv_aload_n hx hb dX1_init_4 rfl (lv_at hl 0 rfl) ?_
  refine lv_bipush (v := 15) hx hb dX1_init_5 (by decide) ?_
  refine es_newI C es_u1_16 hP hD hS 0 rfl 15 (rfl) (by decide) (c1 := 1) (s1 := 15) (by omega) (by omega) (by decide) (by decide) dX1_init_7 (fun q1 H hP hD hS => ?_)
  replace hP : va_P D vwCl [(h0, .inr (1, [.null, .null, .null, .null, .null, .null, .null])), (hd, .inr (0, [.int (nI P), .int (nI R), .ref hT, .ref d0, .ref d1, .ref d2, .ref d3, .ref d4, .int (nI P)])), (q1, .inl (cI, 15, .inl (fun _ => 0)))] H := hP
  replace hD : va_D A [(h0, .inr (1, [.null, .null, .null, .null, .null, .null, .null])), (hd, .inr (0, [.int (nI P), .int (nI R), .ref hT, .ref d0, .ref d1, .ref d2, .ref d3, .ref d4, .int (nI P)])), (q1, .inl (cI, 15, .inl (fun _ => 0)))] := hD
  refine es_putFL C hini hP hD hS 0 rfl rfl inlX1 tyX1_ok nmX1 (j := 3) (by decide) es_u5_2 rfl rfl (tyX1_ok 3 (by decide)) rfl rfl (Nat.le_of_ble_eq_true rfl) (ws1 := [(h0, .inr (1, [.null, .null, .null, .ref q1, .null, .null, .null])), (hd, .inr (0, [.int (nI P), .int (nI R), .ref hT, .ref d0, .ref d1, .ref d2, .ref d3, .ref d4, .int (nI P)])), (q1, .inl (cI, 15, .inl (fun _ => 0)))]) rfl dX1_init_9 (fun H locs hP hD hS => ?_)
  refine lv_aload_n hx hb dX1_init_12 rfl (lv_at hl 0 rfl) ?_
  refine lv_bipush (v := 15) hx hb dX1_init_13 (by decide) ?_
  refine es_newI C es_u1_16 hP hD hS 0 rfl 15 (rfl) (by decide) (c1 := 2) (s1 := 30) (by omega) (by omega) (by decide) (by decide) dX1_init_15 (fun q2 H hP hD hS => ?_)
  replace hP : va_P D vwCl [(h0, .inr (1, [.null, .null, .null, .ref q1, .null, .null, .null])), (hd, .inr (0, [.int (nI P), .int (nI R), .ref hT, .ref d0, .ref d1, .ref d2, .ref d3, .ref d4, .int (nI P)])), (q1, .inl (cI, 15, .inl (fun _ => 0))), (q2, .inl (cI, 15, .inl (fun _ => 0)))] H := hP
  replace hD : va_D A [(h0, .inr (1, [.null, .null, .null, .ref q1, .null, .null, .null])), (hd, .inr (0, [.int (nI P), .int (nI R), .ref hT, .ref d0, .ref d1, .ref d2, .ref d3, .ref d4, .int (nI P)])), (q1, .inl (cI, 15, .inl (fun _ => 0))), (q2, .inl (cI, 15, .inl (fun _ => 0)))] := hD
  refine es_putFL C hini hP hD hS 0 rfl rfl inlX1 tyX1_ok nmX1 (j := 4) (by decide) es_u5_3 rfl rfl (tyX1_ok 4 (by decide)) rfl rfl (Nat.le_of_ble_eq_true rfl) (ws1 := [(h0, .inr (1, [.null, .null, .null, .ref q1, .ref q2, .null, .null])), (hd, .inr (0, [.int (nI P), .int (nI R), .ref hT, .ref d0, .ref d1, .ref d2, .ref d3, .ref d4, .int (nI P)])), (q1, .inl (cI, 15, .inl (fun _ => 0))), (q2, .inl (cI, 15, .inl (fun _ => 0)))]) rfl dX1_init_17 (fun H locs hP hD hS => ?_)
  refine lv_aload_n hx hb dX1_init_20 rfl (lv_at hl 0 rfl) ?_
  refine lv_bipush (v := 15) hx hb dX1_init_21 (by decide) ?_
  refine es_newI C es_u1_16 hP hD hS 0 rfl 15 (rfl) (by decide) (c1 := 3) (s1 := 45) (by omega) (by omega) (by decide) (by decide) dX1_init_23 (fun q3 H hP hD hS => ?_)
  replace hP : va_P D vwCl [(h0, .inr (1, [.null, .null, .null, .ref q1, .ref q2, .null, .null])), (hd, .inr (0, [.int (nI P), .int (nI R), .ref hT, .ref d0, .ref d1, .ref d2, .ref d3, .ref d4, .int (nI P)])), (q1, .inl (cI, 15, .inl (fun _ => 0))), (q2, .inl (cI, 15, .inl (fun _ => 0))), (q3, .inl (cI, 15, .inl (fun _ => 0)))] H := hP
  replace hD : va_D A [(h0, .inr (1, [.null, .null, .null, .ref q1, .ref q2, .null, .null])), (hd, .inr (0, [.int (nI P), .int (nI R), .ref hT, .ref d0, .ref d1, .ref d2, .ref d3, .ref d4, .int (nI P)])), (q1, .inl (cI, 15, .inl (fun _ => 0))), (q2, .inl (cI, 15, .inl (fun _ => 0))), (q3, .inl (cI, 15, .inl (fun _ => 0)))] := hD
  refine es_putFL C hini hP hD hS 0 rfl rfl inlX1 tyX1_ok nmX1 (j := 5) (by decide) es_u5_4 rfl rfl (tyX1_ok 5 (by decide)) rfl rfl (Nat.le_of_ble_eq_true rfl) (ws1 := [(h0, .inr (1, [.null, .null, .null, .ref q1, .ref q2, .ref q3, .null])), (hd, .inr (0, [.int (nI P), .int (nI R), .ref hT, .ref d0, .ref d1, .ref d2, .ref d3, .ref d4, .int (nI P)])), (q1, .inl (cI, 15, .inl (fun _ => 0))), (q2, .inl (cI, 15, .inl (fun _ => 0))), (q3, .inl (cI, 15, .inl (fun _ => 0)))]) rfl dX1_init_25 (fun H locs hP hD hS => ?_)
  refine lv_aload_n hx hb dX1_init_28 rfl (lv_at hl 0 rfl) ?_
  refine lv_bipush (v := 15) hx hb dX1_init_29 (by decide) ?_
  refine es_newI C es_u1_16 hP hD hS 0 rfl 15 (rfl) (by decide) (c1 := 4) (s1 := 60) (by omega) (by omega) (by decide) (by decide) dX1_init_31 (fun q4 H hP hD hS => ?_)
  replace hP : va_P D vwCl [(h0, .inr (1, [.null, .null, .null, .ref q1, .ref q2, .ref q3, .null])), (hd, .inr (0, [.int (nI P), .int (nI R), .ref hT, .ref d0, .ref d1, .ref d2, .ref d3, .ref d4, .int (nI P)])), (q1, .inl (cI, 15, .inl (fun _ => 0))), (q2, .inl (cI, 15, .inl (fun _ => 0))), (q3, .inl (cI, 15, .inl (fun _ => 0))), (q4, .inl (cI, 15, .inl (fun _ => 0)))] H := hP
  replace hD : va_D A [(h0, .inr (1, [.null, .null, .null, .ref q1, .ref q2, .ref q3, .null])), (hd, .inr (0, [.int (nI P), .int (nI R), .ref hT, .ref d0, .ref d1, .ref d2, .ref d3, .ref d4, .int (nI P)])), (q1, .inl (cI, 15, .inl (fun _ => 0))), (q2, .inl (cI, 15, .inl (fun _ => 0))), (q3, .inl (cI, 15, .inl (fun _ => 0))), (q4, .inl (cI, 15, .inl (fun _ => 0)))] := hD
  refine es_putFL C hini hP hD hS 0 rfl rfl inlX1 tyX1_ok nmX1 (j := 6) (by decide) es_u5_5 rfl rfl (tyX1_ok 6 (by decide)) rfl rfl (Nat.le_of_ble_eq_true rfl) (ws1 := [(h0, .inr (1, [.null, .null, .null, .ref q1, .ref q2, .ref q3, .ref q4])), (hd, .inr (0, [.int (nI P), .int (nI R), .ref hT, .ref d0, .ref d1, .ref d2, .ref d3, .ref d4, .int (nI P)])), (q1, .inl (cI, 15, .inl (fun _ => 0))), (q2, .inl (cI, 15, .inl (fun _ => 0))), (q3, .inl (cI, 15, .inl (fun _ => 0))), (q4, .inl (cI, 15, .inl (fun _ => 0)))]) rfl dX1_init_33 (fun H locs hP hD hS => ?_)
  refine lv_aload_n hx hb dX1_init_36 rfl (lv_at hl 0 rfl) ?_
  refine lv_aload_n hx hb dX1_init_37 rfl (lv_at hl 1 rfl) ?_
  refine es_putFL C hini hP hD hS 0 rfl rfl inlX1 tyX1_ok nmX1 (j := 0) (by decide) es_u5_6 rfl rfl (tyX1_ok 0 (by decide)) rfl rfl (Nat.le_of_ble_eq_true rfl) (ws1 := [(h0, .inr (1, [.ref hd, .null, .null, .ref q1, .ref q2, .ref q3, .ref q4])), (hd, .inr (0, [.int (nI P), .int (nI R), .ref hT, .ref d0, .ref d1, .ref d2, .ref d3, .ref d4, .int (nI P)])), (q1, .inl (cI, 15, .inl (fun _ => 0))), (q2, .inl (cI, 15, .inl (fun _ => 0))), (q3, .inl (cI, 15, .inl (fun _ => 0))), (q4, .inl (cI, 15, .inl (fun _ => 0)))]) rfl dX1_init_38 (fun H locs hP hD hS => ?_)
  refine lv_aload_n hx hb dX1_init_41 rfl (lv_at hl 0 rfl) ?_
  refine lv_bipush (v := 15) hx hb dX1_init_42 (by decide) ?_
  refine lv_aload_n hx hb dX1_init_44 rfl (lv_at hl 1 rfl) ?_
  refine es_getL C hP 1 rfl rfl inlX0 (j := 1) (by decide) es_u5_7 rfl dX1_init_45 ?_
  refine lv_imul hx hb dX1_init_48 ?_
  refine es_newI C es_u1_16 hP hD hS 0 rfl (15 * R) ((pk_mul 15 R)) (by omega) (c1 := 5) (s1 := 300) (by omega) (by omega) (by decide) (by decide) dX1_init_49 (fun q5 H hP hD hS => ?_)
  replace hP : va_P D vwCl [(h0, .inr (1, [.ref hd, .null, .null, .ref q1, .ref q2, .ref q3, .ref q4])), (hd, .inr (0, [.int (nI P), .int (nI R), .ref hT, .ref d0, .ref d1, .ref d2, .ref d3, .ref d4, .int (nI P)])), (q1, .inl (cI, 15, .inl (fun _ => 0))), (q2, .inl (cI, 15, .inl (fun _ => 0))), (q3, .inl (cI, 15, .inl (fun _ => 0))), (q4, .inl (cI, 15, .inl (fun _ => 0))), (q5, .inl (cI, (15 * R), .inl (fun _ => 0)))] H := hP
  replace hD : va_D A [(h0, .inr (1, [.ref hd, .null, .null, .ref q1, .ref q2, .ref q3, .ref q4])), (hd, .inr (0, [.int (nI P), .int (nI R), .ref hT, .ref d0, .ref d1, .ref d2, .ref d3, .ref d4, .int (nI P)])), (q1, .inl (cI, 15, .inl (fun _ => 0))), (q2, .inl (cI, 15, .inl (fun _ => 0))), (q3, .inl (cI, 15, .inl (fun _ => 0))), (q4, .inl (cI, 15, .inl (fun _ => 0))), (q5, .inl (cI, (15 * R), .inl (fun _ => 0)))] := hD
  refine es_putFL C hini hP hD hS 0 rfl rfl inlX1 tyX1_ok nmX1 (j := 1) (by decide) es_u5_8 rfl rfl (tyX1_ok 1 (by decide)) rfl rfl (Nat.le_of_ble_eq_true rfl) (ws1 := [(h0, .inr (1, [.ref hd, .ref q5, .null, .ref q1, .ref q2, .ref q3, .ref q4])), (hd, .inr (0, [.int (nI P), .int (nI R), .ref hT, .ref d0, .ref d1, .ref d2, .ref d3, .ref d4, .int (nI P)])), (q1, .inl (cI, 15, .inl (fun _ => 0))), (q2, .inl (cI, 15, .inl (fun _ => 0))), (q3, .inl (cI, 15, .inl (fun _ => 0))), (q4, .inl (cI, 15, .inl (fun _ => 0))), (q5, .inl (cI, (15 * R), .inl (fun _ => 0)))]) rfl dX1_init_51 (fun H locs hP hD hS => ?_)
  refine lv_aload_n hx hb dX1_init_54 rfl (lv_at hl 0 rfl) ?_
  refine lv_bipush (v := 15) hx hb dX1_init_55 (by decide) ?_
  refine lv_aload_n hx hb dX1_init_57 rfl (lv_at hl 1 rfl) ?_
  refine es_getL C hP 1 rfl rfl inlX0 (j := 1) (by decide) es_u5_7 rfl dX1_init_58 ?_
  refine lv_imul hx hb dX1_init_61 ?_
  refine es_newI C es_u1_16 hP hD hS 0 rfl (15 * R) ((pk_mul 15 R)) (by omega) (c1 := 6) (s1 := 540) (by omega) (by omega) (by decide) (by decide) dX1_init_62 (fun q6 H hP hD hS => ?_)
  replace hP : va_P D vwCl [(h0, .inr (1, [.ref hd, .ref q5, .null, .ref q1, .ref q2, .ref q3, .ref q4])), (hd, .inr (0, [.int (nI P), .int (nI R), .ref hT, .ref d0, .ref d1, .ref d2, .ref d3, .ref d4, .int (nI P)])), (q1, .inl (cI, 15, .inl (fun _ => 0))), (q2, .inl (cI, 15, .inl (fun _ => 0))), (q3, .inl (cI, 15, .inl (fun _ => 0))), (q4, .inl (cI, 15, .inl (fun _ => 0))), (q5, .inl (cI, (15 * R), .inl (fun _ => 0))), (q6, .inl (cI, (15 * R), .inl (fun _ => 0)))] H := hP
  replace hD : va_D A [(h0, .inr (1, [.ref hd, .ref q5, .null, .ref q1, .ref q2, .ref q3, .ref q4])), (hd, .inr (0, [.int (nI P), .int (nI R), .ref hT, .ref d0, .ref d1, .ref d2, .ref d3, .ref d4, .int (nI P)])), (q1, .inl (cI, 15, .inl (fun _ => 0))), (q2, .inl (cI, 15, .inl (fun _ => 0))), (q3, .inl (cI, 15, .inl (fun _ => 0))), (q4, .inl (cI, 15, .inl (fun _ => 0))), (q5, .inl (cI, (15 * R), .inl (fun _ => 0))), (q6, .inl (cI, (15 * R), .inl (fun _ => 0)))] := hD
  refine es_putFL C hini hP hD hS 0 rfl rfl inlX1 tyX1_ok nmX1 (j := 2) (by decide) es_u5_9 rfl rfl (tyX1_ok 2 (by decide)) rfl rfl (Nat.le_of_ble_eq_true rfl) (ws1 := [(h0, .inr (1, [.ref hd, .ref q5, .ref q6, .ref q1, .ref q2, .ref q3, .ref q4])), (hd, .inr (0, [.int (nI P), .int (nI R), .ref hT, .ref d0, .ref d1, .ref d2, .ref d3, .ref d4, .int (nI P)])), (q1, .inl (cI, 15, .inl (fun _ => 0))), (q2, .inl (cI, 15, .inl (fun _ => 0))), (q3, .inl (cI, 15, .inl (fun _ => 0))), (q4, .inl (cI, 15, .inl (fun _ => 0))), (q5, .inl (cI, (15 * R), .inl (fun _ => 0))), (q6, .inl (cI, (15 * R), .inl (fun _ => 0)))]) rfl dX1_init_64 (fun H locs hP hD hS => ?_)
  refine W.widen (k := 6) (n := 540) (by decide) (by decide) ?_
  exact es_vretA hAe C hr hlk (fun k => ([q5, q6, q1, q2, q3, q4] : List Nat).getD k 0) trivial (hP.sub [0, 1, 6, 7, 2, 3, 4, 5] rfl) (hD.sub [0, 1, 6, 7, 2, 3, 4, 5] (by decide) rfl) hS dX1_init_67

set_option maxHeartbeats 4000000 in
set_option maxRecDepth 100000 in
theorem k_X3_init (l : Launch) (D : va_G) (cI cZ : ClassId) (sz : Nat) (h0 mm : Nat) (hm : 1 ≤ mm ∧ mm ≤ 224) : Met l yX3_init (Cond.code yX3_init cX3_init 3 none :: wsL_law) ({ frames := 1, cells := 5, slots := 1120, locals := 21 } : Room) (es_PreL [.ref h0, .int (nI mm)] D [(cI, .int), (cZ, .boolean)] [(h0, .inr (3, [.null, .null, .null, .null, .null, .int 0, .int 0]))] sz) (es_QL D (fun _ => True) (fun u => [(h0, .inr (3, [.ref (u 0), .ref (u 1), .ref (u 2), .ref (u 3), .ref (u 4), .int 0, .int 0])), ((u 0), .inl (cI, mm, .inl (fun _ => 0))), ((u 1), .inl (cI, mm, .inl (fun _ => 0))), ((u 2), .inl (cI, mm, .inl (fun _ => 0))), ((u 3), .inl (cI, mm, .inl (fun _ => 0))), ((u 4), .inl (cI, mm, .inl (fun _ => 0)))]) [(h0, .inr (3, [.null, .null, .null, .null, .null, .int 0, .int 0]))] sz) 5 1120 (va_A [(h0, .inr (3, [.null, .null, .null, .null, .null, .int 0, .int 0]))] sz) := by
  refine es_introL (l := l) (y := yX3_init) (cc := cX3_init) (maxL := 3) (ret := none) (D := D) (tys := [(cI, .int), (cZ, .boolean)]) (ws := [(h0, .inr (3, [.null, .null, .null, .null, .null, .int 0, .int 0]))]) (sz := sz) (mc := 5) (ms := 1120) (av := [.ref h0, .int (nI mm)]) (Qc := es_QL D (fun _ => True) (fun u => [(h0, .inr (3, [.ref (u 0), .ref (u 1), .ref (u 2), .ref (u 3), .ref (u 4), .int 0, .int 0])), ((u 0), .inl (cI, mm, .inl (fun _ => 0))), ((u 1), .inl (cI, mm, .inl (fun _ => 0))), ((u 2), .inl (cI, mm, .inl (fun _ => 0))), ((u 3), .inl (cI, mm, .inl (fun _ => 0))), ((u 4), .inl (cI, mm, .inl (fun _ => 0)))]) [(h0, .inr (3, [.null, .null, .null, .null, .null, .int 0, .int 0]))]) (by decide) (Nat.le_of_ble_eq_true rfl) ?_
  intro p e s m below meth c C hini hr hlk hP hD ls hl
  have hx := C.1
  have hb := C.2.1
  have hown := C.2.2.2.1
  have hts := C.2.2.2.2.1
  generalize hAe : va_A [(h0, .inr (3, [.null, .null, .null, .null, .null, .int 0, .int 0]))] s.heap.size = A at C hD ⊢
  have hS : va_S A s.heap s.heap [] := va_S.rf
  replace hl : lv_has ls 3 [(0, .ref h0), (1, .int (nI mm))] := hl
  refine lv_aload_n hx hb dX3_init_0 rfl (lv_at hl 0 rfl) ?_
  refine es_oinit C es_u5_13 es_u1_14 es_u1_15 hl.1 dX3_init_1 (by decide) (Nat.le_of_ble_eq_true rfl) ?_
  refine lv_iconst (v := 1) hx hb dX3_init_4 (by decide) ?_
  refine lv_iload_n hx hb dX3_init_5 rfl (lv_at hl 1 rfl) ?_
  refine va_mmax hx hb (C.2.2.1.trans hl.1.symm) hown (hts _ es_u5_14) (hts _ es_u2_0) (hts _ es_u1_21) (hts _ es_u2_1) (by decide) (Nat.le_of_ble_eq_true rfl) (by show 0 ≤ 5; decide) (by show 0 ≤ 1120; decide) dX3_init_6 ?_
  refine lv_topi (fun v1 ev1 => ?_)
  replace ev1 : v1 = nI mm := ev1.trans (es_max1 hm.1 (by omega))
  subst ev1
  refine lv_istore_n (lv' := [(2, .int (nI mm)), (0, .ref h0), (1, .int (nI mm))]) hx hb dX3_init_9 rfl hl (by decide) rfl (fun ls hl => ?_)
  refine lv_aload_n hx hb dX3_init_10 rfl (lv_at hl 1 rfl) ?_
  refine lv_iload_n hx hb dX3_init_11 rfl (lv_at hl 0 rfl) ?_
  refine es_newI C es_u1_16 hP hD hS 0 rfl mm (rfl) (by omega) (c1 := 1) (s1 := 224) (by omega) (by omega) (by decide) (by decide) dX3_init_12 (fun q2 H hP hD hS => ?_)
  replace hP : va_P D vwCl [(h0, .inr (3, [.null, .null, .null, .null, .null, .int 0, .int 0])), (q2, .inl (cI, mm, .inl (fun _ => 0)))] H := hP
  replace hD : va_D A [(h0, .inr (3, [.null, .null, .null, .null, .null, .int 0, .int 0])), (q2, .inl (cI, mm, .inl (fun _ => 0)))] := hD
  refine es_putFL C hini hP hD hS 0 rfl rfl inlX3 tyX3_ok nmX3 (j := 0) (by decide) es_u5_15 rfl rfl (tyX3_ok 0 (by decide)) rfl rfl (Nat.le_of_ble_eq_true rfl) (ws1 := [(h0, .inr (3, [.ref q2, .null, .null, .null, .null, .int 0, .int 0])), (q2, .inl (cI, mm, .inl (fun _ => 0)))]) rfl dX3_init_14 (fun H locs hP hD hS => ?_)
  refine lv_aload_n hx hb dX3_init_17 rfl (lv_at hl 1 rfl) ?_
  refine lv_iload_n hx hb dX3_init_18 rfl (lv_at hl 0 rfl) ?_
  refine es_newI C es_u1_16 hP hD hS 0 rfl mm (rfl) (by omega) (c1 := 2) (s1 := 448) (by omega) (by omega) (by decide) (by decide) dX3_init_19 (fun q3 H hP hD hS => ?_)
  replace hP : va_P D vwCl [(h0, .inr (3, [.ref q2, .null, .null, .null, .null, .int 0, .int 0])), (q2, .inl (cI, mm, .inl (fun _ => 0))), (q3, .inl (cI, mm, .inl (fun _ => 0)))] H := hP
  replace hD : va_D A [(h0, .inr (3, [.ref q2, .null, .null, .null, .null, .int 0, .int 0])), (q2, .inl (cI, mm, .inl (fun _ => 0))), (q3, .inl (cI, mm, .inl (fun _ => 0)))] := hD
  refine es_putFL C hini hP hD hS 0 rfl rfl inlX3 tyX3_ok nmX3 (j := 1) (by decide) es_u5_16 rfl rfl (tyX3_ok 1 (by decide)) rfl rfl (Nat.le_of_ble_eq_true rfl) (ws1 := [(h0, .inr (3, [.ref q2, .ref q3, .null, .null, .null, .int 0, .int 0])), (q2, .inl (cI, mm, .inl (fun _ => 0))), (q3, .inl (cI, mm, .inl (fun _ => 0)))]) rfl dX3_init_21 (fun H locs hP hD hS => ?_)
  refine lv_aload_n hx hb dX3_init_24 rfl (lv_at hl 1 rfl) ?_
  refine lv_iload_n hx hb dX3_init_25 rfl (lv_at hl 0 rfl) ?_
  refine es_newI C es_u1_16 hP hD hS 0 rfl mm (rfl) (by omega) (c1 := 3) (s1 := 672) (by omega) (by omega) (by decide) (by decide) dX3_init_26 (fun q4 H hP hD hS => ?_)
  replace hP : va_P D vwCl [(h0, .inr (3, [.ref q2, .ref q3, .null, .null, .null, .int 0, .int 0])), (q2, .inl (cI, mm, .inl (fun _ => 0))), (q3, .inl (cI, mm, .inl (fun _ => 0))), (q4, .inl (cI, mm, .inl (fun _ => 0)))] H := hP
  replace hD : va_D A [(h0, .inr (3, [.ref q2, .ref q3, .null, .null, .null, .int 0, .int 0])), (q2, .inl (cI, mm, .inl (fun _ => 0))), (q3, .inl (cI, mm, .inl (fun _ => 0))), (q4, .inl (cI, mm, .inl (fun _ => 0)))] := hD
  refine es_putFL C hini hP hD hS 0 rfl rfl inlX3 tyX3_ok nmX3 (j := 2) (by decide) es_u5_17 rfl rfl (tyX3_ok 2 (by decide)) rfl rfl (Nat.le_of_ble_eq_true rfl) (ws1 := [(h0, .inr (3, [.ref q2, .ref q3, .ref q4, .null, .null, .int 0, .int 0])), (q2, .inl (cI, mm, .inl (fun _ => 0))), (q3, .inl (cI, mm, .inl (fun _ => 0))), (q4, .inl (cI, mm, .inl (fun _ => 0)))]) rfl dX3_init_28 (fun H locs hP hD hS => ?_)
  refine lv_aload_n hx hb dX3_init_31 rfl (lv_at hl 1 rfl) ?_
  refine lv_iload_n hx hb dX3_init_32 rfl (lv_at hl 0 rfl) ?_
  refine es_newI C es_u1_16 hP hD hS 0 rfl mm (rfl) (by omega) (c1 := 4) (s1 := 896) (by omega) (by omega) (by decide) (by decide) dX3_init_33 (fun q5 H hP hD hS => ?_)
  replace hP : va_P D vwCl [(h0, .inr (3, [.ref q2, .ref q3, .ref q4, .null, .null, .int 0, .int 0])), (q2, .inl (cI, mm, .inl (fun _ => 0))), (q3, .inl (cI, mm, .inl (fun _ => 0))), (q4, .inl (cI, mm, .inl (fun _ => 0))), (q5, .inl (cI, mm, .inl (fun _ => 0)))] H := hP
  replace hD : va_D A [(h0, .inr (3, [.ref q2, .ref q3, .ref q4, .null, .null, .int 0, .int 0])), (q2, .inl (cI, mm, .inl (fun _ => 0))), (q3, .inl (cI, mm, .inl (fun _ => 0))), (q4, .inl (cI, mm, .inl (fun _ => 0))), (q5, .inl (cI, mm, .inl (fun _ => 0)))] := hD
  refine es_putFL C hini hP hD hS 0 rfl rfl inlX3 tyX3_ok nmX3 (j := 3) (by decide) es_u5_18 rfl rfl (tyX3_ok 3 (by decide)) rfl rfl (Nat.le_of_ble_eq_true rfl) (ws1 := [(h0, .inr (3, [.ref q2, .ref q3, .ref q4, .ref q5, .null, .int 0, .int 0])), (q2, .inl (cI, mm, .inl (fun _ => 0))), (q3, .inl (cI, mm, .inl (fun _ => 0))), (q4, .inl (cI, mm, .inl (fun _ => 0))), (q5, .inl (cI, mm, .inl (fun _ => 0)))]) rfl dX3_init_35 (fun H locs hP hD hS => ?_)
  refine lv_aload_n hx hb dX3_init_38 rfl (lv_at hl 1 rfl) ?_
  refine lv_iload_n hx hb dX3_init_39 rfl (lv_at hl 0 rfl) ?_
  refine es_newI C es_u1_16 hP hD hS 0 rfl mm (rfl) (by omega) (c1 := 5) (s1 := 1120) (by omega) (by omega) (by decide) (by decide) dX3_init_40 (fun q6 H hP hD hS => ?_)
  replace hP : va_P D vwCl [(h0, .inr (3, [.ref q2, .ref q3, .ref q4, .ref q5, .null, .int 0, .int 0])), (q2, .inl (cI, mm, .inl (fun _ => 0))), (q3, .inl (cI, mm, .inl (fun _ => 0))), (q4, .inl (cI, mm, .inl (fun _ => 0))), (q5, .inl (cI, mm, .inl (fun _ => 0))), (q6, .inl (cI, mm, .inl (fun _ => 0)))] H := hP
  replace hD : va_D A [(h0, .inr (3, [.ref q2, .ref q3, .ref q4, .ref q5, .null, .int 0, .int 0])), (q2, .inl (cI, mm, .inl (fun _ => 0))), (q3, .inl (cI, mm, .inl (fun _ => 0))), (q4, .inl (cI, mm, .inl (fun _ => 0))), (q5, .inl (cI, mm, .inl (fun _ => 0))), (q6, .inl (cI, mm, .inl (fun _ => 0)))] := hD
  refine es_putFL C hini hP hD hS 0 rfl rfl inlX3 tyX3_ok nmX3 (j := 4) (by decide) es_u5_19 rfl rfl (tyX3_ok 4 (by decide)) rfl rfl (Nat.le_of_ble_eq_true rfl) (ws1 := [(h0, .inr (3, [.ref q2, .ref q3, .ref q4, .ref q5, .ref q6, .int 0, .int 0])), (q2, .inl (cI, mm, .inl (fun _ => 0))), (q3, .inl (cI, mm, .inl (fun _ => 0))), (q4, .inl (cI, mm, .inl (fun _ => 0))), (q5, .inl (cI, mm, .inl (fun _ => 0))), (q6, .inl (cI, mm, .inl (fun _ => 0)))]) rfl dX3_init_42 (fun H locs hP hD hS => ?_)
  refine W.widen (k := 5) (n := 1120) (by decide) (by decide) ?_
  exact es_vretA hAe C hr hlk (fun k => ([q2, q3, q4, q5, q6] : List Nat).getD k 0) trivial (hP.sub [0, 1, 2, 3, 4, 5] rfl) (hD.sub [0, 1, 2, 3, 4, 5] (by decide) rfl) hS dX3_init_45

set_option maxHeartbeats 4000000 in
set_option maxRecDepth 100000 in
theorem k_X2_init (l : Launch) (D : va_G) (cI cZ : ClassId) (sz : Nat) (h0 hd ho hT P R d0 d1 d2 d3 d4 : Nat) (hPR : 1 ≤ P ∧ P ≤ 512 ∧ 1 ≤ R ∧ R ≤ 16) : Met l yX2_init (Cond.code yX2_init cX2_init 3 none :: wsL_law) ({ frames := 1, cells := 2, slots := 16384, locals := 21 } : Room) (es_PreL [.ref h0, .ref hd, .ref ho] D [(cI, .int), (cZ, .boolean)] [(h0, .inr (2, [.null, .null, .null, .null, .int 0, .int 0, .int 0, .int 0, .int 0, .int 0])), (hd, .inr (0, [.int (nI P), .int (nI R), .ref hT, .ref d0, .ref d1, .ref d2, .ref d3, .ref d4, .int (nI P)]))] sz) (es_QL D (fun _ => True) (fun u => [(h0, .inr (2, [.ref hd, .ref ho, .ref (u 0), .ref (u 1), .int 0, .int 0, .int 0, .int 0, .int 0, .int 0])), (hd, .inr (0, [.int (nI P), .int (nI R), .ref hT, .ref d0, .ref d1, .ref d2, .ref d3, .ref d4, .int (nI P)])), ((u 0), .inl (cI, (P * R), .inl (fun _ => 0))), ((u 1), .inl (cI, (P * R), .inl (fun _ => 0)))]) [(h0, .inr (2, [.null, .null, .null, .null, .int 0, .int 0, .int 0, .int 0, .int 0, .int 0])), (hd, .inr (0, [.int (nI P), .int (nI R), .ref hT, .ref d0, .ref d1, .ref d2, .ref d3, .ref d4, .int (nI P)]))] sz) 2 16384 (va_A [(h0, .inr (2, [.null, .null, .null, .null, .int 0, .int 0, .int 0, .int 0, .int 0, .int 0])), (hd, .inr (0, [.int (nI P), .int (nI R), .ref hT, .ref d0, .ref d1, .ref d2, .ref d3, .ref d4, .int (nI P)]))] sz) := by
  refine es_introL (l := l) (y := yX2_init) (cc := cX2_init) (maxL := 3) (ret := none) (D := D) (tys := [(cI, .int), (cZ, .boolean)]) (ws := [(h0, .inr (2, [.null, .null, .null, .null, .int 0, .int 0, .int 0, .int 0, .int 0, .int 0])), (hd, .inr (0, [.int (nI P), .int (nI R), .ref hT, .ref d0, .ref d1, .ref d2, .ref d3, .ref d4, .int (nI P)]))]) (sz := sz) (mc := 2) (ms := 16384) (av := [.ref h0, .ref hd, .ref ho]) (Qc := es_QL D (fun _ => True) (fun u => [(h0, .inr (2, [.ref hd, .ref ho, .ref (u 0), .ref (u 1), .int 0, .int 0, .int 0, .int 0, .int 0, .int 0])), (hd, .inr (0, [.int (nI P), .int (nI R), .ref hT, .ref d0, .ref d1, .ref d2, .ref d3, .ref d4, .int (nI P)])), ((u 0), .inl (cI, (P * R), .inl (fun _ => 0))), ((u 1), .inl (cI, (P * R), .inl (fun _ => 0)))]) [(h0, .inr (2, [.null, .null, .null, .null, .int 0, .int 0, .int 0, .int 0, .int 0, .int 0])), (hd, .inr (0, [.int (nI P), .int (nI R), .ref hT, .ref d0, .ref d1, .ref d2, .ref d3, .ref d4, .int (nI P)]))]) (by decide) (Nat.le_of_ble_eq_true rfl) ?_
  intro p e s m below meth c C hini hr hlk hP hD ls hl
  have hx := C.1
  have hb := C.2.1
  have hown := C.2.2.2.1
  have hts := C.2.2.2.2.1
  generalize hAe : va_A [(h0, .inr (2, [.null, .null, .null, .null, .int 0, .int 0, .int 0, .int 0, .int 0, .int 0])), (hd, .inr (0, [.int (nI P), .int (nI R), .ref hT, .ref d0, .ref d1, .ref d2, .ref d3, .ref d4, .int (nI P)]))] s.heap.size = A at C hD ⊢
  have hS : va_S A s.heap s.heap [] := va_S.rf
  replace hl : lv_has ls 3 [(0, .ref h0), (1, .ref hd), (2, .ref ho)] := hl
  refine lv_aload_n hx hb dX2_init_0 rfl (lv_at hl 0 rfl) ?_
  refine es_oinit C es_u5_23 es_u1_14 es_u1_15 hl.1 dX2_init_1 (by decide) (Nat.le_of_ble_eq_true rfl) ?_
  refine lv_aload_n hx hb dX2_init_4 rfl (lv_at hl 0 rfl) ?_
  refine lv_aload_n hx hb dX2_init_5 rfl (lv_at hl 1 rfl) ?_
  refine es_putFL C hini hP hD hS 0 rfl rfl inlX2 tyX2_ok nmX2 (j := 0) (by decide) es_u6_0 rfl rfl (tyX2_ok 0 (by decide)) rfl rfl (Nat.le_of_ble_eq_true rfl) (ws1 := [(h0, .inr (2, [.ref hd, .null, .null, .null, .int 0, .int 0, .int 0, .int 0, .int 0, .int 0])), (hd, .inr (0, [.int (nI P), .int (nI R), .ref hT, .ref d0, .ref d1, .ref d2, .ref d3, .ref d4, .int (nI P)]))]) rfl dX2_init_6 (fun H locs hP hD hS => ?_)
  refine lv_aload_n hx hb dX2_init_9 rfl (lv_at hl 0 rfl) ?_
  refine lv_aload_n hx hb dX2_init_10 rfl (lv_at hl 2 rfl) ?_
  refine es_putFL C hini hP hD hS 0 rfl rfl inlX2 tyX2_ok nmX2 (j := 1) (by decide) es_u6_1 rfl rfl (tyX2_ok 1 (by decide)) rfl rfl (Nat.le_of_ble_eq_true rfl) (ws1 := [(h0, .inr (2, [.ref hd, .ref ho, .null, .null, .int 0, .int 0, .int 0, .int 0, .int 0, .int 0])), (hd, .inr (0, [.int (nI P), .int (nI R), .ref hT, .ref d0, .ref d1, .ref d2, .ref d3, .ref d4, .int (nI P)]))]) rfl dX2_init_11 (fun H locs hP hD hS => ?_)
  refine lv_aload_n hx hb dX2_init_14 rfl (lv_at hl 0 rfl) ?_
  refine lv_aload_n hx hb dX2_init_15 rfl (lv_at hl 1 rfl) ?_
  refine es_getL C hP 1 rfl rfl inlX0 (j := 0) (by decide) es_u6_2 rfl dX2_init_16 ?_
  refine lv_aload_n hx hb dX2_init_19 rfl (lv_at hl 1 rfl) ?_
  refine es_getL C hP 1 rfl rfl inlX0 (j := 1) (by decide) es_u6_3 rfl dX2_init_20 ?_
  refine lv_imul hx hb dX2_init_23 ?_
  refine es_newI C es_u1_16 hP hD hS 0 rfl (P * R) (pk_mul P R) (Nat.le_trans (es_PR hPR) (by decide)) (c1 := 1) (s1 := 8192) (by omega) (by have := es_PR hPR; omega) (by decide) (by decide) dX2_init_24 (fun q1 H hP hD hS => ?_)
  replace hP : va_P D vwCl [(h0, .inr (2, [.ref hd, .ref ho, .null, .null, .int 0, .int 0, .int 0, .int 0, .int 0, .int 0])), (hd, .inr (0, [.int (nI P), .int (nI R), .ref hT, .ref d0, .ref d1, .ref d2, .ref d3, .ref d4, .int (nI P)])), (q1, .inl (cI, (P * R), .inl (fun _ => 0)))] H := hP
  replace hD : va_D A [(h0, .inr (2, [.ref hd, .ref ho, .null, .null, .int 0, .int 0, .int 0, .int 0, .int 0, .int 0])), (hd, .inr (0, [.int (nI P), .int (nI R), .ref hT, .ref d0, .ref d1, .ref d2, .ref d3, .ref d4, .int (nI P)])), (q1, .inl (cI, (P * R), .inl (fun _ => 0)))] := hD
  refine es_putFL C hini hP hD hS 0 rfl rfl inlX2 tyX2_ok nmX2 (j := 2) (by decide) es_u6_4 rfl rfl (tyX2_ok 2 (by decide)) rfl rfl (Nat.le_of_ble_eq_true rfl) (ws1 := [(h0, .inr (2, [.ref hd, .ref ho, .ref q1, .null, .int 0, .int 0, .int 0, .int 0, .int 0, .int 0])), (hd, .inr (0, [.int (nI P), .int (nI R), .ref hT, .ref d0, .ref d1, .ref d2, .ref d3, .ref d4, .int (nI P)])), (q1, .inl (cI, (P * R), .inl (fun _ => 0)))]) rfl dX2_init_26 (fun H locs hP hD hS => ?_)
  refine lv_aload_n hx hb dX2_init_29 rfl (lv_at hl 0 rfl) ?_
  refine lv_aload_n hx hb dX2_init_30 rfl (lv_at hl 1 rfl) ?_
  refine es_getL C hP 1 rfl rfl inlX0 (j := 0) (by decide) es_u6_2 rfl dX2_init_31 ?_
  refine lv_aload_n hx hb dX2_init_34 rfl (lv_at hl 1 rfl) ?_
  refine es_getL C hP 1 rfl rfl inlX0 (j := 1) (by decide) es_u6_3 rfl dX2_init_35 ?_
  refine lv_imul hx hb dX2_init_38 ?_
  refine es_newI C es_u1_16 hP hD hS 0 rfl (P * R) (pk_mul P R) (Nat.le_trans (es_PR hPR) (by decide)) (c1 := 2) (s1 := 16384) (by omega) (by have := es_PR hPR; omega) (by decide) (by decide) dX2_init_39 (fun q2 H hP hD hS => ?_)
  replace hP : va_P D vwCl [(h0, .inr (2, [.ref hd, .ref ho, .ref q1, .null, .int 0, .int 0, .int 0, .int 0, .int 0, .int 0])), (hd, .inr (0, [.int (nI P), .int (nI R), .ref hT, .ref d0, .ref d1, .ref d2, .ref d3, .ref d4, .int (nI P)])), (q1, .inl (cI, (P * R), .inl (fun _ => 0))), (q2, .inl (cI, (P * R), .inl (fun _ => 0)))] H := hP
  replace hD : va_D A [(h0, .inr (2, [.ref hd, .ref ho, .ref q1, .null, .int 0, .int 0, .int 0, .int 0, .int 0, .int 0])), (hd, .inr (0, [.int (nI P), .int (nI R), .ref hT, .ref d0, .ref d1, .ref d2, .ref d3, .ref d4, .int (nI P)])), (q1, .inl (cI, (P * R), .inl (fun _ => 0))), (q2, .inl (cI, (P * R), .inl (fun _ => 0)))] := hD
  refine es_putFL C hini hP hD hS 0 rfl rfl inlX2 tyX2_ok nmX2 (j := 3) (by decide) es_u6_5 rfl rfl (tyX2_ok 3 (by decide)) rfl rfl (Nat.le_of_ble_eq_true rfl) (ws1 := [(h0, .inr (2, [.ref hd, .ref ho, .ref q1, .ref q2, .int 0, .int 0, .int 0, .int 0, .int 0, .int 0])), (hd, .inr (0, [.int (nI P), .int (nI R), .ref hT, .ref d0, .ref d1, .ref d2, .ref d3, .ref d4, .int (nI P)])), (q1, .inl (cI, (P * R), .inl (fun _ => 0))), (q2, .inl (cI, (P * R), .inl (fun _ => 0)))]) rfl dX2_init_41 (fun H locs hP hD hS => ?_)
  refine W.widen (k := 2) (n := 16384) (by decide) (by decide) ?_
  exact es_vretA hAe C hr hlk (fun k => ([q1, q2] : List Nat).getD k 0) trivial (hP.sub [0, 1, 2, 3] rfl) (hD.sub [0, 1, 2, 3] (by decide) rfl) hS dX2_init_44

set_option maxHeartbeats 4000000 in
set_option maxRecDepth 100000 in
theorem k_X5_init (l : Launch) (D : va_G) (cI cZ : ClassId) (sz : Nat) (h0 hd ho hT P R d0 d1 d2 d3 d4 : Nat) (hPR : 1 ≤ P ∧ P ≤ 512 ∧ 1 ≤ R ∧ R ≤ 16) : Met l yX5_init (Cond.code yX5_init cX5_init 3 none :: wsL_law) ({ frames := 2, cells := 15, slots := 2700, locals := 43 } : Room) (es_PreL [.ref h0, .ref hd, .ref ho] D [(cI, .int), (cZ, .boolean)] [(h0, .inr (5, [.int 0, .int 0, .null, .null, .null, .null, .null, .null, .int 0, .int 0, .int 0, .int 0])), (hd, .inr (0, [.int (nI P), .int (nI R), .ref hT, .ref d0, .ref d1, .ref d2, .ref d3, .ref d4, .int (nI P)]))] sz) (es_QL D (fun _ => True) (fun u => [(h0, .inr (5, [.int 0, .int 0, .ref hd, .ref ho, .ref (u 0), .ref (u 1), .ref (u 2), .ref (u 3), .int 0, .int 0, .int 0, .int 0])), (hd, .inr (0, [.int (nI P), .int (nI R), .ref hT, .ref d0, .ref d1, .ref d2, .ref d3, .ref d4, .int (nI P)])), ((u 0), .inr (1, [.ref hd, .ref (u 4), .ref (u 5), .ref (u 6), .ref (u 7), .ref (u 8), .ref (u 9)])), ((u 1), .inr (3, [.ref (u 10), .ref (u 11), .ref (u 12), .ref (u 13), .ref (u 14), .int 0, .int 0])), ((u 2), .inl (cI, P, .inl (fun _ => 0))), ((u 3), .inl (cI, P, .inl (fun _ => 0))), ((u 4), .inl (cI, (15 * R), .inl (fun _ => 0))), ((u 5), .inl (cI, (15 * R), .inl (fun _ => 0))), ((u 6), .inl (cI, 15, .inl (fun _ => 0))), ((u 7), .inl (cI, 15, .inl (fun _ => 0))), ((u 8), .inl (cI, 15, .inl (fun _ => 0))), ((u 9), .inl (cI, 15, .inl (fun _ => 0))), ((u 10), .inl (cI, (es_T R), .inl (fun _ => 0))), ((u 11), .inl (cI, (es_T R), .inl (fun _ => 0))), ((u 12), .inl (cI, (es_T R), .inl (fun _ => 0))), ((u 13), .inl (cI, (es_T R), .inl (fun _ => 0))), ((u 14), .inl (cI, (es_T R), .inl (fun _ => 0)))]) [(h0, .inr (5, [.int 0, .int 0, .null, .null, .null, .null, .null, .null, .int 0, .int 0, .int 0, .int 0])), (hd, .inr (0, [.int (nI P), .int (nI R), .ref hT, .ref d0, .ref d1, .ref d2, .ref d3, .ref d4, .int (nI P)]))] sz) 15 2700 (va_A [(h0, .inr (5, [.int 0, .int 0, .null, .null, .null, .null, .null, .null, .int 0, .int 0, .int 0, .int 0])), (hd, .inr (0, [.int (nI P), .int (nI R), .ref hT, .ref d0, .ref d1, .ref d2, .ref d3, .ref d4, .int (nI P)]))] sz) := by
  refine es_introL (l := l) (y := yX5_init) (cc := cX5_init) (maxL := 3) (ret := none) (D := D) (tys := [(cI, .int), (cZ, .boolean)]) (ws := [(h0, .inr (5, [.int 0, .int 0, .null, .null, .null, .null, .null, .null, .int 0, .int 0, .int 0, .int 0])), (hd, .inr (0, [.int (nI P), .int (nI R), .ref hT, .ref d0, .ref d1, .ref d2, .ref d3, .ref d4, .int (nI P)]))]) (sz := sz) (mc := 15) (ms := 2700) (av := [.ref h0, .ref hd, .ref ho]) (Qc := es_QL D (fun _ => True) (fun u => [(h0, .inr (5, [.int 0, .int 0, .ref hd, .ref ho, .ref (u 0), .ref (u 1), .ref (u 2), .ref (u 3), .int 0, .int 0, .int 0, .int 0])), (hd, .inr (0, [.int (nI P), .int (nI R), .ref hT, .ref d0, .ref d1, .ref d2, .ref d3, .ref d4, .int (nI P)])), ((u 0), .inr (1, [.ref hd, .ref (u 4), .ref (u 5), .ref (u 6), .ref (u 7), .ref (u 8), .ref (u 9)])), ((u 1), .inr (3, [.ref (u 10), .ref (u 11), .ref (u 12), .ref (u 13), .ref (u 14), .int 0, .int 0])), ((u 2), .inl (cI, P, .inl (fun _ => 0))), ((u 3), .inl (cI, P, .inl (fun _ => 0))), ((u 4), .inl (cI, (15 * R), .inl (fun _ => 0))), ((u 5), .inl (cI, (15 * R), .inl (fun _ => 0))), ((u 6), .inl (cI, 15, .inl (fun _ => 0))), ((u 7), .inl (cI, 15, .inl (fun _ => 0))), ((u 8), .inl (cI, 15, .inl (fun _ => 0))), ((u 9), .inl (cI, 15, .inl (fun _ => 0))), ((u 10), .inl (cI, (es_T R), .inl (fun _ => 0))), ((u 11), .inl (cI, (es_T R), .inl (fun _ => 0))), ((u 12), .inl (cI, (es_T R), .inl (fun _ => 0))), ((u 13), .inl (cI, (es_T R), .inl (fun _ => 0))), ((u 14), .inl (cI, (es_T R), .inl (fun _ => 0)))]) [(h0, .inr (5, [.int 0, .int 0, .null, .null, .null, .null, .null, .null, .int 0, .int 0, .int 0, .int 0])), (hd, .inr (0, [.int (nI P), .int (nI R), .ref hT, .ref d0, .ref d1, .ref d2, .ref d3, .ref d4, .int (nI P)]))]) (by decide) (Nat.le_of_ble_eq_true rfl) ?_
  intro p e s m below meth c C hini hr hlk hP hD ls hl
  have hx := C.1
  have hb := C.2.1
  have hown := C.2.2.2.1
  have hts := C.2.2.2.2.1
  generalize hAe : va_A [(h0, .inr (5, [.int 0, .int 0, .null, .null, .null, .null, .null, .null, .int 0, .int 0, .int 0, .int 0])), (hd, .inr (0, [.int (nI P), .int (nI R), .ref hT, .ref d0, .ref d1, .ref d2, .ref d3, .ref d4, .int (nI P)]))] s.heap.size = A at C hD ⊢
  have hS : va_S A s.heap s.heap [] := va_S.rf
  replace hl : lv_has ls 3 [(0, .ref h0), (1, .ref hd), (2, .ref ho)] := hl
  refine lv_aload_n hx hb dX5_init_0 rfl (lv_at hl 0 rfl) ?_
  refine es_oinit C es_u4_6 es_u1_14 es_u1_15 hl.1 dX5_init_1 (by decide) (Nat.le_of_ble_eq_true rfl) ?_
  refine lv_aload_n hx hb dX5_init_4 rfl (lv_at hl 0 rfl) ?_
  refine lv_aload_n hx hb dX5_init_5 rfl (lv_at hl 1 rfl) ?_
  refine es_putFL C hini hP hD hS 0 rfl rfl inlX5 tyX5_ok nmX5 (j := 2) (by decide) es_u4_7 rfl rfl (tyX5_ok 2 (by decide)) rfl rfl (Nat.le_of_ble_eq_true rfl) (ws1 := [(h0, .inr (5, [.int 0, .int 0, .ref hd, .null, .null, .null, .null, .null, .int 0, .int 0, .int 0, .int 0])), (hd, .inr (0, [.int (nI P), .int (nI R), .ref hT, .ref d0, .ref d1, .ref d2, .ref d3, .ref d4, .int (nI P)]))]) rfl dX5_init_6 (fun H locs hP hD hS => ?_)
  refine lv_aload_n hx hb dX5_init_9 rfl (lv_at hl 0 rfl) ?_
  refine lv_aload_n hx hb dX5_init_10 rfl (lv_at hl 2 rfl) ?_
  refine es_putFL C hini hP hD hS 0 rfl rfl inlX5 tyX5_ok nmX5 (j := 3) (by decide) es_u4_8 rfl rfl (tyX5_ok 3 (by decide)) rfl rfl (Nat.le_of_ble_eq_true rfl) (ws1 := [(h0, .inr (5, [.int 0, .int 0, .ref hd, .ref ho, .null, .null, .null, .null, .int 0, .int 0, .int 0, .int 0])), (hd, .inr (0, [.int (nI P), .int (nI R), .ref hT, .ref d0, .ref d1, .ref d2, .ref d3, .ref d4, .int (nI P)]))]) rfl dX5_init_11 (fun H locs hP hD hS => ?_)
  refine lv_aload_n hx hb dX5_init_14 rfl (lv_at hl 0 rfl) ?_
  refine es_newO C inlX1 tyX1_ok es_u4_9 es_u4_10 es_u4_11 hP hD hS (ci := 1) rfl [.null, .null, .null, .null, .null, .null, .null] (fun j hj => by rcases (show j = 0 ∨ j = 1 ∨ j = 2 ∨ j = 3 ∨ j = 4 ∨ j = 5 ∨ j = 6 by omega) with rfl | rfl | rfl | rfl | rfl | rfl | rfl <;> rfl) (c1 := 1) (s1 := 7) (by omega) (by omega) (by decide) (by decide) dX5_init_15 (fun q1 H hP hD hS => ?_)
  replace hP : va_P D vwCl [(h0, .inr (5, [.int 0, .int 0, .ref hd, .ref ho, .null, .null, .null, .null, .int 0, .int 0, .int 0, .int 0])), (hd, .inr (0, [.int (nI P), .int (nI R), .ref hT, .ref d0, .ref d1, .ref d2, .ref d3, .ref d4, .int (nI P)])), (q1, .inr (1, [.null, .null, .null, .null, .null, .null, .null]))] H := hP
  replace hD : va_D A [(h0, .inr (5, [.int 0, .int 0, .ref hd, .ref ho, .null, .null, .null, .null, .int 0, .int 0, .int 0, .int 0])), (hd, .inr (0, [.int (nI P), .int (nI R), .ref hT, .ref d0, .ref d1, .ref d2, .ref d3, .ref d4, .int (nI P)])), (q1, .inr (1, [.null, .null, .null, .null, .null, .null, .null]))] := hD
  refine lv_dup hx hb dX5_init_18 rfl ?_
  refine lv_aload_n hx hb dX5_init_19 rfl (lv_at hl 1 rfl) ?_
  refine es_callI C (k_X1_init l D cI cZ _ q1 hd hT P R d0 d1 d2 d3 d4 hPR) es_u4_22 es_kX1_init ⟨rfl, rfl, by decide, by decide⟩ hP hD hS [2, 1] [0] (wc := [(q1, .inr (1, [.null, .null, .null, .null, .null, .null, .null])), (hd, .inr (0, [.int (nI P), .int (nI R), .ref hT, .ref d0, .ref d1, .ref d2, .ref d3, .ref d4, .int (nI P)]))]) (wr := [(h0, .inr (5, [.int 0, .int 0, .ref hd, .ref ho, .null, .null, .null, .null, .int 0, .int 0, .int 0, .int 0]))]) rfl rfl (by decide) (by decide) (by decide) rfl hl.1 rfl (Nat.le_of_ble_eq_true rfl) (c1 := 7) (s1 := 547) (by decide) (by decide) (by decide) (by decide) dX5_init_20 (fun u2 H locs _ hP hD hS => ?_)
  replace hP : va_P D vwCl [(h0, .inr (5, [.int 0, .int 0, .ref hd, .ref ho, .null, .null, .null, .null, .int 0, .int 0, .int 0, .int 0])), (q1, .inr (1, [.ref hd, .ref (u2 0), .ref (u2 1), .ref (u2 2), .ref (u2 3), .ref (u2 4), .ref (u2 5)])), (hd, .inr (0, [.int (nI P), .int (nI R), .ref hT, .ref d0, .ref d1, .ref d2, .ref d3, .ref d4, .int (nI P)])), ((u2 0), .inl (cI, (15 * R), .inl (fun _ => 0))), ((u2 1), .inl (cI, (15 * R), .inl (fun _ => 0))), ((u2 2), .inl (cI, 15, .inl (fun _ => 0))), ((u2 3), .inl (cI, 15, .inl (fun _ => 0))), ((u2 4), .inl (cI, 15, .inl (fun _ => 0))), ((u2 5), .inl (cI, 15, .inl (fun _ => 0)))] H := hP
  replace hD : va_D A [(h0, .inr (5, [.int 0, .int 0, .ref hd, .ref ho, .null, .null, .null, .null, .int 0, .int 0, .int 0, .int 0])), (q1, .inr (1, [.ref hd, .ref (u2 0), .ref (u2 1), .ref (u2 2), .ref (u2 3), .ref (u2 4), .ref (u2 5)])), (hd, .inr (0, [.int (nI P), .int (nI R), .ref hT, .ref d0, .ref d1, .ref d2, .ref d3, .ref d4, .int (nI P)])), ((u2 0), .inl (cI, (15 * R), .inl (fun _ => 0))), ((u2 1), .inl (cI, (15 * R), .inl (fun _ => 0))), ((u2 2), .inl (cI, 15, .inl (fun _ => 0))), ((u2 3), .inl (cI, 15, .inl (fun _ => 0))), ((u2 4), .inl (cI, 15, .inl (fun _ => 0))), ((u2 5), .inl (cI, 15, .inl (fun _ => 0)))] := hD
  refine es_putFL C hini hP hD hS 0 rfl rfl inlX5 tyX5_ok nmX5 (j := 4) (by decide) es_u4_12 rfl rfl (tyX5_ok 4 (by decide)) rfl rfl (Nat.le_of_ble_eq_true rfl) (ws1 := [(h0, .inr (5, [.int 0, .int 0, .ref hd, .ref ho, .ref q1, .null, .null, .null, .int 0, .int 0, .int 0, .int 0])), (q1, .inr (1, [.ref hd, .ref (u2 0), .ref (u2 1), .ref (u2 2), .ref (u2 3), .ref (u2 4), .ref (u2 5)])), (hd, .inr (0, [.int (nI P), .int (nI R), .ref hT, .ref d0, .ref d1, .ref d2, .ref d3, .ref d4, .int (nI P)])), ((u2 0), .inl (cI, (15 * R), .inl (fun _ => 0))), ((u2 1), .inl (cI, (15 * R), .inl (fun _ => 0))), ((u2 2), .inl (cI, 15, .inl (fun _ => 0))), ((u2 3), .inl (cI, 15, .inl (fun _ => 0))), ((u2 4), .inl (cI, 15, .inl (fun _ => 0))), ((u2 5), .inl (cI, 15, .inl (fun _ => 0)))]) rfl dX5_init_23 (fun H locs hP hD hS => ?_)
  refine lv_aload_n hx hb dX5_init_26 rfl (lv_at hl 0 rfl) ?_
  refine es_newO C inlX3 tyX3_ok es_u4_13 es_u4_14 es_u4_15 hP hD hS (ci := 3) rfl [.null, .null, .null, .null, .null, .int 0, .int 0] (fun j hj => by rcases (show j = 0 ∨ j = 1 ∨ j = 2 ∨ j = 3 ∨ j = 4 ∨ j = 5 ∨ j = 6 by omega) with rfl | rfl | rfl | rfl | rfl | rfl | rfl <;> rfl) (c1 := 8) (s1 := 554) (by omega) (by omega) (by decide) (by decide) dX5_init_27 (fun q3 H hP hD hS => ?_)
  replace hP : va_P D vwCl [(h0, .inr (5, [.int 0, .int 0, .ref hd, .ref ho, .ref q1, .null, .null, .null, .int 0, .int 0, .int 0, .int 0])), (q1, .inr (1, [.ref hd, .ref (u2 0), .ref (u2 1), .ref (u2 2), .ref (u2 3), .ref (u2 4), .ref (u2 5)])), (hd, .inr (0, [.int (nI P), .int (nI R), .ref hT, .ref d0, .ref d1, .ref d2, .ref d3, .ref d4, .int (nI P)])), ((u2 0), .inl (cI, (15 * R), .inl (fun _ => 0))), ((u2 1), .inl (cI, (15 * R), .inl (fun _ => 0))), ((u2 2), .inl (cI, 15, .inl (fun _ => 0))), ((u2 3), .inl (cI, 15, .inl (fun _ => 0))), ((u2 4), .inl (cI, 15, .inl (fun _ => 0))), ((u2 5), .inl (cI, 15, .inl (fun _ => 0))), (q3, .inr (3, [.null, .null, .null, .null, .null, .int 0, .int 0]))] H := hP
  replace hD : va_D A [(h0, .inr (5, [.int 0, .int 0, .ref hd, .ref ho, .ref q1, .null, .null, .null, .int 0, .int 0, .int 0, .int 0])), (q1, .inr (1, [.ref hd, .ref (u2 0), .ref (u2 1), .ref (u2 2), .ref (u2 3), .ref (u2 4), .ref (u2 5)])), (hd, .inr (0, [.int (nI P), .int (nI R), .ref hT, .ref d0, .ref d1, .ref d2, .ref d3, .ref d4, .int (nI P)])), ((u2 0), .inl (cI, (15 * R), .inl (fun _ => 0))), ((u2 1), .inl (cI, (15 * R), .inl (fun _ => 0))), ((u2 2), .inl (cI, 15, .inl (fun _ => 0))), ((u2 3), .inl (cI, 15, .inl (fun _ => 0))), ((u2 4), .inl (cI, 15, .inl (fun _ => 0))), ((u2 5), .inl (cI, 15, .inl (fun _ => 0))), (q3, .inr (3, [.null, .null, .null, .null, .null, .int 0, .int 0]))] := hD
  refine lv_dup hx hb dX5_init_30 rfl ?_
  refine lv_bipush (v := 15) hx hb dX5_init_31 (by decide) ?_
  refine lv_bipush (v := 14) hx hb dX5_init_33 (by decide) ?_
  refine lv_aload_n hx hb dX5_init_35 rfl (lv_at hl 1 rfl) ?_
  refine es_getL C hP 2 rfl rfl inlX0 (j := 1) (by decide) es_u4_16 rfl dX5_init_36 ?_
  refine lv_imul hx hb dX5_init_39 ?_
  refine va_mmax hx hb (C.2.2.1.trans hl.1.symm) hown (hts _ es_u4_17) (hts _ es_u2_0) (hts _ es_u1_21) (hts _ es_u2_1) (by decide) (Nat.le_of_ble_eq_true rfl) (by show 8 ≤ 15; decide) (by show 554 ≤ 2700; decide) dX5_init_40 ?_
  refine lv_topi (fun v4 ev4 => ?_)
  replace ev4 : v4 = nI (es_T R) := ev4.trans (es_maxT hPR.2.2)
  subst ev4
  refine es_callI C (k_X3_init l D cI cZ _ q3 (es_T R) (es_Tb hPR.2.2)) es_u5_10 es_kX3_init ⟨rfl, rfl, by decide, by decide⟩ hP hD hS [9] [0, 1, 2, 3, 4, 5, 6, 7, 8] (wc := [(q3, .inr (3, [.null, .null, .null, .null, .null, .int 0, .int 0]))]) (wr := [(h0, .inr (5, [.int 0, .int 0, .ref hd, .ref ho, .ref q1, .null, .null, .null, .int 0, .int 0, .int 0, .int 0])), (q1, .inr (1, [.ref hd, .ref (u2 0), .ref (u2 1), .ref (u2 2), .ref (u2 3), .ref (u2 4), .ref (u2 5)])), (hd, .inr (0, [.int (nI P), .int (nI R), .ref hT, .ref d0, .ref d1, .ref d2, .ref d3, .ref d4, .int (nI P)])), ((u2 0), .inl (cI, (15 * R), .inl (fun _ => 0))), ((u2 1), .inl (cI, (15 * R), .inl (fun _ => 0))), ((u2 2), .inl (cI, 15, .inl (fun _ => 0))), ((u2 3), .inl (cI, 15, .inl (fun _ => 0))), ((u2 4), .inl (cI, 15, .inl (fun _ => 0))), ((u2 5), .inl (cI, 15, .inl (fun _ => 0)))]) rfl rfl (by decide) (by decide) (by decide) rfl hl.1 rfl (Nat.le_of_ble_eq_true rfl) (c1 := 13) (s1 := 1674) (by decide) (by decide) (by decide) (by decide) dX5_init_43 (fun u5 H locs _ hP hD hS => ?_)
  replace hP : va_P D vwCl [(h0, .inr (5, [.int 0, .int 0, .ref hd, .ref ho, .ref q1, .null, .null, .null, .int 0, .int 0, .int 0, .int 0])), (q1, .inr (1, [.ref hd, .ref (u2 0), .ref (u2 1), .ref (u2 2), .ref (u2 3), .ref (u2 4), .ref (u2 5)])), (hd, .inr (0, [.int (nI P), .int (nI R), .ref hT, .ref d0, .ref d1, .ref d2, .ref d3, .ref d4, .int (nI P)])), ((u2 0), .inl (cI, (15 * R), .inl (fun _ => 0))), ((u2 1), .inl (cI, (15 * R), .inl (fun _ => 0))), ((u2 2), .inl (cI, 15, .inl (fun _ => 0))), ((u2 3), .inl (cI, 15, .inl (fun _ => 0))), ((u2 4), .inl (cI, 15, .inl (fun _ => 0))), ((u2 5), .inl (cI, 15, .inl (fun _ => 0))), (q3, .inr (3, [.ref (u5 0), .ref (u5 1), .ref (u5 2), .ref (u5 3), .ref (u5 4), .int 0, .int 0])), ((u5 0), .inl (cI, (es_T R), .inl (fun _ => 0))), ((u5 1), .inl (cI, (es_T R), .inl (fun _ => 0))), ((u5 2), .inl (cI, (es_T R), .inl (fun _ => 0))), ((u5 3), .inl (cI, (es_T R), .inl (fun _ => 0))), ((u5 4), .inl (cI, (es_T R), .inl (fun _ => 0)))] H := hP
  replace hD : va_D A [(h0, .inr (5, [.int 0, .int 0, .ref hd, .ref ho, .ref q1, .null, .null, .null, .int 0, .int 0, .int 0, .int 0])), (q1, .inr (1, [.ref hd, .ref (u2 0), .ref (u2 1), .ref (u2 2), .ref (u2 3), .ref (u2 4), .ref (u2 5)])), (hd, .inr (0, [.int (nI P), .int (nI R), .ref hT, .ref d0, .ref d1, .ref d2, .ref d3, .ref d4, .int (nI P)])), ((u2 0), .inl (cI, (15 * R), .inl (fun _ => 0))), ((u2 1), .inl (cI, (15 * R), .inl (fun _ => 0))), ((u2 2), .inl (cI, 15, .inl (fun _ => 0))), ((u2 3), .inl (cI, 15, .inl (fun _ => 0))), ((u2 4), .inl (cI, 15, .inl (fun _ => 0))), ((u2 5), .inl (cI, 15, .inl (fun _ => 0))), (q3, .inr (3, [.ref (u5 0), .ref (u5 1), .ref (u5 2), .ref (u5 3), .ref (u5 4), .int 0, .int 0])), ((u5 0), .inl (cI, (es_T R), .inl (fun _ => 0))), ((u5 1), .inl (cI, (es_T R), .inl (fun _ => 0))), ((u5 2), .inl (cI, (es_T R), .inl (fun _ => 0))), ((u5 3), .inl (cI, (es_T R), .inl (fun _ => 0))), ((u5 4), .inl (cI, (es_T R), .inl (fun _ => 0)))] := hD
  refine es_putFL C hini hP hD hS 0 rfl rfl inlX5 tyX5_ok nmX5 (j := 5) (by decide) es_u4_18 rfl rfl (tyX5_ok 5 (by decide)) rfl rfl (Nat.le_of_ble_eq_true rfl) (ws1 := [(h0, .inr (5, [.int 0, .int 0, .ref hd, .ref ho, .ref q1, .ref q3, .null, .null, .int 0, .int 0, .int 0, .int 0])), (q1, .inr (1, [.ref hd, .ref (u2 0), .ref (u2 1), .ref (u2 2), .ref (u2 3), .ref (u2 4), .ref (u2 5)])), (hd, .inr (0, [.int (nI P), .int (nI R), .ref hT, .ref d0, .ref d1, .ref d2, .ref d3, .ref d4, .int (nI P)])), ((u2 0), .inl (cI, (15 * R), .inl (fun _ => 0))), ((u2 1), .inl (cI, (15 * R), .inl (fun _ => 0))), ((u2 2), .inl (cI, 15, .inl (fun _ => 0))), ((u2 3), .inl (cI, 15, .inl (fun _ => 0))), ((u2 4), .inl (cI, 15, .inl (fun _ => 0))), ((u2 5), .inl (cI, 15, .inl (fun _ => 0))), (q3, .inr (3, [.ref (u5 0), .ref (u5 1), .ref (u5 2), .ref (u5 3), .ref (u5 4), .int 0, .int 0])), ((u5 0), .inl (cI, (es_T R), .inl (fun _ => 0))), ((u5 1), .inl (cI, (es_T R), .inl (fun _ => 0))), ((u5 2), .inl (cI, (es_T R), .inl (fun _ => 0))), ((u5 3), .inl (cI, (es_T R), .inl (fun _ => 0))), ((u5 4), .inl (cI, (es_T R), .inl (fun _ => 0)))]) rfl dX5_init_46 (fun H locs hP hD hS => ?_)
  refine lv_aload_n hx hb dX5_init_49 rfl (lv_at hl 0 rfl) ?_
  refine lv_aload_n hx hb dX5_init_50 rfl (lv_at hl 1 rfl) ?_
  refine es_getL C hP 2 rfl rfl inlX0 (j := 0) (by decide) es_u4_19 rfl dX5_init_51 ?_
  refine es_newI C es_u1_16 hP hD hS 0 rfl P (rfl) (by omega) (c1 := 14) (s1 := 2186) (by omega) (by omega) (by decide) (by decide) dX5_init_54 (fun q6 H hP hD hS => ?_)
  replace hP : va_P D vwCl [(h0, .inr (5, [.int 0, .int 0, .ref hd, .ref ho, .ref q1, .ref q3, .null, .null, .int 0, .int 0, .int 0, .int 0])), (q1, .inr (1, [.ref hd, .ref (u2 0), .ref (u2 1), .ref (u2 2), .ref (u2 3), .ref (u2 4), .ref (u2 5)])), (hd, .inr (0, [.int (nI P), .int (nI R), .ref hT, .ref d0, .ref d1, .ref d2, .ref d3, .ref d4, .int (nI P)])), ((u2 0), .inl (cI, (15 * R), .inl (fun _ => 0))), ((u2 1), .inl (cI, (15 * R), .inl (fun _ => 0))), ((u2 2), .inl (cI, 15, .inl (fun _ => 0))), ((u2 3), .inl (cI, 15, .inl (fun _ => 0))), ((u2 4), .inl (cI, 15, .inl (fun _ => 0))), ((u2 5), .inl (cI, 15, .inl (fun _ => 0))), (q3, .inr (3, [.ref (u5 0), .ref (u5 1), .ref (u5 2), .ref (u5 3), .ref (u5 4), .int 0, .int 0])), ((u5 0), .inl (cI, (es_T R), .inl (fun _ => 0))), ((u5 1), .inl (cI, (es_T R), .inl (fun _ => 0))), ((u5 2), .inl (cI, (es_T R), .inl (fun _ => 0))), ((u5 3), .inl (cI, (es_T R), .inl (fun _ => 0))), ((u5 4), .inl (cI, (es_T R), .inl (fun _ => 0))), (q6, .inl (cI, P, .inl (fun _ => 0)))] H := hP
  replace hD : va_D A [(h0, .inr (5, [.int 0, .int 0, .ref hd, .ref ho, .ref q1, .ref q3, .null, .null, .int 0, .int 0, .int 0, .int 0])), (q1, .inr (1, [.ref hd, .ref (u2 0), .ref (u2 1), .ref (u2 2), .ref (u2 3), .ref (u2 4), .ref (u2 5)])), (hd, .inr (0, [.int (nI P), .int (nI R), .ref hT, .ref d0, .ref d1, .ref d2, .ref d3, .ref d4, .int (nI P)])), ((u2 0), .inl (cI, (15 * R), .inl (fun _ => 0))), ((u2 1), .inl (cI, (15 * R), .inl (fun _ => 0))), ((u2 2), .inl (cI, 15, .inl (fun _ => 0))), ((u2 3), .inl (cI, 15, .inl (fun _ => 0))), ((u2 4), .inl (cI, 15, .inl (fun _ => 0))), ((u2 5), .inl (cI, 15, .inl (fun _ => 0))), (q3, .inr (3, [.ref (u5 0), .ref (u5 1), .ref (u5 2), .ref (u5 3), .ref (u5 4), .int 0, .int 0])), ((u5 0), .inl (cI, (es_T R), .inl (fun _ => 0))), ((u5 1), .inl (cI, (es_T R), .inl (fun _ => 0))), ((u5 2), .inl (cI, (es_T R), .inl (fun _ => 0))), ((u5 3), .inl (cI, (es_T R), .inl (fun _ => 0))), ((u5 4), .inl (cI, (es_T R), .inl (fun _ => 0))), (q6, .inl (cI, P, .inl (fun _ => 0)))] := hD
  refine es_putFL C hini hP hD hS 0 rfl rfl inlX5 tyX5_ok nmX5 (j := 6) (by decide) es_u4_20 rfl rfl (tyX5_ok 6 (by decide)) rfl rfl (Nat.le_of_ble_eq_true rfl) (ws1 := [(h0, .inr (5, [.int 0, .int 0, .ref hd, .ref ho, .ref q1, .ref q3, .ref q6, .null, .int 0, .int 0, .int 0, .int 0])), (q1, .inr (1, [.ref hd, .ref (u2 0), .ref (u2 1), .ref (u2 2), .ref (u2 3), .ref (u2 4), .ref (u2 5)])), (hd, .inr (0, [.int (nI P), .int (nI R), .ref hT, .ref d0, .ref d1, .ref d2, .ref d3, .ref d4, .int (nI P)])), ((u2 0), .inl (cI, (15 * R), .inl (fun _ => 0))), ((u2 1), .inl (cI, (15 * R), .inl (fun _ => 0))), ((u2 2), .inl (cI, 15, .inl (fun _ => 0))), ((u2 3), .inl (cI, 15, .inl (fun _ => 0))), ((u2 4), .inl (cI, 15, .inl (fun _ => 0))), ((u2 5), .inl (cI, 15, .inl (fun _ => 0))), (q3, .inr (3, [.ref (u5 0), .ref (u5 1), .ref (u5 2), .ref (u5 3), .ref (u5 4), .int 0, .int 0])), ((u5 0), .inl (cI, (es_T R), .inl (fun _ => 0))), ((u5 1), .inl (cI, (es_T R), .inl (fun _ => 0))), ((u5 2), .inl (cI, (es_T R), .inl (fun _ => 0))), ((u5 3), .inl (cI, (es_T R), .inl (fun _ => 0))), ((u5 4), .inl (cI, (es_T R), .inl (fun _ => 0))), (q6, .inl (cI, P, .inl (fun _ => 0)))]) rfl dX5_init_56 (fun H locs hP hD hS => ?_)
  refine lv_aload_n hx hb dX5_init_59 rfl (lv_at hl 0 rfl) ?_
  refine lv_aload_n hx hb dX5_init_60 rfl (lv_at hl 1 rfl) ?_
  refine es_getL C hP 2 rfl rfl inlX0 (j := 0) (by decide) es_u4_19 rfl dX5_init_61 ?_
  refine es_newI C es_u1_16 hP hD hS 0 rfl P (rfl) (by omega) (c1 := 15) (s1 := 2698) (by omega) (by omega) (by decide) (by decide) dX5_init_64 (fun q7 H hP hD hS => ?_)
  replace hP : va_P D vwCl [(h0, .inr (5, [.int 0, .int 0, .ref hd, .ref ho, .ref q1, .ref q3, .ref q6, .null, .int 0, .int 0, .int 0, .int 0])), (q1, .inr (1, [.ref hd, .ref (u2 0), .ref (u2 1), .ref (u2 2), .ref (u2 3), .ref (u2 4), .ref (u2 5)])), (hd, .inr (0, [.int (nI P), .int (nI R), .ref hT, .ref d0, .ref d1, .ref d2, .ref d3, .ref d4, .int (nI P)])), ((u2 0), .inl (cI, (15 * R), .inl (fun _ => 0))), ((u2 1), .inl (cI, (15 * R), .inl (fun _ => 0))), ((u2 2), .inl (cI, 15, .inl (fun _ => 0))), ((u2 3), .inl (cI, 15, .inl (fun _ => 0))), ((u2 4), .inl (cI, 15, .inl (fun _ => 0))), ((u2 5), .inl (cI, 15, .inl (fun _ => 0))), (q3, .inr (3, [.ref (u5 0), .ref (u5 1), .ref (u5 2), .ref (u5 3), .ref (u5 4), .int 0, .int 0])), ((u5 0), .inl (cI, (es_T R), .inl (fun _ => 0))), ((u5 1), .inl (cI, (es_T R), .inl (fun _ => 0))), ((u5 2), .inl (cI, (es_T R), .inl (fun _ => 0))), ((u5 3), .inl (cI, (es_T R), .inl (fun _ => 0))), ((u5 4), .inl (cI, (es_T R), .inl (fun _ => 0))), (q6, .inl (cI, P, .inl (fun _ => 0))), (q7, .inl (cI, P, .inl (fun _ => 0)))] H := hP
  replace hD : va_D A [(h0, .inr (5, [.int 0, .int 0, .ref hd, .ref ho, .ref q1, .ref q3, .ref q6, .null, .int 0, .int 0, .int 0, .int 0])), (q1, .inr (1, [.ref hd, .ref (u2 0), .ref (u2 1), .ref (u2 2), .ref (u2 3), .ref (u2 4), .ref (u2 5)])), (hd, .inr (0, [.int (nI P), .int (nI R), .ref hT, .ref d0, .ref d1, .ref d2, .ref d3, .ref d4, .int (nI P)])), ((u2 0), .inl (cI, (15 * R), .inl (fun _ => 0))), ((u2 1), .inl (cI, (15 * R), .inl (fun _ => 0))), ((u2 2), .inl (cI, 15, .inl (fun _ => 0))), ((u2 3), .inl (cI, 15, .inl (fun _ => 0))), ((u2 4), .inl (cI, 15, .inl (fun _ => 0))), ((u2 5), .inl (cI, 15, .inl (fun _ => 0))), (q3, .inr (3, [.ref (u5 0), .ref (u5 1), .ref (u5 2), .ref (u5 3), .ref (u5 4), .int 0, .int 0])), ((u5 0), .inl (cI, (es_T R), .inl (fun _ => 0))), ((u5 1), .inl (cI, (es_T R), .inl (fun _ => 0))), ((u5 2), .inl (cI, (es_T R), .inl (fun _ => 0))), ((u5 3), .inl (cI, (es_T R), .inl (fun _ => 0))), ((u5 4), .inl (cI, (es_T R), .inl (fun _ => 0))), (q6, .inl (cI, P, .inl (fun _ => 0))), (q7, .inl (cI, P, .inl (fun _ => 0)))] := hD
  refine es_putFL C hini hP hD hS 0 rfl rfl inlX5 tyX5_ok nmX5 (j := 7) (by decide) es_u4_21 rfl rfl (tyX5_ok 7 (by decide)) rfl rfl (Nat.le_of_ble_eq_true rfl) (ws1 := [(h0, .inr (5, [.int 0, .int 0, .ref hd, .ref ho, .ref q1, .ref q3, .ref q6, .ref q7, .int 0, .int 0, .int 0, .int 0])), (q1, .inr (1, [.ref hd, .ref (u2 0), .ref (u2 1), .ref (u2 2), .ref (u2 3), .ref (u2 4), .ref (u2 5)])), (hd, .inr (0, [.int (nI P), .int (nI R), .ref hT, .ref d0, .ref d1, .ref d2, .ref d3, .ref d4, .int (nI P)])), ((u2 0), .inl (cI, (15 * R), .inl (fun _ => 0))), ((u2 1), .inl (cI, (15 * R), .inl (fun _ => 0))), ((u2 2), .inl (cI, 15, .inl (fun _ => 0))), ((u2 3), .inl (cI, 15, .inl (fun _ => 0))), ((u2 4), .inl (cI, 15, .inl (fun _ => 0))), ((u2 5), .inl (cI, 15, .inl (fun _ => 0))), (q3, .inr (3, [.ref (u5 0), .ref (u5 1), .ref (u5 2), .ref (u5 3), .ref (u5 4), .int 0, .int 0])), ((u5 0), .inl (cI, (es_T R), .inl (fun _ => 0))), ((u5 1), .inl (cI, (es_T R), .inl (fun _ => 0))), ((u5 2), .inl (cI, (es_T R), .inl (fun _ => 0))), ((u5 3), .inl (cI, (es_T R), .inl (fun _ => 0))), ((u5 4), .inl (cI, (es_T R), .inl (fun _ => 0))), (q6, .inl (cI, P, .inl (fun _ => 0))), (q7, .inl (cI, P, .inl (fun _ => 0)))]) rfl dX5_init_66 (fun H locs hP hD hS => ?_)
  refine W.widen (k := 15) (n := 2700) (by decide) (by decide) ?_
  exact es_vretA hAe C hr hlk (fun k => ([q1, q3, q6, q7, (u2 0), (u2 1), (u2 2), (u2 3), (u2 4), (u2 5), (u5 0), (u5 1), (u5 2), (u5 3), (u5 4)] : List Nat).getD k 0) trivial (hP.sub [0, 2, 1, 9, 15, 16, 3, 4, 5, 6, 7, 8, 10, 11, 12, 13, 14] rfl) (hD.sub [0, 2, 1, 9, 15, 16, 3, 4, 5, 6, 7, 8, 10, 11, 12, 13, 14] (by decide) rfl) hS dX5_init_69
