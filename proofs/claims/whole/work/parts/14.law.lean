/-! THE CLAIM OUT OF ONE WALK OF THE LAW'S BODY. Your part is whole_start (and what it stands on); all else here is the same for every law, but numbers. -/
def R_law : String := "ExternalSortLaw"
def lw_P (b : Addr) (xs : List Int32) (args : Array Value) (s : State) : Prop := args = #[.ref b] ∧ s.IntsAt b xs ∧ xs.length ≤ 2562 ∧ (Jvm.Cond.and given_1 narrow_1).before args s = true
def lw_Q (_ : Array Value) (s : State) (o : Outcome) (t : State) : Prop := o = .returned (some (.int 1)) ∧ Framed s o t [] 600000 7302250
def lw_Z (below : List Frame) (a : Array Value) (s : State) : State → Prop := fun t => ∃ o, t.status = .running ∧ Ended t below o ∧ lw_Q a s o t
/-- the law's own end, with 1 on the stack, nothing written that was there before, its room as the claim has it -/
theorem lw_ret {p : Program} {l : Launch} {e : Env} {s : State} {m : MethodId} {below : List Frame} {meth : Method} {c : Code} {b : Nat} (hx : p.tables.exec = Jvm.exec) (hb : c.code = code) (hr : meth.sig.returnType = ret) (hlocks : meth.locks = false) {pc : Nat} {H : Heap} {ls : Array Slot} (hdg : decode code pc = .ok (.ireturn, 1)) : W p l e room_1 s m #[Value.ref b] below meth c H [] 600000 7302250 (lw_Z below #[Value.ref b] s) (F0 m pc ls [.int 1]) := by
  intro T hT X
  obtain ⟨fs, hret, hrun, hended, hW, hframe⟩ := X.leave (v := some (.int 1)) (hlocks := hlocks) (fun h => by rw [hr] at h; cases h)
  have hmeth' : T.vm.method? m = some meth := X.method'
  refine ⟨T.setFrames fs, ?_, .returned (some (.int 1)), hrun, hended, rfl, ⟨_, rfl⟩, hW, hframe⟩
  jvm_step X.here [X.here.top, hx, hb, hdg, hmeth', hr, ret, narrow_b1]
  (try refine ⟨rfl, ?_⟩); (try refine ⟨rfl, ?_⟩)
  first | (intro acts; rw [hret _ acts rfl rfl rfl]) | rw [hret _ _ rfl rfl rfl]
  exact Steps.refl _
/-- what holds at the law's entry: the machine, the code, the tables' words (any of lw_tbl by 'hts w (by decide +kernel)'), the script of L ints xs at the cell b, what the Statement gives of the start (any of its parts by flat_of_before) -/
def lw_At (p : Program) (s : State) (m : MethodId) (meth : Method) (c : Code) (b L : Nat) (xs : Nat → Int32) : Prop :=
  p.tables.exec = Jvm.exec ∧ c.code = code ∧ meth.sig.returnType = ret ∧ c.maxLocals = 4 ∧ s.vm.findClass R_law = some m.cls ∧ (∀ w ∈ lw_tbl, w.before #[Value.ref b] s = true) ∧ va_X b L xs s s.heap ∧ b < s.heap.size ∧ meth.locks = false ∧ (Jvm.Cond.and given_1 narrow_1).before #[Value.ref b] s = true
theorem es_u1_0 : Cond.classLink RL 7 RX7 ∈ wsL_law := es_ur1 _ (List.mem_of_getElem? (i := 0) rfl)
theorem es_u1_1 : Cond.instantiable RX7 8 ∈ wsL_law := es_ur1 _ (List.mem_of_getElem? (i := 1) rfl)
theorem es_u1_3 : Cond.classLink RL 18 RX8 ∈ wsL_law := es_ur1 _ (List.mem_of_getElem? (i := 3) rfl)
theorem es_u1_4 : Cond.instantiable RX8 37 ∈ wsL_law := es_ur1 _ (List.mem_of_getElem? (i := 4) rfl)
theorem es_u1_6 : Cond.methodLink RL 9 yL_cell ∈ wsL_law := es_ur1 _ (List.mem_of_getElem? (i := 6) rfl)
theorem es_u1_7 : Cond.static yL_cell ∈ wsL_law := es_ur1 _ (List.mem_of_getElem? (i := 7) rfl)
theorem es_u1_8 : Cond.initialized RL ∈ wsL_law := es_ur1 _ (List.mem_of_getElem? (i := 8) rfl)
theorem es_u1_9 : Cond.code yL_cell cL_cell 2 (some .int) ∈ wsL_law := es_ur1 _ (List.mem_of_getElem? (i := 9) rfl)
theorem es_u1_10 : Cond.methodLink RL 15 yX7_init ∈ wsL_law := es_ur1 _ (List.mem_of_getElem? (i := 10) rfl)
theorem es_u6_6 : Cond.methodLink RL 20 yX8_init ∈ wsL_law := es_ur6 _ (List.mem_of_getElem? (i := 6) rfl)
theorem es_u7_13 : Cond.methodLink RL 21 yX7_append ∈ wsL_law := es_ur7 _ (List.mem_of_getElem? (i := 13) rfl)
theorem es_u9_9 : Cond.methodLink RL 25 yX8_append ∈ wsL_law := es_ur9 _ (List.mem_of_getElem? (i := 9) rfl)
theorem es_u9_20 : Cond.methodLink RL 26 yX7_drop ∈ wsL_law := es_ur9 _ (List.mem_of_getElem? (i := 20) rfl)
theorem es_u10_8 : Cond.methodLink RL 30 yX8_drop ∈ wsL_law := es_ur10 _ (List.mem_of_getElem? (i := 8) rfl)
theorem es_u10_16 : Cond.methodLink RL 31 yX7_sort ∈ wsL_law := es_ur10 _ (List.mem_of_getElem? (i := 16) rfl)
theorem es_u20_15 : Cond.methodLink RL 35 yX8_sort ∈ wsL_law := es_ur20 _ (List.mem_of_getElem? (i := 15) rfl)
theorem es_u24_1 : Cond.methodLink RL 36 yX7_distinct ∈ wsL_law := es_ur24 _ (List.mem_of_getElem? (i := 1) rfl)
theorem es_u24_5 : Cond.methodLink RL 39 yX8_distinct ∈ wsL_law := es_ur24 _ (List.mem_of_getElem? (i := 5) rfl)
theorem es_u24_9 : Cond.methodLink RL 40 yX7_join ∈ wsL_law := es_ur24 _ (List.mem_of_getElem? (i := 9) rfl)
theorem es_u27_13 : Cond.methodLink RL 43 yX8_join ∈ wsL_law := es_ur27 _ (List.mem_of_getElem? (i := 13) rfl)
theorem es_u28_1 : Cond.methodLink RL 44 yX7_size ∈ wsL_law := es_ur28 _ (List.mem_of_getElem? (i := 1) rfl)
theorem es_u28_5 : Cond.methodLink RL 47 yX8_size ∈ wsL_law := es_ur28 _ (List.mem_of_getElem? (i := 5) rfl)
theorem es_u28_9 : Cond.methodLink RL 48 yX7_key ∈ wsL_law := es_ur28 _ (List.mem_of_getElem? (i := 9) rfl)
theorem es_u28_18 : Cond.methodLink RL 52 yX8_key ∈ wsL_law := es_ur28 _ (List.mem_of_getElem? (i := 18) rfl)
theorem es_u28_22 : Cond.methodLink RL 53 yX7_tag ∈ wsL_law := es_ur28 _ (List.mem_of_getElem? (i := 22) rfl)
theorem es_u29_3 : Cond.methodLink RL 56 yX8_tag ∈ wsL_law := es_ur29 _ (List.mem_of_getElem? (i := 3) rfl)
theorem es_u29_7 : Cond.methodLink RL 57 yX7_told ∈ wsL_law := es_ur29 _ (List.mem_of_getElem? (i := 7) rfl)
theorem es_u29_19 : Cond.methodLink RL 60 yX8_told ∈ wsL_law := es_ur29 _ (List.mem_of_getElem? (i := 19) rfl)
theorem es_u29_23 : Cond.methodLink RL 61 yX7_run ∈ wsL_law := es_ur29 _ (List.mem_of_getElem? (i := 23) rfl)
theorem es_u30_7 : Cond.methodLink RL 64 yX8_run ∈ wsL_law := es_ur30 _ (List.mem_of_getElem? (i := 7) rfl)
/-! ===== what is left: class and reference over their numbers alone ===== -/
def es_Sim (P R : Nat) (Rel : es_St → es_St → Prop) : Prop :=
  (∀ SX SM : es_St, Rel SX SM → ∀ a1 a2 a3 : Int32, ∃ (fx fm : Nat) (r : Int32) (SX1 SM1 : es_St), f_X7_append (es_NX P R) fx SX a1 a2 a3 = some (r, SX1) ∧ f_X8_append es_NM fm SM a1 a2 a3 = some (r, SM1) ∧ Rel SX1 SM1) ∧
  (∀ SX SM : es_St, Rel SX SM → ∀ a1 : Int32, ∃ (fx fm : Nat) (r : Int32) (SX1 SM1 : es_St), f_X7_drop (es_NX P R) fx SX a1 = some (r, SX1) ∧ f_X8_drop es_NM fm SM a1 = some (r, SM1) ∧ Rel SX1 SM1) ∧
  (∀ SX SM : es_St, Rel SX SM → ∀ a1 a2 a3 a4 : Int32, ∃ (fx fm : Nat) (r : Int32) (SX1 SM1 : es_St), f_X7_sort (es_NX P R) fx SX a1 a2 a3 a4 = some (r, SX1) ∧ f_X8_sort es_NM fm SM a1 a2 a3 a4 = some (r, SM1) ∧ Rel SX1 SM1) ∧
  (∀ SX SM : es_St, Rel SX SM → ∀ a1 a2 a3 : Int32, ∃ (fx fm : Nat) (r : Int32) (SX1 SM1 : es_St), f_X7_distinct (es_NX P R) fx SX a1 a2 a3 = some (r, SX1) ∧ f_X8_distinct es_NM fm SM a1 a2 a3 = some (r, SM1) ∧ Rel SX1 SM1) ∧
  (∀ SX SM : es_St, Rel SX SM → ∀ a1 a2 a3 a4 : Int32, ∃ (fx fm : Nat) (r : Int32) (SX1 SM1 : es_St), f_X7_join (es_NX P R) fx SX a1 a2 a3 a4 = some (r, SX1) ∧ f_X8_join es_NM fm SM a1 a2 a3 a4 = some (r, SM1) ∧ Rel SX1 SM1) ∧
  (∀ SX SM : es_St, Rel SX SM → ∀ a1 : Int32, ∃ (fx fm : Nat) (r : Int32) (SX1 SM1 : es_St), f_X7_size (es_NX P R) fx SX a1 = some (r, SX1) ∧ f_X8_size es_NM fm SM a1 = some (r, SM1) ∧ Rel SX1 SM1) ∧
  (∀ SX SM : es_St, Rel SX SM → ∀ a1 a2 : Int32, ∃ (fx fm : Nat) (r : Int32) (SX1 SM1 : es_St), f_X7_key (es_NX P R) fx SX a1 a2 = some (r, SX1) ∧ f_X8_key es_NM fm SM a1 a2 = some (r, SM1) ∧ Rel SX1 SM1) ∧
  (∀ SX SM : es_St, Rel SX SM → ∀ a1 a2 : Int32, ∃ (fx fm : Nat) (r : Int32) (SX1 SM1 : es_St), f_X7_tag (es_NX P R) fx SX a1 a2 = some (r, SX1) ∧ f_X8_tag es_NM fm SM a1 a2 = some (r, SM1) ∧ Rel SX1 SM1) ∧
  (∀ SX SM : es_St, Rel SX SM → ∀ a1 : Int32, ∃ (fx fm : Nat) (r : Int32) (SX1 SM1 : es_St), f_X7_told (es_NX P R) fx SX a1 = some (r, SX1) ∧ f_X8_told es_NM fm SM a1 = some (r, SM1) ∧ Rel SX1 SM1) ∧
  (∀ SX SM : es_St, Rel SX SM → ∀ a1 : Int32, ∃ (fx fm : Nat) (r : Int32) (SX1 SM1 : es_St), f_X7_run (es_NX P R) fx SX a1 = some (r, SX1) ∧ f_X8_run es_NM fm SM a1 = some (r, SM1) ∧ Rel SX1 SM1)
def es_PURE : Prop := ∀ P R : Nat, 1 ≤ P ∧ P ≤ 512 ∧ 1 ≤ R ∧ R ≤ 16 → ∃ Rel : es_St → es_St → Prop, Rel (es_S0X P R) (es_S0M P R) ∧ es_Sim P R Rel
theorem es_clamp (m : Nat) (hm : 1 ≤ m) (hm2 : m < 2 ^ 31) (x M : Int32) (hM : M = nI m) : ∃ P : Nat, 1 ≤ P ∧ P ≤ m ∧ (if 1 < (if x < M then x else M) then (if x < M then x else M) else 1) = nI P ∧ (if x < 1 then 1 else if M < x then M else x) = nI P := by
  subst hM
  have h1 : (1 : Int32) = nI 1 := rfl
  rcases pk_ix x (n := m) hm2 with h | h | ⟨j, hj, rfl⟩
  · have hx1 : x < 1 := Int32.lt_trans h (by decide)
    have hxm : x < nI m := Int32.lt_of_lt_of_le h (nI_pos' hm2)
    refine ⟨1, Nat.le_refl _, hm, ?_, ?_⟩
    · rw [if_pos hxm, if_neg (Int32.not_lt.mpr (Int32.le_of_lt hx1))]; rfl
    · rw [if_pos hx1]; rfl
  · have hn : ¬ x < nI m := Int32.not_lt.mpr h
    have hx1 : ¬ x < 1 := Int32.not_lt.mpr (Int32.le_trans (nI_le (a := 1) hm hm2) h)
    refine ⟨m, hm, Nat.le_refl _, ?_, ?_⟩
    · rw [if_neg hn]; exact es_max1 hm hm2
    · rw [if_neg hx1]
      by_cases h3 : nI m < x
      · rw [if_pos h3]
      · rw [if_neg h3]; exact Int32.le_antisymm (Int32.not_lt.mp h3) h
  · have hjm : nI j < nI m := nI_lt hj hm2
    rw [if_pos hjm]
    by_cases h0 : j = 0
    · subst h0
      exact ⟨1, Nat.le_refl _, hm, by decide, by rw [if_pos (by decide)]; rfl⟩
    · refine ⟨j, by omega, by omega, es_max1 (by omega) (by omega), ?_⟩
      rw [if_neg (show ¬ nI j < 1 from nI_nlt (b := 1) (by omega) (by omega)), if_neg (nI_nlt (by omega) hm2)]
theorem es_in5 {i L : Nat} (h : i + 5 ≤ L) (hL : L ≤ 2562) : vp_in (nI i) L ∧ vp_in (nI i + 1) L ∧ vp_in (nI i + 2) L ∧ vp_in (nI i + 3) L ∧ vp_in (nI i + 4) L := by
  refine ⟨vp_in_nI (by omega) (by omega), ?_, ?_, ?_, ?_⟩
  · have := vp_in_nI (n := i + 1) (N := L) (by omega) (by omega); rw [← nI_add] at this; exact this
  · have := vp_in_nI (n := i + 2) (N := L) (by omega) (by omega); rw [← nI_add] at this; exact this
  · have := vp_in_nI (n := i + 3) (N := L) (by omega) (by omega); rw [← nI_add] at this; exact this
  · have := vp_in_nI (n := i + 4) (N := L) (by omega) (by omega); rw [← nI_add] at this; exact this
theorem es_go {i L : Nat} (hi : i ≤ 5000) (hL : L ≤ 2562) (h : ¬ nI L - 5 < nI i) : i + 5 ≤ L := by
  have h1 : (nI L - 5).toInt = (L : Int) - (5 : Nat) := pk_sub_toInt (a := L) (b := 5) (by omega) (by omega)
  have h2 : (nI i).toInt = (i : Int) := nI_toInt (by omega)
  rw [Int32.lt_iff_toInt_lt, h1, h2] at h
  omega
theorem es_tabout0_9 {x : Int32} (h0 : ¬ x = 0) (h1 : ¬ x = 1) (h2 : ¬ x = 2) (h3 : ¬ x = 3) (h4 : ¬ x = 4) (h5 : ¬ x = 5) (h6 : ¬ x = 6) (h7 : ¬ x = 7) (h8 : ¬ x = 8) (h9 : ¬ x = 9) : x.toInt < 0 ∨ 9 < x.toInt := by
  have n : ∀ (k : Int32), ¬ x = k → x.toInt ≠ k.toInt := fun k h e => h (Int32.toInt_inj.mp e)
  have n9 := n 9 h9
  have := es_tabout0_8 h0 h1 h2 h3 h4 h5 h6 h7 h8
  simp at n9
  omega
theorem es_splitP {D : va_G} {cl : List vw_C} {w1 w2 : va_W} {H : Heap} (h : va_P D cl (w1 ++ w2) H) : va_P D cl w1 H ∧ va_P D cl w2 H := by
  refine ⟨fun k q hk => h k q ?_, fun k q hk => h (w1.length + k) q ?_⟩
  · have hl : k < w1.length := (List.getElem?_eq_some_iff.mp hk).1
    rw [List.getElem?_append_left hl]; exact hk
  · rw [List.getElem?_append_right (by omega), Nat.add_sub_cancel_left]; exact hk
theorem es_splitD {A : Nat → Prop} {w1 w2 : va_W} (h : va_D A (w1 ++ w2)) : va_D A w1 ∧ va_D A w2 ∧ ∀ (i j : Nat) (p q : Nat × va_E), w1[i]? = some p → w2[j]? = some q → p.1 ≠ q.1 := by
  have L : ∀ (k : Nat) (q : Nat × va_E), w1[k]? = some q → (w1 ++ w2)[k]? = some q := fun k q hk => by
    have hl : k < w1.length := (List.getElem?_eq_some_iff.mp hk).1
    rw [List.getElem?_append_left hl]; exact hk
  have R : ∀ (k : Nat) (q : Nat × va_E), w2[k]? = some q → (w1 ++ w2)[w1.length + k]? = some q := fun k q hk => by
    rw [List.getElem?_append_right (by omega), Nat.add_sub_cancel_left]; exact hk
  refine ⟨⟨fun i j p q hp hq e => h.1 i j p q (L i p hp) (L j q hq) e, fun k q hk => h.2 k q (L k q hk)⟩, ⟨fun i j p q hp hq e => ?_, fun k q hk => h.2 _ q (R k q hk)⟩, fun i j p q hp hq e => ?_⟩
  · have := h.1 _ _ p q (R i p hp) (R j q hq) e
    omega
  · have := h.1 _ _ p q (L i p hp) (R j q hq) e
    have hl : i < w1.length := (List.getElem?_eq_some_iff.mp hp).1
    omega
theorem es_other {D : va_G} {cl : List vw_C} {H H1 : Heap} {w : es_St → va_W} {n : Nat} {a : Nat → Nat} {S : es_St} {a2 : Nat → Nat} {n2 : Nat} (ho : es_ok w n a) (hP : va_P D cl (w S) H) (hk : ∀ q : Nat, q < H.size → ¬ es_AA a2 n2 H.size q → H1[q]? = H[q]?) (hd : ∀ i j, i < n2 → j < n → a2 i ≠ a j) : va_P D cl (w S) H1 := by
  refine hP.kept (fun k q hq => hk q.1 (hP k q hq).lt (fun h => ?_))
  by_cases hkn : k < n
  · obtain ⟨e, he⟩ := ho.1 S k hkn
    rw [he] at hq
    cases hq
    rcases h with ⟨i, hi, e2⟩ | h
    · exact hd i k hi hkn e2.symm
    · have := (hP k _ he).lt
      exact absurd h (Nat.not_le.mpr this)
  · rw [ho.2 S k (Nat.le_of_not_lt hkn)] at hq
    cases hq
theorem es_arr {args : Array Value} {s : State} {ty : FieldType} (hp : ty = .int ∨ ty = .boolean) (h : (Cond.arrayClass ty).before args s = true) : ∃ cA : ClassId, ArrOfT s cA ty ∧ va_RA s cA ty := by
  obtain ⟨c, k, comp, h1, h2, h3⟩ := Cond.arrayClass_spec h
  refine ⟨c, fun n z => ⟨fun k h => (by cases h), k, h2, comp, h3⟩, ?_⟩
  rcases hp with rfl | rfl <;> exact h1
def es_PreC (b L : Nat) (xs : Nat → Int32) (k : Int32) (sz : Nat) : Array Value → State → Prop := va_Pc [.ref b, .int k] (fun U => U.heap.size = sz ∧ va_X b L xs U U.heap ∧ b < sz)
set_option maxHeartbeats 4000000 in
/-- the law's cell(script, k) -/
theorem k_cell (l : Launch) (b L : Nat) (xs : Nat → Int32) (k : Int32) (sz : Nat) (hk0 : ¬ k < 0) (hL : L < 2 ^ 31) : Met l yL_cell (Cond.code yL_cell cL_cell 2 (some .int) :: wsL_law) ({ frames := 0, cells := 0, slots := 0, locals := 0 } : Room) (es_PreC b L xs k sz) (va_Qi (fun r (_ : Unit) => r = if nI L ≤ k then 0 else xs k.toNatClampNeg) (fun _ _ => True) (fun q => sz ≤ q)) 0 0 (fun q => sz ≤ q) := by
  refine Met.ofW (cc := cL_cell) (maxL := 2) (ret := some .int) (by decide) rfl ?_
  intro p e s m args below meth c s₁ B hml hv
  obtain ⟨rfl, hsz, hX, hbl⟩ := hv
  subst hsz
  have hx := B.exec
  have hb := B.bytes
  have hr := B.returns
  have hlk := B.notSynchronized
  have hl := lv_entry [.ref b, .int k] (n := 2) (Nat.le_of_ble_eq_true rfl)
  rw [lg_entry_eq]
  generalize (lg_sl ([.ref b, .int k]) ++ List.replicate (2 - (lg_sl ([.ref b, .int k])).length) Slot.unset).toArray = ls at hl ⊢
  replace hl : lv_has ls 2 [(0, .ref b), (1, .int k)] := hl
  have hS : va_S (fun q => s.heap.size ≤ q) s.heap s.heap [] := va_S.rf
  have hbA : ¬ (fun q => s.heap.size ≤ q) b := Nat.not_le.mpr hbl
  refine lv_iload_n hx hb dL_cell_0 rfl (lv_at hl 1 rfl) ?_
  refine lv_aload_n hx hb dL_cell_1 rfl (lv_at hl 0 rfl) ?_
  refine va_slen hx hb hX hbl hbA hS dL_cell_2 ?_
  refine lv_icmp_ge (tgt := 12) hx hb dL_cell_3 (by decide) (fun c1 => ?_) (fun c1 => ?_)
  · refine lv_iconst (v := 0) hx hb dL_cell_12 (by decide) ?_
    exact W.iret (v := 0) hx hb hr (fun t ht hW => ⟨⟨0, (), rfl, by rw [if_pos (show nI L ≤ k from c1)], trivial⟩, hS.F ht⟩) hS.2.2 dL_cell_13 hlk
  · have hin : vp_in k L := by
      rcases pk_ix k hL with h | h | ⟨j, hj, rfl⟩
      · exact absurd h hk0
      · exact absurd h c1
      · exact vp_in_nI hj hL
    refine lv_aload_n hx hb dL_cell_6 rfl (lv_at hl 0 rfl) ?_
    refine lv_iload_n hx hb dL_cell_7 rfl (lv_at hl 1 rfl) ?_
    refine va_sld hx hb hX hbl hbA hS hin dL_cell_8 ?_
    refine lv_goto (tgt := 13) hx hb dL_cell_9 (by decide) ?_
    exact W.iret (v := xs k.toNatClampNeg) hx hb hr (fun t ht hW => ⟨⟨_, (), rfl, by rw [if_neg (show ¬ nI L ≤ k from c1)], trivial⟩, hS.F ht⟩) hS.2.2 dL_cell_13 hlk
theorem es_blindC {b L : Nat} {xs : Nat → Int32} {k : Int32} {sz : Nat} : FrameBlind (es_PreC b L xs k sz) := fun a U g mk q => by
  obtain ⟨q0, q1, qX, qb⟩ := q
  exact ⟨q0, q1, va_X.moved (u := U) (U := U.calling g mk a) (Vm.Alike.refl U.vm) qX, qb⟩
theorem es_mcell : es_mS yL_cell cL_cell 2 (some .int) 2 := ⟨es_u1_7, es_u1_8, es_u1_9, by decide, by decide, by decide +kernel⟩
section ESC
variable {p : Program} {l : Launch} {e : Env} {R : Room} {s : State} {m : MethodId} {args : Array Value} {below : List Frame} {meth : Method} {c : Code} {H : Heap} {locs : List Loc} {cells slots : Nat} {Q : State → Prop}
variable {cc : ByteArray} {own : String} {nL : Nat} {D : va_G} {tys : List (ClassId × FieldType)} {ws : va_W} {pc : Nat} {ls : Array Slot} {rest st0 : List Value}
theorem es_cell (C : es_CL p s m args c cc RL nL D tys (fun q => s.heap.size ≤ q)) {b L : Nat} {xs : Nat → Int32} (hX : va_X b L xs s s.heap) (hbl : b < s.heap.size) (hL : L < 2 ^ 31) (k : Int32) (hk0 : ¬ k < 0) (hR : (0 : Nat) + 1 ≤ R.frames ∧ 8 + (2 + 11) + 0 ≤ R.locals) (hroom : cells ≤ R.cells ∧ slots ≤ R.slots) (hP : va_P D vwCl ws H) (hS : va_S (fun q => s.heap.size ≤ q) s.heap H locs) (hsz : ls.size = nL) (hcat : (rest.map fun v => v.category).sum ≤ 8) (hdg : decode cc pc = .ok (.invokestatic 9, 3))
    (kk : ∀ (H1 : Heap) (locs1 : List Loc), va_P D vwCl ws H1 → va_S (fun q => s.heap.size ≤ q) s.heap H1 locs1 → W p l e R s m args below meth c H1 locs1 cells slots Q (F0 m (pc + 3) ls (.int (if nI L ≤ k then 0 else xs k.toNatClampNeg) :: rest))) : W p l e R s m args below meth c H locs cells slots Q (F0 m pc ls (.int k :: .ref b :: rest)) := by
  obtain ⟨hx, hb, hml, hown, hts, hK, hA, hN⟩ := C
  obtain ⟨m1, m3, m4, m5⟩ := es_mcell
  have hF : ∀ q, H.size ≤ q → s.heap.size ≤ q := fun q h => Nat.le_trans hS.1 h
  refine va_calli (A1 := fun q => H.size ≤ q) (va_runS (ws := Cond.code yL_cell cL_cell 2 (some .int) :: wsL_law) (Ts := wsL_law) (bytes := cL_cell) (maxL := 2) (ret := some .int) (As := [.ref b, .int k]) (rest := rest) ⟨hx, hb, hml, hown, hts⟩ (k_cell l b L xs k H.size hk0 hL) (va_cwS 2 hts (ws := Cond.code yL_cell cL_cell 2 (some .int) :: wsL_law) (fun w0 h0 => ?_) rfl rfl rfl m5 ⟨hR.1, hR.2⟩) ⟨es_blindC, fun U hU hW => ⟨rfl, by rw [hU], ?_, Nat.lt_of_lt_of_le hbl hS.1⟩⟩ rfl rfl hsz rfl (lv_room hcat) hdg ⟨hroom.1, hroom.2⟩) hS (fun q _ h => hF q h) hF (fun r2 u t H1 locs1 ht hvm hw hB hz hk hS1 => ?_)
  · have hin : w0 ∈ wsL_law := by
      rcases List.mem_append.mp h0 with h1 | h1
      · simp only [List.mem_cons, List.not_mem_nil, or_false] at h1
        rcases h1 with rfl | rfl | rfl
        · exact es_u1_6
        · exact m1
        · exact m3
      · rcases List.mem_cons.mp h1 with rfl | h1
        · exact m4
        · exact h1
    exact ⟨hin, es_good w0 hin⟩
  · rw [hU]
    exact (hX.moved hW.alike).kept (hS.2.1 b hbl (Nat.not_le.mpr hbl))
  · subst hw
    exact kk H1 locs1 (hP.kept (fun k q hq => hk q.1 (hP k q hq).lt (Nat.not_le.mpr (hP k q hq).lt))) hS1
end ESC
set_option maxHeartbeats 8000000 in
set_option maxRecDepth 100000 in
theorem law_loop {p : Program} {l : Launch} {e : Env} {s : State} {m : MethodId} {below : List Frame} {meth : Method} {c : Code} {D : va_G} {cI cZ : ClassId} {b L : Nat} {xs : Nat → Int32} (hL : L ≤ 2562) (C0 : lw_At p s m meth c b L xs) {P R : Nat} {Rel : es_St → es_St → Prop} (hsim : es_Sim P R Rel) {aX aM : Nat → Nat} (CX : es_CX p s m #[Value.ref b] c code RL 4 D [(cI, .int), (cZ, .boolean)] (es_wX aX cI cZ (es_NX P R)) aX 35 (fun q => s.heap.size ≤ q)) (CM : es_CX p s m #[Value.ref b] c code RL 4 D [(cI, .int), (cZ, .boolean)] (es_wM aM cI cZ es_NM) aM 21 (fun q => s.heap.size ≤ q)) (hdis : ∀ i j, i < 35 → j < 21 → aX i ≠ aM j) :
    ∀ (n i : Nat), i ≤ L + 5 → L + 6 ≤ i + n → ∀ (SX SM : es_St), Rel SX SM → ∀ (H : Heap) (locs : List Loc) (ls : Array Slot), va_P D vwCl (es_wX aX cI cZ (es_NX P R) SX) H → va_P D vwCl (es_wM aM cI cZ es_NM SM) H → va_S (fun q => s.heap.size ≤ q) s.heap H locs → lv_has ls 4 [(0, .ref b), (1, .ref (aX 0)), (2, .ref (aM 0)), (3, .int (nI i))] → W p l e room_1 s m #[Value.ref b] below meth c H locs 600000 7302250 (lw_Z below #[Value.ref b] s) (F0 m 38 ls []) := by
  obtain ⟨hx, hb, hr, hml, hown, hts, hX, hbl, hlocks, hgv⟩ := C0
  have hbA : ¬ (fun q : Nat => s.heap.size ≤ q) b := Nat.not_le.mpr hbl
  have hdis2 : ∀ i j, i < 21 → j < 35 → aM i ≠ aX j := fun i j hi hj h => hdis j i hj hi h.symm
  obtain ⟨h_append, h_drop, h_sort, h_distinct, h_join, h_size, h_key, h_tag, h_told, h_run⟩ := hsim
  intro n
  induction n with
  | zero =>
    intro i h1 h2
    exact absurd h2 (by omega)
  | succ n ih =>
    intro i hi hin SX SM hRel H locs ls hPX hPM hS hl
    refine lv_iload_n hx hb dL_law_38 rfl (lv_at hl 3 rfl) ?_
    refine lv_aload_n hx hb dL_law_39 rfl (lv_at hl 0 rfl) ?_
    refine va_slen hx hb hX hbl hbA hS dL_law_40 ?_
    refine lv_iconst (v := 5) hx hb dL_law_41 (by decide) ?_
    refine lv_isub hx hb dL_law_42 ?_
    refine lv_icmp_gt (tgt := 464) hx hb dL_law_43 (by decide) (fun c1 => ?_) (fun c1 => ?_)
    · refine lv_iconst (v := 1) hx hb dL_law_464 (by decide) ?_
      refine va_forget (fun q hq => hS.2.2 q hq) ?_
      exact lw_ret hx hb hr hlocks dL_law_465
    · have h5 : i + 5 ≤ L := es_go (by omega) hL c1
      obtain ⟨i0, i1, i2, i3, i4⟩ := es_in5 h5 hL
      have hnext : ∀ (SX SM : es_St), Rel SX SM → ∀ (H : Heap) (locs : List Loc) (ls : Array Slot), va_P D vwCl (es_wX aX cI cZ (es_NX P R) SX) H → va_P D vwCl (es_wM aM cI cZ es_NM SM) H → va_S (fun q => s.heap.size ≤ q) s.heap H locs → lv_has ls 4 [(0, .ref b), (1, .ref (aX 0)), (2, .ref (aM 0)), (3, .int (nI i))] → W p l e room_1 s m #[Value.ref b] below meth c H locs 600000 7302250 (lw_Z below #[Value.ref b] s) (F0 m 458 ls []) := by
        intro SX SM hRel H locs ls hPX hPM hS hl
        refine lv_iinc (v := nI (i + 5)) (lv' := [(3, .int (nI (i + 5))), (0, .ref b), (1, .ref (aX 0)), (2, .ref (aM 0))]) hx hb dL_law_458 hl (k := 3) rfl (nI_add i 5) (by decide) rfl (fun ls hl => ?_)
        refine lv_goto (tgt := 38) hx hb dL_law_461 (by decide) ?_
        exact ih (i + 5) (by omega) (by omega) SX SM hRel H locs ls hPX hPM hS (lv_sub hl [1, 2, 3, 0] rfl)
      refine lv_aload_n hx hb dL_law_46 rfl (lv_at hl 0 rfl) ?_
      refine lv_iload_n hx hb dL_law_47 rfl (lv_at hl 3 rfl) ?_
      refine va_sld hx hb hX hbl hbA hS i0 dL_law_48 ?_
      refine lv_bipush (v := 15) hx hb dL_law_49 (by decide) ?_
      refine lv_iand hx hb dL_law_51 ?_
      refine lv_topi (fun z ez => ?_)
      by_cases z0 : z = 0
      · refine lv_tableIn (off := 56) (tgt := 108) hx hb dL_law_52 (by rw [z0]; decide) (by rw [z0]; decide) (by rw [z0]; rfl) (by decide) ?_
        obtain ⟨fx, fm, r, SX1, SM1, hfx, hfm, hRel1⟩ := h_append SX SM hRel (xs (nI i + 1).toNatClampNeg) (xs (nI i + 2).toNatClampNeg) (xs (nI i + 3).toNatClampNeg)
        refine lv_aload_n hx hb dL_law_108 rfl (lv_at hl 1 rfl) ?_
        refine lv_aload_n hx hb dL_law_109 rfl (lv_at hl 0 rfl) ?_
        refine lv_iload_n hx hb dL_law_110 rfl (lv_at hl 3 rfl) ?_
        refine lv_iconst (v := 1) hx hb dL_law_111 (by decide) ?_
        refine lv_iadd hx hb dL_law_112 ?_
        refine va_sld hx hb hX hbl hbA hS i1 dL_law_113 ?_
        refine lv_aload_n hx hb dL_law_114 rfl (lv_at hl 0 rfl) ?_
        refine lv_iload_n hx hb dL_law_115 rfl (lv_at hl 3 rfl) ?_
        refine lv_iconst (v := 2) hx hb dL_law_116 (by decide) ?_
        refine lv_iadd hx hb dL_law_117 ?_
        refine va_sld hx hb hX hbl hbA hS i2 dL_law_118 ?_
        refine lv_aload_n hx hb dL_law_119 rfl (lv_at hl 0 rfl) ?_
        refine lv_iload_n hx hb dL_law_120 rfl (lv_at hl 3 rfl) ?_
        refine lv_iconst (v := 3) hx hb dL_law_121 (by decide) ?_
        refine lv_iadd hx hb dL_law_122 ?_
        refine va_sld hx hb hX hbl hbA hS i3 dL_law_123 ?_
        refine es_callVi CX (c_X7_append l D cI cZ aX (es_NX P R) _ fx SX SX1 (xs (nI i + 1).toNatClampNeg) (xs (nI i + 2).toNatClampNeg) (xs (nI i + 3).toNatClampNeg) r hfx) es_u7_13 es_mX7_append ⟨rfl, rfl, by decide, by decide⟩ ⟨Nat.le_refl _, Nat.le_refl _⟩ hPX hS (es_wX_0 aX cI cZ (es_NX P R) SX) rfl rfl hl.1 rfl (Nat.le_of_ble_eq_true rfl) dL_law_124 (fun H locs hz hk hPX hS => ?_)
        replace hPM := es_other (es_okM aM cI cZ es_NM) hPM hk hdis
        refine lv_aload_n hx hb dL_law_127 rfl (lv_at hl 2 rfl) ?_
        refine lv_aload_n hx hb dL_law_128 rfl (lv_at hl 0 rfl) ?_
        refine lv_iload_n hx hb dL_law_129 rfl (lv_at hl 3 rfl) ?_
        refine lv_iconst (v := 1) hx hb dL_law_130 (by decide) ?_
        refine lv_iadd hx hb dL_law_131 ?_
        refine va_sld hx hb hX hbl hbA hS i1 dL_law_132 ?_
        refine lv_aload_n hx hb dL_law_133 rfl (lv_at hl 0 rfl) ?_
        refine lv_iload_n hx hb dL_law_134 rfl (lv_at hl 3 rfl) ?_
        refine lv_iconst (v := 2) hx hb dL_law_135 (by decide) ?_
        refine lv_iadd hx hb dL_law_136 ?_
        refine va_sld hx hb hX hbl hbA hS i2 dL_law_137 ?_
        refine lv_aload_n hx hb dL_law_138 rfl (lv_at hl 0 rfl) ?_
        refine lv_iload_n hx hb dL_law_139 rfl (lv_at hl 3 rfl) ?_
        refine lv_iconst (v := 3) hx hb dL_law_140 (by decide) ?_
        refine lv_iadd hx hb dL_law_141 ?_
        refine va_sld hx hb hX hbl hbA hS i3 dL_law_142 ?_
        refine es_callVi CM (c_X8_append l D cI cZ aM es_NM _ fm SM SM1 (xs (nI i + 1).toNatClampNeg) (xs (nI i + 2).toNatClampNeg) (xs (nI i + 3).toNatClampNeg) r hfm) es_u9_9 es_mX8_append ⟨rfl, rfl, by decide, by decide⟩ ⟨Nat.le_refl _, Nat.le_refl _⟩ hPM hS (es_wM_0 aM cI cZ es_NM SM) rfl rfl hl.1 rfl (Nat.le_of_ble_eq_true rfl) dL_law_143 (fun H locs hz hk hPM hS => ?_)
        replace hPX := es_other (es_okX aX cI cZ (es_NX P R)) hPX hk hdis2
        refine lv_icmp_eq (tgt := 458) hx hb dL_law_146 (by decide) (fun _ => ?_) (fun c2 => absurd rfl c2)
        exact hnext SX1 SM1 hRel1 H locs ls hPX hPM hS hl
      by_cases z1 : z = 1
      · refine lv_tableIn (off := 99) (tgt := 151) hx hb dL_law_52 (by rw [z1]; decide) (by rw [z1]; decide) (by rw [z1]; rfl) (by decide) ?_
        obtain ⟨fx, fm, r, SX1, SM1, hfx, hfm, hRel1⟩ := h_drop SX SM hRel (xs (nI i + 1).toNatClampNeg)
        refine lv_aload_n hx hb dL_law_151 rfl (lv_at hl 1 rfl) ?_
        refine lv_aload_n hx hb dL_law_152 rfl (lv_at hl 0 rfl) ?_
        refine lv_iload_n hx hb dL_law_153 rfl (lv_at hl 3 rfl) ?_
        refine lv_iconst (v := 1) hx hb dL_law_154 (by decide) ?_
        refine lv_iadd hx hb dL_law_155 ?_
        refine va_sld hx hb hX hbl hbA hS i1 dL_law_156 ?_
        refine es_callVi CX (c_X7_drop l D cI cZ aX (es_NX P R) _ fx SX SX1 (xs (nI i + 1).toNatClampNeg) r hfx) es_u9_20 es_mX7_drop ⟨rfl, rfl, by decide, by decide⟩ ⟨Nat.le_refl _, Nat.le_refl _⟩ hPX hS (es_wX_0 aX cI cZ (es_NX P R) SX) rfl rfl hl.1 rfl (Nat.le_of_ble_eq_true rfl) dL_law_157 (fun H locs hz hk hPX hS => ?_)
        replace hPM := es_other (es_okM aM cI cZ es_NM) hPM hk hdis
        refine lv_aload_n hx hb dL_law_160 rfl (lv_at hl 2 rfl) ?_
        refine lv_aload_n hx hb dL_law_161 rfl (lv_at hl 0 rfl) ?_
        refine lv_iload_n hx hb dL_law_162 rfl (lv_at hl 3 rfl) ?_
        refine lv_iconst (v := 1) hx hb dL_law_163 (by decide) ?_
        refine lv_iadd hx hb dL_law_164 ?_
        refine va_sld hx hb hX hbl hbA hS i1 dL_law_165 ?_
        refine es_callVi CM (c_X8_drop l D cI cZ aM es_NM _ fm SM SM1 (xs (nI i + 1).toNatClampNeg) r hfm) es_u10_8 es_mX8_drop ⟨rfl, rfl, by decide, by decide⟩ ⟨Nat.le_refl _, Nat.le_refl _⟩ hPM hS (es_wM_0 aM cI cZ es_NM SM) rfl rfl hl.1 rfl (Nat.le_of_ble_eq_true rfl) dL_law_166 (fun H locs hz hk hPM hS => ?_)
        replace hPX := es_other (es_okX aX cI cZ (es_NX P R)) hPX hk hdis2
        refine lv_icmp_eq (tgt := 458) hx hb dL_law_169 (by decide) (fun _ => ?_) (fun c2 => absurd rfl c2)
        exact hnext SX1 SM1 hRel1 H locs ls hPX hPM hS hl
      by_cases z2 : z = 2
      · refine lv_tableIn (off := 122) (tgt := 174) hx hb dL_law_52 (by rw [z2]; decide) (by rw [z2]; decide) (by rw [z2]; rfl) (by decide) ?_
        obtain ⟨fx, fm, r, SX1, SM1, hfx, hfm, hRel1⟩ := h_sort SX SM hRel (xs (nI i + 1).toNatClampNeg) (xs (nI i + 2).toNatClampNeg) (xs (nI i + 3).toNatClampNeg) (xs (nI i + 4).toNatClampNeg)
        refine lv_aload_n hx hb dL_law_174 rfl (lv_at hl 1 rfl) ?_
        refine lv_aload_n hx hb dL_law_175 rfl (lv_at hl 0 rfl) ?_
        refine lv_iload_n hx hb dL_law_176 rfl (lv_at hl 3 rfl) ?_
        refine lv_iconst (v := 1) hx hb dL_law_177 (by decide) ?_
        refine lv_iadd hx hb dL_law_178 ?_
        refine va_sld hx hb hX hbl hbA hS i1 dL_law_179 ?_
        refine lv_aload_n hx hb dL_law_180 rfl (lv_at hl 0 rfl) ?_
        refine lv_iload_n hx hb dL_law_181 rfl (lv_at hl 3 rfl) ?_
        refine lv_iconst (v := 2) hx hb dL_law_182 (by decide) ?_
        refine lv_iadd hx hb dL_law_183 ?_
        refine va_sld hx hb hX hbl hbA hS i2 dL_law_184 ?_
        refine lv_aload_n hx hb dL_law_185 rfl (lv_at hl 0 rfl) ?_
        refine lv_iload_n hx hb dL_law_186 rfl (lv_at hl 3 rfl) ?_
        refine lv_iconst (v := 3) hx hb dL_law_187 (by decide) ?_
        refine lv_iadd hx hb dL_law_188 ?_
        refine va_sld hx hb hX hbl hbA hS i3 dL_law_189 ?_
        refine lv_aload_n hx hb dL_law_190 rfl (lv_at hl 0 rfl) ?_
        refine lv_iload_n hx hb dL_law_191 rfl (lv_at hl 3 rfl) ?_
        refine lv_iconst (v := 4) hx hb dL_law_192 (by decide) ?_
        refine lv_iadd hx hb dL_law_193 ?_
        refine va_sld hx hb hX hbl hbA hS i4 dL_law_194 ?_
        refine es_callVi CX (c_X7_sort l D cI cZ aX (es_NX P R) _ fx SX SX1 (xs (nI i + 1).toNatClampNeg) (xs (nI i + 2).toNatClampNeg) (xs (nI i + 3).toNatClampNeg) (xs (nI i + 4).toNatClampNeg) r hfx) es_u10_16 es_mX7_sort ⟨rfl, rfl, by decide, by decide⟩ ⟨Nat.le_refl _, Nat.le_refl _⟩ hPX hS (es_wX_0 aX cI cZ (es_NX P R) SX) rfl rfl hl.1 rfl (Nat.le_of_ble_eq_true rfl) dL_law_195 (fun H locs hz hk hPX hS => ?_)
        replace hPM := es_other (es_okM aM cI cZ es_NM) hPM hk hdis
        refine lv_aload_n hx hb dL_law_198 rfl (lv_at hl 2 rfl) ?_
        refine lv_aload_n hx hb dL_law_199 rfl (lv_at hl 0 rfl) ?_
        refine lv_iload_n hx hb dL_law_200 rfl (lv_at hl 3 rfl) ?_
        refine lv_iconst (v := 1) hx hb dL_law_201 (by decide) ?_
        refine lv_iadd hx hb dL_law_202 ?_
        refine va_sld hx hb hX hbl hbA hS i1 dL_law_203 ?_
        refine lv_aload_n hx hb dL_law_204 rfl (lv_at hl 0 rfl) ?_
        refine lv_iload_n hx hb dL_law_205 rfl (lv_at hl 3 rfl) ?_
        refine lv_iconst (v := 2) hx hb dL_law_206 (by decide) ?_
        refine lv_iadd hx hb dL_law_207 ?_
        refine va_sld hx hb hX hbl hbA hS i2 dL_law_208 ?_
        refine lv_aload_n hx hb dL_law_209 rfl (lv_at hl 0 rfl) ?_
        refine lv_iload_n hx hb dL_law_210 rfl (lv_at hl 3 rfl) ?_
        refine lv_iconst (v := 3) hx hb dL_law_211 (by decide) ?_
        refine lv_iadd hx hb dL_law_212 ?_
        refine va_sld hx hb hX hbl hbA hS i3 dL_law_213 ?_
        refine lv_aload_n hx hb dL_law_214 rfl (lv_at hl 0 rfl) ?_
        refine lv_iload_n hx hb dL_law_215 rfl (lv_at hl 3 rfl) ?_
        refine lv_iconst (v := 4) hx hb dL_law_216 (by decide) ?_
        refine lv_iadd hx hb dL_law_217 ?_
        refine va_sld hx hb hX hbl hbA hS i4 dL_law_218 ?_
        refine es_callVi CM (c_X8_sort l D cI cZ aM es_NM _ fm SM SM1 (xs (nI i + 1).toNatClampNeg) (xs (nI i + 2).toNatClampNeg) (xs (nI i + 3).toNatClampNeg) (xs (nI i + 4).toNatClampNeg) r hfm) es_u20_15 es_mX8_sort ⟨rfl, rfl, by decide, by decide⟩ ⟨Nat.le_refl _, Nat.le_refl _⟩ hPM hS (es_wM_0 aM cI cZ es_NM SM) rfl rfl hl.1 rfl (Nat.le_of_ble_eq_true rfl) dL_law_219 (fun H locs hz hk hPM hS => ?_)
        replace hPX := es_other (es_okX aX cI cZ (es_NX P R)) hPX hk hdis2
        refine lv_icmp_eq (tgt := 458) hx hb dL_law_222 (by decide) (fun _ => ?_) (fun c2 => absurd rfl c2)
        exact hnext SX1 SM1 hRel1 H locs ls hPX hPM hS hl
      by_cases z3 : z = 3
      · refine lv_tableIn (off := 175) (tgt := 227) hx hb dL_law_52 (by rw [z3]; decide) (by rw [z3]; decide) (by rw [z3]; rfl) (by decide) ?_
        obtain ⟨fx, fm, r, SX1, SM1, hfx, hfm, hRel1⟩ := h_distinct SX SM hRel (xs (nI i + 1).toNatClampNeg) (xs (nI i + 2).toNatClampNeg) (xs (nI i + 3).toNatClampNeg)
        refine lv_aload_n hx hb dL_law_227 rfl (lv_at hl 1 rfl) ?_
        refine lv_aload_n hx hb dL_law_228 rfl (lv_at hl 0 rfl) ?_
        refine lv_iload_n hx hb dL_law_229 rfl (lv_at hl 3 rfl) ?_
        refine lv_iconst (v := 1) hx hb dL_law_230 (by decide) ?_
        refine lv_iadd hx hb dL_law_231 ?_
        refine va_sld hx hb hX hbl hbA hS i1 dL_law_232 ?_
        refine lv_aload_n hx hb dL_law_233 rfl (lv_at hl 0 rfl) ?_
        refine lv_iload_n hx hb dL_law_234 rfl (lv_at hl 3 rfl) ?_
        refine lv_iconst (v := 2) hx hb dL_law_235 (by decide) ?_
        refine lv_iadd hx hb dL_law_236 ?_
        refine va_sld hx hb hX hbl hbA hS i2 dL_law_237 ?_
        refine lv_aload_n hx hb dL_law_238 rfl (lv_at hl 0 rfl) ?_
        refine lv_iload_n hx hb dL_law_239 rfl (lv_at hl 3 rfl) ?_
        refine lv_iconst (v := 3) hx hb dL_law_240 (by decide) ?_
        refine lv_iadd hx hb dL_law_241 ?_
        refine va_sld hx hb hX hbl hbA hS i3 dL_law_242 ?_
        refine es_callVi CX (c_X7_distinct l D cI cZ aX (es_NX P R) _ fx SX SX1 (xs (nI i + 1).toNatClampNeg) (xs (nI i + 2).toNatClampNeg) (xs (nI i + 3).toNatClampNeg) r hfx) es_u24_1 es_mX7_distinct ⟨rfl, rfl, by decide, by decide⟩ ⟨Nat.le_refl _, Nat.le_refl _⟩ hPX hS (es_wX_0 aX cI cZ (es_NX P R) SX) rfl rfl hl.1 rfl (Nat.le_of_ble_eq_true rfl) dL_law_243 (fun H locs hz hk hPX hS => ?_)
        replace hPM := es_other (es_okM aM cI cZ es_NM) hPM hk hdis
        refine lv_aload_n hx hb dL_law_246 rfl (lv_at hl 2 rfl) ?_
        refine lv_aload_n hx hb dL_law_247 rfl (lv_at hl 0 rfl) ?_
        refine lv_iload_n hx hb dL_law_248 rfl (lv_at hl 3 rfl) ?_
        refine lv_iconst (v := 1) hx hb dL_law_249 (by decide) ?_
        refine lv_iadd hx hb dL_law_250 ?_
        refine va_sld hx hb hX hbl hbA hS i1 dL_law_251 ?_
        refine lv_aload_n hx hb dL_law_252 rfl (lv_at hl 0 rfl) ?_
        refine lv_iload_n hx hb dL_law_253 rfl (lv_at hl 3 rfl) ?_
        refine lv_iconst (v := 2) hx hb dL_law_254 (by decide) ?_
        refine lv_iadd hx hb dL_law_255 ?_
        refine va_sld hx hb hX hbl hbA hS i2 dL_law_256 ?_
        refine lv_aload_n hx hb dL_law_257 rfl (lv_at hl 0 rfl) ?_
        refine lv_iload_n hx hb dL_law_258 rfl (lv_at hl 3 rfl) ?_
        refine lv_iconst (v := 3) hx hb dL_law_259 (by decide) ?_
        refine lv_iadd hx hb dL_law_260 ?_
        refine va_sld hx hb hX hbl hbA hS i3 dL_law_261 ?_
        refine es_callVi CM (c_X8_distinct l D cI cZ aM es_NM _ fm SM SM1 (xs (nI i + 1).toNatClampNeg) (xs (nI i + 2).toNatClampNeg) (xs (nI i + 3).toNatClampNeg) r hfm) es_u24_5 es_mX8_distinct ⟨rfl, rfl, by decide, by decide⟩ ⟨Nat.le_refl _, Nat.le_refl _⟩ hPM hS (es_wM_0 aM cI cZ es_NM SM) rfl rfl hl.1 rfl (Nat.le_of_ble_eq_true rfl) dL_law_262 (fun H locs hz hk hPM hS => ?_)
        replace hPX := es_other (es_okX aX cI cZ (es_NX P R)) hPX hk hdis2
        refine lv_icmp_eq (tgt := 458) hx hb dL_law_265 (by decide) (fun _ => ?_) (fun c2 => absurd rfl c2)
        exact hnext SX1 SM1 hRel1 H locs ls hPX hPM hS hl
      by_cases z4 : z = 4
      · refine lv_tableIn (off := 218) (tgt := 270) hx hb dL_law_52 (by rw [z4]; decide) (by rw [z4]; decide) (by rw [z4]; rfl) (by decide) ?_
        obtain ⟨fx, fm, r, SX1, SM1, hfx, hfm, hRel1⟩ := h_join SX SM hRel (xs (nI i + 1).toNatClampNeg) (xs (nI i + 2).toNatClampNeg) (xs (nI i + 3).toNatClampNeg) (xs (nI i + 4).toNatClampNeg)
        refine lv_aload_n hx hb dL_law_270 rfl (lv_at hl 1 rfl) ?_
        refine lv_aload_n hx hb dL_law_271 rfl (lv_at hl 0 rfl) ?_
        refine lv_iload_n hx hb dL_law_272 rfl (lv_at hl 3 rfl) ?_
        refine lv_iconst (v := 1) hx hb dL_law_273 (by decide) ?_
        refine lv_iadd hx hb dL_law_274 ?_
        refine va_sld hx hb hX hbl hbA hS i1 dL_law_275 ?_
        refine lv_aload_n hx hb dL_law_276 rfl (lv_at hl 0 rfl) ?_
        refine lv_iload_n hx hb dL_law_277 rfl (lv_at hl 3 rfl) ?_
        refine lv_iconst (v := 2) hx hb dL_law_278 (by decide) ?_
        refine lv_iadd hx hb dL_law_279 ?_
        refine va_sld hx hb hX hbl hbA hS i2 dL_law_280 ?_
        refine lv_aload_n hx hb dL_law_281 rfl (lv_at hl 0 rfl) ?_
        refine lv_iload_n hx hb dL_law_282 rfl (lv_at hl 3 rfl) ?_
        refine lv_iconst (v := 3) hx hb dL_law_283 (by decide) ?_
        refine lv_iadd hx hb dL_law_284 ?_
        refine va_sld hx hb hX hbl hbA hS i3 dL_law_285 ?_
        refine lv_aload_n hx hb dL_law_286 rfl (lv_at hl 0 rfl) ?_
        refine lv_iload_n hx hb dL_law_287 rfl (lv_at hl 3 rfl) ?_
        refine lv_iconst (v := 4) hx hb dL_law_288 (by decide) ?_
        refine lv_iadd hx hb dL_law_289 ?_
        refine va_sld hx hb hX hbl hbA hS i4 dL_law_290 ?_
        refine es_callVi CX (c_X7_join l D cI cZ aX (es_NX P R) _ fx SX SX1 (xs (nI i + 1).toNatClampNeg) (xs (nI i + 2).toNatClampNeg) (xs (nI i + 3).toNatClampNeg) (xs (nI i + 4).toNatClampNeg) r hfx) es_u24_9 es_mX7_join ⟨rfl, rfl, by decide, by decide⟩ ⟨Nat.le_refl _, Nat.le_refl _⟩ hPX hS (es_wX_0 aX cI cZ (es_NX P R) SX) rfl rfl hl.1 rfl (Nat.le_of_ble_eq_true rfl) dL_law_291 (fun H locs hz hk hPX hS => ?_)
        replace hPM := es_other (es_okM aM cI cZ es_NM) hPM hk hdis
        refine lv_aload_n hx hb dL_law_294 rfl (lv_at hl 2 rfl) ?_
        refine lv_aload_n hx hb dL_law_295 rfl (lv_at hl 0 rfl) ?_
        refine lv_iload_n hx hb dL_law_296 rfl (lv_at hl 3 rfl) ?_
        refine lv_iconst (v := 1) hx hb dL_law_297 (by decide) ?_
        refine lv_iadd hx hb dL_law_298 ?_
        refine va_sld hx hb hX hbl hbA hS i1 dL_law_299 ?_
        refine lv_aload_n hx hb dL_law_300 rfl (lv_at hl 0 rfl) ?_
        refine lv_iload_n hx hb dL_law_301 rfl (lv_at hl 3 rfl) ?_
        refine lv_iconst (v := 2) hx hb dL_law_302 (by decide) ?_
        refine lv_iadd hx hb dL_law_303 ?_
        refine va_sld hx hb hX hbl hbA hS i2 dL_law_304 ?_
        refine lv_aload_n hx hb dL_law_305 rfl (lv_at hl 0 rfl) ?_
        refine lv_iload_n hx hb dL_law_306 rfl (lv_at hl 3 rfl) ?_
        refine lv_iconst (v := 3) hx hb dL_law_307 (by decide) ?_
        refine lv_iadd hx hb dL_law_308 ?_
        refine va_sld hx hb hX hbl hbA hS i3 dL_law_309 ?_
        refine lv_aload_n hx hb dL_law_310 rfl (lv_at hl 0 rfl) ?_
        refine lv_iload_n hx hb dL_law_311 rfl (lv_at hl 3 rfl) ?_
        refine lv_iconst (v := 4) hx hb dL_law_312 (by decide) ?_
        refine lv_iadd hx hb dL_law_313 ?_
        refine va_sld hx hb hX hbl hbA hS i4 dL_law_314 ?_
        refine es_callVi CM (c_X8_join l D cI cZ aM es_NM _ fm SM SM1 (xs (nI i + 1).toNatClampNeg) (xs (nI i + 2).toNatClampNeg) (xs (nI i + 3).toNatClampNeg) (xs (nI i + 4).toNatClampNeg) r hfm) es_u27_13 es_mX8_join ⟨rfl, rfl, by decide, by decide⟩ ⟨Nat.le_refl _, Nat.le_refl _⟩ hPM hS (es_wM_0 aM cI cZ es_NM SM) rfl rfl hl.1 rfl (Nat.le_of_ble_eq_true rfl) dL_law_315 (fun H locs hz hk hPM hS => ?_)
        replace hPX := es_other (es_okX aX cI cZ (es_NX P R)) hPX hk hdis2
        refine lv_icmp_eq (tgt := 458) hx hb dL_law_318 (by decide) (fun _ => ?_) (fun c2 => absurd rfl c2)
        exact hnext SX1 SM1 hRel1 H locs ls hPX hPM hS hl
      by_cases z5 : z = 5
      · refine lv_tableIn (off := 271) (tgt := 323) hx hb dL_law_52 (by rw [z5]; decide) (by rw [z5]; decide) (by rw [z5]; rfl) (by decide) ?_
        obtain ⟨fx, fm, r, SX1, SM1, hfx, hfm, hRel1⟩ := h_size SX SM hRel (xs (nI i + 1).toNatClampNeg)
        refine lv_aload_n hx hb dL_law_323 rfl (lv_at hl 1 rfl) ?_
        refine lv_aload_n hx hb dL_law_324 rfl (lv_at hl 0 rfl) ?_
        refine lv_iload_n hx hb dL_law_325 rfl (lv_at hl 3 rfl) ?_
        refine lv_iconst (v := 1) hx hb dL_law_326 (by decide) ?_
        refine lv_iadd hx hb dL_law_327 ?_
        refine va_sld hx hb hX hbl hbA hS i1 dL_law_328 ?_
        refine es_callVi CX (c_X7_size l D cI cZ aX (es_NX P R) _ fx SX SX1 (xs (nI i + 1).toNatClampNeg) r hfx) es_u28_1 es_mX7_size ⟨rfl, rfl, by decide, by decide⟩ ⟨Nat.le_refl _, Nat.le_refl _⟩ hPX hS (es_wX_0 aX cI cZ (es_NX P R) SX) rfl rfl hl.1 rfl (Nat.le_of_ble_eq_true rfl) dL_law_329 (fun H locs hz hk hPX hS => ?_)
        replace hPM := es_other (es_okM aM cI cZ es_NM) hPM hk hdis
        refine lv_aload_n hx hb dL_law_332 rfl (lv_at hl 2 rfl) ?_
        refine lv_aload_n hx hb dL_law_333 rfl (lv_at hl 0 rfl) ?_
        refine lv_iload_n hx hb dL_law_334 rfl (lv_at hl 3 rfl) ?_
        refine lv_iconst (v := 1) hx hb dL_law_335 (by decide) ?_
        refine lv_iadd hx hb dL_law_336 ?_
        refine va_sld hx hb hX hbl hbA hS i1 dL_law_337 ?_
        refine es_callVi CM (c_X8_size l D cI cZ aM es_NM _ fm SM SM1 (xs (nI i + 1).toNatClampNeg) r hfm) es_u28_5 es_mX8_size ⟨rfl, rfl, by decide, by decide⟩ ⟨Nat.le_refl _, Nat.le_refl _⟩ hPM hS (es_wM_0 aM cI cZ es_NM SM) rfl rfl hl.1 rfl (Nat.le_of_ble_eq_true rfl) dL_law_338 (fun H locs hz hk hPM hS => ?_)
        replace hPX := es_other (es_okX aX cI cZ (es_NX P R)) hPX hk hdis2
        refine lv_icmp_eq (tgt := 458) hx hb dL_law_341 (by decide) (fun _ => ?_) (fun c2 => absurd rfl c2)
        exact hnext SX1 SM1 hRel1 H locs ls hPX hPM hS hl
      by_cases z6 : z = 6
      · refine lv_tableIn (off := 294) (tgt := 346) hx hb dL_law_52 (by rw [z6]; decide) (by rw [z6]; decide) (by rw [z6]; rfl) (by decide) ?_
        obtain ⟨fx, fm, r, SX1, SM1, hfx, hfm, hRel1⟩ := h_key SX SM hRel (xs (nI i + 1).toNatClampNeg) (xs (nI i + 2).toNatClampNeg)
        refine lv_aload_n hx hb dL_law_346 rfl (lv_at hl 1 rfl) ?_
        refine lv_aload_n hx hb dL_law_347 rfl (lv_at hl 0 rfl) ?_
        refine lv_iload_n hx hb dL_law_348 rfl (lv_at hl 3 rfl) ?_
        refine lv_iconst (v := 1) hx hb dL_law_349 (by decide) ?_
        refine lv_iadd hx hb dL_law_350 ?_
        refine va_sld hx hb hX hbl hbA hS i1 dL_law_351 ?_
        refine lv_aload_n hx hb dL_law_352 rfl (lv_at hl 0 rfl) ?_
        refine lv_iload_n hx hb dL_law_353 rfl (lv_at hl 3 rfl) ?_
        refine lv_iconst (v := 2) hx hb dL_law_354 (by decide) ?_
        refine lv_iadd hx hb dL_law_355 ?_
        refine va_sld hx hb hX hbl hbA hS i2 dL_law_356 ?_
        refine es_callVi CX (c_X7_key l D cI cZ aX (es_NX P R) _ fx SX SX1 (xs (nI i + 1).toNatClampNeg) (xs (nI i + 2).toNatClampNeg) r hfx) es_u28_9 es_mX7_key ⟨rfl, rfl, by decide, by decide⟩ ⟨Nat.le_refl _, Nat.le_refl _⟩ hPX hS (es_wX_0 aX cI cZ (es_NX P R) SX) rfl rfl hl.1 rfl (Nat.le_of_ble_eq_true rfl) dL_law_357 (fun H locs hz hk hPX hS => ?_)
        replace hPM := es_other (es_okM aM cI cZ es_NM) hPM hk hdis
        refine lv_aload_n hx hb dL_law_360 rfl (lv_at hl 2 rfl) ?_
        refine lv_aload_n hx hb dL_law_361 rfl (lv_at hl 0 rfl) ?_
        refine lv_iload_n hx hb dL_law_362 rfl (lv_at hl 3 rfl) ?_
        refine lv_iconst (v := 1) hx hb dL_law_363 (by decide) ?_
        refine lv_iadd hx hb dL_law_364 ?_
        refine va_sld hx hb hX hbl hbA hS i1 dL_law_365 ?_
        refine lv_aload_n hx hb dL_law_366 rfl (lv_at hl 0 rfl) ?_
        refine lv_iload_n hx hb dL_law_367 rfl (lv_at hl 3 rfl) ?_
        refine lv_iconst (v := 2) hx hb dL_law_368 (by decide) ?_
        refine lv_iadd hx hb dL_law_369 ?_
        refine va_sld hx hb hX hbl hbA hS i2 dL_law_370 ?_
        refine es_callVi CM (c_X8_key l D cI cZ aM es_NM _ fm SM SM1 (xs (nI i + 1).toNatClampNeg) (xs (nI i + 2).toNatClampNeg) r hfm) es_u28_18 es_mX8_key ⟨rfl, rfl, by decide, by decide⟩ ⟨Nat.le_refl _, Nat.le_refl _⟩ hPM hS (es_wM_0 aM cI cZ es_NM SM) rfl rfl hl.1 rfl (Nat.le_of_ble_eq_true rfl) dL_law_371 (fun H locs hz hk hPM hS => ?_)
        replace hPX := es_other (es_okX aX cI cZ (es_NX P R)) hPX hk hdis2
        refine lv_icmp_eq (tgt := 458) hx hb dL_law_374 (by decide) (fun _ => ?_) (fun c2 => absurd rfl c2)
        exact hnext SX1 SM1 hRel1 H locs ls hPX hPM hS hl
      by_cases z7 : z = 7
      · refine lv_tableIn (off := 327) (tgt := 379) hx hb dL_law_52 (by rw [z7]; decide) (by rw [z7]; decide) (by rw [z7]; rfl) (by decide) ?_
        obtain ⟨fx, fm, r, SX1, SM1, hfx, hfm, hRel1⟩ := h_tag SX SM hRel (xs (nI i + 1).toNatClampNeg) (xs (nI i + 2).toNatClampNeg)
        refine lv_aload_n hx hb dL_law_379 rfl (lv_at hl 1 rfl) ?_
        refine lv_aload_n hx hb dL_law_380 rfl (lv_at hl 0 rfl) ?_
        refine lv_iload_n hx hb dL_law_381 rfl (lv_at hl 3 rfl) ?_
        refine lv_iconst (v := 1) hx hb dL_law_382 (by decide) ?_
        refine lv_iadd hx hb dL_law_383 ?_
        refine va_sld hx hb hX hbl hbA hS i1 dL_law_384 ?_
        refine lv_aload_n hx hb dL_law_385 rfl (lv_at hl 0 rfl) ?_
        refine lv_iload_n hx hb dL_law_386 rfl (lv_at hl 3 rfl) ?_
        refine lv_iconst (v := 2) hx hb dL_law_387 (by decide) ?_
        refine lv_iadd hx hb dL_law_388 ?_
        refine va_sld hx hb hX hbl hbA hS i2 dL_law_389 ?_
        refine es_callVi CX (c_X7_tag l D cI cZ aX (es_NX P R) _ fx SX SX1 (xs (nI i + 1).toNatClampNeg) (xs (nI i + 2).toNatClampNeg) r hfx) es_u28_22 es_mX7_tag ⟨rfl, rfl, by decide, by decide⟩ ⟨Nat.le_refl _, Nat.le_refl _⟩ hPX hS (es_wX_0 aX cI cZ (es_NX P R) SX) rfl rfl hl.1 rfl (Nat.le_of_ble_eq_true rfl) dL_law_390 (fun H locs hz hk hPX hS => ?_)
        replace hPM := es_other (es_okM aM cI cZ es_NM) hPM hk hdis
        refine lv_aload_n hx hb dL_law_393 rfl (lv_at hl 2 rfl) ?_
        refine lv_aload_n hx hb dL_law_394 rfl (lv_at hl 0 rfl) ?_
        refine lv_iload_n hx hb dL_law_395 rfl (lv_at hl 3 rfl) ?_
        refine lv_iconst (v := 1) hx hb dL_law_396 (by decide) ?_
        refine lv_iadd hx hb dL_law_397 ?_
        refine va_sld hx hb hX hbl hbA hS i1 dL_law_398 ?_
        refine lv_aload_n hx hb dL_law_399 rfl (lv_at hl 0 rfl) ?_
        refine lv_iload_n hx hb dL_law_400 rfl (lv_at hl 3 rfl) ?_
        refine lv_iconst (v := 2) hx hb dL_law_401 (by decide) ?_
        refine lv_iadd hx hb dL_law_402 ?_
        refine va_sld hx hb hX hbl hbA hS i2 dL_law_403 ?_
        refine es_callVi CM (c_X8_tag l D cI cZ aM es_NM _ fm SM SM1 (xs (nI i + 1).toNatClampNeg) (xs (nI i + 2).toNatClampNeg) r hfm) es_u29_3 es_mX8_tag ⟨rfl, rfl, by decide, by decide⟩ ⟨Nat.le_refl _, Nat.le_refl _⟩ hPM hS (es_wM_0 aM cI cZ es_NM SM) rfl rfl hl.1 rfl (Nat.le_of_ble_eq_true rfl) dL_law_404 (fun H locs hz hk hPM hS => ?_)
        replace hPX := es_other (es_okX aX cI cZ (es_NX P R)) hPX hk hdis2
        refine lv_icmp_eq (tgt := 458) hx hb dL_law_407 (by decide) (fun _ => ?_) (fun c2 => absurd rfl c2)
        exact hnext SX1 SM1 hRel1 H locs ls hPX hPM hS hl
      by_cases z8 : z = 8
      · refine lv_tableIn (off := 360) (tgt := 412) hx hb dL_law_52 (by rw [z8]; decide) (by rw [z8]; decide) (by rw [z8]; rfl) (by decide) ?_
        obtain ⟨fx, fm, r, SX1, SM1, hfx, hfm, hRel1⟩ := h_told SX SM hRel (xs (nI i + 1).toNatClampNeg)
        refine lv_aload_n hx hb dL_law_412 rfl (lv_at hl 1 rfl) ?_
        refine lv_aload_n hx hb dL_law_413 rfl (lv_at hl 0 rfl) ?_
        refine lv_iload_n hx hb dL_law_414 rfl (lv_at hl 3 rfl) ?_
        refine lv_iconst (v := 1) hx hb dL_law_415 (by decide) ?_
        refine lv_iadd hx hb dL_law_416 ?_
        refine va_sld hx hb hX hbl hbA hS i1 dL_law_417 ?_
        refine es_callVi CX (c_X7_told l D cI cZ aX (es_NX P R) _ fx SX SX1 (xs (nI i + 1).toNatClampNeg) r hfx) es_u29_7 es_mX7_told ⟨rfl, rfl, by decide, by decide⟩ ⟨Nat.le_refl _, Nat.le_refl _⟩ hPX hS (es_wX_0 aX cI cZ (es_NX P R) SX) rfl rfl hl.1 rfl (Nat.le_of_ble_eq_true rfl) dL_law_418 (fun H locs hz hk hPX hS => ?_)
        replace hPM := es_other (es_okM aM cI cZ es_NM) hPM hk hdis
        refine lv_aload_n hx hb dL_law_421 rfl (lv_at hl 2 rfl) ?_
        refine lv_aload_n hx hb dL_law_422 rfl (lv_at hl 0 rfl) ?_
        refine lv_iload_n hx hb dL_law_423 rfl (lv_at hl 3 rfl) ?_
        refine lv_iconst (v := 1) hx hb dL_law_424 (by decide) ?_
        refine lv_iadd hx hb dL_law_425 ?_
        refine va_sld hx hb hX hbl hbA hS i1 dL_law_426 ?_
        refine es_callVi CM (c_X8_told l D cI cZ aM es_NM _ fm SM SM1 (xs (nI i + 1).toNatClampNeg) r hfm) es_u29_19 es_mX8_told ⟨rfl, rfl, by decide, by decide⟩ ⟨Nat.le_refl _, Nat.le_refl _⟩ hPM hS (es_wM_0 aM cI cZ es_NM SM) rfl rfl hl.1 rfl (Nat.le_of_ble_eq_true rfl) dL_law_427 (fun H locs hz hk hPM hS => ?_)
        replace hPX := es_other (es_okX aX cI cZ (es_NX P R)) hPX hk hdis2
        refine lv_icmp_eq (tgt := 458) hx hb dL_law_430 (by decide) (fun _ => ?_) (fun c2 => absurd rfl c2)
        exact hnext SX1 SM1 hRel1 H locs ls hPX hPM hS hl
      by_cases z9 : z = 9
      · refine lv_tableIn (off := 383) (tgt := 435) hx hb dL_law_52 (by rw [z9]; decide) (by rw [z9]; decide) (by rw [z9]; rfl) (by decide) ?_
        obtain ⟨fx, fm, r, SX1, SM1, hfx, hfm, hRel1⟩ := h_run SX SM hRel (xs (nI i + 1).toNatClampNeg)
        refine lv_aload_n hx hb dL_law_435 rfl (lv_at hl 1 rfl) ?_
        refine lv_aload_n hx hb dL_law_436 rfl (lv_at hl 0 rfl) ?_
        refine lv_iload_n hx hb dL_law_437 rfl (lv_at hl 3 rfl) ?_
        refine lv_iconst (v := 1) hx hb dL_law_438 (by decide) ?_
        refine lv_iadd hx hb dL_law_439 ?_
        refine va_sld hx hb hX hbl hbA hS i1 dL_law_440 ?_
        refine es_callVi CX (c_X7_run l D cI cZ aX (es_NX P R) _ fx SX SX1 (xs (nI i + 1).toNatClampNeg) r hfx) es_u29_23 es_mX7_run ⟨rfl, rfl, by decide, by decide⟩ ⟨Nat.le_refl _, Nat.le_refl _⟩ hPX hS (es_wX_0 aX cI cZ (es_NX P R) SX) rfl rfl hl.1 rfl (Nat.le_of_ble_eq_true rfl) dL_law_441 (fun H locs hz hk hPX hS => ?_)
        replace hPM := es_other (es_okM aM cI cZ es_NM) hPM hk hdis
        refine lv_aload_n hx hb dL_law_444 rfl (lv_at hl 2 rfl) ?_
        refine lv_aload_n hx hb dL_law_445 rfl (lv_at hl 0 rfl) ?_
        refine lv_iload_n hx hb dL_law_446 rfl (lv_at hl 3 rfl) ?_
        refine lv_iconst (v := 1) hx hb dL_law_447 (by decide) ?_
        refine lv_iadd hx hb dL_law_448 ?_
        refine va_sld hx hb hX hbl hbA hS i1 dL_law_449 ?_
        refine es_callVi CM (c_X8_run l D cI cZ aM es_NM _ fm SM SM1 (xs (nI i + 1).toNatClampNeg) r hfm) es_u30_7 es_mX8_run ⟨rfl, rfl, by decide, by decide⟩ ⟨Nat.le_refl _, Nat.le_refl _⟩ hPM hS (es_wM_0 aM cI cZ es_NM SM) rfl rfl hl.1 rfl (Nat.le_of_ble_eq_true rfl) dL_law_450 (fun H locs hz hk hPM hS => ?_)
        replace hPX := es_other (es_okX aX cI cZ (es_NX P R)) hPX hk hdis2
        refine lv_icmp_eq (tgt := 458) hx hb dL_law_453 (by decide) (fun _ => ?_) (fun c2 => absurd rfl c2)
        exact hnext SX1 SM1 hRel1 H locs ls hPX hPM hS hl
      refine lv_tableOut (tgt := 458) hx hb dL_law_52 (es_tabout0_9 z0 z1 z2 z3 z4 z5 z6 z7 z8 z9) (by decide) ?_
      exact hnext SX SM hRel H locs ls hPX hPM hS hl
set_option maxHeartbeats 8000000 in
set_option maxRecDepth 100000 in
theorem whole_start_open (hpure : es_PURE) {p : Program} {e : Env} {s : State} {m : MethodId} {below : List Frame} {meth : Method} {c : Code} (l : Launch) {b L : Nat} {xs : Nat → Int32} (hL : L ≤ 2562) (C0 : lw_At p s m meth c b L xs) : W p l e room_1 s m #[Value.ref b] below meth c s.heap [] 0 0 (lw_Z below #[Value.ref b] s) (entryFrame m ([Value.ref b] : List Value).toArray 4) := by
  obtain ⟨hx, hb, hr, hml, hown, hts, hX, hbl, hlocks, hgv⟩ := id C0
  have hA : ∀ q : Nat, s.heap.size ≤ q → (fun q : Nat => s.heap.size ≤ q) q := fun _ h => h
  obtain ⟨c0, iS0, hKn0⟩ := u_known (C := RX0) (T := TX0) (N := 9) (n := 9) hts lw_lay0 (hts _ (lw_law _ es_u2_8))
  obtain ⟨c1, iS1, hKn1⟩ := u_known (C := RX1) (T := TX1) (N := 7) (n := 7) hts lw_lay1 (hts _ (lw_law _ es_u4_10))
  obtain ⟨c2, iS2, hKn2⟩ := u_known (C := RX2) (T := TX2) (N := 10) (n := 10) hts lw_lay2 (hts _ (lw_law _ es_u2_20))
  obtain ⟨c3, iS3, hKn3⟩ := u_known (C := RX3) (T := TX3) (N := 7) (n := 7) hts lw_lay3 (hts _ (lw_law _ es_u4_14))
  obtain ⟨c4, iS4, hKn4⟩ := u_known (C := RX4) (T := TX4) (N := 10) (n := 10) hts lw_lay4 (hts _ (lw_law _ es_u2_12))
  obtain ⟨c5, iS5, hKn5⟩ := u_known (C := RX5) (T := TX5) (N := 12) (n := 12) hts lw_lay5 (hts _ (lw_law _ es_u2_16))
  obtain ⟨c6, iS6, hKn6⟩ := u_known (C := RX6) (T := TX6) (N := 6) (n := 6) hts lw_lay6 (hts _ (lw_law _ es_u2_3))
  obtain ⟨c7, iS7, hKn7⟩ := u_known (C := RX7) (T := TX7) (N := 8) (n := 8) hts lw_lay7 (hts _ (lw_law _ es_u1_1))
  obtain ⟨c8, iS8, hKn8⟩ := u_known (C := RX8) (T := TX8) (N := 37) (n := 37) hts lw_lay8 (hts _ (lw_law _ es_u1_4))
  obtain ⟨D, hKc⟩ : ∃ D : va_G, ∀ (k : Nat) (q : vw_C), vwCl[k]? = some q → u_Kn s q.1 q.2.1 q.2.2 (D.1 k) (D.2 k) := by
    refine ⟨(fun k => if k = 0 then c0 else if k = 1 then c1 else if k = 2 then c2 else if k = 3 then c3 else if k = 4 then c4 else if k = 5 then c5 else if k = 6 then c6 else if k = 7 then c7 else c8, fun k => if k = 0 then iS0 else if k = 1 then iS1 else if k = 2 then iS2 else if k = 3 then iS3 else if k = 4 then iS4 else if k = 5 then iS5 else if k = 6 then iS6 else if k = 7 then iS7 else iS8), ?_⟩
    intro k q hq
    match k, hq with
    | 0, hq => cases hq; exact hKn0
    | 1, hq => cases hq; exact hKn1
    | 2, hq => cases hq; exact hKn2
    | 3, hq => cases hq; exact hKn3
    | 4, hq => cases hq; exact hKn4
    | 5, hq => cases hq; exact hKn5
    | 6, hq => cases hq; exact hKn6
    | 7, hq => cases hq; exact hKn7
    | 8, hq => cases hq; exact hKn8
    | k + 9, hq => simp [vwCl] at hq
  obtain ⟨cI, hI1, hI2⟩ := es_arr (Or.inl rfl) (hts _ (lw_law _ es_u1_16))
  obtain ⟨cZ, hZ1, hZ2⟩ := es_arr (Or.inr rfl) (hts _ (lw_law _ es_u6_21))
  have hK : va_K D vwCl [(cI, .int), (cZ, .boolean)] s := ⟨hKc, fun k q h => by
    match k, h with
    | 0, h => cases h; exact ⟨hI1, hI2⟩
    | 1, h => cases h; exact ⟨hZ1, hZ2⟩
    | k + 2, h => simp at h⟩
  have hN : es_NW s := ⟨va_Nw.of rfl (hts _ lw_nest0), va_Nw.of rfl (hts _ lw_nest1)⟩
  have C : es_CL p s m #[Value.ref b] c code RL 4 D [(cI, .int), (cZ, .boolean)] (fun q => s.heap.size ≤ q) := ⟨hx, hb, hml, hown, fun w h => hts w (lw_law w h), hK, hA, hN⟩
  have hS : va_S (fun q : Nat => s.heap.size ≤ q) s.heap s.heap [] := va_S.rf
  have hP : va_P D vwCl [] s.heap := fun k q h => by simp at h
  have hD : va_D (fun q : Nat => s.heap.size ≤ q) [] := ⟨fun i j p q h => by simp at h, fun k q h => by simp at h⟩
  have hl := lv_entry ([.ref b]) (n := 4) (Nat.le_of_ble_eq_true rfl)
  rw [lg_entry_eq]
  generalize (lg_sl ([.ref b]) ++ List.replicate (4 - (lg_sl ([.ref b])).length) Slot.unset).toArray = ls at hl ⊢
  have hl : lv_has ls 4 [(0, .ref b)] := hl
  obtain ⟨P, hP1, hP2, hpX, hpM⟩ := es_clamp 512 (by decide) (by decide) (if nI L ≤ 0 then 0 else xs (0 : Int32).toNatClampNeg) 512 rfl
  obtain ⟨R, hR1, hR2, hqX, hqM⟩ := es_clamp 16 (by decide) (by decide) (if nI L ≤ 1 then 0 else xs (1 : Int32).toNatClampNeg) 16 rfl
  obtain ⟨Rel, hRel0, hsim⟩ := hpure P R ⟨hP1, hP2, hR1, hR2⟩
  refine es_newO C inlX7 tyX7_ok es_u1_0 es_u1_1 es_u1_2 hP hD hS (ci := 7) rfl [.null, .null, .null, .null, .null, .null, .null, .null] (fun j hj => by rcases (show j = 0 ∨ j = 1 ∨ j = 2 ∨ j = 3 ∨ j = 4 ∨ j = 5 ∨ j = 6 ∨ j = 7 by omega) with rfl | rfl | rfl | rfl | rfl | rfl | rfl | rfl <;> rfl) (c1 := 1) (s1 := 8) (by decide) (by decide) (by decide) (by decide) dL_law_0 (fun qX H hP hD hS => ?_)
  refine lv_dup hx hb dL_law_3 rfl ?_
  refine lv_aload_n hx hb dL_law_4 rfl (lv_at hl 0 rfl) ?_
  refine lv_iconst (v := 0) hx hb dL_law_5 (by decide) ?_
  refine es_cell C hX hbl (by omega) 0 (by decide) ⟨by decide, by decide⟩ ⟨by decide, by decide⟩ hP hS hl.1 (Nat.le_of_ble_eq_true rfl) dL_law_6 (fun H locs hP hS => ?_)
  refine lv_aload_n hx hb dL_law_9 rfl (lv_at hl 0 rfl) ?_
  refine lv_iconst (v := 1) hx hb dL_law_10 (by decide) ?_
  refine es_cell C hX hbl (by omega) 1 (by decide) ⟨by decide, by decide⟩ ⟨by decide, by decide⟩ hP hS hl.1 (Nat.le_of_ble_eq_true rfl) dL_law_11 (fun H locs hP hS => ?_)
  refine es_callI C (k_X7_init l D cI cZ _ qX P R (if nI L ≤ 0 then 0 else xs (0 : Int32).toNatClampNeg) (if nI L ≤ 1 then 0 else xs (1 : Int32).toNatClampNeg) ⟨hP1, hP2, hR1, hR2⟩ hpX hqX) es_u1_10 es_kX7_init ⟨rfl, rfl, by decide, by decide⟩ hP hD hS [0] [] (wc := [(qX, .inr (7, [.null, .null, .null, .null, .null, .null, .null, .null]))]) (wr := ([] : va_W)) rfl rfl (by decide) (by decide) (by decide) rfl hl.1 rfl (Nat.le_of_ble_eq_true rfl) (c1 := 35) (s1 := 60008) (by decide) (by decide) (by decide) (by decide) dL_law_14 (fun aX H1 locs1 eX hP1v hD1v hS1v => ?_)
  subst eX
  clear hP hD hS
  have hP := hP1v
  have hD := hD1v
  have hS := hS1v
  clear hP1v hD1v hS1v
  generalize H1 = H at hP hS ⊢
  generalize locs1 = locs at hS ⊢
  replace hP : va_P D vwCl (es_wX aX cI cZ (es_NX P R) (es_S0X P R)) H := hP
  replace hD : va_D (fun q : Nat => s.heap.size ≤ q) (es_wX aX cI cZ (es_NX P R) (es_S0X P R)) := hD
  refine lv_astore_n (lv' := [(1, .ref (aX 0)), (0, .ref b)]) hx hb dL_law_17 rfl hl (by decide) rfl (fun ls hl => ?_)
  refine es_newO C inlX8 tyX8_ok es_u1_3 es_u1_4 es_u1_5 hP hD hS (ci := 8) rfl [.int 0, .int 0, .null, .null, .null, .int 0, .int 0, .int 0, .int 0, .int 0, .int 0, .int 0, .null, .null, .int 0, .int 0, .null, .null, .int 0, .null, .null, .null, .null, .int 0, .int 0, .int 0, .null, .null, .int 0, .int 0, .null, .null, .null, .null, .null, .null, .null] (fun j hj => by rcases (show j = 0 ∨ j = 1 ∨ j = 2 ∨ j = 3 ∨ j = 4 ∨ j = 5 ∨ j = 6 ∨ j = 7 ∨ j = 8 ∨ j = 9 ∨ j = 10 ∨ j = 11 ∨ j = 12 ∨ j = 13 ∨ j = 14 ∨ j = 15 ∨ j = 16 ∨ j = 17 ∨ j = 18 ∨ j = 19 ∨ j = 20 ∨ j = 21 ∨ j = 22 ∨ j = 23 ∨ j = 24 ∨ j = 25 ∨ j = 26 ∨ j = 27 ∨ j = 28 ∨ j = 29 ∨ j = 30 ∨ j = 31 ∨ j = 32 ∨ j = 33 ∨ j = 34 ∨ j = 35 ∨ j = 36 by omega) with rfl | rfl | rfl | rfl | rfl | rfl | rfl | rfl | rfl | rfl | rfl | rfl | rfl | rfl | rfl | rfl | rfl | rfl | rfl | rfl | rfl | rfl | rfl | rfl | rfl | rfl | rfl | rfl | rfl | rfl | rfl | rfl | rfl | rfl | rfl | rfl | rfl <;> rfl) (c1 := 36) (s1 := 60045) (by decide) (by decide) (by decide) (by decide) dL_law_18 (fun qM H hP hD hS => ?_)
  refine lv_dup hx hb dL_law_21 rfl ?_
  refine lv_aload_n hx hb dL_law_22 rfl (lv_at hl 1 rfl) ?_
  refine lv_iconst (v := 0) hx hb dL_law_23 (by decide) ?_
  refine es_cell C hX hbl (by omega) 0 (by decide) ⟨by decide, by decide⟩ ⟨by decide, by decide⟩ hP hS hl.1 (Nat.le_of_ble_eq_true rfl) dL_law_24 (fun H locs hP hS => ?_)
  refine lv_aload_n hx hb dL_law_27 rfl (lv_at hl 1 rfl) ?_
  refine lv_iconst (v := 1) hx hb dL_law_28 (by decide) ?_
  refine es_cell C hX hbl (by omega) 1 (by decide) ⟨by decide, by decide⟩ ⟨by decide, by decide⟩ hP hS hl.1 (Nat.le_of_ble_eq_true rfl) dL_law_29 (fun H locs hP hS => ?_)
  refine es_callI C (k_X8_init l D cI cZ _ qM P R (if nI L ≤ 0 then 0 else xs (0 : Int32).toNatClampNeg) (if nI L ≤ 1 then 0 else xs (1 : Int32).toNatClampNeg) hpM hqM) es_u6_6 es_kX8_init ⟨rfl, rfl, by decide, by decide⟩ hP hD hS [35] [0, 1, 2, 3, 4, 5, 6, 7, 8, 9, 10, 11, 12, 13, 14, 15, 16, 17, 18, 19, 20, 21, 22, 23, 24, 25, 26, 27, 28, 29, 30, 31, 32, 33, 34] (wc := [(qM, .inr (8, [.int 0, .int 0, .null, .null, .null, .int 0, .int 0, .int 0, .int 0, .int 0, .int 0, .int 0, .null, .null, .int 0, .int 0, .null, .null, .int 0, .null, .null, .null, .null, .int 0, .int 0, .int 0, .null, .null, .int 0, .int 0, .null, .null, .null, .null, .null, .null, .null]))]) (wr := (es_wX aX cI cZ (es_NX P R) (es_S0X P R))) rfl rfl (by decide) (by decide) (by decide) rfl hl.1 rfl (Nat.le_of_ble_eq_true rfl) (c1 := 56) (s1 := 360045) (by decide) (by decide) (by decide) (by decide) dL_law_32 (fun aM H1 locs1 eM hP1v hD1v hS1v => ?_)
  subst eM
  clear hP hD hS
  have hP := hP1v
  have hD := hD1v
  have hS := hS1v
  clear hP1v hD1v hS1v
  generalize H1 = H at hP hS ⊢
  generalize locs1 = locs at hS ⊢
  refine lv_astore_n (lv' := [(2, .ref (aM 0)), (1, .ref (aX 0)), (0, .ref b)]) hx hb dL_law_35 rfl hl (by decide) rfl (fun ls hl => ?_)
  obtain ⟨hPX, hPM⟩ := es_splitP hP
  obtain ⟨hDX, hDM, hdj⟩ := es_splitD hD
  have CX := es_CXof C (es_okX aX cI cZ (es_NX P R)) hDX
  have CM := es_CXof C (es_okM aM cI cZ es_NM) hDM
  have hdis : ∀ i j, i < 35 → j < 21 → aX i ≠ aM j := fun i j hi hj => by
    obtain ⟨e1, h1⟩ := (es_okX aX cI cZ (es_NX P R)).1 (es_S0X P R) i hi
    obtain ⟨e2, h2⟩ := (es_okM aM cI cZ es_NM).1 (es_S0M P R) j hj
    exact hdj i j _ _ h1 h2
  refine lv_iconst (v := 2) hx hb dL_law_36 (by decide) ?_
  refine lv_istore_n (lv' := [(3, .int (nI 2)), (2, .ref (aM 0)), (1, .ref (aX 0)), (0, .ref b)]) hx hb dL_law_37 rfl hl (by decide) rfl (fun ls hl => ?_)
  refine W.widen (k := 600000) (n := 7302250) (by decide) (by decide) ?_
  exact law_loop hL C0 hsim CX CM hdis (L + 6) 2 (by omega) (by omega) _ _ hRel0 H locs ls hPX hPM hS (lv_sub hl [3, 2, 1, 0] rfl)
