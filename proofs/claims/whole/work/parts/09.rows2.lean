/-! ===== rows for the constructors: a list of cells that grows ===== -/
abbrev es_PreL (av : List Value) (D : va_G) (tys : List (ClassId × FieldType)) (ws : va_W) (sz : Nat) : Array Value → State → Prop := va_Pc av (fun U => U.heap.size = sz ∧ va_P D vwCl ws U.heap ∧ va_K D vwCl tys U ∧ va_D (fun _ => True) ws ∧ es_NW U)
abbrev es_QL (D : va_G) (po : (Nat → Nat) → Prop) (W2 : (Nat → Nat) → va_W) (ws : va_W) (sz : Nat) : Array Value → State → Outcome → State → Prop := va_Qv (fun u : Nat → Nat => po u) (fun u t => va_P D vwCl (W2 u) t.heap ∧ va_D (va_A ws sz) (W2 u)) (va_A ws sz)
theorem es_blindL {av : List Value} {D : va_G} {tys : List (ClassId × FieldType)} {ws : va_W} {sz : Nat} : FrameBlind (es_PreL av D tys ws sz) := fun a U g mk q => by
  obtain ⟨q0, q1, qP, qK, qi, qN⟩ := q
  exact ⟨q0, q1, qP, va_K.moved (u := U) (U := U.calling g mk a) (Vm.Alike.refl U.vm) qK, qi, es_NW_same rfl qN⟩
def es_CL (p : Program) (s : State) (m : MethodId) (args : Array Value) (c : Code) (cc : ByteArray) (own : String) (nL : Nat) (D : va_G) (tys : List (ClassId × FieldType)) (A : Nat → Prop) : Prop :=
  p.tables.exec = Jvm.exec ∧ c.code = cc ∧ c.maxLocals = nL ∧ s.vm.findClass own = some m.cls ∧ (∀ x ∈ wsL_law, x.before args s = true) ∧ va_K D vwCl tys s ∧ (∀ q, s.heap.size ≤ q → A q) ∧ es_NW s
theorem es_introL {l : Launch} {y : MethodName} {cc : ByteArray} {maxL : Nat} {ret : Option FieldType} {rm : Room} {D : va_G} {tys : List (ClassId × FieldType)} {ws : va_W} {sz mc ms : Nat} {av : List Value} {Qc : Nat → Array Value → State → Outcome → State → Prop}
    (hy : plainName y.cls = true) (hlen : (lg_sl av).length ≤ maxL)
    (body : ∀ (p : Program) (e : Env) (s : State) (m : MethodId) (below : List Frame) (meth : Method) (c : Code), es_CL p s m av.toArray c cc y.cls maxL D tys (va_A ws s.heap.size) → meth.name = y.name → meth.sig.returnType = ret → meth.locks = false → va_P D vwCl ws s.heap → va_D (va_A ws s.heap.size) ws → ∀ ls : Array Slot, lv_has ls maxL (lv_args 0 av) → W p l e rm s m av.toArray below meth c s.heap [] 0 0 (MQ below (Qc s.heap.size) av.toArray s mc ms (va_A ws s.heap.size)) (F0 m 0 ls [])) :
    Met l y (Cond.code y cc maxL ret :: wsL_law) rm (es_PreL av D tys ws sz) (Qc sz) mc ms (va_A ws sz) := by
  refine Met.ofW (cc := cc) (maxL := maxL) (ret := ret) hy rfl ?_
  intro p e s m args below meth c s₁ B hml hv
  obtain ⟨rfl, hsz, hP, hK, hi, hN⟩ := hv
  subst hsz
  have hts := atoms_spec (ws := Cond.code y cc maxL ret :: wsL_law) B.pre
  have hown := findClass_of_methodNamed B.named
  have hl := lv_entry av (n := maxL) hlen
  rw [lg_entry_eq]
  exact body p e s m below meth c ⟨B.exec, B.bytes, hml, hown, fun x h => hts x (List.mem_cons_of_mem _ h), hK, fun q h => Or.inr h, hN⟩ (name_of_methodNamed B.named B.method).1 B.returns B.notSynchronized hP hi.self _ hl
section ESL
variable {p : Program} {l : Launch} {e : Env} {R : Room} {s : State} {m : MethodId} {args : Array Value} {below : List Frame} {meth : Method} {c : Code} {H : Heap} {locs : List Loc} {cells slots : Nat} {Q : State → Prop}
variable {cc : ByteArray} {own : String} {nL : Nat} {D : va_G} {tys : List (ClassId × FieldType)} {A : Nat → Prop} {ws : va_W} {pc : Nat} {ls : Array Slot} {rest st0 : List Value} {mc ms : Nat}
theorem es_vretL (C : es_CL p s m args c cc own nL D tys (va_A ws s.heap.size)) (hr : meth.sig.returnType = none) (hlk : meth.locks = false) {po : (Nat → Nat) → Prop} {W2 : (Nat → Nat) → va_W} (u : Nat → Nat) (hpo : po u) (hP : va_P D vwCl (W2 u) H) (hD : va_D (va_A ws s.heap.size) (W2 u)) (hS : va_S (va_A ws s.heap.size) s.heap H locs) (hdg : decode cc pc = .ok (.return_, 1)) : W p l e R s m args below meth c H locs cells slots (MQ below (es_QL D po W2 ws s.heap.size) args s cells slots (va_A ws s.heap.size)) (F0 m pc ls []) :=
  W.vret C.1 C.2.1 hr (fun t ht hW => ⟨⟨u, rfl, hpo, by show va_P D vwCl (W2 u) t.heap; rw [ht]; exact hP, hD⟩, hS.F ht⟩) hS.2.2 hdg hlk
theorem es_vretA (hAe : va_A ws s.heap.size = A) (C : es_CL p s m args c cc own nL D tys A) (hr : meth.sig.returnType = none) (hlk : meth.locks = false) {po : (Nat → Nat) → Prop} {W2 : (Nat → Nat) → va_W} (u : Nat → Nat) (hpo : po u) (hP : va_P D vwCl (W2 u) H) (hD : va_D A (W2 u)) (hS : va_S A s.heap H locs) (hdg : decode cc pc = .ok (.return_, 1)) : W p l e R s m args below meth c H locs cells slots (MQ below (es_QL D po W2 ws s.heap.size) args s cells slots A) (F0 m pc ls []) := by
  subst hAe
  exact es_vretL C hr hlk u hpo hP hD hS hdg
theorem es_getL (C : es_CL p s m args c cc own nL D tys A) (hP : va_P D vwCl ws H) (k : Nat) {a ci idx j N : Nat} {fs : List Value} {Cn : String} {T : u_T} {v : Value} (he : ws[k]? = some (a, .inr (ci, fs))) (hc : vwCl[ci]? = some (Cn, T, N)) (hin : ∀ x ∈ u_ws Cn T N, x ∈ wsL_law) (hj : j < N) (hl : Cond.fieldLink own idx (T j).1 (T j).2.1 (T j).2.2.1 ∈ wsL_law) (hv : fs[j]? = some v) (hdg : decode cc pc = .ok (.getfield idx, 3))
    (kk : W p l e R s m args below meth c H locs cells slots Q (F0 m (pc + 3) ls (v :: rest))) : W p l e R s m args below meth c H locs cells slots Q (F0 m pc ls (.ref a :: rest)) := by
  obtain ⟨hx, hb, hml, hown, hts, hK, -⟩ := C
  exact va_get (D := D) hx hb hts hin hown hK hP k he hc j hj (hts _ hl) (fun _ h9 => h9) hv hdg kk
theorem es_putL (C : es_CL p s m args c cc own nL D tys A) (hP : va_P D vwCl ws H) (hD : va_D A ws) (hS : va_S A s.heap H locs) (k : Nat) {a ci idx j N : Nat} {fs : List Value} {Cn : String} {T : u_T} {v : Value} {ty : FieldType} (he : ws[k]? = some (a, .inr (ci, fs))) (hc : vwCl[ci]? = some (Cn, T, N)) (hin : ∀ x ∈ u_ws Cn T N, x ∈ wsL_law) {ty0 : Nat → FieldType} (hty : ∀ k, k < N → parseFieldDescriptor (T k).2.2.1 = some (ty0 k)) (hnm : ∀ a, a < N → ∀ b, b < N → a ≠ b → (T a).2.1 ≠ (T b).2.1) (hj : j < N) (hl : Cond.fieldLink own idx (T j).1 (T j).2.1 (T j).2.2.1 ∈ wsL_law) (hfin : (T j).2.2.2 = false) (hd : parseFieldDescriptor (T j).2.2.1 = some ty) (hn : narrow ty v = v) (hfit : fits ty v = true) (hlen : j < fs.length) {ws1 : va_W} (hset : ws.set k (a, .inr (ci, fs.set j v)) = ws1) (hdg : decode cc pc = .ok (.putfield idx, 3))
    (kk : ∀ (H1 : Heap) (locs1 : List Loc), va_P D vwCl ws1 H1 → va_D A ws1 → va_S A s.heap H1 locs1 → W p l e R s m args below meth c H1 locs1 cells slots Q (F0 m (pc + 3) ls rest)) : W p l e R s m args below meth c H locs cells slots Q (F0 m pc ls (v :: .ref a :: rest)) := by
  obtain ⟨hx, hb, hml, hown, hts, hK, hA, -⟩ := C
  subst hset
  exact va_put (D := D) hx hb hts hin ty0 hty hnm hown hK hP hD hS k he hc j hj (hts _ hl) (fun _ h9 => h9) hfin hd hn hfit hlen hdg kk
theorem es_putFL (C : es_CL p s m args c cc own nL D tys A) (hini : meth.name = "<init>") (hP : va_P D vwCl ws H) (hD : va_D A ws) (hS : va_S A s.heap H locs) (k : Nat) {a ci idx j N : Nat} {fs : List Value} {T : u_T} {v : Value} {ty : FieldType} (he : ws[k]? = some (a, .inr (ci, fs))) (hc : vwCl[ci]? = some (own, T, N)) (hin : ∀ x ∈ u_ws own T N, x ∈ wsL_law) {ty0 : Nat → FieldType} (hty : ∀ k, k < N → parseFieldDescriptor (T k).2.2.1 = some (ty0 k)) (hnm : ∀ a, a < N → ∀ b, b < N → a ≠ b → (T a).2.1 ≠ (T b).2.1) (hj : j < N) (hl : Cond.fieldLink own idx (T j).1 (T j).2.1 (T j).2.2.1 ∈ wsL_law) (hfin : (T j).2.2.2 = true) (hdecl : (T j).1 = own) (hd : parseFieldDescriptor (T j).2.2.1 = some ty) (hn : narrow ty v = v) (hfit : fits ty v = true) (hlen : j < fs.length) {ws1 : va_W} (hset : ws.set k (a, .inr (ci, fs.set j v)) = ws1) (hdg : decode cc pc = .ok (.putfield idx, 3))
    (kk : ∀ (H1 : Heap) (locs1 : List Loc), va_P D vwCl ws1 H1 → va_D A ws1 → va_S A s.heap H1 locs1 → W p l e R s m args below meth c H1 locs1 cells slots Q (F0 m (pc + 3) ls rest)) : W p l e R s m args below meth c H locs cells slots Q (F0 m pc ls (v :: .ref a :: rest)) := by
  obtain ⟨hx, hb, hml, hown, hts, hK, hA, -⟩ := C
  subst hset
  exact va_putF (D := D) hx hb hts hin ty0 hty hnm hown hK hP hD hS k he hc j hj (hts _ hl) (fun _ h9 => h9) hfin hini hdecl hd hn hfit hlen hdg kk
theorem es_astL (C : es_CL p s m args c cc own nL D tys A) (hP : va_P D vwCl ws H) (hD : va_D A ws) (hS : va_S A s.heap H locs) (k : Nat) {a t0 len : Nat} {cA : ClassId} {f f1 : Nat → Int32} (he : ws[k]? = some (a, .inl (cA, len, .inl f))) (ht : tys[t0]? = some (cA, .int)) {i x : Int32} (hin : vp_in i len) (hf : upd f i.toNatClampNeg x = f1) {ws1 : va_W} (hset : ws.set k (a, .inl (cA, len, .inl f1)) = ws1) (hdg : decode cc pc = .ok (.iastore, 1))
    (kk : ∀ (H1 : Heap) (locs1 : List Loc), va_P D vwCl ws1 H1 → va_D A ws1 → va_S A s.heap H1 locs1 → W p l e R s m args below meth c H1 locs1 cells slots Q (F0 m (pc + 1) ls rest)) : W p l e R s m args below meth c H locs cells slots Q (F0 m pc ls (.int x :: .int i :: .ref a :: rest)) := by
  obtain ⟨hx, hb, hml, hown, hts, hK, hA, -⟩ := C
  subst hset
  subst hf
  exact va_iast (D := D) hx hb hK hP hD hS k t0 he ht hin hdg kk
theorem es_newI (C : es_CL p s m args c cc own nL D tys A) (harr : Cond.arrayClass .int ∈ wsL_law) (hP : va_P D vwCl ws H) (hD : va_D A ws) (hS : va_S A s.heap H locs) (t0 : Nat) {cA : ClassId} (ht : tys[t0]? = some (cA, .int)) {n : Int32} (N : Nat) (hn : n = nI N) (hle : N ≤ 100000) {c1 s1 : Nat} (hc1 : cells + 1 ≤ c1) (hs1 : slots + N ≤ s1) (hcr : c1 ≤ R.cells) (hsr : s1 ≤ R.slots) (hdg : decode cc pc = .ok (.newarray .int, 2))
    (kk : ∀ (q : Nat) (H1 : Heap), va_P D vwCl (ws ++ [(q, .inl (cA, N, .inl (fun _ => 0)))]) H1 → va_D A (ws ++ [(q, .inl (cA, N, .inl (fun _ => 0)))]) → va_S A s.heap H1 locs → W p l e R s m args below meth c H1 locs c1 s1 Q (F0 m (pc + 2) ls (.ref q :: rest))) : W p l e R s m args below meth c H locs cells slots Q (F0 m pc ls (.int n :: rest)) := by
  obtain ⟨hx, hb, hml, hown, hts, hK, hA, -⟩ := C
  subst hn
  refine va_newa (D := D) hx hb (atype := .int) (hts _ harr) (ty := .int) rfl hK hP hD hS hA (N' := N) (a0 := (N, .inl (fun _ => 0))) (fun cA => rfl) (nI_pos (by omega)) (nI_clamp (by omega)) (Nat.le_trans (Nat.mul_le_mul_right _ hle) (by decide)) (Nat.le_trans hc1 hcr) (Nat.le_trans hs1 hsr) hdg (fun q cB H1 hK1 hP1 hD1 hS1 => ?_)
  have e1 : s.vm.findClass ("[" ++ FieldType.int.toString) = some cB := (hK1.2 tys.length (cB, .int) (by simp)).2
  have e2 : s.vm.findClass ("[" ++ FieldType.int.toString) = some cA := (hK.2 t0 (cA, .int) ht).2
  have e3 : cB = cA := Option.some.inj (e1.symm.trans e2)
  subst e3
  exact W.widen hc1 hs1 (kk q H1 hP1 hD1 hS1)
theorem es_newZ (C : es_CL p s m args c cc own nL D tys A) (harr : Cond.arrayClass .boolean ∈ wsL_law) (hP : va_P D vwCl ws H) (hD : va_D A ws) (hS : va_S A s.heap H locs) (t0 : Nat) {cA : ClassId} (ht : tys[t0]? = some (cA, .boolean)) {n : Int32} (N : Nat) (hn : n = nI N) (hle : N ≤ 100000) {c1 s1 : Nat} (hc1 : cells + 1 ≤ c1) (hs1 : slots + N ≤ s1) (hcr : c1 ≤ R.cells) (hsr : s1 ≤ R.slots) (hdg : decode cc pc = .ok (.newarray .boolean, 2))
    (kk : ∀ (q : Nat) (H1 : Heap), va_P D vwCl (ws ++ [(q, .inl (cA, N, .inl (fun _ => 0)))]) H1 → va_D A (ws ++ [(q, .inl (cA, N, .inl (fun _ => 0)))]) → va_S A s.heap H1 locs → W p l e R s m args below meth c H1 locs c1 s1 Q (F0 m (pc + 2) ls (.ref q :: rest))) : W p l e R s m args below meth c H locs cells slots Q (F0 m pc ls (.int n :: rest)) := by
  obtain ⟨hx, hb, hml, hown, hts, hK, hA, -⟩ := C
  subst hn
  refine va_newa (D := D) hx hb (atype := .boolean) (hts _ harr) (ty := .boolean) rfl hK hP hD hS hA (N' := N) (a0 := (N, .inl (fun _ => 0))) (fun cA => rfl) (nI_pos (by omega)) (nI_clamp (by omega)) (Nat.le_trans (Nat.mul_le_mul_right _ hle) (by decide)) (Nat.le_trans hc1 hcr) (Nat.le_trans hs1 hsr) hdg (fun q cB H1 hK1 hP1 hD1 hS1 => ?_)
  have e1 : s.vm.findClass ("[" ++ FieldType.boolean.toString) = some cB := (hK1.2 tys.length (cB, .boolean) (by simp)).2
  have e2 : s.vm.findClass ("[" ++ FieldType.boolean.toString) = some cA := (hK.2 t0 (cA, .boolean) ht).2
  have e3 : cB = cA := Option.some.inj (e1.symm.trans e2)
  subst e3
  exact W.widen hc1 hs1 (kk q H1 hP1 hD1 hS1)
theorem es_newO (C : es_CL p s m args c cc own nL D tys A) {Cn : String} {T : u_T} {N ci idx : Nat} (hin : ∀ x ∈ u_ws Cn T N, x ∈ wsL_law) {ty0 : Nat → FieldType} (hty : ∀ k, k < N → parseFieldDescriptor (T k).2.2.1 = some (ty0 k)) (h1 : Cond.classLink own idx Cn ∈ wsL_law) (h2 : Cond.instantiable Cn N ∈ wsL_law) (h3 : Cond.initialized Cn ∈ wsL_law) (hP : va_P D vwCl ws H) (hD : va_D A ws) (hS : va_S A s.heap H locs) (hc : vwCl[ci]? = some (Cn, T, N)) (fs : List Value) (hfs : ∀ j, j < N → defaultValue (ty0 j) = vp_V fs j) {c1 s1 : Nat} (hc1 : cells + 1 ≤ c1) (hs1 : slots + N ≤ s1) (hcr : c1 ≤ R.cells) (hsr : s1 ≤ R.slots) (hdg : decode cc pc = .ok (.new idx, 3))
    (kk : ∀ (q : Nat) (H1 : Heap), va_P D vwCl (ws ++ [(q, .inr (ci, fs))]) H1 → va_D A (ws ++ [(q, .inr (ci, fs))]) → va_S A s.heap H1 locs → W p l e R s m args below meth c H1 locs c1 s1 Q (F0 m (pc + 3) ls (.ref q :: rest))) : W p l e R s m args below meth c H locs cells slots Q (F0 m pc ls rest) := by
  obtain ⟨hx, hb, hml, hown, hts, hK, hA, -⟩ := C
  exact va_new (D := D) hx hb hts hin ty0 hty hown (hts _ h1) (hts _ h2) (hts _ h3) hK hP hD hS hA hc hfs (Nat.le_trans hc1 hcr) (Nat.le_trans hs1 hsr) hdg (fun q H1 a1 a2 a3 => W.widen hc1 hs1 (kk q H1 a1 a2 a3))
theorem es_oinit (C : es_CL p s m args c cc own nL D tys A) {a idx : Nat} (h1 : Cond.methodLink own idx objectInit ∈ wsL_law) (h2 : Cond.instanceMethod objectInit ∈ wsL_law) (h3 : Cond.code objectInit ⟨#[0xb1]⟩ 1 none ∈ wsL_law) (hsz : ls.size = nL) (hd : decode cc pc = .ok (.invokespecial idx, 3)) (hf : 1 ≤ R.frames) (hlo : 2 * 0 + (rest.map fun v => v.category).sum + 12 ≤ R.locals)
    (kk : W p l e R s m args below meth c H locs cells slots Q (F0 m (pc + 3) ls rest)) : W p l e R s m args below meth c H locs cells slots Q (F0 m pc ls (.ref a :: rest)) := by
  obtain ⟨hx, hb, hml, hown, hts, hK, hA, -⟩ := C
  exact W.objInit hx hb hown (hts _ h1) (hts _ h2) (hts _ h3) (g := F0 m pc ls (.ref a :: rest)) rfl (by rw [hml]; exact hsz) rfl hd hf hlo kk
variable {y : MethodName} {bytes : ByteArray} {maxL na idx b : Nat} {ret : Option FieldType} {rm : Room} {As : List Value}
def es_mI (y : MethodName) (bytes : ByteArray) (maxL : Nat) (n : Nat) : Prop := Cond.instanceMethod y ∈ wsL_law ∧ Cond.initialized y.cls ∈ wsL_law ∧ Cond.code y bytes maxL none ∈ wsL_law ∧ y.name = "<init>" ∧ y.cls ≠ "java/lang/invoke/MethodHandle" ∧ y.cls ≠ "java/lang/invoke/VarHandle" ∧ (parseMethodDescriptor y.desc).map (fun d => d.parameters.length) = some n
theorem es_callI (C : es_CL p s m args c cc own nL D tys A) {po : (Nat → Nat) → Prop} {W2 : (Nat → Nat) → va_W} {wc wr : va_W} (hM : Met l y (Cond.code y bytes maxL none :: wsL_law) rm (es_PreL (.ref b :: As) D tys wc H.size) (es_QL D po W2 wc H.size) mc ms (va_A wc H.size)) (hlink : Cond.methodLink own idx y ∈ wsL_law) (hm : es_mI y bytes maxL na) (hR : rm.cells = mc ∧ rm.slots = ms ∧ rm.frames + 1 ≤ R.frames ∧ 8 + (maxL + 11) + rm.locals ≤ R.locals) (hP : va_P D vwCl ws H) (hD : va_D A ws) (hS : va_S A s.heap H locs) (isC isR : List Nat) (hC : isC.map (fun i => ws[i]?) = wc.map some) (hRr : isR.map (fun i => ws[i]?) = wr.map some) (hnC : va_nd isC = true) (hnR : va_nd isR = true) (hdis : ∀ i ∈ isR, i ∉ isC) (hn : As.length = na) (hsz : ls.size = nL) (hst : st0 = As.reverse ++ .ref b :: rest) (hcat : (rest.map fun v => v.category).sum ≤ 8) {c1 s1 : Nat} (hc1 : cells + mc ≤ c1) (hs1 : slots + ms ≤ s1) (hcr : c1 ≤ R.cells) (hsr : s1 ≤ R.slots) (hdg : decode cc pc = .ok (.invokespecial idx, 3))
    (kk : ∀ (u : Nat → Nat) (H1 : Heap) (locs1 : List Loc), po u → va_P D vwCl (wr ++ W2 u) H1 → va_D A (wr ++ W2 u) → va_S A s.heap H1 locs1 → W p l e R s m args below meth c H1 locs1 c1 s1 Q (F0 m (pc + 3) ls rest)) : W p l e R s m args below meth c H locs cells slots Q (F0 m pc ls st0) := by
  obtain ⟨hx, hb, hml, hown, hts, hK, hA, hN⟩ := C
  obtain ⟨m1, m3, m4, m5, m6⟩ := hm
  have hF := va_free (wc := wc) hD hS hA isC hC
  have hPc : va_P D vwCl wc H := by
    intro k q hq
    have h1 : (isC.map (fun i => ws[i]?))[k]? = some (some q) := by rw [hC, List.getElem?_map, hq]; rfl
    rw [List.getElem?_map] at h1
    cases hi : isC[k]? with
    | none => rw [hi] at h1; cases h1
    | some i => rw [hi] at h1; exact hP i q (Option.some.inj h1)
  have hDc : va_D (fun _ => True) wc := (hD.sub isC hnC hC).weaken (fun _ _ _ _ => trivial)
  refine va_callv (va_runI (ws := Cond.code y bytes maxL none :: wsL_law) (Ts := wsL_law) (bytes := bytes) (maxL := maxL) (As := As) (rest := rest) ⟨hx, hb, hml, hown, hts⟩ hM (cwI na hts (ws := Cond.code y bytes maxL none :: wsL_law) (fun w0 h0 => ?_) rfl hR.1 hR.2.1 (hts _ m3) (hts _ hlink) (hts _ m1) m5 m6 ⟨hR.2.2.1, hR.2.2.2⟩) ⟨es_blindL, fun U hU hW => ⟨rfl, by rw [hU], by rw [hU]; exact hPc, va_K.moved hW.alike hK, hDc, es_NW_warm hW hN⟩⟩ rfl hn hsz hst (lv_room hcat) hdg ⟨Nat.le_trans hc1 hcr, Nat.le_trans hs1 hsr⟩) hS (fun q _ h => hF q h) hF (fun u t H1 locs1 ht hvm hw hB hz hk hS1 => ?_)
  · have hin : w0 ∈ wsL_law := by
      rcases List.mem_cons.mp h0 with rfl | h1
      · exact m4
      · exact h1
    exact ⟨hin, es_good w0 hin⟩
  · obtain ⟨hP1, hD1⟩ := hB
    rw [ht] at hP1
    obtain ⟨hP2, hD2⟩ := va_join hP hD isC isR hC hRr hnR hdis hk hF hP1 hD1
    exact W.widen hc1 hs1 (kk u H1 locs1 hw hP2 hD2 hS1)
end ESL
