/-! ===== the pure theorem ===== -/
theorem z_cnt_all {Q : Nat → Prop} [DecidablePred Q] : ∀ n, (∀ p, p < n → Q p) → z_cnt Q n = n
  | 0, _ => rfl
  | n + 1, h => by rw [z_cnt, z_cnt_all n (fun p hp => h p (by omega)), if_pos (h n (by omega))]
theorem z_Rel_start {P R : Nat} (hok : z_ok P R) : z_Rel P R (es_S0X P R) (es_S0M P R) := by
  obtain ⟨a1, a2, a3, a4⟩ := id hok
  have e13 : ∀ p, p < P → (es_S0X P R).2 13 p = -1 := fun p hp => by simp [es_S0X, hp]
  have e15 : ∀ p, p < P → (es_S0X P R).2 15 p = nI p := fun p hp => by simp [es_S0X, hp]
  refine ⟨fun _ _ => 0, fun _ _ => (0, 0), fun _ => 0, fun _ => 0, P, fun _ => 0, ⟨⟨rfl, rfl, ⟨rfl, Nat.le_refl _, fun i hi => ⟨i, hi, e15 i hi, e13 i hi⟩, fun i j hi hj e => ?_, z_cnt_all P e13⟩, fun c i _ h => absurd h (by omega), fun c i c' i' _ h => absurd h (by omega), fun c i _ h => absurd h (by omega), fun c i s _ h => absurd h (by omega), fun p hp => Or.inl (e13 p hp)⟩, fun f hf => ⟨rfl, (z_pgs_0 (by omega)).symm, rfl, fun h => absurd h (Nat.lt_irrefl 0)⟩, fun _ _ => Nat.le_refl _⟩, ⟨rfl, rfl, ?_, fun f hf => ⟨rfl, fun j hj => absurd hj (Nat.not_lt_zero j)⟩⟩, rfl, rfl, rfl, rfl, rfl, rfl, 0, by omega, rfl, rfl, fun i hi => absurd hi (by omega)⟩
  · rw [e15 i hi, e15 j hj] at e
    exact (nI_eq (by omega) (by omega)).mp e
  · rw [Nat.sub_self]; rfl
theorem es_pure : es_PURE := fun P R hok => by
  have k : ∀ {x m : Nat → Option (Int32 × es_St)}, z_Ans P R (x z_fu) (m z_fu) → ∃ (fx fm : Nat) (r : Int32) (SX1 SM1 : es_St), x fx = some (r, SX1) ∧ m fm = some (r, SM1) ∧ z_Rel P R SX1 SM1 := fun ⟨r, SX1, SM1, h1, h2, h3⟩ => ⟨z_fu, z_fu, r, SX1, SM1, h1, h2, h3⟩
  refine ⟨z_Rel P R, z_Rel_start hok, fun SX SM h a1 a2 a3 => ?_, fun SX SM h a1 => ?_, fun SX SM h a1 a2 a3 a4 => ?_, fun SX SM h a1 a2 a3 => ?_, fun SX SM h a1 a2 a3 a4 => ?_, fun SX SM h a1 => ?_, fun SX SM h a1 a2 => ?_, fun SX SM h a1 a2 => ?_, fun SX SM h a1 => ?_, fun SX SM h a1 => ?_⟩
  · exact k (x := fun u => f_X7_append (es_NX P R) u SX a1 a2 a3) (m := fun u => f_X8_append es_NM u SM a1 a2 a3) (z_sim_append hok h a1 a2 a3)
  · exact k (x := fun u => f_X7_drop (es_NX P R) u SX a1) (m := fun u => f_X8_drop es_NM u SM a1) (z_sim_drop hok h a1)
  · exact k (x := fun u => f_X7_sort (es_NX P R) u SX a1 a2 a3 a4) (m := fun u => f_X8_sort es_NM u SM a1 a2 a3 a4) (z_sim_sort hok h a1 a2 a3 a4)
  · exact k (x := fun u => f_X7_distinct (es_NX P R) u SX a1 a2 a3) (m := fun u => f_X8_distinct es_NM u SM a1 a2 a3) (z_sim_distinct hok h a1 a2 a3)
  · exact k (x := fun u => f_X7_join (es_NX P R) u SX a1 a2 a3 a4) (m := fun u => f_X8_join es_NM u SM a1 a2 a3 a4) (z_sim_join hok h a1 a2 a3 a4)
  · exact k (x := fun u => f_X7_size (es_NX P R) u SX a1) (m := fun u => f_X8_size es_NM u SM a1) (z_sim_size hok h a1)
  · exact k (x := fun u => f_X7_key (es_NX P R) u SX a1 a2) (m := fun u => f_X8_key es_NM u SM a1 a2) (z_sim_key hok h a1 a2)
  · exact k (x := fun u => f_X7_tag (es_NX P R) u SX a1 a2) (m := fun u => f_X8_tag es_NM u SM a1 a2) (z_sim_tag hok h a1 a2)
  · exact k (x := fun u => f_X7_told (es_NX P R) u SX a1) (m := fun u => f_X8_told es_NM u SM a1) (z_sim_told hok h a1)
  · exact k (x := fun u => f_X7_run (es_NX P R) u SX a1) (m := fun u => f_X8_run es_NM u SM a1) (z_sim_run hok h a1)
