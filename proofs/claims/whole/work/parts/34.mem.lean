/-! ===== the memory, step by step ===== -/
theorem z_RT_take {nb ru tk h q b v : Nat} {SX SX' SM SM' : es_St} {lam nx : Nat → Nat} {k t : Int32} (hT : z_RT nb ru tk h SX SM lam nx) (hq : q < h) (hb : lam q = b) (hv : v ≤ 1) (htk : tk < 2 ^ 31)
    (x30 : ∀ i, SX'.2 30 i = if i = b then nI (ru + v) else SX.2 30 i) (x31 : ∀ i, SX'.2 31 i = if i = b then k else SX.2 31 i) (x32 : ∀ i, SX'.2 32 i = if i = b then t else SX.2 32 i) (x33 : ∀ i, SX'.2 33 i = if i = b then nI tk else SX.2 33 i)
    (m8 : ∀ i, i < h → SM'.2 8 i = if i = h - 1 then k else if i = q then SM.2 8 (h - 1) else SM.2 8 i) (m9 : ∀ i, i < h → SM'.2 9 i = if i = h - 1 then t else if i = q then SM.2 9 (h - 1) else SM.2 9 i) (m10 : ∀ i, i < h → SM'.2 10 i = if i = h - 1 then nI tk else if i = q then SM.2 10 (h - 1) else SM.2 10 i) (m11 : ∀ i, i < h → SM'.2 11 i = if i = h - 1 then nI v else if i = q then SM.2 11 (h - 1) else SM.2 11 i) :
    z_RT nb ru (tk + 1) h SX' SM' (fun i => if i = h - 1 then b else if i = q then lam (h - 1) else lam i) (fun i => if i = h - 1 then v else if i = q then nx (h - 1) else nx i) := by
  obtain ⟨t1, t2, t3, t4, t5⟩ := hT
  have hbn : b < nb := hb ▸ (t1 q hq).1
  have old : ∀ i, i < h → i ≠ q → lam i < nb ∧ SM.2 8 i = SX'.2 31 (lam i) ∧ SM.2 9 i = SX'.2 32 (lam i) ∧ SM.2 10 i = SX'.2 33 (lam i) ∧ SX'.2 30 (lam i) = nI (ru + nx i) ∧ nx i ≤ 1 ∧ SM.2 11 i = nI (nx i) := fun i hi hne => by
    have hlb : lam i ≠ b := fun y => hne (t2 i q hi hq (by rw [y, hb]))
    rw [x30, x31, x32, x33, if_neg hlb, if_neg hlb, if_neg hlb, if_neg hlb]
    exact t1 i hi
  refine ⟨fun i hi => ?_, fun i j hi hj e => ?_, fun i hi hno => ?_, fun i j hi hj hne => ?_, fun i hi => ?_⟩
  · dsimp only
    rw [m8 i hi, m9 i hi, m10 i hi, m11 i hi]
    by_cases e1 : i = h - 1
    · rw [if_pos e1, if_pos e1, if_pos e1, if_pos e1, if_pos e1, if_pos e1, x30, x31, x32, x33, if_pos rfl, if_pos rfl, if_pos rfl, if_pos rfl]
      exact ⟨hbn, rfl, rfl, rfl, rfl, hv, rfl⟩
    · by_cases e2 : i = q
      · rw [if_neg e1, if_neg e1, if_neg e1, if_neg e1, if_neg e1, if_neg e1, if_pos e2, if_pos e2, if_pos e2, if_pos e2, if_pos e2, if_pos e2]
        exact old (h - 1) (by omega) (by omega)
      · rw [if_neg e1, if_neg e1, if_neg e1, if_neg e1, if_neg e1, if_neg e1, if_neg e2, if_neg e2, if_neg e2, if_neg e2, if_neg e2, if_neg e2]
        exact old i hi e2
  · dsimp only at e
    have nb' : ∀ i, i < h → i ≠ q → lam i ≠ b := fun i hi hne y => hne (t2 i q hi hq (by rw [y, hb]))
    by_cases e1 : i = h - 1 <;> by_cases e2 : j = h - 1
    · omega
    · rw [if_pos e1, if_neg e2] at e
      by_cases e3 : j = q
      · rw [if_pos e3] at e; exact absurd e.symm (nb' (h - 1) (by omega) (by omega))
      · rw [if_neg e3] at e; exact absurd e.symm (nb' j hj e3)
    · rw [if_neg e1, if_pos e2] at e
      by_cases e3 : i = q
      · rw [if_pos e3] at e; exact absurd e (nb' (h - 1) (by omega) (by omega))
      · rw [if_neg e3] at e; exact absurd e (nb' i hi e3)
    · rw [if_neg e1, if_neg e2] at e
      by_cases e3 : i = q <;> by_cases e4 : j = q
      · omega
      · rw [if_pos e3, if_neg e4] at e
        have := t2 (h - 1) j (by omega) hj e; omega
      · rw [if_neg e3, if_pos e4] at e
        have := t2 i (h - 1) hi (by omega) e; omega
      · rw [if_neg e3, if_neg e4] at e
        exact t2 i j hi hj e
  · have hib : i ≠ b := fun y => by
      have := hno (h - 1) (by omega)
      dsimp only at this
      rw [if_pos rfl] at this
      exact this y.symm
    rw [x30, if_neg hib]
    refine t3 i hi (fun q' hq' y => ?_)
    by_cases e1 : q' = q
    · rw [e1, hb] at y; exact hib y.symm
    · by_cases e2 : q' = h - 1
      · have := hno q hq
        dsimp only at this
        rw [if_neg (by omega), if_pos rfl, ← e2] at this
        exact this y
      · have := hno q' hq'
        dsimp only at this
        rw [if_neg e2, if_neg e1] at this
        exact this y
  · have hlt : ∀ i, i < nb → SX.2 33 i ≠ nI tk := fun i hi y => by
      obtain ⟨a, h1, h2⟩ := t5 i hi
      have := (nI_eq (by omega) htk).mp (h2.symm.trans y)
      omega
    rw [x33, x33]
    by_cases e1 : i = b <;> by_cases e2 : j = b
    · omega
    · rw [if_pos e1, if_neg e2]; exact fun y => hlt j hj y.symm
    · rw [if_neg e1, if_pos e2]; exact hlt i hi
    · rw [if_neg e1, if_neg e2]; exact t4 i j hi hj hne
  · rw [x33]
    by_cases e1 : i = b
    · rw [if_pos e1]; exact ⟨tk, by omega, rfl⟩
    · rw [if_neg e1]
      obtain ⟨a, h1, h2⟩ := t5 i hi
      exact ⟨a, by omega, h2⟩
theorem z_RT_end {nb ru tk h q b : Nat} {SX SX' SM SM' : es_St} {lam nx : Nat → Nat} (hT : z_RT nb ru tk h SX SM lam nx) (hq : q < h) (hb : lam q = b)
    (x30 : ∀ i, SX'.2 30 i = if i = b then nI 2147483647 else SX.2 30 i) (x31 : SX'.2 31 = SX.2 31) (x32 : SX'.2 32 = SX.2 32) (x33 : SX'.2 33 = SX.2 33)
    (m8 : ∀ i, i < h - 1 → SM'.2 8 i = if i = q then SM.2 8 (h - 1) else SM.2 8 i) (m9 : ∀ i, i < h - 1 → SM'.2 9 i = if i = q then SM.2 9 (h - 1) else SM.2 9 i) (m10 : ∀ i, i < h - 1 → SM'.2 10 i = if i = q then SM.2 10 (h - 1) else SM.2 10 i) (m11 : ∀ i, i < h - 1 → SM'.2 11 i = if i = q then SM.2 11 (h - 1) else SM.2 11 i) :
    z_RT nb ru tk (h - 1) SX' SM' (fun i => if i = q then lam (h - 1) else lam i) (fun i => if i = q then nx (h - 1) else nx i) := by
  obtain ⟨t1, t2, t3, t4, t5⟩ := hT
  have hbn : b < nb := hb ▸ (t1 q hq).1
  have old : ∀ i, i < h → i ≠ q → lam i < nb ∧ SM.2 8 i = SX'.2 31 (lam i) ∧ SM.2 9 i = SX'.2 32 (lam i) ∧ SM.2 10 i = SX'.2 33 (lam i) ∧ SX'.2 30 (lam i) = nI (ru + nx i) ∧ nx i ≤ 1 ∧ SM.2 11 i = nI (nx i) := fun i hi hne => by
    have hlb : lam i ≠ b := fun y => hne (t2 i q hi hq (by rw [y, hb]))
    rw [x30, x31, x32, x33, if_neg hlb]
    exact t1 i hi
  refine ⟨fun i hi => ?_, fun i j hi hj e => ?_, fun i hi hno => ?_, ?_, ?_⟩
  · dsimp only
    rw [m8 i hi, m9 i hi, m10 i hi, m11 i hi]
    by_cases e2 : i = q
    · rw [if_pos e2, if_pos e2, if_pos e2, if_pos e2, if_pos e2, if_pos e2]
      exact old (h - 1) (by omega) (by omega)
    · rw [if_neg e2, if_neg e2, if_neg e2, if_neg e2, if_neg e2, if_neg e2]
      exact old i (by omega) e2
  · dsimp only at e
    by_cases e3 : i = q <;> by_cases e4 : j = q
    · omega
    · rw [if_pos e3, if_neg e4] at e
      have := t2 (h - 1) j (by omega) (by omega) e; omega
    · rw [if_neg e3, if_pos e4] at e
      have := t2 i (h - 1) (by omega) (by omega) e; omega
    · rw [if_neg e3, if_neg e4] at e
      exact t2 i j (by omega) (by omega) e
  · rw [x30]
    by_cases hib : i = b
    · rw [if_pos hib]
    · rw [if_neg hib]
      refine t3 i hi (fun q' hq' y => ?_)
      by_cases e1 : q' = q
      · rw [e1, hb] at y; exact hib y.symm
      · by_cases e2 : q' = h - 1
        · have := hno q (by omega)
          dsimp only at this
          rw [if_pos rfl, ← e2] at this
          exact this y
        · have := hno q' (by omega)
          dsimp only at this
          rw [if_neg e1] at this
          exact this y
  · rw [x33]; exact t4
  · rw [x33]; exact t5
theorem z_RT_next {nb ru tk h : Nat} {SX SX' SM SM' : es_St} {lam nx : Nat → Nat} (hT : z_RT nb ru tk h SX SM lam nx) (hall : ∀ q, q < h → nx q = 1) (x30 : SX'.2 30 = SX.2 30) (x31 : SX'.2 31 = SX.2 31) (x32 : SX'.2 32 = SX.2 32) (x33 : SX'.2 33 = SX.2 33) (m8 : SM'.2 8 = SM.2 8) (m9 : SM'.2 9 = SM.2 9) (m10 : SM'.2 10 = SM.2 10) (m11 : ∀ q, q < h → SM'.2 11 q = nI 0) : z_RT nb (ru + 1) tk h SX' SM' lam (fun _ => 0) := by
  obtain ⟨t1, t2, t3, t4, t5⟩ := hT
  refine ⟨fun q hq => ?_, t2, by rw [x30]; exact t3, by rw [x33]; exact t4, by rw [x33]; exact t5⟩
  obtain ⟨a1, a2, a3, a4, a5, a6, a7⟩ := t1 q hq
  rw [hall q hq] at a5
  rw [x30, x31, x32, x33, m8, m9, m10, m11 q hq]
  exact ⟨a1, a2, a3, a4, a5, Nat.zero_le 1, rfl⟩
/-- the same memory, other things changed -/
theorem z_RT_same {nb ru tk h : Nat} {SX SX' SM SM' : es_St} {lam nx : Nat → Nat} (hT : z_RT nb ru tk h SX SM lam nx) (x30 : SX'.2 30 = SX.2 30) (x31 : SX'.2 31 = SX.2 31) (x32 : SX'.2 32 = SX.2 32) (x33 : SX'.2 33 = SX.2 33) (m8 : SM'.2 8 = SM.2 8) (m9 : SM'.2 9 = SM.2 9) (m10 : SM'.2 10 = SM.2 10) (m11 : SM'.2 11 = SM.2 11) : z_RT nb ru tk h SX' SM' lam nx := by
  unfold z_RT at *
  rw [x30, x31, x32, x33, m8, m9, m10, m11]
  exact hT
