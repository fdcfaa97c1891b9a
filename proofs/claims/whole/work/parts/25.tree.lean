/-! ===== orders, and the tree of losers ===== -/
def z_kk (md k : Int32) : Int := if md = 2 then -k.toInt else k.toInt
def z_tt (md t : Int32) : Int := if md = 1 then t.toInt else 0
abbrev z_I4 : Type := Int × Int × Int × Int
def z_l4 (a b : z_I4) : Prop := a.1 < b.1 ∨ (a.1 = b.1 ∧ (a.2.1 < b.2.1 ∨ (a.2.1 = b.2.1 ∧ (a.2.2.1 < b.2.2.1 ∨ (a.2.2.1 = b.2.2.1 ∧ a.2.2.2 < b.2.2.2)))))
theorem z_l4_irr (a : z_I4) : ¬ z_l4 a a := by unfold z_l4; omega
theorem z_l4_tr {a b c : z_I4} (h1 : z_l4 a b) (h2 : z_l4 b c) : z_l4 a c := by unfold z_l4 at *; omega
theorem z_l4_tot {a b : z_I4} (h : a.2.2.2 ≠ b.2.2.2) (h2 : ¬ z_l4 a b) : z_l4 b a := by unfold z_l4 at *; omega
def z_it (S : es_St) (i : Nat) : z_I4 := ((S.2 30 i).toInt, z_kk (S.1 33) (S.2 31 i), z_tt (S.1 33) (S.2 32 i), (S.2 33 i).toInt)
theorem z_kk_eq (md k k' : Int32) : z_kk md k = z_kk md k' ↔ k = k' := by
  unfold z_kk
  constructor
  · intro h
    apply Int32.toInt_inj.mp
    split at h <;> omega
  · intro h; rw [h]
/-- -1, 0 or 1 -/
theorem zx_inOrder {N : Nat → Nat} {fu : Nat} {S : es_St} (md k t k' t' : Int32) : f_X7_inOrder N fu S md k t k' t' = some (if z_kk md k < z_kk md k' ∨ (z_kk md k = z_kk md k' ∧ z_tt md t < z_tt md t') then -1 else if z_kk md k = z_kk md k' ∧ z_tt md t = z_tt md t' then 0 else 1, S) := by
  unfold f_X7_inOrder
  by_cases e : k = k'
  · rw [if_pos e]
    have ek : z_kk md k = z_kk md k' := (z_kk_eq md k k').mpr e
    by_cases m1 : md = 1
    · rw [if_neg (by simpa using m1)]
      have t1 : z_tt md t = t.toInt := by unfold z_tt; rw [if_pos m1]
      have t2 : z_tt md t' = t'.toInt := by unfold z_tt; rw [if_pos m1]
      rw [t1, t2]
      by_cases et : t = t'
      · rw [if_pos et, if_neg (by rw [et]; omega), if_pos ⟨ek, by rw [et]⟩]
      · have : t.toInt ≠ t'.toInt := fun y => et (Int32.toInt_inj.mp y)
        rw [if_neg et]
        by_cases hl : t' ≤ t
        · have h2 := Int32.le_iff_toInt_le.mp hl
          rw [if_pos hl, if_neg (by omega), if_neg (by omega)]
        · have h2 : ¬ t'.toInt ≤ t.toInt := fun y => hl (Int32.le_iff_toInt_le.mpr y)
          rw [if_neg hl, if_pos (Or.inr ⟨ek, by omega⟩)]
    · rw [if_pos m1]
      have t1 : ∀ t : Int32, z_tt md t = 0 := fun t => by unfold z_tt; rw [if_neg m1]
      rw [t1, t1, if_neg (by omega), if_pos ⟨ek, rfl⟩]
  · rw [if_neg e]
    have ek : ¬ z_kk md k = z_kk md k' := fun y => e ((z_kk_eq md k k').mp y)
    have er : ∀ b : Int32, f_X7_inOrder_15 N fu md b S = some (if md = 2 then (if ¬ b = 0 then 1 else -1) else (if ¬ b = 1 then 1 else -1), S) := fun b => by
      unfold f_X7_inOrder_15
      by_cases m2 : md = 2
      · rw [if_pos m2, if_pos m2]; split <;> rfl
      · rw [if_neg m2, if_neg m2]; split <;> rfl
    have hne : k.toInt ≠ k'.toInt := fun y => e (Int32.toInt_inj.mp y)
    by_cases hl : k' ≤ k
    · have h2 := Int32.le_iff_toInt_le.mp hl
      rw [if_pos hl, er]
      unfold z_kk at *
      by_cases m2 : md = 2
      · simp only [m2, if_true] at *
        rw [if_neg (by decide), if_pos (Or.inl (by omega))]
      · simp only [m2, if_false] at *
        rw [if_pos (by decide), if_neg (by omega), if_neg (by omega)]
    · have h2 : ¬ k'.toInt ≤ k.toInt := fun y => hl (Int32.le_iff_toInt_le.mpr y)
      rw [if_neg hl, er]
      unfold z_kk at *
      by_cases m2 : md = 2
      · simp only [m2, if_true] at *
        rw [if_pos (by decide), if_neg (by omega), if_neg (by omega)]
      · simp only [m2, if_false] at *
        rw [if_neg (by decide), if_pos (Or.inl (by omega))]
theorem zx_isLeaf {n i fu : Nat} {N : Nat → Nat} {S : es_St} (h : S.1 32 = nI n) (hn : n < 2 ^ 31) (hi : i < n) : f_X3_isLeaf N fu S (nI i) = some (1, S) := by
  unfold f_X3_isLeaf
  rw [h, if_neg (nI_pos (by omega)), if_neg (nI_ge hi hn)]
theorem zx_beats {P R n i j fu : Nat} {S : es_St} (hok : z_ok P R) (h : S.1 32 = nI n) (hn : n ≤ es_T R) (hi : i < n) (hj : j < n) : (z_l4 (z_it S i) (z_it S j) → f_X3_beats (es_NX P R) fu S (nI i) (nI j) = some (1, S)) ∧ (¬ z_l4 (z_it S i) (z_it S j) → f_X3_beats (es_NX P R) fu S (nI i) (nI j) = some (0, S)) := by
  have hT := es_TR hok.2.2
  have i31 : i < 2 ^ 31 := by omega
  have j31 : j < 2 ^ 31 := by omega
  have ev : ∃ v : Int32, f_X3_beats (es_NX P R) fu S (nI i) (nI j) = some (v, S) ∧ (v = 1 ↔ z_l4 (z_it S i) (z_it S j)) ∧ (v = 1 ∨ v = 0) := by
    unfold f_X3_beats
    rw [zx_isLeaf h (by omega) hi]
    simp only [es_bd, es_lt]
    rw [if_neg (by decide), zx_isLeaf h (by omega) hj]
    simp only [es_bd, zN30, zN31, zN32, zN33]
    rw [if_pos (by decide), z_ck (show i < es_T R by omega) (by omega), z_rd _ _ _ i31, z_ck (show j < es_T R by omega) (by omega), z_rd _ _ _ j31]
    unfold z_l4 z_it
    dsimp only
    by_cases er : S.2 30 i = S.2 30 j
    · rw [if_pos er, z_ck (show i < es_T R by omega) (by omega), z_rd _ _ _ i31, z_ck (show i < es_T R by omega) (by omega), z_rd _ _ _ i31, z_ck (show j < es_T R by omega) (by omega), z_rd _ _ _ j31, z_ck (show j < es_T R by omega) (by omega), z_rd _ _ _ j31, zx_inOrder]
      simp only [es_bd]
      have er' : (S.2 30 i).toInt = (S.2 30 j).toInt := by rw [er]
      by_cases c1 : z_kk (S.1 33) (S.2 31 i) < z_kk (S.1 33) (S.2 31 j) ∨ (z_kk (S.1 33) (S.2 31 i) = z_kk (S.1 33) (S.2 31 j) ∧ z_tt (S.1 33) (S.2 32 i) < z_tt (S.1 33) (S.2 32 j))
      · rw [if_pos c1, if_pos (by decide), if_neg (by decide)]
        exact ⟨1, rfl, ⟨fun _ => Or.inr ⟨er', by omega⟩, fun _ => rfl⟩, Or.inl rfl⟩
      · rw [if_neg c1]
        by_cases c2 : z_kk (S.1 33) (S.2 31 i) = z_kk (S.1 33) (S.2 31 j) ∧ z_tt (S.1 33) (S.2 32 i) = z_tt (S.1 33) (S.2 32 j)
        · rw [if_pos c2, if_neg (by decide), z_ck (show i < es_T R by omega) (by omega), z_rd _ _ _ i31, z_ck (show j < es_T R by omega) (by omega), z_rd _ _ _ j31]
          by_cases c3 : S.2 33 j ≤ S.2 33 i
          · have := Int32.le_iff_toInt_le.mp c3
            rw [if_pos c3]
            exact ⟨0, rfl, ⟨fun y => absurd y (by decide), fun y => by omega⟩, Or.inr rfl⟩
          · have : ¬ (S.2 33 j).toInt ≤ (S.2 33 i).toInt := fun y => c3 (Int32.le_iff_toInt_le.mpr y)
            rw [if_neg c3]
            exact ⟨1, rfl, ⟨fun _ => Or.inr ⟨er', Or.inr ⟨c2.1, Or.inr ⟨c2.2, by omega⟩⟩⟩, fun _ => rfl⟩, Or.inl rfl⟩
        · rw [if_neg c2, if_pos (by decide), if_pos (by decide)]
          exact ⟨0, rfl, ⟨fun y => absurd y (by decide), fun y => by omega⟩, Or.inr rfl⟩
    · rw [if_neg er, z_ck (show i < es_T R by omega) (by omega), z_rd _ _ _ i31, z_ck (show j < es_T R by omega) (by omega), z_rd _ _ _ j31]
      have er' : (S.2 30 i).toInt ≠ (S.2 30 j).toInt := fun y => er (Int32.toInt_inj.mp y)
      by_cases c3 : S.2 30 j ≤ S.2 30 i
      · have := Int32.le_iff_toInt_le.mp c3
        rw [if_pos c3]
        exact ⟨0, rfl, ⟨fun y => absurd y (by decide), fun y => by omega⟩, Or.inr rfl⟩
      · have : ¬ (S.2 30 j).toInt ≤ (S.2 30 i).toInt := fun y => c3 (Int32.le_iff_toInt_le.mpr y)
        rw [if_neg c3]
        exact ⟨1, rfl, ⟨fun _ => Or.inl (by omega), fun _ => rfl⟩, Or.inl rfl⟩
  obtain ⟨v, e1, e2, e3⟩ := ev
  refine ⟨fun y => ?_, fun y => ?_⟩
  · rw [e1, e2.mpr y]
  · rw [e1]
    rcases e3 with z | z
    · exact absurd (e2.mp z) y
    · rw [z]
/-- node k of the tree, A: which subtrees are complete, w: who wins them -/
def z_node (L : Nat → Int32) (it : Nat → z_I4) (A : Nat → Prop) (w : Nat → Nat) (k : Nat) : Prop :=
  (A k ↔ A (2 * k) ∧ A (2 * k + 1)) ∧
  (A (2 * k) → A (2 * k + 1) → ∃ l, L k = nI l ∧ ((w k = w (2 * k) ∧ l = w (2 * k + 1)) ∨ (w k = w (2 * k + 1) ∧ l = w (2 * k))) ∧ z_l4 (it (w k)) (it l)) ∧
  (A (2 * k) → ¬ A (2 * k + 1) → L k = nI (w (2 * k))) ∧ (¬ A (2 * k) → A (2 * k + 1) → L k = nI (w (2 * k + 1))) ∧ (¬ A (2 * k) → ¬ A (2 * k + 1) → L k = -1)
/-- the tree, where some leaves have come -/
def z_PT (L : Nat → Int32) (it : Nat → z_I4) (n : Nat) (A : Nat → Prop) (w : Nat → Nat) : Prop :=
  (∀ i, i < n → w (n + i) = i) ∧ (∀ k, 1 ≤ k → k < n → z_node L it A w k) ∧ (∀ k, 1 ≤ k → k < 2 * n → A k → w k < n) ∧ (A 1 → L 0 = nI (w 1))
/-- the same, while the winner of m is on its way up -/
def z_PX (L : Nat → Int32) (it : Nat → z_I4) (n : Nat) (A : Nat → Prop) (w : Nat → Nat) (m : Nat) : Prop :=
  (∀ i, i < n → w (n + i) = i) ∧ (∀ k, 1 ≤ k → k < n → k ≠ m / 2 → z_node L it A w k) ∧ (∀ k, 1 ≤ k → k < 2 * n → A k → w k < n) ∧ 1 ≤ m ∧ m < 2 * n ∧ A m ∧ (m ≠ 1 → ¬ A 1) ∧
  (1 ≤ m / 2 → ¬ A (m / 2) ∧ ∀ s, (s = 2 * (m / 2) ∨ s = 2 * (m / 2) + 1) → s ≠ m → (A s → L (m / 2) = nI (w s)) ∧ (¬ A s → L (m / 2) = -1))
