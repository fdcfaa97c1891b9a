/-! ===== orders, and the tree of losers ===== -/
def z_kk (md k : Int32) : Int := if md = 2 then -k.toInt else k.toInt
def z_tt (md t : Int32) : Int := if md = 1 then t.toInt else 0
abbrev z_I4 : Type := Int × Int × Int × Int
def z_l4 (a b : z_I4) : Prop := a.1 < b.1 ∨ (a.1 = b.1 ∧ (a.2.1 < b.2.1 ∨ (a.2.1 = b.2.1 ∧ (a.2.2.1 < b.2.2.1 ∨ (a.2.2.1 = b.2.2.1 ∧ a.2.2.2 < b.2.2.2)))))
theorem z_l4_irr (a : z_I4) : ¬ z_l4 a a := by unfold z_l4; omega
theorem z_l4_tr {a b c : z_I4} (h1 : z_l4 a b) (h2 : z_l4 b c) : z_l4 a c := by unfold z_l4 at *; omega
theorem z_l4_tot {a b : z_I4} (h : a.2.2.2 ≠ b.2.2.2) (h2 : ¬ z_l4 a b) : z_l4 b a := by unfold z_l4 at *; omega
def z_it (S : es_St) (i : Nat) : z_I4 := ((S.2 30 i).toInt, z_kk (S.1 33) (S.2 31 i), z_tt (S.1 33) (S.2 32 i), (S.2 33 i).toInt)
theorem z_kk_eq (md k k' : Int32) : z_kk md k = z_kk md k' ↔ k = k' := by
  unfold z_kk
  constructor
  · intro h
    apply Int32.toInt_inj.mp
    split at h <;> omega
  · intro h; rw [h]
/-- -1, 0 or 1 -/
theorem zx_inOrder {N : Nat → Nat} {fu : Nat} {S : es_St} (md k t k' t' : Int32) : f_X7_inOrder N fu S md k t k' t' = some (if z_kk md k < z_kk md k' ∨ (z_kk md k = z_kk md k' ∧ z_tt md t < z_tt md t') then -1 else if z_kk md k = z_kk md k' ∧ z_tt md t = z_tt md t' then 0 else 1, S) := by
  unfold f_X7_inOrder
  by_cases e : k = k'
  · rw [if_pos e]
    have ek : z_kk md k = z_kk md k' := (z_kk_eq md k k').mpr e
    by_cases m1 : md = 1
    · rw [if_neg (by simpa using m1)]
      have t1 : z_tt md t = t.toInt := by unfold z_tt; rw [if_pos m1]
      have t2 : z_tt md t' = t'.toInt := by unfold z_tt; rw [if_pos m1]
      rw [t1, t2]
      by_cases et : t = t'
      · rw [if_pos et, if_neg (by rw [et]; omega), if_pos ⟨ek, by rw [et]⟩]
      · have : t.toInt ≠ t'.toInt := fun y => et (Int32.toInt_inj.mp y)
        rw [if_neg et]
        by_cases hl : t' ≤ t
        · have h2 := Int32.le_iff_toInt_le.mp hl
          rw [if_pos hl, if_neg (by omega), if_neg (by omega)]
        · have h2 : ¬ t'.toInt ≤ t.toInt := fun y => hl (Int32.le_iff_toInt_le.mpr y)
          rw [if_neg hl, if_pos (Or.inr ⟨ek, by omega⟩)]
    · rw [if_pos m1]
      have t1 : ∀ t : Int32, z_tt md t = 0 := fun t => by unfold z_tt; rw [if_neg m1]
      rw [t1, t1, if_neg (by omega), if_pos ⟨ek, rfl⟩]
  · rw [if_neg e]
    have ek : ¬ z_kk md k = z_kk md k' := fun y => e ((z_kk_eq md k k').mp y)
    have er : ∀ b : Int32, f_X7_inOrder_15 N fu md b S = some (if md = 2 then (if ¬ b = 0 then 1 else -1) else (if ¬ b = 1 then 1 else -1), S) := fun b => by
      unfold f_X7_inOrder_15
      by_cases m2 : md = 2
      · rw [if_pos m2, if_pos m2]; split <;> rfl
      · rw [if_neg m2, if_neg m2]; split <;> rfl
    have hne : k.toInt ≠ k'.toInt := fun y => e (Int32.toInt_inj.mp y)
    by_cases hl : k' ≤ k
    · have h2 := Int32.le_iff_toInt_le.mp hl
      rw [if_pos hl, er]
      unfold z_kk at *
      by_cases m2 : md = 2
      · simp only [m2, if_true] at *
        rw [if_neg (by decide), if_pos (Or.inl (by omega))]
      · simp only [m2, if_false] at *
        rw [if_pos (by decide), if_neg (by omega), if_neg (by omega)]
    · have h2 : ¬ k'.toInt ≤ k.toInt := fun y => hl (Int32.le_iff_toInt_le.mpr y)
      rw [if_neg hl, er]
      unfold z_kk at *
      by_cases m2 : md = 2
      · simp only [m2, if_true] at *
        rw [if_pos (by decide), if_neg (by omega), if_neg (by omega)]
      · simp only [m2, if_false] at *
        rw [if_neg (by decide), if_pos (Or.inl (by omega))]
theorem zx_isLeaf {n i fu : Nat} {N : Nat → Nat} {S : es_St} (h : S.1 32 = nI n) (hn : n < 2 ^ 31) (hi : i < n) : f_X3_isLeaf N fu S (nI i) = some (1, S) := by
  unfold f_X3_isLeaf
  rw [h, if_neg (nI_pos (by omega)), if_neg (nI_ge hi hn)]
theorem zx_beats {P R n i j fu : Nat} {S : es_St} (hok : z_ok P R) (h : S.1 32 = nI n) (hn : n ≤ es_T R) (hi : i < n) (hj : j < n) : (z_l4 (z_it S i) (z_it S j) → f_X3_beats (es_NX P R) fu S (nI i) (nI j) = some (1, S)) ∧ (¬ z_l4 (z_it S i) (z_it S j) → f_X3_beats (es_NX P R) fu S (nI i) (nI j) = some (0, S)) := by
  have hT := es_TR hok.2.2
  have i31 : i < 2 ^ 31 := by omega
  have j31 : j < 2 ^ 31 := by omega
  have ev : ∃ v : Int32, f_X3_beats (es_NX P R) fu S (nI i) (nI j) = some (v, S) ∧ (v = 1 ↔ z_l4 (z_it S i) (z_it S j)) ∧ (v = 1 ∨ v = 0) := by
    unfold f_X3_beats
    rw [zx_isLeaf h (by omega) hi]
    simp only [es_bd, es_lt]
    rw [if_neg (by decide), zx_isLeaf h (by omega) hj]
    simp only [es_bd, zN30, zN31, zN32, zN33]
    rw [if_pos (by decide), z_ck (show i < es_T R by omega) (by omega), z_rd _ _ _ i31, z_ck (show j < es_T R by omega) (by omega), z_rd _ _ _ j31]
    unfold z_l4 z_it
    dsimp only
    by_cases er : S.2 30 i = S.2 30 j
    · rw [if_pos er, z_ck (show i < es_T R by omega) (by omega), z_rd _ _ _ i31, z_ck (show i < es_T R by omega) (by omega), z_rd _ _ _ i31, z_ck (show j < es_T R by omega) (by omega), z_rd _ _ _ j31, z_ck (show j < es_T R by omega) (by omega), z_rd _ _ _ j31, zx_inOrder]
      simp only [es_bd]
      have er' : (S.2 30 i).toInt = (S.2 30 j).toInt := by rw [er]
      by_cases c1 : z_kk (S.1 33) (S.2 31 i) < z_kk (S.1 33) (S.2 31 j) ∨ (z_kk (S.1 33) (S.2 31 i) = z_kk (S.1 33) (S.2 31 j) ∧ z_tt (S.1 33) (S.2 32 i) < z_tt (S.1 33) (S.2 32 j))
      · rw [if_pos c1, if_pos (by decide), if_neg (by decide)]
        exact ⟨1, rfl, ⟨fun _ => Or.inr ⟨er', by omega⟩, fun _ => rfl⟩, Or.inl rfl⟩
      · rw [if_neg c1]
        by_cases c2 : z_kk (S.1 33) (S.2 31 i) = z_kk (S.1 33) (S.2 31 j) ∧ z_tt (S.1 33) (S.2 32 i) = z_tt (S.1 33) (S.2 32 j)
        · rw [if_pos c2, if_neg (by decide), z_ck (show i < es_T R by omega) (by omega), z_rd _ _ _ i31, z_ck (show j < es_T R by omega) (by omega), z_rd _ _ _ j31]
          by_cases c3 : S.2 33 j ≤ S.2 33 i
          · have := Int32.le_iff_toInt_le.mp c3
            rw [if_pos c3]
            exact ⟨0, rfl, ⟨fun y => absurd y (by decide), fun y => by omega⟩, Or.inr rfl⟩
          · have : ¬ (S.2 33 j).toInt ≤ (S.2 33 i).toInt := fun y => c3 (Int32.le_iff_toInt_le.mpr y)
            rw [if_neg c3]
            exact ⟨1, rfl, ⟨fun _ => Or.inr ⟨er', Or.inr ⟨c2.1, Or.inr ⟨c2.2, by omega⟩⟩⟩, fun _ => rfl⟩, Or.inl rfl⟩
        · rw [if_neg c2, if_pos (by decide), if_pos (by decide)]
          exact ⟨0, rfl, ⟨fun y => absurd y (by decide), fun y => by omega⟩, Or.inr rfl⟩
    · rw [if_neg er, z_ck (show i < es_T R by omega) (by omega), z_ck (show j < es_T R by omega) (by omega)]
      have er' : (S.2 30 i).toInt ≠ (S.2 30 j).toInt := fun y => er (Int32.toInt_inj.mp y)
      by_cases c3 : S.2 30 j ≤ S.2 30 i
      · have := Int32.le_iff_toInt_le.mp c3
        rw [if_pos c3]
        exact ⟨0, rfl, ⟨fun y => absurd y (by decide), fun y => by omega⟩, Or.inr rfl⟩
      · have : ¬ (S.2 30 j).toInt ≤ (S.2 30 i).toInt := fun y => c3 (Int32.le_iff_toInt_le.mpr y)
        rw [if_neg c3]
        exact ⟨1, rfl, ⟨fun _ => Or.inl (by omega), fun _ => rfl⟩, Or.inl rfl⟩
  obtain ⟨v, e1, e2, e3⟩ := ev
  refine ⟨fun y => ?_, fun y => ?_⟩
  · rw [e1, e2.mpr y]
  · rw [e1]
    rcases e3 with z | z
    · exact absurd (e2.mp z) y
    · rw [z]
/-- node k of the tree, A: which subtrees are complete, w: who wins them -/
def z_node (L : Nat → Int32) (it : Nat → z_I4) (A : Nat → Prop) (w : Nat → Nat) (k : Nat) : Prop :=
  (A k ↔ A (2 * k) ∧ A (2 * k + 1)) ∧
  (A (2 * k) → A (2 * k + 1) → ∃ l, L k = nI l ∧ ((w k = w (2 * k) ∧ l = w (2 * k + 1)) ∨ (w k = w (2 * k + 1) ∧ l = w (2 * k))) ∧ z_l4 (it (w k)) (it l)) ∧
  (A (2 * k) → ¬ A (2 * k + 1) → L k = nI (w (2 * k))) ∧ (¬ A (2 * k) → A (2 * k + 1) → L k = nI (w (2 * k + 1))) ∧ (¬ A (2 * k) → ¬ A (2 * k + 1) → L k = -1)
/-- the tree, where some leaves have come -/
def z_PT (L : Nat → Int32) (it : Nat → z_I4) (n : Nat) (A : Nat → Prop) (w : Nat → Nat) : Prop :=
  (∀ i, i < n → w (n + i) = i) ∧ (∀ k, 1 ≤ k → k < n → z_node L it A w k) ∧ (∀ k, 1 ≤ k → k < 2 * n → A k → w k < n ∧ ∃ d, (n + w k) / 2 ^ d = k) ∧ (A 1 → L 0 = nI (w 1))
/-- the same, while the winner of m is on its way up -/
def z_PX (L : Nat → Int32) (it : Nat → z_I4) (n : Nat) (A : Nat → Prop) (w : Nat → Nat) (m : Nat) : Prop :=
  (∀ i, i < n → w (n + i) = i) ∧ (∀ k, 1 ≤ k → k < n → k ≠ m / 2 → z_node L it A w k) ∧ (∀ k, 1 ≤ k → k < 2 * n → A k → w k < n ∧ ∃ d, (n + w k) / 2 ^ d = k) ∧ 1 ≤ m ∧ m < 2 * n ∧ A m ∧ (m ≠ 1 → ¬ A 1) ∧
  (1 ≤ m / 2 → ¬ A (m / 2) ∧ ∀ s, (s = 2 * (m / 2) ∨ s = 2 * (m / 2) + 1) → s ≠ m → (A s → L (m / 2) = nI (w s)) ∧ (¬ A s → L (m / 2) = -1))

/-- a node whose children and own entries are as they were -/
theorem z_node_keep {L L' : Nat → Int32} {it : Nat → z_I4} {A A' : Nat → Prop} {w w' : Nat → Nat} {k : Nat} (h : z_node L it A w k) (e : L' k = L k) (a0 : A' k ↔ A k) (a1 : A' (2 * k) ↔ A (2 * k)) (a2 : A' (2 * k + 1) ↔ A (2 * k + 1)) (w0 : A k → w' k = w k) (w1 : w' (2 * k) = w (2 * k)) (w2 : w' (2 * k + 1) = w (2 * k + 1)) : z_node L' it A' w' k := by
  obtain ⟨h1, h2, h3, h4, h5⟩ := h
  refine ⟨by rw [a0, a1, a2]; exact h1, fun x y => ?_, fun x y => ?_, fun x y => ?_, fun x y => ?_⟩
  · have hk := h1.mpr ⟨a1.mp x, a2.mp y⟩
    rw [e, w0 hk, w1, w2]; exact h2 (a1.mp x) (a2.mp y)
  · rw [e, w1]; exact h3 (a1.mp x) (fun z => y (a2.mpr z))
  · rw [e, w2]; exact h4 (fun z => x (a1.mpr z)) (a2.mp y)
  · rw [e]; exact h5 (fun z => x (a1.mpr z)) (fun z => y (a2.mpr z))
theorem z_bro {n a b x d e : Nat} (ha : 1 ≤ a) (hb : 1 ≤ b) (h1 : (n + x) / 2 ^ d = a) (h2 : (n + x) / 2 ^ e = b) (h : a / 2 = b / 2) : a = b := by
  rcases Nat.lt_trichotomy d e with c | c | c
  · obtain ⟨g, rfl⟩ : ∃ g, e = d + 1 + g := ⟨e - (d + 1), by omega⟩
    have : b = a / 2 / 2 ^ g := by rw [← h2, ← h1, Nat.pow_add, Nat.pow_succ, ← Nat.div_div_eq_div_mul, ← Nat.div_div_eq_div_mul]
    have h3 : a / 2 / 2 ^ g ≤ a / 2 := Nat.div_le_self _ _
    omega
  · subst c; rw [← h1, ← h2]
  · obtain ⟨g, rfl⟩ : ∃ g, d = e + 1 + g := ⟨d - (e + 1), by omega⟩
    have : a = b / 2 / 2 ^ g := by rw [← h1, ← h2, Nat.pow_add, Nat.pow_succ, ← Nat.div_div_eq_div_mul, ← Nat.div_div_eq_div_mul]
    have h3 : b / 2 / 2 ^ g ≤ b / 2 := Nat.div_le_self _ _
    omega
/-- a match between m and its brother s is over -/
theorem z_PX_up {L L' : Nat → Int32} {it : Nat → z_I4} {n : Nat} {A A' : Nat → Prop} {w w' : Nat → Nat} {m s win lose : Nat} (h : z_PX L it n A w m) (h1 : m ≠ 1) (s3 : (m = 2 * (m / 2) ∧ s = 2 * (m / 2) + 1) ∨ (m = 2 * (m / 2) + 1 ∧ s = 2 * (m / 2))) (hs : A s) (hA' : ∀ k, A' k ↔ A k ∨ k = m / 2) (hw0 : w' (m / 2) = win) (hw1 : ∀ k, k ≠ m / 2 → w' k = w k) (hL0 : L' (m / 2) = nI lose) (hL1 : ∀ k, k ≠ m / 2 → L' k = L k) (hwl : (win = w s ∧ lose = w m) ∨ (win = w m ∧ lose = w s)) (hb : z_l4 (it win) (it lose)) : z_PX L' it n A' w' (m / 2) := by
  obtain ⟨x1, x2, x3, x4, x5, x6, x7, x8⟩ := h
  have hk1 : 1 ≤ m / 2 := by omega
  obtain ⟨y1, y2⟩ := x8 hk1
  have hkn : m / 2 < n := by omega
  have e1 : A (2 * (m / 2)) ∧ A (2 * (m / 2) + 1) := by
    rcases s3 with ⟨u, v⟩ | ⟨u, v⟩
    · exact ⟨u ▸ x6, v ▸ hs⟩
    · exact ⟨v ▸ hs, u ▸ x6⟩
  refine ⟨fun i hi => ?_, fun k a b hk => ?_, fun k a b hAk => ?_, hk1, by omega, (hA' _).mpr (Or.inr rfl), fun hm1 hA1 => ?_, fun hq => ⟨fun hAk => ?_, fun s' hs' hs'm => ?_⟩⟩
  · rw [hw1 _ (by omega)]; exact x1 i hi
  · by_cases ek : k = m / 2
    · subst ek
      refine ⟨⟨fun _ => ⟨(hA' _).mpr (Or.inl e1.1), (hA' _).mpr (Or.inl e1.2)⟩, fun _ => (hA' _).mpr (Or.inr rfl)⟩, fun _ _ => ⟨lose, hL0, ?_, by rw [hw0]; exact hb⟩, fun _ y => absurd ((hA' _).mpr (Or.inl e1.2)) y, fun y _ => absurd ((hA' _).mpr (Or.inl e1.1)) y, fun y _ => absurd ((hA' _).mpr (Or.inl e1.1)) y⟩
      rw [hw0, hw1 _ (by omega), hw1 _ (by omega)]
      rcases s3 with ⟨u, v⟩ | ⟨u, v⟩ <;> rcases hwl with ⟨p, q⟩ | ⟨p, q⟩
      · exact Or.inr ⟨by rw [p, ← v], by rw [q, ← u]⟩
      · exact Or.inl ⟨by rw [p, ← u], by rw [q, ← v]⟩
      · exact Or.inl ⟨by rw [p, ← v], by rw [q, ← u]⟩
      · exact Or.inr ⟨by rw [p, ← u], by rw [q, ← v]⟩
    · exact z_node_keep (x2 k a b ek) (hL1 k ek) ⟨fun y => ((hA' _).mp y).resolve_right ek, fun y => (hA' _).mpr (Or.inl y)⟩ ⟨fun y => ((hA' _).mp y).resolve_right (by omega), fun y => (hA' _).mpr (Or.inl y)⟩ ⟨fun y => ((hA' _).mp y).resolve_right (by omega), fun y => (hA' _).mpr (Or.inl y)⟩ (fun _ => hw1 k ek) (hw1 _ (by omega)) (hw1 _ (by omega))
  · by_cases ek : k = m / 2
    · subst ek
      rw [hw0]
      obtain ⟨u1, d1, u2⟩ := x3 m x4 x5 x6
      obtain ⟨v1, d2, v2⟩ := x3 s (by omega) (by omega) hs
      have half : ∀ x d c, (n + x) / 2 ^ d = c → (n + x) / 2 ^ (d + 1) = c / 2 := fun x d c e => by rw [Nat.pow_succ, ← Nat.div_div_eq_div_mul, e]
      rcases hwl with ⟨p, q⟩ | ⟨p, q⟩
      · rw [p]; exact ⟨v1, d2 + 1, by rw [half _ _ _ v2]; omega⟩
      · rw [p]; exact ⟨u1, d1 + 1, by rw [half _ _ _ u2]⟩
    · rw [hw1 k ek]; exact x3 k a b (((hA' _).mp hAk).resolve_right ek)
  · rcases (hA' _).mp hA1 with z | z
    · exact x7 h1 z
    · omega
  · rcases (hA' _).mp hAk with z | z
    · have := (x2 (m / 2 / 2) hq (by omega) (by omega)).1.mp z
      have hc : A (m / 2) := by
        rcases Nat.mod_two_eq_zero_or_one (m / 2) with u | u
        · rw [show m / 2 = 2 * (m / 2 / 2) by omega]; exact this.1
        · rw [show m / 2 = 2 * (m / 2 / 2) + 1 by omega]; exact this.2
      exact y1 hc
    · omega
  · have hnd := x2 (m / 2 / 2) hq (by omega) (by omega)
    rw [hL1 _ (by omega), hw1 s' hs'm]
    rcases Nat.mod_two_eq_zero_or_one (m / 2) with u | u
    · have em : 2 * (m / 2 / 2) = m / 2 := by omega
      have es : s' = 2 * (m / 2 / 2) + 1 := by omega
      rw [es]
      exact ⟨fun y => hnd.2.2.2.1 (by rw [em]; exact y1) (((hA' _).mp y).resolve_right (by omega)), fun y => hnd.2.2.2.2 (by rw [em]; exact y1) (fun z => y ((hA' _).mpr (Or.inl z)))⟩
    · have em : 2 * (m / 2 / 2) + 1 = m / 2 := by omega
      have es : s' = 2 * (m / 2 / 2) := by omega
      rw [es]
      exact ⟨fun y => hnd.2.2.1 (((hA' _).mp y).resolve_right (by omega)) (by rw [em]; exact y1), fun y => hnd.2.2.2.2 (fun z => y ((hA' _).mpr (Or.inl z))) (by rw [em]; exact y1)⟩
theorem z_it_34 (S : es_St) (q : Nat) (v : Int32) : z_it (es_wr S 34 (nI q) v) = z_it S := by
  funext i
  unfold z_it
  rw [z_w1, z_w2b _ _ _ (by decide), z_w2b _ _ _ (by decide), z_w2b _ _ _ (by decide), z_w2b _ _ _ (by decide)]
/-- the way up -/
theorem zx_climb_loop {P R n fu : Nat} (hok : z_ok P R) (hn : n ≤ es_T R) : ∀ (f m c : Nat) (S : es_St) (A : Nat → Prop) (w : Nat → Nat), m < f → c = w m → S.1 32 = nI n → (∀ i j, i < n → j < n → i ≠ j → S.2 33 i ≠ S.2 33 j) → z_PX (S.2 34) (z_it S) n A w m →
    ∃ (S' : es_St) (A' : Nat → Prop) (w' : Nat → Nat), f_X3_climb_20 (es_NX P R) fu f (nI c) (nI (m / 2)) S = some (0, S') ∧ z_keep [] [34] S S' ∧ z_PT (S'.2 34) (z_it S') n A' w' ∧ (∀ k, n ≤ k → (A' k ↔ A k)) := by
  have hT := es_TR hok.2.2
  intro f
  induction f with
  | zero => intro m c S A w h; exact absurd h (by omega)
  | succ f ih =>
    intro m c S A w hm hc h32 hd hx
    subst hc
    obtain ⟨x1, x2, x3, x4, x5, x6, x7, x8⟩ := id hx
    obtain ⟨hwm, dm, hdm⟩ := x3 m x4 x5 x6
    rw [f_X3_climb_20]
    simp only [es_lt, zN34]
    by_cases h1 : m = 1
    · subst h1
      rw [show (1 : Nat) / 2 = 0 from rfl, if_pos (by decide), show es_ck (vp_in 0 (es_T R)) _ = _ from z_ck (i := 0) (show 0 < es_T R by have := es_Tb hok.2.2; omega) (by omega)]
      refine ⟨es_wr S 34 (nI 0) (nI (w 1)), A, w, rfl, z_keep_w S 34 _ _ (by simp), ?_, fun k _ => Iff.rfl⟩
      rw [z_it_34]
      refine ⟨x1, fun k a b => ?_, x3, fun _ => by rw [z_w2a _ _ _ _ (by decide), if_pos rfl]⟩
      refine z_node_keep (x2 k a b (by show k ≠ 0; omega)) ?_ Iff.rfl Iff.rfl Iff.rfl (fun _ => rfl) rfl rfl
      rw [z_w2a _ _ _ _ (by decide), if_neg (by omega)]
    · have hk1 : 1 ≤ m / 2 := by omega
      have hkn : m / 2 < n := by omega
      obtain ⟨y1, y2⟩ := x8 hk1
      have hk31 : m / 2 < 2 ^ 31 := by omega
      rw [if_neg (show ¬ nI (m / 2) ≤ 0 from nI_nle (by omega) hk31), if_neg (show ¬ nI (es_T R) ≤ nI (m / 2) from nI_ge (show m / 2 < es_T R by omega) (by omega)), z_ck (show m / 2 < es_T R by omega) (by omega), z_rd _ _ _ hk31]
      obtain ⟨s, s1, s2, s3⟩ : ∃ s, (s = 2 * (m / 2) ∨ s = 2 * (m / 2) + 1) ∧ s ≠ m ∧ ((m = 2 * (m / 2) ∧ s = 2 * (m / 2) + 1) ∨ (m = 2 * (m / 2) + 1 ∧ s = 2 * (m / 2))) := by
        rcases Nat.mod_two_eq_zero_or_one m with z | z
        · exact ⟨2 * (m / 2) + 1, Or.inr rfl, by omega, Or.inl ⟨by omega, rfl⟩⟩
        · exact ⟨2 * (m / 2), Or.inl rfl, by omega, Or.inr ⟨by omega, rfl⟩⟩
      obtain ⟨z1, z2⟩ := y2 s s1 s2
      have hdiv : nI (m / 2) / 2 = nI (m / 2 / 2) := pk_div (d := 2) hk31 (by decide) (by decide)
      by_cases hA : A s
      · obtain ⟨hws, ds, hds⟩ := x3 s (by omega) (by omega) hA
        rw [z1 hA, if_pos (fun y => (z_m1 (by omega)).mp y)]
        have hneq : w s ≠ w m := fun e => s2 (z_bro (n := n) (x := w s) (by omega) x4 hds (by rw [e]; exact hdm) (by omega))
        have hb := zx_beats (fu := fu) hok h32 hn hws hwm
        by_cases hl : z_l4 (z_it S (w s)) (z_it S (w m))
        · rw [hb.1 hl]
          simp only [es_bd]
          rw [if_neg (by decide), z_ck (show m / 2 < es_T R by omega) (by omega), hdiv]
          have hPX := z_PX_up (L' := (es_wr S 34 (nI (m / 2)) (nI (w m))).2 34) (A' := fun k => A k ∨ k = m / 2) (w' := fun k => if k = m / 2 then w s else w k) hx h1 s3 hA (fun k => Iff.rfl) (if_pos rfl) (fun k hk => if_neg hk) (by rw [z_w2a _ _ _ _ hk31, if_pos rfl]) (fun k hk => by rw [z_w2a _ _ _ _ hk31, if_neg hk]) (Or.inl ⟨rfl, rfl⟩) hl
          rw [← z_it_34 S (m / 2) (nI (w m))] at hPX
          obtain ⟨S', A', w', g1, g2, g3, g4⟩ := ih (m / 2) (w s) (es_wr S 34 (nI (m / 2)) (nI (w m))) _ (fun k => if k = m / 2 then w s else w k) (by omega) (by rw [if_pos rfl]) (by rw [z_w1]; exact h32) (by rw [z_w2b _ _ _ (by decide)]; exact hd) hPX
          exact ⟨S', A', w', g1, z_keep_trans (z_keep_w S 34 _ _ (by simp)) g2, g3, fun k hk => (g4 k hk).trans ⟨fun y => y.resolve_right (by omega), Or.inl⟩⟩
        · rw [hb.2 hl]
          simp only [es_bd]
          rw [if_pos trivial, hdiv]
          have hl2 : z_l4 (z_it S (w m)) (z_it S (w s)) := z_l4_tot (fun e => hd (w s) (w m) hws hwm hneq (Int32.toInt_inj.mp e)) hl
          have hPX := z_PX_up (L' := S.2 34) (A' := fun k => A k ∨ k = m / 2) (w' := fun k => if k = m / 2 then w m else w k) hx h1 s3 hA (fun k => Iff.rfl) (if_pos rfl) (fun k hk => if_neg hk) (z1 hA) (fun k hk => rfl) (Or.inr ⟨rfl, rfl⟩) hl2
          obtain ⟨S', A', w', g1, g2, g3, g4⟩ := ih (m / 2) (w m) S _ (fun k => if k = m / 2 then w m else w k) (by omega) (by rw [if_pos rfl]) h32 hd hPX
          exact ⟨S', A', w', g1, g2, g3, fun k hk => (g4 k hk).trans ⟨fun y => y.resolve_right (by omega), Or.inl⟩⟩
      · rw [z2 hA, if_neg (by decide), z_ck (show m / 2 < es_T R by omega) (by omega)]
        refine ⟨es_wr S 34 (nI (m / 2)) (nI (w m)), A, w, rfl, z_keep_w S 34 _ _ (by simp), ?_, fun k _ => Iff.rfl⟩
        rw [z_it_34]
        refine ⟨x1, fun k a b => ?_, x3, fun hA1 => absurd hA1 (x7 h1)⟩
        by_cases ek : k = m / 2
        · subst ek
          have hL : (es_wr S 34 (nI (m / 2)) (nI (w m))).2 34 (m / 2) = nI (w m) := by rw [z_w2a _ _ _ _ hk31, if_pos rfl]
          rcases s3 with ⟨u, v⟩ | ⟨u, v⟩
          · rw [v] at hA
            refine ⟨⟨fun y => absurd y y1, fun y => absurd y.2 hA⟩, fun _ y => absurd y hA, fun _ _ => by rw [hL, ← u], fun y _ => absurd (u ▸ x6) y, fun y _ => absurd (u ▸ x6) y⟩
          · rw [v] at hA
            refine ⟨⟨fun y => absurd y y1, fun y => absurd y.1 hA⟩, fun y _ => absurd y hA, fun y _ => absurd y hA, fun _ _ => by rw [hL, ← u], fun _ y => absurd (u ▸ x6) y⟩
        · exact z_node_keep (x2 k a b ek) (by rw [z_w2a _ _ _ _ hk31, if_neg ek]) Iff.rfl Iff.rfl Iff.rfl (fun _ => rfl) rfl rfl

/-- all leaves have come: then all is complete, and who stands at the top beats all others -/
theorem z_PT_all {L : Nat → Int32} {it : Nat → z_I4} {n : Nat} {A : Nat → Prop} {w : Nat → Nat} (h : z_PT L it n A w) (hl : ∀ i, i < n → A (n + i)) : ∀ k, 1 ≤ k → k < 2 * n → A k := by
  have key : ∀ d k, 2 * n - k ≤ d → 1 ≤ k → k < 2 * n → A k := by
    intro d
    induction d with
    | zero => intro k a b c; omega
    | succ d ih =>
      intro k a b c
      by_cases hk : n ≤ k
      · rw [show k = n + (k - n) by omega]; exact hl (k - n) (by omega)
      · exact (h.2.1 k b (by omega)).1.mpr ⟨ih (2 * k) (by omega) (by omega) (by omega), ih (2 * k + 1) (by omega) (by omega) (by omega)⟩
  exact fun k a b => key (2 * n - k) k (Nat.le_refl _) a b
theorem z_PT_best {L : Nat → Int32} {it : Nat → z_I4} {n : Nat} {A : Nat → Prop} {w : Nat → Nat} (h : z_PT L it n A w) (hl : ∀ i, i < n → A (n + i)) (i : Nat) (hi : i < n) : i = w 1 ∨ z_l4 (it (w 1)) (it i) := by
  have hall := z_PT_all h hl
  have key : ∀ k, 1 ≤ k → k < 2 * n → w k = w 1 ∨ z_l4 (it (w 1)) (it (w k)) := by
    intro k
    induction k using Nat.strongRecOn with
    | _ k ih =>
      intro a b
      by_cases e : k = 1
      · rw [e]; exact Or.inl rfl
      · have hp := ih (k / 2) (by omega) (by omega) (by omega)
        obtain ⟨l, l1, l2, l3⟩ := (h.2.1 (k / 2) (by omega) (by omega)).2.1 (hall _ (by omega) (by omega)) (hall _ (by omega) (by omega))
        have hk : w k = w (k / 2) ∨ w k = l := by
          rcases Nat.mod_two_eq_zero_or_one k with z | z
          · rw [show 2 * (k / 2) = k by omega] at l2
            rcases l2 with ⟨u, v⟩ | ⟨u, v⟩
            · exact Or.inl u.symm
            · exact Or.inr v.symm
          · rw [show 2 * (k / 2) + 1 = k by omega] at l2
            rcases l2 with ⟨u, v⟩ | ⟨u, v⟩
            · exact Or.inr v.symm
            · exact Or.inl u.symm
        rcases hk with z | z
        · rw [z]; exact hp
        · rw [z]
          rcases hp with y | y
          · rw [y] at l3; exact Or.inr l3
          · exact Or.inr (z_l4_tr y l3)
  have := key (n + i) (by omega) (by omega)
  rw [h.1 i hi] at this
  exact this
/-- a full tree: who wins -/
def z_FT (S : es_St) (n : Nat) (b : Nat) : Prop := ∃ (A : Nat → Prop) (w : Nat → Nat), z_PT (S.2 34) (z_it S) n A w ∧ (∀ i, i < n → A (n + i)) ∧ w 1 = b
theorem z_FT_best {S : es_St} {n b : Nat} (hn : 0 < n) (h : z_FT S n b) : b < n ∧ S.2 34 0 = nI b ∧ ∀ i, i < n → i = b ∨ z_l4 (z_it S b) (z_it S i) := by
  obtain ⟨A, w, h1, h2, rfl⟩ := h
  have h3 := z_PT_all h1 h2 1 (by omega) (by omega)
  exact ⟨(h1.2.2.1 1 (by omega) (by omega) h3).1, h1.2.2.2 h3, fun i hi => z_PT_best h1 h2 i hi⟩
/-- the winner's leaf holds something else: its way up is open -/
theorem z_FT_PX {S S' : es_St} {n b : Nat} (hn : 0 < n) (h : z_FT S n b) (e34 : S'.2 34 = S.2 34) (hi : ∀ i, i < n → i ≠ b → z_it S' i = z_it S i) : ∃ (A : Nat → Prop) (w : Nat → Nat), z_PX (S'.2 34) (z_it S') n A w (n + b) ∧ w (n + b) = b ∧ ∀ i, i < n → A (n + i) := by
  obtain ⟨hb, -, hbest⟩ := z_FT_best hn h
  obtain ⟨A, w, h1, h2, hw1⟩ := h
  have hall := z_PT_all h1 h2
  -- whoever loses to somebody isn't b
  have nob : ∀ x l, x < n → z_l4 (z_it S x) (z_it S l) → l ≠ b := fun x l hx hl e => by
    subst e
    rcases hbest x hx with z | z
    · rw [z] at hl; exact z_l4_irr _ hl
    · exact z_l4_irr _ (z_l4_tr z hl)
  have hnode : ∀ k, 1 ≤ k → k < n → ∃ l, S.2 34 k = nI l ∧ l ≠ b ∧ l < n ∧ ((w k = w (2 * k) ∧ l = w (2 * k + 1)) ∨ (w k = w (2 * k + 1) ∧ l = w (2 * k))) ∧ z_l4 (z_it S (w k)) (z_it S l) := fun k a c => by
    obtain ⟨l, l1, l2, l3⟩ := (h1.2.1 k a c).2.1 (hall _ (by omega) (by omega)) (hall _ (by omega) (by omega))
    refine ⟨l, l1, nob (w k) l (h1.2.2.1 k a (by omega) (hall k a (by omega))).1 l3, ?_, l2, l3⟩
    rcases l2 with ⟨_, v⟩ | ⟨_, v⟩
    · rw [v]; exact (h1.2.2.1 _ (by omega) (by omega) (hall _ (by omega) (by omega))).1
    · rw [v]; exact (h1.2.2.1 _ (by omega) (by omega) (hall _ (by omega) (by omega))).1
  have hwl : w (n + b) = b := h1.1 b hb
  have leaf : ∀ k, n ≤ k → k < 2 * n → w k = b → k = n + b := fun k a c e => by
    have := h1.1 (k - n) (by omega)
    rw [show n + (k - n) = k by omega, e] at this
    omega
  rw [e34]
  refine ⟨fun k => w k ≠ b ∨ k = n + b, w, ⟨h1.1, fun k a c hk => ?_, fun k a c _ => h1.2.2.1 k a c (hall k a c), by omega, by omega, Or.inr rfl, fun hm hA1 => ?_, fun hq => ⟨fun hA' => ?_, fun s hs hsm => ?_⟩⟩, hwl, fun i hi' => ?_⟩
  · obtain ⟨l, l1, l2, l2n, l3, l4⟩ := hnode k a c
    have hkl : k ≠ n + b := by omega
    have c1 : 2 * k ≠ n + b := by omega
    have c2 : 2 * k + 1 ≠ n + b := by omega
    by_cases ew : w k = b
    · -- on the way
      rcases l3 with ⟨u, v⟩ | ⟨u, v⟩
      · have n1 : ¬ (w (2 * k) ≠ b ∨ 2 * k = n + b) := fun y => y.elim (fun z => z (u.symm.trans ew)) c1
        have n2 : w (2 * k + 1) ≠ b ∨ 2 * k + 1 = n + b := Or.inl (by rw [← v]; exact l2)
        exact ⟨⟨fun y => absurd y (fun z => z.elim (fun q => q ew) hkl), fun y => absurd y.1 n1⟩, fun y => absurd y n1, fun y => absurd y n1, fun _ _ => by rw [l1, v], fun _ y => absurd n2 y⟩
      · have n1 : ¬ (w (2 * k + 1) ≠ b ∨ 2 * k + 1 = n + b) := fun y => y.elim (fun z => z (u.symm.trans ew)) c2
        have n2 : w (2 * k) ≠ b ∨ 2 * k = n + b := Or.inl (by rw [← v]; exact l2)
        exact ⟨⟨fun y => absurd y (fun z => z.elim (fun q => q ew) hkl), fun y => absurd y.2 n1⟩, fun _ y => absurd y n1, fun _ _ => by rw [l1, v], fun y => absurd n2 y, fun y => absurd n2 y⟩
    · have n1 : w (2 * k) ≠ b := by
        rcases l3 with ⟨u, v⟩ | ⟨u, v⟩
        · rw [← u]; exact ew
        · rw [← v]; exact l2
      have n2 : w (2 * k + 1) ≠ b := by
        rcases l3 with ⟨u, v⟩ | ⟨u, v⟩
        · rw [← v]; exact l2
        · rw [← u]; exact ew
      have hwk := (h1.2.2.1 k a (by omega) (hall k a (by omega))).1
      refine ⟨⟨fun _ => ⟨Or.inl n1, Or.inl n2⟩, fun _ => Or.inl ew⟩, fun _ _ => ⟨l, l1, l3, ?_⟩, fun _ y => absurd (Or.inl n2) y, fun y => absurd (Or.inl n1) y, fun y => absurd (Or.inl n1) y⟩
      rw [hi (w k) hwk ew, hi l l2n l2]; exact l4
  · rcases hA1 with z | z
    · exact z hw1
    · exact hm z.symm
  · have hk : (n + b) / 2 < n := by omega
    obtain ⟨l, l1, l2, l2n, l3, l4⟩ := hnode ((n + b) / 2) hq hk
    have hwk : w ((n + b) / 2) = b := by
      rcases Nat.mod_two_eq_zero_or_one (n + b) with z | z
      · rw [show 2 * ((n + b) / 2) = n + b by omega, hwl] at l3
        rcases l3 with ⟨u, _⟩ | ⟨_, v⟩
        · exact u
        · exact absurd v l2
      · rw [show 2 * ((n + b) / 2) + 1 = n + b by omega, hwl] at l3
        rcases l3 with ⟨_, v⟩ | ⟨u, _⟩
        · exact absurd v l2
        · exact u
    rcases hA' with z | z
    · exact z hwk
    · omega
  · have hk : (n + b) / 2 < n := by omega
    obtain ⟨l, l1, l2, l2n, l3, l4⟩ := hnode ((n + b) / 2) hq hk
    have hls : l = w s := by
      rcases Nat.mod_two_eq_zero_or_one (n + b) with z | z
      · have es : s = 2 * ((n + b) / 2) + 1 := by omega
        rw [show 2 * ((n + b) / 2) = n + b by omega, hwl] at l3
        rcases l3 with ⟨_, v⟩ | ⟨_, v⟩
        · rw [es, show 2 * ((n + b) / 2) = n + b by omega]; exact v
        · exact absurd v l2
      · have es : s = 2 * ((n + b) / 2) := by omega
        rw [show 2 * ((n + b) / 2) + 1 = n + b by omega, hwl] at l3
        rcases l3 with ⟨_, v⟩ | ⟨_, v⟩
        · exact absurd v l2
        · rw [es]; exact v
    refine ⟨fun _ => by rw [l1, hls], fun y => absurd (Or.inl ?_) y⟩
    rw [← hls]; exact l2
  · by_cases e : i = b
    · exact Or.inr (by omega)
    · exact Or.inl (by rw [h1.1 i hi']; exact e)
/-- climb, behind the winner's leaf was filled anew -/
theorem zx_climb {P R n b : Nat} {S S' : es_St} (hok : z_ok P R) (hn : n ≤ es_T R) (hn0 : 0 < n) (h : z_FT S n b) (e34 : S'.2 34 = S.2 34) (hi : ∀ i, i < n → i ≠ b → z_it S' i = z_it S i) (h32 : S'.1 32 = nI n) (hd : ∀ i j, i < n → j < n → i ≠ j → S'.2 33 i ≠ S'.2 33 j) : ∃ (S2 : es_St) (b2 : Nat), f_X3_climb (es_NX P R) z_fu S' (nI b) = some (0, S2) ∧ z_keep [] [34] S' S2 ∧ z_FT S2 n b2 := by
  have hT := es_TR hok.2.2
  obtain ⟨hb, -, -⟩ := z_FT_best hn0 h
  obtain ⟨A, w, h1, h2, h3⟩ := z_FT_PX hn0 h e34 hi
  obtain ⟨S2, A', w', g1, g2, g3, g4⟩ := zx_climb_loop (fu := z_fu) hok hn z_fu (n + b) b S' A w (by have := z_fu_ge; omega) h2.symm h32 hd h1
  refine ⟨S2, w' 1, ?_, g2, A', w', g3, fun i hi' => (g4 (n + i) (by omega)).mpr (h3 i hi'), rfl⟩
  unfold f_X3_climb
  rw [zx_isLeaf h32 (by omega) hb]
  simp only [es_bd, es_lt]
  rw [if_pos (by decide), h32, nI_add, show nI (n + b) / 2 = nI ((n + b) / 2) from pk_div (d := 2) (by omega) (by decide) (by decide)]
  exact g1
