/-! ===== the reference's steps of making runs ===== -/
theorem zm_isAhead {N : Nat → Nat} {fu : Nat} {S : es_St} {md : Int32} (h : S.1 13 = md) (k t k' t' : Int32) : (z_ah md (k, t) (k', t') → f_X8_isAhead N fu S k t k' t' = some (1, S)) ∧ (¬ z_ah md (k, t) (k', t') → f_X8_isAhead N fu S k t k' t' = some (0, S)) := by
  unfold f_X8_isAhead z_ah
  rw [h]
  dsimp only
  by_cases e : k = k'
  · subst e
    rw [if_pos rfl]
    by_cases m1 : md = 1
    · rw [if_neg (by simpa using m1)]
      have t1 : ∀ t : Int32, z_tt md t = t.toInt := fun t => by unfold z_tt; rw [if_pos m1]
      rw [t1, t1]
      by_cases hl : t' ≤ t
      · have := Int32.le_iff_toInt_le.mp hl
        rw [if_pos hl]
        exact ⟨fun y => absurd y (by omega), fun _ => rfl⟩
      · have : ¬ t'.toInt ≤ t.toInt := fun y => hl (Int32.le_iff_toInt_le.mpr y)
        rw [if_neg hl]
        exact ⟨fun _ => rfl, fun y => absurd (Or.inr ⟨rfl, by omega⟩) y⟩
    · rw [if_pos m1]
      have t1 : ∀ t : Int32, z_tt md t = 0 := fun t => by unfold z_tt; rw [if_neg m1]
      rw [t1, t1]
      exact ⟨fun y => absurd y (by omega), fun _ => rfl⟩
  · rw [if_neg e]
    have hne : k.toInt ≠ k'.toInt := fun y => e (Int32.toInt_inj.mp y)
    by_cases m2 : md = 2
    · rw [if_neg (by simpa using m2)]
      have t1 : ∀ t : Int32, z_kk md t = -t.toInt := fun t => by unfold z_kk; rw [if_pos m2]
      rw [t1, t1]
      by_cases hl : k ≤ k'
      · have := Int32.le_iff_toInt_le.mp hl
        rw [if_pos hl]
        exact ⟨fun y => absurd y (by omega), fun _ => rfl⟩
      · have : ¬ k.toInt ≤ k'.toInt := fun y => hl (Int32.le_iff_toInt_le.mpr y)
        rw [if_neg hl]
        exact ⟨fun _ => rfl, fun y => absurd (Or.inl (by omega)) y⟩
    · rw [if_pos m2]
      have t1 : ∀ t : Int32, z_kk md t = t.toInt := fun t => by unfold z_kk; rw [if_neg m2]
      rw [t1, t1]
      by_cases hl : k' ≤ k
      · have := Int32.le_iff_toInt_le.mp hl
        rw [if_pos hl]
        exact ⟨fun y => absurd y (by omega), fun _ => rfl⟩
      · have : ¬ k'.toInt ≤ k.toInt := fun y => hl (Int32.le_iff_toInt_le.mpr y)
        rw [if_neg hl]
        exact ⟨fun _ => rfl, fun y => absurd (Or.inl (by omega)) y⟩
/-- an entry of the reference's memory -/
def z_mi (S : es_St) (q : Nat) : z_I4 := (0, z_kk (S.1 13) (S.2 8 q), z_tt (S.1 13) (S.2 9 q), (S.2 10 q).toInt)
theorem zm_first_loop {h : Nat} {S : es_St} (hh : h ≤ 224) (h12 : S.1 12 = nI h) (hd : ∀ q q', q < h → q' < h → q ≠ q' → S.2 10 q ≠ S.2 10 q') : ∀ (fu k : Nat) (x : Int32), k ≤ h → h - k < fu → ((x = -1 ∧ ∀ q, q < k → S.2 11 q ≠ 0) ∨ ∃ b, b < k ∧ x = nI b ∧ S.2 11 b = 0 ∧ ∀ q, q < k → S.2 11 q = 0 → q ≠ b → z_l4 (z_mi S b) (z_mi S q)) →
    ∃ r, f_X8_first_4 es_NM z_fu fu x (nI k) S = some (r, S) ∧ ((r = -1 ∧ ∀ q, q < h → S.2 11 q ≠ 0) ∨ ∃ b, b < h ∧ r = nI b ∧ S.2 11 b = 0 ∧ ∀ q, q < h → S.2 11 q = 0 → q ≠ b → z_l4 (z_mi S b) (z_mi S q)) := by
  have i8 : ∀ q, q < h → vp_in (nI q) (es_NM 8) := fun q hq => vp_in_nI (N := es_NM 8) (show q < 224 by omega) (by decide)
  have i9 : ∀ q, q < h → vp_in (nI q) (es_NM 9) := fun q hq => vp_in_nI (N := es_NM 9) (show q < 224 by omega) (by decide)
  have i10 : ∀ q, q < h → vp_in (nI q) (es_NM 10) := fun q hq => vp_in_nI (N := es_NM 10) (show q < 224 by omega) (by decide)
  have i11 : ∀ q, q < h → vp_in (nI q) (es_NM 11) := fun q hq => vp_in_nI (N := es_NM 11) (show q < 224 by omega) (by decide)
  intro fu
  induction fu with
  | zero => intro k x _ hf; exact absurd hf (by omega)
  | succ fu ih =>
    intro k x hk hf hx
    rw [f_X8_first_4, h12]
    by_cases e : k = h
    · subst e
      rw [if_pos (nI_le (Nat.le_refl _) (by omega))]
      exact ⟨x, rfl, hx⟩
    · have hkh : k < h := by omega
      rw [if_neg (nI_ge hkh (by omega)), es_ck_t (i11 k hkh), z_lt, z_rd _ _ _ (by omega)]
      by_cases hn : S.2 11 k = 0
      · rw [if_pos hn]
        rcases hx with ⟨rfl, hall⟩ | ⟨b, hb, rfl, hb0, hbest⟩
        · rw [if_pos (by decide), z_lt, nI_1]
          exact ih (k + 1) (nI k) (by omega) (by omega) (Or.inr ⟨k, by omega, rfl, hn, fun q hq hq0 hqk => absurd hq0 (hall q (by omega))⟩)
        · have hbh : b < h := by omega
          rw [if_neg (nI_pos (by omega)), es_ck_t (i8 k hkh), z_lt, z_rd _ _ _ (by omega), es_ck_t (i9 k hkh), z_lt, z_rd _ _ _ (by omega), es_ck_t (i8 b hbh), z_lt, z_rd _ _ _ (by omega), es_ck_t (i9 b hbh), z_lt, z_rd _ _ _ (by omega)]
          have a1 := zm_isAhead (N := es_NM) (fu := z_fu) (S := S) rfl (S.2 8 k) (S.2 9 k) (S.2 8 b) (S.2 9 b)
          by_cases c1 : z_ah (S.1 13) (S.2 8 k, S.2 9 k) (S.2 8 b, S.2 9 b)
          · rw [a1.1 c1, es_bd_s, if_neg (by decide), z_lt, nI_1]
            have hkb : z_l4 (z_mi S k) (z_mi S b) := by
              unfold z_ah at c1; unfold z_l4 z_mi; dsimp only at c1 ⊢; omega
            refine ih (k + 1) (nI k) (by omega) (by omega) (Or.inr ⟨k, by omega, rfl, hn, fun q hq hq0 hqk => ?_⟩)
            by_cases eb : q = b
            · rw [eb]; exact hkb
            · exact z_l4_tr hkb (hbest q (by omega) hq0 eb)
          · rw [a1.2 c1, es_bd_s, if_pos rfl, es_ck_t (i8 b hbh), z_lt, z_rd _ _ _ (by omega), es_ck_t (i9 b hbh), z_lt, z_rd _ _ _ (by omega), es_ck_t (i8 k hkh), z_lt, z_rd _ _ _ (by omega), es_ck_t (i9 k hkh), z_lt, z_rd _ _ _ (by omega)]
            have a2 := zm_isAhead (N := es_NM) (fu := z_fu) (S := S) rfl (S.2 8 b) (S.2 9 b) (S.2 8 k) (S.2 9 k)
            by_cases c2 : z_ah (S.1 13) (S.2 8 b, S.2 9 b) (S.2 8 k, S.2 9 k)
            · rw [a2.1 c2, es_bd_s, if_pos (by decide), z_lt, nI_1]
              have hbk : z_l4 (z_mi S b) (z_mi S k) := by
                unfold z_ah at c2; unfold z_l4 z_mi; dsimp only at c2 ⊢; omega
              refine ih (k + 1) (nI b) (by omega) (by omega) (Or.inr ⟨b, by omega, rfl, hb0, fun q hq hq0 hqb => ?_⟩)
              by_cases ek : q = k
              · rw [ek]; exact hbk
              · exact hbest q (by omega) hq0 hqb
            · rw [a2.2 c2, es_bd_s, if_neg (by decide), es_ck_t (i10 k hkh), z_lt, z_rd _ _ _ (by omega), es_ck_t (i10 b hbh), z_lt, z_rd _ _ _ (by omega)]
              have heq : z_kk (S.1 13) (S.2 8 k) = z_kk (S.1 13) (S.2 8 b) ∧ z_tt (S.1 13) (S.2 9 k) = z_tt (S.1 13) (S.2 9 b) := by
                unfold z_ah at c1 c2; dsimp only at c1 c2; omega
              have hcd : (S.2 10 k).toInt ≠ (S.2 10 b).toInt := fun y => hd k b hkh hbh (by omega) (Int32.toInt_inj.mp y)
              by_cases c3 : S.2 10 b ≤ S.2 10 k
              · have := Int32.le_iff_toInt_le.mp c3
                rw [if_pos c3, z_lt, nI_1]
                have hbk : z_l4 (z_mi S b) (z_mi S k) := by unfold z_l4 z_mi; dsimp only; omega
                refine ih (k + 1) (nI b) (by omega) (by omega) (Or.inr ⟨b, by omega, rfl, hb0, fun q hq hq0 hqb => ?_⟩)
                by_cases ek : q = k
                · rw [ek]; exact hbk
                · exact hbest q (by omega) hq0 hqb
              · have : ¬ (S.2 10 b).toInt ≤ (S.2 10 k).toInt := fun y => c3 (Int32.le_iff_toInt_le.mpr y)
                rw [if_neg c3, z_lt, nI_1]
                have hkb : z_l4 (z_mi S k) (z_mi S b) := by unfold z_l4 z_mi; dsimp only; omega
                refine ih (k + 1) (nI k) (by omega) (by omega) (Or.inr ⟨k, by omega, rfl, hn, fun q hq hq0 hqk => ?_⟩)
                by_cases eb : q = b
                · rw [eb]; exact hkb
                · exact z_l4_tr hkb (hbest q (by omega) hq0 eb)
      · rw [if_neg hn, z_lt, nI_1]
        refine ih (k + 1) x (by omega) (by omega) ?_
        rcases hx with ⟨hx1, hall⟩ | ⟨b, hb, hx1, hb0, hbest⟩
        · refine Or.inl ⟨hx1, fun q hq => ?_⟩
          by_cases ek : q = k
          · rw [ek]; exact hn
          · exact hall q (by omega)
        · refine Or.inr ⟨b, by omega, hx1, hb0, fun q hq hq0 hqb => ?_⟩
          by_cases ek : q = k
          · rw [ek] at hq0; exact absurd hq0 hn
          · exact hbest q (by omega) hq0 hqb
theorem zm_first {h : Nat} {S : es_St} (hh : h ≤ 224) (h12 : S.1 12 = nI h) (hd : ∀ q q', q < h → q' < h → q ≠ q' → S.2 10 q ≠ S.2 10 q') : ∃ r, f_X8_first es_NM z_fu S = some (r, S) ∧ ((r = -1 ∧ ∀ q, q < h → S.2 11 q ≠ 0) ∨ ∃ b, b < h ∧ r = nI b ∧ S.2 11 b = 0 ∧ ∀ q, q < h → S.2 11 q = 0 → q ≠ b → z_l4 (z_mi S b) (z_mi S q)) :=
  zm_first_loop hh h12 hd z_fu 0 (-1) (by omega) (by have := z_fu_ge; omega) (Or.inl ⟨rfl, fun q hq => absurd hq (by omega)⟩)
/-- a page is written -/
def z_wr (P fc : Nat) (S : es_St) : es_St := es_F (es_F (es_F S 2 (nI (P - fc + 1))) 4 (S.1 4 + 1)) 7 (z_pk (P - fc + 1) (S.1 7))
theorem zm_writes0 {P : Nat} {S : es_St} (h0 : S.1 0 = nI P) (h2 : S.1 2 = nI (P - 0)) : f_X8_writes es_NM z_fu S = some (0, es_F S 8 1) := by
  unfold f_X8_writes
  rw [h0, h2, Nat.sub_zero, if_neg (by simp), z_lt]
theorem zm_writes {P fc : Nat} {S : es_St} (hP : P ≤ 512) (h0 : S.1 0 = nI P) (h2 : S.1 2 = nI (P - fc)) (hfc : 0 < fc) (hfP : fc ≤ P) : f_X8_writes es_NM z_fu S = some (0, z_wr P fc S) := by
  unfold f_X8_writes
  rw [h0, h2, if_pos (fun y => by have := (nI_eq (by omega) (by omega)).mp y; omega), z_lt, nI_1, z_lt, z_lt, z_lt]
  have e4 : (es_F S 2 (nI (P - fc + 1))).1 4 = S.1 4 := by rw [z_F1, if_neg (by decide)]
  have e2 : (es_F (es_F S 2 (nI (P - fc + 1))) 4 (S.1 4 + 1)).1 2 = nI (P - fc + 1) := by rw [z_F1, if_neg (by decide), z_F1, if_pos rfl]
  have e7 : (es_F (es_F S 2 (nI (P - fc + 1))) 4 (S.1 4 + 1)).1 7 = S.1 7 := by rw [z_F1, if_neg (by decide), z_F1, if_neg (by decide)]
  rw [e4, e2, e7]
  unfold z_wr z_pk
  by_cases c : nI (P - fc + 1) ≤ S.1 7
  · rw [if_pos c, if_pos c, z_lt]
  · rw [if_neg c, if_neg c, z_lt]
