/-! ===== the reference takes a record ===== -/
theorem zm_nar (nx : Nat) (h : nx ≤ 1) : vp_nar .boolean (nI nx) = nI nx := by
  rcases (show nx = 0 ∨ nx = 1 by omega) with rfl | rfl <;> rfl
theorem zm_takes {R f tk h nx : Nat} {S : es_St} (hR : 1 ≤ R ∧ R ≤ 16) (hf : f < 6) (htk : tk < 8192) (hh : h < 224) (hnx : nx ≤ 1) (h1 : S.1 1 = nI R) (h16 : S.1 16 = nI tk) (h12 : S.1 12 = nI h) :
    ∃ S', f_X8_takes es_NM z_fu S (nI f) (nI nx) = some (0, S') ∧ z_keep [3, 12, 16] [8, 9, 10, 11] S S' ∧ S'.1 3 = (if tk % R = 0 then S.1 3 + 1 else S.1 3) ∧ S'.1 12 = nI (h + 1) ∧ S'.1 16 = nI (tk + 1) ∧ (∀ q, S'.2 8 q = if q = h then S.2 1 (8192 * f + tk) else S.2 8 q) ∧ (∀ q, S'.2 9 q = if q = h then S.2 2 (8192 * f + tk) else S.2 9 q) ∧ (∀ q, S'.2 10 q = if q = h then nI tk else S.2 10 q) ∧ (∀ q, S'.2 11 q = if q = h then nI nx else S.2 11 q) := by
  have h31 : h < 2 ^ 31 := by omega
  have hmod := Nat.mod_lt tk (show R > 0 by omega)
  have core : ∀ d : Int32, f_X8_takes_22 es_NM z_fu (nI f) (nI nx) d (S.1 3) S = some (0, es_F (es_F (es_wr (es_wr (es_wr (es_wr (es_F S 3 (S.1 3 + d)) 8 (nI h) (S.2 1 (8192 * f + tk))) 9 (nI h) (S.2 2 (8192 * f + tk))) 10 (nI h) (nI tk)) 11 (nI h) (nI nx)) 12 (nI (h + 1))) 16 (nI (tk + 1))) := fun d => by
    unfold f_X8_takes_22
    have e16 : (es_F S 3 (S.1 3 + d)).1 16 = nI tk := by rw [z_F1, if_neg (by decide), h16]
    have e12 : (es_F S 3 (S.1 3 + d)).1 12 = nI h := by rw [z_F1, if_neg (by decide), h12]
    rw [z_lt, z_lt, e16, zl8192, pk_mul, nI_add, es_ck_t (vp_in_nI (N := es_NM 1) (show 8192 * f + tk < 49152 by omega) (by decide)), z_lt, z_rd _ _ _ (by omega), z_F2, e12, es_ck_t (vp_in_nI (N := es_NM 8) (show h < 224 by omega) (by decide)), z_lt, z_w1, e16, nI_add, es_ck_t (vp_in_nI (N := es_NM 2) (show 8192 * f + tk < 49152 by omega) (by decide)), z_lt, z_rd _ _ _ (by omega), z_w2b _ _ _ (by decide), z_F2, e12, es_ck_t (vp_in_nI (N := es_NM 9) (show h < 224 by omega) (by decide)), z_lt, z_w1, z_w1, e12, e16, es_ck_t (vp_in_nI (N := es_NM 10) (show h < 224 by omega) (by decide)), z_lt, z_w1, z_w1, z_w1, e12, es_ck_t (vp_in_nI (N := es_NM 11) (show h < 224 by omega) (by decide)), z_lt, z_w1, z_w1, z_w1, z_w1, e12, nI_1, z_lt, z_lt, z_F1, if_neg (by decide), z_w1, z_w1, z_w1, z_w1, e16, nI_1, z_lt, z_lt, zm_nar nx hnx]
  have props : ∀ d : Int32, ∀ S' : es_St, S' = es_F (es_F (es_wr (es_wr (es_wr (es_wr (es_F S 3 (S.1 3 + d)) 8 (nI h) (S.2 1 (8192 * f + tk))) 9 (nI h) (S.2 2 (8192 * f + tk))) 10 (nI h) (nI tk)) 11 (nI h) (nI nx)) 12 (nI (h + 1))) 16 (nI (tk + 1)) → z_keep [3, 12, 16] [8, 9, 10, 11] S S' ∧ S'.1 3 = S.1 3 + d ∧ S'.1 12 = nI (h + 1) ∧ S'.1 16 = nI (tk + 1) ∧ (∀ q, S'.2 8 q = if q = h then S.2 1 (8192 * f + tk) else S.2 8 q) ∧ (∀ q, S'.2 9 q = if q = h then S.2 2 (8192 * f + tk) else S.2 9 q) ∧ (∀ q, S'.2 10 q = if q = h then nI tk else S.2 10 q) ∧ (∀ q, S'.2 11 q = if q = h then nI nx else S.2 11 q) := fun d S' hS' => by
    subst hS'
    refine ⟨z_keep_trans (z_keep_trans (z_keep_trans (z_keep_trans (z_keep_trans (z_keep_trans (z_keep_F _ 3 _ (by simp)) (z_keep_w _ 8 _ _ (by simp))) (z_keep_w _ 9 _ _ (by simp))) (z_keep_w _ 10 _ _ (by simp))) (z_keep_w _ 11 _ _ (by simp))) (z_keep_F _ 12 _ (by simp))) (z_keep_F _ 16 _ (by simp)), ?_, ?_, ?_, fun q => ?_, fun q => ?_, fun q => ?_, fun q => ?_⟩
    · rw [z_F1, if_neg (by decide), z_F1, if_neg (by decide), z_w1, z_w1, z_w1, z_w1, z_F1, if_pos rfl]
    · rw [z_F1, if_neg (by decide), z_F1, if_pos rfl]
    · rw [z_F1, if_pos rfl]
    · rw [z_F2, z_F2, z_w2b _ _ _ (by decide), z_w2b _ _ _ (by decide), z_w2b _ _ _ (by decide), z_w2a _ _ _ _ h31, z_F2]
    · rw [z_F2, z_F2, z_w2b _ _ _ (by decide), z_w2b _ _ _ (by decide), z_w2a _ _ _ _ h31, z_w2b _ _ _ (by decide), z_F2]
    · rw [z_F2, z_F2, z_w2b _ _ _ (by decide), z_w2a _ _ _ _ h31, z_w2b _ _ _ (by decide), z_w2b _ _ _ (by decide), z_F2]
    · rw [z_F2, z_F2, z_w2a _ _ _ _ h31, z_w2b _ _ _ (by decide), z_w2b _ _ _ (by decide), z_w2b _ _ _ (by decide), z_F2]
  unfold f_X8_takes
  rw [h1, h16, es_ck_t (nI_ne0 (by omega) (by omega)), pk_rem (by omega) (by omega) (by omega)]
  by_cases e : tk % R = 0
  · rw [if_neg (show ¬ ¬ nI (tk % R) = 0 by rw [e]; decide), core, if_pos e]
    exact ⟨_, rfl, props 1 _ rfl⟩
  · rw [if_pos (nI_ne0 (by omega) (by omega)), core, if_neg e]
    obtain ⟨p1, p2, p3⟩ := props 0 _ rfl
    exact ⟨_, rfl, p1, by rw [p2]; exact Int32.add_zero _, p3⟩
/-- none is for the next run any more -/
theorem zm_reset {h : Nat} {k59 : Int32 → Int32 → es_St → Option (Int32 × es_St)} {x1 x3 : Int32} (hh : h ≤ 224) : ∀ (fu i : Nat) (S : es_St), i ≤ h → h - i < fu → S.1 12 = nI h → (∀ q, q < i → S.2 11 q = nI 0) →
    ∃ S', f_X8_makeRuns_93 es_NM z_fu k59 fu x1 x3 (nI i) S = k59 x1 x3 S' ∧ z_keep [] [11] S S' ∧ ∀ q, q < h → S'.2 11 q = nI 0 := by
  intro fu
  induction fu with
  | zero => intro i S _ hf; exact absurd hf (by omega)
  | succ fu ih =>
    intro i S hi hf h12 hL
    rw [f_X8_makeRuns_93, h12]
    by_cases e : i = h
    · subst e
      rw [if_pos (nI_le (Nat.le_refl _) (by omega))]
      exact ⟨S, rfl, z_keep_rfl, hL⟩
    · rw [if_neg (nI_ge (show i < h by omega) (by omega)), es_ck_t (vp_in_nI (N := es_NM 11) (show i < 224 by omega) (by decide)), z_lt, z_lt, nI_1]
      obtain ⟨S', g1, g2, g3⟩ := ih (i + 1) (es_wr S 11 (nI i) (vp_nar .boolean 0)) (by omega) (by omega) (by rw [z_w1]; exact h12) (fun q hq => by
        rw [z_w2a _ _ _ _ (by omega)]
        by_cases eq : q = i
        · rw [if_pos eq]; rfl
        · rw [if_neg eq]; exact hL q (by omega))
      exact ⟨S', g1, z_keep_trans (z_keep_w _ 11 _ _ (by simp)) g2, g3⟩
