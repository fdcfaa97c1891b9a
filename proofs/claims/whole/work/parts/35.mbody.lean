/-! ===== the reference's turn of the loop, when a record is chosen ===== -/
noncomputable def z_tailM (m : Nat) (x1 r48 : Int32) (S49 : es_St) : Option (Int32 × es_St) :=
  es_ck (vp_in x1 (es_NM 3)) <|
  es_lt (es_rd S49 3 x1) fun v52 =>
  if v52 ≤ (S49.1 16) then
    f_X8_makeRuns_59 es_NM z_fu m x1 r48 S49
  else
    es_ck (vp_in ((8192 * x1) + (S49.1 16)) (es_NM 1)) <|
    es_lt (es_rd S49 1 ((8192 * x1) + (S49.1 16))) fun v55 =>
    es_ck (vp_in ((8192 * x1) + (S49.1 16)) (es_NM 2)) <|
    es_lt (es_rd S49 2 ((8192 * x1) + (S49.1 16))) fun v57 =>
    es_ck (vp_in (r48 - 1) (es_NM 4)) <|
    es_lt (es_rd S49 4 (r48 - 1)) fun v59 =>
    es_ck (vp_in (r48 - 1) (es_NM 5)) <|
    es_lt (es_rd S49 5 (r48 - 1)) fun v61 =>
    es_bd (f_X8_isAhead es_NM z_fu S49 v55 v57 v59 v61) fun r62 S63 =>
    es_bd (f_X8_takes es_NM z_fu S63 x1 r62) fun r65 S66 =>
    f_X8_makeRuns_59 es_NM z_fu m x1 r48 S66
theorem zm_removed {h q ru fr nxl : Nat} {x1 x3 : Int32} {S : es_St} (hh : 0 < h) (hh2 : h ≤ 224) (hq : q < h) (hru : ru < 8200) (h12 : S.1 12 = nI h) (h8 : S.1 8 = 0) (h10 : S.1 10 = nI ru) (h6 : S.2 6 ru = nI fr) (hnx : nxl ≤ 1) (h11 : S.2 11 (h - 1) = nI nxl) (hf : f_X8_first es_NM z_fu S = some (nI q, S)) :
    ∃ Sa, (∀ m, f_X8_makeRuns_59 es_NM z_fu (m + 1) x1 x3 S = es_bd (f_X8_puts es_NM z_fu Sa x3 (nI fr) (S.2 8 q) (S.2 9 q)) (fun r48 S49 => z_tailM m x1 r48 S49)) ∧ z_keep [12] [8, 9, 10, 11] S Sa ∧ Sa.1 12 = nI (h - 1) ∧ (∀ i, Sa.2 8 i = if i = q then S.2 8 (h - 1) else S.2 8 i) ∧ (∀ i, Sa.2 9 i = if i = q then S.2 9 (h - 1) else S.2 9 i) ∧ (∀ i, Sa.2 10 i = if i = q then S.2 10 (h - 1) else S.2 10 i) ∧ (∀ i, Sa.2 11 i = if i = q then S.2 11 (h - 1) else S.2 11 i) := by
  have q31 : q < 2 ^ 31 := by omega
  have l31 : h - 1 < 2 ^ 31 := by omega
  have i8 : ∀ i, i < h → vp_in (nI i) (es_NM 8) := fun i hi => vp_in_nI (N := es_NM 8) (show i < 224 by omega) (by decide)
  have i9 : ∀ i, i < h → vp_in (nI i) (es_NM 9) := fun i hi => vp_in_nI (N := es_NM 9) (show i < 224 by omega) (by decide)
  have i10 : ∀ i, i < h → vp_in (nI i) (es_NM 10) := fun i hi => vp_in_nI (N := es_NM 10) (show i < 224 by omega) (by decide)
  have i11 : ∀ i, i < h → vp_in (nI i) (es_NM 11) := fun i hi => vp_in_nI (N := es_NM 11) (show i < 224 by omega) (by decide)
  obtain ⟨S1, hS1⟩ : ∃ S1, S1 = es_F S 12 (nI (h - 1)) := ⟨_, rfl⟩
  obtain ⟨S2, hS2⟩ : ∃ S2, S2 = es_wr S1 8 (nI q) (S.2 8 (h - 1)) := ⟨_, rfl⟩
  obtain ⟨S3, hS3⟩ : ∃ S3, S3 = es_wr S2 9 (nI q) (S.2 9 (h - 1)) := ⟨_, rfl⟩
  obtain ⟨S4, hS4⟩ : ∃ S4, S4 = es_wr S3 10 (nI q) (S.2 10 (h - 1)) := ⟨_, rfl⟩
  obtain ⟨S5, hS5⟩ : ∃ S5, S5 = es_wr S4 11 (nI q) (S.2 11 (h - 1)) := ⟨_, rfl⟩
  have a12 : S1.1 12 = nI (h - 1) := by rw [hS1, z_F1, if_pos rfl]
  have b12 : S2.1 12 = nI (h - 1) := by rw [hS2, z_w1]; exact a12
  have c12 : S3.1 12 = nI (h - 1) := by rw [hS3, z_w1]; exact b12
  have d12 : S4.1 12 = nI (h - 1) := by rw [hS4, z_w1]; exact c12
  have r8 : es_rd S1 8 (nI (h - 1)) = S.2 8 (h - 1) := by rw [z_rd _ _ _ l31, hS1, z_F2]
  have r9 : es_rd S2 9 (nI (h - 1)) = S.2 9 (h - 1) := by rw [z_rd _ _ _ l31, hS2, z_w2b _ _ _ (by decide), hS1, z_F2]
  have r10 : es_rd S3 10 (nI (h - 1)) = S.2 10 (h - 1) := by rw [z_rd _ _ _ l31, hS3, z_w2b _ _ _ (by decide), hS2, z_w2b _ _ _ (by decide), hS1, z_F2]
  have r11 : es_rd S4 11 (nI (h - 1)) = S.2 11 (h - 1) := by rw [z_rd _ _ _ l31, hS4, z_w2b _ _ _ (by decide), hS3, z_w2b _ _ _ (by decide), hS2, z_w2b _ _ _ (by decide), hS1, z_F2]
  have f5 : ∀ j, j ≠ 12 → S5.1 j = S.1 j := fun j hj => by rw [hS5, z_w1, hS4, z_w1, hS3, z_w1, hS2, z_w1, hS1, z_F1, if_neg hj]
  have k5 : ∀ k, k ≠ 8 → k ≠ 9 → k ≠ 10 → k ≠ 11 → S5.2 k = S.2 k := fun k x y z u => by rw [hS5, z_w2b _ _ _ u, hS4, z_w2b _ _ _ z, hS3, z_w2b _ _ _ y, hS2, z_w2b _ _ _ x, hS1, z_F2]
  refine ⟨S5, fun m => ?_, ⟨fun j hj => f5 j (by simp at hj; omega), fun k hk => k5 k (by simp at hk; omega) (by simp at hk; omega) (by simp at hk; omega) (by simp at hk; omega)⟩, by rw [hS5, z_w1]; exact d12, fun i => ?_, fun i => ?_, fun i => ?_, fun i => ?_⟩
  · rw [f_X8_makeRuns_59, h12, if_neg (show ¬ nI h ≤ 0 from nI_nle hh (by omega)), h8, if_neg (by simp), hf, es_bd_s, if_pos (nI_pos' q31), es_ck_t (i8 q hq), z_lt, z_rd _ _ _ q31, es_ck_t (i9 q hq), z_lt, z_rd _ _ _ q31, h12, show nI h - 1 = nI (h - 1) from pk_sub (b := 1) (by omega), z_lt, z_lt, ← hS1, a12, es_ck_t (i8 (h - 1) (by omega)), z_lt, r8, es_ck_t (i8 q hq), z_lt, ← hS2, b12, es_ck_t (i9 (h - 1) (by omega)), z_lt, r9, es_ck_t (i9 q hq), z_lt, ← hS3, c12, es_ck_t (i10 (h - 1) (by omega)), z_lt, r10, es_ck_t (i10 q hq), z_lt, ← hS4, d12, es_ck_t (i11 (h - 1) (by omega)), z_lt, r11, es_ck_t (i11 q hq), z_lt, show vp_nar .boolean (S.2 11 (h - 1)) = S.2 11 (h - 1) by rw [h11]; exact zm_nar nxl hnx, ← hS5, f5 10 (by decide), h10, es_ck_t (vp_in_nI (N := es_NM 6) (show ru < 8200 by omega) (by decide)), z_lt, z_rd _ _ _ (by omega), k5 6 (by decide) (by decide) (by decide) (by decide), h6]
    rfl
  · rw [hS5, z_w2b _ _ _ (by decide), hS4, z_w2b _ _ _ (by decide), hS3, z_w2b _ _ _ (by decide), hS2, z_w2a _ _ _ _ q31, hS1, z_F2]
  · rw [hS5, z_w2b _ _ _ (by decide), hS4, z_w2b _ _ _ (by decide), hS3, z_w2a _ _ _ _ q31, hS2, z_w2b _ _ _ (by decide), hS1, z_F2]
  · rw [hS5, z_w2b _ _ _ (by decide), hS4, z_w2a _ _ _ _ q31, hS3, z_w2b _ _ _ (by decide), hS2, z_w2b _ _ _ (by decide), hS1, z_F2]
  · rw [hS5, z_w2a _ _ _ _ q31, hS4, z_w2b _ _ _ (by decide), hS3, z_w2b _ _ _ (by decide), hS2, z_w2b _ _ _ (by decide), hS1, z_F2]
theorem zm_tail_end {m f n at' : Nat} {S : es_St} (hf : f < 6) (hn : n ≤ 8192) (h3 : S.2 3 f = nI n) (h16 : S.1 16 = nI n) : z_tailM m (nI f) (nI at') S = f_X8_makeRuns_59 es_NM z_fu m (nI f) (nI at') S := by
  unfold z_tailM
  rw [es_ck_t (vp_in_nI (N := es_NM 3) hf (by decide)), z_lt, z_rd _ _ _ (by omega), h3, h16, if_pos (nI_le (Nat.le_refl _) (by omega))]
theorem zm_tail_take {R f n at' tk h : Nat} {S : es_St} {md : Int32} {x last : z_Rec} (hR : 1 ≤ R ∧ R ≤ 16) (hf : f < 6) (hn : n ≤ 8192) (htk : tk < n) (hat : 0 < at') (hat2 : at' ≤ 16384) (hh : h < 224) (h1 : S.1 1 = nI R) (h3 : S.2 3 f = nI n) (h16 : S.1 16 = nI tk) (h12 : S.1 12 = nI h) (h13 : S.1 13 = md) (hx : (S.2 1 (8192 * f + tk), S.2 2 (8192 * f + tk)) = x) (hlast : (S.2 4 (at' - 1), S.2 5 (at' - 1)) = last) (v : Nat) (hv : (v = 1 ∧ z_ah md x last) ∨ (v = 0 ∧ ¬ z_ah md x last)) :
    ∃ S', (∀ m, z_tailM m (nI f) (nI at') S = f_X8_makeRuns_59 es_NM z_fu m (nI f) (nI at') S') ∧ z_keep [3, 12, 16] [8, 9, 10, 11] S S' ∧ S'.1 3 = (if tk % R = 0 then S.1 3 + 1 else S.1 3) ∧ S'.1 12 = nI (h + 1) ∧ S'.1 16 = nI (tk + 1) ∧ (∀ q, S'.2 8 q = if q = h then x.1 else S.2 8 q) ∧ (∀ q, S'.2 9 q = if q = h then x.2 else S.2 9 q) ∧ (∀ q, S'.2 10 q = if q = h then nI tk else S.2 10 q) ∧ (∀ q, S'.2 11 q = if q = h then nI v else S.2 11 q) := by
  subst hx
  subst hlast
  have hv1 : v ≤ 1 := by rcases hv with ⟨e, _⟩ | ⟨e, _⟩ <;> omega
  obtain ⟨S', g1, g2, g3, g4, g5, g6, g7, g8, g9⟩ := zm_takes hR hf (show tk < 8192 by omega) hh hv1 h1 h16 h12
  refine ⟨S', fun m => ?_, g2, g3, g4, g5, g6, g7, g8, g9⟩
  have ha := zm_isAhead (N := es_NM) (fu := z_fu) (S := S) h13 (S.2 1 (8192 * f + tk)) (S.2 2 (8192 * f + tk)) (S.2 4 (at' - 1)) (S.2 5 (at' - 1))
  have hav : f_X8_isAhead es_NM z_fu S (S.2 1 (8192 * f + tk)) (S.2 2 (8192 * f + tk)) (S.2 4 (at' - 1)) (S.2 5 (at' - 1)) = some (nI v, S) := by
    rcases hv with ⟨rfl, y⟩ | ⟨rfl, y⟩
    · exact ha.1 y
    · exact ha.2 y
  unfold z_tailM
  rw [es_ck_t (vp_in_nI (N := es_NM 3) hf (by decide)), z_lt, z_rd _ _ _ (by omega), h3, h16, if_neg (nI_ge htk (by omega)), zl8192, pk_mul, nI_add, es_ck_t (vp_in_nI (N := es_NM 1) (show 8192 * f + tk < 49152 by omega) (by decide)), z_lt, z_rd _ _ _ (by omega), es_ck_t (vp_in_nI (N := es_NM 2) (show 8192 * f + tk < 49152 by omega) (by decide)), z_lt, z_rd _ _ _ (by omega), show nI at' - 1 = nI (at' - 1) from pk_sub (b := 1) (by omega), es_ck_t (vp_in_nI (N := es_NM 4) (show at' - 1 < 16384 by omega) (by decide)), z_lt, z_rd _ _ _ (by omega), es_ck_t (vp_in_nI (N := es_NM 5) (show at' - 1 < 16384 by omega) (by decide)), z_lt, z_rd _ _ _ (by omega), hav, es_bd_s, g1, es_bd_s]
