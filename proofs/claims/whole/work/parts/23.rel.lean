/-! ===== what holds between two calls ===== -/
def z_pgs (R n : Nat) : Nat := (n + R - 1) / R
theorem z_pgs_lt {R n j : Nat} (hR : 0 < R) (h : j < n) : j / R < z_pgs R n := by
  unfold z_pgs
  rw [Nat.div_lt_iff_lt_mul hR]
  have h1 : (n + R - 1) / R * R + (n + R - 1) % R = n + R - 1 := by rw [Nat.mul_comm]; exact Nat.div_add_mod _ _
  have h2 := Nat.mod_lt (n + R - 1) hR
  omega
theorem z_pgs_le {R n P : Nat} (hR : 0 < R) (h : z_pgs R n ≤ P) : n ≤ P * R := by
  unfold z_pgs at h
  have h1 : (n + R - 1) / R * R + (n + R - 1) % R = n + R - 1 := by rw [Nat.mul_comm]; exact Nat.div_add_mod _ _
  have h2 := Nat.mod_lt (n + R - 1) hR
  have h3 : (n + R - 1) / R * R ≤ P * R := Nat.mul_le_mul_right R h
  omega
theorem z_dv {R q s : Nat} (h : s < R) : (R * q + s) / R = q := by
  rw [Nat.mul_add_div (by omega), Nat.div_eq_of_lt h, Nat.add_zero]
theorem z_md {R q s : Nat} (h : s < R) : (R * q + s) % R = s := by
  rw [Nat.mul_add_mod, Nat.mod_eq_of_lt h]
/-- n is q pages and s records -/
theorem z_pgs_qs {R q s : Nat} (h : s < R) : z_pgs R (R * q + s) = if s = 0 then q else q + 1 := by
  unfold z_pgs
  by_cases e : s = 0
  · subst e
    rw [if_pos rfl, show R * q + 0 + R - 1 = R * q + (R - 1) by omega, z_dv (by omega)]
  · rw [if_neg e, show R * q + s + R - 1 = R * (q + 1) + (s - 1) by rw [Nat.mul_add]; omega, z_dv (by omega)]
theorem z_split {R : Nat} (hR : 0 < R) (n : Nat) : ∃ q s, s < R ∧ n = R * q + s ∧ n / R = q ∧ n % R = s := ⟨n / R, n % R, Nat.mod_lt n hR, (Nat.div_add_mod n R).symm, rfl, rfl⟩
theorem z_pgs_succ0 {R n : Nat} (hR : 0 < R) (h : n % R = 0) : z_pgs R (n + 1) = z_pgs R n + 1 := by
  obtain ⟨q, s, h1, h2, h3, h4⟩ := z_split hR n
  have hs : s = 0 := by omega
  subst hs
  subst h2
  rw [z_pgs_qs h1, if_pos rfl]
  by_cases e : R = 1
  · subst e
    rw [show 1 * q + 0 + 1 = 1 * (q + 1) + 0 by omega, z_pgs_qs (by omega), if_pos rfl]
  · rw [show R * q + 0 + 1 = R * q + 1 by omega, z_pgs_qs (by omega), if_neg (by decide)]
theorem z_pgs_div0 {R n : Nat} (hR : 0 < R) (h : n % R = 0) : z_pgs R n = n / R := by
  obtain ⟨q, s, h1, h2, h3, h4⟩ := z_split hR n
  rw [h3, h2, z_pgs_qs h1, if_pos (by omega)]
theorem z_pgs_div1 {R n : Nat} (hR : 0 < R) (h : ¬ n % R = 0) : z_pgs R n = n / R + 1 := by
  obtain ⟨q, s, h1, h2, h3, h4⟩ := z_split hR n
  rw [h3, h2, z_pgs_qs h1, if_neg (by omega)]
theorem z_pgs_succ1 {R n : Nat} (hR : 0 < R) (h : ¬ n % R = 0) : z_pgs R (n + 1) = z_pgs R n := by
  obtain ⟨q, s, h1, h2, h3, h4⟩ := z_split hR n
  rw [z_pgs_div1 hR h, h3, h2]
  by_cases e : s + 1 = R
  · rw [show R * q + s + 1 = R * (q + 1) + 0 by rw [Nat.mul_add]; omega, z_pgs_qs hR, if_pos rfl]
  · rw [show R * q + s + 1 = R * q + (s + 1) by omega, z_pgs_qs (by omega), if_neg (by omega)]
theorem z_pgs_0 {R : Nat} (hR : 0 < R) : z_pgs R 0 = 0 := by
  unfold z_pgs
  exact Nat.div_eq_of_lt (by omega)
/-- the class's side: files f < 6 with n f records each, no other chain -/
def z_X (P R : Nat) (SX : es_St) (pg : Nat → Nat → Nat) (rc : Nat → Nat → z_Rec) (lo hi : Nat → Nat) (fc : Nat) (n : Nat → Nat) : Prop :=
  z_DI P R SX pg rc lo hi fc ∧ (∀ f, f < 6 → lo f = 0 ∧ hi f = z_pgs R (n f) ∧ SX.2 10 f = nI (n f) ∧ (0 < n f → SX.2 9 f = nI (pg f 0))) ∧ ∀ c, 6 ≤ c → hi c ≤ lo c
/-- the reference's side -/
def z_M (P R : Nat) (SM : es_St) (rc : Nat → Nat → z_Rec) (fc : Nat) (n : Nat → Nat) : Prop :=
  SM.1 0 = nI P ∧ SM.1 1 = nI R ∧ SM.1 2 = nI (P - fc) ∧ ∀ f, f < 6 → SM.2 3 f = nI (n f) ∧ ∀ j, j < n f → SM.2 1 (8192 * f + j) = (rc f j).1 ∧ SM.2 2 (8192 * f + j) = (rc f j).2
/-- what is told -/
def z_T (P : Nat) (SX SM : es_St) : Prop :=
  SM.2 12 0 = SX.1 27 + SX.1 28 ∧ SM.2 12 1 = SX.1 27 ∧ SM.2 12 2 = SX.1 28 ∧ SM.2 12 3 = SX.1 29 ∧ SM.2 12 4 = SX.1 30 ∧ SM.2 12 5 = SX.1 31 ∧ ∃ k : Nat, k ≤ 2 * P ∧ SX.1 29 = nI k ∧ SM.1 15 = nI k ∧ ∀ i, i < k → SX.2 23 i = SM.2 13 i
def z_Rel (P R : Nat) (SX SM : es_St) : Prop := ∃ (pg : Nat → Nat → Nat) (rc : Nat → Nat → z_Rec) (lo hi : Nat → Nat) (fc : Nat) (n : Nat → Nat), z_X P R SX pg rc lo hi fc n ∧ z_M P R SM rc fc n ∧ z_T P SX SM
theorem z_len {P R : Nat} {SX : es_St} {pg : Nat → Nat → Nat} {rc : Nat → Nat → z_Rec} {lo hi : Nat → Nat} {fc : Nat} {n : Nat → Nat} (hok : z_ok P R) (h : z_X P R SX pg rc lo hi fc n) {f : Nat} (hf : f < 6) : z_pgs R (n f) ≤ P ∧ n f ≤ P * R ∧ n f ≤ 8192 := by
  obtain ⟨⟨_, _, _, hc⟩, hF, _⟩ := h
  obtain ⟨a, b, _⟩ := hF f hf
  have h1 := z_CH_len hc f
  have h2 := z_cnt_le (fun q => SX.2 13 q = z_ow f) P
  have h3 : z_pgs R (n f) ≤ P := by omega
  have h4 := z_pgs_le hok.2.2.1 h3
  have h5 := z_PR hok
  exact ⟨h3, h4, by omega⟩
/-- a file's number, or none -/
theorem z_file (x : Int32) : x < 0 ∨ 6 ≤ x ∨ ∃ f : Nat, f < 6 ∧ x = nI f := pk_ix x (n := 6) (by decide)
theorem zx_isFile0 {N : Nat → Nat} {fu : Nat} {S : es_St} {x : Int32} (h : x < 0 ∨ 6 ≤ x) : f_X7_isFile N fu S x = some (0, S) := by
  unfold f_X7_isFile
  by_cases h1 : x < 0
  · rw [if_pos h1]
  · rw [if_neg h1, if_pos (h.resolve_left h1)]
theorem zx_isFile1 {N : Nat → Nat} {fu : Nat} {S : es_St} {f : Nat} (h : f < 6) : f_X7_isFile N fu S (nI f) = some (1, S) := by
  unfold f_X7_isFile
  rw [if_neg (nI_pos (by omega)), if_neg (show ¬ 6 ≤ nI f from nI_ge (b := 6) h (by decide))]
theorem zm_isFile0 {N : Nat → Nat} {fu : Nat} {S : es_St} {x : Int32} (h : x < 0 ∨ 6 ≤ x) : f_X8_isFile N fu S x = some (0, S) := by
  unfold f_X8_isFile f_X8_in
  by_cases h1 : x < 0
  · rw [if_pos h1]; simp only [es_bd]; exact z_B0
  · have h6 := h.resolve_left h1
    rw [if_neg h1, if_pos (Int32.lt_of_lt_of_le (by decide) h6)]; simp only [es_bd]; exact z_B0
theorem zm_isFile1 {N : Nat → Nat} {fu : Nat} {S : es_St} {f : Nat} (h : f < 6) : f_X8_isFile N fu S (nI f) = some (1, S) := by
  unfold f_X8_isFile f_X8_in
  rw [if_neg (nI_pos (by omega)), if_neg (show ¬ 5 < nI f from nI_nlt (a := 5) (by omega) (by decide))]
  simp only [es_bd]
  exact z_B1
theorem z_fu_ex : ∃ n : Nat, 100000 ≤ n := ⟨100000, Nat.le_refl _⟩
noncomputable def z_fu : Nat := Classical.choose z_fu_ex
theorem z_fu_ge : 100000 ≤ z_fu := Classical.choose_spec z_fu_ex
def z_Ans (P R : Nat) (x m : Option (Int32 × es_St)) : Prop := ∃ (r : Int32) (SX1 SM1 : es_St), x = some (r, SX1) ∧ m = some (r, SM1) ∧ z_Rel P R SX1 SM1
theorem z_sim_size {P R : Nat} {SX SM : es_St} (hok : z_ok P R) (h : z_Rel P R SX SM) (x : Int32) : z_Ans P R (f_X7_size (es_NX P R) z_fu SX x) (f_X8_size es_NM z_fu SM x) := by
  obtain ⟨pg, rc, lo, hi, fc, n, hX, hM, hT⟩ := id h
  have key : x < 0 ∨ 6 ≤ x → z_Ans P R (f_X7_size (es_NX P R) z_fu SX x) (f_X8_size es_NM z_fu SM x) := fun h1 => by
    unfold f_X7_size f_X8_size
    rw [zx_isFile0 h1, zm_isFile0 h1]
    exact ⟨-1, SX, SM, rfl, rfl, h⟩
  rcases z_file x with h1 | h1 | ⟨f, hf, rfl⟩
  · exact key (Or.inl h1)
  · exact key (Or.inr h1)
  · unfold f_X7_size f_X8_size
    rw [zx_isFile1 hf, zm_isFile1 hf]
    refine ⟨nI (n f), SX, SM, ?_, ?_, h⟩
    · simp only [es_bd, es_lt, zN10]
      rw [if_neg (by decide), z_ck hf (by decide), z_rd _ _ _ (by omega), (hX.2.1 f hf).2.2.1]
    · simp only [es_bd, es_lt]
      rw [if_neg (by decide), es_ck_t (vp_in_nI (N := es_NM 3) hf (by decide)), z_rd _ _ _ (by omega), (hM.2.2.2 f hf).1]
/-- a file's record: the page and the place in it -/
theorem zx_hasRecord0 {P R f : Nat} {S : es_St} {n : Nat} {x : Int32} (hf : f < 6) (hn : S.2 10 f = nI n) (h : x < 0 ∨ nI n ≤ x) : f_X7_hasRecord (es_NX P R) z_fu S (nI f) x = some (0, S) := by
  unfold f_X7_hasRecord
  rw [zx_isFile1 hf]
  simp only [es_bd, es_lt, zN10]
  rw [if_neg (by decide)]
  by_cases h1 : x < 0
  · rw [if_pos h1]
  · rw [if_neg h1, z_ck hf (by decide), z_rd _ _ _ (by omega), hn, if_pos (h.resolve_left h1)]
theorem zx_hasRecord1 {P R f : Nat} {S : es_St} {n j : Nat} (hf : f < 6) (hn : S.2 10 f = nI n) (hj : j < n) (hn2 : n < 2 ^ 31) : f_X7_hasRecord (es_NX P R) z_fu S (nI f) (nI j) = some (1, S) := by
  unfold f_X7_hasRecord
  rw [zx_isFile1 hf]
  simp only [es_bd, es_lt, zN10]
  rw [if_neg (by decide), if_neg (nI_pos (by omega)), z_ck hf (by decide), z_rd _ _ _ (by omega), hn, if_neg (nI_ge hj hn2)]
theorem z_sim_key {P R : Nat} {SX SM : es_St} (hok : z_ok P R) (h : z_Rel P R SX SM) (x y : Int32) : z_Ans P R (f_X7_key (es_NX P R) z_fu SX x y) (f_X8_key es_NM z_fu SM x y) := by
  obtain ⟨pg, rc, lo, hi, fc, n, hX, hM, hT⟩ := id h
  obtain ⟨⟨d0, d1, dF, dC⟩, hF, hW⟩ := id hX
  obtain ⟨m0, m1, m2, mF⟩ := id hM
  have key : x < 0 ∨ 6 ≤ x → z_Ans P R (f_X7_key (es_NX P R) z_fu SX x y) (f_X8_key es_NM z_fu SM x y) := fun h1 => by
    unfold f_X7_key f_X8_key f_X7_hasRecord
    rw [zx_isFile0 h1, zm_isFile0 h1]
    exact ⟨0, SX, SM, rfl, rfl, h⟩
  rcases z_file x with h1 | h1 | ⟨f, hf, rfl⟩
  · exact key (Or.inl h1)
  · exact key (Or.inr h1)
  · obtain ⟨l1, l2, l3⟩ := z_len hok hX hf
    obtain ⟨q1, q2, q3, q4⟩ := hF f hf
    have hR := hok.2.2.1
    have em : nI (n f) - 1 = if n f = 0 then -1 else nI (n f - 1) := by
      by_cases e : n f = 0
      · rw [e, if_pos rfl]; decide
      · rw [if_neg e]; exact pk_sub (b := 1) (by omega)
    unfold f_X7_key f_X8_key
    rw [zm_isFile1 hf]
    rcases pk_ix y (n := n f) (by omega) with h2 | h2 | ⟨j, hj, rfl⟩
    · rw [zx_hasRecord0 hf q3 (Or.inl h2)]
      refine ⟨0, SX, SM, rfl, ?_, h⟩
      simp only [es_bd, es_lt]
      rw [if_neg (by decide), es_ck_t (vp_in_nI (N := es_NM 3) hf (by decide))]
      unfold f_X8_in
      rw [if_pos h2]
      rfl
    · rw [zx_hasRecord0 hf q3 (Or.inr h2)]
      refine ⟨0, SX, SM, rfl, ?_, h⟩
      simp only [es_bd, es_lt]
      rw [if_neg (by decide), es_ck_t (vp_in_nI (N := es_NM 3) hf (by decide)), z_rd _ _ _ (by omega), (mF f hf).1]
      unfold f_X8_in
      have hy : ¬ y < 0 := Int32.not_lt.mpr (Int32.le_trans (nI_pos' (by omega)) h2)
      rw [if_neg hy, if_pos]
      · rfl
      · rw [em]
        by_cases e : n f = 0
        · rw [if_pos e]; exact Int32.lt_of_lt_of_le (by decide) (Int32.not_lt.mp hy)
        · rw [if_neg e]; exact Int32.lt_of_lt_of_le (nI_lt (by omega) (by omega)) h2
    · have hjR := z_pgs_lt hR hj
      have hh : j / R < hi f := by rw [q2]; exact hjR
      rw [zx_hasRecord1 hf q3 hj (by omega)]
      have hc := dC.2.2.2.1 f (j / R) (j % R) (by rw [q1]; exact Nat.zero_le _) hh (Nat.mod_lt _ hR)
      have hjj : j / R * R + j % R = j := by rw [Nat.mul_comm]; exact Nat.div_add_mod _ _
      rw [hjj] at hc
      refine ⟨(rc f j).1, SX, SM, ?_, ?_, h⟩
      · simp only [es_bd, es_lt, zN9]
        rw [if_neg (by decide), z_ck hf (by decide), z_rd _ _ _ (by omega), q4 (by omega), zx_pageOf f hok z_fu_ge d0 d1 dC q1 hh (by omega)]
        simp only [es_bd]
        rw [zx_slotOf hok d1 (by omega)]
        simp only [es_bd]
        rw [zx_keyAt hok d0 d1 (dC.1 f (j / R) (by rw [q1]; exact Nat.zero_le _) hh).1 (Nat.mod_lt _ hR)]
        simp only [es_bd]
        rw [hc.1]
      · simp only [es_bd, es_lt]
        rw [if_neg (by decide), es_ck_t (vp_in_nI (N := es_NM 3) hf (by decide)), z_rd _ _ _ (by omega), (mF f hf).1]
        unfold f_X8_in
        rw [if_neg (nI_pos (by omega)), if_neg (by rw [em, if_neg (by omega)]; exact nI_nlt (by omega) (by omega))]
        simp only [es_bd]
        rw [if_neg (by decide), zl8192, pk_mul, nI_add, es_ck_t (vp_in_nI (N := es_NM 1) (show 8192 * f + j < 49152 by omega) (by decide)), z_rd _ _ _ (by omega), ((mF f hf).2 j hj).1]
theorem z_sim_tag {P R : Nat} {SX SM : es_St} (hok : z_ok P R) (h : z_Rel P R SX SM) (x y : Int32) : z_Ans P R (f_X7_tag (es_NX P R) z_fu SX x y) (f_X8_tag es_NM z_fu SM x y) := by
  obtain ⟨pg, rc, lo, hi, fc, n, hX, hM, hT⟩ := id h
  obtain ⟨⟨d0, d1, dF, dC⟩, hF, hW⟩ := id hX
  obtain ⟨m0, m1, m2, mF⟩ := id hM
  have key : x < 0 ∨ 6 ≤ x → z_Ans P R (f_X7_tag (es_NX P R) z_fu SX x y) (f_X8_tag es_NM z_fu SM x y) := fun h1 => by
    unfold f_X7_tag f_X8_tag f_X7_hasRecord
    rw [zx_isFile0 h1, zm_isFile0 h1]
    exact ⟨0, SX, SM, rfl, rfl, h⟩
  rcases z_file x with h1 | h1 | ⟨f, hf, rfl⟩
  · exact key (Or.inl h1)
  · exact key (Or.inr h1)
  · obtain ⟨l1, l2, l3⟩ := z_len hok hX hf
    obtain ⟨q1, q2, q3, q4⟩ := hF f hf
    have hR := hok.2.2.1
    have em : nI (n f) - 1 = if n f = 0 then -1 else nI (n f - 1) := by
      by_cases e : n f = 0
      · rw [e, if_pos rfl]; decide
      · rw [if_neg e]; exact pk_sub (b := 1) (by omega)
    unfold f_X7_tag f_X8_tag
    rw [zm_isFile1 hf]
    rcases pk_ix y (n := n f) (by omega) with h2 | h2 | ⟨j, hj, rfl⟩
    · rw [zx_hasRecord0 hf q3 (Or.inl h2)]
      refine ⟨0, SX, SM, rfl, ?_, h⟩
      simp only [es_bd, es_lt]
      rw [if_neg (by decide), es_ck_t (vp_in_nI (N := es_NM 3) hf (by decide))]
      unfold f_X8_in
      rw [if_pos h2]
      rfl
    · rw [zx_hasRecord0 hf q3 (Or.inr h2)]
      refine ⟨0, SX, SM, rfl, ?_, h⟩
      simp only [es_bd, es_lt]
      rw [if_neg (by decide), es_ck_t (vp_in_nI (N := es_NM 3) hf (by decide)), z_rd _ _ _ (by omega), (mF f hf).1]
      unfold f_X8_in
      have hy : ¬ y < 0 := Int32.not_lt.mpr (Int32.le_trans (nI_pos' (by omega)) h2)
      rw [if_neg hy, if_pos]
      · rfl
      · rw [em]
        by_cases e : n f = 0
        · rw [if_pos e]; exact Int32.lt_of_lt_of_le (by decide) (Int32.not_lt.mp hy)
        · rw [if_neg e]; exact Int32.lt_of_lt_of_le (nI_lt (by omega) (by omega)) h2
    · have hjR := z_pgs_lt hR hj
      have hh : j / R < hi f := by rw [q2]; exact hjR
      rw [zx_hasRecord1 hf q3 hj (by omega)]
      have hc := dC.2.2.2.1 f (j / R) (j % R) (by rw [q1]; exact Nat.zero_le _) hh (Nat.mod_lt _ hR)
      have hjj : j / R * R + j % R = j := by rw [Nat.mul_comm]; exact Nat.div_add_mod _ _
      rw [hjj] at hc
      refine ⟨(rc f j).2, SX, SM, ?_, ?_, h⟩
      · simp only [es_bd, es_lt, zN9]
        rw [if_neg (by decide), z_ck hf (by decide), z_rd _ _ _ (by omega), q4 (by omega), zx_pageOf f hok z_fu_ge d0 d1 dC q1 hh (by omega)]
        simp only [es_bd]
        rw [zx_slotOf hok d1 (by omega)]
        simp only [es_bd]
        rw [zx_tagAt hok d0 d1 (dC.1 f (j / R) (by rw [q1]; exact Nat.zero_le _) hh).1 (Nat.mod_lt _ hR)]
        simp only [es_bd]
        rw [hc.2]
      · simp only [es_bd, es_lt]
        rw [if_neg (by decide), es_ck_t (vp_in_nI (N := es_NM 3) hf (by decide)), z_rd _ _ _ (by omega), (mF f hf).1]
        unfold f_X8_in
        rw [if_neg (nI_pos (by omega)), if_neg (by rw [em, if_neg (by omega)]; exact nI_nlt (by omega) (by omega))]
        simp only [es_bd]
        rw [if_neg (by decide), zl8192, pk_mul, nI_add, es_ck_t (vp_in_nI (N := es_NM 2) (show 8192 * f + j < 49152 by omega) (by decide)), z_rd _ _ _ (by omega), ((mF f hf).2 j hj).2]
theorem z_sim_run {P R : Nat} {SX SM : es_St} (hok : z_ok P R) (h : z_Rel P R SX SM) (x : Int32) : z_Ans P R (f_X7_run (es_NX P R) z_fu SX x) (f_X8_run es_NM z_fu SM x) := by
  obtain ⟨pg, rc, lo, hi, fc, n, hX, hM, hT⟩ := id h
  obtain ⟨-, -, -, -, -, -, k, hk, e1, e2, e3⟩ := hT
  have hPb := hok.2.1
  have em : nI k - 1 = if k = 0 then -1 else nI (k - 1) := by
    by_cases e : k = 0
    · rw [e, if_pos rfl]; decide
    · rw [if_neg e]; exact pk_sub (b := 1) (by omega)
  unfold f_X7_run f_X8_run f_X6_lengthOf f_X8_in
  rw [e1, e2]
  rcases pk_ix x (n := k) (by omega) with h2 | h2 | ⟨j, hj, rfl⟩
  · rw [if_pos h2, if_pos h2]
    exact ⟨-1, SX, SM, rfl, rfl, h⟩
  · have hy : ¬ x < 0 := Int32.not_lt.mpr (Int32.le_trans (nI_pos' (by omega)) h2)
    rw [if_neg hy, if_neg hy, if_pos h2, if_pos]
    · exact ⟨-1, SX, SM, rfl, rfl, h⟩
    · rw [em]
      by_cases e : k = 0
      · rw [if_pos e]; exact Int32.lt_of_lt_of_le (by decide) (Int32.not_lt.mp hy)
      · rw [if_neg e]; exact Int32.lt_of_lt_of_le (nI_lt (by omega) (by omega)) h2
  · rw [if_neg (nI_pos (by omega)), if_neg (nI_pos (by omega)), if_neg (nI_ge hj (by omega)), if_neg (show ¬ nI k - 1 < nI j by rw [em, if_neg (by omega)]; exact nI_nlt (by omega) (by omega))]
    simp only [es_bd, es_lt, zN23]
    rw [if_neg (nI_ge (show j < 2 * P by omega) (by omega)), if_neg (by decide), z_ck (show j < 2 * P by omega) (by omega), z_rd _ _ _ (by omega), es_ck_t (vp_in_nI (N := es_NM 13) (show j < 16400 by omega) (by decide)), z_rd _ _ _ (by omega), e3 j hj]
    exact ⟨_, SX, SM, rfl, rfl, h⟩
theorem z_sim_told {P R : Nat} {SX SM : es_St} (hok : z_ok P R) (h : z_Rel P R SX SM) (x : Int32) : z_Ans P R (f_X7_told (es_NX P R) z_fu SX x) (f_X8_told es_NM z_fu SM x) := by
  obtain ⟨pg, rc, lo, hi, fc, n, hX, hM, hT⟩ := id h
  obtain ⟨⟨d0, d1, dF, dC⟩, hF, hW⟩ := id hX
  obtain ⟨m0, m1, m2, mF⟩ := id hM
  obtain ⟨t0, t1, t2, t3, t4, t5, -⟩ := hT
  have hPb := hok.2.1
  have rdM : ∀ j : Nat, j < 6 → (es_bd (f_X8_in es_NM z_fu SM (nI j) 0 5) fun r S => if r = 0 then some (-1, S) else es_ck (vp_in (nI j) (es_NM 12)) (es_lt (es_rd S 12 (nI j)) fun v => some (v, S))) = some (SM.2 12 j, SM) := fun j hj => by
    unfold f_X8_in
    rw [if_neg (nI_pos (by omega)), if_neg (show ¬ 5 < nI j from nI_nlt (a := 5) (by omega) (by decide))]
    simp only [es_bd, es_lt]
    rw [if_neg (by decide), es_ck_t (vp_in_nI (N := es_NM 12) hj (by decide)), z_rd _ _ _ (by omega)]
  unfold f_X7_told f_X8_told
  by_cases c0 : x = 0
  · subst c0; refine ⟨SM.2 12 0, SX, SM, ?_, rdM 0 (by decide), h⟩; rw [if_pos rfl, t0]
  · rw [if_neg c0]
    by_cases c1 : x = 1
    · subst c1; refine ⟨SM.2 12 1, SX, SM, ?_, rdM 1 (by decide), h⟩; rw [if_pos rfl, t1]
    · rw [if_neg c1]
      by_cases c2 : x = 2
      · subst c2; refine ⟨SM.2 12 2, SX, SM, ?_, rdM 2 (by decide), h⟩; rw [if_pos rfl, t2]
      · rw [if_neg c2]
        by_cases c3 : x = 3
        · subst c3; refine ⟨SM.2 12 3, SX, SM, ?_, rdM 3 (by decide), h⟩; rw [if_pos rfl, t3]
        · rw [if_neg c3]
          by_cases c4 : x = 4
          · subst c4; refine ⟨SM.2 12 4, SX, SM, ?_, rdM 4 (by decide), h⟩; rw [if_pos rfl, t4]
          · rw [if_neg c4]
            by_cases c5 : x = 5
            · subst c5; refine ⟨SM.2 12 5, SX, SM, ?_, rdM 5 (by decide), h⟩; rw [if_pos rfl, t5]
            · rw [if_neg c5]
              by_cases c6 : x = 6
              · subst c6
                refine ⟨nI fc, SX, SM, ?_, ?_, h⟩
                · rw [if_pos rfl]; unfold f_X0_freePages; simp only [es_bd]; rw [dF.1]
                · rw [if_pos rfl, m0, m2, pk_sub (by omega)]
                  have := dF.2.1
                  congr 3; omega
              · rw [if_neg c6, if_neg c6]
                by_cases c7 : x = 7
                · subst c7; exact ⟨nI P, SX, SM, by rw [if_pos rfl, d0], by rw [if_pos rfl, m0], h⟩
                · rw [if_neg c7, if_neg c7]
                  by_cases c8 : x = 8
                  · subst c8; exact ⟨nI R, SX, SM, by rw [if_pos rfl, d1], by rw [if_pos rfl, m1], h⟩
                  · rw [if_neg c8, if_neg c8]
                    refine ⟨-1, SX, SM, rfl, ?_, h⟩
                    have hx : x < 0 ∨ 6 ≤ x := by
                      rcases z_file x with h1 | h1 | ⟨f, hf, rfl⟩
                      · exact Or.inl h1
                      · exact Or.inr h1
                      · exfalso
                        rcases (show f = 0 ∨ f = 1 ∨ f = 2 ∨ f = 3 ∨ f = 4 ∨ f = 5 by omega) with rfl | rfl | rfl | rfl | rfl | rfl
                        · exact c0 rfl
                        · exact c1 rfl
                        · exact c2 rfl
                        · exact c3 rfl
                        · exact c4 rfl
                        · exact c5 rfl
                    unfold f_X8_in
                    by_cases h1 : x < 0
                    · rw [if_pos h1]; rfl
                    · rw [if_neg h1, if_pos (Int32.lt_of_lt_of_le (by decide) (hx.resolve_left h1))]; rfl
