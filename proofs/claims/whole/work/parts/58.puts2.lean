/-! ===== join: the reference writes its pairs ===== -/
/-- what the reference holds -/
def z_JM (na nb : Nat) (ra rb : Nat → z_Rec) (S : es_St) : Prop := (∀ i, i < na → S.2 17 i = (ra i).1 ∧ S.2 18 i = (ra i).2) ∧ ∀ j, j < nb → S.2 19 j = (rb j).1 ∧ S.2 20 j = (rb j).2
/-- cn pairs are in file to -/
def z_WM (to na nb : Nat) (ra rb : Nat → z_Rec) (S0 S : es_St) (cn : Nat) : Prop :=
  z_keep [] [1, 2] S0 S ∧ (∀ p, p < cn → (S.2 1 (8192 * to + p), S.2 2 (8192 * to + p)) = z_pr ra rb na nb p) ∧ ∀ i, (i < 8192 * to ∨ 8192 * (to + 1) ≤ i) → S.2 1 i = S0.2 1 i ∧ S.2 2 i = S0.2 2 i
theorem z_JM_keep {na nb to cn : Nat} {ra rb : Nat → z_Rec} {S0 S : es_St} (h : z_JM na nb ra rb S0) (hw : z_WM to na nb ra rb S0 S cn) : z_JM na nb ra rb S := by
  unfold z_JM
  rw [hw.1.2 17 (by decide), hw.1.2 18 (by decide), hw.1.2 19 (by decide), hw.1.2 20 (by decide)]
  exact h
theorem zm_52 {to na nb i l u : Nat} {ra rb : Nat → z_Rec} {S0 : es_St} {k13 : Int32 → Int32 → Int32 → Int32 → Int32 → es_St → Option (Int32 × es_St)} {x1 : Int32} (hto : to < 6) (hna : na ≤ 8192) (hnb : nb ≤ 8192) (hb : z_mon (z_ki rb) nb) (hJ : z_JM na nb ra rb S0) (hi : i < na) (hl : z_low (z_ki rb) nb (z_ki ra i) = l) (hu : z_upp (z_ki rb) nb (z_ki ra i) = u) (hT : z_B (z_ki ra) (z_ki rb) nb i + (u - l) ≤ 8192) :
    ∀ (fu j : Nat) (S : es_St), l ≤ j → j ≤ u → nb - j < fu → z_WM to na nb ra rb S0 S (z_B (z_ki ra) (z_ki rb) nb i + (j - l)) →
    ∃ S', f_X8_puts2_52 es_NM z_fu k13 fu x1 (nI nb) (nI (8192 * to + (z_B (z_ki ra) (z_ki rb) nb i + (j - l)))) (nI l) (nI i) (nI j) S = k13 x1 (nI nb) (nI (8192 * to + (z_B (z_ki ra) (z_ki rb) nb i + (u - l)))) (nI l) (nI (i + 1)) S' ∧ z_WM to na nb ra rb S0 S' (z_B (z_ki ra) (z_ki rb) nb i + (u - l)) := by
  have hle := z_low_upp (kb := z_ki rb) (nb := nb) (x := z_ki ra i) hb
  have hun := z_upp_le (z_ki rb) nb (z_ki ra i)
  rw [hl, hu] at hle
  rw [hu] at hun
  intro fu
  induction fu with
  | zero => intro j S _ _ h; exact absurd h (by omega)
  | succ fu ih =>
    intro j S h1 h2 hf H
    obtain ⟨jA, jB⟩ := z_JM_keep hJ H
    have fin : j = u → k13 x1 (nI nb) (nI (8192 * to + (z_B (z_ki ra) (z_ki rb) nb i + (j - l)))) (nI l) (nI (i + 1)) S = k13 x1 (nI nb) (nI (8192 * to + (z_B (z_ki ra) (z_ki rb) nb i + (u - l)))) (nI l) (nI (i + 1)) S := fun e => by rw [e]
    rw [f_X8_puts2_52]
    by_cases c : nb ≤ j
    · have e : j = u := by omega
      rw [if_pos (nI_le c (by omega)), nI_1, z_lt, e]
      exact ⟨S, rfl, by rw [e] at H; exact H⟩
    · rw [if_neg (nI_ge (by omega) (by omega)), es_ck_t (vp_in_nI (N := es_NM 19) (show j < 8192 by omega) (by decide)), z_rd S 19 j (by omega), (jB j (by omega)).1, z_lt, es_ck_t (vp_in_nI (N := es_NM 17) (show i < 8192 by omega) (by decide)), z_rd S 17 i (by omega), (jA i hi).1, z_lt]
      have hup := z_upp_iff (kb := z_ki rb) (x := z_ki ra i) hb (show j < nb by omega)
      have hlo := z_low_iff (kb := z_ki rb) (x := z_ki ra i) hb (show j < nb by omega)
      rw [hu] at hup
      rw [hl] at hlo
      by_cases c2 : (rb j).1 = (ra i).1
      · have hju : j < u := hup.mp (by unfold z_ki; rw [c2]; exact Int.le_refl _)
        rw [if_neg (by simpa using c2)]
        obtain ⟨S1, hS1⟩ : ∃ S1 : es_St, S1 = es_wr (es_wr S 1 (nI (8192 * to + (z_B (z_ki ra) (z_ki rb) nb i + (j - l)))) (ra i).2) 2 (nI (8192 * to + (z_B (z_ki ra) (z_ki rb) nb i + (j - l)))) (rb j).2 := ⟨_, rfl⟩
        have e1 : ∀ q, S1.2 1 q = if q = 8192 * to + (z_B (z_ki ra) (z_ki rb) nb i + (j - l)) then (ra i).2 else S.2 1 q := fun q => by rw [hS1, z_w2b _ _ _ (by decide), z_w2a _ _ _ _ (by omega)]
        have e2 : ∀ q, S1.2 2 q = if q = 8192 * to + (z_B (z_ki ra) (z_ki rb) nb i + (j - l)) then (rb j).2 else S.2 2 q := fun q => by rw [hS1, z_w2a _ _ _ _ (by omega), z_w2b _ _ _ (by decide)]
        have k1 : z_keep [] [1, 2] S S1 := by rw [hS1]; exact z_keep_trans (z_keep_w _ 1 _ _ (by simp)) (z_keep_w _ 2 _ _ (by simp))
        rw [es_ck_t (vp_in_nI (N := es_NM 18) (show i < 8192 by omega) (by decide)), z_rd S 18 i (by omega), (jA i hi).2, z_lt, es_ck_t (vp_in_nI (N := es_NM 1) (show 8192 * to + (z_B (z_ki ra) (z_ki rb) nb i + (j - l)) < 49152 by omega) (by decide)), z_lt, es_ck_t (vp_in_nI (N := es_NM 20) (show j < 8192 by omega) (by decide)), z_rd _ 20 j (by omega), z_w2b _ _ _ (by decide), (jB j (by omega)).2, z_lt, es_ck_t (vp_in_nI (N := es_NM 2) (show 8192 * to + (z_B (z_ki ra) (z_ki rb) nb i + (j - l)) < 49152 by omega) (by decide)), z_lt, ← hS1, nI_1, z_lt, nI_1, z_lt, show 8192 * to + (z_B (z_ki ra) (z_ki rb) nb i + (j - l)) + 1 = 8192 * to + (z_B (z_ki ra) (z_ki rb) nb i + (j + 1 - l)) by omega]
        obtain ⟨q1, q2, q3⟩ := H
        refine ih (j + 1) S1 (by omega) (by omega) (by omega) ⟨z_keep_trans q1 k1, fun p hp => ?_, fun q hq => ?_⟩
        · rw [e1, e2]
          by_cases e : p = z_B (z_ki ra) (z_ki rb) nb i + (j - l)
          · rw [if_pos (by omega), if_pos (by omega), e]; exact (z_pr_at hi hl hu h1 hju).symm
          · rw [if_neg (by omega), if_neg (by omega)]; exact q2 p (by omega)
        · rw [e1, e2, if_neg (by omega), if_neg (by omega)]; exact q3 q hq
      · rw [if_pos c2, nI_1, z_lt]
        have e : j = u := by
          rcases Nat.lt_or_ge j u with z | z
          · exfalso
            have a1 := hup.mpr z
            have a2 : ¬ z_ki rb j < z_ki ra i := fun y => by have := hlo.mp y; omega
            exact c2 (Int32.toInt_inj.mp (by unfold z_ki at a1 a2; omega))
          · omega
        rw [e]
        exact ⟨S, rfl, by rw [e] at H; exact H⟩
theorem zm_19 {na nb i l : Nat} {ra rb : Nat → z_Rec} {S : es_St} {k13 : Int32 → Int32 → Int32 → Int32 → Int32 → es_St → Option (Int32 × es_St)} {x1 x4 : Int32} (hna : na ≤ 8192) (hnb : nb ≤ 8192) (hb : z_mon (z_ki rb) nb) (hJ : z_JM na nb ra rb S) (hi : i < na) (hl : z_low (z_ki rb) nb (z_ki ra i) = l) : ∀ (fu j : Nat), j ≤ l → nb - j < fu →
    f_X8_puts2_19 es_NM z_fu k13 fu x1 (nI nb) x4 (nI j) (nI i) S = f_X8_puts2_52 es_NM z_fu k13 z_fu x1 (nI nb) x4 (nI l) (nI i) (nI l) S := by
  have hln := z_low_le (z_ki rb) nb (z_ki ra i)
  rw [hl] at hln
  obtain ⟨jA, jB⟩ := hJ
  intro fu
  induction fu with
  | zero => intro j _ h; exact absurd h (by omega)
  | succ fu ih =>
    intro j h1 hf
    rw [f_X8_puts2_19]
    by_cases c : nb ≤ j
    · rw [if_pos (nI_le c (by omega)), show j = l by omega]
    · have hlo := z_low_iff (kb := z_ki rb) (x := z_ki ra i) hb (show j < nb by omega)
      rw [hl] at hlo
      rw [if_neg (nI_ge (by omega) (by omega)), es_ck_t (vp_in_nI (N := es_NM 19) (show j < 8192 by omega) (by decide)), z_rd S 19 j (by omega), (jB j (by omega)).1, z_lt, es_ck_t (vp_in_nI (N := es_NM 17) (show i < 8192 by omega) (by decide)), z_rd S 17 i (by omega), (jA i hi).1, z_lt]
      by_cases c2 : (ra i).1 ≤ (rb j).1
      · have h2 := Int32.le_iff_toInt_le.mp c2
        have : ¬ j < l := fun y => by have := hlo.mpr y; unfold z_ki at this; omega
        rw [if_pos c2, show j = l by omega]
      · have h2 : ¬ (ra i).1.toInt ≤ (rb j).1.toInt := fun y => c2 (Int32.le_iff_toInt_le.mpr y)
        have : j < l := hlo.mp (by unfold z_ki; omega)
        rw [if_neg c2, nI_1, z_lt]
        exact ih (j + 1) (by omega) (by omega)
theorem zm_13 {to na nb : Nat} {ra rb : Nat → z_Rec} {S0 : es_St} (hto : to < 6) (hna : na ≤ 8192) (hnb : nb ≤ 8192) (ha : z_mon (z_ki ra) na) (hb : z_mon (z_ki rb) nb) (hJ : z_JM na nb ra rb S0) (hT : z_B (z_ki ra) (z_ki rb) nb na ≤ 8192) :
    ∀ (fu i r : Nat) (S : es_St), i ≤ na → na - i < fu → (i < na → r ≤ z_low (z_ki rb) nb (z_ki ra i)) → z_WM to na nb ra rb S0 S (z_B (z_ki ra) (z_ki rb) nb i) →
    ∃ S', f_X8_puts2_13 es_NM z_fu fu (nI na) (nI nb) (nI (8192 * to + z_B (z_ki ra) (z_ki rb) nb i)) (nI r) (nI i) S = some (0, S') ∧ z_WM to na nb ra rb S0 S' (z_B (z_ki ra) (z_ki rb) nb na) := by
  have hfu := z_fu_ge
  intro fu
  induction fu with
  | zero => intro i r S _ h; exact absurd h (by omega)
  | succ fu ih =>
    intro i r S h1 hf hr H
    rw [f_X8_puts2_13]
    by_cases c : i = na
    · subst c
      rw [if_pos (nI_le (Nat.le_refl _) (by omega))]
      exact ⟨S, rfl, H⟩
    · have hi : i < na := by omega
      have hBs := z_B_succ (z_ki ra) (z_ki rb) nb i
      have hBm := z_B_mono (ka := z_ki ra) (kb := z_ki rb) (nb := nb) (i := i + 1) na (by omega)
      rw [if_neg (nI_ge hi (by omega)), zm_19 hna hnb hb (z_JM_keep hJ H) hi rfl z_fu r (hr hi) (by omega)]
      obtain ⟨S1, g1, g2⟩ := zm_52 (k13 := fun x1 x2 x4 x5 x6 S => f_X8_puts2_13 es_NM z_fu fu x1 x2 x4 x5 x6 S) (x1 := nI na) hto hna hnb hb hJ hi rfl rfl (by omega) z_fu (z_low (z_ki rb) nb (z_ki ra i)) S (Nat.le_refl _) (z_low_upp hb) (by omega) (by rw [Nat.sub_self]; exact H)
      rw [Nat.sub_self, Nat.add_zero] at g1
      rw [g1, ← hBs]
      refine ih (i + 1) _ S1 (by omega) (by omega) (fun h2 => ?_) (by rw [hBs]; exact g2)
      -- lower bounds grow
      have hm := ha i (i + 1) (by omega) h2
      rcases Nat.lt_or_ge (z_low (z_ki rb) nb (z_ki ra (i + 1))) (z_low (z_ki rb) nb (z_ki ra i)) with z | z
      · have hle := z_low_le (z_ki rb) nb (z_ki ra i)
        have e1 := (z_low_iff (x := z_ki ra i) hb (show z_low (z_ki rb) nb (z_ki ra (i + 1)) < nb by omega)).mpr z
        have e2 := (z_low_iff (x := z_ki ra (i + 1)) hb (show z_low (z_ki rb) nb (z_ki ra (i + 1)) < nb by omega)).mp (by omega)
        omega
      · exact z
theorem zm_puts2 {to na nb : Nat} {ra rb : Nat → z_Rec} {S : es_St} (hto : to < 6) (hna : na ≤ 8192) (hnb : nb ≤ 8192) (ha : z_mon (z_ki ra) na) (hb : z_mon (z_ki rb) nb) (hJ : z_JM na nb ra rb S) (hT : z_B (z_ki ra) (z_ki rb) nb na ≤ 8192) :
    ∃ S', f_X8_puts2 es_NM z_fu S (nI na) (nI nb) (nI to) = some (0, S') ∧ z_WM to na nb ra rb S S' (z_B (z_ki ra) (z_ki rb) nb na) := by
  obtain ⟨S', g1, g2⟩ := zm_13 (S0 := S) hto hna hnb ha hb hJ hT z_fu 0 0 S (by omega) (by have := z_fu_ge; omega) (fun _ => Nat.zero_le _) ⟨z_keep_rfl, fun p hp => absurd hp (by rw [show z_B (z_ki ra) (z_ki rb) nb 0 = 0 from rfl]; omega), fun _ _ => ⟨rfl, rfl⟩⟩
  refine ⟨S', ?_, g2⟩
  unfold f_X8_puts2
  rw [zl8192, pk_mul, z_lt]
  exact g1
/-- all work pages are free -/
theorem z_relAll {P R : Nat} {S0 S : es_St} {pg0 pg : Nat → Nat → Nat} {rc0 rc : Nat → Nat → z_Rec} {lo0 hi0 lo hi : Nat → Nat} {fc0 fc : Nat} (hok : z_ok P R) (h0 : z_DI P R S0 pg0 rc0 lo0 hi0 fc0) (hd0 : ∀ c, 6 ≤ c → hi0 c ≤ lo0 c) (h : z_DI P R S pg rc lo hi fc) (hf : ∀ c, c < 6 → pg c = pg0 c ∧ rc c = rc0 c ∧ lo c = lo0 c ∧ hi c = hi0 c) :
    ∃ S', f_X0_releaseAll (es_NX P R) z_fu S 6 = some (nI (z_cnt (fun q => S.2 13 q = 6) P), S') ∧ z_keep [2] [13, 15] S S' ∧ z_DI P R S' pg0 rc0 lo0 hi0 fc0 ∧ fc + z_cnt (fun q => S.2 13 q = 6) P = fc0 := by
  obtain ⟨S', g1, g2, g3, g4⟩ := zx_releaseAll (fu := z_fu) (w := 6) hok (by have := z_fu_ge; omega) (by decide) h.1 h.2.2.1
  have hD := z_DI_kill 6 (by decide) h (g2.1 0 (by decide)) (g2.1 1 (by decide)) g3 (g2.2 11 (by decide)) (g2.2 12 (by decide)) g4 (g2.2 14 (by decide))
  have ow : ∀ c, c < 6 → ¬ z_ow c = 6 := fun c hc e => by have := z_ow_6 (show z_ow c = nI 6 from e); omega
  have hlive : ∀ c i, (lo0 c ≤ i ∧ i < hi0 c) ↔ ((if z_ow c = 6 then hi c else lo c) ≤ i ∧ i < hi c) := fun c i => by
    rcases Nat.lt_or_ge c 6 with z | z
    · obtain ⟨-, -, e3, e4⟩ := hf c z
      rw [if_neg (ow c z), e3, e4]
    · have := hd0 c z
      rw [if_pos (show z_ow c = 6 from z_ow_ge z)]
      omega
  have hD2 : z_DI P R S' pg0 rc0 lo0 hi0 _ := z_DI_re hD hlive (fun c i a b => by
    rcases Nat.lt_or_ge c 6 with z | z
    · rw [(hf c z).1]
    · rw [if_pos (show z_ow c = 6 from z_ow_ge z)] at a; omega) (fun c i s a b hs => by
    rcases Nat.lt_or_ge c 6 with z | z
    · rw [(hf c z).2.1]
    · rw [if_pos (show z_ow c = 6 from z_ow_ge z)] at a; omega)
  have e := z_fc_eq hD2 h0 (fun p => Iff.rfl)
  have hD3 := hD2
  rw [e] at hD3
  exact ⟨S', g1, g2, hD3, e⟩
/-- two chains of work -/
theorem z_CH_cnt2 {P R : Nat} {S : es_St} {pg : Nat → Nat → Nat} {rc : Nat → Nat → z_Rec} {lo hi : Nat → Nat} (hc : z_CH P R S pg rc lo hi) (a b : Nat) (hab : a ≠ b) (w : Int32) (ha : w = z_ow a) (hb : w = z_ow b) (hla : lo a = 0) (hlb : lo b = 0) (h1 : ∀ c, c ≠ a → c ≠ b → z_ow c = w → hi c ≤ lo c) : z_cnt (fun q => S.2 13 q = w) P = hi a + hi b := by
  obtain ⟨c1, c2, -, -, c5⟩ := hc
  refine Nat.le_antisymm (z_pig2 P (hi a + hi b) (fun i => if i < hi a then pg a i else pg b (i - hi a)) (fun p hp hq => ?_)) (z_pig P (hi a + hi b) (fun i => if i < hi a then pg a i else pg b (i - hi a)) (fun i j hi' hj e => ?_) (fun i hi' => ?_))
  · rcases c5 p hp with x | ⟨c, i, y1, y2, y3⟩
    · rw [x] at hq; exact absurd (ha.symm.trans hq.symm) (z_ow_m1 a)
    · have ho := (c1 c i y1 y2).2
      rw [y3, hq] at ho
      by_cases ea : c = a
      · subst ea
        exact ⟨i, by omega, by rw [if_pos y2]; exact y3⟩
      · by_cases eb : c = b
        · subst eb
          exact ⟨hi a + i, by omega, by rw [if_neg (by omega), show hi a + i - hi a = i by omega]; exact y3⟩
        · have := h1 c ea eb ho.symm
          omega
  · by_cases q1 : i < hi a <;> by_cases q2 : j < hi a
    · rw [if_pos q1, if_pos q2] at e
      exact (c2 a i a j (by omega) q1 (by omega) q2 e).2
    · rw [if_pos q1, if_neg q2] at e
      exact absurd (c2 a i b (j - hi a) (by omega) q1 (by omega) (by omega) e).1 hab
    · rw [if_neg q1, if_pos q2] at e
      exact absurd (c2 b (i - hi a) a j (by omega) (by omega) (by omega) q2 e).1.symm hab
    · rw [if_neg q1, if_neg q2] at e
      have := (c2 b (i - hi a) b (j - hi a) (by omega) (by omega) (by omega) (by omega) e).2
      omega
  · by_cases q1 : i < hi a
    · rw [if_pos q1, ha]; exact c1 a i (by omega) q1
    · rw [if_neg q1, hb]; exact c1 b (i - hi a) (by omega) (by omega)
