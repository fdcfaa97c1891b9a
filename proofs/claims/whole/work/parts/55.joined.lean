/-! ===== join: the reference's count; groups that are too large ===== -/
def nL (n : Nat) : Int64 := Int64.ofNat n
theorem nL_toInt {n : Nat} (h : n < 2 ^ 63) : (nL n).toInt = n := Int64.toInt_ofNat_of_lt h
theorem nL_of {k : Nat} (h : k < 2 ^ 31) : (nI k).toInt64 = nL k := by
  apply Int64.toInt_inj.mp
  rw [Int32.toInt_toInt64, nI_toInt h, nL_toInt (by omega)]
theorem nL_add (a b : Nat) : nL a + nL b = nL (a + b) := (Int64.ofNat_add a b).symm
theorem nL_mul (a b : Nat) : nL a * nL b = nL (a * b) := (Int64.ofNat_mul a b).symm
theorem nL_32 {k : Nat} (h : k < 2 ^ 31) : (nL k).toInt32 = nI k := by
  rw [← nL_of h, Int32.toInt32_toInt64]
theorem nL_cmp {a b : Nat} (ha : a < 2 ^ 63) (hb : b < 2 ^ 63) : (lg_cmp (nL a) (nL b) ≤ 0) ↔ a ≤ b := by
  unfold lg_cmp
  have e1 : (nL a > nL b) ↔ b < a := by
    show nL b < nL a ↔ _
    rw [Int64.lt_iff_toInt_lt, nL_toInt ha, nL_toInt hb]
    omega
  by_cases c : b < a
  · rw [if_pos (e1.mpr c)]
    constructor
    · intro y; exact absurd y (by decide)
    · intro y; omega
  · rw [if_neg (fun y => c (e1.mp y))]
    constructor
    · intro _; omega
    · intro _
      split <;> decide
theorem zm_107 {nb ib : Nat} {S : es_St} {k12 : Int32 → Int32 → Int32 → Int32 → Int64 → Int32 → Int32 → Int32 → es_St → Option (Int32 × es_St)} {x1 x3 x4 x8 x9 x10 : Int32} {x5 : Int64} (hnb : nb ≤ 8192) (hib : ib < nb) : ∀ (fu e : Nat), ib ≤ e → e ≤ nb → nb - e < fu → (∀ q, ib ≤ q → q < e → S.2 19 q = S.2 19 ib) →
    ∃ eb, f_X8_joined_107 es_NM z_fu k12 fu x1 (nI nb) x3 x4 x5 (nI ib) x8 x9 x10 (nI e) S = f_X8_joined_136 es_NM z_fu k12 x1 (nI nb) x3 x4 x5 (nI ib) x8 x9 x10 (nI eb) S ∧ ib < eb ∧ eb ≤ nb ∧ (∀ q, ib ≤ q → q < eb → S.2 19 q = S.2 19 ib) ∧ (eb = nb ∨ S.2 19 eb ≠ S.2 19 ib) := by
  intro fu
  induction fu with
  | zero => intro e _ _ h; exact absurd h (by omega)
  | succ fu ih =>
    intro e h1 h2 hf hq
    rw [f_X8_joined_107]
    by_cases c : e = nb
    · subst c
      rw [if_pos (nI_le (Nat.le_refl _) (by omega))]
      exact ⟨e, rfl, hib, h2, hq, Or.inl rfl⟩
    · have v19 : ∀ q, q < nb → vp_in (nI q) (es_NM 19) := fun q hq => vp_in_nI (N := es_NM 19) (show q < 8192 by omega) (by decide)
      rw [if_neg (nI_ge (show e < nb by omega) (by omega)), es_ck_t (v19 e (by omega)), z_rd S 19 e (by omega), z_lt, es_ck_t (v19 ib hib), z_rd S 19 ib (by omega), z_lt]
      by_cases c2 : S.2 19 e = S.2 19 ib
      · rw [if_neg (by simpa using c2), nI_1, z_lt]
        exact ih (e + 1) (by omega) (by omega) (by omega) (fun q a b => by
          by_cases eq : q = e
          · rw [eq]; exact c2
          · exact hq q a (by omega))
      · rw [if_pos c2]
        refine ⟨e, rfl, ?_, h2, hq, Or.inr c2⟩
        rcases Nat.lt_or_ge ib e with z | z
        · exact z
        · exact absurd (by rw [show e = ib by omega]) c2
theorem zm_74 {na ia : Nat} {S : es_St} {k12 : Int32 → Int32 → Int32 → Int32 → Int64 → Int32 → Int32 → Int32 → es_St → Option (Int32 × es_St)} {x2 x3 x4 x7 x9 : Int32} {x5 : Int64} (hna : na ≤ 8192) (hia : ia < na) : ∀ (fu e : Nat), ia ≤ e → e ≤ na → na - e < fu → (∀ q, ia ≤ q → q < e → S.2 17 q = S.2 17 ia) →
    ∃ ea, f_X8_joined_74 es_NM z_fu k12 fu (nI na) x2 x3 x4 x5 x7 (nI ia) x9 (nI e) S = f_X8_joined_107 es_NM z_fu k12 z_fu (nI na) x2 x3 x4 x5 x7 (nI ia) x9 (nI ea) x7 S ∧ ia < ea ∧ ea ≤ na ∧ (∀ q, ia ≤ q → q < ea → S.2 17 q = S.2 17 ia) ∧ (ea = na ∨ S.2 17 ea ≠ S.2 17 ia) := by
  intro fu
  induction fu with
  | zero => intro e _ _ h; exact absurd h (by omega)
  | succ fu ih =>
    intro e h1 h2 hf hq
    rw [f_X8_joined_74]
    by_cases c : e = na
    · subst c
      rw [if_pos (nI_le (Nat.le_refl _) (by omega))]
      exact ⟨e, rfl, hia, h2, hq, Or.inl rfl⟩
    · have v17 : ∀ q, q < na → vp_in (nI q) (es_NM 17) := fun q hq => vp_in_nI (N := es_NM 17) (show q < 8192 by omega) (by decide)
      rw [if_neg (nI_ge (show e < na by omega) (by omega)), es_ck_t (v17 e (by omega)), z_rd S 17 e (by omega), z_lt, es_ck_t (v17 ia hia), z_rd S 17 ia (by omega), z_lt]
      by_cases c2 : S.2 17 e = S.2 17 ia
      · rw [if_neg (by simpa using c2), nI_1, z_lt]
        exact ih (e + 1) (by omega) (by omega) (by omega) (fun q a b => by
          by_cases eq : q = e
          · rw [eq]; exact c2
          · exact hq q a (by omega))
      · rw [if_pos c2]
        refine ⟨e, rfl, ?_, h2, hq, Or.inr c2⟩
        rcases Nat.lt_or_ge ia e with z | z
        · exact z
        · exact absurd (by rw [show e = ia by omega]) c2
theorem zm_join_loop {na nb : Nat} {ra rb : Nat → z_Rec} {S : es_St} {x3 x4 x9 : Int32} (hna : na ≤ 8192) (hnb : nb ≤ 8192) (ha : z_mon (z_ki ra) na) (hb : z_mon (z_ki rb) nb) (hA : ∀ i, i < na → S.2 17 i = (ra i).1) (hB : ∀ j, j < nb → S.2 19 j = (rb j).1) : ∀ (gap fu ia ib : Nat), (na - ia) + (nb - ib) ≤ gap → gap < fu → ia ≤ na → ib ≤ nb → z_II (z_ki ra) (z_ki rb) na nb ia ib →
    f_X8_joined_12 es_NM z_fu fu (nI na) (nI nb) x3 x4 (nL (z_B (z_ki ra) (z_ki rb) nb ia)) (nI ib) (nI ia) x9 S = f_X8_joined_168 es_NM z_fu z_fu (nI nb) x3 x4 (nL (z_B (z_ki ra) (z_ki rb) nb na)) x9 0 S := by
  have hfu := z_fu_ge
  have v17 : ∀ q, q < na → vp_in (nI q) (es_NM 17) := fun q hq => vp_in_nI (N := es_NM 17) (show q < 8192 by omega) (by decide)
  have v19 : ∀ q, q < nb → vp_in (nI q) (es_NM 19) := fun q hq => vp_in_nI (N := es_NM 19) (show q < 8192 by omega) (by decide)
  intro gap
  induction gap with
  | zero =>
    intro fu ia ib hgap hf h1 h2 hI
    obtain ⟨fu, rfl⟩ : ∃ q, fu = q + 1 := ⟨fu - 1, by omega⟩
    rw [f_X8_joined_12, if_pos (nI_le (by omega) (by omega)), z_II_end hI h1 (Or.inl (by omega))]
  | succ gap ih =>
    intro fu ia ib hgap hf h1 h2 hI
    obtain ⟨fu, rfl⟩ : ∃ q, fu = q + 1 := ⟨fu - 1, by omega⟩
    rw [f_X8_joined_12]
    by_cases c1 : na ≤ ia
    · rw [if_pos (nI_le c1 (by omega)), z_II_end hI h1 (Or.inl c1)]
    · rw [if_neg (nI_ge (by omega) (by omega))]
      by_cases c2 : nb ≤ ib
      · rw [if_pos (nI_le c2 (by omega)), z_II_end hI h1 (Or.inr c2)]
      · have hia : ia < na := by omega
        have hib : ib < nb := by omega
        have ra1 : es_rd S 17 (nI ia) = (ra ia).1 := by rw [z_rd _ _ _ (by omega), hA ia hia]
        have rb1 : es_rd S 19 (nI ib) = (rb ib).1 := by rw [z_rd _ _ _ (by omega), hB ib hib]
        rw [if_neg (nI_ge hib (by omega)), es_ck_t (v17 ia hia), ra1, z_lt, es_ck_t (v19 ib hib), rb1, z_lt]
        by_cases c3 : (rb ib).1 ≤ (ra ia).1
        · have h3 := Int32.le_iff_toInt_le.mp c3
          rw [if_pos c3, es_ck_t (v17 ia hia), z_lt, es_ck_t (v19 ib hib), z_lt]
          by_cases c4 : (ra ia).1 ≤ (rb ib).1
          · have h4 := Int32.le_iff_toInt_le.mp c4
            rw [if_pos c4]
            obtain ⟨ea, g1, g2, g3, g4, g5⟩ := zm_74 (S := S) (k12 := fun x1 x2 x3 x4 x5 x7 x8 x9 S => f_X8_joined_12 es_NM z_fu fu x1 x2 x3 x4 x5 x7 x8 x9 S) (x2 := nI nb) (x3 := x3) (x4 := x4) (x7 := nI ib) (x9 := x9) (x5 := nL (z_B (z_ki ra) (z_ki rb) nb ia)) hna hia z_fu ia (Nat.le_refl _) h1 (by omega) (fun q a b => absurd b (by omega))
            obtain ⟨eb, q1, q2, q3, q4, q5⟩ := zm_107 (S := S) (k12 := fun x1 x2 x3 x4 x5 x7 x8 x9 S => f_X8_joined_12 es_NM z_fu fu x1 x2 x3 x4 x5 x7 x8 x9 S) (x1 := nI na) (x3 := x3) (x4 := x4) (x8 := nI ia) (x9 := x9) (x10 := nI ea) (x5 := nL (z_B (z_ki ra) (z_ki rb) nb ia)) hnb hib z_fu ib (Nat.le_refl _) h2 (by omega) (fun q a b => absurd b (by omega))
            rw [g1, q1]
            have a4 : ea = na ∨ z_ki ra ea ≠ z_ki ra ia := by
              rcases Nat.lt_or_ge ea na with w | w
              · right
                intro z
                rcases g5 with y | y
                · omega
                · apply y
                  rw [hA ea w, hA ia hia]
                  exact Int32.toInt_inj.mp z
              · left; omega
            have b4 : eb = nb ∨ z_ki rb eb ≠ z_ki rb ib := by
              rcases Nat.lt_or_ge eb nb with w | w
              · right
                intro z
                rcases q5 with y | y
                · omega
                · apply y
                  rw [hB eb w, hB ib hib]
                  exact Int32.toInt_inj.mp z
              · left; omega
            obtain ⟨hz1, hz2⟩ := z_II_eq (ea := ea) (eb := eb) ha hb hI hia hib (by unfold z_ki; omega) g2 g3 (fun i a b => by
              have := g4 i a b
              rw [hA i (by omega), hA ia hia] at this
              unfold z_ki; rw [this]) a4 q2 q3 (fun j a b => by
              have := q4 j a b
              rw [hB j (by omega), hB ib hib] at this
              unfold z_ki; rw [this]) b4
            have hgB := z_gr_B (ka := z_ki ra) (kb := z_ki rb) (na := na) (nb := nb) ⟨g2, g3, q2, q3, hz1, hz2⟩
            unfold f_X8_joined_136
            rw [pk_sub (by omega), pk_sub (by omega), nL_of (by omega), nL_of (by omega), nL_mul, nL_add, z_lt, ← hgB]
            exact ih fu ea eb (by omega) (by omega) g3 q3 hz2
          · have h4 : ¬ (ra ia).1.toInt ≤ (rb ib).1.toInt := fun y => c4 (Int32.le_iff_toInt_le.mpr y)
            rw [if_neg c4, nI_1, z_lt]
            exact ih fu ia (ib + 1) (by omega) (by omega) h1 (by omega) (z_II_b ha hb hib (by unfold z_ki; omega))
        · have h3 : ¬ (rb ib).1.toInt ≤ (ra ia).1.toInt := fun y => c3 (Int32.le_iff_toInt_le.mpr y)
          obtain ⟨hB', hI'⟩ := z_II_a hb hI hia hib (by unfold z_ki; omega)
          rw [if_neg c3, nI_1, z_lt, ← hB']
          exact ih fu (ia + 1) ib (by omega) (by omega) (by omega) h2 hI'
/-- no group of b that the memory can't hold -/
def z_fits (kb : Nat → Int) (nb room : Nat) : Prop := ∀ q, q < nb → room ≤ q → kb (q - room) ≠ kb q
theorem zm_168_loop {nb room : Nat} {rb : Nat → z_Rec} {S : es_St} {x3 : Int32} {x5 : Int64} (hnb : nb ≤ 8192) (hroom : room ≤ 100000) (hB : ∀ j, j < nb → S.2 19 j = (rb j).1) : ∀ (fu j : Nat) (x9 : Int32), j ≤ nb → nb - j < fu → (x9 = 0 ∨ x9 = 1) →
    ∃ y : Int32, f_X8_joined_168 es_NM z_fu fu (nI nb) x3 (nI room) x5 x9 (nI j) S = (es_lt (((S.1 0) - x3).toInt64) fun y3 => if y = 0 then (if (lg_cmp x5 (y3 * ((S.1 1).toInt64))) ≤ 0 then some (x5.toInt32, S) else some ((-2), S)) else some ((-3), S)) ∧ (y = 0 ↔ x9 = 0 ∧ ∀ q, j ≤ q → q < nb → room ≤ q → z_ki rb (q - room) ≠ z_ki rb q) := by
  intro fu
  induction fu with
  | zero => intro j x9 _ h; exact absurd h (by omega)
  | succ fu ih =>
    intro j x9 hj hf hx
    rw [f_X8_joined_168]
    by_cases c : j = nb
    · subst c
      rw [if_pos (nI_le (Nat.le_refl _) (by omega))]
      exact ⟨x9, rfl, fun h => ⟨h, fun q a b => absurd b (by omega)⟩, fun h => h.1⟩
    · have hjn : j < nb := by omega
      have v19 : ∀ q, q < nb → vp_in (nI q) (es_NM 19) := fun q hq => vp_in_nI (N := es_NM 19) (show q < 8192 by omega) (by decide)
      rw [if_neg (nI_ge hjn (by omega))]
      rcases hx with rfl | rfl
      · rw [if_neg (by simp)]
        by_cases c2 : j < room
        · rw [if_pos (nI_lt c2 (by omega)), nI_1, z_lt]
          obtain ⟨y, g1, g2⟩ := ih (j + 1) 0 (by omega) (by omega) (Or.inl rfl)
          refine ⟨y, g1, g2.trans ⟨fun h => ⟨rfl, fun q a b d => h.2 q (by omega) b d⟩, fun h => ⟨rfl, fun q a b d => h.2 q (by omega) b d⟩⟩⟩
        · rw [if_neg (nI_nlt (by omega) (by omega)), pk_sub (by omega), es_ck_t (v19 (j - room) (by omega)), z_rd S 19 (j - room) (by omega), hB (j - room) (by omega), z_lt, es_ck_t (v19 j hjn), z_rd S 19 j (by omega), hB j hjn, z_lt]
          by_cases c3 : (rb (j - room)).1 = (rb j).1
          · rw [if_neg (by simpa using c3), nI_1, z_lt]
            obtain ⟨y, g1, g2⟩ := ih (j + 1) 1 (by omega) (by omega) (Or.inr rfl)
            refine ⟨y, g1, fun h => absurd (g2.mp h).1 (by decide), fun h => absurd (by unfold z_ki; rw [c3]) (h.2 j (Nat.le_refl _) hjn (by omega))⟩
          · rw [if_pos c3, nI_1, z_lt]
            obtain ⟨y, g1, g2⟩ := ih (j + 1) 0 (by omega) (by omega) (Or.inl rfl)
            refine ⟨y, g1, g2.trans ⟨fun h => ⟨rfl, fun q a b d => ?_⟩, fun h => ⟨rfl, fun q a b d => h.2 q (by omega) b d⟩⟩⟩
            by_cases e : q = j
            · rw [e]; exact fun z => c3 (Int32.toInt_inj.mp z)
            · exact h.2 q (by omega) b d
      · rw [if_pos (by decide), nI_1, z_lt]
        obtain ⟨y, g1, g2⟩ := ih (j + 1) 1 (by omega) (by omega) (Or.inr rfl)
        exact ⟨y, g1, fun h => absurd (g2.mp h).1 (by decide), fun h => absurd h.1 (by decide)⟩
theorem zm_joined {na nb room P R u : Nat} {ra rb : Nat → z_Rec} {S : es_St} (hna : na ≤ 8192) (hnb : nb ≤ 8192) (hroom : room ≤ 100000) (ha : z_mon (z_ki ra) na) (hb : z_mon (z_ki rb) nb) (hA : ∀ i, i < na → S.2 17 i = (ra i).1) (hB : ∀ j, j < nb → S.2 19 j = (rb j).1) (h0 : S.1 0 = nI P) (h1 : S.1 1 = nI R) (hP : P ≤ 512) (hR : R ≤ 16) (hu : u ≤ P) :
    (¬ z_fits (z_ki rb) nb room → f_X8_joined es_NM z_fu S (nI na) (nI nb) (nI u) (nI room) = some (-3, S)) ∧ (z_fits (z_ki rb) nb room → (z_B (z_ki ra) (z_ki rb) nb na ≤ (P - u) * R → f_X8_joined es_NM z_fu S (nI na) (nI nb) (nI u) (nI room) = some (nI (z_B (z_ki ra) (z_ki rb) nb na), S)) ∧ (¬ z_B (z_ki ra) (z_ki rb) nb na ≤ (P - u) * R → f_X8_joined es_NM z_fu S (nI na) (nI nb) (nI u) (nI room) = some (-2, S))) := by
  have hfu := z_fu_ge
  have hBle : z_B (z_ki ra) (z_ki rb) nb na ≤ 8192 * 8192 := Nat.le_trans (z_B_le _ _ nb na) (Nat.mul_le_mul hna hnb)
  have hPR : (P - u) * R ≤ 512 * 16 := Nat.mul_le_mul (by omega) hR
  have e : f_X8_joined es_NM z_fu S (nI na) (nI nb) (nI u) (nI room) = _ := zm_join_loop (x3 := nI u) (x4 := nI room) (x9 := 0) hna hnb ha hb hA hB (na + nb) z_fu 0 0 (by omega) (by omega) (by omega) (by omega) (fun i _ _ => Nat.zero_le _)
  obtain ⟨y, g1, g2⟩ := zm_168_loop (S := S) (rb := rb) (x3 := nI u) (x5 := nL (z_B (z_ki ra) (z_ki rb) nb na)) hnb hroom hB z_fu 0 0 (by omega) (by omega) (Or.inl rfl)
  have e2 : f_X8_joined es_NM z_fu S (nI na) (nI nb) (nI u) (nI room) = if y = 0 then (if z_B (z_ki ra) (z_ki rb) nb na ≤ (P - u) * R then some (nI (z_B (z_ki ra) (z_ki rb) nb na), S) else some ((-2), S)) else some ((-3), S) := by
    refine e.trans (Eq.trans (show _ = _ from g1) ?_)
    rw [h0, h1, pk_sub hu, nL_of (by omega), nL_of (by omega), z_lt, nL_mul, nL_32 (by omega)]
    by_cases c : z_B (z_ki ra) (z_ki rb) nb na ≤ (P - u) * R
    · rw [if_pos c, if_pos ((nL_cmp (by omega) (by omega)).mpr c)]
    · rw [if_neg c, if_neg (fun z => c ((nL_cmp (by omega) (by omega)).mp z))]
  have g3 : y = 0 ↔ z_fits (z_ki rb) nb room := g2.trans ⟨fun h q a b => h.2 q (by omega) a b, fun h => ⟨rfl, fun q _ a b => h q a b⟩⟩
  rw [e2]
  refine ⟨fun h => ?_, fun h => ⟨fun c => ?_, fun c => ?_⟩⟩
  · rw [if_neg (fun z => h (g3.mp z))]
  · rw [if_pos (g3.mpr h), if_pos c]
  · rw [if_pos (g3.mpr h), if_neg c]
