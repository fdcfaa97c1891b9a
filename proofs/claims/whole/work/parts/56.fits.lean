/-! ===== join: the largest group, and whether the pairs fit (class) ===== -/
theorem zx_max {a b : Nat} (ha : a < 2 ^ 31) (hb : b < 2 ^ 31) : (if nI a < nI b then nI b else nI a) = nI (if a < b then b else a) := by
  by_cases c : a < b
  · rw [if_pos c, if_pos (nI_lt c hb)]
  · rw [if_neg c, if_neg (nI_nlt (by omega) (by omega))]
theorem zx_large_loop {P R na nb room : Nat} {ra rb : Nat → z_Rec} {S : es_St} (hok : z_ok P R) (hn : na + nb ≤ P * R) (hr : 1 ≤ room) (hb : z_mon (z_ki rb) nb) (hJ : z_JX na nb ra rb S) : ∀ (fu j mx cur : Nat), j ≤ nb → nb - j < fu → mx ≤ j → cur ≤ j → (0 < j → 1 ≤ cur ∧ (∀ q, j - cur ≤ q → q < j → z_ki rb q = z_ki rb (j - 1)) ∧ (cur = j ∨ z_ki rb (j - cur - 1) ≠ z_ki rb (j - 1))) → (mx ≤ room ↔ ∀ q, q < j → room ≤ q → z_ki rb (q - room) ≠ z_ki rb q) →
    ∃ mx', f_X2_largestGroupOfB_9 (es_NX P R) z_fu fu (nI mx) (nI cur) (nI (na + j)) S = some (nI mx', S) ∧ mx' ≤ nb ∧ (mx' ≤ room ↔ z_fits (z_ki rb) nb room) := by
  have hPR := z_PR hok
  obtain ⟨j16, j17, jA, jB⟩ := hJ
  intro fu
  induction fu with
  | zero => intro j mx cur _ h; exact absurd h (by omega)
  | succ fu ih =>
    intro j mx cur hj hf hmx hcur hc hm
    rw [f_X2_largestGroupOfB_9, j16, j17]
    by_cases c : j = nb
    · subst c
      rw [if_pos (nI_le (Nat.le_refl _) (by omega))]
      exact ⟨mx, rfl, hmx, hm⟩
    · have hjn : j < nb := by omega
      rw [if_neg (nI_ge (show na + j < na + nb by omega) (by omega))]
      -- one more
      have step : ∀ cur' : Nat, 1 ≤ cur' → cur' ≤ j + 1 → (∀ q, j + 1 - cur' ≤ q → q < j + 1 → z_ki rb q = z_ki rb j) → (cur' = j + 1 ∨ z_ki rb (j - cur') ≠ z_ki rb j) → ∃ mx', f_X2_largestGroupOfB_9 (es_NX P R) z_fu fu (nI (if mx < cur' then cur' else mx)) (nI cur') (nI (na + (j + 1))) S = some (nI mx', S) ∧ mx' ≤ nb ∧ (mx' ≤ room ↔ z_fits (z_ki rb) nb room) := fun cur' h1 h2 h3 h4 => by
        refine ih (j + 1) _ cur' (by omega) (by omega) (by split <;> omega) h2 (fun _ => ⟨h1, by rw [Nat.add_sub_cancel]; exact h3, ?_⟩) ?_
        · rw [Nat.add_sub_cancel, show j + 1 - cur' - 1 = j - cur' by omega]; exact h4
        · have key : cur' ≤ room ↔ (room ≤ j → z_ki rb (j - room) ≠ z_ki rb j) := by
            constructor
            · intro a b
              rcases h4 with z | z
              · omega
              · have e1 := hb (j - room) (j - cur') (by omega) (by omega)
                have e2 := hb (j - cur') j (by omega) hjn
                omega
            · intro a
              rcases Nat.lt_or_ge room cur' with z | z
              · exfalso
                exact a (by omega) (h3 (j - room) (by omega) (by omega))
              · exact z
          have e : ((if mx < cur' then cur' else mx) ≤ room) ↔ (mx ≤ room ∧ cur' ≤ room) := by split <;> omega
          rw [e, hm, key]
          constructor
          · intro ⟨a, b⟩ q q1 q2
            by_cases eq : q = j
            · rw [eq] at q2 ⊢; exact b q2
            · exact a q (by omega) q2
          · intro a
            exact ⟨fun q q1 q2 => a q (by omega) q2, fun b => a j (by omega) b⟩
      have m1 : (if nI mx < 1 then 1 else nI mx) = nI (if mx < 1 then 1 else mx) := zx_max (b := 1) (by omega) (by decide)
      by_cases c0 : j = 0
      · subst c0
        rw [if_pos (nI_le (by omega) (by omega)), m1, z_lt, nI_1, z_lt]
        exact step 1 (by omega) (by omega) (fun q a b => by rw [show q = 0 by omega]) (Or.inl rfl)
      · obtain ⟨k1, k2, k3⟩ := hc (by omega)
        rw [if_neg (nI_ge (by omega) (by omega)), zN20, z_ck (show na + j < P * R by omega) (by omega), z_rd S 20 (na + j) (by omega), (jB j hjn).1, z_lt, show nI (na + j) - 1 = nI (na + j - 1) from pk_sub (b := 1) (by omega), z_ck (show na + j - 1 < P * R by omega) (by omega), z_rd S 20 (na + j - 1) (by omega), show na + j - 1 = na + (j - 1) by omega, (jB (j - 1) (by omega)).1, z_lt]
        by_cases c3 : (rb j).1 = (rb (j - 1)).1
        · have e3 : z_ki rb (j - 1) = z_ki rb j := by unfold z_ki; rw [c3]
          rw [if_neg (by simpa using c3), nI_1, z_lt, zx_max (by omega) (by omega), z_lt, nI_1, z_lt]
          refine step (cur + 1) (by omega) (by omega) (fun q a b => ?_) ?_
          · by_cases eq : q = j
            · rw [eq]
            · rw [k2 q (by omega) (by omega)]; exact e3
          · rcases k3 with z | z
            · left; omega
            · right
              rw [← e3, show j - (cur + 1) = j - cur - 1 by omega]; exact z
        · have e3 : z_ki rb (j - 1) ≠ z_ki rb j := fun y => c3 (Int32.toInt_inj.mp y.symm)
          rw [if_pos c3, m1, z_lt, nI_1, z_lt]
          exact step 1 (by omega) (by omega) (fun q a b => by rw [show q = j by omega]) (Or.inr e3)
theorem zx_largest {P R na nb room : Nat} {ra rb : Nat → z_Rec} {S : es_St} (hok : z_ok P R) (hn : na + nb ≤ P * R) (hr : 1 ≤ room) (hb : z_mon (z_ki rb) nb) (hJ : z_JX na nb ra rb S) :
    ∃ mx', f_X2_largestGroupOfB (es_NX P R) z_fu S = some (nI mx', S) ∧ mx' ≤ nb ∧ (mx' ≤ room ↔ z_fits (z_ki rb) nb room) := by
  have hPR := z_PR hok
  obtain ⟨mx', g1, g2⟩ := zx_large_loop (room := room) hok hn hr hb hJ z_fu 0 0 0 (by omega) (by have := z_fu_ge; omega) (by omega) (by omega) (fun h => absurd h (by omega)) ⟨fun _ q a => absurd a (by omega), fun _ => by omega⟩
  refine ⟨mx', ?_, g2⟩
  unfold f_X2_largestGroupOfB
  rw [hJ.1]
  exact g1
theorem z_pgs_fit {R T f : Nat} (hR : 0 < R) : z_pgs R T ≤ f ↔ T ≤ f * R := by
  constructor
  · intro h
    have := z_pgs_le hR (Nat.le_refl (z_pgs R T))
    exact Nat.le_trans this (Nat.mul_le_mul_right R h)
  · intro h
    unfold z_pgs
    have : T + R - 1 < (f + 1) * R := by rw [Nat.add_mul]; omega
    have := (Nat.div_lt_iff_lt_mul hR).mpr this
    omega
theorem zx_sortedPages {P R na nb : Nat} {ra rb : Nat → z_Rec} {S : es_St} (hok : z_ok P R) (hn : na + nb ≤ P * R) (h1 : S.1 1 = nI R) (hJ : z_JX na nb ra rb S) : f_X2_sortedPages (es_NX P R) z_fu S = some (nI (z_pgs R na + z_pgs R nb), S) := by
  have hPR := z_PR hok
  unfold f_X2_sortedPages
  rw [hJ.1, zx_pagesFor hok h1 (by omega), es_bd_s, hJ.1, hJ.2.1, pk_sub (by omega), show na + nb - na = nb by omega, zx_pagesFor hok h1 (by omega), es_bd_s, nI_add]
  rfl
theorem zx_pairsFit {P R na nb fc : Nat} {ra rb : Nat → z_Rec} {S : es_St} (hok : z_ok P R) (hn : na + nb ≤ P * R) (ha : z_mon (z_ki ra) na) (hb : z_mon (z_ki rb) nb) (h1 : S.1 1 = nI R) (h2 : S.1 2 = nI fc) (hfc : fc ≤ P) (hJ : z_JX na nb ra rb S) :
    ∃ S', z_keep [18, 19, 20, 21] [] S S' ∧ (z_B (z_ki ra) (z_ki rb) nb na ≤ (fc + (z_pgs R na + z_pgs R nb)) * R → f_X2_pairsFit (es_NX P R) z_fu S = some (1, S')) ∧ (¬ z_B (z_ki ra) (z_ki rb) nb na ≤ (fc + (z_pgs R na + z_pgs R nb)) * R → f_X2_pairsFit (es_NX P R) z_fu S = some (0, S')) := by
  have hPR := z_PR hok
  obtain ⟨a1, a2, a3, a4⟩ := id hok
  obtain ⟨S', g1, g2⟩ := zx_countPairs hok hn ha hb hJ
  have hBle : z_B (z_ki ra) (z_ki rb) nb na ≤ 8192 * 8192 := Nat.le_trans (z_B_le _ _ nb na) (Nat.mul_le_mul (by omega) (by omega))
  obtain ⟨j16, j17, jA, jB⟩ := hJ
  have hJ' : z_JX na nb ra rb S' := ⟨(g2.1 16 (by decide)).trans j16, (g2.1 17 (by decide)).trans j17, by rw [g2.2 20 (by decide), g2.2 21 (by decide)]; exact jA, by rw [g2.2 20 (by decide), g2.2 21 (by decide)]; exact jB⟩
  have h1' : S'.1 1 = nI R := (g2.1 1 (by decide)).trans h1
  have pl : ∀ m, m ≤ 8192 → z_pgs R m ≤ 8192 := fun m hm => by
    rw [z_pgs_fit (by omega)]
    exact Nat.le_trans hm (Nat.le_mul_of_pos_right _ (by omega))
  have p1 := pl na (by omega)
  have p2 := pl nb (by omega)
  have pT : z_pgs R (z_B (z_ki ra) (z_ki rb) nb na) ≤ 8192 * 8192 := by
    rw [z_pgs_fit (by omega)]
    exact Nat.le_trans hBle (Nat.le_mul_of_pos_right _ (by omega))
  have e : f_X2_pairsFit (es_NX P R) z_fu S = if fc + (z_pgs R na + z_pgs R nb) < z_pgs R (z_B (z_ki ra) (z_ki rb) nb na) then some (0, S') else some (1, S') := by
    unfold f_X2_pairsFit f_X0_freePages
    rw [g1, es_bd_s, zx_pagesFor hok h1' (by omega), es_bd_s, es_bd_s, zx_sortedPages hok hn h1' hJ', es_bd_s, g2.1 2 (by decide), h2, nI_add]
    rw [show (z_B (z_ki ra) (z_ki rb) nb na + R - 1) / R = z_pgs R (z_B (z_ki ra) (z_ki rb) nb na) from rfl]
    by_cases c : fc + (z_pgs R na + z_pgs R nb) < z_pgs R (z_B (z_ki ra) (z_ki rb) nb na)
    · rw [if_pos c, if_pos (nI_lt c (by omega))]
    · rw [if_neg c, if_neg (nI_nlt (by omega) (by omega))]
  rw [e]
  refine ⟨S', g2, fun h => ?_, fun h => ?_⟩
  · rw [← z_pgs_fit (by omega)] at h
    rw [if_neg (by omega)]
  · rw [← z_pgs_fit (by omega)] at h
    rw [if_pos (by omega)]
