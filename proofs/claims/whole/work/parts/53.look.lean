/-! ===== join: both copy what they sorted ===== -/
theorem z_nexts {R j : Nat} (hR : 0 < R) : (j % R + 1 = R → (j + 1) / R = j / R + 1 ∧ (j + 1) % R = 0) ∧ (j % R + 1 ≠ R → (j + 1) / R = j / R ∧ (j + 1) % R = j % R + 1) := by
  obtain ⟨q, s, s1, s2, s3, s4⟩ := z_split hR j
  rw [s3, s4]
  refine ⟨fun h => ?_, fun h => ?_⟩
  · rw [show j + 1 = R * (q + 1) + 0 by rw [Nat.mul_add]; omega]
    exact ⟨z_dv hR, z_md hR⟩
  · rw [show j + 1 = R * q + (s + 1) by omega]
    exact ⟨z_dv (by omega), z_md (by omega)⟩
theorem zx_look_loop {P R ch n o : Nat} {pg : Nat → Nat → Nat} {rc : Nat → Nat → z_Rec} {lo hi : Nat → Nat} {fc : Nat} (hok : z_ok P R) (hlo : lo ch = 0) (hhi : hi ch = z_pgs R n) (hn : o + n ≤ P * R) : ∀ (fu j : Nat) (S : es_St) (x5 x6 : Int32), j ≤ n → n - j < fu → z_DI P R S pg rc lo hi fc → (j < n → x5 = nI (pg ch (j / R)) ∧ x6 = nI (j % R)) →
    ∃ S', f_X2_copy_22 (es_NX P R) z_fu fu (nI (o + n)) x5 x6 (nI (o + j)) S = some (nI (o + n), S') ∧ z_keep [] [20, 21] S S' ∧ (∀ i, j ≤ i → i < n → S'.2 20 (o + i) = (rc ch i).1 ∧ S'.2 21 (o + i) = (rc ch i).2) ∧ ∀ i, i < o + j → S'.2 20 i = S.2 20 i ∧ S'.2 21 i = S.2 21 i := by
  have hPR := z_PR hok
  obtain ⟨a1, a2, a3, a4⟩ := id hok
  intro fu
  induction fu with
  | zero => intro j S x5 x6 _ h; exact absurd h (by omega)
  | succ fu ih =>
    intro j S x5 x6 hj hf hD hx
    rw [f_X2_copy_22]
    by_cases e : j = n
    · subst e
      rw [if_pos (nI_le (Nat.le_refl _) (by omega))]
      exact ⟨S, rfl, z_keep_rfl, fun i h1 h2 => absurd h2 (by omega), fun _ _ => ⟨rfl, rfl⟩⟩
    · have hjn : j < n := by omega
      obtain ⟨d0, d1, dF, dC⟩ := id hD
      obtain ⟨rfl, rfl⟩ := hx hjn
      have hpg : j / R < hi ch := by rw [hhi]; exact z_pgs_lt (by omega) hjn
      have hlive := (dC.1 ch (j / R) (by rw [hlo]; exact Nat.zero_le _) hpg).1
      have hmod := Nat.mod_lt j (show R > 0 by omega)
      have hcont := dC.2.2.2.1 ch (j / R) (j % R) (by rw [hlo]; exact Nat.zero_le _) hpg hmod
      rw [show j / R * R + j % R = j by rw [Nat.mul_comm]; exact Nat.div_add_mod _ _] at hcont
      obtain ⟨S1, hS1⟩ : ∃ S1 : es_St, S1 = es_wr (es_wr S 20 (nI (o + j)) (rc ch j).1) 21 (nI (o + j)) (rc ch j).2 := ⟨_, rfl⟩
      have k1 : z_keep [] [20, 21] S S1 := by rw [hS1]; exact z_keep_trans (z_keep_w _ 20 _ _ (by simp)) (z_keep_w _ 21 _ _ (by simp))
      have e20 : ∀ i, S1.2 20 i = if i = o + j then (rc ch j).1 else S.2 20 i := fun i => by rw [hS1, z_w2b _ _ _ (by decide), z_w2a _ _ _ _ (by omega)]
      have e21 : ∀ i, S1.2 21 i = if i = o + j then (rc ch j).2 else S.2 21 i := fun i => by rw [hS1, z_w2a _ _ _ _ (by omega), z_w2b _ _ _ (by decide)]
      have hD1 : z_DI P R S1 pg rc lo hi fc := z_DI_same hD ⟨k1.1 0 (by decide), k1.1 1 (by decide), k1.1 2 (by decide), k1.2 11 (by decide), k1.2 12 (by decide), k1.2 13 (by decide), k1.2 14 (by decide), k1.2 15 (by decide)⟩
      have fin : ∀ x5' x6' : Int32, (j + 1 < n → x5' = nI (pg ch ((j + 1) / R)) ∧ x6' = nI ((j + 1) % R)) → ∃ S', f_X2_copy_22 (es_NX P R) z_fu fu (nI (o + n)) x5' x6' (nI (o + (j + 1))) S1 = some (nI (o + n), S') ∧ z_keep [] [20, 21] S S' ∧ (∀ i, j ≤ i → i < n → S'.2 20 (o + i) = (rc ch i).1 ∧ S'.2 21 (o + i) = (rc ch i).2) ∧ ∀ i, i < o + j → S'.2 20 i = S.2 20 i ∧ S'.2 21 i = S.2 21 i := fun x5' x6' h' => by
        obtain ⟨S', g1, g2, g3, g4⟩ := ih (j + 1) S1 x5' x6' (by omega) (by omega) hD1 h'
        refine ⟨S', g1, z_keep_trans k1 g2, fun i h1 h2 => ?_, fun i hi' => ?_⟩
        · by_cases ei : i = j
          · subst ei
            obtain ⟨y1, y2⟩ := g4 (o + i) (by omega)
            rw [y1, y2, e20, e21, if_pos rfl, if_pos rfl]; exact ⟨rfl, rfl⟩
          · exact g3 i (by omega) h2
        · obtain ⟨y1, y2⟩ := g4 i (by omega)
          rw [y1, y2, e20, e21, if_neg (by omega), if_neg (by omega)]; exact ⟨rfl, rfl⟩
      rw [if_neg (nI_ge (show o + j < o + n by omega) (by omega)), zx_keyAt hok d0 d1 hlive hmod, es_bd_s, hcont.1, zN20, z_ck (show o + j < P * R by omega) (by omega), z_lt, zx_tagAt hok (by rw [z_w1]; exact d0) (by rw [z_w1]; exact d1) hlive hmod, es_bd_s, z_w2b _ _ _ (by decide), hcont.2, zN21, z_ck (show o + j < P * R by omega) (by omega), z_lt, ← hS1, nI_1, z_lt, k1.1 1 (by decide), d1, nI_1]
      by_cases c : j % R + 1 = R
      · obtain ⟨n1, n2⟩ := (z_nexts (R := R) (j := j) (by omega)).1 c
        rw [if_neg (by rw [c]; simp), zx_nextOf hok hD1.1 hlive, es_bd_s, z_lt]
        refine fin _ _ (fun h1 => ?_)
        rw [n1, n2]
        refine ⟨?_, rfl⟩
        rw [k1.2 14 (by decide)]
        refine dC.2.2.1 ch (j / R) (by rw [hlo]; exact Nat.zero_le _) ?_
        rw [hhi, ← n1]; exact z_pgs_lt (by omega) h1
      · obtain ⟨n1, n2⟩ := (z_nexts (R := R) (j := j) (by omega)).2 c
        rw [if_pos (fun y => c ((nI_eq (by omega) (by omega)).mp y)), z_lt]
        refine fin _ _ (fun h1 => ?_)
        rw [n1, n2]; exact ⟨rfl, rfl⟩
theorem zx_look {P R ca cb na nb : Nat} {S : es_St} {ha hb : Int32} {pg : Nat → Nat → Nat} {rc : Nat → Nat → z_Rec} {lo hi : Nat → Nat} {fc : Nat} (hok : z_ok P R) (hD : z_DI P R S pg rc lo hi fc) (hla : lo ca = 0) (hhia : hi ca = z_pgs R na) (hlb : lo cb = 0) (hhib : hi cb = z_pgs R nb) (hn : na + nb ≤ P * R) (hha : 0 < na → ha = nI (pg ca 0)) (hhb : 0 < nb → hb = nI (pg cb 0)) :
    ∃ S', f_X2_look (es_NX P R) z_fu S ha (nI na) hb (nI nb) = some (0, S') ∧ z_keep [16, 17] [20, 21] S S' ∧ S'.1 16 = nI na ∧ S'.1 17 = nI (na + nb) ∧ (∀ i, i < na → S'.2 20 i = (rc ca i).1 ∧ S'.2 21 i = (rc ca i).2) ∧ ∀ j, j < nb → S'.2 20 (na + j) = (rc cb j).1 ∧ S'.2 21 (na + j) = (rc cb j).2 := by
  have hPR := z_PR hok
  have hfu := z_fu_ge
  obtain ⟨S1, g1, g2, g3, g4⟩ := zx_look_loop (ch := ca) (n := na) (o := 0) hok hla hhia (by omega) z_fu 0 S ha 0 (by omega) (by omega) hD (fun h => by rw [Nat.zero_div, Nat.zero_mod]; exact ⟨hha h, rfl⟩)
  obtain ⟨S2, hS2⟩ : ∃ S2 : es_St, S2 = es_F S1 16 (nI na) := ⟨_, rfl⟩
  have k2 : z_keep [16] [] S1 S2 := by rw [hS2]; exact z_keep_F _ 16 _ (by simp)
  have hD2 : z_DI P R S2 pg rc lo hi fc := z_DI_same hD ⟨by rw [k2.1 0 (by decide), g2.1 0 (by decide)], by rw [k2.1 1 (by decide), g2.1 1 (by decide)], by rw [k2.1 2 (by decide), g2.1 2 (by decide)], by rw [k2.2 11 (by decide), g2.2 11 (by decide)], by rw [k2.2 12 (by decide), g2.2 12 (by decide)], by rw [k2.2 13 (by decide), g2.2 13 (by decide)], by rw [k2.2 14 (by decide), g2.2 14 (by decide)], by rw [k2.2 15 (by decide), g2.2 15 (by decide)]⟩
  obtain ⟨S3, j1, j2, j3, j4⟩ := zx_look_loop (ch := cb) (n := nb) (o := na) hok hlb hhib (by omega) z_fu 0 S2 hb 0 (by omega) (by omega) hD2 (fun h => by rw [Nat.zero_div, Nat.zero_mod]; exact ⟨hhb h, rfl⟩)
  have hmin : ∀ x : Nat, x ≤ P * R → (if nI (P * R) < nI x then nI (P * R) else nI x) = nI x := fun x hx => if_neg (nI_nlt hx (by omega))
  rw [Nat.zero_add] at g1
  refine ⟨es_F S3 17 (nI (na + nb)), ?_, z_keep_trans (z_keep_mono g2 (by decide) (by decide)) (z_keep_trans (z_keep_mono k2 (by decide) (by decide)) (z_keep_trans (z_keep_mono j2 (by decide) (by decide)) (z_keep_F _ 17 _ (by simp)))), ?_, by rw [z_F1, if_pos rfl], fun i hi => ?_, fun j hj => ?_⟩
  · unfold f_X2_look f_X2_copy
    rw [zN20, zl0, nI_add, Nat.zero_add, hmin na (by omega), z_lt, show f_X2_copy_22 (es_NX P R) z_fu z_fu (nI na) ha (nI 0) (nI 0) S = _ from g1, es_bd_s, z_lt, ← hS2, show S2.1 16 = nI na by rw [hS2, z_F1, if_pos rfl], nI_add, hmin (na + nb) hn, z_lt, show f_X2_copy_22 (es_NX P R) z_fu z_fu (nI (na + nb)) hb (nI 0) (nI na) S2 = _ from j1, es_bd_s, z_lt]
  · rw [z_F1, if_neg (by decide), j2.1 16 (by decide), hS2, z_F1, if_pos rfl]
  · obtain ⟨y1, y2⟩ := j4 i (by omega)
    have := g3 i (by omega) hi
    rw [Nat.zero_add] at this
    rw [z_F2, y1, y2, k2.2 20 (by decide), k2.2 21 (by decide)]
    exact this
  · rw [z_F2]; exact j3 j (by omega) hj
/-- the reference's copies -/
theorem zm_left_loop {hr v : Nat} {x2 x3 x4 x5 : Int32} (hhr : hr ≤ 8192) (hv : v ≤ 8192) : ∀ (fu d : Nat) (S : es_St), d ≤ v → v - d < fu → S.1 9 = nI hr →
    ∃ S1, f_X8_join_58 es_NM z_fu fu x2 x3 x4 x5 (nI v) (nI d) S = (if S1.1 8 = 0 then es_bd (f_X8_sorted es_NM z_fu S1 x2 x4 0 0) fun r25 S26 => f_X8_join_134 es_NM z_fu z_fu x3 x4 x5 (nI v) r25 0 S26 else f_X8_join_134 es_NM z_fu z_fu x3 x4 x5 (nI v) 0 0 S1) ∧ z_keep [] [17, 18] S S1 ∧ (∀ j, d ≤ j → j < v → S1.2 17 j = S.2 4 (hr + j) ∧ S1.2 18 j = S.2 5 (hr + j)) ∧ ∀ i, i < d → S1.2 17 i = S.2 17 i ∧ S1.2 18 i = S.2 18 i := by
  intro fu
  induction fu with
  | zero => intro d S _ h; exact absurd h (by omega)
  | succ fu ih =>
    intro d S hd hf h9
    rw [f_X8_join_58]
    by_cases e : d = v
    · subst e
      rw [if_pos (nI_le (Nat.le_refl _) (by omega))]
      exact ⟨S, rfl, z_keep_rfl, fun j h1 h2 => absurd h2 (by omega), fun _ _ => ⟨rfl, rfl⟩⟩
    · obtain ⟨S1, hS1⟩ : ∃ S1 : es_St, S1 = es_wr (es_wr S 17 (nI d) (S.2 4 (hr + d))) 18 (nI d) (S.2 5 (hr + d)) := ⟨_, rfl⟩
      have e1 : ∀ i, S1.2 17 i = if i = d then S.2 4 (hr + d) else S.2 17 i := fun i => by rw [hS1, z_w2b _ _ _ (by decide), z_w2a _ _ _ _ (by omega)]
      have e2 : ∀ i, S1.2 18 i = if i = d then S.2 5 (hr + d) else S.2 18 i := fun i => by rw [hS1, z_w2a _ _ _ _ (by omega), z_w2b _ _ _ (by decide)]
      have k1 : z_keep [] [17, 18] S S1 := by rw [hS1]; exact z_keep_trans (z_keep_w _ 17 _ _ (by simp)) (z_keep_w _ 18 _ _ (by simp))
      rw [if_neg (nI_ge (show d < v by omega) (by omega)), h9, nI_add, es_ck_t (vp_in_nI (N := es_NM 4) (show hr + d < 16384 by omega) (by decide)), z_rd S 4 (hr + d) (by omega), z_lt, es_ck_t (vp_in_nI (N := es_NM 17) (show d < 8192 by omega) (by decide)), z_lt, z_w1, h9, nI_add, es_ck_t (vp_in_nI (N := es_NM 5) (show hr + d < 16384 by omega) (by decide)), z_rd _ 5 (hr + d) (by omega), z_w2b _ _ _ (by decide), z_lt, es_ck_t (vp_in_nI (N := es_NM 18) (show d < 8192 by omega) (by decide)), z_lt, ← hS1, nI_1, z_lt]
      obtain ⟨S', g1, g2, g3, g4⟩ := ih (d + 1) S1 (by omega) (by omega) ((k1.1 9 (by decide)).trans h9)
      refine ⟨S', g1, z_keep_trans k1 g2, fun j h1 h2 => ?_, fun i hi => ?_⟩
      · by_cases ej : j = d
        · subst ej
          obtain ⟨y1, y2⟩ := g4 j (by omega)
          rw [y1, y2, e1, e2, if_pos rfl, if_pos rfl]; exact ⟨rfl, rfl⟩
        · obtain ⟨y1, y2⟩ := g3 j (by omega) h2
          rw [y1, y2, k1.2 4 (by decide), k1.2 5 (by decide)]; exact ⟨rfl, rfl⟩
      · obtain ⟨y1, y2⟩ := g4 i (by omega)
        rw [y1, y2, e1, e2, if_neg (by omega), if_neg (by omega)]; exact ⟨rfl, rfl⟩
theorem zm_right_loop {hr v : Nat} {x3 x4 x5 x6 : Int32} (hhr : hr ≤ 8192) (hv : v ≤ 8192) : ∀ (fu d : Nat) (S : es_St), d ≤ v → v - d < fu → S.1 9 = nI hr →
    ∃ S1, f_X8_join_134 es_NM z_fu fu x3 x4 x5 x6 (nI v) (nI d) S = (if S1.1 8 = 0 then es_bd (f_X8_joined es_NM z_fu S1 x6 (nI v) x5 ((x4 - 2) * (S1.1 1))) fun r30 S31 => f_X8_join_216 es_NM z_fu x3 x5 x6 (nI v) r30 S31 else f_X8_join_216 es_NM z_fu x3 x5 x6 (nI v) (-2) S1) ∧ z_keep [] [19, 20] S S1 ∧ (∀ j, d ≤ j → j < v → S1.2 19 j = S.2 4 (hr + j) ∧ S1.2 20 j = S.2 5 (hr + j)) ∧ ∀ i, i < d → S1.2 19 i = S.2 19 i ∧ S1.2 20 i = S.2 20 i := by
  intro fu
  induction fu with
  | zero => intro d S _ h; exact absurd h (by omega)
  | succ fu ih =>
    intro d S hd hf h9
    rw [f_X8_join_134]
    by_cases e : d = v
    · subst e
      rw [if_pos (nI_le (Nat.le_refl _) (by omega))]
      exact ⟨S, rfl, z_keep_rfl, fun j h1 h2 => absurd h2 (by omega), fun _ _ => ⟨rfl, rfl⟩⟩
    · obtain ⟨S1, hS1⟩ : ∃ S1 : es_St, S1 = es_wr (es_wr S 19 (nI d) (S.2 4 (hr + d))) 20 (nI d) (S.2 5 (hr + d)) := ⟨_, rfl⟩
      have e1 : ∀ i, S1.2 19 i = if i = d then S.2 4 (hr + d) else S.2 19 i := fun i => by rw [hS1, z_w2b _ _ _ (by decide), z_w2a _ _ _ _ (by omega)]
      have e2 : ∀ i, S1.2 20 i = if i = d then S.2 5 (hr + d) else S.2 20 i := fun i => by rw [hS1, z_w2a _ _ _ _ (by omega), z_w2b _ _ _ (by decide)]
      have k1 : z_keep [] [19, 20] S S1 := by rw [hS1]; exact z_keep_trans (z_keep_w _ 19 _ _ (by simp)) (z_keep_w _ 20 _ _ (by simp))
      rw [if_neg (nI_ge (show d < v by omega) (by omega)), h9, nI_add, es_ck_t (vp_in_nI (N := es_NM 4) (show hr + d < 16384 by omega) (by decide)), z_rd S 4 (hr + d) (by omega), z_lt, es_ck_t (vp_in_nI (N := es_NM 19) (show d < 8192 by omega) (by decide)), z_lt, z_w1, h9, nI_add, es_ck_t (vp_in_nI (N := es_NM 5) (show hr + d < 16384 by omega) (by decide)), z_rd _ 5 (hr + d) (by omega), z_w2b _ _ _ (by decide), z_lt, es_ck_t (vp_in_nI (N := es_NM 20) (show d < 8192 by omega) (by decide)), z_lt, ← hS1, nI_1, z_lt]
      obtain ⟨S', g1, g2, g3, g4⟩ := ih (d + 1) S1 (by omega) (by omega) ((k1.1 9 (by decide)).trans h9)
      refine ⟨S', g1, z_keep_trans k1 g2, fun j h1 h2 => ?_, fun i hi => ?_⟩
      · by_cases ej : j = d
        · subst ej
          obtain ⟨y1, y2⟩ := g4 j (by omega)
          rw [y1, y2, e1, e2, if_pos rfl, if_pos rfl]; exact ⟨rfl, rfl⟩
        · obtain ⟨y1, y2⟩ := g3 j (by omega) h2
          rw [y1, y2, k1.2 4 (by decide), k1.2 5 (by decide)]; exact ⟨rfl, rfl⟩
      · obtain ⟨y1, y2⟩ := g4 i (by omega)
        rw [y1, y2, e1, e2, if_neg (by omega), if_neg (by omega)]; exact ⟨rfl, rfl⟩
