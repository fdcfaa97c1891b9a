/-! ===== merging: a lane of a run, pages freed when read ===== -/
theorem z_pgs_next {R en n : Nat} (hR : 0 < R) (h0 : en % R = 0) (hn : en < n) : z_pgs R (if en + R < n then en + R else n) = z_pgs R en + 1 := by
  obtain ⟨q, s, s1, s2, s3, s4⟩ := z_split hR en
  rw [h0] at s4
  subst s4
  have e0 : z_pgs R en = q := by rw [s2, z_pgs_qs s1, if_pos rfl]
  by_cases c : en + R < n
  · rw [if_pos c, e0, show en + R = R * (q + 1) + 0 by rw [Nat.mul_add]; omega, z_pgs_qs hR, if_pos rfl]
  · rw [if_neg c, e0]
    by_cases c2 : n = en + R
    · rw [show n = R * (q + 1) + 0 by rw [Nat.mul_add]; omega, z_pgs_qs hR, if_pos rfl]
    · rw [show n = R * q + (n - en) by omega, z_pgs_qs (show n - en < R by omega), if_neg (by omega)]
theorem z_pgs_mod {R n : Nat} (hR : 0 < R) (h : n % R = 0) : z_pgs R n * R = n := by
  rw [z_pgs_div0 hR h, Nat.mul_comm]
  have := Nat.div_add_mod n R
  omega
theorem zx_readPage_end {P R ln : Nat} {S : es_St} {g : Nat → Nat} {rr : Nat → z_Rec} {n st t : Nat} (hl : ln < 15) (h : z_lane R S ln g rr n st n t) : f_X1_readPage (es_NX P R) z_fu S (nI ln) = some (-1, S) := by
  unfold f_X1_readPage
  rw [if_neg (nI_pos (by omega)), if_neg (show ¬ 15 ≤ nI ln from nI_ge (b := 15) hl (by decide)), zN27, z_ck hl (by decide), z_lt, z_rd _ _ _ (by omega), h.1, Nat.sub_self, if_neg (by decide)]
/-- a page comes into memory, and is free -/
theorem zx_pageIn {P R ln ch : Nat} {S : es_St} {pg : Nat → Nat → Nat} {rc : Nat → Nat → z_Rec} {lo hi : Nat → Nat} {fc n st en : Nat} (hok : z_ok P R) (hl : ln < 15) (hD : z_DI P R S pg rc lo hi fc) (h : z_lane R S ln (pg ch) (rc ch) n st en en) (hn : n < 2 ^ 30) (hen : en < n) (hlo : lo ch = z_pgs R en) (hhi : hi ch = z_pgs R n) :
    ∃ (p : Nat) (S1 S2 : es_St), f_X1_readPage (es_NX P R) z_fu S (nI ln) = some (nI p, S1) ∧ f_X0_release (es_NX P R) z_fu S1 (nI p) = some (0, S2) ∧ z_keep [2, 22] [13, 15, 24, 25, 26, 27, 28, 29] S S2 ∧ S2.1 22 = S.1 22 + 1 ∧ fc < P ∧ z_DI P R S2 pg rc (z_set1 lo ch (lo ch + 1)) hi (fc + 1) ∧ en % R = 0 ∧ z_lane R S2 ln (pg ch) (rc ch) n en (if en + R < n then en + R else n) en ∧ ∀ l, l ≠ ln → (S2.2 26 l = S.2 26 l ∧ S2.2 27 l = S.2 27 l ∧ S2.2 28 l = S.2 28 l ∧ S2.2 29 l = S.2 29 l) ∧ ∀ s, s < R → S2.2 24 (l * R + s) = S.2 24 (l * R + s) ∧ S2.2 25 (l * R + s) = S.2 25 (l * R + s) := by
  obtain ⟨d0, d1, dF, dC⟩ := id hD
  obtain ⟨a1, a2, a3, a4⟩ := id hok
  obtain ⟨q4, q5⟩ := h.2.2.2.1 hen
  have hi1 : en / R = lo ch := by rw [hlo, z_pgs_div0 (by omega) q5]
  have hi2 : en / R < hi ch := by rw [hhi]; exact z_pgs_lt (by omega) hen
  have hlive := dC.1 ch (en / R) (by omega) hi2
  have heR : en / R * R = en := by rw [← z_pgs_div0 (by omega) q5]; exact z_pgs_mod (by omega) q5
  obtain ⟨S1, g1, g2, g3, g4, g5⟩ := zx_readPage (p := pg ch (en / R)) hok hl d0 d1 h hn hen hlive.1 rfl (fun s hs => by
    have := dC.2.2.2.1 ch (en / R) s (by omega) hi2 hs
    rw [heR] at this
    exact this) (fun hx => dC.2.2.1 ch (en / R) (by omega) (by
      rw [hhi]
      have := z_pgs_lt (R := R) (by omega) hx
      rw [Nat.add_div_right _ (by omega)] at this
      exact this))
  have hD1 : z_DI P R S1 pg rc lo hi fc := z_DI_same hD ⟨g2.1 0 (by decide), g2.1 1 (by decide), g2.1 2 (by decide), g2.2 11 (by decide), g2.2 12 (by decide), g2.2 13 (by decide), g2.2 14 (by decide), g2.2 15 (by decide)⟩
  obtain ⟨d0', d1', dF', dC'⟩ := id hD1
  have ho : S1.2 13 (pg ch (en / R)) ≠ -1 := by rw [(dC'.1 ch (en / R) (by omega) hi2).2]; exact z_ow_m1 ch
  have hlt : fc < P := by rw [← dF'.2.2.2.2]; exact z_cnt_lt hlive.1 ho
  have kr : z_keep [2] [13, 15] S1 (z_rl S1 fc (pg ch (en / R))) := z_keep_trans (z_keep_trans (z_keep_w S1 13 _ _ (by simp)) (z_keep_w _ 15 _ _ (by simp))) (z_keep_F _ 2 _ (by simp))
  refine ⟨pg ch (en / R), S1, z_rl S1 fc (pg ch (en / R)), g1, zx_release hok d0' dF'.1 hlt hlive.1 ho, z_keep_trans (z_keep_mono g2 (by simp) (by simp)) (z_keep_mono kr (by simp) (by simp)), (kr.1 22 (by decide)).trans g3, hlt, ?_, q5, z_lane_same g4 (kr.2 24 (by decide)) (kr.2 25 (by decide)) (kr.2 26 (by decide)) (kr.2 27 (by decide)) (kr.2 28 (by decide)) (kr.2 29 (by decide)), fun l hne => ?_⟩
  · have hp31 : pg ch (en / R) < 2 ^ 31 := by have := hlive.1; omega
    refine z_DI_rel ch hD1 (by omega) (by omega) (kr.1 0 (by decide)) (kr.1 1 (by decide)) ?_ (kr.2 11 (by decide)) (kr.2 12 (by decide)) (fun q => ?_) (kr.2 14 (by decide)) (fun i => ?_)
    · unfold z_rl; rw [z_F1, if_pos rfl]
    · rw [z_rl13 _ _ _ hp31, hi1]
    · rw [z_rl15 _ _ _ (by omega), hi1]
  · obtain ⟨⟨u1, u2, u3, u4⟩, u5⟩ := g5 l hne
    rw [kr.2 24 (by decide), kr.2 25 (by decide), kr.2 26 (by decide), kr.2 27 (by decide), kr.2 28 (by decide), kr.2 29 (by decide)]
    exact ⟨⟨u1, u2, u3, u4⟩, u5⟩
/-- the next of a lane goes into its leaf -/
theorem zx_enterNext {P R ln w : Nat} {S : es_St} {g : Nat → Nat} {rr : Nat → z_Rec} {n st en t : Nat} (hok : z_ok P R) (hl : ln < 15) (h1 : S.1 1 = nI R) (h : z_lane R S ln g rr n st en t) (hn : n < 2 ^ 30) (hz : t < en ∨ t = n) (hw : w ≤ es_T R) (h32 : S.1 32 = nI w) (hlw : ln < w) (h33 : S.2 33 ln = nI ln ∨ t < n) :
    ∃ S', f_X5_enterNext (es_NX P R) z_fu S (nI ln) = some (0, S') ∧ z_keep [] [30, 31, 32, 33] S S' ∧ S'.2 33 ln = nI ln ∧ (t < n → S'.2 30 ln = nI 0 ∧ (S'.2 31 ln, S'.2 32 ln) = rr t) ∧ (t = n → S'.2 30 ln = nI 2147483647) ∧ ∀ l, l ≠ ln → S'.2 30 l = S.2 30 l ∧ S'.2 31 l = S.2 31 l ∧ S'.2 32 l = S.2 32 l ∧ S'.2 33 l = S.2 33 l := by
  have hT := es_TR hok.2.2
  have hl31 : ln < 2 ^ 31 := by omega
  unfold f_X5_enterNext
  rw [zx_hasMore hl h hn, es_bd_s]
  by_cases c : t < n
  · have ht : t < en := by omega
    obtain ⟨k1, k2⟩ := zx_lkey hok hl h1 h hn ht
    rw [if_pos c, if_neg (by decide), k1, es_bd_s, k2, es_bd_s, zx_enter hok hw h32 hlw, es_bd_s]
    refine ⟨_, rfl, z_keep_trans (z_keep_trans (z_keep_trans (z_keep_w _ 30 _ _ (by simp)) (z_keep_w _ 31 _ _ (by simp))) (z_keep_w _ 32 _ _ (by simp))) (z_keep_w _ 33 _ _ (by simp)), ?_, fun _ => ⟨?_, ?_⟩, fun e => absurd e (by omega), fun l hne => ⟨?_, ?_, ?_, ?_⟩⟩
    · rw [z_w2a _ _ _ _ hl31, if_pos rfl]
    · rw [z_w2b _ _ _ (by decide), z_w2b _ _ _ (by decide), z_w2b _ _ _ (by decide), z_w2a _ _ _ _ hl31, if_pos rfl]; rfl
    · rw [z_w2b _ _ _ (by decide), z_w2b _ _ _ (by decide), z_w2a _ _ _ _ hl31, if_pos rfl, z_w2b _ _ _ (by decide), z_w2a _ _ _ _ hl31, if_pos rfl]
    · rw [z_w2b _ _ _ (by decide), z_w2b _ _ _ (by decide), z_w2b _ _ _ (by decide), z_w2a _ _ _ _ hl31, if_neg hne]
    · rw [z_w2b _ _ _ (by decide), z_w2b _ _ _ (by decide), z_w2a _ _ _ _ hl31, if_neg hne, z_w2b _ _ _ (by decide)]
    · rw [z_w2b _ _ _ (by decide), z_w2a _ _ _ _ hl31, if_neg hne, z_w2b _ _ _ (by decide), z_w2b _ _ _ (by decide)]
    · rw [z_w2a _ _ _ _ hl31, if_neg hne, z_w2b _ _ _ (by decide), z_w2b _ _ _ (by decide), z_w2b _ _ _ (by decide)]
  · rw [if_neg c, if_pos rfl, zx_retire hok hw h32 hlw, es_bd_s]
    refine ⟨_, rfl, z_keep_w _ 30 _ _ (by simp), ?_, fun e => absurd e c, fun _ => ?_, fun l hne => ⟨?_, ?_, ?_, ?_⟩⟩
    · rw [z_w2b _ _ _ (by decide)]; exact h33.resolve_right c
    · rw [z_w2a _ _ _ _ hl31, if_pos rfl]
    · rw [z_w2a _ _ _ _ hl31, if_neg hne]
    · rw [z_w2b _ _ _ (by decide)]
    · rw [z_w2b _ _ _ (by decide)]
    · rw [z_w2b _ _ _ (by decide)]
/-- lane l, on the run in chain c: t of n are taken; its leaf -/
def z_LN (R : Nat) (SX : es_St) (pg : Nat → Nat → Nat) (rc : Nat → Nat → z_Rec) (lo hi : Nat → Nat) (c n t l : Nat) : Prop :=
  (∃ st en, z_lane R SX l (pg c) (rc c) n st en t ∧ st % R = 0 ∧ (t < en ∨ (t = n ∧ en = n)) ∧ lo c = z_pgs R en) ∧ hi c = z_pgs R n ∧ t ≤ n ∧ SX.2 33 l = nI l ∧ (t < n → SX.2 30 l = nI 0 ∧ (SX.2 31 l, SX.2 32 l) = rc c t) ∧ (t = n → SX.2 30 l = nI 2147483647)
/-- what the reference chooses -/
def z_mj (md : Int32) (r : z_Rec) (l : Nat) : z_I4 := (0, z_kk md r.1, z_tt md r.2, (l : Int))
theorem zm_leastOf_loop {w : Nat} {md : Int32} {S : es_St} {n t qs : Nat → Nat} {rr : Nat → Nat → z_Rec} (hw : w ≤ 15) (hmd : S.1 13 = md) (hp : ∀ l, l < w → S.2 15 l = nI (qs l + t l) ∧ S.2 16 l = nI (qs l + n l) ∧ qs l + n l ≤ 16384 ∧ t l ≤ n l ∧ ∀ j, j < n l → (S.2 4 (qs l + j), S.2 5 (qs l + j)) = rr l j) : ∀ (fu k : Nat) (x : Int32), k ≤ w → w - k < fu → ((x = -1 ∧ ∀ q, q < k → t q = n q) ∨ ∃ b, b < k ∧ x = nI b ∧ t b < n b ∧ ∀ q, q < k → t q < n q → q ≠ b → z_l4 (z_mj md (rr b (t b)) b) (z_mj md (rr q (t q)) q)) →
    ∃ r, f_X8_leastOf_4 es_NM z_fu fu (nI w) x (nI k) S = some (r, S) ∧ ((r = -1 ∧ ∀ q, q < w → t q = n q) ∨ ∃ b, b < w ∧ r = nI b ∧ t b < n b ∧ ∀ q, q < w → t q < n q → q ≠ b → z_l4 (z_mj md (rr b (t b)) b) (z_mj md (rr q (t q)) q)) := by
  intro fu
  induction fu with
  | zero => intro k x _ hf; exact absurd hf (by omega)
  | succ fu ih =>
    intro k x hk hf hx
    rw [f_X8_leastOf_4]
    by_cases e : k = w
    · subst e
      rw [if_pos (nI_le (Nat.le_refl _) (by omega))]
      exact ⟨x, rfl, hx⟩
    · have hkw : k < w := by omega
      obtain ⟨p1, p2, p3, p4, p5⟩ := hp k hkw
      have v15 : ∀ l, l < w → vp_in (nI l) (es_NM 15) := fun l hl => vp_in_nI (N := es_NM 15) (show l < 16 by omega) (by decide)
      have v16 : ∀ l, l < w → vp_in (nI l) (es_NM 16) := fun l hl => vp_in_nI (N := es_NM 16) (show l < 16 by omega) (by decide)
      have v4 : ∀ i, i < 16384 → vp_in (nI i) (es_NM 4) := fun i hi => vp_in_nI (N := es_NM 4) (show i < 16384 by omega) (by decide)
      have v5 : ∀ i, i < 16384 → vp_in (nI i) (es_NM 5) := fun i hi => vp_in_nI (N := es_NM 5) (show i < 16384 by omega) (by decide)
      have r15 : es_rd S 15 (nI k) = nI (qs k + t k) := by rw [z_rd _ _ _ (by omega), p1]
      have r16 : es_rd S 16 (nI k) = nI (qs k + n k) := by rw [z_rd _ _ _ (by omega), p2]
      rw [if_neg (nI_ge hkw (by omega)), es_ck_t (v15 k hkw), r15, z_lt, es_ck_t (v16 k hkw), r16, z_lt]
      by_cases c : t k = n k
      · rw [if_pos (nI_le (by omega) (by omega)), z_lt, nI_1]
        refine ih (k + 1) x (by omega) (by omega) ?_
        rcases hx with ⟨hx1, hall⟩ | ⟨b, hb, hx1, hb0, hbest⟩
        · refine Or.inl ⟨hx1, fun q hq => ?_⟩
          by_cases ek : q = k
          · rw [ek]; exact c
          · exact hall q (by omega)
        · refine Or.inr ⟨b, by omega, hx1, hb0, fun q hq hq0 hqb => ?_⟩
          by_cases ek : q = k
          · rw [ek] at hq0; omega
          · exact hbest q (by omega) hq0 hqb
      · have hlt : t k < n k := by omega
        rw [if_neg (nI_ge (show qs k + t k < qs k + n k by omega) (by omega))]
        rcases hx with ⟨rfl, hall⟩ | ⟨b, hb, rfl, hb0, hbest⟩
        · rw [if_pos (by decide), z_lt, nI_1]
          exact ih (k + 1) (nI k) (by omega) (by omega) (Or.inr ⟨k, by omega, rfl, hlt, fun q hq hq0 hqk => absurd (hall q (by omega)) (by omega)⟩)
        · obtain ⟨b1, b2, b3, b4, b5⟩ := hp b (by omega)
          have ek : S.2 4 (qs k + t k) = (rr k (t k)).1 ∧ S.2 5 (qs k + t k) = (rr k (t k)).2 := by rw [← p5 (t k) hlt]; exact ⟨rfl, rfl⟩
          have eb : S.2 4 (qs b + t b) = (rr b (t b)).1 ∧ S.2 5 (qs b + t b) = (rr b (t b)).2 := by rw [← b5 (t b) hb0]; exact ⟨rfl, rfl⟩
          have rb15 : es_rd S 15 (nI b) = nI (qs b + t b) := by rw [z_rd _ _ _ (by omega), b1]
          have rk4 : es_rd S 4 (nI (qs k + t k)) = (rr k (t k)).1 := by rw [z_rd _ _ _ (by omega), ek.1]
          have rk5 : es_rd S 5 (nI (qs k + t k)) = (rr k (t k)).2 := by rw [z_rd _ _ _ (by omega), ek.2]
          have rb4 : es_rd S 4 (nI (qs b + t b)) = (rr b (t b)).1 := by rw [z_rd _ _ _ (by omega), eb.1]
          have rb5 : es_rd S 5 (nI (qs b + t b)) = (rr b (t b)).2 := by rw [z_rd _ _ _ (by omega), eb.2]
          rw [if_neg (nI_pos (by omega)), es_ck_t (v15 k hkw), z_lt, es_ck_t (v4 _ (by omega)), z_lt, rk4, es_ck_t (v15 k hkw), z_lt, es_ck_t (v5 _ (by omega)), z_lt, rk5, es_ck_t (v15 b (by omega)), rb15, z_lt, es_ck_t (v4 _ (by omega)), z_lt, rb4, es_ck_t (v15 b (by omega)), z_lt, es_ck_t (v5 _ (by omega)), z_lt, rb5]
          have a1 := zm_isAhead (N := es_NM) (fu := z_fu) (S := S) hmd (rr k (t k)).1 (rr k (t k)).2 (rr b (t b)).1 (rr b (t b)).2
          by_cases c1 : z_ah md (rr k (t k)) (rr b (t b))
          · rw [a1.1 c1, es_bd_s, if_neg (by decide), z_lt, nI_1]
            have hkb : z_l4 (z_mj md (rr k (t k)) k) (z_mj md (rr b (t b)) b) := by
              unfold z_ah at c1; unfold z_l4 z_mj; dsimp only at c1 ⊢; omega
            refine ih (k + 1) (nI k) (by omega) (by omega) (Or.inr ⟨k, by omega, rfl, hlt, fun q hq hq0 hqk => ?_⟩)
            by_cases eqb : q = b
            · rw [eqb]; exact hkb
            · exact z_l4_tr hkb (hbest q (by omega) hq0 eqb)
          · rw [a1.2 c1, es_bd_s, if_pos rfl, z_lt, nI_1]
            have hbk : z_l4 (z_mj md (rr b (t b)) b) (z_mj md (rr k (t k)) k) := by
              unfold z_ah at c1; unfold z_l4 z_mj; dsimp only at c1 ⊢; omega
            refine ih (k + 1) (nI b) (by omega) (by omega) (Or.inr ⟨b, by omega, rfl, hb0, fun q hq hq0 hqb => ?_⟩)
            by_cases eqk : q = k
            · rw [eqk]; exact hbk
            · exact hbest q (by omega) hq0 hqb
theorem zm_leastOf {w : Nat} {md : Int32} {S : es_St} {n t qs : Nat → Nat} {rr : Nat → Nat → z_Rec} (hw : w ≤ 15) (hmd : S.1 13 = md) (hp : ∀ l, l < w → S.2 15 l = nI (qs l + t l) ∧ S.2 16 l = nI (qs l + n l) ∧ qs l + n l ≤ 16384 ∧ t l ≤ n l ∧ ∀ j, j < n l → (S.2 4 (qs l + j), S.2 5 (qs l + j)) = rr l j) :
    ∃ r, f_X8_leastOf es_NM z_fu S (nI w) = some (r, S) ∧ ((r = -1 ∧ ∀ q, q < w → t q = n q) ∨ ∃ b, b < w ∧ r = nI b ∧ t b < n b ∧ ∀ q, q < w → t q < n q → q ≠ b → z_l4 (z_mj md (rr b (t b)) b) (z_mj md (rr q (t q)) q)) :=
  zm_leastOf_loop hw hmd hp z_fu 0 (-1) (by omega) (by have := z_fu_ge; omega) (Or.inl ⟨rfl, fun q hq => absurd hq (by omega)⟩)
