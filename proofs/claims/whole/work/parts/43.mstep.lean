/-! ===== merging: a turn ===== -/
theorem z_pageEnd {R st en t n : Nat} (hR : 0 < R) (h0 : st % R = 0) (h1 : st ≤ t) (h2 : t < en) (h3 : en ≤ st + R) (h4 : en ≤ n) (h5 : en < n → en % R = 0) : (t + 1 < n ∧ (t + 1) % R = 0) ↔ (t + 1 = en ∧ en < n) := by
  constructor
  · intro ⟨a, b⟩
    have e : t + 1 = en := by
      rcases Nat.lt_or_ge (t + 1) (st + R) with z | z
      · exfalso
        have e1 := Nat.div_add_mod st R
        have e2 := Nat.div_add_mod (t + 1) R
        rw [h0] at e1
        rw [b] at e2
        have hlt : st / R < (t + 1) / R := by
          rcases Nat.lt_or_ge (st / R) ((t + 1) / R) with y | y
          · exact y
          · have := Nat.mul_le_mul_left R y; omega
        have := Nat.mul_le_mul_left R (show st / R + 1 ≤ (t + 1) / R from hlt)
        rw [Nat.mul_add] at this
        omega
      · omega
    exact ⟨e, by omega⟩
  · intro ⟨a, b⟩
    exact ⟨by omega, by rw [a]; exact h5 b⟩
/-- the lane of the winner goes on -/
theorem zx_mstep {P R l ch n t : Nat} {SX : es_St} {pg : Nat → Nat → Nat} {rc : Nat → Nat → z_Rec} {lo hi : Nat → Nat} {fc : Nat} (hok : z_ok P R) (hl : l < 15) (hD : z_DI P R SX pg rc lo hi fc) (hL : z_LN R SX pg rc lo hi ch n t l) (ht : t < n) (hn : n ≤ 8192) :
    ∃ (S2 : es_St) (lo2 : Nat → Nat) (fc2 : Nat), (∀ K : es_St → Option (Int32 × es_St), (es_bd (f_X1_step (es_NX P R) z_fu SX (nI l)) fun _ S25 => es_bd (f_X1_isUsedUp (es_NX P R) z_fu S25 (nI l)) fun r27 S28 => if r27 = 0 then K S28 else es_bd (f_X1_readPage (es_NX P R) z_fu S28 (nI l)) fun r42 S43 => es_bd (f_X0_release (es_NX P R) z_fu S43 r42) fun _ S46 => K S46) = K S2) ∧ z_keep [2, 22] [13, 15, 24, 25, 26, 27, 28, 29] SX S2 ∧
      ((t + 1 < n ∧ (t + 1) % R = 0 ∧ S2.1 22 = SX.1 22 + 1 ∧ fc2 = fc + 1 ∧ fc < P) ∨ (¬ (t + 1 < n ∧ (t + 1) % R = 0) ∧ S2.1 22 = SX.1 22 ∧ fc2 = fc)) ∧ z_DI P R S2 pg rc lo2 hi fc2 ∧ (∀ c', c' ≠ ch → lo2 c' = lo c') ∧ (∃ st en, z_lane R S2 l (pg ch) (rc ch) n st en (t + 1) ∧ st % R = 0 ∧ (t + 1 < en ∨ (t + 1 = n ∧ en = n)) ∧ lo2 ch = z_pgs R en) ∧
      ∀ l', l' ≠ l → (S2.2 26 l' = SX.2 26 l' ∧ S2.2 27 l' = SX.2 27 l' ∧ S2.2 28 l' = SX.2 28 l' ∧ S2.2 29 l' = SX.2 29 l') ∧ ∀ s, s < R → S2.2 24 (l' * R + s) = SX.2 24 (l' * R + s) ∧ S2.2 25 (l' * R + s) = SX.2 25 (l' * R + s) := by
  obtain ⟨⟨st, en, q1, q2, q3, q4⟩, hhi, -⟩ := hL
  obtain ⟨a1, a2, a3, a4⟩ := id hok
  have hte : t < en := by omega
  obtain ⟨z1, z2, z3, z4, z5, z6, z7, z8, z9⟩ := id q1
  obtain ⟨S1, g1, g2, g3, g4⟩ := zx_step (P := P) hl q1 (by omega) hte
  have hD1 : z_DI P R S1 pg rc lo hi fc := z_DI_same hD ⟨g2.1 0 (by decide), g2.1 1 (by decide), g2.1 2 (by decide), g2.2 11 (by decide), g2.2 12 (by decide), g2.2 13 (by decide), g2.2 14 (by decide), g2.2 15 (by decide)⟩
  have hpe := z_pageEnd (n := n) (by omega) q2 z5 hte z8 z7 (fun x => (z4 x).2)
  by_cases c1 : t + 1 = en
  · by_cases c2 : en < n
    · rw [c1] at g3
      obtain ⟨p, Sa, Sb, k1, k2, k3, k4, k5, k6, k7, k8, k9⟩ := zx_pageIn hok hl hD1 g3 (by omega) c2 q4 hhi
      refine ⟨Sb, _, fc + 1, fun K => ?_, z_keep_trans (z_keep_mono g2 (by simp) (by simp)) k3, Or.inl ⟨(hpe.mpr ⟨c1, c2⟩).1, (hpe.mpr ⟨c1, c2⟩).2, by rw [k4, g2.1 22 (by decide)], rfl, k5⟩, k6, fun c' hc => z_s1b _ _ hc, ⟨en, _, by rw [c1]; exact k8, k7, ?_, ?_⟩, fun l' hne => ?_⟩
      · rw [g1, es_bd_s, zx_usedUp hl g3 (by omega), es_bd_s, if_pos rfl, if_neg (by decide), k1, es_bd_s, k2, es_bd_s]
      · left
        split <;> omega
      · rw [z_s1a, z_pgs_next (by omega) k7 c2, q4]
      · obtain ⟨⟨u1, u2, u3, u4⟩, u5⟩ := k9 l' hne
        rw [u1, u2, u3, u4, g2.2 26 (by decide), g2.2 27 (by decide), g4 l' hne, g2.2 29 (by decide)]
        refine ⟨⟨rfl, rfl, rfl, rfl⟩, fun s hs => ?_⟩
        rw [(u5 s hs).1, (u5 s hs).2, g2.2 24 (by decide), g2.2 25 (by decide)]
        exact ⟨rfl, rfl⟩
    · have hen : en = n := by omega
      subst hen
      refine ⟨S1, lo, fc, fun K => ?_, z_keep_mono g2 (by simp) (by simp), Or.inr ⟨fun y => c2 (hpe.mp y).2, g2.1 22 (by decide), rfl⟩, hD1, fun _ _ => rfl, ⟨st, en, g3, q2, Or.inr ⟨c1, rfl⟩, q4⟩, fun l' hne => ?_⟩
      · rw [g1, es_bd_s, zx_usedUp hl g3 (by omega), es_bd_s, if_pos c1, if_neg (by decide), zx_readPage_end hl g3, es_bd_s, zx_releaseN, es_bd_s]
      · rw [g2.2 26 (by decide), g2.2 27 (by decide), g4 l' hne, g2.2 29 (by decide), g2.2 24 (by decide), g2.2 25 (by decide)]
        exact ⟨⟨rfl, rfl, rfl, rfl⟩, fun _ _ => ⟨rfl, rfl⟩⟩
  · refine ⟨S1, lo, fc, fun K => ?_, z_keep_mono g2 (by simp) (by simp), Or.inr ⟨fun y => c1 (hpe.mp y).1, g2.1 22 (by decide), rfl⟩, hD1, fun _ _ => rfl, ⟨st, en, g3, q2, Or.inl (by omega), q4⟩, fun l' hne => ?_⟩
    · rw [g1, es_bd_s, zx_usedUp hl g3 (by omega), es_bd_s, if_neg c1, if_pos rfl]
    · rw [g2.2 26 (by decide), g2.2 27 (by decide), g4 l' hne, g2.2 29 (by decide), g2.2 24 (by decide), g2.2 25 (by decide)]
      exact ⟨⟨rfl, rfl, rfl, rfl⟩, fun _ _ => ⟨rfl, rfl⟩⟩
/-- the same in the reference -/
theorem zm_mstep {R w a fr hr b cn t n qb : Nat} {S : es_St} {k tg : Int32} (hR : 1 ≤ R ∧ R ≤ 16) (h1 : S.1 1 = nI R) (h8 : S.1 8 = 0) (hb : b < 15) (hp : S.2 15 b = nI (hr + qb + t)) (he : S.2 16 b = nI (hr + qb + n)) (hle : hr + qb + n ≤ 16384) (ht : t < n) (hrec : (S.2 4 (hr + qb + t), S.2 5 (hr + qb + t)) = (k, tg)) (h6 : S.2 6 (a + b) = nI qb) (ha : a + b < 8200) :
    ∃ S2 : es_St, (∀ m, f_X8_merge_68 es_NM z_fu (m + 1) (nI hr) (nI a) (nI w) (nI fr) (nI (fr + cn)) (nI b) S = f_X8_merge_167 es_NM z_fu (fun x1 x2 x3 x4 x5 x6 S => f_X8_merge_68 es_NM z_fu m x1 x2 x3 x4 x5 x6 S) (nI hr) (nI a) (nI w) (nI fr) (nI (fr + cn)) k tg S2) ∧ z_keep [2, 3] [15] S S2 ∧ (∀ l, S2.2 15 l = if l = b then nI (hr + qb + (t + 1)) else S.2 15 l) ∧
      ((t + 1 < n ∧ (t + 1) % R = 0 ∧ S2.1 3 = S.1 3 + 1 ∧ S2.1 2 = S.1 2 - 1) ∨ (¬ (t + 1 < n ∧ (t + 1) % R = 0) ∧ S2.1 3 = S.1 3 ∧ S2.1 2 = S.1 2)) := by
  obtain ⟨r1, r2⟩ := Prod.mk.inj hrec
  have v15 : vp_in (nI b) (es_NM 15) := vp_in_nI (N := es_NM 15) (show b < 16 by omega) (by decide)
  have v16 : vp_in (nI b) (es_NM 16) := vp_in_nI (N := es_NM 16) (show b < 16 by omega) (by decide)
  have v4 : vp_in (nI (hr + qb + t)) (es_NM 4) := vp_in_nI (N := es_NM 4) (show hr + qb + t < 16384 by omega) (by decide)
  have v5 : vp_in (nI (hr + qb + t)) (es_NM 5) := vp_in_nI (N := es_NM 5) (show hr + qb + t < 16384 by omega) (by decide)
  have v6 : vp_in (nI (a + b)) (es_NM 6) := vp_in_nI (N := es_NM 6) ha (by decide)
  obtain ⟨S1, hS1⟩ : ∃ S1 : es_St, S1 = es_wr S 15 (nI b) (nI (hr + qb + t + 1)) := ⟨_, rfl⟩
  have e15 : ∀ l, S1.2 15 l = if l = b then nI (hr + qb + (t + 1)) else S.2 15 l := fun l => by rw [hS1, z_w2a _ _ _ _ (by omega)]; rfl
  have k1 : z_keep [2, 3] [15] S S1 := by rw [hS1]; exact z_keep_w _ 15 _ _ (by simp)
  have q15 : es_rd S1 15 (nI b) = nI (hr + qb + (t + 1)) := by rw [z_rd _ _ _ (by omega), e15, if_pos rfl]
  have q16 : es_rd S1 16 (nI b) = nI (hr + qb + n) := by rw [z_rd _ _ _ (by omega), k1.2 16 (by decide), he]
  have hX : ∀ m, f_X8_merge_68 es_NM z_fu (m + 1) (nI hr) (nI a) (nI w) (nI fr) (nI (fr + cn)) (nI b) S = if n ≤ t + 1 then f_X8_merge_167 es_NM z_fu (fun x1 x2 x3 x4 x5 x6 S => f_X8_merge_68 es_NM z_fu m x1 x2 x3 x4 x5 x6 S) (nI hr) (nI a) (nI w) (nI fr) (nI (fr + cn)) k tg S1 else if ¬ (t + 1) % R = 0 then f_X8_merge_167 es_NM z_fu (fun x1 x2 x3 x4 x5 x6 S => f_X8_merge_68 es_NM z_fu m x1 x2 x3 x4 x5 x6 S) (nI hr) (nI a) (nI w) (nI fr) (nI (fr + cn)) k tg S1 else es_bd (f_X8_readsPage es_NM z_fu S1) fun _ S44 => f_X8_merge_167 es_NM z_fu (fun x1 x2 x3 x4 x5 x6 S => f_X8_merge_68 es_NM z_fu m x1 x2 x3 x4 x5 x6 S) (nI hr) (nI a) (nI w) (nI fr) (nI (fr + cn)) k tg S44 := fun m => by
    rw [f_X8_merge_68, if_neg (nI_pos (by omega)), h8, if_neg (by simp), es_ck_t v15, z_lt, z_rd _ _ _ (by omega), hp, es_ck_t v4, z_lt, z_rd _ _ _ (by omega), r1, es_ck_t v15, z_lt, es_ck_t v5, z_lt, z_rd _ _ _ (by omega), r2, es_ck_t v15, z_lt, nI_1, z_lt, es_ck_t v15, z_lt, ← hS1, es_ck_t v15, q15, z_lt, es_ck_t v16, q16, z_lt]
    by_cases c : n ≤ t + 1
    · rw [if_pos (nI_le (by omega) (by omega)), if_pos c]
    · rw [if_neg (nI_ge (show hr + qb + (t + 1) < hr + qb + n by omega) (by omega)), if_neg c, es_ck_t v15, z_lt, nI_add, es_ck_t v6, z_lt, z_rd _ _ _ (by omega), k1.2 6 (by decide), h6, k1.1 1 (by decide), h1, es_ck_t (nI_ne0 (by omega) (by omega)), pk_sub (by omega), pk_sub (by omega), show hr + qb + (t + 1) - hr - qb = t + 1 by omega, pk_rem (by omega) (by omega) (by omega)]
      by_cases c2 : (t + 1) % R = 0
      · rw [if_neg (by rw [c2]; exact fun y => y rfl), if_neg (by simpa using c2)]
      · have hm := Nat.mod_lt (t + 1) (show R > 0 by omega)
        rw [if_pos (nI_ne0 (by omega) (by omega)), if_pos c2]
  by_cases c : t + 1 < n ∧ (t + 1) % R = 0
  · refine ⟨es_F (es_F S1 3 (S.1 3 + 1)) 2 (S.1 2 - 1), fun m => ?_, z_keep_trans k1 (z_keep_trans (z_keep_F _ 3 _ (by simp)) (z_keep_F _ 2 _ (by simp))), fun l => by rw [z_F2, z_F2]; exact e15 l, Or.inl ⟨c.1, c.2, ?_, ?_⟩⟩
    · rw [hX, if_neg (by omega), if_neg (by simpa using c.2)]
      unfold f_X8_readsPage
      rw [z_lt, z_lt, z_lt, z_lt, es_bd_s, z_F1, if_neg (by decide), show S1.1 3 = S.1 3 by rw [hS1, z_w1], show S1.1 2 = S.1 2 by rw [hS1, z_w1]]
    · rw [z_F1, if_neg (by decide), z_F1, if_pos rfl]
    · rw [z_F1, if_pos rfl]
  · refine ⟨S1, fun m => ?_, k1, e15, Or.inr ⟨c, by rw [hS1, z_w1], by rw [hS1, z_w1]⟩⟩
    rw [hX]
    by_cases c1 : n ≤ t + 1
    · rw [if_pos c1]
    · rw [if_neg c1, if_pos (fun y => c ⟨by omega, y⟩)]
