/-! ===== a record is taken into a leaf ===== -/
theorem zx_takeInto_20 {P R n leaf nb : Nat} {S : es_St} {g : Nat → Nat} {rr : Nat → z_Rec} {st en t : Nat} {rd ar : Int32} (hok : z_ok P R) (h1 : S.1 1 = nI R) (hn : n ≤ 8192) (hl : z_lane R S 0 g rr n st en t) (ht : t < en) (hnb : nb ≤ es_T R) (h32 : S.1 32 = nI nb) (hleaf : leaf < nb) :
    ∃ S', f_X5_takeInto_20 (es_NX P R) z_fu (nI leaf) rd ar S = some (0, S') ∧ z_keep [] [28, 30, 31, 32, 33] S S' ∧ z_lane R S' 0 g rr n st en (t + 1) ∧ (∀ q, S'.2 30 q = if q = leaf then rd else S.2 30 q) ∧ (∀ q, S'.2 31 q = if q = leaf then (rr t).1 else S.2 31 q) ∧ (∀ q, S'.2 32 q = if q = leaf then (rr t).2 else S.2 32 q) ∧ (∀ q, S'.2 33 q = if q = leaf then ar else S.2 33 q) := by
  have hT := es_TR hok.2.2
  have hlf : leaf < 2 ^ 31 := by omega
  obtain ⟨k1, k2⟩ := zx_lkey (ln := 0) hok (by decide) h1 hl (by omega) ht
  obtain ⟨S1, hS1⟩ : ∃ S1 : es_St, S1 = es_wr (es_wr (es_wr (es_wr S 30 (nI leaf) rd) 31 (nI leaf) (rr t).1) 32 (nI leaf) (rr t).2) 33 (nI leaf) ar := ⟨_, rfl⟩
  have hk1 : z_keep [] [28, 30, 31, 32, 33] S S1 := by
    rw [hS1]
    exact z_keep_trans (z_keep_trans (z_keep_trans (z_keep_w _ 30 _ _ (by simp)) (z_keep_w _ 31 _ _ (by simp))) (z_keep_w _ 32 _ _ (by simp))) (z_keep_w _ 33 _ _ (by simp))
  have e28 : S1.2 28 = S.2 28 := by rw [hS1, z_w2b _ _ _ (by decide), z_w2b _ _ _ (by decide), z_w2b _ _ _ (by decide), z_w2b _ _ _ (by decide)]
  have hl1 : z_lane R S1 0 g rr n st en t := z_lane_same hl (hk1.2 24 (by decide)) (hk1.2 25 (by decide)) (hk1.2 26 (by decide)) (hk1.2 27 (by decide)) e28 (hk1.2 29 (by decide))
  obtain ⟨S2, j1, j2, j3, j4⟩ := zx_step (P := P) (ln := 0) (by decide) hl1 (by omega) ht
  refine ⟨S2, ?_, z_keep_trans hk1 (z_keep_mono j2 (by simp) (by simp)), j3, fun q => ?_, fun q => ?_, fun q => ?_, fun q => ?_⟩
  · unfold f_X5_takeInto_20
    rw [show f_X1_keyOf (es_NX P R) z_fu S 0 = _ from k1, es_bd_s, show f_X1_tagOf (es_NX P R) z_fu S 0 = _ from k2, es_bd_s, zx_enter hok hnb h32 hleaf, es_bd_s, ← hS1, show f_X1_step (es_NX P R) z_fu S1 0 = _ from j1, es_bd_s]
  · rw [j2.2 30 (by decide), hS1, z_w2b _ _ _ (by decide), z_w2b _ _ _ (by decide), z_w2b _ _ _ (by decide), z_w2a _ _ _ _ hlf]
  · rw [j2.2 31 (by decide), hS1, z_w2b _ _ _ (by decide), z_w2b _ _ _ (by decide), z_w2a _ _ _ _ hlf, z_w2b _ _ _ (by decide)]
  · rw [j2.2 32 (by decide), hS1, z_w2b _ _ _ (by decide), z_w2a _ _ _ _ hlf, z_w2b _ _ _ (by decide), z_w2b _ _ _ (by decide)]
  · rw [j2.2 33 (by decide), hS1, z_w2a _ _ _ _ hlf, z_w2b _ _ _ (by decide), z_w2b _ _ _ (by decide), z_w2b _ _ _ (by decide)]
/-- the lane of the file, which is read when it must be -/
def z_lz (R : Nat) (S : es_St) (g : Nat → Nat) (rr : Nat → z_Rec) (n t : Nat) : Prop := ∃ st en, z_lane R S 0 g rr n st en t ∧ st % R = 0 ∧ (t = en ∨ st < t)
theorem zx_takeInto {P R f n leaf nb t : Nat} {S : es_St} {pg : Nat → Nat → Nat} {rc : Nat → Nat → z_Rec} {lo hi : Nat → Nat} {fc : Nat} {rd ar : Int32} (hok : z_ok P R) (hD : z_DI P R S pg rc lo hi fc) (hlo : lo f = 0) (hhi : hi f = z_pgs R n) (hn : n ≤ 8192) (hl : z_lz R S (pg f) (rc f) n t) (ht : t < n) (hnb : nb ≤ es_T R) (h32 : S.1 32 = nI nb) (hleaf : leaf < nb) :
    ∃ S', f_X5_takeInto (es_NX P R) z_fu S (nI leaf) rd ar = some (0, S') ∧ z_keep [22] [24, 25, 26, 27, 28, 29, 30, 31, 32, 33] S S' ∧ S'.1 22 = (if t % R = 0 then S.1 22 + 1 else S.1 22) ∧ z_lz R S' (pg f) (rc f) n (t + 1) ∧ (∀ q, S'.2 30 q = if q = leaf then rd else S.2 30 q) ∧ (∀ q, S'.2 31 q = if q = leaf then (rc f t).1 else S.2 31 q) ∧ (∀ q, S'.2 32 q = if q = leaf then (rc f t).2 else S.2 32 q) ∧ (∀ q, S'.2 33 q = if q = leaf then ar else S.2 33 q) := by
  obtain ⟨st, en, hl, hst, hz⟩ := hl
  obtain ⟨d0, d1, dF, dC⟩ := id hD
  obtain ⟨a1, a2, a3, a4⟩ := id hok
  obtain ⟨h1, h2, h3, h4, h5, h6, h7, h8, h9⟩ := id hl
  unfold f_X5_takeInto
  rw [show f_X1_isUsedUp (es_NX P R) z_fu S 0 = _ from zx_usedUp (ln := 0) (by decide) hl (by omega), es_bd_s]
  by_cases e : t = en
  · subst e
    rw [if_pos rfl, if_neg (by decide)]
    obtain ⟨q4, q5⟩ := h4 ht
    have hpg : t / R < hi f := by rw [hhi]; exact z_pgs_lt (by omega) ht
    have hlive := dC.1 f (t / R) (by rw [hlo]; exact Nat.zero_le _) hpg
    have htR : t / R * R = t := by have := Nat.div_add_mod t R; rw [q5, Nat.add_zero, Nat.mul_comm] at this; exact this
    obtain ⟨S1, g1, g2, g3, g4, g5⟩ := zx_readPage (ln := 0) hok (by decide) d0 d1 hl (by omega) ht hlive.1 rfl (fun s hs => by
      have := dC.2.2.2.1 f (t / R) s (by rw [hlo]; exact Nat.zero_le _) hpg hs
      rw [htR] at this
      exact this) (fun hx => dC.2.2.1 f (t / R) (by rw [hlo]; exact Nat.zero_le _) (by
        rw [hhi]
        have := z_pgs_lt (R := R) (by omega) hx
        rw [Nat.add_div_right _ (by omega)] at this
        exact this))
    rw [show f_X1_readPage (es_NX P R) z_fu S 0 = _ from g1, es_bd_s]
    have hen : t < (if t + R < n then t + R else n) := by split <;> omega
    obtain ⟨S2, k1, k2, k3, k4, k5, k6, k7⟩ := zx_takeInto_20 (rd := rd) (ar := ar) hok ((g2.1 1 (by decide)).trans d1) hn g4 hen hnb ((g2.1 32 (by decide)).trans h32) hleaf
    rw [k1]
    refine ⟨S2, rfl, z_keep_trans (z_keep_mono g2 (by simp) (by simp)) (z_keep_mono k2 (by simp) (by simp)), ?_, ⟨t, _, k3, q5, Or.inr (by omega)⟩, ?_, ?_, ?_, ?_⟩
    · rw [k2.1 22 (by decide), g3, if_pos q5]
    · rw [g2.2 30 (by decide)] at k4; exact k4
    · rw [g2.2 31 (by decide)] at k5; exact k5
    · rw [g2.2 32 (by decide)] at k6; exact k6
    · rw [g2.2 33 (by decide)] at k7; exact k7
  · rw [if_neg e, if_pos rfl]
    have hte : t < en := by omega
    have hts := hz.resolve_left e
    obtain ⟨S2, k1, k2, k3, k4, k5, k6, k7⟩ := zx_takeInto_20 (rd := rd) (ar := ar) hok d1 hn hl hte hnb h32 hleaf
    rw [k1]
    refine ⟨S2, rfl, z_keep_mono k2 (by simp) (by simp), ?_, ⟨st, en, k3, hst, Or.inr (by omega)⟩, k4, k5, k6, k7⟩
    have hmod : ¬ t % R = 0 := fun y => by
      have e1 := Nat.div_add_mod st R
      have e2 := Nat.div_add_mod t R
      rw [hst] at e1
      rw [y] at e2
      have hlt : st / R < t / R := by
        rcases Nat.lt_or_ge (st / R) (t / R) with z | z
        · exact z
        · have := Nat.mul_le_mul_left R z; omega
      have := Nat.mul_le_mul_left R (show st / R + 1 ≤ t / R from hlt)
      rw [Nat.mul_add] at this
      omega
    rw [k2.1 22 (by decide), if_neg hmod]
/-- what stands ahead of the record just written is for the next run -/
def z_ah (md : Int32) (a b : z_Rec) : Prop := z_kk md a.1 < z_kk md b.1 ∨ (z_kk md a.1 = z_kk md b.1 ∧ z_tt md a.2 < z_tt md b.2)
theorem zx_replace {P R f n leaf nb t : Nat} {S : es_St} {pg : Nat → Nat → Nat} {rc : Nat → Nat → z_Rec} {lo hi : Nat → Nat} {fc ru : Nat} {ar : Int32} (hok : z_ok P R) (hD : z_DI P R S pg rc lo hi fc) (hlo : lo f = 0) (hhi : hi f = z_pgs R n) (hn : n ≤ 8192) (hl : z_lz R S (pg f) (rc f) n t) (ht : t < n) (hnb : nb ≤ es_T R) (h32 : S.1 32 = nI nb) (hleaf : leaf < nb) :
    ∃ (S' : es_St) (nx : Nat), f_X5_replace (es_NX P R) z_fu S (nI leaf) (nI ru) ar = some (0, S') ∧ z_keep [22] [24, 25, 26, 27, 28, 29, 30, 31, 32, 33] S S' ∧ S'.1 22 = (if t % R = 0 then S.1 22 + 1 else S.1 22) ∧ z_lz R S' (pg f) (rc f) n (t + 1) ∧ ((nx = 1 ∧ z_ah (S.1 14) (rc f t) (S.1 5, S.1 6)) ∨ (nx = 0 ∧ ¬ z_ah (S.1 14) (rc f t) (S.1 5, S.1 6))) ∧ (∀ q, S'.2 30 q = if q = leaf then nI (ru + nx) else S.2 30 q) ∧ (∀ q, S'.2 31 q = if q = leaf then (rc f t).1 else S.2 31 q) ∧ (∀ q, S'.2 32 q = if q = leaf then (rc f t).2 else S.2 32 q) ∧ (∀ q, S'.2 33 q = if q = leaf then ar else S.2 33 q) := by
  have hT := es_TR hok.2.2
  have hlf : leaf < 2 ^ 31 := by omega
  obtain ⟨S1, g1, g2, g3, g4, g5, g6, g7, g8⟩ := zx_takeInto (rd := nI ru) (ar := ar) hok hD hlo hhi hn hl ht hnb h32 hleaf
  obtain ⟨st, en, hl', -, -⟩ := hl
  unfold f_X5_replace
  rw [show f_X1_hasMore (es_NX P R) z_fu S 0 = _ from zx_hasMore (ln := 0) (by decide) hl' (by omega), es_bd_s, if_pos ht, if_pos (by decide), g1, es_bd_s, zx_keyOf hok hnb ((g2.1 32 (by decide)).trans h32) hleaf, es_bd_s, zx_tagOf hok hnb ((g2.1 32 (by decide)).trans h32) hleaf, es_bd_s, zx_inOrder, es_bd_s, g6, g7, if_pos rfl, if_pos rfl, g2.1 14 (by decide), g2.1 5 (by decide), g2.1 6 (by decide)]
  by_cases ha : z_ah (S.1 14) (rc f t) (S.1 5, S.1 6)
  · have ha' := ha
    unfold z_ah at ha'
    dsimp only at ha'
    rw [if_pos ha', if_neg (by decide), zx_enter hok hnb ((g2.1 32 (by decide)).trans h32) hleaf, es_bd_s, nI_1]
    refine ⟨_, 1, rfl, z_keep_trans g2 (z_keep_trans (z_keep_trans (z_keep_trans (z_keep_w _ 30 _ _ (by simp)) (z_keep_w _ 31 _ _ (by simp))) (z_keep_w _ 32 _ _ (by simp))) (z_keep_w _ 33 _ _ (by simp))), ?_, ?_, Or.inl ⟨rfl, ha⟩, fun q => ?_, fun q => ?_, fun q => ?_, fun q => ?_⟩
    · rw [z_w1, z_w1, z_w1, z_w1]; exact g3
    · obtain ⟨st2, en2, m1, m2, m3⟩ := g4
      refine ⟨st2, en2, z_lane_same m1 ?_ ?_ ?_ ?_ ?_ ?_, m2, m3⟩ <;> rw [z_w2b _ _ _ (by decide), z_w2b _ _ _ (by decide), z_w2b _ _ _ (by decide), z_w2b _ _ _ (by decide)]
    · rw [z_w2b _ _ _ (by decide), z_w2b _ _ _ (by decide), z_w2b _ _ _ (by decide), z_w2a _ _ _ _ hlf, g5]
      by_cases e : q = leaf
      · rw [if_pos e, if_pos e]
      · first | (rw [if_neg e, if_neg e, if_neg e]; done) | (rw [if_neg e, if_neg e]; done)
    · rw [z_w2b _ _ _ (by decide), z_w2b _ _ _ (by decide), z_w2a _ _ _ _ hlf, z_w2b _ _ _ (by decide), g6]
      by_cases e : q = leaf
      · rw [if_pos e, if_pos e]
      · first | (rw [if_neg e, if_neg e, if_neg e]; done) | (rw [if_neg e, if_neg e]; done)
    · rw [z_w2b _ _ _ (by decide), z_w2a _ _ _ _ hlf, z_w2b _ _ _ (by decide), z_w2b _ _ _ (by decide), g7]
      by_cases e : q = leaf
      · rw [if_pos e, if_pos e]
      · first | (rw [if_neg e, if_neg e, if_neg e]; done) | (rw [if_neg e, if_neg e]; done)
    · rw [z_w2a _ _ _ _ hlf, z_w2b _ _ _ (by decide), z_w2b _ _ _ (by decide), z_w2b _ _ _ (by decide), g8]
      by_cases e : q = leaf
      · rw [if_pos e, if_pos e]
      · first | (rw [if_neg e, if_neg e, if_neg e]; done) | (rw [if_neg e, if_neg e]; done)
  · have ha' := ha
    unfold z_ah at ha'
    dsimp only at ha'
    have h0 : ∀ c : Prop, [Decidable c] → (0 : Int32) ≤ (if c then 0 else 1) := fun c _ => by split <;> decide
    rw [if_neg ha', if_pos (h0 _)]
    exact ⟨S1, 0, rfl, g2, g3, g4, Or.inr ⟨rfl, ha⟩, g5, g6, g7, g8⟩
theorem zx_replace_end {P R n leaf nb : Nat} {S : es_St} {g : Nat → Nat} {rr : Nat → z_Rec} {ru ar : Int32} (hok : z_ok P R) (hn : n ≤ 8192) (hl : z_lz R S g rr n n) (hnb : nb ≤ es_T R) (h32 : S.1 32 = nI nb) (hleaf : leaf < nb) : f_X5_replace (es_NX P R) z_fu S (nI leaf) ru ar = some (0, es_wr S 30 (nI leaf) (nI 2147483647)) := by
  obtain ⟨st, en, hl', -, -⟩ := hl
  unfold f_X5_replace
  rw [show f_X1_hasMore (es_NX P R) z_fu S 0 = _ from zx_hasMore (ln := 0) (by decide) hl' (by omega), es_bd_s, if_neg (Nat.lt_irrefl n), if_neg (by decide), zx_retire hok hnb h32 hleaf, es_bd_s]

/-- the filling of the memory -/
theorem zx_fill_loop {P R f n nb : Nat} (hok : z_ok P R) (hn : n ≤ 8192) (hnb : nb ≤ es_T R) (hnn : nb ≤ n) : ∀ (fu i : Nat) (S : es_St) (pg : Nat → Nat → Nat) (rc : Nat → Nat → z_Rec) (lo hi : Nat → Nat) (fc : Nat), i ≤ nb → nb - i < fu → z_DI P R S pg rc lo hi fc → lo f = 0 → hi f = z_pgs R n → z_lz R S (pg f) (rc f) n i → S.1 32 = nI nb → (∀ q, q < i → S.2 30 q = nI 0 ∧ (S.2 31 q, S.2 32 q) = rc f q ∧ S.2 33 q = nI q) →
    ∃ S', f_X5_fillMemory_34 (es_NX P R) z_fu fu (nI nb) (nI i) S = some (nI nb, S') ∧ z_keep [22] [24, 25, 26, 27, 28, 29, 30, 31, 32, 33] S S' ∧ S'.1 22 = S.1 22 + nI (z_pgs R nb - z_pgs R i) ∧ z_lz R S' (pg f) (rc f) n nb ∧ (∀ q, q < nb → S'.2 30 q = nI 0 ∧ (S'.2 31 q, S'.2 32 q) = rc f q ∧ S'.2 33 q = nI q) := by
  have hT := es_TR hok.2.2
  have hR := hok.2.2.1
  intro fu
  induction fu with
  | zero => intro i S pg rc lo hi fc _ h; exact absurd h (by omega)
  | succ fu ih =>
    intro i S pg rc lo hi fc hi' hf hD hlo hhi hl h32 hL
    rw [f_X5_fillMemory_34]
    by_cases e : i = nb
    · subst e
      rw [if_pos (nI_le (Nat.le_refl _) (by omega))]
      exact ⟨S, rfl, z_keep_rfl, by rw [Nat.sub_self]; exact (Int32.add_zero _).symm, hl, hL⟩
    · rw [if_neg (nI_ge (show i < nb by omega) (by omega))]
      obtain ⟨S1, g1, g2, g3, g4, g5, g6, g7, g8⟩ := zx_takeInto (leaf := i) (rd := 0) (ar := nI i) hok hD hlo hhi hn hl (by omega) hnb h32 (by omega)
      rw [g1, es_bd_s, z_lt, nI_1]
      obtain ⟨S', k1, k2, k3, k4, k5⟩ := ih (i + 1) S1 pg rc lo hi fc (by omega) (by omega) (z_DI_same hD ⟨g2.1 0 (by decide), g2.1 1 (by decide), g2.1 2 (by decide), g2.2 11 (by decide), g2.2 12 (by decide), g2.2 13 (by decide), g2.2 14 (by decide), g2.2 15 (by decide)⟩) hlo hhi g4 ((g2.1 32 (by decide)).trans h32) (fun q hq => by
        rw [g5, g6, g7, g8]
        by_cases eq : q = i
        · rw [if_pos eq, if_pos eq, if_pos eq, if_pos eq, eq]; exact ⟨rfl, rfl, rfl⟩
        · rw [if_neg eq, if_neg eq, if_neg eq, if_neg eq]; exact hL q (by omega))
      refine ⟨S', k1, z_keep_trans g2 k2, ?_, k4, k5⟩
      rw [k3, g3]
      have hmono : z_pgs R (i + 1) ≤ z_pgs R nb := by unfold z_pgs; exact Nat.div_le_div_right (by omega)
      by_cases em : i % R = 0
      · have hp := z_pgs_succ0 hR em
        rw [if_pos em, Int32.add_assoc, show (1 : Int32) + nI (z_pgs R nb - z_pgs R (i + 1)) = nI (1 + (z_pgs R nb - z_pgs R (i + 1))) from nI_add 1 _]
        congr 2
        omega
      · rw [if_neg em, z_pgs_succ1 hR em]
theorem zx_fillMemory {P R f n nb H : Nat} {S : es_St} {pg : Nat → Nat → Nat} {rc : Nat → Nat → z_Rec} {lo hi : Nat → Nat} {fc bu : Nat} {hd : Int32} (hok : z_ok P R) (hn : n ≤ 8192) (hb : 3 ≤ bu ∧ bu ≤ 16) (h13 : S.1 13 = nI bu) (hH : H = (bu - 2) * R) (hnb : nb = if n < H then n else H) (hD : z_DI P R S pg rc lo hi fc) (hlo : lo f = 0) (hhi : hi f = z_pgs R n) (hhd : 0 < n → hd = nI (pg f 0)) :
    ∃ S', f_X5_fillMemory (es_NX P R) z_fu S hd (nI n) = some (nI nb, S') ∧ z_keep [22, 32, 33] [24, 25, 26, 27, 28, 29, 30, 31, 32, 33] S S' ∧ S'.1 22 = S.1 22 + nI (z_pgs R nb) ∧ z_lz R S' (pg f) (rc f) n nb ∧ S'.1 32 = nI nb ∧ S'.1 33 = S.1 14 ∧ (∀ q, q < nb → S'.2 30 q = nI 0 ∧ (S'.2 31 q, S'.2 32 q) = rc f q ∧ S'.2 33 q = nI q) := by
  obtain ⟨d0, d1, dF, dC⟩ := id hD
  obtain ⟨a1, a2, a3, a4⟩ := id hok
  have hT := es_TR hok.2.2
  have hHT : H ≤ es_T R := by
    rw [hH]
    have : (bu - 2) * R ≤ 14 * R := Nat.mul_le_mul_right R (by omega)
    unfold es_T
    split <;> omega
  have hnbT : nb ≤ es_T R := by rw [hnb]; split <;> omega
  obtain ⟨S1, g1, g2, g3, g4⟩ := zx_lopen (P := P) (R := R) (ln := 0) (S := S) (g := pg f) (rr := rc f) (n := n) (hd := hd) (by decide) hhd
  obtain ⟨S2, hS2⟩ : ∃ S2 : es_St, S2 = es_F (es_F S1 32 (nI nb)) 33 (S1.1 14) := ⟨_, rfl⟩
  have e2 : ∀ k, S2.2 k = S1.2 k := fun k => by rw [hS2, z_F2, z_F2]
  have f2 : ∀ j, j ≠ 32 → j ≠ 33 → S2.1 j = S.1 j := fun j x y => by rw [hS2, z_F1, if_neg y, z_F1, if_neg x, g2.1 j (by simp)]
  have hD2 : z_DI P R S2 pg rc lo hi fc := z_DI_same hD ⟨f2 0 (by decide) (by decide), f2 1 (by decide) (by decide), f2 2 (by decide) (by decide), (e2 11).trans (g2.2 11 (by decide)), (e2 12).trans (g2.2 12 (by decide)), (e2 13).trans (g2.2 13 (by decide)), (e2 14).trans (g2.2 14 (by decide)), (e2 15).trans (g2.2 15 (by decide))⟩
  have h32 : S2.1 32 = nI nb := by rw [hS2, z_F1, if_neg (by decide), z_F1, if_pos rfl]
  obtain ⟨S3, k1, k2, k3, k4, k5⟩ := zx_fill_loop (f := f) hok hn hnbT (by rw [hnb]; split <;> omega) z_fu 0 S2 pg rc lo hi fc (by omega) (by have := z_fu_ge; omega) hD2 hlo hhi ⟨0, 0, z_lane_same g3 (e2 24) (e2 25) (e2 26) (e2 27) (e2 28) (e2 29), Nat.zero_mod _, Or.inl rfl⟩ h32 (fun q hq => absurd hq (by omega))
  refine ⟨S3, ?_, z_keep_trans ⟨fun j hj => f2 j (by simp at hj; omega) (by simp at hj; omega), fun k hk => (e2 k).trans (g2.2 k (by simp at hk ⊢; omega))⟩ (z_keep_mono k2 (by simp) (by simp)), ?_, k4, (k2.1 32 (by decide)).trans h32, ?_, k5⟩
  · unfold f_X5_fillMemory f_X5_room
    have er : (nI bu - 2) * nI R = nI H := by rw [show nI bu - 2 = nI (bu - 2) from pk_sub (b := 2) (by omega), pk_mul, hH]
    rw [es_bd_s, h13, d1, er, z_lt]
    have en : (if nI n < nI H then nI n else nI H) = nI nb := by
      rw [hnb]
      by_cases c : n < H
      · rw [if_pos c, if_pos (nI_lt c (by omega))]
      · rw [if_neg c, if_neg (nI_nlt (by omega) (by omega))]
    rw [en, show f_X1_open (es_NX P R) z_fu S 0 hd (nI n) = _ from g1, es_bd_s, zx_tbegin hok hnbT, es_bd_s, ← hS2]
    exact k1
  · rw [k3, f2 22 (by decide) (by decide), z_pgs_0 (by omega), Nat.sub_zero]
  · rw [k2.1 33 (by decide), hS2, z_F1, if_pos rfl, g2.1 14 (by decide)]
