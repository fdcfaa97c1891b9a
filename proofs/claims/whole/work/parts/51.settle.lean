/-! ===== the end of a sorting: giving up, or settling ===== -/
theorem z_fc_eq {P R : Nat} {S S' : es_St} {pg pg' : Nat → Nat → Nat} {rc rc' : Nat → Nat → z_Rec} {lo lo' hi hi' : Nat → Nat} {fc fc' : Nat} (h : z_DI P R S pg rc lo hi fc) (h' : z_DI P R S' pg' rc' lo' hi' fc') (e : ∀ p, (∃ c i, lo c ≤ i ∧ i < hi c ∧ pg c i = p) ↔ (∃ c i, lo' c ≤ i ∧ i < hi' c ∧ pg' c i = p)) : fc = fc' := by
  obtain ⟨-, -, ⟨-, -, -, -, f5⟩, c1, -, -, -, c5⟩ := h
  obtain ⟨-, -, ⟨-, -, -, -, f5'⟩, c1', -, -, -, c5'⟩ := h'
  have k1 : ∀ p, p < P → (S.2 13 p = -1 ↔ ¬ ∃ c i, lo c ≤ i ∧ i < hi c ∧ pg c i = p) := fun p hp => by
    constructor
    · rintro h ⟨c, i, a, b, rfl⟩
      rw [(c1 c i a b).2] at h
      exact z_ow_m1 c h
    · intro h
      exact (c5 p hp).resolve_right h
  have k2 : ∀ p, p < P → (S'.2 13 p = -1 ↔ ¬ ∃ c i, lo' c ≤ i ∧ i < hi' c ∧ pg' c i = p) := fun p hp => by
    constructor
    · rintro h ⟨c, i, a, b, rfl⟩
      rw [(c1' c i a b).2] at h
      exact z_ow_m1 c h
    · intro h
      exact (c5' p hp).resolve_right h
  rw [← f5, ← f5']
  exact z_cnt_congr (fun p hp => by rw [k1 p hp, k2 p hp, e p])
theorem z_giveUp {P R : Nat} {S0 S : es_St} {pg0 pg : Nat → Nat → Nat} {rc0 rc : Nat → Nat → z_Rec} {lo0 hi0 lo hi : Nat → Nat} {fc0 fc : Nat} {q : Int32} (hok : z_ok P R) (h0 : z_DI P R S0 pg0 rc0 lo0 hi0 fc0) (hd0 : ∀ c, 6 ≤ c → hi0 c ≤ lo0 c) (h : z_DI P R S pg rc lo hi fc) (hf : ∀ c, c < 6 → pg c = pg0 c ∧ rc c = rc0 c ∧ lo c = lo0 c ∧ hi c = hi0 c) :
    ∃ S', f_X7_giveUp (es_NX P R) z_fu S q = some (q, S') ∧ z_keep [2] [13, 15] S S' ∧ z_DI P R S' pg0 rc0 lo0 hi0 fc0 := by
  obtain ⟨S', g1, g2, g3, g4⟩ := zx_releaseAll (fu := z_fu) (w := 6) hok (by have := z_fu_ge; omega) (by decide) h.1 h.2.2.1
  have hD := z_DI_kill 6 (by decide) h (g2.1 0 (by decide)) (g2.1 1 (by decide)) g3 (g2.2 11 (by decide)) (g2.2 12 (by decide)) g4 (g2.2 14 (by decide))
  have ow : ∀ c, c < 6 → ¬ z_ow c = 6 := fun c hc e => by have := z_ow_6 (show z_ow c = nI 6 from e); omega
  have hlive : ∀ c i, (lo0 c ≤ i ∧ i < hi0 c) ↔ ((if z_ow c = 6 then hi c else lo c) ≤ i ∧ i < hi c) := fun c i => by
    rcases Nat.lt_or_ge c 6 with z | z
    · obtain ⟨-, -, e3, e4⟩ := hf c z
      rw [if_neg (ow c z), e3, e4]
    · have := hd0 c z
      rw [if_pos (show z_ow c = 6 from z_ow_ge z)]
      omega
  have hD2 : z_DI P R S' pg0 rc0 lo0 hi0 _ := z_DI_re hD hlive (fun c i a b => by
    rcases Nat.lt_or_ge c 6 with z | z
    · rw [(hf c z).1]
    · rw [if_pos (show z_ow c = 6 from z_ow_ge z)] at a; omega) (fun c i s a b hs => by
    rcases Nat.lt_or_ge c 6 with z | z
    · rw [(hf c z).2.1]
    · rw [if_pos (show z_ow c = 6 from z_ow_ge z)] at a; omega)
  have e := z_fc_eq hD2 h0 (fun p => Iff.rfl)
  rw [e] at hD2
  refine ⟨S', ?_, g2, hD2⟩
  unfold f_X7_giveUp
  rw [g1, es_bd_s]
/-- the numbers are told -/
theorem zx_copy_loop {P R kk : Nat} (hok : z_ok P R) (hk : kk ≤ 2 * P) : ∀ (fu i : Nat) (S : es_St), i ≤ kk → kk - i < fu → S.1 24 = nI kk → (∀ q, q < i → S.2 23 q = S.2 22 q) →
    ∃ S', f_X6_copyFrom_42 (es_NX P R) z_fu fu (nI i) S = some (0, S') ∧ z_keep [] [23] S S' ∧ ∀ q, q < kk → S'.2 23 q = S.2 22 q := by
  have hPb := hok.2.1
  intro fu
  induction fu with
  | zero => intro i S _ h; exact absurd h (by omega)
  | succ fu ih =>
    intro i S hi hf h24 hq
    rw [f_X6_copyFrom_42, h24]
    by_cases e : i = kk
    · subst e
      rw [if_pos (nI_le (Nat.le_refl _) (by omega))]
      exact ⟨S, rfl, z_keep_rfl, hq⟩
    · rw [if_neg (nI_ge (show i < kk by omega) (by omega)), zN22, if_neg (nI_ge (show i < 2 * P by omega) (by omega)), zN23, if_neg (nI_ge (show i < 2 * P by omega) (by omega)), z_ck (show i < 2 * P by omega) (by omega), z_rd S 22 i (by omega), z_lt, z_ck (show i < 2 * P by omega) (by omega), z_lt, nI_1, z_lt]
      have e22 : (es_wr S 23 (nI i) (S.2 22 i)).2 22 = S.2 22 := by rw [z_w2b _ _ _ (by decide)]
      obtain ⟨S', g1, g2, g3⟩ := ih (i + 1) (es_wr S 23 (nI i) (S.2 22 i)) (by omega) (by omega) (by rw [z_w1]; exact h24) (fun q h => by
        rw [e22, z_w2a _ _ _ _ (by omega)]
        by_cases e : q = i
        · rw [if_pos e, e]
        · rw [if_neg e]; exact hq q (by omega))
      rw [e22] at g3
      exact ⟨S', g1, z_keep_trans (z_keep_w _ 23 _ _ (by simp)) g2, g3⟩
theorem zx_copyFrom {P R kk : Nat} {S : es_St} (hok : z_ok P R) (hk : kk ≤ 2 * P) (h24 : S.1 24 = nI kk) :
    ∃ S', f_X6_copyFrom (es_NX P R) z_fu S = some (0, S') ∧ z_keep [27, 28, 29, 30, 31] [23] S S' ∧ (S'.1 27 = S.1 22 ∧ S'.1 28 = S.1 23 ∧ S'.1 29 = nI kk ∧ S'.1 30 = S.1 25 ∧ S'.1 31 = S.1 26) ∧ ∀ q, q < kk → S'.2 23 q = S.2 22 q := by
  have hPb := hok.2.1
  obtain ⟨S1, hS1⟩ : ∃ S1 : es_St, S1 = es_F (es_F (es_F (es_F (es_F S 27 (S.1 22)) 28 (S.1 23)) 29 (nI kk)) 30 (S.1 25)) 31 (S.1 26) := ⟨_, rfl⟩
  have k1 : z_keep [27, 28, 29, 30, 31] [] S S1 := by
    rw [hS1]
    exact z_keep_trans (z_keep_trans (z_keep_trans (z_keep_trans (z_keep_F _ 27 _ (by simp)) (z_keep_F _ 28 _ (by simp))) (z_keep_F _ 29 _ (by simp))) (z_keep_F _ 30 _ (by simp))) (z_keep_F _ 31 _ (by simp))
  obtain ⟨S', g1, g2, g3⟩ := zx_copy_loop (kk := kk) hok hk z_fu 0 S1 (by omega) (by have := z_fu_ge; omega) ((k1.1 24 (by decide)).trans h24) (fun q h => absurd h (by omega))
  refine ⟨S', ?_, z_keep_trans (z_keep_mono k1 (by decide) (by decide)) (z_keep_mono g2 (by decide) (by decide)), ⟨?_, ?_, ?_, ?_, ?_⟩, fun q hq => by rw [g3 q hq, k1.2 22 (by decide)]⟩
  · unfold f_X6_copyFrom
    rw [z_lt, z_lt, z_lt, z_lt, z_lt]
    have e : es_F (es_F (es_F (es_F (es_F S 27 (S.1 22)) 28 ((es_F S 27 (S.1 22)).1 23)) 29 ((es_F (es_F S 27 (S.1 22)) 28 ((es_F S 27 (S.1 22)).1 23)).1 24)) 30 ((es_F (es_F (es_F S 27 (S.1 22)) 28 ((es_F S 27 (S.1 22)).1 23)) 29 ((es_F (es_F S 27 (S.1 22)) 28 ((es_F S 27 (S.1 22)).1 23)).1 24)).1 25)) 31 ((es_F (es_F (es_F (es_F S 27 (S.1 22)) 28 ((es_F S 27 (S.1 22)).1 23)) 29 ((es_F (es_F S 27 (S.1 22)) 28 ((es_F S 27 (S.1 22)).1 23)).1 24)) 30 ((es_F (es_F (es_F S 27 (S.1 22)) 28 ((es_F S 27 (S.1 22)).1 23)) 29 ((es_F (es_F S 27 (S.1 22)) 28 ((es_F S 27 (S.1 22)).1 23)).1 24)).1 25)).1 26) = S1 := by
      rw [hS1]
      simp only [z_F1, Nat.reduceEqDiff, if_false, h24]
    rw [e]; exact g1
  · rw [g2.1 27 (by decide), hS1]; simp only [z_F1, Nat.reduceEqDiff, if_false, if_true]
  · rw [g2.1 28 (by decide), hS1]; simp only [z_F1, Nat.reduceEqDiff, if_false, if_true]
  · rw [g2.1 29 (by decide), hS1]; simp only [z_F1, Nat.reduceEqDiff, if_false, if_true]
  · rw [g2.1 30 (by decide), hS1]; simp only [z_F1, Nat.reduceEqDiff, if_false, if_true]
  · rw [g2.1 31 (by decide), hS1]; simp only [z_F1, Nat.reduceEqDiff, if_false, if_true]
theorem zx_settle {P R to rch v kk nto : Nat} {S : es_St} {hd : Int32} {pg : Nat → Nat → Nat} {rc : Nat → Nat → z_Rec} {lo hi : Nat → Nat} {fc : Nat} (hok : z_ok P R) (hto : to < 6) (hD : z_DI P R S pg rc lo hi fc) (hrch : 6 ≤ rch) (hdead : ∀ c, 6 ≤ c → c ≠ rch → hi c ≤ lo c) (hlo : lo to = 0) (hhi : hi to = z_pgs R nto) (h24 : S.1 24 = nI kk) (hk : kk ≤ 2 * P) :
    ∃ S', f_X7_settle (es_NX P R) z_fu S (nI to) hd (nI v) = some (nI v, S') ∧ z_keep [2, 27, 28, 29, 30, 31] [9, 10, 13, 15, 23] S S' ∧ z_DI P R S' (fun c => if c = to then pg rch else pg c) (fun c => if c = to then rc rch else rc c) (fun c => if c = to then lo rch else if 6 ≤ c then hi c else lo c) (fun c => if c = to then hi rch else hi c) (fc + z_pgs R nto) ∧ (S'.1 27 = S.1 22 ∧ S'.1 28 = S.1 23 ∧ S'.1 29 = nI kk ∧ S'.1 30 = S.1 25 ∧ S'.1 31 = S.1 26) ∧ (∀ q, q < kk → S'.2 23 q = S.2 22 q) ∧ (∀ f, S'.2 9 f = if f = to then hd else S.2 9 f) ∧ ∀ f, S'.2 10 f = if f = to then nI v else S.2 10 f := by
  obtain ⟨S1, g1, g2, g3, g4⟩ := zx_releaseAll (fu := z_fu) (w := nI to) hok (by have := z_fu_ge; omega) (fun e => (z_m1 (by omega)).mp e) hD.1 hD.2.2.1
  have hcnt : z_cnt (fun q => S.2 13 q = nI to) P = z_pgs R nto := by
    rw [z_CH_cnt hD.2.2.2 to (nI to) (z_ow_lt hto).symm (fun c hc e => absurd (z_ow_eq hto e) hc), hlo, hhi, Nat.sub_zero]
  rw [hcnt] at g1 g3
  have hD1 := z_DI_kill (nI to) (fun e => (z_m1 (by omega)).mp e) hD (g2.1 0 (by decide)) (g2.1 1 (by decide)) g3 (g2.2 11 (by decide)) (g2.2 12 (by decide)) g4 (g2.2 14 (by decide))
  obtain ⟨S2, k1, k2, k3⟩ := zx_handOver (P := P) (R := R) (fu := z_fu) (w := 6) (v := nI to) (S := S1) hok (by have := z_fu_ge; omega) (fun e => by have := (nI_eq (a := 6) (b := to) (by omega) (by omega)).mp e; omega)
  have ow6 : ∀ c, 6 ≤ c → ¬ z_ow c = nI to := fun c hc e => by have := z_ow_eq hto e; omega
  have owt : z_ow to = nI to := z_ow_lt hto
  have hD2 := z_DI_hand to rch hto hrch hD1 (fun c hc => by
    rcases hc with ⟨h6, hne⟩ | rfl
    · rw [if_neg (ow6 c h6)]; exact hdead c h6 hne
    · rw [if_pos owt]; exact Nat.le_refl _) (k2.1 0 (by decide)) (k2.1 1 (by decide)) (k2.1 2 (by decide)) (k2.2 11 (by decide)) (k2.2 12 (by decide)) k3 (k2.2 14 (by decide)) (k2.2 15 (by decide))
  obtain ⟨S3, hS3⟩ : ∃ S3 : es_St, S3 = es_wr (es_wr S2 9 (nI to) hd) 10 (nI to) (nI v) := ⟨_, rfl⟩
  have k3' : z_keep [] [9, 10] S2 S3 := by rw [hS3]; exact z_keep_trans (z_keep_w _ 9 _ _ (by simp)) (z_keep_w _ 10 _ _ (by simp))
  obtain ⟨S4, c1, c2, c3, c4⟩ := zx_copyFrom (S := S3) (kk := kk) hok hk (by rw [k3'.1 24 (by decide), k2.1 24 (by decide), g2.1 24 (by decide)]; exact h24)
  have k13 : z_keep [2] [9, 10, 13, 15] S S3 := z_keep_trans (z_keep_mono g2 (by decide) (by decide)) (z_keep_trans (z_keep_mono k2 (by decide) (by decide)) (z_keep_mono k3' (by decide) (by decide)))
  refine ⟨S4, ?_, z_keep_trans (z_keep_mono k13 (by decide) (by decide)) (z_keep_mono c2 (by decide) (by decide)), ?_, ?_, fun q hq => ?_, fun f => ?_, fun f => ?_⟩
  · unfold f_X7_settle
    rw [g1, es_bd_s, k1, es_bd_s, zN9, z_ck hto (by decide), z_lt, zN10, z_ck hto (by decide), z_lt, ← hS3, c1, es_bd_s]
  · have hD3 := z_DI_same (S' := S4) hD2 ⟨by rw [c2.1 0 (by decide), k3'.1 0 (by decide)], by rw [c2.1 1 (by decide), k3'.1 1 (by decide)], by rw [c2.1 2 (by decide), k3'.1 2 (by decide)], by rw [c2.2 11 (by decide), k3'.2 11 (by decide)], by rw [c2.2 12 (by decide), k3'.2 12 (by decide)], by rw [c2.2 13 (by decide), k3'.2 13 (by decide)], by rw [c2.2 14 (by decide), k3'.2 14 (by decide)], by rw [c2.2 15 (by decide), k3'.2 15 (by decide)]⟩
    refine z_DI_re hD3 (fun c i => ?_) (fun _ _ _ _ => rfl) (fun _ _ _ _ _ _ => rfl)
    by_cases e : c = to
    · rw [if_pos e, if_pos e, if_pos e, if_neg (ow6 rch hrch)]
    · rw [if_neg e, if_neg e, if_neg e]
      by_cases e6 : 6 ≤ c
      · rw [if_pos e6, if_pos e6]
      · rw [if_neg e6, if_neg e6, if_neg (fun y => e (z_ow_eq hto y))]
  · obtain ⟨u1, u2, u3, u4, u5⟩ := c3
    rw [u1, u2, u3, u4, u5, k13.1 22 (by decide), k13.1 23 (by decide), k13.1 25 (by decide), k13.1 26 (by decide)]
    exact ⟨rfl, rfl, rfl, rfl, rfl⟩
  · rw [c4 q hq, k13.2 22 (by decide)]
  · rw [c2.2 9 (by decide), hS3, z_w2b _ _ _ (by decide), z_w2a _ _ _ _ (by omega), k2.2 9 (by decide), g2.2 9 (by decide)]
  · rw [c2.2 10 (by decide), hS3, z_w2a _ _ _ _ (by omega), z_w2b _ _ _ (by decide), k2.2 10 (by decide), g2.2 10 (by decide)]
/-- the reference tells -/
theorem zm_tell_loop {kk : Nat} (hk : kk ≤ 1024) : ∀ (fu i : Nat) (S : es_St), i ≤ kk → kk - i < fu → S.1 11 = nI kk → (∀ q, q < i → S.2 13 q = S.2 7 q) →
    ∃ S', f_X8_tells_75 es_NM z_fu fu (nI i) S = some (0, S') ∧ z_keep [] [13] S S' ∧ ∀ q, q < kk → S'.2 13 q = S.2 7 q := by
  intro fu
  induction fu with
  | zero => intro i S _ h; exact absurd h (by omega)
  | succ fu ih =>
    intro i S hi hf h11 hq
    rw [f_X8_tells_75, h11]
    by_cases e : i = kk
    · subst e
      rw [if_pos (nI_le (Nat.le_refl _) (by omega))]
      exact ⟨S, rfl, z_keep_rfl, hq⟩
    · rw [if_neg (nI_ge (show i < kk by omega) (by omega)), es_ck_t (vp_in_nI (N := es_NM 7) (show i < 16400 by omega) (by decide)), z_rd S 7 i (by omega), z_lt, es_ck_t (vp_in_nI (N := es_NM 13) (show i < 16400 by omega) (by decide)), z_lt, nI_1, z_lt]
      have e7 : (es_wr S 13 (nI i) (S.2 7 i)).2 7 = S.2 7 := by rw [z_w2b _ _ _ (by decide)]
      obtain ⟨S', g1, g2, g3⟩ := ih (i + 1) (es_wr S 13 (nI i) (S.2 7 i)) (by omega) (by omega) (by rw [z_w1]; exact h11) (fun q h => by
        rw [e7, z_w2a _ _ _ _ (by omega)]
        by_cases e : q = i
        · rw [if_pos e, e]
        · rw [if_neg e]; exact hq q (by omega))
      rw [e7] at g3
      exact ⟨S', g1, z_keep_trans (z_keep_w _ 13 _ _ (by simp)) g2, g3⟩
theorem zm_tells {kk : Nat} {S : es_St} (hk : kk ≤ 1024) (h11 : S.1 11 = nI kk) :
    ∃ S', f_X8_tells es_NM z_fu S = some (0, S') ∧ z_keep [15] [12, 13] S S' ∧ (S'.2 12 0 = S.1 3 + S.1 4 ∧ S'.2 12 1 = S.1 3 ∧ S'.2 12 2 = S.1 4 ∧ S'.2 12 3 = S.1 5 ∧ S'.2 12 4 = S.1 6 ∧ S'.2 12 5 = S.1 7) ∧ S'.1 15 = nI kk ∧ ∀ q, q < kk → S'.2 13 q = S.2 7 q := by
  obtain ⟨S1, hS1⟩ : ∃ S1 : es_St, S1 = es_F (es_wr (es_wr (es_wr (es_wr (es_wr (es_wr S 12 (nI 0) (S.1 3 + S.1 4)) 12 (nI 1) (S.1 3)) 12 (nI 2) (S.1 4)) 12 (nI 3) (S.1 5)) 12 (nI 4) (S.1 6)) 12 (nI 5) (S.1 7)) 15 (nI kk) := ⟨_, rfl⟩
  have k1 : z_keep [15] [12] S S1 := by
    rw [hS1]
    exact z_keep_trans (z_keep_trans (z_keep_trans (z_keep_trans (z_keep_trans (z_keep_trans (z_keep_w _ 12 _ _ (by simp)) (z_keep_w _ 12 _ _ (by simp))) (z_keep_w _ 12 _ _ (by simp))) (z_keep_w _ 12 _ _ (by simp))) (z_keep_w _ 12 _ _ (by simp))) (z_keep_w _ 12 _ _ (by simp))) (z_keep_F _ 15 _ (by simp))
  have e12 : ∀ q, S1.2 12 q = if q = 5 then S.1 7 else if q = 4 then S.1 6 else if q = 3 then S.1 5 else if q = 2 then S.1 4 else if q = 1 then S.1 3 else if q = 0 then S.1 3 + S.1 4 else S.2 12 q := fun q => by
    rw [hS1, z_F2, z_w2a _ _ _ _ (by decide), z_w2a _ _ _ _ (by decide), z_w2a _ _ _ _ (by decide), z_w2a _ _ _ _ (by decide), z_w2a _ _ _ _ (by decide), z_w2a _ _ _ _ (by decide)]
  obtain ⟨S', g1, g2, g3⟩ := zm_tell_loop (kk := kk) hk z_fu 0 S1 (by omega) (by have := z_fu_ge; omega) ((k1.1 11 (by decide)).trans h11) (fun q h => absurd h (by omega))
  refine ⟨S', ?_, z_keep_trans (z_keep_mono k1 (by decide) (by decide)) (z_keep_mono g2 (by decide) (by decide)), ?_, ?_, fun q hq => by rw [g3 q hq, k1.2 7 (by decide)]⟩
  · unfold f_X8_tells
    have v : ∀ i : Nat, i < 6 → vp_in (nI i) (es_NM 12) := fun i hi => vp_in_nI (N := es_NM 12) hi (by decide)
    rw [z_lt, es_ck_t (show vp_in 0 (es_NM 12) from v 0 (by decide)), z_lt, es_ck_t (show vp_in 1 (es_NM 12) from v 1 (by decide)), z_lt, es_ck_t (show vp_in 2 (es_NM 12) from v 2 (by decide)), z_lt, es_ck_t (show vp_in 3 (es_NM 12) from v 3 (by decide)), z_lt, es_ck_t (show vp_in 4 (es_NM 12) from v 4 (by decide)), z_lt, es_ck_t (show vp_in 5 (es_NM 12) from v 5 (by decide)), z_lt, z_lt]
    simp only [z_w1, h11]
    rw [hS1] at g1
    exact g1
  · rw [g2.2 12 (by decide), e12, e12, e12, e12, e12, e12]
    exact ⟨rfl, rfl, rfl, rfl, rfl, rfl⟩
  · rw [g2.1 15 (by decide), hS1, z_F1, if_pos rfl]
