/-! ===== join: the ends of both ===== -/
theorem z_srt_mon {f : Nat → z_Rec} {n : Nat} (h : z_srt 0 f n) : z_mon (z_ki f) n := by
  have step : ∀ j, j + 1 < n → z_ki f j ≤ z_ki f (j + 1) := fun j hj => by
    have := h j hj
    unfold z_ah z_kk z_tt at this
    unfold z_ki
    rw [if_neg (by decide), if_neg (by decide), if_neg (by decide), if_neg (by decide)] at this
    omega
  intro i j hij hj
  obtain ⟨d, rfl⟩ : ∃ d, j = i + d := ⟨j - i, by omega⟩
  clear hij
  induction d with
  | zero => exact Int.le_refl _
  | succ d ih => exact Int.le_trans (ih (by omega)) (step (i + d) (by omega))
theorem zx_writePairs {P R na nb T : Nat} {S0 S : es_St} {pg0 pg : Nat → Nat → Nat} {rc0 rc : Nat → Nat → z_Rec} {lo0 hi0 lo hi : Nat → Nat} {fc0 fc : Nat} {ra rb : Nat → z_Rec} (hok : z_ok P R) (hn : na + nb ≤ P * R) (ha : z_mon (z_ki ra) na) (hb : z_mon (z_ki rb) nb) (h0 : z_DI P R S0 pg0 rc0 lo0 hi0 fc0) (hd0 : ∀ c, 6 ≤ c → lo0 c = 0 ∧ hi0 c = 0) (h : z_DI P R S pg rc lo hi fc) (hf : ∀ c, c < 6 → pg c = pg0 c ∧ rc c = rc0 c ∧ lo c = lo0 c ∧ hi c = hi0 c) (hJ : z_JX na nb ra rb S) (hTe : T = z_B (z_ki ra) (z_ki rb) nb na) (hT : z_pgs R T ≤ fc0) :
    ∃ S' Sb, f_X2_writePairs (es_NX P R) z_fu S = some (1, S') ∧ z_WE P R 6 fc0 T (S.1 23) (S.1 26) pg0 rc0 lo0 hi0 na nb ra rb Sb S' ∧ S'.1 22 = S.1 22 + nI (z_pgs R na + z_pgs R nb) ∧ z_keep [2, 3, 4, 5, 6, 7, 8, 9, 18, 19, 20, 21, 22, 23, 26] [11, 12, 13, 14, 15, 16, 17] S S' := by
  obtain ⟨a1, a2, a3, a4⟩ := id hok
  have hfcP := h0.2.2.1.2.1
  obtain ⟨S1, hS1⟩ : ∃ S1 : es_St, S1 = es_F S 22 (S.1 22 + nI (z_pgs R na + z_pgs R nb)) := ⟨_, rfl⟩
  have k1 : z_keep [22] [] S S1 := by rw [hS1]; exact z_keep_F _ 22 _ (by simp)
  have hD1 : z_DI P R S1 pg rc lo hi fc := z_DI_same h ⟨k1.1 0 (by decide), k1.1 1 (by decide), k1.1 2 (by decide), k1.2 11 (by decide), k1.2 12 (by decide), k1.2 13 (by decide), k1.2 14 (by decide), k1.2 15 (by decide)⟩
  obtain ⟨S2, r1, r2, r3, -⟩ := z_relAll hok h0 (fun c hc => by rw [(hd0 c hc).1, (hd0 c hc).2]; exact Nat.le_refl _) hD1 hf
  obtain ⟨S3, o1, o2, o3, o4⟩ := zx_oopen (P := P) (R := R) (S := S2) (oc := 6) (pg := pg0) (rc := rc0) (lo := lo0) (hi := hi0) (oo := fun _ => (0, 0)) (b := 0) ⟨rfl, rfl⟩ (by omega) (hd0 6 (by omega)).1 (hd0 6 (by omega)).2
  have k3 : z_keep [2, 3, 4, 7, 8, 9, 22] [13, 15] S S3 := z_keep_trans (z_keep_mono k1 (by decide) (by decide)) (z_keep_trans (z_keep_mono r2 (by decide) (by decide)) (z_keep_mono o2 (by decide) (by decide)))
  have hJ3 : z_JX na nb ra rb S3 := by
    obtain ⟨j16, j17, jA, jB⟩ := hJ
    exact ⟨(k3.1 16 (by decide)).trans j16, (k3.1 17 (by decide)).trans j17, by rw [k3.2 20 (by decide), k3.2 21 (by decide)]; exact jA, by rw [k3.2 20 (by decide), k3.2 21 (by decide)]; exact jB⟩
  obtain ⟨S4, w1, w2, w3, w4, w5⟩ := zx_rewind (P := P) (R := R) hJ3
  have hWS : z_WS P R 6 fc0 (S.1 23) (S.1 26) pg0 rc0 lo0 hi0 na nb ra rb S4 S4 (z_B (z_ki ra) (z_ki rb) nb 0) := by
    rw [show z_B (z_ki ra) (z_ki rb) nb 0 = 0 from rfl]
    refine ⟨pg0, rc0, hi0, fc0, fun _ => (0, 0), z_DI_same r3 ⟨?_, ?_, ?_, ?_, ?_, ?_, ?_, ?_⟩, z_OUT_same o4 (w2.1 3 (by decide)) (w2.1 4 (by decide)) (w2.1 5 (by decide)) (w2.1 6 (by decide)) (w2.1 8 (by decide)) (w2.1 9 (by decide)) (w2.2 16 (by decide)) (w2.2 17 (by decide)), fun p hp => absurd hp (by omega), (w2.1 7 (by decide)).trans o3, by rw [Nat.zero_div]; rfl, ?_, ?_, fun c _ => ⟨rfl, rfl, rfl⟩, z_keep_rfl, w5⟩
    · rw [w2.1 0 (by decide), o2.1 0 (by decide)]
    · rw [w2.1 1 (by decide), o2.1 1 (by decide)]
    · rw [w2.1 2 (by decide), o2.1 2 (by decide)]
    · rw [w2.2 11 (by decide), o2.2 11 (by decide)]
    · rw [w2.2 12 (by decide), o2.2 12 (by decide)]
    · rw [w2.2 13 (by decide), o2.2 13 (by decide)]
    · rw [w2.2 14 (by decide), o2.2 14 (by decide)]
    · rw [w2.2 15 (by decide), o2.2 15 (by decide)]
    · rw [Nat.zero_div, w2.1 23 (by decide), k3.1 23 (by decide)]; exact (Int32.add_zero _).symm
    · rw [Nat.zero_div, if_pos rfl, w2.1 26 (by decide), k3.1 26 (by decide)]
  obtain ⟨S', q1, q2⟩ := zx_wloop hok hn ha hb (by omega) hfcP hT hTe na z_fu 0 0 0 S4 (by omega) (by have := z_PR hok; have := z_fu_ge; omega) (by omega) (by omega) (by omega) w3 w4 (fun i _ _ => Nat.zero_le _) hWS
  have kE : z_keep [2, 3, 4, 5, 6, 8, 9, 18, 19, 20, 21, 23, 26] [11, 12, 13, 14, 16, 17] S4 S' := by
    obtain ⟨pg, rc, hi, fc, -, -, -, -, -, -, -, -, -, -, hk⟩ := q2
    exact hk
  have k4 : z_keep [2, 3, 4, 7, 8, 9, 18, 19, 20, 21, 22] [13, 15] S S4 := z_keep_trans (z_keep_mono k3 (by decide) (by decide)) (z_keep_mono w2 (by decide) (by decide))
  refine ⟨S', S4, ?_, q2, ?_, z_keep_trans (z_keep_mono k4 (by decide) (by decide)) (z_keep_mono kE (by decide) (by decide))⟩
  · unfold f_X2_writePairs
    rw [zx_sortedPages hok hn h.2.1 hJ, es_bd_s, z_lt, z_lt, ← hS1, r1, es_bd_s, o1, es_bd_s, w1, es_bd_s]
    exact q1
  · rw [kE.1 22 (by decide), w2.1 22 (by decide), o2.1 22 (by decide), r2.1 22 (by decide), hS1, z_F1, if_pos rfl]
theorem zm_pgs_small {R m : Nat} (hR : 1 ≤ R) (hm : m ≤ 8192) : z_pgs R m ≤ 8192 := by
  rw [z_pgs_fit (by omega)]
  exact Nat.le_trans hm (Nat.le_mul_of_pos_right _ (by omega))
theorem zm_no216 {x3 x5 x6 x7 t0 : Int32} {S : es_St} (h : ¬ 0 ≤ t0) : f_X8_join_216 es_NM z_fu x3 x5 x6 x7 t0 S = some (t0, es_F S 2 x5) := by
  unfold f_X8_join_216
  rw [if_neg h, z_lt]
theorem zm_join_end {P R na nb to fc fcW T nto kk : Nat} {pk0 : Int32} {ra rb : Nat → z_Rec} {S : es_St} (hok : z_ok P R) (hto : to < 6) (hna : na ≤ 8192) (hnb : nb ≤ 8192) (ha : z_mon (z_ki ra) na) (hb : z_mon (z_ki rb) nb) (hJ : z_JM na nb ra rb S) (hTe : T = z_B (z_ki ra) (z_ki rb) nb na) (hT8 : T ≤ 8192) (hfc : fc ≤ P) (hfW : fcW + z_pgs R T = fc) (h1 : S.1 1 = nI R) (h7 : S.1 7 = pk0) (h3 : S.2 3 to = nI nto) (hnto : nto ≤ 8192) (hle : fcW + z_pgs R nto ≤ P) (h11 : S.1 11 = nI kk) (hkk : kk ≤ 1024) :
    ∃ S', f_X8_join_216 es_NM z_fu (nI to) (nI (P - fc)) (nI na) (nI nb) (nI T) S = some (nI T, S') ∧ z_keep [2, 3, 4, 7, 15] [1, 2, 3, 12, 13] S S' ∧ S'.1 2 = nI (P - (fcW + z_pgs R nto)) ∧ (∀ f, S'.2 3 f = if f = to then nI T else S.2 3 f) ∧ (∀ p, p < T → (S'.2 1 (8192 * to + p), S'.2 2 (8192 * to + p)) = z_pr ra rb na nb p) ∧ (∀ i, (i < 8192 * to ∨ 8192 * (to + 1) ≤ i) → S'.2 1 i = S.2 1 i ∧ S'.2 2 i = S.2 2 i) ∧
      (S'.2 12 0 = (S.1 3 + nI (z_pgs R na + z_pgs R nb)) + (S.1 4 + nI (z_pgs R T)) ∧ S'.2 12 1 = S.1 3 + nI (z_pgs R na + z_pgs R nb) ∧ S'.2 12 2 = S.1 4 + nI (z_pgs R T) ∧ S'.2 12 3 = S.1 5 ∧ S'.2 12 4 = S.1 6 ∧ S'.2 12 5 = z_pk (P - fc + z_pgs R T) pk0) ∧ S'.1 15 = nI kk ∧ ∀ q, q < kk → S'.2 13 q = S.2 7 q := by
  obtain ⟨a1, a2, a3, a4⟩ := id hok
  have pa := zm_pgs_small a3 hna
  have pb := zm_pgs_small a3 hnb
  have pT := zm_pgs_small a3 hT8
  obtain ⟨S1, hS1⟩ : ∃ S1 : es_St, S1 = es_F (es_F (es_F S 3 (S.1 3 + nI (z_pgs R na + z_pgs R nb))) 2 (nI (P - fc + z_pgs R T))) 4 (S.1 4 + nI (z_pgs R T)) := ⟨_, rfl⟩
  have k1 : z_keep [2, 3, 4] [] S S1 := by rw [hS1]; exact z_keep_trans (z_keep_trans (z_keep_F _ 3 _ (by simp)) (z_keep_F _ 2 _ (by simp))) (z_keep_F _ 4 _ (by simp))
  have e2 : S1.1 2 = nI (P - fc + z_pgs R T) := by rw [hS1, z_F1, if_neg (by decide), z_F1, if_pos rfl]
  have e7 : S1.1 7 = pk0 := (k1.1 7 (by decide)).trans h7
  have hpk : (if S1.1 2 ≤ S1.1 7 then f_X8_join_305 es_NM z_fu (nI to) (nI na) (nI nb) (nI T) (S1.1 7) S1 else f_X8_join_305 es_NM z_fu (nI to) (nI na) (nI nb) (nI T) (S1.1 2) S1) = f_X8_join_305 es_NM z_fu (nI to) (nI na) (nI nb) (nI T) (z_pk (P - fc + z_pgs R T) pk0) S1 := by
    unfold z_pk
    rw [e2, e7]
    split <;> rfl
  have hX : f_X8_join_216 es_NM z_fu (nI to) (nI (P - fc)) (nI na) (nI nb) (nI T) S = f_X8_join_305 es_NM z_fu (nI to) (nI na) (nI nb) (nI T) (z_pk (P - fc + z_pgs R T) pk0) S1 := by
    unfold f_X8_join_216
    have f1 : ∀ v, (es_F S 3 v).1 1 = nI R := fun v => by rw [z_F1, if_neg (by decide)]; exact h1
    have f2 : ∀ v v', (es_F (es_F S 3 v) 2 v').1 1 = nI R := fun v v' => by rw [z_F1, if_neg (by decide)]; exact f1 v
    have f4 : ∀ v v', (es_F (es_F S 3 v) 2 v').1 4 = S.1 4 := fun v v' => by rw [z_F1, if_neg (by decide), z_F1, if_neg (by decide)]
    rw [if_pos (nI_pos' (by omega)), zm_pagesOf ⟨a3, a4⟩ h1 (by omega), es_bd_s, zm_pagesOf ⟨a3, a4⟩ h1 (by omega), es_bd_s, nI_add, z_lt, z_lt, zm_pagesOf ⟨a3, a4⟩ (f1 _) (by omega), es_bd_s, nI_add, z_lt, z_lt, zm_pagesOf ⟨a3, a4⟩ (f2 _ _) (by omega), es_bd_s, f4, z_lt, z_lt, ← hS1]
    exact hpk
  obtain ⟨S2, hS2⟩ : ∃ S2 : es_St, S2 = es_F (es_F S1 7 (z_pk (P - fc + z_pgs R T) pk0)) 2 (nI (P - (fcW + z_pgs R nto))) := ⟨_, rfl⟩
  have k2 : z_keep [2, 7] [] S1 S2 := by rw [hS2]; exact z_keep_trans (z_keep_F _ 7 _ (by simp)) (z_keep_F _ 2 _ (by simp))
  have hJ2 : z_JM na nb ra rb S2 := by
    unfold z_JM
    rw [k2.2 17 (by decide), k2.2 18 (by decide), k2.2 19 (by decide), k2.2 20 (by decide), k1.2 17 (by decide), k1.2 18 (by decide), k1.2 19 (by decide), k1.2 20 (by decide)]
    exact hJ
  obtain ⟨S3, p1, p2⟩ := zm_puts2 (to := to) hto hna hnb ha hb hJ2 (by rw [← hTe]; exact hT8)
  rw [← hTe] at p2
  obtain ⟨q1, q2, q3⟩ := p2
  obtain ⟨S4, hS4⟩ : ∃ S4 : es_St, S4 = es_wr S3 3 (nI to) (nI T) := ⟨_, rfl⟩
  have k4 : z_keep [] [3] S3 S4 := by rw [hS4]; exact z_keep_w _ 3 _ _ (by simp)
  have g : ∀ j, j ≠ 2 → j ≠ 3 → j ≠ 4 → j ≠ 7 → S4.1 j = S.1 j := fun j x y z u => by rw [k4.1 j (by simp), q1.1 j (by simp), k2.1 j (by simp; omega), k1.1 j (by simp; omega)]
  obtain ⟨S5, t1, t2, ⟨t30, t31, t32, t33, t34, t35⟩, t4, t5⟩ := zm_tells (S := S4) (kk := kk) hkk (by rw [g 11 (by decide) (by decide) (by decide) (by decide)]; exact h11)
  have k14 : z_keep [2, 3, 4, 7] [1, 2, 3] S S4 := z_keep_trans (z_keep_mono k1 (by decide) (by decide)) (z_keep_trans (z_keep_mono k2 (by decide) (by decide)) (z_keep_trans (z_keep_mono q1 (by decide) (by decide)) (z_keep_mono k4 (by decide) (by decide))))
  have v3 : S4.1 3 = S.1 3 + nI (z_pgs R na + z_pgs R nb) := by rw [k4.1 3 (by simp), q1.1 3 (by simp), k2.1 3 (by decide), hS1, z_F1, if_neg (by decide), z_F1, if_neg (by decide), z_F1, if_pos rfl]
  have v4 : S4.1 4 = S.1 4 + nI (z_pgs R T) := by rw [k4.1 4 (by simp), q1.1 4 (by simp), k2.1 4 (by decide), hS1, z_F1, if_pos rfl]
  have v7 : S4.1 7 = z_pk (P - fc + z_pgs R T) pk0 := by rw [k4.1 7 (by simp), q1.1 7 (by simp), hS2, z_F1, if_neg (by decide), z_F1, if_pos rfl]
  refine ⟨S5, ?_, z_keep_trans (z_keep_mono k14 (by decide) (by decide)) (z_keep_mono t2 (by decide) (by decide)), ?_, fun f => ?_, fun p hp => ?_, fun i hi => ?_, ⟨?_, ?_, ?_, ?_, ?_, ?_⟩, t4, fun q hq => ?_⟩
  · rw [hX]
    unfold f_X8_join_305
    have f1 : (es_F S1 7 (z_pk (P - fc + z_pgs R T) pk0)).1 1 = nI R := by rw [z_F1, if_neg (by decide), k1.1 1 (by decide)]; exact h1
    rw [z_lt, es_ck_t (vp_in_nI (N := es_NM 3) hto (by decide)), z_rd _ 3 to (by omega), z_F2, k1.2 3 (by decide), h3, z_lt, zm_pagesOf ⟨a3, a4⟩ f1 (by omega), es_bd_s, z_F1, if_neg (by decide), e2, pk_sub (by omega), show P - fc + z_pgs R T - z_pgs R nto = P - (fcW + z_pgs R nto) by omega, z_lt, z_lt, ← hS2, p1, es_bd_s, es_ck_t (vp_in_nI (N := es_NM 3) hto (by decide)), z_lt, ← hS4, t1, es_bd_s]
  · rw [t2.1 2 (by decide), k4.1 2 (by simp), q1.1 2 (by simp), hS2, z_F1, if_pos rfl]
  · rw [t2.2 3 (by decide), hS4, z_w2a _ _ _ _ (by omega), q1.2 3 (by decide), k2.2 3 (by decide), k1.2 3 (by decide)]
  · rw [t2.2 1 (by decide), t2.2 2 (by decide), k4.2 1 (by decide), k4.2 2 (by decide)]; exact q2 p hp
  · obtain ⟨y1, y2⟩ := q3 i hi
    rw [t2.2 1 (by decide), t2.2 2 (by decide), k4.2 1 (by decide), k4.2 2 (by decide), y1, y2, k2.2 1 (by decide), k2.2 2 (by decide), k1.2 1 (by decide), k1.2 2 (by decide)]
    exact ⟨rfl, rfl⟩
  · rw [t30, v3, v4]
  · rw [t31, v3]
  · rw [t32, v4]
  · rw [t33, g 5 (by decide) (by decide) (by decide) (by decide)]
  · rw [t34, g 6 (by decide) (by decide) (by decide) (by decide)]
  · rw [t35, v7]
  · rw [t5 q hq, k14.2 7 (by decide)]
