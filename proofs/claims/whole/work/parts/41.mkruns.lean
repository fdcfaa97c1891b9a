/-! ===== makeRuns, both sides ===== -/
theorem zm_fill_loop {R f n nb H : Nat} {x3 : Int32} (hR : 1 ≤ R ∧ R ≤ 16) (hf : f < 6) (hn : n ≤ 8192) (hH : H ≤ 224) (hnb : nb = if n < H then n else H) : ∀ (fu i : Nat) (S : es_St), i ≤ nb → nb - i < fu → S.1 1 = nI R → S.1 12 = nI i → S.1 16 = nI i → S.2 3 f = nI n → (∀ q, q < i → S.2 8 q = S.2 1 (8192 * f + q) ∧ S.2 9 q = S.2 2 (8192 * f + q) ∧ S.2 10 q = nI q ∧ S.2 11 q = nI 0) →
    ∃ S', f_X8_makeRuns_29 es_NM z_fu fu (nI f) (nI H) x3 S = f_X8_makeRuns_59 es_NM z_fu z_fu (nI f) x3 S' ∧ z_keep [3, 12, 16] [8, 9, 10, 11] S S' ∧ S'.1 3 = S.1 3 + nI (z_pgs R nb - z_pgs R i) ∧ S'.1 12 = nI nb ∧ S'.1 16 = nI nb ∧ (∀ q, q < nb → S'.2 8 q = S.2 1 (8192 * f + q) ∧ S'.2 9 q = S.2 2 (8192 * f + q) ∧ S'.2 10 q = nI q ∧ S'.2 11 q = nI 0) := by
  have hnbn : nb ≤ n := by rw [hnb]; split <;> omega
  have hnbH : nb ≤ H := by rw [hnb]; split <;> omega
  have hor : nb = n ∨ nb = H := by rw [hnb]; split <;> simp
  intro fu
  induction fu with
  | zero => intro i S _ h; exact absurd h (by omega)
  | succ fu ih =>
    intro i S hi hf' h1 h12 h16 h3 hL
    rw [f_X8_makeRuns_29, h12]
    by_cases e : i = nb
    · have hz : z_pgs R nb - z_pgs R i = 0 := by rw [e]; omega
      refine ⟨S, ?_, z_keep_rfl, by rw [hz]; exact (Int32.add_zero _).symm, by rw [h12, e], by rw [h16, e], by rw [← e]; exact hL⟩
      by_cases e2 : H ≤ i
      · rw [if_pos (nI_le e2 (by omega))]
      · rw [if_neg (nI_ge (by omega) (by omega)), es_ck_t (vp_in_nI (N := es_NM 3) hf (by decide)), z_lt, z_rd _ _ _ (by omega), h3, h16, if_pos (nI_le (by omega) (by omega))]
    · rw [if_neg (nI_ge (show i < H by omega) (by omega)), es_ck_t (vp_in_nI (N := es_NM 3) hf (by decide)), z_lt, z_rd _ _ _ (by omega), h3, h16, if_neg (nI_ge (show i < n by omega) (by omega))]
      obtain ⟨S1, g1, g2, g3, g4, g5, g6, g7, g8, g9⟩ := zm_takes (f := f) (tk := i) (h := i) (nx := 0) (S := S) hR hf (by omega) (by omega) (by omega) h1 h16 h12
      rw [show f_X8_takes es_NM z_fu S (nI f) 0 = _ from g1, es_bd_s]
      obtain ⟨S', k1, k2, k3, k4, k5, k6⟩ := ih (i + 1) S1 (by omega) (by omega) ((g2.1 1 (by decide)).trans h1) g4 g5 (by rw [g2.2 3 (by decide)]; exact h3) (fun q hq => by
        rw [g6, g7, g8, g9, g2.2 1 (by decide), g2.2 2 (by decide)]
        by_cases eq : q = i
        · rw [if_pos eq, if_pos eq, if_pos eq, if_pos eq, eq]; exact ⟨rfl, rfl, rfl, rfl⟩
        · rw [if_neg eq, if_neg eq, if_neg eq, if_neg eq]; exact hL q (by omega))
      rw [g2.2 1 (by decide), g2.2 2 (by decide)] at k6
      refine ⟨S', k1, z_keep_trans g2 k2, ?_, k4, k5, k6⟩
      rw [k3, g3]
      have hmono : z_pgs R (i + 1) ≤ z_pgs R nb := by unfold z_pgs; exact Nat.div_le_div_right (by omega)
      by_cases em : i % R = 0
      · have hp := z_pgs_succ0 hR.1 em
        rw [if_pos em, Int32.add_assoc, show (1 : Int32) + nI (z_pgs R nb - z_pgs R (i + 1)) = nI (1 + (z_pgs R nb - z_pgs R (i + 1))) from nI_add 1 _]
        congr 2
        omega
      · rw [if_neg em, z_pgs_succ1 hR.1 em]
theorem z_makeRuns {P R f n ba rb bu H : Nat} {md onv hd : Int32} {pg0 : Nat → Nat → Nat} {rc0 : Nat → Nat → z_Rec} {lo0 hi0 : Nat → Nat} {SX SM : es_St} {fc : Nat} (hok : z_ok P R) (hf6 : f < 6) (hba : 6 ≤ ba) (hn : n ≤ 8192) (hrb : rb ≤ P) (hbu : 3 ≤ bu ∧ bu ≤ 16) (hH : H = (bu - 2) * R) (hlo0 : lo0 f = 0) (hhi0 : hi0 f = z_pgs R n) (honv : es_B onv) (hhd : 0 < n → hd = nI (pg0 f 0)) (hD : z_DI P R SX pg0 rc0 lo0 hi0 fc) (hdead : ∀ c, ba ≤ c → lo0 c = 0 ∧ hi0 c = 0)
    (x13 : SX.1 13 = nI bu) (x14 : SX.1 14 = md) (x15 : SX.1 15 = onv) (x12 : SX.1 12 = nI 0) (x24 : SX.1 24 = nI rb) (hac : z_AC P R fc SX SM) (m3 : SM.1 3 = SX.1 22) (m13 : SM.1 13 = md) (m14 : SM.1 14 = onv) (m11 : SM.1 11 = nI rb) (m5 : SM.1 5 = nI rb) (m6 : SM.1 6 = SX.1 25) (m3f : SM.2 3 f = nI n) (hrec : ∀ j, j < n → (SM.2 1 (8192 * f + j), SM.2 2 (8192 * f + j)) = rc0 f j) (hrl : ∀ i, i < rb → SX.2 22 i = SM.2 7 i) :
    ∃ (r : Int32) (SX' SM' : es_St), f_X5_makeRuns (es_NX P R) z_fu SX hd (nI n) = some (r, SX') ∧ f_X8_makeRuns es_NM z_fu SM (nI f) (nI H) = some (0, SM') ∧ ((r = 0 ∧ z_FL P R ba pg0 rc0 lo0 hi0 SX SM SX' SM') ∨ (r = 1 ∧ z_OKR P R ba md onv pg0 rc0 lo0 hi0 SX SM SX' SM' rb)) := by
  have hTR := es_TR hok.2.2
  have hfu := z_fu_ge
  obtain ⟨a1, a2, a3, a4⟩ := id hok
  have hHT : H ≤ es_T R := by
    rw [hH]
    have : (bu - 2) * R ≤ 14 * R := Nat.mul_le_mul_right R (by omega)
    unfold es_T
    split <;> omega
  have hH1 : 1 ≤ H := by
    rw [hH]
    have : 1 * R ≤ (bu - 2) * R := Nat.mul_le_mul_right R (by omega)
    omega
  obtain ⟨nb, hnb⟩ : ∃ nb, nb = if n < H then n else H := ⟨_, rfl⟩
  have hnbn : nb ≤ n := by rw [hnb]; split <;> omega
  have hnbH : nb ≤ H := by rw [hnb]; split <;> omega
  have hnb0 : 0 < n → 0 < nb := fun h => by rw [hnb]; split <;> omega
  -- the class
  obtain ⟨SX1, g1, g2, g3, g4, g5, g6, g7⟩ := zx_fillMemory (S := SX) (hd := hd) hok hn hbu x13 hH hnb hD hlo0 hhi0 hhd
  obtain ⟨SX2, b, b1, b2, b3⟩ := zx_build (S := SX1) (n := nb) hok (by omega) g5 (fun i j hi hj hne y => by
    rw [(g7 i hi).2.2, (g7 j hj).2.2] at y
    exact hne ((nI_eq (by omega) (by omega)).mp y))
  obtain ⟨SX3, o1, o2, o3, o4⟩ := zx_oopen (P := P) (R := R) (S := SX2) (oc := ba + 2 * 0) (pg := pg0) (rc := rc0) (lo := lo0) (hi := hi0) (oo := fun _ => (0, 0)) (b := onv) honv (by omega) (hdead _ (by omega)).1 (hdead _ (by omega)).2
  have hX : f_X5_makeRuns (es_NX P R) z_fu SX hd (nI n) = f_X5_makeRuns_31 (es_NX P R) z_fu z_fu (nI n) (nI 0) (nI nb) (nI 0) SX3 := by
    unfold f_X5_makeRuns
    rw [g1, es_bd_s, b1, es_bd_s, b2.1 15 (by decide), g2.1 15 (by decide), x15, o1, es_bd_s]
    rfl
  -- the reference
  obtain ⟨SM1, hSM1⟩ : ∃ S, S = es_F (es_F (es_wr (es_F (es_F SM 9 0) 10 0) 6 0 0) 12 0) 16 0 := ⟨_, rfl⟩
  have kM1 : z_keep [9, 10, 12, 16] [6] SM SM1 := by rw [hSM1]; exact z_keep_trans (z_keep_trans (z_keep_trans (z_keep_trans (z_keep_F _ 9 _ (by simp)) (z_keep_F _ 10 _ (by simp))) (z_keep_w _ 6 _ _ (by simp))) (z_keep_F _ 12 _ (by simp))) (z_keep_F _ 16 _ (by simp))
  have s16 : SM1.1 16 = nI 0 := by rw [hSM1, z_F1, if_pos rfl]; rfl
  have s12 : SM1.1 12 = nI 0 := by rw [hSM1, z_F1, if_neg (by decide), z_F1, if_pos rfl]; rfl
  have s10 : SM1.1 10 = nI 0 := by rw [hSM1, z_F1, if_neg (by decide), z_F1, if_neg (by decide), z_w1, z_F1, if_pos rfl]; rfl
  have s9 : SM1.1 9 = 0 := by rw [hSM1, z_F1, if_neg (by decide), z_F1, if_neg (by decide), z_w1, z_F1, if_neg (by decide), z_F1, if_pos rfl]
  have s6 : SM1.2 6 0 = nI 0 := by rw [hSM1, z_F2, z_F2, show (0 : Int32) = nI 0 from rfl, z_w2a _ _ _ _ (by decide), if_pos rfl]
  obtain ⟨SM2, k1, k2, k3, k4, k5, k6⟩ := zm_fill_loop (R := R) (f := f) (n := n) (nb := nb) (H := H) (x3 := nI 0) ⟨a3, a4⟩ hf6 hn (by omega) hnb z_fu 0 SM1 (by omega) (by omega) (by rw [kM1.1 1 (by decide)]; exact hac.2.1) s12 s16 (by rw [kM1.2 3 (by decide)]; exact m3f) (fun q hq => absurd hq (by omega))
  have hM : f_X8_makeRuns es_NM z_fu SM (nI f) (nI H) = f_X8_makeRuns_59 es_NM z_fu z_fu (nI f) (nI ((fun _ : Nat => 0) 0 + 0)) SM2 := by
    unfold f_X8_makeRuns
    rw [z_lt, z_lt, es_ck_t (show vp_in 0 (es_NM 6) from vp_in_nI (n := 0) (N := es_NM 6) (by decide) (by decide)), z_lt, z_lt, z_lt, ← hSM1]
    exact k1
  rw [hX, hM]
  have x22 : SX3.1 22 = SX.1 22 + nI (z_pgs R nb) := by rw [o2.1 22 (by decide), b2.1 22 (by decide)]; exact g3
  have m22 : SM2.1 3 = SM.1 3 + nI (z_pgs R nb) := by rw [k3, kM1.1 3 (by decide), z_pgs_0 (by omega), Nat.sub_zero]
  have e30 : SX3.2 30 = SX1.2 30 := by rw [o2.2 30 (by decide), b2.2 30 (by decide)]
  have e31 : SX3.2 31 = SX1.2 31 := by rw [o2.2 31 (by decide), b2.2 31 (by decide)]
  have e32 : SX3.2 32 = SX1.2 32 := by rw [o2.2 32 (by decide), b2.2 32 (by decide)]
  have e33 : SX3.2 33 = SX1.2 33 := by rw [o2.2 33 (by decide), b2.2 33 (by decide)]
  have kX3 : z_keep [3, 4, 7, 8, 9, 22, 32, 33] [24, 25, 26, 27, 28, 29, 30, 31, 32, 33, 34] SX SX3 := z_keep_trans (z_keep_mono g2 (by decide) (by decide)) (z_keep_trans (z_keep_mono b2 (by decide) (by decide)) (z_keep_mono o2 (by decide) (by decide)))
  have kM2 : z_keep [3, 9, 10, 12, 16] [6, 8, 9, 10, 11] SM SM2 := z_keep_trans (z_keep_mono kM1 (by decide) (by decide)) (z_keep_mono k2 (by decide) (by decide))
  refine z_mk_loop (SX0 := SX) (SM0 := SM) hok hf6 hba hn (by omega) hnb0 hrb hlo0 hhi0 honv m6 m5 hrl n z_fu z_fu SX3 SM2 pg0 rc0 lo0 hi0 fc 0 (fun _ => 0) (fun _ => 0) (fun _ => (0, 0)) 0 nb nb id (fun _ => 0) b 0 (Or.inl rfl) (by omega) (by omega) (by omega) ⟨⟨z_DI_same hD ⟨kX3.1 0 (by decide), kX3.1 1 (by decide), kX3.1 2 (by decide), kX3.2 11 (by decide), kX3.2 12 (by decide), kX3.2 13 (by decide), kX3.2 14 (by decide), kX3.2 15 (by decide)⟩, o4, ⟨o3, (kX3.1 14 (by decide)).trans x14, ?_, (kX3.1 15 (by decide)).trans x15, (kX3.1 12 (by decide)).trans x12, (kX3.1 24 (by decide)).trans x24, ?_⟩, fun c _ => ⟨rfl, rfl, rfl, rfl⟩, fun i hi => absurd hi (by omega), fun c hc _ => hdead c hc, z_lz_same g4 ?_ ?_ ?_ ?_ ?_ ?_⟩, ⟨z_AC_same hac (kX3.1 23 (by decide)) (kX3.1 26 (by decide)) (kM2.1 0 (by decide)) (kM2.1 1 (by decide)) (kM2.1 2 (by decide)) (kM2.1 4 (by decide)) (kM2.1 7 (by decide)) (kM2.1 8 (by decide)), ⟨by rw [m22, x22, m3], (kM2.1 13 (by decide)).trans m13, (kM2.1 14 (by decide)).trans m14, (k2.1 10 (by decide)).trans s10, (kM2.1 11 (by decide)).trans m11, (k2.1 9 (by decide)).trans s9, k4, k5, by rw [kM2.2 3 (by decide)]; exact m3f⟩, fun i hi => ?_, rfl, fun i hi => absurd hi (by omega), fun j hj => absurd hj (by omega), by rw [kM2.2 1 (by decide), kM2.2 2 (by decide)]; exact hrec⟩, ⟨fun q hq => ?_, fun q q' _ _ e => e, fun i hi hno => absurd rfl (hno i hi), fun i j hi hj hne y => ?_, fun i hi => ⟨i, hi, by rw [e33]; exact (g7 i hi).2.2⟩⟩, z_FT_same b3 (o2.1 33 (by decide)) (o2.2 30 (by decide)) (o2.2 31 (by decide)) (o2.2 32 (by decide)) (o2.2 33 (by decide)) (o2.2 34 (by decide)), ⟨by omega, ?_, Nat.le_refl 0, by omega⟩, Or.inr (fun _ _ => rfl), z_keep_mono kX3 (by decide) (by decide), z_keep_mono kM2 (by decide) (by decide), ⟨kX3.1 25 (by decide), kM2.1 6 (by decide), kM2.1 5 (by decide)⟩, ⟨fun i hi => absurd hi (by omega), fun j hj => absurd hj (by omega), fun hc => absurd hc (by omega)⟩, fun i _ => ⟨by rw [kX3.2 22 (by decide)], by rw [kM2.2 7 (by decide)]⟩⟩
  · rw [o2.1 33 (by decide), b2.1 33 (by decide), g6]; exact x14
  · rw [o2.1 32 (by decide), b2.1 32 (by decide)]; exact g5
  · rw [o2.2 24 (by decide), b2.2 24 (by decide)]
  · rw [o2.2 25 (by decide), b2.2 25 (by decide)]
  · rw [o2.2 26 (by decide), b2.2 26 (by decide)]
  · rw [o2.2 27 (by decide), b2.2 27 (by decide)]
  · rw [o2.2 28 (by decide), b2.2 28 (by decide)]
  · rw [o2.2 29 (by decide), b2.2 29 (by decide)]
  · have : i = 0 := by omega
    subst this
    rw [k2.2 6 (by decide)]; exact s6
  · obtain ⟨p1, p2, p3⟩ := g7 q hq
    obtain ⟨p4, p5, p6, p7⟩ := k6 q hq
    have hr := hrec q (by omega)
    rw [← p2] at hr
    obtain ⟨r1, r2⟩ := Prod.mk.inj hr
    rw [e30, e31, e32, e33, p4, p5, p6, p7, kM1.2 1 (by decide), kM1.2 2 (by decide)]
    exact ⟨hq, r1, r2, p3.symm, p1, Nat.zero_le _, rfl⟩
  · rw [e33, (g7 i hi).2.2, (g7 j hj).2.2] at y
    exact hne ((nI_eq (by omega) (by omega)).mp y)
  · by_cases c : nb ≤ n
    · exact Or.inl ⟨by omega, c⟩
    · omega
