/-! ===== the loop of makeRuns, both sides ===== -/
theorem z_AC_same {P R fc : Nat} {SX SX' SM SM' : es_St} (h : z_AC P R fc SX SM) (x23 : SX'.1 23 = SX.1 23) (x26 : SX'.1 26 = SX.1 26) (m0 : SM'.1 0 = SM.1 0) (m1 : SM'.1 1 = SM.1 1) (m2 : SM'.1 2 = SM.1 2) (m4 : SM'.1 4 = SM.1 4) (m7 : SM'.1 7 = SM.1 7) (m8 : SM'.1 8 = SM.1 8) : z_AC P R fc SX' SM' := by
  unfold z_AC at *
  rw [x23, x26, m0, m1, m2, m4, m7, m8]
  exact h
/-- both are through: k runs -/
theorem z_mk_done {P R f n nb ba rb ru : Nat} {md onv : Int32} {pg0 pg : Nat → Nat → Nat} {rc0 rc : Nat → Nat → z_Rec} {lo0 hi0 lo hi : Nat → Nat} {SX0 SM0 SX SM : es_St} {fc : Nat} {rl ps : Nat → Nat} (hok : z_ok P R) (hkX : z_keep z_KX z_AX SX0 SX) (hkM : z_keep z_KM z_AM SM0 SM) (hD : z_DI P R SX pg rc lo hi fc) (hac : z_AC P R fc SX SM) (x14 : SX.1 14 = md) (x15 : SX.1 15 = onv) (x12 : SX.1 12 = nI ru) (x24 : SX.1 24 = nI (rb + ru)) (m13 : SM.1 13 = md) (m14 : SM.1 14 = onv) (m10 : SM.1 10 = nI ru) (m11 : SM.1 11 = nI (rb + ru)) (m9 : SM.1 9 = 0) (m3 : SM.1 3 = SX.1 22) (m6 : SM.1 6 = SX.1 25) (m5 : SM.1 5 = nI rb)
    (hfil : ∀ c, c < ba → pg c = pg0 c ∧ rc c = rc0 c ∧ lo c = lo0 c ∧ hi c = hi0 c) (hruns : ∀ i, i < ru → lo (ba + 2 * i) = 0 ∧ hi (ba + 2 * i) = z_pgs R (rl i) ∧ 0 < rl i ∧ SX.2 18 i = nI (pg (ba + 2 * i) 0) ∧ SX.2 19 i = nI (rl i) ∧ SX.2 22 (rb + i) = nI (rl i)) (hdead : ∀ c, ba ≤ c → (∀ i, i < ru → c ≠ ba + 2 * i) → lo c = 0 ∧ hi c = 0) (hst : ∀ i, i ≤ ru → SM.2 6 i = nI (ps i)) (hps0 : ps 0 = 0) (hrM : ∀ i, i < ru → ps (i + 1) = ps i + rl i ∧ SM.2 7 (rb + i) = nI (rl i) ∧ ∀ j, j < rl i → (SM.2 4 (ps i + j), SM.2 5 (ps i + j)) = rc (ba + 2 * i) j) (hle : ps ru ≤ 8192) (hL : ∀ i, i < rb → SX.2 22 i = SM.2 7 i) (hsrt : ∀ i, i < ru → z_srt md (rc (ba + 2 * i)) (rl i)) :
    z_OKR P R ba md onv pg0 rc0 lo0 hi0 SX0 SM0 SX (es_F SM 5 (SM.1 5 + SM.1 10)) rb := by
  have f1 : ∀ j, j ≠ 5 → (es_F SM 5 (SM.1 5 + SM.1 10)).1 j = SM.1 j := fun j hj => by rw [z_F1, if_neg hj]
  have hru : ru ≤ P := z_runs_le hD (ba := ba) (fun i hi => by
    obtain ⟨e1, e2, e3, -⟩ := hruns i hi
    refine ⟨e1, ?_⟩
    rw [e2]
    have := z_pgs_lt (R := R) (n := rl i) (j := 0) (by have := hok.2.2.1; omega) e3
    rw [Nat.zero_div] at this
    exact this)
  refine ⟨hkX, z_keep_trans hkM (z_keep_F _ 5 _ (by decide)), pg, rc, lo, hi, fc, ru, rl, ps, fun i => ba + 2 * i, 0, ba + 2 * ru, rb + ru, ⟨hD, z_AC_same hac rfl rfl (f1 0 (by decide)) (f1 1 (by decide)) (f1 2 (by decide)) (f1 4 (by decide)) (f1 7 (by decide)) (f1 8 (by decide)), ⟨x14, x15, x12, (f1 13 (by decide)).trans m13, (f1 14 (by decide)).trans m14, (f1 10 (by decide)).trans m10, (f1 9 (by decide)).trans m9, Or.inl rfl, (f1 3 (by decide)).trans m3, (f1 6 (by decide)).trans m6⟩, hfil, fun i hi => ?_, fun i j _ _ e => by dsimp only at e; omega, fun c hc hne => ?_, fun c hc => hdead c (by omega) (fun i hi => by omega), by omega, ?_, hps0, fun i hi => ?_, hle, hsrt⟩, by omega, ?_⟩
  · obtain ⟨e1, e2, e3, e4, e5, -⟩ := hruns i hi
    exact ⟨by dsimp only; omega, by dsimp only; omega, e1, e2, e3, e4, e5⟩
  · have := hdead c hc hne
    omega
  · rw [z_F2]; exact hst
  · rw [z_F2]
    obtain ⟨e1, -, e3⟩ := hrM i hi
    refine ⟨e1, fun j hj => ?_⟩
    rw [Nat.zero_add]; exact e3 j hj
  · refine ⟨x24, (f1 11 (by decide)).trans m11, by rw [z_F1, if_pos rfl, m5, m10, nI_add], fun i hi => ?_⟩
    rw [z_F2]
    rcases Nat.lt_or_ge i rb with z | z
    · exact hL i z
    · have e : i = rb + (i - rb) := by omega
      rw [e, (hruns (i - rb) (by omega)).2.2.2.2.2, (hrM (i - rb) (by omega)).2.1]
theorem z_ended_srt {md : Int32} {nb ru ba cn a : Nat} {SX SM SM1 : es_St} {rc rc' : Nat → Nat → z_Rec} {rl ps : Nat → Nat} {oo : Nat → z_Rec} (h : z_SO md nb ru ba SX rc rl oo cn) (hrM : ∀ i, i < ru → ∀ j, j < rl i → (SM.2 4 (z_set1 ps (ru + 1) a i + j), SM.2 5 (z_set1 ps (ru + 1) a i + j)) = rc (ba + 2 * i) j) (hoM : ∀ j, j < cn → (SM.2 4 (ps ru + j), SM.2 5 (ps ru + j)) = oo j) (e4 : SM1.2 4 = SM.2 4) (e5 : SM1.2 5 = SM.2 5) (hq : ∀ i, i < ru + 1 → ∀ j, j < z_set1 rl ru cn i → (SM1.2 4 (z_set1 ps (ru + 1) a i + j), SM1.2 5 (z_set1 ps (ru + 1) a i + j)) = rc' (ba + 2 * i) j) : ∀ i, i < ru + 1 → z_srt md (rc' (ba + 2 * i)) (z_set1 rl ru cn i) := fun i hi => by
  have h2 := hq i hi
  by_cases e : i = ru
  · subst e
    rw [z_s1a] at h2 ⊢
    refine z_srt_congr h.2.1 (fun j hj => ?_)
    rw [← h2 j hj, z_s1b _ _ (by omega), e4, e5]; exact hoM j hj
  · rw [z_s1b _ _ e] at h2 ⊢
    refine z_srt_congr (h.1 i (by omega)) (fun j hj => ?_)
    rw [← h2 j hj, e4, e5]; exact hrM i (by omega) j hj
theorem z_mk_loop {P R f n nb ba rb : Nat} {md onv : Int32} {pg0 : Nat → Nat → Nat} {rc0 : Nat → Nat → z_Rec} {lo0 hi0 : Nat → Nat} {SX0 SM0 : es_St} (hok : z_ok P R) (hf6 : f < 6) (hba : 6 ≤ ba) (hn : n ≤ 8192) (hnb : nb ≤ es_T R) (hnb0 : 0 < n → 0 < nb) (hrb : rb ≤ P) (hlo0 : lo0 f = 0) (hhi0 : hi0 f = z_pgs R n) (honv : es_B onv) (hps : SM0.1 6 = SX0.1 25) (hrn : SM0.1 5 = nI rb) (hrl : ∀ i, i < rb → SX0.2 22 i = SM0.2 7 i) :
    ∀ (gap fX fM : Nat) (SX SM : es_St) (pg : Nat → Nat → Nat) (rc : Nat → Nat → z_Rec) (lo hi : Nat → Nat) (fc ru : Nat) (rl ps : Nat → Nat) (oo : Nat → z_Rec) (cn tk h : Nat) (lam nx : Nat → Nat) (b d : Nat), (d = 0 ∨ 0 < cn) → n - d = gap → gap < fX → 2 * gap + 2 < fM → z_HD P R f n nb ba rb md onv pg0 rc0 lo0 hi0 SX0 SM0 SX SM pg rc lo hi fc ru rl ps oo cn tk h lam nx b d →
    ∃ (r : Int32) (SX' SM' : es_St), f_X5_makeRuns_31 (es_NX P R) z_fu fX (nI n) (nI ru) (nI nb) (nI d) SX = some (r, SX') ∧ f_X8_makeRuns_59 es_NM z_fu fM (nI f) (nI (ps ru + cn)) SM = some (0, SM') ∧ ((r = 0 ∧ z_FL P R ba pg0 rc0 lo0 hi0 SX0 SM0 SX' SM') ∨ (r = 1 ∧ z_OKR P R ba md onv pg0 rc0 lo0 hi0 SX0 SM0 SX' SM' rb)) := by
  have hTR := es_TR hok.2.2
  obtain ⟨a1, a2, a3, a4⟩ := id hok
  intro gap
  induction gap with
  | zero =>
    intro fX fM SX SM pg rc lo hi fc ru rl ps oo cn tk h lam nx b d hdc hgap hfX hfM H
    obtain ⟨hRX, hRM, hRT, hFT, ⟨hdh, htk, hcd, hdn⟩, hcn0, hkX, hkM, ⟨e25, e6, e5⟩, hSO, hL⟩ := id H
    obtain ⟨hlive, hruP⟩ := z_runs_leX hok.2.2.1 hRX
    obtain ⟨hD, hO, ⟨x7, x14, x33, x15, x12, x24, x32⟩, hfil, hruns, hdead, hlz⟩ := id hRX
    obtain ⟨hac, ⟨m3, m13, m14, m10, m11, m9, m12, m16, m3f⟩, hst, hps0, hrM, hoM, hfile⟩ := id hRM
    have hd : d = n := by omega
    have hh : h = 0 := by omega
    have hmono : ∀ i, i ≤ ru → ps i ≤ ps ru := z_ps_mono (fun i hi => (hrM i hi).1)
    have hv1 : z_set1 ps (ru + 1) (ps ru + cn) 1 ≤ 8192 := by
      by_cases e : ru = 0
      · subst e; rw [z_s1a]; omega
      · rw [z_s1b _ _ (by omega)]; have := hmono 1 (by omega); omega
    obtain ⟨fX', rfl⟩ : ∃ k, fX = k + 1 := ⟨fX - 1, by omega⟩
    obtain ⟨fM', rfl⟩ : ∃ k, fM = k + 1 := ⟨fM - 1, by omega⟩
    have hM0 : f_X8_makeRuns_59 es_NM z_fu (fM' + 1) (nI f) (nI (ps ru + cn)) SM = f_X8_makeRuns_301 es_NM z_fu (nI (ps ru + cn)) SM := by
      rw [f_X8_makeRuns_59, m12, hh, if_pos (by decide)]
    rw [hM0, zm_301_end (fr := ps ru) (show ru < 8199 by omega) m10 (hst ru (Nat.le_refl _)) (by omega), f_X5_makeRuns_31, hd, if_pos (nI_le (Nat.le_refl _) (by omega))]
    by_cases en : n = 0
    · have hcn : cn = 0 := by omega
      rw [if_pos hcn, if_pos (show nI n < 1 from nI_lt (b := 1) (by omega) (by decide))]
      refine ⟨1, SX, _, rfl, rfl, Or.inr ⟨rfl, ?_⟩⟩
      refine z_mk_done (f := f) (n := n) (nb := nb) (ru := ru) (rl := rl) (ps := ps) hok hkX hkM hD hac x14 x15 x12 x24 m13 m14 m10 m11 m9 m3 (by rw [e6, e25]; exact hps) (by rw [e5]; exact hrn) hfil hruns (fun c hc hne => ?_) hst hps0 hrM (by omega) (fun i hi => by rw [(hL i hi).1, (hL i hi).2]; exact hrl i hi) hSO.1
      by_cases e : c = ba + 2 * ru
      · subst e
        have h1 := hO.2.2.1
        have h2 := hO.2.2.2.1
        rw [hcn, Nat.zero_div] at h2
        exact ⟨h1, h2⟩
      · exact hdead c hc (fun i hi => by
          rcases Nat.lt_or_ge i ru with z | z
          · exact hne i z
          · have : i = ru := by omega
            rw [this]; exact e)
    · have hcn : 0 < cn := by omega
      rw [if_neg (show ¬ cn = 0 by omega), if_neg (show ¬ nI n < 1 from nI_nlt (b := 1) (by omega) (by omega))]
      obtain ⟨r, SX1, SM1, pg', rc', hi', fc', g1, g2, g3, g4, g5, g6, g7, g8, g9, g10, g11⟩ := z_ended (h := h) hok hba hrb hRX hRM hcn (by omega)
      rw [g1, g2, es_bd_s, es_bd_s]
      have kX1 := z_keep_trans hkX (z_keep_mono g3 (fs' := z_KX) (ks' := z_AX) (by decide) (by decide))
      have kM1 := z_keep_trans hkM (z_keep_mono g4 (fs' := z_KM) (ks' := z_AM) (by decide) (by decide))
      rcases g11 with ⟨rfl, hfull⟩ | ⟨rfl, hac1, q12, q24, qL, qruns, qdead, qps0, qrM⟩
      · rw [if_pos rfl]
        refine ⟨0, SX1, _, rfl, rfl, Or.inl ⟨rfl, pg', rc', lo, hi', fc', g5, g6, kX1, z_keep_trans kM1 (z_keep_F _ 5 _ (by decide)), ?_, ⟨0, by omega, ?_⟩, fun _ => ?_⟩⟩
        · rw [z_F1, if_neg (by decide)]; exact hfull
        · rw [z_F1, if_neg (by decide), g4.1 9 (by decide)]; exact m9
        · rw [z_F2, g9 1 (by omega)]
          exact ⟨_, hv1, rfl⟩
      · rw [if_neg (by decide)]
        refine ⟨1, SX1, _, rfl, rfl, Or.inr ⟨rfl, ?_⟩⟩
        refine z_mk_done (f := f) (n := n) (nb := nb) (ru := ru + 1) (rl := z_set1 rl ru cn) (ps := z_set1 ps (ru + 1) (ps ru + cn)) hok kX1 kM1 g5 hac1 ((g3.1 14 (by decide)).trans x14) ((g3.1 15 (by decide)).trans x15) q12 q24 ((g4.1 13 (by decide)).trans m13) ((g4.1 14 (by decide)).trans m14) g7 g8 ((g4.1 9 (by decide)).trans m9) (by rw [g4.1 3 (by decide), g3.1 22 (by decide)]; exact m3) (by rw [g4.1 6 (by decide), g3.1 25 (by decide), e6, e25]; exact hps) (by rw [g4.1 5 (by decide), e5]; exact hrn) g6 qruns (fun c hc hne => qdead c hc (fun i hi => hne i (by omega))) g9 qps0 qrM (by rw [z_s1a]; omega) (fun i hi => by rw [qL i hi, g10 i hi, (hL i hi).1, (hL i hi).2]; exact hrl i hi) (z_ended_srt hSO (fun i hi j hj => by rw [z_s1b _ _ (by omega)]; exact (hrM i hi).2.2 j hj) hoM (g4.2 4 (by decide)) (g4.2 5 (by decide)) (fun i hi => (qrM i hi).2.2))
  | succ gap ih =>
    intro fX fM SX SM pg rc lo hi fc ru rl ps oo cn tk h lam nx b d hdc hgap hfX hfM H
    obtain ⟨hRX, hRM, hRT, hFT, ⟨hdh, htk, hcd, hdn⟩, hcn0, hkX, hkM, ⟨e25, e6, e5⟩, hSO, hL⟩ := id H
    obtain ⟨hlive, hruP⟩ := z_runs_leX hok.2.2.1 hRX
    obtain ⟨hD, hO, ⟨x7, x14, x33, x15, x12, x24, x32⟩, hfil, hruns, hdead, hlz⟩ := id hRX
    obtain ⟨hac, ⟨m3, m13, m14, m10, m11, m9, m12, m16, m3f⟩, hst, hps0, hrM, hoM, hfile⟩ := id hRM
    have hmono : ∀ i, i ≤ ru → ps i ≤ ps ru := z_ps_mono (fun i hi => (hrM i hi).1)
    have hv1 : z_set1 ps (ru + 1) (ps ru + cn) 1 ≤ 8192 := by
      by_cases e : ru = 0
      · subst e; rw [z_s1a]; omega
      · rw [z_s1b _ _ (by omega)]; have := hmono 1 (by omega); omega
    have hd : d < n := by omega
    have hnb1 := hnb0 (by omega)
    have hh : 0 < h := by omega
    have hh2 : h ≤ 224 := by omega
    obtain ⟨hbn, -, -⟩ := z_FT_best hnb1 hFT
    obtain ⟨fX', rfl⟩ : ∃ k, fX = k + 1 := ⟨fX - 1, by omega⟩
    rw [f_X5_makeRuns_31, if_neg (nI_ge hd (by omega)), zx_winner hok hnb1 hnb x32 hFT, es_bd_s, zx_roundOf hok hnb x32 hbn, es_bd_s]
    rcases z_pick (by omega) (by omega) hh hh2 m12 (m13.trans x33.symm) hRT hFT with ⟨q, hq, hlam, hnx, h30, hfirst⟩ | ⟨hall, h30, hfirst⟩
    · rw [h30, if_pos rfl]
      obtain ⟨fM', rfl⟩ : ∃ k, fM = k + 2 := ⟨fM - 2, by omega⟩
      rcases z_turn hok hf6 hba hn hnb hrb hlo0 hhi0 H hd hq hlam hnx hfirst (fun x2 x3 x4 x5 S => f_X5_makeRuns_31 (es_NX P R) z_fu fX' x2 x3 x4 x5 S) with ⟨SX', SM', t1, t2, t3⟩ | ⟨SX', SM', pg', rc', hi', fc', oo', cn', tk', h', lam', nx', b', t0, t1, t2, t3⟩
      · exact ⟨0, SX', SM', t1, t2 fM', Or.inl ⟨rfl, t3⟩⟩
      · rw [t1, t2 (fM' + 1)]
        exact ih fX' (fM' + 1) SX' SM' pg' rc' lo hi' fc' ru rl ps oo' cn' tk' h' lam' nx' b' (d + 1) (Or.inr t0) (by omega) (by omega) (by omega) t3
    · -- the run is at its end
      have hcn : 0 < cn := by
        rcases hcn0 with z | z
        · exact z
        · have := hall 0 hh; rw [z 0 hh] at this; omega
      rw [h30, if_neg (show ¬ nI (ru + 1) = nI ru from fun y => by have := (nI_eq (by omega) (by omega)).mp y; omega)]
      obtain ⟨r, SX1, SM1, pg', rc', hi', fc', g1, g2, g3, g4, g5, g6, g7, g8, g9, g10, g11⟩ := z_ended (h := h) hok hba hrb hRX hRM hcn (by omega)
      have kX1 := z_keep_trans hkX (z_keep_mono g3 (fs' := z_KX) (ks' := z_AX) (by decide) (by decide))
      have kM1 := z_keep_trans hkM (z_keep_mono g4 (fs' := z_KM) (ks' := z_AM) (by decide) (by decide))
      obtain ⟨fM', rfl⟩ : ∃ k, fM = k + 3 := ⟨fM - 3, by omega⟩
      obtain ⟨SM2, w1, w2, w3⟩ := zm_reset (h := h) (k59 := fun x1 x3 S => f_X8_makeRuns_59 es_NM z_fu (fM' + 2) x1 x3 S) (x1 := nI f) (x3 := nI (ps ru + cn)) hh2 z_fu 0 SM1 (by omega) (by have := z_fu_ge; omega) ((g4.1 12 (by decide)).trans m12) (fun q hq => absurd hq (by omega))
      have hM0 : f_X8_makeRuns_59 es_NM z_fu (fM' + 3) (nI f) (nI (ps ru + cn)) SM = f_X8_makeRuns_59 es_NM z_fu (fM' + 2) (nI f) (nI (ps ru + cn)) SM2 := by
        rw [f_X8_makeRuns_59, m12, if_neg (show ¬ nI h ≤ 0 from nI_nle hh (by omega)), hac.2.2.2.2.2.1, if_neg (by simp), hfirst, es_bd_s, if_neg (by decide), g2, es_bd_s]
        exact w1
      rw [hM0, g1, es_bd_s]
      rcases g11 with ⟨rfl, hfull⟩ | ⟨rfl, hac1, q12, q24, qL, qruns, qdead, qps0, qrM⟩
      · rw [if_neg (by simp), zm_59_full ((w2.1 8 (by decide)).trans hfull)]
        obtain ⟨SM3, v1, v2, v3, v4⟩ := zm_301_full (R := R) (ru := ru + 1) (fr := ps ru + cn) (cn := 0) (fi := rb + ru + 1) (S := SM2) ⟨a3, a4⟩ (by rw [w2.1 1 (by decide), g4.1 1 (by decide)]; exact hac.2.1) ((w2.1 8 (by decide)).trans hfull) (by omega) (by omega) ((w2.1 10 (by decide)).trans g7) ((w2.1 11 (by decide)).trans g8) (by rw [w2.2 6 (by decide), g9 (ru + 1) (Nat.le_refl _), z_s1a]) (by omega) (fun _ => ⟨_, hv1, by rw [w2.2 6 (by decide), g9 1 (by omega)]⟩)
        rw [Nat.add_zero] at v1
        exact ⟨0, SX1, SM3, rfl, v1, Or.inl ⟨rfl, pg', rc', lo, hi', fc', g5, g6, kX1, z_keep_trans kM1 (z_keep_trans (z_keep_mono w2 (by decide) (by decide)) (z_keep_mono v2 (by decide) (by decide))), v3, ⟨0, by omega, by rw [v2.1 9 (by decide), w2.1 9 (by decide), g4.1 9 (by decide)]; exact m9⟩, v4⟩⟩
      · rw [if_pos (by decide), nI_1, z_lt, g3.1 15 (by decide), x15]
        obtain ⟨SX2, o1, o2, o3, o4⟩ := zx_oopen (P := P) (R := R) (S := SX1) (oc := ba + 2 * (ru + 1)) (pg := pg') (rc := rc') (lo := lo) (hi := hi') (oo := oo) (b := onv) honv (by omega) (qdead _ (by omega) (fun i hi => by omega)).1 (qdead _ (by omega) (fun i hi => by omega)).2
        rw [o1, es_bd_s]
        have kX2 := z_keep_trans kX1 (z_keep_mono o2 (fs' := z_KX) (ks' := z_AX) (by decide) (by decide))
        have kM2 := z_keep_trans kM1 (z_keep_mono w2 (fs' := z_KM) (ks' := z_AM) (by decide) (by decide))
        have n1 : z_set1 ps (ru + 1) (ps ru + cn) (ru + 1) = ps ru + cn := z_s1a _ _ _
        have hRT2 : z_RT nb (ru + 1) tk h SX2 SM2 lam (fun _ => 0) := z_RT_next hRT hall (by rw [o2.2 30 (by decide), g3.2 30 (by decide)]) (by rw [o2.2 31 (by decide), g3.2 31 (by decide)]) (by rw [o2.2 32 (by decide), g3.2 32 (by decide)]) (by rw [o2.2 33 (by decide), g3.2 33 (by decide)]) (by rw [w2.2 8 (by decide), g4.2 8 (by decide)]) (by rw [w2.2 9 (by decide), g4.2 9 (by decide)]) (by rw [w2.2 10 (by decide), g4.2 10 (by decide)]) w3
        have hFT2 : z_FT SX2 nb b := z_FT_same hFT (by rw [o2.1 33 (by decide), g3.1 33 (by decide)]) (by rw [o2.2 30 (by decide), g3.2 30 (by decide)]) (by rw [o2.2 31 (by decide), g3.2 31 (by decide)]) (by rw [o2.2 32 (by decide), g3.2 32 (by decide)]) (by rw [o2.2 33 (by decide), g3.2 33 (by decide)]) (by rw [o2.2 34 (by decide), g3.2 34 (by decide)])
        have m13' : SM2.1 13 = md := by rw [w2.1 13 (by decide), g4.1 13 (by decide)]; exact m13
        have m12' : SM2.1 12 = nI h := by rw [w2.1 12 (by decide), g4.1 12 (by decide)]; exact m12
        have x33' : SX2.1 33 = md := by rw [o2.1 33 (by decide), g3.1 33 (by decide)]; exact x33
        have H2 : z_HD P R f n nb ba rb md onv pg0 rc0 lo0 hi0 SX0 SM0 SX2 SM2 pg' rc' lo hi' fc' (ru + 1) (z_set1 rl ru cn) (z_set1 ps (ru + 1) (ps ru + cn)) oo 0 tk h lam (fun _ => 0) b d := by
          refine ⟨⟨z_DI_same g5 ⟨o2.1 0 (by decide), o2.1 1 (by decide), o2.1 2 (by decide), o2.2 11 (by decide), o2.2 12 (by decide), o2.2 13 (by decide), o2.2 14 (by decide), o2.2 15 (by decide)⟩, o4, ⟨o3, by rw [o2.1 14 (by decide), g3.1 14 (by decide)]; exact x14, x33', by rw [o2.1 15 (by decide), g3.1 15 (by decide)]; exact x15, (o2.1 12 (by decide)).trans q12, (o2.1 24 (by decide)).trans q24, by rw [o2.1 32 (by decide), g3.1 32 (by decide)]; exact x32⟩, g6, fun i hi => ?_, fun c hc hne => qdead c hc (fun i hi => hne i (by omega)), z_lz_same hlz (by rw [o2.2 24 (by decide), g3.2 24 (by decide)]) (by rw [o2.2 25 (by decide), g3.2 25 (by decide)]) (by rw [o2.2 26 (by decide), g3.2 26 (by decide)]) (by rw [o2.2 27 (by decide), g3.2 27 (by decide)]) (by rw [o2.2 28 (by decide), g3.2 28 (by decide)]) (by rw [o2.2 29 (by decide), g3.2 29 (by decide)])⟩, ⟨z_AC_same hac1 (o2.1 23 (by decide)) (o2.1 26 (by decide)) (w2.1 0 (by decide)) (w2.1 1 (by decide)) (w2.1 2 (by decide)) (w2.1 4 (by decide)) (w2.1 7 (by decide)) (w2.1 8 (by decide)), ⟨?_, m13', ?_, (w2.1 10 (by decide)).trans g7, (w2.1 11 (by decide)).trans g8, ?_, m12', ?_, ?_⟩, ?_, qps0, ?_, fun j hj => absurd hj (by omega), ?_⟩, hRT2, hFT2, ⟨hdh, htk, by rw [n1]; omega, hdn⟩, ?_, kX2, kM2, ⟨?_, ?_, ?_⟩, ⟨z_ended_srt hSO (fun i hi j hj => by rw [z_s1b _ _ (by omega)]; exact (hrM i hi).2.2 j hj) hoM (g4.2 4 (by decide)) (g4.2 5 (by decide)) (fun i hi => (qrM i hi).2.2), fun j hj => absurd hj (by omega), fun hc => absurd hc (by omega)⟩, fun i hi => ?_⟩
          · rw [o2.2 18 (by decide), o2.2 19 (by decide), o2.2 22 (by decide)]; exact qruns i hi
          · rw [w2.1 3 (by decide), g4.1 3 (by decide), o2.1 22 (by decide), g3.1 22 (by decide)]; exact m3
          · rw [w2.1 14 (by decide), g4.1 14 (by decide)]; exact m14
          · rw [w2.1 9 (by decide), g4.1 9 (by decide)]; exact m9
          · rw [w2.1 16 (by decide), g4.1 16 (by decide)]; exact m16
          · rw [w2.2 3 (by decide), g4.2 3 (by decide)]; exact m3f
          · rw [w2.2 6 (by decide)]; exact g9
          · rw [w2.2 7 (by decide), w2.2 4 (by decide), w2.2 5 (by decide)]; exact qrM
          · rw [w2.2 1 (by decide), g4.2 1 (by decide), w2.2 2 (by decide), g4.2 2 (by decide)]; exact hfile
          · exact Or.inr (fun _ _ => rfl)
          · rw [o2.1 25 (by decide), g3.1 25 (by decide)]; exact e25
          · rw [w2.1 6 (by decide), g4.1 6 (by decide)]; exact e6
          · rw [w2.1 5 (by decide), g4.1 5 (by decide)]; exact e5
          · rw [o2.2 22 (by decide), qL i hi, w2.2 7 (by decide), g10 i hi]; exact hL i hi
        obtain ⟨q, hq, hlam, hnx, -, hfirst2⟩ : ∃ q, q < h ∧ lam q = b ∧ (fun _ : Nat => 0) q = 0 ∧ SX2.2 30 b = nI (ru + 1) ∧ f_X8_first es_NM z_fu SM2 = some (nI q, SM2) := by
          rcases z_pick (by omega) (by omega) hh hh2 m12' (m13'.trans x33'.symm) hRT2 hFT2 with z | ⟨z, -⟩
          · exact z
          · have := z 0 hh; omega
        rcases z_turn hok hf6 hba hn hnb hrb hlo0 hhi0 H2 hd hq hlam hnx hfirst2 (fun x2 x3 x4 x5 S => f_X5_makeRuns_31 (es_NX P R) z_fu fX' x2 x3 x4 x5 S) with ⟨SX', SM', t1, t2, t3⟩ | ⟨SX', SM', pg3, rc3, hi3, fc3, oo', cn', tk', h', lam', nx', b', t0, t1, t2, t3⟩
        · refine ⟨0, SX', SM', t1, ?_, Or.inl ⟨rfl, t3⟩⟩
          have := t2 fM'
          rw [n1, show ps ru + cn + 0 = ps ru + cn from rfl] at this
          exact this
        · have t2' := t2 (fM' + 1)
          rw [n1, show ps ru + cn + 0 = ps ru + cn from rfl] at t2'
          rw [t1, t2']
          have := ih fX' (fM' + 1) SX' SM' pg3 rc3 lo hi3 fc3 (ru + 1) (z_set1 rl ru cn) (z_set1 ps (ru + 1) (ps ru + cn)) oo' cn' tk' h' lam' nx' b' (d + 1) (Or.inr t0) (by omega) (by omega) (by omega) t3
          rw [n1] at this
          exact this
