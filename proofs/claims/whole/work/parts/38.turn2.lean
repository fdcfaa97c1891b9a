/-! ===== the turn itself ===== -/
theorem z_ps_mono {ru : Nat} {ps rl : Nat → Nat} (h : ∀ i, i < ru → ps (i + 1) = ps i + rl i) : ∀ i, i ≤ ru → ps i ≤ ps ru := fun i hi => by
  have : ∀ k, i + k ≤ ru → ps i ≤ ps (i + k) := fun k => by
    induction k with
    | zero => intro _; exact Nat.le_refl _
    | succ k ih => intro hk; have h1 := ih (by omega); have h2 := h (i + k) (by omega); rw [show i + (k + 1) = i + k + 1 by omega]; omega
  have h1 := this (ru - i) (by omega)
  rw [show i + (ru - i) = ru by omega] at h1
  exact h1
theorem z_turn {P R f n nb ba rb : Nat} {md onv : Int32} {pg0 pg : Nat → Nat → Nat} {rc0 rc : Nat → Nat → z_Rec} {lo0 hi0 lo hi : Nat → Nat} {SX0 SM0 SX SM : es_St} {fc ru : Nat} {rl ps : Nat → Nat} {oo : Nat → z_Rec} {cn tk h : Nat} {lam nx : Nat → Nat} {b d q : Nat} (hok : z_ok P R) (hf6 : f < 6) (hba : 6 ≤ ba) (hn : n ≤ 8192) (hnb : nb ≤ es_T R) (hrb : rb ≤ P) (hlo0 : lo0 f = 0) (hhi0 : hi0 f = z_pgs R n)
    (H : z_HD P R f n nb ba rb md onv pg0 rc0 lo0 hi0 SX0 SM0 SX SM pg rc lo hi fc ru rl ps oo cn tk h lam nx b d) (hd : d < n) (hq : q < h) (hlam : lam q = b) (hnx : nx q = 0) (hfirst : f_X8_first es_NM z_fu SM = some (nI q, SM)) (k31 : Int32 → Int32 → Int32 → Int32 → es_St → Option (Int32 × es_St)) :
    (∃ SX' SM', f_X5_makeRuns_82 (es_NX P R) z_fu k31 (nI n) (nI ru) (nI nb) (nI d) (nI b) SX = some (0, SX') ∧ (∀ m, f_X8_makeRuns_59 es_NM z_fu (m + 2) (nI f) (nI (ps ru + cn)) SM = some (0, SM')) ∧ z_FL P R ba pg0 rc0 lo0 hi0 SX0 SM0 SX' SM') ∨
    (∃ (SX' SM' : es_St) (pg' : Nat → Nat → Nat) (rc' : Nat → Nat → z_Rec) (hi' : Nat → Nat) (fc' : Nat) (oo' : Nat → z_Rec) (cn' tk' h' : Nat) (lam' nx' : Nat → Nat) (b' : Nat), 0 < cn' ∧ f_X5_makeRuns_82 (es_NX P R) z_fu k31 (nI n) (nI ru) (nI nb) (nI d) (nI b) SX = k31 (nI n) (nI ru) (nI nb) (nI (d + 1)) SX' ∧ (∀ m, f_X8_makeRuns_59 es_NM z_fu (m + 1) (nI f) (nI (ps ru + cn)) SM = f_X8_makeRuns_59 es_NM z_fu m (nI f) (nI (ps ru + cn')) SM') ∧ z_HD P R f n nb ba rb md onv pg0 rc0 lo0 hi0 SX0 SM0 SX' SM' pg' rc' lo hi' fc' ru rl ps oo' cn' tk' h' lam' nx' b' (d + 1)) := by
  obtain ⟨hRX, hRM, hRT, hFT, ⟨hdh, htk, hcd, hdn⟩, hcn0, hkX, hkM, ⟨e25, e6, e5⟩, hSO, hL⟩ := H
  obtain ⟨hlive, hruP⟩ := z_runs_leX hok.2.2.1 hRX
  obtain ⟨a1, a2, a3, a4⟩ := id hok
  have hTR := es_TR hok.2.2
  obtain ⟨hD, hO, ⟨x7, x14, x33, x15, x12, x24, x32⟩, hfil, hruns, hdead, hlz⟩ := id hRX
  obtain ⟨hac, ⟨m3, m13, m14, m10, m11, m9, m12, m16, m3f⟩, hst, hps0, hrM, hoM, hfM⟩ := id hRM
  obtain ⟨q0, q1, q2, q4, q7, q8, q9⟩ := id hac
  obtain ⟨t1, t2, t3, t4, t5⟩ := id hRT
  have hbn : b < nb := hlam ▸ (t1 q hq).1
  have hn0 : 0 < nb := by omega
  have hh224 : h ≤ 224 := by omega
  have hk8 : SM.2 8 q = SX.2 31 b := by rw [(t1 q hq).2.1, hlam]
  have hk9 : SM.2 9 q = SX.2 32 b := by rw [(t1 q hq).2.2.1, hlam]
  have hmono : ∀ i, i ≤ ru → ps i ≤ ps ru := z_ps_mono (fun i hi => (hrM i hi).1)
  obtain ⟨Sa, ga, gak, ga12, ga8, ga9, ga10, ga11⟩ := zm_removed (x1 := nI f) (x3 := nI (ps ru + cn)) (fr := ps ru) (nxl := nx (h - 1)) (by omega) hh224 hq (show ru < 8200 by omega) m12 q8 m10 (hst ru (Nat.le_refl _)) (t1 (h - 1) (by omega)).2.2.2.2.2.1 (t1 (h - 1) (by omega)).2.2.2.2.2.2 hfirst
  rw [hk8, hk9] at ga
  have haca : z_AC P R fc SX Sa := ⟨(gak.1 0 (by decide)).trans q0, (gak.1 1 (by decide)).trans q1, (gak.1 2 (by decide)).trans q2, (gak.1 4 (by decide)).trans q4, (gak.1 7 (by decide)).trans q7, (gak.1 8 (by decide)).trans q8, q9⟩
  obtain ⟨r, SX1, SM1, pg', rc', hi', fc', oo', cn', p1, p2, pkx, pkm, pne, pD, po, pc1, pc2, pc3, prec, plast, pend⟩ := z_put2 (k := SX.2 31 b) (t := SX.2 32 b) (onv := onv) (fr := ps ru) hok hD (show 6 ≤ ba + 2 * ru by omega) hO haca x7 ((gak.1 14 (by decide)).trans m14) (by omega) (fun j hj => by rw [gak.2 4 (by decide), gak.2 5 (by decide)]; exact hoM j hj)
  have hX : f_X5_makeRuns_82 (es_NX P R) z_fu k31 (nI n) (nI ru) (nI nb) (nI d) (nI b) SX = if ¬ r = 0 then es_bd (f_X5_replace (es_NX P R) z_fu SX1 (nI b) (nI ru) (nI nb + nI d)) (fun _ S34 => es_bd (f_X3_climb (es_NX P R) z_fu S34 (nI b)) (fun _ S37 => es_lt (nI d + 1) fun y39 => k31 (nI n) (nI ru) (nI nb) y39 S37)) else some (0, SX1) := by
    unfold f_X5_makeRuns_82
    rw [zx_keyOf hok hnb x32 hbn, es_bd_s, zx_tagOf hok hnb x32 hbn, es_bd_s, p1, es_bd_s]
  have hM : ∀ m, f_X8_makeRuns_59 es_NM z_fu (m + 1) (nI f) (nI (ps ru + cn)) SM = z_tailM m (nI f) (nI (ps ru + cn')) SM1 := fun m => by rw [ga m, p2, es_bd_s]
  have f1 : ∀ j, j ≠ 12 → j ≠ 2 → j ≠ 4 → j ≠ 7 → j ≠ 8 → SM1.1 j = SM.1 j := fun j a b c d e => by rw [pkm.1 j (by simp; omega), gak.1 j (by simp; omega)]
  have f2 : ∀ j, j ≠ 4 → j ≠ 5 → j ≠ 8 → j ≠ 9 → j ≠ 10 → j ≠ 11 → SM1.2 j = SM.2 j := fun j a b c d e g => by rw [pkm.2 j (by simp; omega), gak.2 j (by simp; omega)]
  have g1 : SM1.1 1 = nI R := by rw [f1 1 (by decide) (by decide) (by decide) (by decide) (by decide)]; exact q1
  have g16 : SM1.1 16 = nI tk := by rw [f1 16 (by decide) (by decide) (by decide) (by decide) (by decide)]; exact m16
  have g3 : SM1.2 3 f = nI n := by rw [f2 3 (by decide) (by decide) (by decide) (by decide) (by decide) (by decide)]; exact m3f
  have g13 : SM1.1 13 = md := by rw [f1 13 (by decide) (by decide) (by decide) (by decide) (by decide)]; exact m13
  have g12 : SM1.1 12 = nI (h - 1) := (pkm.1 12 (by decide)).trans ga12
  have gx : ∀ j, j < n → (SM1.2 1 (8192 * f + j), SM1.2 2 (8192 * f + j)) = rc0 f j := fun j hj => by
    rw [f2 1 (by decide) (by decide) (by decide) (by decide) (by decide) (by decide), f2 2 (by decide) (by decide) (by decide) (by decide) (by decide) (by decide)]; exact hfM j hj
  have glast : (SM1.2 4 (ps ru + cn' - 1), SM1.2 5 (ps ru + cn' - 1)) = (SX.2 31 b, SX.2 32 b) := by
    have := prec (cn' - 1) (by omega)
    rw [show ps ru + (cn' - 1) = ps ru + cn' - 1 by omega, plast] at this
    exact this
  have kM1 : z_keep z_KM z_AM SM0 SM1 := z_keep_trans hkM (z_keep_trans (z_keep_mono gak (by decide) (by decide)) (z_keep_mono pkm (by decide) (by decide)))
  have kX1 : z_keep z_KX z_AX SX0 SX1 := z_keep_trans hkX (z_keep_mono pkx (by decide) (by decide))
  rcases pend with ⟨rfl, hfull⟩ | ⟨rfl, hO1, hac1⟩
  · -- full
    left
    obtain ⟨SM2, w1, w2⟩ : ∃ SM2, (∀ m, z_tailM m (nI f) (nI (ps ru + cn')) SM1 = f_X8_makeRuns_59 es_NM z_fu m (nI f) (nI (ps ru + cn')) SM2) ∧ z_keep [3, 12, 16] [8, 9, 10, 11] SM1 SM2 := by
      by_cases e : tk = n
      · rw [e] at g16
        exact ⟨SM1, fun m => zm_tail_end hf6 hn g3 g16, z_keep_rfl⟩
      · rcases Classical.em (z_ah md (rc0 f tk) (SX.2 31 b, SX.2 32 b)) with ea | ea
        · obtain ⟨S', y1, y2, -⟩ := zm_tail_take (at' := ps ru + cn') ⟨a3, a4⟩ hf6 hn (show tk < n by omega) (by omega) (by omega) (show h - 1 < 224 by omega) g1 g3 g16 g12 g13 (gx tk (by omega)) glast 1 (Or.inl ⟨rfl, ea⟩)
          exact ⟨S', y1, y2⟩
        · obtain ⟨S', y1, y2, -⟩ := zm_tail_take (at' := ps ru + cn') ⟨a3, a4⟩ hf6 hn (show tk < n by omega) (by omega) (by omega) (show h - 1 < 224 by omega) g1 g3 g16 g12 g13 (gx tk (by omega)) glast 0 (Or.inr ⟨rfl, ea⟩)
          exact ⟨S', y1, y2⟩
    obtain ⟨SM3, v1, v2, v3, v4⟩ := zm_301_full (R := R) (ru := ru) (fr := ps ru) (cn := cn') (fi := rb + ru) (S := SM2) ⟨a3, a4⟩ ((w2.1 1 (by decide)).trans g1) ((w2.1 8 (by decide)).trans hfull) (by omega) (by omega) (by rw [w2.1 10 (by decide), f1 10 (by decide) (by decide) (by decide) (by decide) (by decide)]; exact m10) (by rw [w2.1 11 (by decide), f1 11 (by decide) (by decide) (by decide) (by decide) (by decide)]; exact m11) (by rw [w2.2 6 (by decide), f2 6 (by decide) (by decide) (by decide) (by decide) (by decide) (by decide)]; exact hst ru (Nat.le_refl _)) (by omega) (fun h1 => ⟨ps 1, by have := hmono 1 h1; omega, by rw [w2.2 6 (by decide), f2 6 (by decide) (by decide) (by decide) (by decide) (by decide) (by decide)]; exact hst 1 h1⟩)
    refine ⟨SX1, SM3, by rw [hX, if_neg (by simp)], fun m => ?_, pg', rc', lo, hi', fc', pD, fun c hc => ?_, kX1, z_keep_trans kM1 (z_keep_trans (z_keep_mono w2 (by decide) (by decide)) (z_keep_mono v2 (by decide) (by decide))), v3, ⟨0, by omega, ?_⟩, v4⟩
    · rw [hM (m + 1), w1, zm_59_full ((w2.1 8 (by decide)).trans hfull)]; exact v1
    · obtain ⟨e1, e2, e3⟩ := po c (by omega)
      rw [e1, e2, e3]; exact hfil c hc
    · rw [v2.1 9 (by decide), w2.1 9 (by decide), f1 9 (by decide) (by decide) (by decide) (by decide) (by decide)]; exact m9
  · -- it goes on
    right
    have hRX1 := z_RX_put hRX pkx pD po hO1
    have hRM1 := z_RM_put hRM gak ga12 pkm pne pkx hac1 po prec
    obtain ⟨o1, o2, o3⟩ := po f (by omega)
    obtain ⟨i1, i2, i3, i4⟩ := hfil f (by omega)
    have hoo : ∀ j, j < cn → oo' j = oo j := fun j hj => by
      obtain ⟨y1, y2⟩ := pne (ps ru + j) (by omega)
      rw [← prec j (by omega), y1, y2, gak.2 4 (by decide), gak.2 5 (by decide)]
      exact hoM j hj
    have h30b : SX.2 30 b = nI ru := by
      have := (t1 q hq).2.2.2.2.1
      rw [hlam, hnx] at this
      exact this
    have hrc' : ∀ i, i < ru → rc' (ba + 2 * i) = rc (ba + 2 * i) := fun i hi => (po (ba + 2 * i) (by omega)).2.1
    have hl5 : (SX1.1 5, SX1.1 6) = (SX.2 31 b, SX.2 32 b) := by
      obtain ⟨z1, z2⟩ := hO1.2.2.2.2.2.2.2.2 pc3
      rw [z1, z2, plast]
    have x32' : SX1.1 32 = nI nb := (pkx.1 32 (by decide)).trans x32
    by_cases e : tk = n
    · -- nothing more comes
      subst e
      obtain ⟨SX2, hSX2⟩ : ∃ S, S = es_wr SX1 30 (nI b) (nI 2147483647) := ⟨_, rfl⟩
      have kr : z_keep [] [30] SX1 SX2 := by rw [hSX2]; exact z_keep_w _ 30 _ _ (by simp)
      have r30 : ∀ i, SX2.2 30 i = if i = b then nI 2147483647 else SX.2 30 i := fun i => by rw [hSX2, z_w2a _ _ _ _ (by omega), pkx.2 30 (by decide)]
      have r31 : SX2.2 31 = SX.2 31 := by rw [kr.2 31 (by decide), pkx.2 31 (by decide)]
      have r32 : SX2.2 32 = SX.2 32 := by rw [kr.2 32 (by decide), pkx.2 32 (by decide)]
      have r33 : SX2.2 33 = SX.2 33 := by rw [kr.2 33 (by decide), pkx.2 33 (by decide)]
      have hRT2 := z_RT_end (SM' := SM1) hRT hq hlam r30 r31 r32 r33 (fun i _ => by rw [pkm.2 8 (by decide)]; exact ga8 i) (fun i _ => by rw [pkm.2 9 (by decide)]; exact ga9 i) (fun i _ => by rw [pkm.2 10 (by decide)]; exact ga10 i) (fun i _ => by rw [pkm.2 11 (by decide)]; exact ga11 i)
      obtain ⟨SX3, b2, c1, c2, c3⟩ := zx_climb (S := SX) (S' := SX2) hok hnb hn0 hFT (by rw [kr.2 34 (by decide), pkx.2 34 (by decide)]) (fun i _ hne => by unfold z_it; rw [r30, if_neg hne, r31, r32, r33, kr.1 33 (by decide), pkx.1 33 (by decide)]) ((kr.1 32 (by decide)).trans x32') hRT2.2.2.2.1
      have k13 : z_keep [22] [24, 25, 26, 27, 28, 29, 30, 31, 32, 33, 34] SX1 SX3 := z_keep_trans (z_keep_mono kr (by decide) (by decide)) (z_keep_mono c2 (by decide) (by decide))
      have hlz1 := hRX1.2.2.2.2.2.2
      have hSO2 : z_SO md nb ru ba SX3 rc' rl oo' cn' := z_SO_turn hSO x33 hn0 hFT h30b hoo pc1 pc2 plast hrc' (fun i hne => by rw [c2.2 30 (by decide), c2.2 31 (by decide), c2.2 32 (by decide), r30, if_neg hne, r31, r32]; exact ⟨rfl, rfl, rfl⟩) (fun y => by
        rw [c2.2 30 (by decide), r30, if_pos rfl] at y
        have := (nI_eq (by omega) (by omega)).mp y
        omega)
      refine ⟨SX3, SM1, pg', rc', hi', fc', oo', cn', tk, h - 1, _, _, b2, pc3, ?_, fun m => ?_, z_RX_mem hRX1 k13 (z_lz_same hlz1 (by rw [c2.2 24 (by decide), kr.2 24 (by decide)]) (by rw [c2.2 25 (by decide), kr.2 25 (by decide)]) (by rw [c2.2 26 (by decide), kr.2 26 (by decide)]) (by rw [c2.2 27 (by decide), kr.2 27 (by decide)]) (by rw [c2.2 28 (by decide), kr.2 28 (by decide)]) (by rw [c2.2 29 (by decide), kr.2 29 (by decide)])), z_RM_mem hRM1 k13 z_keep_rfl (by rw [c2.1 22 (by decide), kr.1 22 (by decide)]; exact hRM1.2.1.1) g12 g16, z_RT_same hRT2 (c2.2 30 (by decide)) (c2.2 31 (by decide)) (c2.2 32 (by decide)) (c2.2 33 (by decide)) rfl rfl rfl rfl, c3, ⟨by omega, Or.inr ⟨rfl, by omega⟩, by omega, by omega⟩, Or.inl pc3, z_keep_trans kX1 (z_keep_mono k13 (by decide) (by decide)), kM1, ⟨?_, ?_, ?_⟩, hSO2, fun i hi => ?_⟩
      · rw [hX, if_pos (by decide), zx_replace_end hok hn (g := pg0 f) (rr := rc0 f) hlz1 hnb x32' hbn, es_bd_s, ← hSX2, c1, es_bd_s, z_lt, nI_1]
      · rw [hM m]; exact zm_tail_end hf6 hn g3 g16
      · rw [k13.1 25 (by decide), pkx.1 25 (by decide)]; exact e25
      · rw [f1 6 (by decide) (by decide) (by decide) (by decide) (by decide)]; exact e6
      · rw [f1 5 (by decide) (by decide) (by decide) (by decide) (by decide)]; exact e5
      · rw [k13.2 22 (by decide), pkx.2 22 (by decide), f2 7 (by decide) (by decide) (by decide) (by decide) (by decide) (by decide)]; exact hL i hi
    · -- one more comes
      have htn : tk < n := by omega
      have hlz1 := hRX1.2.2.2.2.2.2
      obtain ⟨SX2, v, s1, s2, s3, s4, s5, s30, s31, s32, s33⟩ := zx_replace (f := f) (leaf := b) (nb := nb) (t := tk) (S := SX1) (ru := ru) (ar := nI nb + nI d) hok pD (by rw [i3]; exact hlo0) (by rw [o3, i4]; exact hhi0) hn (by rw [o1, o2, i1, i2]; exact hlz1) htn hnb x32' hbn
      rw [o1, o2, i1, i2] at s4
      rw [o2, i2] at s5 s31 s32
      rw [hl5, pkx.1 14 (by decide), x14] at s5
      have har : nI nb + nI d = nI tk := by rw [nI_add]; congr 1; omega
      rw [har] at s1 s33
      have hv1 : v ≤ 1 := by rcases s5 with ⟨z, _⟩ | ⟨z, _⟩ <;> omega
      obtain ⟨SM2, y1, y2, y3, y12, y16, y8, y9, y10, y11⟩ := zm_tail_take (at' := ps ru + cn') ⟨a3, a4⟩ hf6 hn htn (by omega) (by omega) (show h - 1 < 224 by omega) g1 g3 g16 g12 g13 (gx tk htn) glast v s5
      have hRT2 := z_RT_take (SX' := SX2) (SM' := SM2) (k := (rc0 f tk).1) (t := (rc0 f tk).2) hRT hq hlam hv1 (by omega) (fun i => by rw [s30, pkx.2 30 (by decide)]) (fun i => by rw [s31, pkx.2 31 (by decide)]) (fun i => by rw [s32, pkx.2 32 (by decide)]) (fun i => by rw [s33, pkx.2 33 (by decide)]) (fun i _ => by rw [y8, pkm.2 8 (by decide), ga8]) (fun i _ => by rw [y9, pkm.2 9 (by decide), ga9]) (fun i _ => by rw [y10, pkm.2 10 (by decide), ga10]) (fun i _ => by rw [y11, pkm.2 11 (by decide), ga11])
      obtain ⟨SX3, b2, c1, c2, c3⟩ := zx_climb (S := SX) (S' := SX2) hok hnb hn0 hFT (by rw [s2.2 34 (by decide), pkx.2 34 (by decide)]) (fun i _ hne => by unfold z_it; rw [s30, if_neg hne, s31, if_neg hne, s32, if_neg hne, s33, if_neg hne, s2.1 33 (by decide), pkx.1 33 (by decide), pkx.2 30 (by decide), pkx.2 31 (by decide), pkx.2 32 (by decide), pkx.2 33 (by decide)]) ((s2.1 32 (by decide)).trans x32') hRT2.2.2.2.1
      have k13 : z_keep [22] [24, 25, 26, 27, 28, 29, 30, 31, 32, 33, 34] SX1 SX3 := z_keep_trans (z_keep_mono s2 (by decide) (by decide)) (z_keep_mono c2 (by decide) (by decide))
      rw [show h - 1 + 1 = h by omega] at y12
      have hSO2 : z_SO md nb ru ba SX3 rc' rl oo' cn' := z_SO_turn hSO x33 hn0 hFT h30b hoo pc1 pc2 plast hrc' (fun i hne => by rw [c2.2 30 (by decide), c2.2 31 (by decide), c2.2 32 (by decide), s30, s31, s32, if_neg hne, if_neg hne, if_neg hne, pkx.2 30 (by decide), pkx.2 31 (by decide), pkx.2 32 (by decide)]; exact ⟨rfl, rfl, rfl⟩) (fun y => by
        rw [c2.2 30 (by decide), s30, if_pos rfl] at y
        have hv := (nI_eq (by omega) (by omega)).mp y
        rw [c2.2 31 (by decide), c2.2 32 (by decide), s31, s32, if_pos rfl, if_pos rfl]
        rcases s5 with ⟨z, _⟩ | ⟨_, z⟩
        · omega
        · exact z)
      refine ⟨SX3, SM2, pg', rc', hi', fc', oo', cn', tk + 1, h, _, _, b2, pc3, ?_, fun m => ?_, z_RX_mem hRX1 k13 (z_lz_same s4 (c2.2 24 (by decide)) (c2.2 25 (by decide)) (c2.2 26 (by decide)) (c2.2 27 (by decide)) (c2.2 28 (by decide)) (c2.2 29 (by decide))), z_RM_mem hRM1 k13 y2 (by rw [c2.1 22 (by decide), y3, s3, hRM1.2.1.1]) y12 y16, z_RT_same hRT2 (c2.2 30 (by decide)) (c2.2 31 (by decide)) (c2.2 32 (by decide)) (c2.2 33 (by decide)) rfl rfl rfl rfl, c3, ⟨by omega, Or.inl ⟨by omega, by omega⟩, by omega, by omega⟩, Or.inl pc3, z_keep_trans kX1 (z_keep_mono k13 (by decide) (by decide)), z_keep_trans kM1 (z_keep_mono y2 (by decide) (by decide)), ⟨?_, ?_, ?_⟩, hSO2, fun i hi => ?_⟩
      · rw [hX, if_pos (by decide), har, s1, es_bd_s, c1, es_bd_s, z_lt, nI_1]
      · rw [hM m]; exact y1 m
      · rw [k13.1 25 (by decide), pkx.1 25 (by decide)]; exact e25
      · rw [y2.1 6 (by decide), f1 6 (by decide) (by decide) (by decide) (by decide) (by decide)]; exact e6
      · rw [y2.1 5 (by decide), f1 5 (by decide) (by decide) (by decide) (by decide) (by decide)]; exact e5
      · rw [k13.2 22 (by decide), pkx.2 22 (by decide), y2.2 7 (by decide), f2 7 (by decide) (by decide) (by decide) (by decide) (by decide) (by decide)]; exact hL i hi
