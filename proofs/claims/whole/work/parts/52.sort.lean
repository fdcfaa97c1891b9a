/-! ===== sort and distinct ===== -/
theorem z_begin {P R bu : Nat} {md onv : Int32} {SX SM : es_St} {fc : Nat} (hok : z_ok P R) (honv : es_B onv) (x0 : SX.1 0 = nI P) (x2 : SX.1 2 = nI fc) (hfc : fc ≤ P) (m0 : SM.1 0 = nI P) (m1 : SM.1 1 = nI R) (m2 : SM.1 2 = nI (P - fc)) :
    ∃ SXb SMb : es_St, f_X7_begin (es_NX P R) z_fu SX (nI bu) md onv = some (0, SXb) ∧ f_X8_begins es_NM z_fu SM = some (0, SMb) ∧ z_keep [13, 14, 15, 22, 23, 24, 25, 26] [] SX SXb ∧ z_keep [3, 4, 5, 6, 7, 8, 11] [] SM SMb ∧ (SXb.1 13 = nI bu ∧ SXb.1 14 = md ∧ SXb.1 15 = onv ∧ SXb.1 24 = nI 0) ∧ z_AC P R fc SXb SMb ∧ (SMb.1 3 = SXb.1 22 ∧ SMb.1 11 = nI 0 ∧ SMb.1 5 = nI 0 ∧ SMb.1 6 = SXb.1 25) := by
  obtain ⟨SXb, hX⟩ : ∃ S : es_St, S = es_F (es_F (es_F (es_F (es_F (es_F (es_F (es_F SX 22 0) 23 0) 24 0) 25 0) 26 (nI (P - fc))) 13 (nI bu)) 14 md) 15 onv := ⟨_, rfl⟩
  obtain ⟨SMb, hM⟩ : ∃ S : es_St, S = es_F (es_F (es_F (es_F (es_F (es_F (es_F SM 3 0) 4 0) 5 0) 6 0) 7 (nI (P - fc))) 8 0) 11 0 := ⟨_, rfl⟩
  have kX : z_keep [13, 14, 15, 22, 23, 24, 25, 26] [] SX SXb := by
    rw [hX]
    exact z_keep_trans (z_keep_trans (z_keep_trans (z_keep_trans (z_keep_trans (z_keep_trans (z_keep_trans (z_keep_F _ 22 _ (by simp)) (z_keep_F _ 23 _ (by simp))) (z_keep_F _ 24 _ (by simp))) (z_keep_F _ 25 _ (by simp))) (z_keep_F _ 26 _ (by simp))) (z_keep_F _ 13 _ (by simp))) (z_keep_F _ 14 _ (by simp))) (z_keep_F _ 15 _ (by simp))
  have kM : z_keep [3, 4, 5, 6, 7, 8, 11] [] SM SMb := by
    rw [hM]
    exact z_keep_trans (z_keep_trans (z_keep_trans (z_keep_trans (z_keep_trans (z_keep_trans (z_keep_F _ 3 _ (by simp)) (z_keep_F _ 4 _ (by simp))) (z_keep_F _ 5 _ (by simp))) (z_keep_F _ 6 _ (by simp))) (z_keep_F _ 7 _ (by simp))) (z_keep_F _ 8 _ (by simp))) (z_keep_F _ 11 _ (by simp))
  refine ⟨SXb, SMb, ?_, ?_, kX, kM, ⟨?_, ?_, ?_, ?_⟩, ⟨(kM.1 0 (by decide)).trans m0, (kM.1 1 (by decide)).trans m1, (kM.1 2 (by decide)).trans m2, ?_, ?_, ?_, ?_⟩, ?_, ?_, ?_, ?_⟩
  · unfold f_X7_begin f_X0_usedPages f_X6_begin f_X5_prepare
    rw [x0, x2, pk_sub hfc, es_bd_s, z_lt, z_lt, z_lt, z_lt, z_lt, es_bd_s, z_lt, z_lt, es_ck_t honv, z_lt, es_bd_s, hX]
  · unfold f_X8_begins
    have e : (es_F (es_F (es_F (es_F SM 3 0) 4 0) 5 0) 6 0).1 2 = nI (P - fc) := by simp only [z_F1, Nat.reduceEqDiff, if_false, m2]
    rw [z_lt, z_lt, z_lt, z_lt, z_lt, z_lt, z_lt, e, hM]
  all_goals first | (rw [hX]; simp only [z_F1, Nat.reduceEqDiff, if_false, if_true]; exact Int32.le_refl _) | (rw [hX]; simp only [z_F1, Nat.reduceEqDiff, if_false, if_true]; done) | (rw [hM]; simp only [z_F1, Nat.reduceEqDiff, if_false, if_true]; done) | (rw [hM, hX]; simp only [z_F1, Nat.reduceEqDiff, if_false, if_true]; done) | (rw [hX]; simp only [z_F1, Nat.reduceEqDiff, if_false, if_true]; rfl) | (rw [hM]; simp only [z_F1, Nat.reduceEqDiff, if_false, if_true]; rfl)
/-- the reference copies the result into its file -/
theorem zm_sorts_loop {to hr v : Nat} (hto : to < 6) (hv : v ≤ 8192) (hhr : hr = 0 ∨ hr = 8192) : ∀ (fu d : Nat) (S : es_St), d ≤ v → v - d < fu → S.1 9 = nI hr →
    ∃ S1, f_X8_sorts_68 es_NM z_fu fu (nI to) (nI v) (nI d) S = (es_bd (f_X8_tells es_NM z_fu S1) fun _ S19 => some (nI v, S19)) ∧ z_keep [] [1, 2] S S1 ∧ (∀ j, d ≤ j → j < v → S1.2 1 (8192 * to + j) = S.2 4 (hr + j) ∧ S1.2 2 (8192 * to + j) = S.2 5 (hr + j)) ∧ ∀ i, (i < 8192 * to + d ∨ 8192 * (to + 1) ≤ i) → S1.2 1 i = S.2 1 i ∧ S1.2 2 i = S.2 2 i := by
  intro fu
  induction fu with
  | zero => intro d S _ h; exact absurd h (by omega)
  | succ fu ih =>
    intro d S hd hf h9
    rw [f_X8_sorts_68]
    by_cases e : d = v
    · subst e
      rw [if_pos (nI_le (Nat.le_refl _) (by omega))]
      exact ⟨S, rfl, z_keep_rfl, fun j h1 h2 => absurd h2 (by omega), fun _ _ => ⟨rfl, rfl⟩⟩
    · obtain ⟨S1, hS1⟩ : ∃ S1 : es_St, S1 = es_wr (es_wr S 1 (nI (8192 * to + d)) (S.2 4 (hr + d))) 2 (nI (8192 * to + d)) (S.2 5 (hr + d)) := ⟨_, rfl⟩
      have e1 : ∀ i, S1.2 1 i = if i = 8192 * to + d then S.2 4 (hr + d) else S.2 1 i := fun i => by rw [hS1, z_w2b _ _ _ (by decide), z_w2a _ _ _ _ (by omega)]
      have e2 : ∀ i, S1.2 2 i = if i = 8192 * to + d then S.2 5 (hr + d) else S.2 2 i := fun i => by rw [hS1, z_w2a _ _ _ _ (by omega), z_w2b _ _ _ (by decide)]
      have k1 : z_keep [] [1, 2] S S1 := by rw [hS1]; exact z_keep_trans (z_keep_w _ 1 _ _ (by simp)) (z_keep_w _ 2 _ _ (by simp))
      rw [if_neg (nI_ge (show d < v by omega) (by omega)), h9, nI_add, es_ck_t (vp_in_nI (N := es_NM 4) (show hr + d < 16384 by omega) (by decide)), z_rd S 4 (hr + d) (by omega), z_lt, zl8192, pk_mul, nI_add, es_ck_t (vp_in_nI (N := es_NM 1) (show 8192 * to + d < 49152 by omega) (by decide)), z_lt, z_w1, h9, nI_add, es_ck_t (vp_in_nI (N := es_NM 5) (show hr + d < 16384 by omega) (by decide)), z_rd _ 5 (hr + d) (by omega), z_w2b _ _ _ (by decide), z_lt, es_ck_t (vp_in_nI (N := es_NM 2) (show 8192 * to + d < 49152 by omega) (by decide)), z_lt, ← hS1, nI_1, z_lt]
      obtain ⟨S', g1, g2, g3, g4⟩ := ih (d + 1) S1 (by omega) (by omega) ((k1.1 9 (by decide)).trans h9)
      refine ⟨S', g1, z_keep_trans k1 g2, fun j h1 h2 => ?_, fun i hi => ?_⟩
      · by_cases ej : j = d
        · subst ej
          obtain ⟨y1, y2⟩ := g4 (8192 * to + j) (Or.inl (by omega))
          rw [y1, y2, e1, e2, if_pos rfl, if_pos rfl]
          exact ⟨rfl, rfl⟩
        · obtain ⟨y1, y2⟩ := g3 j (by omega) h2
          rw [y1, y2, k1.2 4 (by decide), k1.2 5 (by decide)]
          exact ⟨rfl, rfl⟩
      · obtain ⟨y1, y2⟩ := g4 i (by omega)
        rw [y1, y2, e1, e2, if_neg (by omega), if_neg (by omega)]
        exact ⟨rfl, rfl⟩
/-- after giving up all is as before -/
theorem z_Rel_back {P R : Nat} {SX SM SX' SM' : es_St} {pg : Nat → Nat → Nat} {rc : Nat → Nat → z_Rec} {lo hi : Nat → Nat} {fc : Nat} {n : Nat → Nat} (hX : z_X P R SX pg rc lo hi fc n) (hM : z_M P R SM rc fc n) (hT : z_T P SX SM) {lo' hi' : Nat → Nat} (hlo : ∀ c, c < 6 → lo' c = lo c ∧ hi' c = hi c) (hde : ∀ c, 6 ≤ c → hi' c ≤ lo' c) (hD : z_DI P R SX' pg rc lo' hi' fc) (x9 : SX'.2 9 = SX.2 9) (x10 : SX'.2 10 = SX.2 10) (e27 : SX'.1 27 = SX.1 27) (e28 : SX'.1 28 = SX.1 28) (e29 : SX'.1 29 = SX.1 29) (e30 : SX'.1 30 = SX.1 30) (e31 : SX'.1 31 = SX.1 31) (e23 : SX'.2 23 = SX.2 23) (m0 : SM'.1 0 = SM.1 0) (m1 : SM'.1 1 = SM.1 1) (m2 : SM'.1 2 = SM.1 2) (m15 : SM'.1 15 = SM.1 15) (n1 : SM'.2 1 = SM.2 1) (n2 : SM'.2 2 = SM.2 2) (n3 : SM'.2 3 = SM.2 3) (n12 : SM'.2 12 = SM.2 12) (n13 : SM'.2 13 = SM.2 13) : z_Rel P R SX' SM' := by
  refine ⟨pg, rc, lo', hi', fc, n, ⟨hD, fun f hf => ?_, hde⟩, ?_, z_T_keep hT e27 e28 e29 e30 e31 e23 n12 m15 n13⟩
  · rw [(hlo f hf).1, (hlo f hf).2, x9, x10]; exact hX.2.1 f hf
  · unfold z_M
    rw [m0, m1, m2, n1, n2, n3]
    exact hM
theorem z_sim_sorts {P R f to bu : Nat} {md onv : Int32} {SX SM : es_St} (hok : z_ok P R) (h : z_Rel P R SX SM) (hf : f < 6) (hto : to < 6) (hbu : 3 ≤ bu ∧ bu ≤ 16) (honv : es_B onv) :
    z_Ans P R (es_bd (f_X7_begin (es_NX P R) z_fu SX (nI bu) md onv) fun _ S18 => es_ck (vp_in (nI f) (es_NX P R 9)) <| es_lt (es_rd S18 9 (nI f)) fun v21 => es_ck (vp_in (nI f) (es_NX P R 10)) <| es_lt (es_rd S18 10 (nI f)) fun v23 => es_bd (f_X5_arrange (es_NX P R) z_fu S18 v21 v23) fun r24 S25 => es_bd (f_X7_settleSorted (es_NX P R) z_fu S25 (nI to) r24) fun r27 S28 => some (r27, S28)) (f_X8_sorts es_NM z_fu SM (nI f) (nI to) (nI bu) md onv) := by
  obtain ⟨pg, rc, lo, hi, fc, n, hX, hM, hT⟩ := id h
  obtain ⟨a1, a2, a3, a4⟩ := id hok
  obtain ⟨l1, l2, l3⟩ := z_len hok hX hf
  obtain ⟨lt1, lt2, lt3⟩ := z_len hok hX hto
  obtain ⟨hD, hF, hW⟩ := id hX
  obtain ⟨m0, m1, m2, mF⟩ := id hM
  have hfcP := hD.2.2.1.2.1
  obtain ⟨SXb, SMb, b1, b2, kX, kM, ⟨x13, x14, x15, x24⟩, hac, ⟨m3, m11, m5, m6⟩⟩ := z_begin (bu := bu) (md := md) (onv := onv) hok honv hD.1 hD.2.2.1.1 hfcP m0 m1 m2
  -- the chains of the work are empty
  have hD0 := z_clear (rch := 0) (ba := 6) hD (fun c hc _ => hW c hc)
  have hDb := z_DI_same (S' := SXb) hD0 ⟨kX.1 0 (by decide), kX.1 1 (by decide), kX.1 2 (by decide), kX.2 11 (by decide), kX.2 12 (by decide), kX.2 13 (by decide), kX.2 14 (by decide), kX.2 15 (by decide)⟩
  obtain ⟨q1, q2, q3, q4⟩ := hF f hf
  have l0 : ∀ c, c < 6 → (if 6 ≤ c ∧ c ≠ 0 then 0 else lo c) = lo c ∧ (if 6 ≤ c ∧ c ≠ 0 then 0 else hi c) = hi c := fun c hc => ⟨if_neg (by omega), if_neg (by omega)⟩
  obtain ⟨r, SX1, SM1, v, g1, g2, hv, g3⟩ := z_arrange (f := f) (n := n f) (ba := 6) (rb := 0) (bu := bu) (md := md) (onv := onv) (hd := SX.2 9 f) (SX := SXb) (SM := SMb) hok hf (by omega) l3 (by omega) hbu ((l0 f hf).1.trans q1) ((l0 f hf).2.trans q2) honv q4 hDb (fun c hc => ⟨if_pos ⟨hc, by omega⟩, if_pos ⟨hc, by omega⟩⟩) x13 x14 x15 x24 hac m3 m11 m5 m6 (by rw [kM.2 3 (by decide)]; exact (mF f hf).1) (fun j hj => by rw [kM.2 1 (by decide), kM.2 2 (by decide), ((mF f hf).2 j hj).1, ((mF f hf).2 j hj).2]) (fun i hi => absurd hi (by omega))
  have hXs : ∀ K : Int32 → es_St → Option (Int32 × es_St), (es_bd (f_X7_begin (es_NX P R) z_fu SX (nI bu) md onv) fun _ S18 => es_ck (vp_in (nI f) (es_NX P R 9)) <| es_lt (es_rd S18 9 (nI f)) fun v21 => es_ck (vp_in (nI f) (es_NX P R 10)) <| es_lt (es_rd S18 10 (nI f)) fun v23 => es_bd (f_X5_arrange (es_NX P R) z_fu S18 v21 v23) K) = K r SX1 := fun K => by
    rw [b1, es_bd_s, zN9, z_ck hf (by decide), z_rd SXb 9 f (by omega), kX.2 9 (by decide), z_lt, zN10, z_ck hf (by decide), z_rd SXb 10 f (by omega), kX.2 10 (by decide), q3, z_lt, g1, es_bd_s]
  have hMs : f_X8_sorts es_NM z_fu SM (nI f) (nI to) (nI bu) md onv = if SM1.1 8 = 0 then es_ck (vp_in (nI to) (es_NM 3)) <| es_lt (es_rd SM1 3 (nI to)) fun v9 => es_bd (f_X8_pagesOf es_NM z_fu SM1 v9) fun r10 S11 => es_lt ((SM1.1 2) - r10) fun v13 => es_lt (es_F S11 2 v13) fun S14 => es_ck (vp_in (nI to) (es_NM 3)) <| es_lt (es_wr S14 3 (nI to) (nI v)) fun S16 => f_X8_sorts_68 es_NM z_fu z_fu (nI to) (nI v) 0 S16 else es_lt (es_F SM1 2 (SM.1 2)) fun S30 => some ((-2), S30) := by
    unfold f_X8_sorts
    rw [b2, es_bd_s, g2, es_bd_s]
  have hXe := hXs (fun r24 S25 => es_bd (f_X7_settleSorted (es_NX P R) z_fu S25 (nI to) r24) fun r27 S28 => some (r27, S28))
  rw [hXe, hMs]
  have kMb : z_keep [13, 14] [] SMb (es_F (es_F SMb 13 md) 14 onv) := z_keep_trans (z_keep_F _ 13 _ (by simp)) (z_keep_F _ 14 _ (by simp))
  rcases g3 with ⟨rfl, pg1, rc1, lo1, hi1, fc1, hD1, hfil, kX1, kM1, h8, -⟩ | ⟨rfl, pg1, rc1, lo1, hi1, fc1, kk, hr, rch, hkk, hRS⟩
  · -- full
    rw [h8, if_neg (by decide), z_lt]
    obtain ⟨SX2, e1, e2, e3⟩ := z_giveUp (q := -2) hok hDb (fun c hc => by rw [if_pos ⟨hc, by omega⟩, if_pos ⟨hc, by omega⟩]; exact Nat.le_refl _) hD1 (fun c hc => hfil c hc)
    refine ⟨-2, SX2, es_F SM1 2 (SM.1 2), ?_, rfl, ?_⟩
    · unfold f_X7_settleSorted
      rw [if_pos rfl, e1, es_bd_s, es_bd_s]
    · have kXX : z_keep (13 :: 14 :: 15 :: z_KX) z_AX SX SX2 := z_keep_trans (z_keep_mono kX (by decide) (by decide)) (z_keep_trans (z_keep_mono kX1 (by decide) (by decide)) (z_keep_mono e2 (by decide) (by decide)))
      have kMM : z_keep (13 :: 14 :: z_KM) z_AM SM (es_F SM1 2 (SM.1 2)) := z_keep_trans (z_keep_mono kM (by decide) (by decide)) (z_keep_trans (z_keep_mono kMb (by decide) (by decide)) (z_keep_trans (z_keep_mono kM1 (by decide) (by decide)) (z_keep_F _ 2 _ (by decide))))
      exact z_Rel_back hX hM hT l0 (fun c hc => by rw [if_pos ⟨hc, by omega⟩, if_pos ⟨hc, by omega⟩]; exact Nat.le_refl _) e3 (kXX.2 9 (by decide)) (kXX.2 10 (by decide)) (kXX.1 27 (by decide)) (kXX.1 28 (by decide)) (kXX.1 29 (by decide)) (kXX.1 30 (by decide)) (kXX.1 31 (by decide)) (kXX.2 23 (by decide)) (kMM.1 0 (by decide)) (kMM.1 1 (by decide)) (by rw [z_F1, if_pos rfl]) (kMM.1 15 (by decide)) (kMM.2 1 (by decide)) (kMM.2 2 (by decide)) (kMM.2 3 (by decide)) (kMM.2 12 (by decide)) (kMM.2 13 (by decide))
  · -- sorted
    obtain ⟨hD1, hac1, hfil, kX1, kM1, ⟨n3, n6, n9, hhr⟩, ⟨r24, r11, r5, rL⟩, hb6, hl1, hh1, hdd, x11, xh, xh0, hrec, hv8, hcnt, -⟩ := hRS
    obtain ⟨t1, t2, t3, t4⟩ := hF to hto
    have hfil' : ∀ c, c < 6 → pg1 c = pg c ∧ rc1 c = rc c ∧ lo1 c = lo c ∧ hi1 c = hi c := fun c hc => ⟨(hfil c hc).1, (hfil c hc).2.1, (hfil c hc).2.2.1.trans (l0 c hc).1, (hfil c hc).2.2.2.trans (l0 c hc).2⟩
    obtain ⟨f1, f2, f3, f4⟩ := hfil' to hto
    rw [hac1.2.2.2.2.2.1, if_pos rfl]
    have kXX : z_keep (13 :: 14 :: 15 :: z_KX) z_AX SX SX1 := z_keep_trans (z_keep_mono kX (by decide) (by decide)) (z_keep_mono kX1 (by decide) (by decide))
    have kMM : z_keep (13 :: 14 :: z_KM) z_AM SM SM1 := z_keep_trans (z_keep_mono kM (by decide) (by decide)) (z_keep_trans (z_keep_mono kMb (by decide) (by decide)) (z_keep_mono kM1 (by decide) (by decide)))
    obtain ⟨SX2, s1, s2, s3, s4, s5, s6, s7⟩ := zx_settle (to := to) (rch := rch) (v := v) (kk := kk) (nto := n to) (hd := SX1.1 10) hok hto hD1 hb6 (fun c hc hne => by rw [(hdd c hc hne).1, (hdd c hc hne).2]; exact Nat.le_refl _) (f3.trans t1) (f4.trans t2) r24 (by omega)
    have hfc2 := s3.2.2.1.2.1
    -- the reference
    obtain ⟨SM2, hSM2⟩ : ∃ S : es_St, S = es_wr (es_F SM1 2 (nI (P - (fc1 + z_pgs R (n to))))) 3 (nI to) (nI v) := ⟨_, rfl⟩
    have k2 : z_keep [2] [3] SM1 SM2 := by rw [hSM2]; exact z_keep_trans (z_keep_F _ 2 _ (by simp)) (z_keep_w _ 3 _ _ (by simp))
    obtain ⟨SM3, c1, c2, c3, c4⟩ := zm_sorts_loop (to := to) (hr := hr) (v := v) hto hv8 hhr z_fu 0 SM2 (by omega) (by have := z_fu_ge; omega) ((k2.1 9 (by decide)).trans n9)
    obtain ⟨SM4, d1, d2, ⟨w0, w1, w2, w3, w4, w5⟩, d4, d5⟩ := zm_tells (S := SM3) (kk := kk) (by omega) (by rw [c2.1 11 (by decide), k2.1 11 (by decide)]; exact r11)
    refine ⟨nI v, SX2, SM4, ?_, ?_, _, _, _, _, _, z_set1 n to v, ⟨s3, fun f' hf' => ?_, fun c hc => ?_⟩, ⟨?_, ?_, ?_, fun f' hf' => ?_⟩, ?_⟩
    · unfold f_X7_settleSorted
      rw [if_neg (by decide), x11, s1, es_bd_s, es_bd_s]
    · rw [es_ck_t (vp_in_nI (N := es_NM 3) hto (by decide)), z_rd SM1 3 to (by omega), kMM.2 3 (by decide), (mF to hto).1, z_lt, zm_pagesOf ⟨a3, a4⟩ hac1.2.1 (by omega), es_bd_s, hac1.2.2.1, pk_sub (by omega), show P - fc1 - z_pgs R (n to) = P - (fc1 + z_pgs R (n to)) by omega, z_lt, z_lt, es_ck_t (vp_in_nI (N := es_NM 3) hto (by decide)), z_lt, ← hSM2]
      exact c1.trans (by rw [d1, es_bd_s])
    · by_cases e : f' = to
      · subst e
        rw [z_s1a, if_pos rfl, if_pos rfl, s6, s7, if_pos rfl, if_pos rfl]
        exact ⟨hl1, hh1, rfl, fun hv0 => by rw [xh hv0, if_pos rfl]⟩
      · obtain ⟨u1, u2, u3, u4⟩ := hF f' hf'
        obtain ⟨y1, y2, y3, y4⟩ := hfil' f' hf'
        rw [z_s1b _ _ e, if_neg e, if_neg e, if_neg (by omega), s6, s7, if_neg e, if_neg e, y3, y4, kXX.2 9 (by decide), kXX.2 10 (by decide)]
        exact ⟨u1, u2, u3, fun hv0 => by rw [if_neg e, y1]; exact u4 hv0⟩
    · rw [if_neg (by omega), if_neg (by omega), if_pos hc]; exact Nat.le_refl _
    · rw [d2.1 0 (by decide), c2.1 0 (by decide), k2.1 0 (by decide)]; exact hac1.1
    · rw [d2.1 1 (by decide), c2.1 1 (by decide), k2.1 1 (by decide)]; exact hac1.2.1
    · rw [d2.1 2 (by decide), c2.1 2 (by decide), hSM2, z_w1, z_F1, if_pos rfl]
    · have e3 : SM4.2 3 f' = if f' = to then nI v else SM.2 3 f' := by rw [d2.2 3 (by decide), c2.2 3 (by decide), hSM2, z_w2a _ _ _ _ (by omega), z_F2, kMM.2 3 (by decide)]
      rw [e3, d2.2 1 (by decide), d2.2 2 (by decide)]
      by_cases e : f' = to
      · subst e
        rw [z_s1a, if_pos rfl]
        refine ⟨rfl, fun j hj => ?_⟩
        obtain ⟨y1, y2⟩ := c3 j (by omega) hj
        dsimp only
        rw [y1, y2, k2.2 4 (by decide), k2.2 5 (by decide), if_pos rfl, ← hrec j hj]
        exact ⟨rfl, rfl⟩
      · obtain ⟨u1, u2⟩ := mF f' hf'
        obtain ⟨y1, y2, y3, y4⟩ := hfil' f' hf'
        have hlen := (z_len hok hX hf').2.2
        rw [z_s1b _ _ e, if_neg e]
        refine ⟨u1, fun j hj => ?_⟩
        obtain ⟨z1, z2⟩ := c4 (8192 * f' + j) (by omega)
        dsimp only
        rw [z1, z2, k2.2 1 (by decide), k2.2 2 (by decide), kMM.2 1 (by decide), kMM.2 2 (by decide), if_neg e, y2]
        exact u2 j hj
    · have k3 : ∀ j, j ≠ 2 → SM3.1 j = SM1.1 j := fun j hj => by rw [c2.1 j (by simp), k2.1 j (by simpa using hj)]
      obtain ⟨s27, s28, s29, s30, s31⟩ := s4
      refine ⟨?_, ?_, ?_, ?_, ?_, ?_, kk, by omega, s29, d4, fun i hi => ?_⟩
      · rw [w0, s27, s28, k3 3 (by decide), k3 4 (by decide), n3, hac1.2.2.2.1]
      · rw [w1, s27, k3 3 (by decide), n3]
      · rw [w2, s28, k3 4 (by decide), hac1.2.2.2.1]
      · rw [w3, s29, k3 5 (by decide), r5]
      · rw [w4, s30, k3 6 (by decide), n6]
      · rw [w5, s31, k3 7 (by decide), hac1.2.2.2.2.1]
      · rw [s5 i hi, d5 i hi, c2.2 7 (by decide), k2.2 7 (by decide)]; exact rL i hi
theorem z_budget (x : Int32) : x < 3 ∨ 16 < x ∨ ∃ b : Nat, (3 ≤ b ∧ b ≤ 16) ∧ x = nI b := by
  rcases pk_ix x (n := 17) (by decide) with h | h | ⟨b, hb, rfl⟩
  · exact Or.inl (Int32.lt_trans h (by decide))
  · exact Or.inr (Or.inl (Int32.lt_of_lt_of_le (by decide) h))
  · rcases Nat.lt_or_ge b 3 with z | z
    · exact Or.inl (nI_lt (b := 3) z (by decide))
    · exact Or.inr (Or.inr ⟨b, ⟨z, by omega⟩, rfl⟩)
theorem zx_isBudget0 {N : Nat → Nat} {fu : Nat} {S : es_St} {x : Int32} (h : x < 3 ∨ 16 < x) : f_X7_isBudget N fu S x = some (0, S) := by
  unfold f_X7_isBudget
  by_cases h1 : x < 3
  · rw [if_pos h1]
  · rw [if_neg h1, if_pos (h.resolve_left h1)]
theorem zx_isBudget1 {N : Nat → Nat} {fu : Nat} {S : es_St} {b : Nat} (h : 3 ≤ b ∧ b ≤ 16) : f_X7_isBudget N fu S (nI b) = some (1, S) := by
  unfold f_X7_isBudget
  rw [if_neg (show ¬ nI b < 3 from nI_nlt (b := 3) h.1 (by omega)), if_neg (show ¬ 16 < nI b from nI_nlt (a := 16) h.2 (by decide))]
theorem zm_in0 {N : Nat → Nat} {fu : Nat} {S : es_St} {x a b : Int32} (h : x < a ∨ b < x) : f_X8_in N fu S x a b = some (0, S) := by
  unfold f_X8_in
  by_cases h1 : x < a
  · rw [if_pos h1]
  · rw [if_neg h1, if_pos (h.resolve_left h1)]
theorem zm_in1 {N : Nat → Nat} {fu : Nat} {S : es_St} {x a b : Int32} (h1 : ¬ x < a) (h2 : ¬ b < x) : f_X8_in N fu S x a b = some (1, S) := by
  unfold f_X8_in
  rw [if_neg h1, if_neg h2]
theorem zx_isMode0 {N : Nat → Nat} {fu : Nat} {S : es_St} {x : Int32} (h : x < 0 ∨ 2 < x) : f_X7_isMode N fu S x = some (0, S) := by
  unfold f_X7_isMode
  by_cases h1 : x < 0
  · rw [if_pos h1]
  · rw [if_neg h1, if_pos (h.resolve_left h1)]
theorem zx_isMode1 {N : Nat → Nat} {fu : Nat} {S : es_St} {x : Int32} (h1 : ¬ x < 0) (h2 : ¬ 2 < x) : f_X7_isMode N fu S x = some (1, S) := by
  unfold f_X7_isMode
  rw [if_neg h1, if_neg h2]
theorem z_sim_sort {P R : Nat} {SX SM : es_St} (hok : z_ok P R) (h : z_Rel P R SX SM) (x y z w : Int32) : z_Ans P R (f_X7_sort (es_NX P R) z_fu SX x y z w) (f_X8_sort es_NM z_fu SM x y z w) := by
  have hno : ∀ (a b : Option (Int32 × es_St)), a = some (-1, SX) → b = some (-1, SM) → z_Ans P R a b := fun a b ha hb => ⟨-1, SX, SM, ha, hb, h⟩
  unfold f_X7_sort f_X8_sort
  rcases z_file x with h1 | h1 | ⟨f, hf, rfl⟩
  · rw [zx_isFile0 (Or.inl h1), zm_isFile0 (Or.inl h1)]; exact hno _ _ rfl rfl
  · rw [zx_isFile0 (Or.inr h1), zm_isFile0 (Or.inr h1)]; exact hno _ _ rfl rfl
  rw [zx_isFile1 hf, zm_isFile1 hf, es_bd_s, es_bd_s, if_neg (by decide), if_neg (by decide)]
  rcases z_file y with h1 | h1 | ⟨to, hto, rfl⟩
  · rw [zx_isFile0 (Or.inl h1), zm_isFile0 (Or.inl h1)]; exact hno _ _ rfl rfl
  · rw [zx_isFile0 (Or.inr h1), zm_isFile0 (Or.inr h1)]; exact hno _ _ rfl rfl
  rw [zx_isFile1 hto, zm_isFile1 hto, es_bd_s, es_bd_s, if_neg (by decide), if_neg (by decide)]
  rcases z_budget z with h1 | h1 | ⟨bu, hbu, rfl⟩
  · rw [zx_isBudget0 (Or.inl h1), zm_in0 (Or.inl h1)]; exact hno _ _ rfl rfl
  · rw [zx_isBudget0 (Or.inr h1), zm_in0 (Or.inr h1)]; exact hno _ _ rfl rfl
  rw [zx_isBudget1 hbu, zm_in1 (show ¬ nI bu < 3 from nI_nlt (b := 3) hbu.1 (by omega)) (show ¬ 16 < nI bu from nI_nlt (a := 16) hbu.2 (by decide)), es_bd_s, es_bd_s, if_neg (by decide), if_neg (by decide)]
  by_cases h1 : w < 0 ∨ 2 < w
  · rw [zx_isMode0 h1, zm_in0 h1]; exact hno _ _ rfl rfl
  have h2 : ¬ w < 0 := fun q => h1 (Or.inl q)
  have h3 : ¬ 2 < w := fun q => h1 (Or.inr q)
  rw [zx_isMode1 h2 h3, zm_in1 h2 h3, es_bd_s, es_bd_s, if_pos (by decide), if_neg (by decide)]
  obtain ⟨r, SX1, SM1, e1, e2, e3⟩ := z_sim_sorts (md := w) (onv := 0) hok h hf hto hbu ⟨rfl, rfl⟩
  exact ⟨r, SX1, SM1, e1, by rw [e2, es_bd_s], e3⟩
theorem z_sim_distinct {P R : Nat} {SX SM : es_St} (hok : z_ok P R) (h : z_Rel P R SX SM) (x y z : Int32) : z_Ans P R (f_X7_distinct (es_NX P R) z_fu SX x y z) (f_X8_distinct es_NM z_fu SM x y z) := by
  have hno : ∀ (a b : Option (Int32 × es_St)), a = some (-1, SX) → b = some (-1, SM) → z_Ans P R a b := fun a b ha hb => ⟨-1, SX, SM, ha, hb, h⟩
  unfold f_X7_distinct f_X8_distinct
  rcases z_file x with h1 | h1 | ⟨f, hf, rfl⟩
  · rw [zx_isFile0 (Or.inl h1), zm_isFile0 (Or.inl h1)]; exact hno _ _ rfl rfl
  · rw [zx_isFile0 (Or.inr h1), zm_isFile0 (Or.inr h1)]; exact hno _ _ rfl rfl
  rw [zx_isFile1 hf, zm_isFile1 hf, es_bd_s, es_bd_s, if_neg (by decide), if_neg (by decide)]
  rcases z_file y with h1 | h1 | ⟨to, hto, rfl⟩
  · rw [zx_isFile0 (Or.inl h1), zm_isFile0 (Or.inl h1)]; exact hno _ _ rfl rfl
  · rw [zx_isFile0 (Or.inr h1), zm_isFile0 (Or.inr h1)]; exact hno _ _ rfl rfl
  rw [zx_isFile1 hto, zm_isFile1 hto, es_bd_s, es_bd_s, if_neg (by decide), if_neg (by decide)]
  rcases z_budget z with h1 | h1 | ⟨bu, hbu, rfl⟩
  · rw [zx_isBudget0 (Or.inl h1), zm_in0 (Or.inl h1)]; exact hno _ _ rfl rfl
  · rw [zx_isBudget0 (Or.inr h1), zm_in0 (Or.inr h1)]; exact hno _ _ rfl rfl
  rw [zx_isBudget1 hbu, zm_in1 (show ¬ nI bu < 3 from nI_nlt (b := 3) hbu.1 (by omega)) (show ¬ 16 < nI bu from nI_nlt (a := 16) hbu.2 (by decide)), es_bd_s, es_bd_s, if_pos (by decide), if_neg (by decide)]
  obtain ⟨r, SX1, SM1, e1, e2, e3⟩ := z_sim_sorts (md := 1) (onv := 1) hok h hf hto hbu ⟨rfl, rfl⟩
  exact ⟨r, SX1, SM1, e1, by rw [e2, es_bd_s], e3⟩
