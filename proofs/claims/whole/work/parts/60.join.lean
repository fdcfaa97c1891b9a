/-! ===== join ===== -/
/-- the end, when the pairs are written -/
theorem z_join_done {P R to na nb T kk kc : Nat} {SX SM S SMj : es_St} {pg0 pg : Nat → Nat → Nat} {rc0 rc : Nat → Nat → z_Rec} {lo0 hi0 lo hi : Nat → Nat} {fc0 fc : Nat} {n : Nat → Nat} {ra rb : Nat → z_Rec} (hok : z_ok P R) (hto : to < 6) (hX : z_X P R SX pg0 rc0 lo0 hi0 fc0 n) (hM : z_M P R SM rc0 fc0 n) (hd0 : ∀ c, 6 ≤ c → lo0 c = 0 ∧ hi0 c = 0) (hna : na ≤ 8192) (hnb : nb ≤ 8192) (hn : na + nb ≤ P * R) (ha : z_mon (z_ki ra) na) (hb : z_mon (z_ki rb) nb) (h : z_DI P R S pg rc lo hi fc) (hf : ∀ c, c < 6 → pg c = pg0 c ∧ rc c = rc0 c ∧ lo c = lo0 c ∧ hi c = hi0 c) (hJ : z_JX na nb ra rb S) (hJM : z_JM na nb ra rb SMj) (hTe : T = z_B (z_ki ra) (z_ki rb) nb na) (hT : z_pgs R T ≤ fc0)
    (x9 : S.2 9 = SX.2 9) (x10 : S.2 10 = SX.2 10) (hac : z_AC P R fc S SMj) (m3 : SMj.1 3 = S.1 22) (m6 : SMj.1 6 = S.1 25) (hRL : z_RL S SMj kk) (hkk : kk ≤ 2 * P) (hfcle : fc ≤ fc0) (n1 : SMj.2 1 = SM.2 1) (n2 : SMj.2 2 = SM.2 2) (n3 : SMj.2 3 = SM.2 3) :
    z_Ans P R (es_bd (f_X2_writePairs (es_NX P R) z_fu S) fun r53 S54 => if ¬ r53 = 0 then es_bd (f_X7_settle (es_NX P R) z_fu S54 (nI to) (S54.1 3) (S54.1 4)) fun r57 S58 => some (r57, S58) else es_bd (f_X7_giveUp (es_NX P R) z_fu S54 (-2)) fun r60 S61 => some (r60, S61)) (f_X8_join_216 es_NM z_fu (nI to) (nI (P - fc0)) (nI na) (nI nb) (nI T) SMj) := by
  obtain ⟨a1, a2, a3, a4⟩ := id hok
  have hPR := z_PR hok
  obtain ⟨hD0, hF, hW⟩ := id hX
  obtain ⟨m0, m1, m2, mF⟩ := id hM
  have hfc0 := hD0.2.2.1.2.1
  obtain ⟨lt1, lt2, lt3⟩ := z_len hok hX hto
  have hT8 : T ≤ 8192 := by
    have := (z_pgs_fit (show 0 < R by omega)).mp hT
    have h2 : fc0 * R ≤ P * R := Nat.mul_le_mul_right R hfc0
    omega
  obtain ⟨S1, Sb, g1, ⟨pgW, rcW, hiW, fcW, e1, e2, e3, e4, e5, e6, e7, e8, e9, e10, e11⟩, g3, g4⟩ := zx_writePairs (T := T) hok hn ha hb hD0 hd0 h hf hJ hTe hT
  obtain ⟨t1, t2, t3, t4⟩ := hF to hto
  obtain ⟨r24, r11, r5, rL⟩ := hRL
  obtain ⟨o1, o2, o3⟩ := e10 to (by omega)
  obtain ⟨S2, s1, s2, s3, s4, s5, s6, s7⟩ := zx_settle (to := to) (rch := 6) (v := T) (kk := kk) (nto := n to) (hd := S1.1 3) hok hto e1 (by omega) (fun c hc hne => by rw [(e10 c hne).2.2, (hd0 c hc).1, (hd0 c hc).2]; exact Nat.le_refl _) t1 (by rw [o3]; exact t2) (by rw [g4.1 24 (by decide)]; exact r24) hkk
  have hfW2 := s3.2.2.1.2.1
  obtain ⟨SM1, q1, q2, q3, q4, q5, q6, ⟨w0, w1, w2, w3, w4, w5⟩, q8, q9⟩ := zm_join_end (fcW := fcW) (nto := n to) (kk := kk) (pk0 := S.1 26) hok hto hna hnb ha hb hJM hTe hT8 hfc0 e7 hac.2.1 hac.2.2.2.2.1 (by rw [n3]; exact (mF to hto).1) lt3 hfW2 r11 (by omega)
  refine ⟨nI T, S2, SM1, ?_, q1, _, _, _, _, _, z_set1 n to T, ⟨s3, fun f' hf' => ?_, fun c hc => ?_⟩, ⟨?_, ?_, q3, fun f' hf' => ?_⟩, ?_⟩
  · rw [g1, es_bd_s, if_pos (by decide), e6, s1, es_bd_s]
  · by_cases e : f' = to
    · subst e
      rw [z_s1a, if_pos rfl, if_pos rfl, s6, s7, if_pos rfl, if_pos rfl]
      exact ⟨e2, e3, rfl, fun hv0 => by rw [e5 hv0, if_pos rfl]⟩
    · obtain ⟨u1, u2, u3, u4⟩ := hF f' hf'
      obtain ⟨y1, y2, y3⟩ := e10 f' (by omega)
      rw [z_s1b _ _ e, if_neg e, if_neg e, if_neg (by omega), s6, s7, if_neg e, if_neg e, y3, g4.2 9 (by decide), g4.2 10 (by decide), x9, x10]
      exact ⟨u1, u2, u3, fun hv0 => by rw [if_neg e, y1]; exact u4 hv0⟩
  · rw [if_neg (by omega), if_neg (by omega), if_pos hc]; exact Nat.le_refl _
  · rw [q2.1 0 (by decide)]; exact hac.1
  · rw [q2.1 1 (by decide)]; exact hac.2.1
  · rw [q4]
    by_cases e : f' = to
    · subst e
      rw [z_s1a, if_pos rfl]
      refine ⟨rfl, fun j hj => ?_⟩
      have := q5 j hj
      rw [← e4 j hj] at this
      obtain ⟨z1, z2⟩ := Prod.mk.inj this
      dsimp only
      rw [if_pos rfl]
      exact ⟨z1, z2⟩
    · obtain ⟨u1, u2⟩ := mF f' hf'
      obtain ⟨y1, y2, y3⟩ := e10 f' (by omega)
      have hlen := (z_len hok hX hf').2.2
      rw [z_s1b _ _ e, if_neg e, n3]
      refine ⟨u1, fun j hj => ?_⟩
      obtain ⟨z1, z2⟩ := q6 (8192 * f' + j) (by omega)
      dsimp only
      rw [z1, z2, n1, n2, if_neg e, y2]
      exact u2 j hj
  · obtain ⟨s27, s28, s29, s30, s31⟩ := s4
    have v22 : S1.1 22 = SMj.1 3 + nI (z_pgs R na + z_pgs R nb) := by rw [g3, m3]
    have v23 : S1.1 23 = SMj.1 4 + nI (z_pgs R T) := by rw [e8, hac.2.2.2.1]
    have v26 : S1.1 26 = z_pk (P - fc0 + z_pgs R T) (S.1 26) := by
      rw [e9]
      by_cases c : z_pgs R T = 0
      · rw [if_pos c, c, Nat.add_zero]
        unfold z_pk
        rw [if_pos (Int32.le_trans (nI_le (show P - fc0 ≤ P - fc by omega) (by omega)) hac.2.2.2.2.2.2)]
      · rw [if_neg c]
    refine ⟨?_, ?_, ?_, ?_, ?_, ?_, kk, hkk, s29, q8, fun i hi => ?_⟩
    · rw [w0, s27, s28, v22, v23]
    · rw [w1, s27, v22]
    · rw [w2, s28, v23]
    · rw [w3, s29, r5]
    · rw [w4, s30, g4.1 25 (by decide), m6]
    · rw [w5, s31, v26]
    · rw [s5 i hi, q9 i hi, g4.2 22 (by decide)]; exact rL i hi
theorem zm_134_full {x3 x4 x5 x6 : Int32} {S : es_St} (h8 : S.1 8 = 1) : f_X8_join_134 es_NM z_fu z_fu x3 x4 x5 x6 0 0 S = some (-2, es_F S 2 x5) := by
  have hfu := z_fu_ge
  obtain ⟨q, hq⟩ : ∃ q, z_fu = q + 1 := ⟨z_fu - 1, by omega⟩
  have e : f_X8_join_134 es_NM z_fu z_fu x3 x4 x5 x6 0 0 S = f_X8_join_134 es_NM z_fu (q + 1) x3 x4 x5 x6 0 0 S := by rw [← hq]
  rw [e, f_X8_join_134, if_pos (by decide), h8, if_neg (by decide), zm_no216 (by decide)]
theorem z_sim_join {P R : Nat} {SX SM : es_St} (hok : z_ok P R) (h : z_Rel P R SX SM) (x y z w : Int32) : z_Ans P R (f_X7_join (es_NX P R) z_fu SX x y z w) (f_X8_join es_NM z_fu SM x y z w) := by
  have hno : ∀ (a b : Option (Int32 × es_St)), a = some (-1, SX) → b = some (-1, SM) → z_Ans P R a b := fun a b ha hb => ⟨-1, SX, SM, ha, hb, h⟩
  unfold f_X7_join f_X8_join
  rcases z_file x with h1 | h1 | ⟨fa, hfa, rfl⟩
  · rw [zx_isFile0 (Or.inl h1), zm_isFile0 (Or.inl h1)]; exact hno _ _ rfl rfl
  · rw [zx_isFile0 (Or.inr h1), zm_isFile0 (Or.inr h1)]; exact hno _ _ rfl rfl
  rw [zx_isFile1 hfa, zm_isFile1 hfa, es_bd_s, es_bd_s, if_neg (by decide), if_neg (by decide)]
  rcases z_file y with h1 | h1 | ⟨fb, hfb, rfl⟩
  · rw [zx_isFile0 (Or.inl h1), zm_isFile0 (Or.inl h1)]; exact hno _ _ rfl rfl
  · rw [zx_isFile0 (Or.inr h1), zm_isFile0 (Or.inr h1)]; exact hno _ _ rfl rfl
  rw [zx_isFile1 hfb, zm_isFile1 hfb, es_bd_s, es_bd_s, if_neg (by decide), if_neg (by decide)]
  rcases z_file z with h1 | h1 | ⟨to, hto, rfl⟩
  · rw [zx_isFile0 (Or.inl h1), zm_isFile0 (Or.inl h1)]; exact hno _ _ rfl rfl
  · rw [zx_isFile0 (Or.inr h1), zm_isFile0 (Or.inr h1)]; exact hno _ _ rfl rfl
  rw [zx_isFile1 hto, zm_isFile1 hto, es_bd_s, es_bd_s, if_neg (by decide), if_neg (by decide)]
  rcases z_budget w with h1 | h1 | ⟨bu, hbu, rfl⟩
  · rw [zx_isBudget0 (Or.inl h1), zm_in0 (Or.inl h1)]; exact hno _ _ rfl rfl
  · rw [zx_isBudget0 (Or.inr h1), zm_in0 (Or.inr h1)]; exact hno _ _ rfl rfl
  rw [zx_isBudget1 hbu, zm_in1 (show ¬ nI bu < 3 from nI_nlt (b := 3) hbu.1 (by omega)) (show ¬ 16 < nI bu from nI_nlt (a := 16) hbu.2 (by decide)), es_bd_s, es_bd_s, if_pos (by decide), if_pos (by decide)]
  -- the start
  obtain ⟨pg, rc, lo1, hi1, fc, n, hX1, hM, hT⟩ := id h
  obtain ⟨a1, a2, a3, a4⟩ := id hok
  have hPR := z_PR hok
  obtain ⟨m0, m1, m2, mF⟩ := id hM
  -- the work's chains are empty
  obtain ⟨lo, hi, hX, hd0⟩ : ∃ lo hi, z_X P R SX pg rc lo hi fc n ∧ ∀ c, 6 ≤ c → lo c = 0 ∧ hi c = 0 := by
    obtain ⟨hD1, hF1, hW1⟩ := hX1
    refine ⟨_, _, ⟨z_clear (rch := 0) (ba := 6) hD1 (fun c hc _ => hW1 c hc), fun f hf => ?_, fun c hc => ?_⟩, fun c hc => ⟨if_pos ⟨hc, by omega⟩, if_pos ⟨hc, by omega⟩⟩⟩
    · rw [if_neg (by omega), if_neg (by omega)]; exact hF1 f hf
    · rw [if_pos ⟨hc, by omega⟩, if_pos ⟨hc, by omega⟩]; exact Nat.le_refl _
  obtain ⟨hD, hF, hW⟩ := id hX
  obtain ⟨la1, la2, la3⟩ := z_len hok hX hfa
  obtain ⟨lb1, lb2, lb3⟩ := z_len hok hX hfb
  have hfcP := hD.2.2.1.2.1
  obtain ⟨SXb, SMb, b1, b2, kX, kM, ⟨x13, x14, x15, x24⟩, hac, ⟨m3, m11, m5, m6⟩⟩ := z_begin (bu := bu) (md := 0) (onv := 0) hok ⟨rfl, rfl⟩ hD.1 hD.2.2.1.1 hfcP m0 m1 m2
  have hDb := z_DI_same (S' := SXb) hD ⟨kX.1 0 (by decide), kX.1 1 (by decide), kX.1 2 (by decide), kX.2 11 (by decide), kX.2 12 (by decide), kX.2 13 (by decide), kX.2 14 (by decide), kX.2 15 (by decide)⟩
  obtain ⟨q1, q2, q3, q4⟩ := hF fa hfa
  obtain ⟨p1, p2, p3, p4⟩ := hF fb hfb
  -- giving up brings all back
  have back : ∀ (S S' : es_St) (pg' : Nat → Nat → Nat) (rc' : Nat → Nat → z_Rec) (lo' hi' : Nat → Nat) (fc' : Nat) (q : Int32), z_DI P R S pg' rc' lo' hi' fc' → (∀ c, c < 6 → pg' c = pg c ∧ rc' c = rc c ∧ lo' c = lo c ∧ hi' c = hi c) → z_keep (13 :: 14 :: 15 :: 16 :: 17 :: 18 :: 19 :: 20 :: 21 :: z_KX) (20 :: 21 :: z_AX) SX S → z_keep (13 :: 14 :: z_KM) (17 :: 18 :: 19 :: 20 :: z_AM) SM S' → z_Ans P R (es_bd (f_X7_giveUp (es_NX P R) z_fu S q) fun r S3 => some (r, S3)) (some (q, es_F S' 2 (nI (P - fc)))) := fun S S' pg' rc' lo' hi' fc' q h1 h2 h3 h4 => by
    obtain ⟨S2, e1, e2, e3⟩ := z_giveUp (q := q) hok hD hW h1 h2
    have k3 : z_keep (13 :: 14 :: 15 :: 16 :: 17 :: 18 :: 19 :: 20 :: 21 :: z_KX) (20 :: 21 :: z_AX) SX S2 := z_keep_trans h3 (z_keep_mono e2 (by decide) (by decide))
    have k4 : z_keep (13 :: 14 :: z_KM) (17 :: 18 :: 19 :: 20 :: z_AM) SM (es_F S' 2 (nI (P - fc))) := z_keep_trans h4 (z_keep_F _ 2 _ (by decide))
    exact ⟨q, S2, _, by rw [e1, es_bd_s], rfl, z_Rel_back hX hM hT (fun _ _ => ⟨rfl, rfl⟩) hW e3 (k3.2 9 (by decide)) (k3.2 10 (by decide)) (k3.1 27 (by decide)) (k3.1 28 (by decide)) (k3.1 29 (by decide)) (k3.1 30 (by decide)) (k3.1 31 (by decide)) (k3.2 23 (by decide)) (k4.1 0 (by decide)) (k4.1 1 (by decide)) (by rw [z_F1, if_pos rfl]; exact m2.symm) (k4.1 15 (by decide)) (k4.2 1 (by decide)) (k4.2 2 (by decide)) (k4.2 3 (by decide)) (k4.2 12 (by decide)) (k4.2 13 (by decide))⟩
  have kXb : z_keep (13 :: 14 :: 15 :: 16 :: 17 :: 18 :: 19 :: 20 :: 21 :: z_KX) (20 :: 21 :: z_AX) SX SXb := z_keep_mono kX (by decide) (by decide)
  have kMb : z_keep (13 :: 14 :: z_KM) (17 :: 18 :: 19 :: 20 :: z_AM) SM SMb := z_keep_mono kM (by decide) (by decide)
  have kF : ∀ S : es_St, z_keep (13 :: 14 :: z_KM) (17 :: 18 :: 19 :: 20 :: z_AM) S (es_F (es_F S 13 0) 14 0) := fun S => z_keep_trans (z_keep_F _ 13 _ (by decide)) (z_keep_F _ 14 _ (by decide))
  -- a is sorted
  obtain ⟨r, SX1, SM1, na, g1, g2, hna, g3⟩ := z_arrange (f := fa) (n := n fa) (ba := 6) (rb := 0) (bu := bu) (md := 0) (onv := 0) (hd := SX.2 9 fa) (SX := SXb) (SM := SMb) hok hfa (by omega) la3 (by omega) hbu q1 q2 ⟨rfl, rfl⟩ q4 hDb hd0 x13 x14 x15 x24 hac m3 m11 m5 m6 (by rw [kM.2 3 (by decide)]; exact (mF fa hfa).1) (fun j hj => by rw [kM.2 1 (by decide), kM.2 2 (by decide), ((mF fa hfa).2 j hj).1, ((mF fa hfa).2 j hj).2]) (fun i hi => absurd hi (by omega))
  rw [b1, b2, es_bd_s, es_bd_s, zN9, zN10, z_ck hfa (by decide), z_rd SXb 9 fa (by omega), kX.2 9 (by decide), z_lt, z_ck hfa (by decide), z_rd SXb 10 fa (by omega), kX.2 10 (by decide), q3, z_lt, g1, es_bd_s, g2, es_bd_s, m2]
  rcases g3 with ⟨rfl, pg1, rc1, lo1', hi1', fc1, hD1, hfil, kX1, kM1, h8, ⟨hr, hhr, h9⟩, -⟩ | ⟨rfl, pg1, rc1, lo1', hi1', fc1, kk1, hr1, ca, hkk1, hRS1⟩
  · -- full at a
    rw [if_neg (by decide)]
    obtain ⟨SM2, c1, c2, -, -⟩ := zm_left_loop (x2 := nI fb) (x3 := nI to) (x4 := nI bu) (x5 := nI (P - fc)) (hr := hr) hhr hna z_fu 0 SM1 (by omega) (by have := z_fu_ge; omega) h9
    have h82 : SM2.1 8 = 1 := (c2.1 8 (by decide)).trans h8
    rw [show f_X8_join_58 es_NM z_fu z_fu (nI fb) (nI to) (nI bu) (nI (P - fc)) (nI na) 0 SM1 = _ from c1, h82, if_neg (by decide), zm_134_full h82]
    exact back SX1 SM2 pg1 rc1 lo1' hi1' fc1 (-2) hD1 (fun c hc => hfil c hc) (z_keep_trans kXb (z_keep_mono kX1 (by decide) (by decide))) (z_keep_trans kMb (z_keep_trans (kF _) (z_keep_trans (z_keep_mono kM1 (by decide) (by decide)) (z_keep_mono c2 (by decide) (by decide)))))
  rw [if_pos (by decide)]
  obtain ⟨hD1, hac1, hfil1, kX1, kM1, ⟨n3, n6, n9, hhr1⟩, ⟨r24, r11, r5, rL⟩, hb6, hl1, hh1, hdd1, x11, xh, -, hrec1, -, -, hsA⟩ := hRS1
  have kX1' : z_keep (13 :: 14 :: 15 :: 16 :: 17 :: 18 :: 19 :: 20 :: 21 :: z_KX) (20 :: 21 :: z_AX) SX SX1 := z_keep_trans kXb (z_keep_mono kX1 (by decide) (by decide))
  have kM1' : z_keep (13 :: 14 :: z_KM) (17 :: 18 :: 19 :: 20 :: z_AM) SM SM1 := z_keep_trans kMb (z_keep_trans (kF _) (z_keep_mono kM1 (by decide) (by decide)))
  obtain ⟨SM2, c1, c2, c3, -⟩ := zm_left_loop (x2 := nI fb) (x3 := nI to) (x4 := nI bu) (x5 := nI (P - fc)) (hr := hr1) (by omega) hna z_fu 0 SM1 (by omega) (by have := z_fu_ge; omega) n9
  have kM2' : z_keep (13 :: 14 :: z_KM) (17 :: 18 :: 19 :: 20 :: z_AM) SM SM2 := z_keep_trans kM1' (z_keep_mono c2 (by decide) (by decide))
  have h82 : SM2.1 8 = 0 := (c2.1 8 (by decide)).trans hac1.2.2.2.2.2.1
  -- b is sorted
  obtain ⟨f1, f2, f3, f4⟩ := hfil1 fb hfb
  obtain ⟨r2, SX3, SM3, nb, j1, j2, hnb, j3⟩ := z_arrange (f := fb) (n := n fb) (ba := ca + 1) (rb := kk1) (bu := bu) (md := 0) (onv := 0) (hd := SX.2 9 fb) (SX := SX1) (SM := SM2) hok hfb (by omega) lb3 (by omega) hbu (by rw [f3]; exact p1) (by rw [f4]; exact p2) ⟨rfl, rfl⟩ (fun hh => by rw [f1]; exact p4 hh) hD1 (fun c hc => hdd1 c (by omega) (by omega)) ((kX1.1 13 (by decide)).trans x13) ((kX1.1 14 (by decide)).trans x14) ((kX1.1 15 (by decide)).trans x15) r24 (z_AC_same hac1 rfl rfl (c2.1 0 (by decide)) (c2.1 1 (by decide)) (c2.1 2 (by decide)) (c2.1 4 (by decide)) (c2.1 7 (by decide)) (c2.1 8 (by decide))) ((c2.1 3 (by decide)).trans n3) ((c2.1 11 (by decide)).trans r11) ((c2.1 5 (by decide)).trans r5) ((c2.1 6 (by decide)).trans n6) (by rw [kM2'.2 3 (by decide)]; exact (mF fb hfb).1) (fun j hj => by rw [kM2'.2 1 (by decide), kM2'.2 2 (by decide), ((mF fb hfb).2 j hj).1, ((mF fb hfb).2 j hj).2, f2]) (fun i hi => by rw [c2.2 7 (by decide)]; exact rL i hi)
  rw [z_ck hfb (by decide), z_rd SX1 9 fb (by omega), kX1'.2 9 (by decide), z_lt, z_ck hfb (by decide), z_rd SX1 10 fb (by omega), kX1'.2 10 (by decide), p3, z_lt, j1, es_bd_s, show f_X8_join_58 es_NM z_fu z_fu (nI fb) (nI to) (nI bu) (nI (P - fc)) (nI na) 0 SM1 = _ from c1, h82, if_pos rfl, j2, es_bd_s]
  rcases j3 with ⟨rfl, pg2, rc2, lo2, hi2, fc2, hD2, hfil2, kX3, kM3, h8, ⟨hr, hhr, h9⟩, -⟩ | ⟨rfl, pg2, rc2, lo2, hi2, fc2, kk2, hr2, cb, hkk2, hRS2⟩
  · -- full at b
    rw [if_neg (by decide)]
    obtain ⟨SM4, d1, d2, -, -⟩ := zm_right_loop (x3 := nI to) (x4 := nI bu) (x5 := nI (P - fc)) (x6 := nI na) (hr := hr) hhr hnb z_fu 0 SM3 (by omega) (by have := z_fu_ge; omega) h9
    have h84 : SM4.1 8 = 1 := (d2.1 8 (by decide)).trans h8
    rw [show f_X8_join_134 es_NM z_fu z_fu (nI to) (nI bu) (nI (P - fc)) (nI na) (nI nb) 0 SM3 = _ from d1, h84, if_neg (by decide), zm_no216 (by decide)]
    exact back SX3 SM4 pg2 rc2 lo2 hi2 fc2 (-2) hD2 (fun c hc => by
      obtain ⟨y1, y2, y3, y4⟩ := hfil2 c (by omega)
      rw [y1, y2, y3, y4]; exact hfil1 c hc) (z_keep_trans kX1' (z_keep_mono kX3 (by decide) (by decide))) (z_keep_trans kM2' (z_keep_trans (kF _) (z_keep_trans (z_keep_mono kM3 (by decide) (by decide)) (z_keep_mono d2 (by decide) (by decide)))))
  rw [if_pos (by decide)]
  obtain ⟨hD2, hac2, hfil2, kX3, kM3, ⟨i3, i6, i9, hhr2⟩, ⟨u24, u11, u5, uL⟩, hb7, hl2, hh2, hdd2, y11, yh, -, hrec2, -, -, hsB⟩ := hRS2
  have kX3' : z_keep (13 :: 14 :: 15 :: 16 :: 17 :: 18 :: 19 :: 20 :: 21 :: z_KX) (20 :: 21 :: z_AX) SX SX3 := z_keep_trans kX1' (z_keep_mono kX3 (by decide) (by decide))
  have kM3' : z_keep (13 :: 14 :: z_KM) (17 :: 18 :: 19 :: 20 :: z_AM) SM SM3 := z_keep_trans kM2' (z_keep_trans (kF _) (z_keep_mono kM3 (by decide) (by decide)))
  obtain ⟨SM4, d1, d2, d3, -⟩ := zm_right_loop (x3 := nI to) (x4 := nI bu) (x5 := nI (P - fc)) (x6 := nI na) (hr := hr2) (by omega) hnb z_fu 0 SM3 (by omega) (by have := z_fu_ge; omega) i9
  have kM4' : z_keep (13 :: 14 :: z_KM) (17 :: 18 :: 19 :: 20 :: z_AM) SM SM4 := z_keep_trans kM3' (z_keep_mono d2 (by decide) (by decide))
  have h84 : SM4.1 8 = 0 := (d2.1 8 (by decide)).trans hac2.2.2.2.2.2.1
  have hfl6 : ∀ c, c < 6 → pg2 c = pg c ∧ rc2 c = rc c ∧ lo2 c = lo c ∧ hi2 c = hi c := fun c hc => by
    obtain ⟨y1, y2, y3, y4⟩ := hfil2 c (by omega)
    rw [y1, y2, y3, y4]; exact hfil1 c hc
  obtain ⟨v1, v2, v3, v4⟩ := hfil2 ca (by omega)
  have hlca : lo2 ca = 0 := by rw [v3]; exact hl1
  have hhca : hi2 ca = z_pgs R na := by rw [v4]; exact hh1
  -- how many pages both take
  have hcnt : z_cnt (fun q => SX3.2 13 q = 6) P = z_pgs R na + z_pgs R nb := by
    rw [z_CH_cnt2 hD2.2.2.2 ca cb (by omega) 6 (z_ow_ge hb6).symm (z_ow_ge (show 6 ≤ cb by omega)).symm hlca hl2 (fun c h1 h2 h3 => by
      have h6 := z_ow_6 (show z_ow c = nI 6 from h3)
      rcases Nat.lt_or_ge c (ca + 1) with zz | zz
      · obtain ⟨-, -, w3, w4⟩ := hfil2 c zz
        rw [w3, w4, (hdd1 c h6 h1).1, (hdd1 c h6 h1).2]; exact Nat.le_refl _
      · rw [(hdd2 c zz h2).1, (hdd2 c zz h2).2]; exact Nat.le_refl _), hhca, hh2]
  have hcle := z_cnt_le (fun q => SX3.2 13 q = 6) P
  rw [hcnt] at hcle
  have hn : na + nb ≤ P * R := by
    have e1 := z_pgs_le (show 0 < R by omega) (Nat.le_refl (z_pgs R na))
    have e2 := z_pgs_le (show 0 < R by omega) (Nat.le_refl (z_pgs R nb))
    have e3 : (z_pgs R na + z_pgs R nb) * R ≤ P * R := Nat.mul_le_mul_right R hcle
    rw [Nat.add_mul] at e3
    omega
  have hfcs : fc2 + (z_pgs R na + z_pgs R nb) = fc := by
    obtain ⟨-, -, -, -, e⟩ := z_relAll hok hD hW hD2 hfl6
    rw [hcnt] at e
    exact e
  have hmA : z_mon (z_ki (rc2 ca)) na := z_srt_mon (by rw [v2]; exact hsA)
  have hmB : z_mon (z_ki (rc2 cb)) nb := z_srt_mon hsB
  -- both hold the same
  obtain ⟨S4, l1, l2, l3, l4, l5, l6⟩ := zx_look (ca := ca) (cb := cb) (na := na) (nb := nb) (ha := SX1.1 10) (hb := SX3.1 10) hok hD2 hlca hhca hl2 hh2 hn (fun hh => by rw [v1]; exact xh hh) yh
  have hJ4 : z_JX na nb (rc2 ca) (rc2 cb) S4 := ⟨l3, l4, l5, l6⟩
  have hJM : z_JM na nb (rc2 ca) (rc2 cb) SM4 := by
    refine ⟨fun i hi => ?_, fun j hj => ?_⟩
    · obtain ⟨e1, e2⟩ := c3 i (by omega) hi
      have e3 := hrec1 i hi
      rw [← v2] at e3
      rw [d2.2 17 (by decide), d2.2 18 (by decide), kM3.2 17 (by decide), kM3.2 18 (by decide), ← e3]
      exact ⟨e1, e2⟩
    · obtain ⟨e1, e2⟩ := d3 j (by omega) hj
      rw [e1, e2, ← hrec2 j hj]
      exact ⟨rfl, rfl⟩
  have hD4 : z_DI P R S4 pg2 rc2 lo2 hi2 fc2 := z_DI_same hD2 ⟨l2.1 0 (by decide), l2.1 1 (by decide), l2.1 2 (by decide), l2.2 11 (by decide), l2.2 12 (by decide), l2.2 13 (by decide), l2.2 14 (by decide), l2.2 15 (by decide)⟩
  have kX4' : z_keep (13 :: 14 :: 15 :: 16 :: 17 :: 18 :: 19 :: 20 :: 21 :: z_KX) (20 :: 21 :: z_AX) SX S4 := z_keep_trans kX3' (z_keep_mono l2 (by decide) (by decide))
  have hroom1 : 1 ≤ (bu - 2) * R := Nat.mul_pos (by omega) (by omega)
  have hroom2 : (bu - 2) * R ≤ 14 * 16 := Nat.mul_le_mul (by omega) a4
  obtain ⟨mx, t1, t2, t3⟩ := zx_largest (room := (bu - 2) * R) hok hn hroom1 hmB hJ4
  have x13' : S4.1 13 = nI bu := by rw [l2.1 13 (by decide), kX3.1 13 (by decide), kX1.1 13 (by decide)]; exact x13
  have hroomX : f_X5_room (es_NX P R) z_fu S4 = some (nI ((bu - 2) * R), S4) := by
    unfold f_X5_room
    rw [x13', hD4.2.1, show nI bu - 2 = nI (bu - 2) from pk_sub (b := 2) (by omega), pk_mul]
  obtain ⟨jd1, jd2⟩ := zm_joined (na := na) (nb := nb) (room := (bu - 2) * R) (P := P) (R := R) (u := P - fc) (ra := rc2 ca) (rb := rc2 cb) (S := SM4) hna hnb (by omega) hmA hmB (fun i hi => (hJM.1 i hi).1) (fun j hj => (hJM.2 j hj).1) ((d2.1 0 (by decide)).trans hac2.1) ((d2.1 1 (by decide)).trans hac2.2.1) a2 a4 (by omega)
  rw [x11, y11, l1, es_bd_s, t1, es_bd_s, hroomX, es_bd_s, show f_X8_join_134 es_NM z_fu z_fu (nI to) (nI bu) (nI (P - fc)) (nI na) (nI nb) 0 SM3 = _ from d1, h84, if_pos rfl, d2.1 1 (by decide), hac2.2.1, show nI bu - 2 = nI (bu - 2) from pk_sub (b := 2) (by omega), pk_mul]
  by_cases hfit : z_fits (z_ki (rc2 cb)) nb ((bu - 2) * R)
  · rw [if_pos (nI_le (t3.mpr hfit) (by omega))]
    obtain ⟨S5, k1, k2, k3⟩ := zx_pairsFit (fc := fc2) hok hn hmA hmB hD4.2.1 hD4.2.2.1.1 hD4.2.2.1.2.1 hJ4
    rw [hfcs] at k2 k3
    have hPu : P - (P - fc) = fc := by omega
    rw [hPu] at jd2
    have hD5 : z_DI P R S5 pg2 rc2 lo2 hi2 fc2 := z_DI_same hD4 ⟨k1.1 0 (by decide), k1.1 1 (by decide), k1.1 2 (by decide), k1.2 11 (by decide), k1.2 12 (by decide), k1.2 13 (by decide), k1.2 14 (by decide), k1.2 15 (by decide)⟩
    have kX5' : z_keep (13 :: 14 :: 15 :: 16 :: 17 :: 18 :: 19 :: 20 :: 21 :: z_KX) (20 :: 21 :: z_AX) SX S5 := z_keep_trans kX4' (z_keep_mono k1 (by decide) (by decide))
    by_cases hle : z_B (z_ki (rc2 ca)) (z_ki (rc2 cb)) nb na ≤ fc * R
    · rw [k2 hle, es_bd_s, if_neg (by decide), (jd2 hfit).1 hle, es_bd_s]
      have kS : z_keep [16, 17, 18, 19, 20, 21] [20, 21] SX3 S5 := z_keep_trans (z_keep_mono l2 (by decide) (by decide)) (z_keep_mono k1 (by decide) (by decide))
      refine z_join_done (kk := kk2) (fc := fc2) (kc := 0) hok hto hX hM hd0 hna hnb hn hmA hmB hD5 hfl6 ⟨(k1.1 16 (by decide)).trans l3, (k1.1 17 (by decide)).trans l4, by rw [k1.2 20 (by decide), k1.2 21 (by decide)]; exact l5, by rw [k1.2 20 (by decide), k1.2 21 (by decide)]; exact l6⟩ hJM rfl ((z_pgs_fit (by omega)).mpr hle) (kX5'.2 9 (by decide)) (kX5'.2 10 (by decide)) (z_AC_same hac2 (kS.1 23 (by decide)) (kS.1 26 (by decide)) (d2.1 0 (by decide)) (d2.1 1 (by decide)) (d2.1 2 (by decide)) (d2.1 4 (by decide)) (d2.1 7 (by decide)) (d2.1 8 (by decide))) (by rw [d2.1 3 (by decide), kS.1 22 (by decide)]; exact i3) (by rw [d2.1 6 (by decide), kS.1 25 (by decide)]; exact i6) ⟨(kS.1 24 (by decide)).trans u24, (d2.1 11 (by decide)).trans u11, (d2.1 5 (by decide)).trans u5, fun i hi => by rw [kS.2 22 (by decide), d2.2 7 (by decide)]; exact uL i hi⟩ (by omega) (by omega) (kM4'.2 1 (by decide)) (kM4'.2 2 (by decide)) (kM4'.2 3 (by decide))
    · rw [k3 hle, es_bd_s, if_pos rfl, (jd2 hfit).2 hle, es_bd_s, zm_no216 (by decide)]
      exact back S5 SM4 pg2 rc2 lo2 hi2 fc2 (-2) hD5 hfl6 kX5' kM4'
  · rw [if_neg (nI_ge (show (bu - 2) * R < mx by
      rcases Nat.lt_or_ge ((bu - 2) * R) mx with zz | zz
      · exact zz
      · exact absurd (t3.mp zz) hfit) (by omega)), jd1 hfit, es_bd_s, zm_no216 (by decide)]
    exact back S4 SM4 pg2 rc2 lo2 hi2 fc2 (-3) hD4 hfl6 kX4' kM4'
