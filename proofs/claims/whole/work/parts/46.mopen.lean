/-! ===== merging: the lanes are opened; a whole merge ===== -/
def z_OP (P R w hr : Nat) (md : Int32) (c n qs : Nat → Nat) (SX SM : es_St) (pg : Nat → Nat → Nat) (rc : Nat → Nat → z_Rec) (lo hi : Nat → Nat) (fc l : Nat) : Prop :=
  z_DI P R SX pg rc lo hi fc ∧ z_AC P R fc SX SM ∧ (SX.1 32 = nI w ∧ SX.1 33 = md ∧ SM.1 3 = SX.1 22) ∧ (∀ l', l' < l → z_LN R SX pg rc lo hi (c l') (n l') 0 l' ∧ SM.2 15 l' = nI (hr + qs l') ∧ SM.2 16 l' = nI (hr + qs l' + n l')) ∧ (∀ l', l ≤ l' → l' < w → lo (c l') = 0 ∧ hi (c l') = z_pgs R (n l'))
theorem z_open_loop {P R w fr hr a : Nat} {md : Int32} {c n qs : Nat → Nat} {SX0 SM0 : es_St} {pg : Nat → Nat → Nat} {rc : Nat → Nat → z_Rec} {hi : Nat → Nat} (hok : z_ok P R) (hw : w ≤ 15) (hinj : ∀ l l', l < w → l' < w → c l = c l' → l = l') (hhr : hr = 0 ∨ hr = 8192) (haP : a + w ≤ P) (hX : ∀ l, l < w → SX0.2 18 (a + l) = nI (pg (c l) 0) ∧ SX0.2 19 (a + l) = nI (n l) ∧ 0 < n l) (hM : ∀ l, l < w → SM0.2 6 (a + l) = nI (qs l) ∧ SM0.2 6 (a + l + 1) = nI (qs l + n l) ∧ qs l + n l ≤ 8192) :
    ∀ (gap fX fM l : Nat) (SX SM : es_St) (lo : Nat → Nat) (fc : Nat), w - l = gap → l ≤ w → gap < fX → gap < fM → z_OP P R w hr md c n qs SX SM pg rc lo hi fc l → z_keep [2, 22, 32, 33] [13, 15, 24, 25, 26, 27, 28, 29, 30, 31, 32, 33] SX0 SX → z_keep [2, 3] [15, 16] SM0 SM →
    ∃ (SX' SM' : es_St) (lo' : Nat → Nat) (fc' : Nat), f_X5_openRuns_17 (es_NX P R) z_fu fX (nI a) (nI w) (nI (z_sum n l)) (nI l) SX = some (nI (z_sum n w), SX') ∧ f_X8_merge_7 es_NM z_fu fM (nI hr) (nI a) (nI w) (nI fr) (nI fr) (nI l) SM = (es_bd (f_X8_leastOf es_NM z_fu SM' (nI w)) fun r2 S3 => f_X8_merge_68 es_NM z_fu z_fu (nI hr) (nI a) (nI w) (nI fr) (nI fr) r2 S3) ∧ z_OP P R w hr md c n qs SX' SM' pg rc lo' hi fc' w ∧ z_keep [2, 22, 32, 33] [13, 15, 24, 25, 26, 27, 28, 29, 30, 31, 32, 33] SX0 SX' ∧ z_keep [2, 3] [15, 16] SM0 SM' ∧ ∀ c', (∀ l, l < w → c' ≠ c l) → lo' c' = lo c' := by
  obtain ⟨a1, a2, a3, a4⟩ := id hok
  have hwT : w ≤ es_T R := by unfold es_T; split <;> omega
  intro gap
  induction gap with
  | zero =>
    intro fX fM l SX SM lo fc hgap hl hfX hfM H kX kM
    have e : l = w := by omega
    subst e
    obtain ⟨fX', rfl⟩ : ∃ k, fX = k + 1 := ⟨fX - 1, by omega⟩
    obtain ⟨fM', rfl⟩ : ∃ k, fM = k + 1 := ⟨fM - 1, by omega⟩
    rw [f_X5_openRuns_17, if_pos (nI_le (Nat.le_refl _) (by omega)), f_X8_merge_7, if_pos (nI_le (Nat.le_refl _) (by omega))]
    exact ⟨SX, SM, lo, fc, rfl, rfl, H, kX, kM, fun _ _ => rfl⟩
  | succ gap ih =>
    intro fX fM l SX SM lo fc hgap hl hfX hfM H kX kM
    obtain ⟨hD, hac, ⟨x32, x33, m3⟩, hL, hrest⟩ := H
    obtain ⟨fX', rfl⟩ : ∃ k, fX = k + 1 := ⟨fX - 1, by omega⟩
    obtain ⟨fM', rfl⟩ : ∃ k, fM = k + 1 := ⟨fM - 1, by omega⟩
    have hlw : l < w := by omega
    obtain ⟨h18, h19, hn0⟩ := hX l hlw
    obtain ⟨h6, h6', hn8⟩ := hM l hlw
    obtain ⟨hlo, hhi⟩ := hrest l (Nat.le_refl _) hlw
    -- the class
    obtain ⟨S1, g1, g2, g3, g4⟩ := zx_lopen (P := P) (R := R) (ln := l) (S := SX) (g := pg (c l)) (rr := rc (c l)) (n := n l) (hd := nI (pg (c l) 0)) (by omega) (fun _ => rfl)
    have hD1 : z_DI P R S1 pg rc lo hi fc := z_DI_same hD ⟨g2.1 0 (by decide), g2.1 1 (by decide), g2.1 2 (by decide), g2.2 11 (by decide), g2.2 12 (by decide), g2.2 13 (by decide), g2.2 14 (by decide), g2.2 15 (by decide)⟩
    obtain ⟨p, S2, S3, k1, k2, k3, k4, k5, k6, k7, k8, k9⟩ := zx_pageIn hok (show l < 15 by omega) hD1 g3 (by omega) hn0 (by rw [z_pgs_0 (by omega)]; exact hlo) hhi
    have hen : 0 < (if 0 + R < n l then 0 + R else n l) := by split <;> omega
    obtain ⟨S4, e1, e2, e3, e4, e5, e6⟩ := zx_enterNext (w := w) hok (show l < 15 by omega) ((k3.1 1 (by decide)).trans hD1.2.1) k8 (by omega) (Or.inl hen) hwT (by rw [k3.1 32 (by decide), g2.1 32 (by decide)]; exact x32) hlw (Or.inr hn0)
    have kX4 : z_keep [2, 22] [13, 15, 24, 25, 26, 27, 28, 29, 30, 31, 32, 33] SX S4 := z_keep_trans (z_keep_mono g2 (by decide) (by decide)) (z_keep_trans (z_keep_mono k3 (by decide) (by decide)) (z_keep_mono e2 (by decide) (by decide)))
    have hD4 : z_DI P R S4 pg rc (z_set1 lo (c l) (lo (c l) + 1)) hi (fc + 1) := z_DI_same k6 ⟨e2.1 0 (by decide), e2.1 1 (by decide), e2.1 2 (by decide), e2.2 11 (by decide), e2.2 12 (by decide), e2.2 13 (by decide), e2.2 14 (by decide), e2.2 15 (by decide)⟩
    have hXs : f_X5_openRuns_17 (es_NX P R) z_fu (fX' + 1) (nI a) (nI w) (nI (z_sum n l)) (nI l) SX = f_X5_openRuns_17 (es_NX P R) z_fu fX' (nI a) (nI w) (nI (z_sum n (l + 1))) (nI (l + 1)) S4 := by
      rw [f_X5_openRuns_17, if_neg (nI_ge hlw (by omega)), nI_add, zN18, if_neg (nI_ge (show a + l < P by omega) (by omega)), z_ck (show a + l < P by omega) (by omega), z_rd SX 18 (a + l) (by omega), kX.2 18 (by decide), h18, z_lt, zN19, z_ck (show a + l < P by omega) (by omega), z_rd SX 19 (a + l) (by omega), kX.2 19 (by decide), h19, z_lt, g1, es_bd_s, k1, es_bd_s, k2, es_bd_s, e1, es_bd_s, z_ck (show a + l < P by omega) (by omega), z_rd S4 19 (a + l) (by omega), kX4.2 19 (by decide), kX.2 19 (by decide), h19, z_lt, nI_add, z_lt, nI_1, z_lt]
      rfl
    -- the reference
    obtain ⟨SM1, hSM1⟩ : ∃ S : es_St, S = es_F (es_F (es_wr (es_wr SM 15 (nI l) (nI (hr + qs l))) 16 (nI l) (nI (hr + qs l + n l))) 3 (SM.1 3 + 1)) 2 (SM.1 2 - 1) := ⟨_, rfl⟩
    have kM1 : z_keep [2, 3] [15, 16] SM SM1 := by
      rw [hSM1]
      exact z_keep_trans (z_keep_trans (z_keep_trans (z_keep_w _ 15 _ _ (by simp)) (z_keep_w _ 16 _ _ (by simp))) (z_keep_F _ 3 _ (by simp))) (z_keep_F _ 2 _ (by simp))
    have hMs : f_X8_merge_7 es_NM z_fu (fM' + 1) (nI hr) (nI a) (nI w) (nI fr) (nI fr) (nI l) SM = f_X8_merge_7 es_NM z_fu fM' (nI hr) (nI a) (nI w) (nI fr) (nI fr) (nI (l + 1)) SM1 := by
      rw [f_X8_merge_7, if_neg (nI_ge hlw (by omega)), nI_add, es_ck_t (vp_in_nI (N := es_NM 6) (show a + l < 8200 by omega) (by decide)), z_rd SM 6 (a + l) (by omega), kM.2 6 (by decide), h6, z_lt, nI_add, z_lt, es_ck_t (vp_in_nI (N := es_NM 15) (show l < 16 by omega) (by decide)), z_lt, nI_1 (a + l), es_ck_t (vp_in_nI (N := es_NM 6) (show a + l + 1 < 8200 by omega) (by decide)), z_rd _ 6 (a + l + 1) (by omega), z_w2b _ _ _ (by decide), kM.2 6 (by decide), h6', z_lt, nI_add, ← Nat.add_assoc hr, z_lt, es_ck_t (vp_in_nI (N := es_NM 16) (show l < 16 by omega) (by decide)), z_lt]
      unfold f_X8_readsPage
      rw [z_lt, z_lt, z_lt, z_lt, es_bd_s, z_F1, if_neg (by decide), z_w1, z_w1, nI_1, z_lt, hSM1]
    rw [hXs, hMs]
    have hac4 : z_AC P R (fc + 1) S4 SM1 := by
      obtain ⟨c0, c1, c2, c4, c7, c8, c9⟩ := hac
      refine ⟨(kM1.1 0 (by decide)).trans c0, (kM1.1 1 (by decide)).trans c1, ?_, by rw [kM1.1 4 (by decide), kX4.1 23 (by decide)]; exact c4, by rw [kM1.1 7 (by decide), kX4.1 26 (by decide)]; exact c7, (kM1.1 8 (by decide)).trans c8, by rw [kX4.1 26 (by decide)]; exact Int32.le_trans (nI_le (show P - (fc + 1) ≤ P - fc by omega) (by omega)) c9⟩
      rw [hSM1, z_F1, if_pos rfl, c2, show nI (P - fc) - 1 = nI (P - fc - 1) from pk_sub (b := 1) (by omega)]
      congr 1
    have hstep : z_OP P R w hr md c n qs S4 SM1 pg rc (z_set1 lo (c l) (lo (c l) + 1)) hi (fc + 1) (l + 1) := by
     refine ⟨hD4, hac4, ⟨(kX4.1 32 (by decide)).trans x32, (kX4.1 33 (by decide)).trans x33, ?_⟩, fun l' hl' => ?_, fun l' h1 h2 => ?_⟩
     · rw [e2.1 22 (by decide), k4, g2.1 22 (by decide), ← m3, hSM1, z_F1, if_neg (by decide), z_F1, if_pos rfl]
     · have p15 : ∀ q, SM1.2 15 q = if q = l then nI (hr + qs l) else SM.2 15 q := fun q => by rw [hSM1, z_F2, z_F2, z_w2b _ _ _ (by decide), z_w2a _ _ _ _ (by omega)]
       have p16 : ∀ q, SM1.2 16 q = if q = l then nI (hr + qs l + n l) else SM.2 16 q := fun q => by rw [hSM1, z_F2, z_F2, z_w2a _ _ _ _ (by omega), z_w2b _ _ _ (by decide)]
       by_cases e : l' = l
       · subst e
         rw [p15, p16, if_pos rfl, if_pos rfl]
         refine ⟨⟨⟨0, _, z_lane_same k8 (e2.2 24 (by decide)) (e2.2 25 (by decide)) (e2.2 26 (by decide)) (e2.2 27 (by decide)) (e2.2 28 (by decide)) (e2.2 29 (by decide)), Nat.zero_mod _, Or.inl hen, ?_⟩, hhi, by omega, e3, e4, e5⟩, rfl, rfl⟩
         rw [z_s1a, z_pgs_next (by omega) (Nat.zero_mod _) hn0, z_pgs_0 (by omega), hlo]
       · obtain ⟨q1, q2, q3⟩ := hL l' (by omega)
         rw [p15, p16, if_neg e, if_neg e]
         obtain ⟨⟨u26, u27, u28, u29⟩, u24⟩ := k9 l' e
         obtain ⟨v26, v27, v28, v29⟩ := g4 l' e
         obtain ⟨w30, w31, w32, w33⟩ := e6 l' e
         refine ⟨z_LN_keep q1 ⟨⟨?_, ?_, ?_, ?_⟩, fun s hs => ?_⟩ ?_ ?_ ?_ ?_ rfl rfl (z_s1b _ _ (fun y => e (hinj l' l (by omega) hlw y))) rfl, q2, q3⟩
         · rw [e2.2 26 (by decide), u26, v26]
         · rw [e2.2 27 (by decide), u27, v27]
         · rw [e2.2 28 (by decide), u28, v28]
         · rw [e2.2 29 (by decide), u29, v29]
         · rw [e2.2 24 (by decide), e2.2 25 (by decide), (u24 s hs).1, (u24 s hs).2, g2.2 24 (by decide), g2.2 25 (by decide)]; exact ⟨rfl, rfl⟩
         · rw [w30, k3.2 30 (by decide), g2.2 30 (by decide)]
         · rw [w31, k3.2 31 (by decide), g2.2 31 (by decide)]
         · rw [w32, k3.2 32 (by decide), g2.2 32 (by decide)]
         · rw [w33, k3.2 33 (by decide), g2.2 33 (by decide)]
     · rw [z_s1b _ _ (fun y => by have := hinj l' l h2 hlw y; omega)]
       exact hrest l' (by omega) h2
    obtain ⟨SX', SM', lo', fc', r1, r2, r3, r4, r5, r6⟩ := ih fX' fM' (l + 1) S4 SM1 (z_set1 lo (c l) (lo (c l) + 1)) (fc + 1) (by omega) (by omega) (by omega) (by omega) hstep (z_keep_trans kX (z_keep_mono kX4 (by decide) (by decide))) (z_keep_trans kM kM1)
    refine ⟨SX', SM', lo', fc', r1, r2, r3, r4, r5, fun c' hc' => ?_⟩
    rw [r6 c' hc', z_s1b _ _ (hc' l hlw)]
theorem z_merge {P R w oc fr hr a : Nat} {md onv : Int32} {c n qs : Nat → Nat} {SX SM : es_St} {pg : Nat → Nat → Nat} {rc : Nat → Nat → z_Rec} {lo hi : Nat → Nat} {fc : Nat} (hok : z_ok P R) (hw0 : 0 < w) (hw : w ≤ 15) (hinj : ∀ l l', l < w → l' < w → c l = c l' → l = l') (hoc : 6 ≤ oc) (hcoc : ∀ l, l < w → c l ≠ oc) (hhr : hr = 0 ∨ hr = 8192) (hfr : 8192 - hr ≤ fr) (haP : a + w ≤ P) (hfN : fr + z_sum n w ≤ 8192 - hr + 8192) (honv : es_B onv) (hD : z_DI P R SX pg rc lo hi fc) (hac : z_AC P R fc SX SM) (x14 : SX.1 14 = md) (x15 : SX.1 15 = onv) (m13 : SM.1 13 = md) (m14 : SM.1 14 = onv) (m3 : SM.1 3 = SX.1 22) (hlo : lo oc = 0) (hhi : hi oc = 0)
    (hX : ∀ l, l < w → SX.2 18 (a + l) = nI (pg (c l) 0) ∧ SX.2 19 (a + l) = nI (n l) ∧ 0 < n l ∧ lo (c l) = 0 ∧ hi (c l) = z_pgs R (n l)) (hM : ∀ l, l < w → SM.2 6 (a + l) = nI (qs l) ∧ SM.2 6 (a + l + 1) = nI (qs l + n l) ∧ qs l + n l ≤ 8192 ∧ ∀ j, j < n l → (SM.2 4 (hr + qs l + j), SM.2 5 (hr + qs l + j)) = rc (c l) j) (hsrt : ∀ l, l < w → z_srt md (rc (c l)) (n l)) :
    ∃ (r : Int32) (SX' SM' : es_St) (pg' : Nat → Nat → Nat) (rc' : Nat → Nat → z_Rec) (lo' hi' : Nat → Nat) (fc' cn' : Nat), f_X5_mergeRuns (es_NX P R) z_fu SX (nI a) (nI w) = some (r, SX') ∧ f_X8_merge es_NM z_fu SM (nI hr) (nI a) (nI w) (nI fr) = some (nI (fr + cn'), SM') ∧ z_MF w oc fr hr c SX SM pg rc lo hi SX' SM' pg' rc' lo' hi' ∧ z_DI P R SX' pg' rc' lo' hi' fc' ∧ 0 < cn' ∧ cn' ≤ z_sum n w ∧
      ((r = 0 ∧ SM'.1 8 = 1) ∨ (r = 1 ∧ z_AC P R fc' SX' SM' ∧ SM'.1 3 = SX'.1 22 ∧ lo' oc = 0 ∧ hi' oc = z_pgs R cn' ∧ (∀ l, l < w → hi' (c l) ≤ lo' (c l)) ∧ SX'.1 3 = nI (pg' oc 0) ∧ SX'.1 4 = nI cn' ∧ (∀ j, j < cn' → (SM'.2 4 (fr + j), SM'.2 5 (fr + j)) = rc' oc j) ∧ z_srt md (rc' oc) cn')) := by
  obtain ⟨a1, a2, a3, a4⟩ := id hok
  have hwT : w ≤ es_T R := by unfold es_T; split <;> omega
  have hfu := z_fu_ge
  have hN0 : 0 < z_sum n w := by
    have h0 := (hX 0 hw0).2.2.1
    rcases Nat.eq_zero_or_pos (z_sum n w) with z | z
    · have hz : ∀ k, z_sum (fun _ => 0) k = 0 := fun k => by
        induction k with
        | zero => rfl
        | succ k ih => rw [z_sum, ih]
      have := z_sum_eq (f := fun _ => 0) (g := n) w (fun l _ => Nat.zero_le _) (by rw [hz, z]) 0 hw0
      omega
    · exact z
  obtain ⟨SX0, hSX0⟩ : ∃ S : es_St, S = es_F (es_F SX 32 (nI w)) 33 md := ⟨_, rfl⟩
  have k0 : z_keep [32, 33] [] SX SX0 := by rw [hSX0]; exact z_keep_trans (z_keep_F _ 32 _ (by simp)) (z_keep_F _ 33 _ (by simp))
  have hD0 : z_DI P R SX0 pg rc lo hi fc := z_DI_same hD ⟨k0.1 0 (by decide), k0.1 1 (by decide), k0.1 2 (by decide), k0.2 11 (by decide), k0.2 12 (by decide), k0.2 13 (by decide), k0.2 14 (by decide), k0.2 15 (by decide)⟩
  obtain ⟨SX1, SM1, lo1, fc1, g1, g2, ⟨q1, q2, ⟨q32, q33, q3⟩, qL, -⟩, g4, g5, g6⟩ := z_open_loop (fr := fr) (hr := hr) (a := a) (md := md) (qs := qs) (SX0 := SX) (SM0 := SM) (pg := pg) (rc := rc) (hi := hi) hok hw hinj hhr haP (fun l hl => ⟨(hX l hl).1, (hX l hl).2.1, (hX l hl).2.2.1⟩) (fun l hl => ⟨(hM l hl).1, (hM l hl).2.1, (hM l hl).2.2.1⟩) w z_fu z_fu 0 SX0 SM lo fc (by omega) (by omega) (by omega) (by omega) ⟨hD0, z_AC_same hac (k0.1 23 (by decide)) (k0.1 26 (by decide)) rfl rfl rfl rfl rfl rfl, ⟨by rw [hSX0, z_F1, if_neg (by decide), z_F1, if_pos rfl], by rw [hSX0, z_F1, if_pos rfl], by rw [k0.1 22 (by decide)]; exact m3⟩, fun l' hl' => absurd hl' (by omega), fun l' _ hl' => (hX l' hl').2.2.2⟩ (z_keep_mono k0 (by decide) (by decide)) z_keep_rfl
  -- the tree
  obtain ⟨SX2, b, b1, b2, b3⟩ := zx_build (S := SX1) hok hwT q32 (fun l l' hl hl' hne y => by
    rw [(qL l hl).1.2.2.2.1, (qL l' hl').1.2.2.2.1] at y
    exact hne ((nI_eq (by omega) (by omega)).mp y))
  have lo1c : lo1 oc = 0 := by rw [g6 oc (fun l hl y => hcoc l hl y.symm)]; exact hlo
  obtain ⟨SX3, o1, o2, o3, o4⟩ := zx_oopen (P := P) (R := R) (S := SX2) (oc := oc) (pg := pg) (rc := rc) (lo := lo1) (hi := hi) (oo := fun _ => (0, 0)) (b := onv) honv (by omega) lo1c hhi
  have k3 : z_keep [3, 4, 7, 8, 9] [34] SX1 SX3 := z_keep_trans (z_keep_mono b2 (by decide) (by decide)) (z_keep_mono o2 (by decide) (by decide))
  have kS : z_keep z_FX z_GX SX SX3 := z_keep_trans (z_keep_mono g4 (by decide) (by decide)) (z_keep_mono k3 (by decide) (by decide))
  have hzt : z_sum (fun _ => 0) w = 0 := by
    have hz : ∀ k, z_sum (fun _ => 0) k = 0 := fun k => by
      induction k with
      | zero => rfl
      | succ k ih => rw [z_sum, ih]
    exact hz w
  have H : z_MG P R w oc fr hr md onv c n qs (fun _ => 0) (fun _ => (0, 0)) 0 b SX3 SM1 pg rc lo1 hi fc1 := by
    refine ⟨z_DI_same q1 ⟨k3.1 0 (by decide), k3.1 1 (by decide), k3.1 2 (by decide), k3.2 11 (by decide), k3.2 12 (by decide), k3.2 13 (by decide), k3.2 14 (by decide), k3.2 15 (by decide)⟩, o4, z_AC_same q2 (k3.1 23 (by decide)) (k3.1 26 (by decide)) rfl rfl rfl rfl rfl rfl, ⟨o3, (k3.1 32 (by decide)).trans q32, (k3.1 33 (by decide)).trans q33, (g5.1 13 (by decide)).trans m13, (g5.1 14 (by decide)).trans m14, by rw [k3.1 22 (by decide)]; exact q3⟩, fun l hl => ?_, fun l hl => ?_, z_FT_same b3 (o2.1 33 (by decide)) (o2.2 30 (by decide)) (o2.2 31 (by decide)) (o2.2 32 (by decide)) (o2.2 33 (by decide)) (o2.2 34 (by decide)), fun j hj => absurd hj (by omega), fun j hj => absurd hj (by omega), fun hc => absurd hc (by omega), hsrt⟩
    · refine z_LN_keep (qL l hl).1 ⟨⟨?_, ?_, ?_, ?_⟩, fun s hs => ?_⟩ ?_ ?_ ?_ ?_ rfl rfl rfl rfl
      · rw [k3.2 26 (by decide)]
      · rw [k3.2 27 (by decide)]
      · rw [k3.2 28 (by decide)]
      · rw [k3.2 29 (by decide)]
      · rw [k3.2 24 (by decide), k3.2 25 (by decide)]; exact ⟨rfl, rfl⟩
      · rw [k3.2 30 (by decide)]
      · rw [k3.2 31 (by decide)]
      · rw [k3.2 32 (by decide)]
      · rw [k3.2 33 (by decide)]
    · obtain ⟨-, u2, u3⟩ := qL l hl
      obtain ⟨-, -, u4, u5⟩ := hM l hl
      exact ⟨u2, u3, u4, fun j hj => by rw [g5.2 4 (by decide), g5.2 5 (by decide)]; exact u5 j hj⟩
  obtain ⟨r, SX', SM', pg', rc', lo', hi', fc', cn', r1, r2, r3, r4, r5, r6, r7⟩ := z_mloop (a := a) (N := z_sum n w) (SX0 := SX) (SM0 := SM) (pg0 := pg) (rc0 := rc) (lo0 := lo) (hi0 := hi) hok hw0 hw hinj hoc hcoc hhr hfr (fun l hl => (hM l hl).1) (by omega) rfl hN0 hfN (z_sum n w) z_fu z_fu SX3 SM1 pg rc lo1 hi fc1 (fun _ => 0) (fun _ => (0, 0)) 0 b H ⟨kS, z_keep_mono g5 (by decide) (by decide), fun i _ => by rw [g5.2 4 (by decide), g5.2 5 (by decide)]; exact ⟨rfl, rfl⟩, fun c' hc1 hc2 => ⟨rfl, rfl, g6 c' hc2, rfl⟩⟩ (by rw [hzt]; omega) (by omega) (by omega) (by rw [hzt]; exact Nat.le_refl _) (Or.inl hzt)
  refine ⟨r, SX', SM', pg', rc', lo', hi', fc', cn', ?_, ?_, r3, r4, r5, r6, r7⟩
  · unfold f_X5_mergeRuns f_X5_openRuns
    rw [x14, zx_tbegin hok hwT, es_bd_s, ← hSX0, show f_X5_openRuns_17 (es_NX P R) z_fu z_fu (nI a) (nI w) 0 0 SX0 = _ from g1, es_bd_s, b1, es_bd_s, b2.1 15 (by decide), g4.1 15 (by decide), x15, o1, es_bd_s]
    rw [hzt] at r1
    exact r1
  · unfold f_X8_merge
    refine Eq.trans (show f_X8_merge_7 es_NM z_fu z_fu (nI hr) (nI a) (nI w) (nI fr) (nI fr) 0 SM = _ from g2) r2
