/-! ===== passes, and what arrange leaves ===== -/
theorem zm_copy {G : Nat} {x1 x3 : Int32} (hG : G < 8200) : ∀ (fu i : Nat) (S : es_St), i ≤ G + 1 → G + 1 - i < fu → (∀ q, q < i → S.2 6 q = S.2 14 q) →
    ∃ S', (∀ k0 : Int32 → es_St → Option (Int32 × es_St), f_X8_merges_156 es_NM z_fu k0 fu x1 x3 (nI G) (nI i) S = k0 x1 S') ∧ z_keep [9, 10] [6] S S' ∧ S'.1 10 = nI G ∧ S'.1 9 = x3 ∧ ∀ q, q ≤ G → S'.2 6 q = S.2 14 q := by
  intro fu
  induction fu with
  | zero => intro i S _ h; exact absurd h (by omega)
  | succ fu ih =>
    intro i S hi hf hq
    by_cases c : i = G + 1
    · subst c
      refine ⟨es_F (es_F S 10 (nI G)) 9 x3, fun k0 => by rw [f_X8_merges_156, if_pos (nI_lt (by omega) (by omega)), z_lt, z_lt], z_keep_trans (z_keep_F _ 10 _ (by simp)) (z_keep_F _ 9 _ (by simp)), by rw [z_F1, if_neg (by decide), z_F1, if_pos rfl], by rw [z_F1, if_pos rfl], fun q h => ?_⟩
      rw [z_F2, z_F2]; exact hq q (by omega)
    · have e14 : (es_wr S 6 (nI i) (S.2 14 i)).2 14 = S.2 14 := by rw [z_w2b _ _ _ (by decide)]
      obtain ⟨S', g1, g2, g3, g4, g5⟩ := ih (i + 1) (es_wr S 6 (nI i) (S.2 14 i)) (by omega) (by omega) (fun q h => by
        rw [e14, z_w2a _ _ _ _ (by omega)]
        by_cases e : q = i
        · rw [if_pos e, e]
        · rw [if_neg e]; exact hq q (by omega))
      rw [e14] at g5
      refine ⟨S', fun k0 => ?_, z_keep_trans (z_keep_w _ 6 _ _ (by simp)) g2, g3, g4, g5⟩
      rw [f_X8_merges_156, if_neg (nI_nlt (by omega) (by omega)), es_ck_t (vp_in_nI (N := es_NM 14) (show i < 8200 by omega) (by decide)), z_rd S 14 i (by omega), z_lt, es_ck_t (vp_in_nI (N := es_NM 6) (show i < 8200 by omega) (by decide)), z_lt, nI_1, z_lt]
      exact g1 k0
theorem z_pass_loop {P R ba : Nat} {md onv : Int32} {pg0 : Nat → Nat → Nat} {rc0 : Nat → Nat → z_Rec} {lo0 hi0 : Nat → Nat} {SX0 SM0 : es_St} {kk k hr : Nat} {rl ps ch : Nat → Nat} {W : Nat} (hok : z_ok P R) (hba : 6 ≤ ba) (honv : es_B onv) (hhr : hr = 0 ∨ hr = 8192) (hW : 2 ≤ W) (hW15 : W ≤ 15) (hkP : k ≤ P) (hk2 : 2 ≤ k) (hps : ∀ i, i < k → ps (i + 1) = ps i + rl i ∧ 0 < rl i) (hp8 : ps k ≤ 8192) (hinj : ∀ i j, i < k → j < k → ch i = ch j → i = j) :
    ∀ (gap fX fM : Nat) (SX SM : es_St) (pg : Nat → Nat → Nat) (rc : Nat → Nat → z_Rec) (lo hi : Nat → Nat) (fc g aa : Nat) (nl nq nch : Nat → Nat) (top : Nat), k - aa ≤ gap → gap < fX → gap + 1 < fM → aa ≤ k + W → 2 * g ≤ aa → g < k → z_GP P R ba md onv pg0 rc0 lo0 hi0 SX0 SM0 kk k hr rl ps ch SX SM pg rc lo hi fc g aa nl nq nch top →
    ∃ (r : Int32) (SX' SM' : es_St), f_X5_mergePass_29 (es_NX P R) z_fu fX (nI W) (nI k) (nI g) (nI aa) SX = some (r, SX') ∧ (∀ k0, f_X8_merges_48 es_NM z_fu k0 fM (nI W) (nI hr) (nI (8192 - hr)) (nI g) (nI (8192 - hr + nq g)) (nI aa) SM = k0 (nI W) SM') ∧
      ((r = 0 ∧ z_FL P R ba pg0 rc0 lo0 hi0 SX0 SM0 SX' SM') ∨ (r = 1 ∧ z_keep z_KX z_AX SX0 SX' ∧ z_keep z_KM z_AM SM0 SM' ∧ z_RL SX' SM' kk ∧ ∃ (pg' : Nat → Nat → Nat) (rc' : Nat → Nat → z_Rec) (lo' hi' : Nat → Nat) (fc' k' : Nat) (rl' ps' ch' : Nat → Nat) (hr' top' : Nat), k' < k ∧ z_PS P R ba md onv pg0 rc0 lo0 hi0 SX' SM' pg' rc' lo' hi' fc' k' rl' ps' ch' hr' top')) := by
  obtain ⟨a1, a2, a3, a4⟩ := id hok
  have hfu := z_fu_ge
  have fin : ∀ (fX fM : Nat) (SX SM : es_St) (pg : Nat → Nat → Nat) (rc : Nat → Nat → z_Rec) (lo hi : Nat → Nat) (fc g aa : Nat) (nl nq nch : Nat → Nat) (top : Nat), k ≤ aa → aa < 100000 → 0 < fX → 0 < fM → g < k → z_GP P R ba md onv pg0 rc0 lo0 hi0 SX0 SM0 kk k hr rl ps ch SX SM pg rc lo hi fc g aa nl nq nch top →
    ∃ (r : Int32) (SX' SM' : es_St), f_X5_mergePass_29 (es_NX P R) z_fu fX (nI W) (nI k) (nI g) (nI aa) SX = some (r, SX') ∧ (∀ k0, f_X8_merges_48 es_NM z_fu k0 fM (nI W) (nI hr) (nI (8192 - hr)) (nI g) (nI (8192 - hr + nq g)) (nI aa) SM = k0 (nI W) SM') ∧
      ((r = 0 ∧ z_FL P R ba pg0 rc0 lo0 hi0 SX0 SM0 SX' SM') ∨ (r = 1 ∧ z_keep z_KX z_AX SX0 SX' ∧ z_keep z_KM z_AM SM0 SM' ∧ z_RL SX' SM' kk ∧ ∃ (pg' : Nat → Nat → Nat) (rc' : Nat → Nat → z_Rec) (lo' hi' : Nat → Nat) (fc' k' : Nat) (rl' ps' ch' : Nat → Nat) (hr' top' : Nat), k' < k ∧ z_PS P R ba md onv pg0 rc0 lo0 hi0 SX' SM' pg' rc' lo' hi' fc' k' rl' ps' ch' hr' top')) := by
    intro fX fM SX SM pg rc lo hi fc g aa nl nq nch top hka haa hfX hfM hgk H
    obtain ⟨hD, hac, ⟨x14, x15, x12, m13, m14, m10, m3, m6⟩, hfil, hold, hnews, hninj, hdis, hded, htop, hbt, hst, hq0, hqle, kX0, kM0, hRL, hsO, hsN⟩ := H
    rw [if_neg (by omega)] at hqle
    obtain ⟨fX', rfl⟩ : ∃ q, fX = q + 1 := ⟨fX - 1, by omega⟩
    obtain ⟨fM', rfl⟩ : ∃ q, fM = q + 1 := ⟨fM - 1, by omega⟩
    obtain ⟨SX1, hSX1⟩ : ∃ S : es_St, S = es_F (es_F SX 12 (nI g)) 25 (SX.1 25 + 1) := ⟨_, rfl⟩
    have k1 : z_keep [12, 25] [] SX SX1 := by rw [hSX1]; exact z_keep_trans (z_keep_F _ 12 _ (by simp)) (z_keep_F _ 25 _ (by simp))
    obtain ⟨SMw, hSMw⟩ : ∃ S : es_St, S = es_wr SM 14 (nI g) (nI (nq g)) := ⟨_, rfl⟩
    have kw : z_keep [] [14] SM SMw := by rw [hSMw]; exact z_keep_w _ 14 _ _ (by simp)
    have ew : ∀ i, SMw.2 14 i = if i = g then nI (nq g) else SM.2 14 i := fun i => by rw [hSMw, z_w2a _ _ _ _ (by omega)]
    obtain ⟨SM1, c1, c2, c3, c4, c5⟩ := zm_copy (G := g) (x1 := nI W) (x3 := nI (8192 - hr)) (by omega) z_fu 0 SMw (by omega) (by omega) (fun q hq => absurd hq (by omega))
    have kM1 : z_keep [9, 10] [6, 14] SM SM1 := z_keep_trans (z_keep_mono kw (by decide) (by decide)) (z_keep_mono c2 (by decide) (by decide))
    have e6 : ∀ i, i ≤ g → SM1.2 6 i = nI (nq i) := fun i hi => by
      rw [c5 i hi, ew]
      by_cases e : i = g
      · rw [if_pos e, e]
      · rw [if_neg e]; exact (hnews i (by omega)).2.2.2.2.2.2.2.1
    refine ⟨1, SX1, SM1, ?_, fun k0 => ?_, Or.inr ⟨rfl, z_keep_trans kX0 (z_keep_mono k1 (by decide) (by decide)), z_keep_trans kM0 (z_keep_mono kM1 (by decide) (by decide)), ?_, pg, rc, lo, hi, fc, g, nl, nq, nch, 8192 - hr, top, hgk, z_DI_same hD ⟨k1.1 0 (by decide), k1.1 1 (by decide), k1.1 2 (by decide), k1.2 11 (by decide), k1.2 12 (by decide), k1.2 13 (by decide), k1.2 14 (by decide), k1.2 15 (by decide)⟩, z_AC_same hac (k1.1 23 (by decide)) (k1.1 26 (by decide)) (kM1.1 0 (by decide)) (kM1.1 1 (by decide)) (kM1.1 2 (by decide)) (kM1.1 4 (by decide)) (kM1.1 7 (by decide)) (kM1.1 8 (by decide)), ⟨(k1.1 14 (by decide)).trans x14, (k1.1 15 (by decide)).trans x15, ?_, (kM1.1 13 (by decide)).trans m13, (kM1.1 14 (by decide)).trans m14, c3, c4, by omega, ?_, ?_⟩, hfil, fun i hi => ?_, hninj, fun c hc hne => hded c hc hne (fun i h1 h2 => absurd h2 (by omega)), htop, hbt, e6, hq0, fun i hi => ?_, by omega, hsN⟩⟩
    · rw [f_X5_mergePass_29, if_pos (nI_le hka (by omega)), z_lt, z_lt, z_F1, if_neg (by decide), z_lt, hSX1]
    · rw [f_X8_merges_48, m10, if_pos (nI_le hka (by omega)), pk_sub (by omega), show 8192 - hr + nq g - (8192 - hr) = nq g by omega, z_lt, es_ck_t (vp_in_nI (N := es_NM 14) (show g < 8200 by omega) (by decide)), z_lt, ← hSMw]
      exact c1 k0
    · obtain ⟨r1, r2, r3, r4⟩ := hRL
      refine ⟨(k1.1 24 (by decide)).trans r1, (kM1.1 11 (by decide)).trans r2, (kM1.1 5 (by decide)).trans r3, fun i hi => ?_⟩
      rw [k1.2 22 (by decide), kM1.2 7 (by decide)]; exact r4 i hi
    · rw [hSX1, z_F1, if_neg (by decide), z_F1, if_pos rfl]
    · rw [kM1.1 3 (by decide), k1.1 22 (by decide)]; exact m3
    · rw [kM1.1 6 (by decide), m6, hSX1, z_F1, if_pos rfl]
    · obtain ⟨o1, o2, o3, o4, o5, o6, o7, o8, o9, o10⟩ := hnews i hi
      rw [k1.2 18 (by decide), k1.2 19 (by decide)]
      exact ⟨o1, o2, o3, o4, o5, o6, o7⟩
    · obtain ⟨o1, o2, o3, o4, o5, o6, o7, o8, o9, o10⟩ := hnews i hi
      rw [kM1.2 4 (by decide), kM1.2 5 (by decide)]
      exact ⟨o9, o10⟩
  intro gap
  induction gap with
  | zero =>
    intro fX fM SX SM pg rc lo hi fc g aa nl nq nch top hgap hfX hfM haa h2g hgk H
    exact fin fX fM SX SM pg rc lo hi fc g aa nl nq nch top (by omega) (by omega) (by omega) (by omega) hgk H
  | succ gap ih =>
    intro fX fM SX SM pg rc lo hi fc g aa nl nq nch top hgap hfX hfM haa h2g hgk H
    rcases Nat.lt_or_ge aa k with hak | hak
    · obtain ⟨fX', rfl⟩ : ∃ q, fX = q + 1 := ⟨fX - 1, by omega⟩
      obtain ⟨fM', rfl⟩ : ∃ q, fM = q + 2 := ⟨fM - 2, by omega⟩
      obtain ⟨r, SX1, SM1, pg1, rc1, lo1, hi1, fc1, nl1, nq1, nch1, top1, g1, g2, g3⟩ := z_group hok hba honv H hhr hW hW15 hkP hak (by omega) hps hp8 hinj
      rcases g3 with ⟨rfl, hfull, hD, hfil, kX, kM, h14, hq8⟩ | ⟨rfl, H'⟩
      · obtain ⟨SMw, hSMw⟩ : ∃ S : es_St, S = es_wr SM1 14 (nI (g + 1)) (nI (nq1 (g + 1))) := ⟨_, rfl⟩
        have kw : z_keep [] [14] SM1 SMw := by rw [hSMw]; exact z_keep_w _ 14 _ _ (by simp)
        have ew : ∀ i, i ≤ g + 1 → SMw.2 14 i = nI (nq1 i) := fun i hi => by
          rw [hSMw, z_w2a _ _ _ _ (by omega)]
          by_cases e : i = g + 1
          · rw [if_pos e, e]
          · rw [if_neg e]; exact h14 i (by omega)
        obtain ⟨SM2, c1, c2, c3, c4, c5⟩ := zm_copy (G := g + 1) (x1 := nI W) (x3 := nI (8192 - hr)) (by omega) z_fu 0 SMw (by omega) (by omega) (fun q hq => absurd hq (by omega))
        refine ⟨0, SX1, SM2, by rw [g1 fX', if_pos rfl], fun k0 => ?_, Or.inl ⟨rfl, pg1, rc1, lo1, hi1, fc1, hD, hfil, kX, z_keep_trans kM (z_keep_trans (z_keep_mono kw (by decide) (by decide)) (z_keep_mono c2 (by decide) (by decide))), ?_, ⟨8192 - hr, by omega, c4⟩, fun _ => ⟨nq1 1, hq8 1 (by omega), ?_⟩⟩⟩
        · have hq1 := hq8 (g + 1) (Nat.le_refl _)
          have key : (es_lt (nI (8192 - hr + nq1 (g + 1)) - nI (8192 - hr)) fun v19 => es_ck (vp_in (nI (g + 1)) (es_NM 14)) <| es_lt (es_wr SM1 14 (nI (g + 1)) v19) fun S21 => f_X8_merges_156 es_NM z_fu k0 z_fu (nI W) (nI (8192 - hr)) (nI (g + 1)) 0 S21) = k0 (nI W) SM2 := by
            rw [pk_sub (by omega), show 8192 - hr + nq1 (g + 1) - (8192 - hr) = nq1 (g + 1) by omega, z_lt, es_ck_t (vp_in_nI (N := es_NM 14) (show g + 1 < 8200 by omega) (by decide)), z_lt, ← hSMw]
            exact c1 k0
          rw [g2 k0 (fM' + 1), f_X8_merges_48, hfull, if_pos (show ¬ (1 : Int32) = 0 by decide)]
          split
          · exact key
          · exact key
        · rw [c2.1 8 (by decide), kw.1 8 (by decide)]; exact hfull
        · rw [c5 1 (by omega), ew 1 (by omega)]
      · rw [g1 fX', if_neg (by decide)]
        obtain ⟨r, SX2, SM2, q1, q2, q3⟩ := ih fX' (fM' + 1) SX1 SM1 pg1 rc1 lo1 hi1 fc1 (g + 1) (aa + W) nl1 nq1 nch1 top1 (by omega) (by omega) (by omega) (by omega) (by omega) (by omega) H'
        exact ⟨r, SX2, SM2, q1, fun k0 => by rw [g2 k0 (fM' + 1)]; exact q2 k0, q3⟩
    · exact fin fX fM SX SM pg rc lo hi fc g aa nl nq nch top hak (by omega) (by omega) (by omega) hgk H
/-- a sorting's result: n records in chain rch, for the reference at hr; all else is gone -/
def z_RS (P R ba : Nat) (md : Int32) (pg0 : Nat → Nat → Nat) (rc0 : Nat → Nat → z_Rec) (lo0 hi0 : Nat → Nat) (SX0 SM0 SX SM : es_St) (pg : Nat → Nat → Nat) (rc : Nat → Nat → z_Rec) (lo hi : Nat → Nat) (fc n kk hr rch : Nat) : Prop :=
  z_DI P R SX pg rc lo hi fc ∧ z_AC P R fc SX SM ∧ (∀ c, c < ba → pg c = pg0 c ∧ rc c = rc0 c ∧ lo c = lo0 c ∧ hi c = hi0 c) ∧ z_keep z_KX z_AX SX0 SX ∧ z_keep z_KM z_AM SM0 SM ∧ (SM.1 3 = SX.1 22 ∧ SM.1 6 = SX.1 25 ∧ SM.1 9 = nI hr ∧ (hr = 0 ∨ hr = 8192)) ∧ z_RL SX SM kk ∧
  ba ≤ rch ∧ lo rch = 0 ∧ hi rch = z_pgs R n ∧ (∀ c, ba ≤ c → c ≠ rch → lo c = 0 ∧ hi c = 0) ∧ SX.1 11 = nI n ∧ (0 < n → SX.1 10 = nI (pg rch 0)) ∧ (n = 0 → SX.1 10 = -1) ∧ (∀ j, j < n → (SM.2 4 (hr + j), SM.2 5 (hr + j)) = rc rch j) ∧ n ≤ 8192 ∧ ((n = 0 ∧ SM.1 10 = 0) ∨ (¬ SM.1 10 = 0 ∧ SM.2 6 1 = nI n)) ∧ z_srt md (rc rch) n
