/-! ===== a pass: its groups ===== -/
/-- a run that stays is copied by the reference -/
theorem zm_stays_loop {hr a fr s e : Nat} (hhr : hr = 0 ∨ hr = 8192) (hfr : 8192 - hr ≤ fr) (hse : s ≤ e) (hfe : fr + (e - s) ≤ 8192 - hr + 8192) (he : e ≤ 8192) (ha : a + 1 < 8200) : ∀ (fu d : Nat) (S : es_St), d ≤ e - s → e - s - d < fu → S.2 6 (a + 1) = nI e →
    ∃ S', f_X8_stays_11 es_NM z_fu fu (nI hr) (nI a) (nI (fr + d)) (nI (s + d)) S = some (nI (fr + (e - s)), S') ∧ z_keep [] [4, 5] S S' ∧ (∀ j, d ≤ j → j < e - s → S'.2 4 (fr + j) = S.2 4 (hr + s + j) ∧ S'.2 5 (fr + j) = S.2 5 (hr + s + j)) ∧ ∀ i, (i < fr + d ∨ (hr ≤ i ∧ i < hr + 8192)) → S'.2 4 i = S.2 4 i ∧ S'.2 5 i = S.2 5 i := by
  intro fu
  induction fu with
  | zero => intro d S _ h; exact absurd h (by omega)
  | succ fu ih =>
    intro d S hd hf h6
    have v6 : vp_in (nI (a + 1)) (es_NM 6) := vp_in_nI (N := es_NM 6) ha (by decide)
    rw [f_X8_stays_11, nI_1 a, es_ck_t v6, z_rd S 6 (a + 1) (by omega), h6, z_lt]
    by_cases c : d = e - s
    · subst c
      rw [if_pos (nI_le (by omega) (by omega))]
      exact ⟨S, rfl, z_keep_rfl, fun j h1 h2 => absurd h2 (by omega), fun _ _ => ⟨rfl, rfl⟩⟩
    · have v4 : ∀ i, i < 16384 → vp_in (nI i) (es_NM 4) := fun i hi => vp_in_nI (N := es_NM 4) (show i < 16384 by omega) (by decide)
      have v5 : ∀ i, i < 16384 → vp_in (nI i) (es_NM 5) := fun i hi => vp_in_nI (N := es_NM 5) (show i < 16384 by omega) (by decide)
      obtain ⟨S1, hS1⟩ : ∃ S1 : es_St, S1 = es_wr (es_wr S 4 (nI (fr + d)) (S.2 4 (hr + (s + d)))) 5 (nI (fr + d)) (S.2 5 (hr + (s + d))) := ⟨_, rfl⟩
      have e4 : ∀ i, S1.2 4 i = if i = fr + d then S.2 4 (hr + (s + d)) else S.2 4 i := fun i => by rw [hS1, z_w2b _ _ _ (by decide), z_w2a _ _ _ _ (by omega)]
      have e5 : ∀ i, S1.2 5 i = if i = fr + d then S.2 5 (hr + (s + d)) else S.2 5 i := fun i => by rw [hS1, z_w2a _ _ _ _ (by omega), z_w2b _ _ _ (by decide)]
      have k1 : z_keep [] [4, 5] S S1 := by rw [hS1]; exact z_keep_trans (z_keep_w _ 4 _ _ (by simp)) (z_keep_w _ 5 _ _ (by simp))
      rw [if_neg (nI_ge (show s + d < e by omega) (by omega)), nI_add, es_ck_t (v4 _ (by omega)), z_rd S 4 (hr + (s + d)) (by omega), z_lt, es_ck_t (v4 _ (by omega)), z_lt, es_ck_t (v5 _ (by omega)), z_rd _ 5 (hr + (s + d)) (by omega), z_w2b _ _ _ (by decide), z_lt, es_ck_t (v5 _ (by omega)), z_lt, ← hS1, nI_1, z_lt, nI_1, z_lt]
      obtain ⟨S', g1, g2, g3, g4⟩ := ih (d + 1) S1 (by omega) (by omega) (by rw [k1.2 6 (by decide)]; exact h6)
      refine ⟨S', g1, z_keep_trans k1 g2, fun j h1 h2 => ?_, fun i hi => ?_⟩
      · by_cases ej : j = d
        · subst ej
          obtain ⟨y1, y2⟩ := g4 (fr + j) (Or.inl (by omega))
          rw [y1, y2, e4, e5, if_pos rfl, if_pos rfl, Nat.add_assoc]
          exact ⟨rfl, rfl⟩
        · obtain ⟨y1, y2⟩ := g3 j (by omega) h2
          rw [y1, y2, e4, e5, if_neg (by omega), if_neg (by omega)]
          exact ⟨rfl, rfl⟩
      · obtain ⟨y1, y2⟩ := g4 i (by omega)
        rw [y1, y2, e4, e5, if_neg (by omega), if_neg (by omega)]
        exact ⟨rfl, rfl⟩
/-- chains that live are no more than the pages -/
theorem z_runs_leC {P R k : Nat} {ch : Nat → Nat} {S : es_St} {pg : Nat → Nat → Nat} {rc : Nat → Nat → z_Rec} {lo hi : Nat → Nat} {fc : Nat} (hD : z_DI P R S pg rc lo hi fc) (hinj : ∀ i j, i < k → j < k → ch i = ch j → i = j) (hl : ∀ i, i < k → lo (ch i) = 0 ∧ 0 < hi (ch i)) : k ≤ P := by
  obtain ⟨-, -, -, c1, c2, -⟩ := hD
  have := z_pig (Q := fun _ => True) P k (fun i => pg (ch i) 0) (fun i j a b e => by
    have h1 := hl i a
    have h2 := hl j b
    exact hinj i j a b (c2 (ch i) 0 (ch j) 0 (by omega) h1.2 (by omega) h2.2 e).1) (fun i a => ⟨(c1 (ch i) 0 (by have := hl i a; omega) (hl i a).2).1, trivial⟩)
  have h2 := z_cnt_le (fun _ => True) P
  omega
def z_GP (P R ba : Nat) (md onv : Int32) (pg0 : Nat → Nat → Nat) (rc0 : Nat → Nat → z_Rec) (lo0 hi0 : Nat → Nat) (SX0 SM0 : es_St) (kk k hr : Nat) (rl ps ch : Nat → Nat) (SX SM : es_St) (pg : Nat → Nat → Nat) (rc : Nat → Nat → z_Rec) (lo hi : Nat → Nat) (fc g aa : Nat) (nl nq nch : Nat → Nat) (top : Nat) : Prop :=
  z_DI P R SX pg rc lo hi fc ∧ z_AC P R fc SX SM ∧
  (SX.1 14 = md ∧ SX.1 15 = onv ∧ SX.1 12 = nI k ∧ SM.1 13 = md ∧ SM.1 14 = onv ∧ SM.1 10 = nI k ∧ SM.1 3 = SX.1 22 ∧ SM.1 6 = SX.1 25 + 1) ∧
  (∀ c, c < ba → pg c = pg0 c ∧ rc c = rc0 c ∧ lo c = lo0 c ∧ hi c = hi0 c) ∧
  (∀ i, aa ≤ i → i < k → ba ≤ ch i ∧ ch i < top ∧ lo (ch i) = 0 ∧ hi (ch i) = z_pgs R (rl i) ∧ SX.2 18 i = nI (pg (ch i) 0) ∧ SX.2 19 i = nI (rl i) ∧ ∀ j, j < rl i → (SM.2 4 (hr + ps i + j), SM.2 5 (hr + ps i + j)) = rc (ch i) j) ∧
  (∀ i, i < g → ba ≤ nch i ∧ nch i < top ∧ lo (nch i) = 0 ∧ hi (nch i) = z_pgs R (nl i) ∧ 0 < nl i ∧ SX.2 18 i = nI (pg (nch i) 0) ∧ SX.2 19 i = nI (nl i) ∧ SM.2 14 i = nI (nq i) ∧ nq (i + 1) = nq i + nl i ∧ ∀ j, j < nl i → (SM.2 4 (8192 - hr + nq i + j), SM.2 5 (8192 - hr + nq i + j)) = rc (nch i) j) ∧
  (∀ i j, i < g → j < g → nch i = nch j → i = j) ∧ (∀ i j, i < g → aa ≤ j → j < k → nch i ≠ ch j) ∧
  (∀ c, ba ≤ c → (∀ i, i < g → c ≠ nch i) → (∀ i, aa ≤ i → i < k → c ≠ ch i) → hi c ≤ lo c) ∧ (∀ c, top ≤ c → lo c = 0 ∧ hi c = 0) ∧ ba ≤ top ∧
  (∀ i, i ≤ k → SM.2 6 i = nI (ps i)) ∧ nq 0 = 0 ∧ nq g ≤ ps (if aa < k then aa else k) ∧
  z_keep z_KX z_AX SX0 SX ∧ z_keep z_KM z_AM SM0 SM ∧ z_RL SX SM kk ∧ (∀ i, aa ≤ i → i < k → z_srt md (rc (ch i)) (rl i)) ∧ ∀ i, i < g → z_srt md (rc (nch i)) (nl i)
/-- one group is through: its run lies in chain nc -/
theorem z_GP_next {P R ba : Nat} {md onv : Int32} {pg0 : Nat → Nat → Nat} {rc0 : Nat → Nat → z_Rec} {lo0 hi0 : Nat → Nat} {SX0 SM0 : es_St} {kk k hr : Nat} {rl ps ch : Nat → Nat} {SX SM SX' SM' : es_St} {pg pg' : Nat → Nat → Nat} {rc rc' : Nat → Nat → z_Rec} {lo hi lo' hi' : Nat → Nat} {fc fc' g aa : Nat} {nl nq nch : Nat → Nat} {top W w nc ln top' : Nat} (H : z_GP P R ba md onv pg0 rc0 lo0 hi0 SX0 SM0 kk k hr rl ps ch SX SM pg rc lo hi fc g aa nl nq nch top)
    (hhr : hr = 0 ∨ hr = 8192) (hW : 0 < W) (hak : aa < k) (hw : w = if k - aa < W then k - aa else W) (hga : g ≤ aa) (hps : ∀ i, i < k → ps (i + 1) = ps i + rl i) (hp8 : ps k ≤ 8192) (hmono : ∀ i j, i ≤ j → j ≤ k → ps i ≤ ps j) (hD : z_DI P R SX' pg' rc' lo' hi' fc') (hac : z_AC P R fc' SX' SM') (kX : z_keep z_FX (18 :: 19 :: z_GX) SX SX') (kM : z_keep z_FM (14 :: z_GM) SM SM') (e18 : ∀ i, SX'.2 18 i = if i = g then nI (pg' nc 0) else SX.2 18 i) (e19 : ∀ i, SX'.2 19 i = if i = g then nI ln else SX.2 19 i) (e14 : ∀ i, SM'.2 14 i = if i = g then nI (nq g) else SM.2 14 i) (e3 : SM'.1 3 = SX'.1 22)
    (hrec : ∀ i, (i < 8192 - hr + nq g ∨ (hr ≤ i ∧ i < hr + 8192)) → SM'.2 4 i = SM.2 4 i ∧ SM'.2 5 i = SM.2 5 i) (hnew : ∀ j, j < ln → (SM'.2 4 (8192 - hr + nq g + j), SM'.2 5 (8192 - hr + nq g + j)) = rc' nc j) (hfr : ∀ c', c' ≠ nc → (∀ i, aa ≤ i → i < aa + w → c' ≠ ch i) → pg' c' = pg c' ∧ rc' c' = rc c' ∧ lo' c' = lo c' ∧ hi' c' = hi c') (hlo : lo' nc = 0) (hhi : hi' nc = z_pgs R ln) (hln : 0 < ln) (hnb : ba ≤ nc) (hnt : nc < top') (htt : top ≤ top') (hn1 : ∀ i, i < g → nc ≠ nch i) (hn2 : ∀ j, aa + w ≤ j → j < k → nc ≠ ch j) (hdead : ∀ i, aa ≤ i → i < aa + w → ch i ≠ nc → hi' (ch i) ≤ lo' (ch i)) (hle : nq g + ln ≤ ps (aa + w)) (hinj : ∀ i j, i < k → j < k → ch i = ch j → i = j) (hsrt : z_srt md (rc' nc) ln) :
    z_GP P R ba md onv pg0 rc0 lo0 hi0 SX0 SM0 kk k hr rl ps ch SX' SM' pg' rc' lo' hi' fc' (g + 1) (aa + W) (z_set1 nl g ln) (z_set1 nq (g + 1) (nq g + ln)) (z_set1 nch g nc) top' := by
  obtain ⟨-, -, ⟨x14, x15, x12, m13, m14, m10, m3, m6⟩, hfil, hold, hnews, hninj, hdis, hded, htop, hbt, hst, hq0, hqle, kX0, kM0, hRL, hsO, hsN⟩ := H
  have hwW : w ≤ W := by rw [hw]; split <;> omega
  have hwk : aa + w ≤ k := by rw [hw]; split <;> omega
  have hw2 : aa + w = k ∨ w = W := by rw [hw]; split <;> omega
  have hqaa : nq g ≤ ps aa := by rw [if_pos hak] at hqle; exact hqle
  have hp1 := hmono aa k (by omega) (Nat.le_refl _)
  refine ⟨hD, hac, ⟨(kX.1 14 (by decide)).trans x14, (kX.1 15 (by decide)).trans x15, (kX.1 12 (by decide)).trans x12, (kM.1 13 (by decide)).trans m13, (kM.1 14 (by decide)).trans m14, (kM.1 10 (by decide)).trans m10, e3, by rw [kM.1 6 (by decide), kX.1 25 (by decide)]; exact m6⟩, fun c hc => ?_, fun i h1 h2 => ?_, fun i hi => ?_, fun i j hi hj e => ?_, fun i j hi h1 h2 => ?_, fun c hc h1 h2 => ?_, fun c hc => ?_, by omega, fun i hi => ?_, ?_, ?_, z_keep_trans kX0 (z_keep_mono kX (by decide) (by decide)), z_keep_trans kM0 (z_keep_mono kM (by decide) (by decide)), ?_, fun i h1 h2 => ?_, fun i hi => ?_⟩
  · obtain ⟨y1, y2, y3, y4⟩ := hfr c (by omega) (fun i a1 a2 => by have := (hold i a1 (by omega)).1; omega)
    rw [y1, y2, y3, y4]; exact hfil c hc
  · obtain ⟨o1, o2, o3, o4, o5, o6, o7⟩ := hold i (by omega) h2
    obtain ⟨y1, y2, y3, y4⟩ := hfr (ch i) (fun y => hn2 i (by omega) h2 y.symm) (fun i' a1 a2 y => by have := hinj i i' h2 (by omega) y; omega)
    rw [y1, y2, y3, y4, e18, e19, if_neg (by omega), if_neg (by omega)]
    refine ⟨o1, by omega, o3, o4, o5, o6, fun j hj => ?_⟩
    have hp := hps i h2
    have hpk := hmono (i + 1) k (by omega) (Nat.le_refl _)
    obtain ⟨z1, z2⟩ := hrec (hr + ps i + j) (by omega)
    rw [z1, z2]; exact o7 j hj
  · by_cases e : i = g
    · subst e
      rw [z_s1a, z_s1a, z_s1a, z_s1b _ _ (show i ≠ i + 1 by omega), e18, e19, e14, if_pos rfl, if_pos rfl, if_pos rfl]
      exact ⟨hnb, hnt, hlo, hhi, hln, rfl, rfl, rfl, rfl, hnew⟩
    · obtain ⟨o1, o2, o3, o4, o5, o6, o7, o8, o9, o10⟩ := hnews i (by omega)
      obtain ⟨y1, y2, y3, y4⟩ := hfr (nch i) (fun y => hn1 i (by omega) y.symm) (fun i' a1 a2 => hdis i i' (by omega) a1 (by omega))
      rw [z_s1b _ _ e, z_s1b _ _ e, z_s1b _ _ (show i + 1 ≠ g + 1 by omega), z_s1b _ _ (show i ≠ g + 1 by omega), y1, y2, y3, y4, e18, e19, e14, if_neg e, if_neg e, if_neg e]
      have hq : nq (i + 1) ≤ nq g := z_ps_mono (rl := nl) (fun i' h' => (hnews i' h').2.2.2.2.2.2.2.2.1) (i + 1) (by omega)
      refine ⟨o1, by omega, o3, o4, o5, o6, o7, o8, o9, fun j hj => ?_⟩
      obtain ⟨z1, z2⟩ := hrec (8192 - hr + nq i + j) (by omega)
      rw [z1, z2]; exact o10 j hj
  · by_cases e1 : i = g <;> by_cases e2 : j = g
    · omega
    · rw [e1, z_s1a, z_s1b _ _ e2] at e
      exact absurd e (hn1 j (by omega))
    · rw [e2, z_s1a, z_s1b _ _ e1] at e
      exact absurd e.symm (hn1 i (by omega))
    · rw [z_s1b _ _ e1, z_s1b _ _ e2] at e
      exact hninj i j (by omega) (by omega) e
  · by_cases e1 : i = g
    · rw [e1, z_s1a]; exact hn2 j (by omega) h2
    · rw [z_s1b _ _ e1]; exact hdis i j (by omega) (by omega) h2
  · have hcn : c ≠ nc := fun y => h1 g (by omega) (by rw [z_s1a]; exact y)
    rcases Classical.em (∃ i, aa ≤ i ∧ i < aa + w ∧ c = ch i) with ⟨i, a1, a2, rfl⟩ | hno
    · exact hdead i a1 a2 hcn
    · obtain ⟨y1, y2, y3, y4⟩ := hfr c hcn (fun i a1 a2 y => hno ⟨i, a1, a2, y⟩)
      rw [y3, y4]
      refine hded c hc (fun i hi => ?_) (fun i a1 a2 => ?_)
      · have := h1 i (by omega)
        rw [z_s1b _ _ (show i ≠ g by omega)] at this
        exact this
      · rcases Nat.lt_or_ge i (aa + w) with z | z
        · exact fun y => hno ⟨i, a1, z, y⟩
        · exact h2 i (by omega) a2
  · obtain ⟨y1, y2, y3, y4⟩ := hfr c (by omega) (fun i a1 a2 => by have := (hold i a1 (by omega)).2.1; omega)
    rw [y3, y4]; exact htop c (by omega)
  · rw [kM.2 6 (by decide)]; exact hst i hi
  · rw [z_s1b _ _ (by omega)]; exact hq0
  · rw [z_s1a]
    by_cases c : aa + W < k
    · rw [if_pos c, show aa + W = aa + w by omega]; exact hle
    · rw [if_neg c, show k = aa + w by omega]; exact hle
  · obtain ⟨r1, r2, r3, r4⟩ := hRL
    refine ⟨(kX.1 24 (by decide)).trans r1, (kM.1 11 (by decide)).trans r2, (kM.1 5 (by decide)).trans r3, fun i hi => ?_⟩
    rw [kX.2 22 (by decide), kM.2 7 (by decide)]; exact r4 i hi
  · rw [(hfr (ch i) (fun y => hn2 i (by omega) h2 y.symm) (fun i' a1 a2 y => by have := hinj i i' h2 (by omega) y; omega)).2.1]
    exact hsO i (by omega) h2
  · by_cases e : i = g
    · rw [e, z_s1a, z_s1a]; exact hsrt
    · rw [z_s1b _ _ e, z_s1b _ _ e, (hfr (nch i) (fun y => hn1 i (by omega) y.symm) (fun i' a1 a2 => hdis i i' (by omega) a1 (by omega))).2.1]
      exact hsN i (by omega)
