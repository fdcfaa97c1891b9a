/-! ===== a run has ended, with both ===== -/
theorem z_s1a {α : Type} (f : Nat → α) (c : Nat) (x : α) : z_set1 f c x c = x := if_pos rfl
theorem z_s1b {α : Type} (f : Nat → α) {c i : Nat} (x : α) (h : i ≠ c) : z_set1 f c x i = f i := if_neg h
theorem z_ended {P R f n nb ba rb : Nat} {md onv : Int32} {pg0 pg : Nat → Nat → Nat} {rc0 rc : Nat → Nat → z_Rec} {lo0 hi0 lo hi : Nat → Nat} {SX SM : es_St} {fc ru : Nat} {rl ps : Nat → Nat} {oo : Nat → z_Rec} {cn tk h : Nat} (hok : z_ok P R) (hba : 6 ≤ ba) (hrb : rb ≤ P) (hRX : z_RX P R f n nb ba rb md onv pg0 rc0 lo0 hi0 SX pg rc lo hi fc ru rl oo cn tk) (hRM : z_RM P R f n ba rb md onv rc0 rc SX SM fc ru rl ps oo cn tk h) (hcn : 0 < cn) (hle : ps ru + cn ≤ 8192) :
    ∃ (r : Int32) (SX1 SM1 : es_St) (pg' : Nat → Nat → Nat) (rc' : Nat → Nat → z_Rec) (hi' : Nat → Nat) (fc' : Nat), f_X5_endRun (es_NX P R) z_fu SX = some (r, SX1) ∧ f_X8_endsRun es_NM z_fu SM (nI (ps ru + cn)) = some (nI (ps ru + cn), SM1) ∧ z_keep [2, 3, 8, 9, 12, 23, 24, 26] [11, 12, 13, 14, 18, 19, 22] SX SX1 ∧ z_keep [2, 4, 7, 8, 10, 11] [6, 7] SM SM1 ∧ z_DI P R SX1 pg' rc' lo hi' fc' ∧
      (∀ c, c < ba → pg' c = pg0 c ∧ rc' c = rc0 c ∧ lo c = lo0 c ∧ hi' c = hi0 c) ∧ SM1.1 10 = nI (ru + 1) ∧ SM1.1 11 = nI (rb + ru + 1) ∧ (∀ i, i ≤ ru + 1 → SM1.2 6 i = nI (z_set1 ps (ru + 1) (ps ru + cn) i)) ∧ (∀ i, i < rb → SM1.2 7 i = SM.2 7 i) ∧
      ((r = 0 ∧ SM1.1 8 = 1) ∨ (r = 1 ∧ z_AC P R fc' SX1 SM1 ∧ SX1.1 12 = nI (ru + 1) ∧ SX1.1 24 = nI (rb + ru + 1) ∧ (∀ i, i < rb → SX1.2 22 i = SX.2 22 i) ∧
        (∀ i, i < ru + 1 → lo (ba + 2 * i) = 0 ∧ hi' (ba + 2 * i) = z_pgs R (z_set1 rl ru cn i) ∧ 0 < z_set1 rl ru cn i ∧ SX1.2 18 i = nI (pg' (ba + 2 * i) 0) ∧ SX1.2 19 i = nI (z_set1 rl ru cn i) ∧ SX1.2 22 (rb + i) = nI (z_set1 rl ru cn i)) ∧
        (∀ c, ba ≤ c → (∀ i, i ≤ ru → c ≠ ba + 2 * i) → lo c = 0 ∧ hi' c = 0) ∧
        z_set1 ps (ru + 1) (ps ru + cn) 0 = 0 ∧ (∀ i, i < ru + 1 → z_set1 ps (ru + 1) (ps ru + cn) (i + 1) = z_set1 ps (ru + 1) (ps ru + cn) i + z_set1 rl ru cn i ∧ SM1.2 7 (rb + i) = nI (z_set1 rl ru cn i) ∧ ∀ j, j < z_set1 rl ru cn i → (SM1.2 4 (z_set1 ps (ru + 1) (ps ru + cn) i + j), SM1.2 5 (z_set1 ps (ru + 1) (ps ru + cn) i + j)) = rc' (ba + 2 * i) j))) := by
  obtain ⟨hlive, hruP⟩ := z_runs_leX hok.2.2.1 hRX
  obtain ⟨hD, hO, ⟨x7, x14, x33, x15, x12, x24, x32⟩, hfil, hruns, hdead, hlz⟩ := id hRX
  obtain ⟨hac, ⟨m3, m13, m14, m10, m11, m9, m12, m16, m3f⟩, hst, hps0, hrM, hoM, hfM⟩ := id hRM
  obtain ⟨r, SX1, SM1, pg', rc', hi', fc', g1, g2, g3, g4, g5, g6, g7, g8, g9, g10, g11⟩ := z_end2 (ba := ba) (fr := ps ru) (rb := rb) hok hD (show 6 ≤ ba + 2 * ru by omega) hO hac hcn hle x12 x24 hruP hrb rfl hlive m10 m11 (hst ru (Nat.le_refl _))
  refine ⟨r, SX1, SM1, pg', rc', hi', fc', g1, g2, g3, g4, g5, fun c hc => ?_, g7, g8, fun i hi => ?_, fun i hi => ?_, ?_⟩
  · obtain ⟨e1, e2, e3⟩ := g6 c (by omega)
    rw [e1, e2, e3]; exact hfil c hc
  · rw [g9]
    by_cases e : i = ru + 1
    · rw [if_pos e, e, z_s1a]
    · rw [if_neg e, z_s1b _ _ e]; exact hst i (by omega)
  · rw [g10, if_neg (by omega)]
  rcases g11 with ⟨rfl, hfull⟩ | ⟨rfl, hac1, k1, k2, k3, k4, k5, k6, k7⟩
  · exact Or.inl ⟨rfl, hfull⟩
  · refine Or.inr ⟨rfl, hac1, k3, k4, fun i hi => by rw [k7, if_neg (by omega)], fun i hi => ?_, fun c hc hne => ?_, by rw [z_s1b _ _ (by omega)]; exact hps0, fun i hi => ?_⟩
    · by_cases e : i = ru
      · subst e
        rw [z_s1a, k5, k6, k7, if_pos rfl, if_pos rfl, if_pos rfl]
        exact ⟨hO.2.2.1, k1, hcn, rfl, rfl, rfl⟩
      · obtain ⟨e1, e2, e3⟩ := g6 (ba + 2 * i) (by omega)
        rw [z_s1b _ _ e, k5, k6, k7, if_neg e, if_neg e, if_neg (by omega), e1, e3]
        exact hruns i (by omega)
    · rw [(g6 c (hne ru (Nat.le_refl _))).2.2]; exact hdead c hc hne
    · by_cases e : i = ru
      · subst e
        rw [z_s1a, z_s1a, z_s1b _ _ (show i ≠ i + 1 by omega), g10, if_pos rfl]
        refine ⟨rfl, rfl, fun j hj => ?_⟩
        rw [g4.2 4 (by decide), g4.2 5 (by decide), k2 j hj]
        exact hoM j hj
      · obtain ⟨e1, e2, e3⟩ := g6 (ba + 2 * i) (by omega)
        obtain ⟨h1, h2, h3⟩ := hrM i (by omega)
        rw [z_s1b _ _ e, z_s1b _ _ (show i + 1 ≠ ru + 1 by omega), z_s1b _ _ (show i ≠ ru + 1 by omega), g10, if_neg (by omega), g4.2 4 (by decide), g4.2 5 (by decide), e2]
        exact ⟨h1, h2, h3⟩
/-- what holds between the passes: k runs, run i of rl i records in chain ch i -/
def z_PS (P R ba : Nat) (md onv : Int32) (pg0 : Nat → Nat → Nat) (rc0 : Nat → Nat → z_Rec) (lo0 hi0 : Nat → Nat) (SX SM : es_St) (pg : Nat → Nat → Nat) (rc : Nat → Nat → z_Rec) (lo hi : Nat → Nat) (fc k : Nat) (rl ps ch : Nat → Nat) (hr top : Nat) : Prop :=
  z_DI P R SX pg rc lo hi fc ∧ z_AC P R fc SX SM ∧
  (SX.1 14 = md ∧ SX.1 15 = onv ∧ SX.1 12 = nI k ∧ SM.1 13 = md ∧ SM.1 14 = onv ∧ SM.1 10 = nI k ∧ SM.1 9 = nI hr ∧ (hr = 0 ∨ hr = 8192) ∧ SM.1 3 = SX.1 22 ∧ SM.1 6 = SX.1 25) ∧
  (∀ c, c < ba → pg c = pg0 c ∧ rc c = rc0 c ∧ lo c = lo0 c ∧ hi c = hi0 c) ∧
  (∀ i, i < k → ba ≤ ch i ∧ ch i < top ∧ lo (ch i) = 0 ∧ hi (ch i) = z_pgs R (rl i) ∧ 0 < rl i ∧ SX.2 18 i = nI (pg (ch i) 0) ∧ SX.2 19 i = nI (rl i)) ∧
  (∀ i j, i < k → j < k → ch i = ch j → i = j) ∧ (∀ c, ba ≤ c → (∀ i, i < k → c ≠ ch i) → hi c ≤ lo c) ∧ (∀ c, top ≤ c → lo c = 0 ∧ hi c = 0) ∧ ba ≤ top ∧
  (∀ i, i ≤ k → SM.2 6 i = nI (ps i)) ∧ ps 0 = 0 ∧ (∀ i, i < k → ps (i + 1) = ps i + rl i ∧ ∀ j, j < rl i → (SM.2 4 (hr + ps i + j), SM.2 5 (hr + ps i + j)) = rc (ch i) j) ∧ ps k ≤ 8192 ∧ ∀ i, i < k → z_srt md (rc (ch i)) (rl i)
/-- the lengths of the first runs -/
def z_RL (SX SM : es_St) (kk : Nat) : Prop := SX.1 24 = nI kk ∧ SM.1 11 = nI kk ∧ SM.1 5 = nI kk ∧ ∀ i, i < kk → SX.2 22 i = SM.2 7 i
def z_OKR (P R ba : Nat) (md onv : Int32) (pg0 : Nat → Nat → Nat) (rc0 : Nat → Nat → z_Rec) (lo0 hi0 : Nat → Nat) (SX0 SM0 SX SM : es_St) (rb : Nat) : Prop :=
  z_keep z_KX z_AX SX0 SX ∧ z_keep z_KM z_AM SM0 SM ∧ ∃ (pg : Nat → Nat → Nat) (rc : Nat → Nat → z_Rec) (lo hi : Nat → Nat) (fc k : Nat) (rl ps ch : Nat → Nat) (hr top kk : Nat), z_PS P R ba md onv pg0 rc0 lo0 hi0 SX SM pg rc lo hi fc k rl ps ch hr top ∧ kk ≤ rb + P ∧ z_RL SX SM kk
