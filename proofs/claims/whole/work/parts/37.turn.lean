/-! ===== a turn of the loop ===== -/
def z_FL (P R ba : Nat) (pg0 : Nat → Nat → Nat) (rc0 : Nat → Nat → z_Rec) (lo0 hi0 : Nat → Nat) (SX0 SM0 SX SM : es_St) : Prop :=
  ∃ (pg : Nat → Nat → Nat) (rc : Nat → Nat → z_Rec) (lo hi : Nat → Nat) (fc : Nat), z_DI P R SX pg rc lo hi fc ∧ (∀ c, c < ba → pg c = pg0 c ∧ rc c = rc0 c ∧ lo c = lo0 c ∧ hi c = hi0 c) ∧ z_keep z_KX z_AX SX0 SX ∧ z_keep z_KM z_AM SM0 SM ∧ SM.1 8 = 1 ∧ (∃ hr, hr ≤ 8192 ∧ SM.1 9 = nI hr) ∧ (¬ SM.1 10 = 0 → ∃ v, v ≤ 8192 ∧ SM.2 6 1 = nI v)
theorem z_lz_same {R n t : Nat} {S S' : es_St} {g : Nat → Nat} {rr : Nat → z_Rec} (h : z_lz R S g rr n t) (e24 : S'.2 24 = S.2 24) (e25 : S'.2 25 = S.2 25) (e26 : S'.2 26 = S.2 26) (e27 : S'.2 27 = S.2 27) (e28 : S'.2 28 = S.2 28) (e29 : S'.2 29 = S.2 29) : z_lz R S' g rr n t := by
  obtain ⟨st, en, h1, h2⟩ := h
  exact ⟨st, en, z_lane_same h1 e24 e25 e26 e27 e28 e29, h2⟩
theorem z_RX_put {P R f n nb ba rb : Nat} {md onv : Int32} {pg0 pg pg' : Nat → Nat → Nat} {rc0 rc rc' : Nat → Nat → z_Rec} {lo0 hi0 lo hi hi' : Nat → Nat} {SX SX' : es_St} {fc fc' ru : Nat} {rl : Nat → Nat} {oo oo' : Nat → z_Rec} {cn cn' tk : Nat} (h : z_RX P R f n nb ba rb md onv pg0 rc0 lo0 hi0 SX pg rc lo hi fc ru rl oo cn tk) (hk : z_keep [2, 3, 4, 5, 6, 8, 9, 23, 26] [11, 12, 13, 14, 16, 17] SX SX') (hD : z_DI P R SX' pg' rc' lo hi' fc') (ho : z_oth (ba + 2 * ru) pg pg' rc rc' hi hi') (hO : z_OUT R SX' (ba + 2 * ru) pg' rc' lo hi' oo' cn') :
    z_RX P R f n nb ba rb md onv pg0 rc0 lo0 hi0 SX' pg' rc' lo hi' fc' ru rl oo' cn' tk := by
  obtain ⟨-, -, ⟨x7, x14, x33, x15, x12, x24, x32⟩, hfil, hruns, hdead, hlz⟩ := h
  refine ⟨hD, hO, ⟨(hk.1 7 (by decide)).trans x7, (hk.1 14 (by decide)).trans x14, (hk.1 33 (by decide)).trans x33, (hk.1 15 (by decide)).trans x15, (hk.1 12 (by decide)).trans x12, (hk.1 24 (by decide)).trans x24, (hk.1 32 (by decide)).trans x32⟩, fun c hc => ?_, fun i hi => ?_, fun c hc hne => ?_, z_lz_same hlz (hk.2 24 (by decide)) (hk.2 25 (by decide)) (hk.2 26 (by decide)) (hk.2 27 (by decide)) (hk.2 28 (by decide)) (hk.2 29 (by decide))⟩
  · obtain ⟨e1, e2, e3⟩ := ho c (by omega)
    rw [e1, e2, e3]; exact hfil c hc
  · obtain ⟨e1, e2, e3⟩ := ho (ba + 2 * i) (by omega)
    rw [e1, e3, hk.2 18 (by decide), hk.2 19 (by decide), hk.2 22 (by decide)]; exact hruns i hi
  · obtain ⟨e1, e2, e3⟩ := ho c (hne ru (Nat.le_refl _))
    rw [e3]; exact hdead c hc hne
theorem z_RX_mem {P R f n nb ba rb : Nat} {md onv : Int32} {pg0 pg : Nat → Nat → Nat} {rc0 rc : Nat → Nat → z_Rec} {lo0 hi0 lo hi : Nat → Nat} {SX SX' : es_St} {fc ru : Nat} {rl : Nat → Nat} {oo : Nat → z_Rec} {cn tk tk' : Nat} (h : z_RX P R f n nb ba rb md onv pg0 rc0 lo0 hi0 SX pg rc lo hi fc ru rl oo cn tk) (hk : z_keep [22] [24, 25, 26, 27, 28, 29, 30, 31, 32, 33, 34] SX SX') (hl : z_lz R SX' (pg0 f) (rc0 f) n tk') :
    z_RX P R f n nb ba rb md onv pg0 rc0 lo0 hi0 SX' pg rc lo hi fc ru rl oo cn tk' := by
  obtain ⟨hD, hO, ⟨x7, x14, x33, x15, x12, x24, x32⟩, hfil, hruns, hdead, hlz⟩ := h
  refine ⟨z_DI_same hD ⟨hk.1 0 (by decide), hk.1 1 (by decide), hk.1 2 (by decide), hk.2 11 (by decide), hk.2 12 (by decide), hk.2 13 (by decide), hk.2 14 (by decide), hk.2 15 (by decide)⟩, z_OUT_same hO (hk.1 3 (by decide)) (hk.1 4 (by decide)) (hk.1 5 (by decide)) (hk.1 6 (by decide)) (hk.1 8 (by decide)) (hk.1 9 (by decide)) (hk.2 16 (by decide)) (hk.2 17 (by decide)), ⟨(hk.1 7 (by decide)).trans x7, (hk.1 14 (by decide)).trans x14, (hk.1 33 (by decide)).trans x33, (hk.1 15 (by decide)).trans x15, (hk.1 12 (by decide)).trans x12, (hk.1 24 (by decide)).trans x24, (hk.1 32 (by decide)).trans x32⟩, hfil, fun i hi => ?_, hdead, hl⟩
  rw [hk.2 18 (by decide), hk.2 19 (by decide), hk.2 22 (by decide)]; exact hruns i hi
theorem z_runs_leX {P R f n nb ba rb : Nat} {md onv : Int32} {pg0 pg : Nat → Nat → Nat} {rc0 rc : Nat → Nat → z_Rec} {lo0 hi0 lo hi : Nat → Nat} {SX : es_St} {fc ru : Nat} {rl : Nat → Nat} {oo : Nat → z_Rec} {cn tk : Nat} (hR : 1 ≤ R) (h : z_RX P R f n nb ba rb md onv pg0 rc0 lo0 hi0 SX pg rc lo hi fc ru rl oo cn tk) : (∀ i, i < ru → lo (ba + 2 * i) = 0 ∧ 0 < hi (ba + 2 * i)) ∧ ru ≤ P := by
  obtain ⟨hD, hO, -, hfil, hruns, hdead, hlz⟩ := h
  have hl : ∀ i, i < ru → lo (ba + 2 * i) = 0 ∧ 0 < hi (ba + 2 * i) := fun i hi => by
    obtain ⟨e1, e2, e3, -⟩ := hruns i hi
    refine ⟨e1, ?_⟩
    rw [e2]
    have := z_pgs_lt (R := R) (n := rl i) (j := 0) (by omega) e3
    rw [Nat.zero_div] at this
    exact this
  exact ⟨hl, z_runs_le hD hl⟩
/-- the reference's side, behind the putting out -/
theorem z_RM_put {P R f n ba rb : Nat} {md onv : Int32} {rc0 rc rc' : Nat → Nat → z_Rec} {SX SX' SM Sa SM' : es_St} {fc fc' ru : Nat} {rl ps : Nat → Nat} {oo oo' : Nat → z_Rec} {cn cn' tk h : Nat} {pg pg' : Nat → Nat → Nat} {hi hi' : Nat → Nat} (hM : z_RM P R f n ba rb md onv rc0 rc SX SM fc ru rl ps oo cn tk h) (hka : z_keep [12] [8, 9, 10, 11] SM Sa) (ha12 : Sa.1 12 = nI (h - 1)) (hk : z_keep [2, 4, 7, 8] [4, 5] Sa SM') (hne : ∀ i, i ≠ ps ru + cn → SM'.2 4 i = Sa.2 4 i ∧ SM'.2 5 i = Sa.2 5 i) (hkx : z_keep [2, 3, 4, 5, 6, 8, 9, 23, 26] [11, 12, 13, 14, 16, 17] SX SX') (hac : z_AC P R fc' SX' SM') (ho : z_oth (ba + 2 * ru) pg pg' rc rc' hi hi') (hrec : ∀ j, j < cn' → (SM'.2 4 (ps ru + j), SM'.2 5 (ps ru + j)) = oo' j) :
    z_RM P R f n ba rb md onv rc0 rc' SX' SM' fc' ru rl ps oo' cn' tk (h - 1) := by
  obtain ⟨-, ⟨m3, m13, m14, m10, m11, m9, m12, m16, m3f⟩, hst, hps0, hrM, hoM, hfM⟩ := hM
  have hmono : ∀ i, i ≤ ru → ps i ≤ ps ru := fun i hi => by
    have : ∀ k, i + k ≤ ru → ps i ≤ ps (i + k) := fun k => by
      induction k with
      | zero => intro _; exact Nat.le_refl _
      | succ k ih => intro hk; have h1 := ih (by omega); have h2 := (hrM (i + k) (by omega)).1; rw [show i + (k + 1) = i + k + 1 by omega]; omega
    have h1 := this (ru - i) (by omega)
    rw [show i + (ru - i) = ru by omega] at h1
    exact h1
  have f1 : ∀ j, j ≠ 12 → j ≠ 2 → j ≠ 4 → j ≠ 7 → j ≠ 8 → SM'.1 j = SM.1 j := fun j a b c d e => by rw [hk.1 j (by simp; omega), hka.1 j (by simp; omega)]
  have f2 : ∀ j, j ≠ 4 → j ≠ 5 → j ≠ 8 → j ≠ 9 → j ≠ 10 → j ≠ 11 → SM'.2 j = SM.2 j := fun j a b c d e g => by rw [hk.2 j (by simp; omega), hka.2 j (by simp; omega)]
  refine ⟨hac, ⟨?_, ?_, ?_, ?_, ?_, ?_, ?_, ?_, ?_⟩, fun i hi => ?_, hps0, fun i hi => ⟨(hrM i hi).1, ?_, fun j hj => ?_⟩, hrec, fun j hj => ?_⟩
  · rw [f1 3 (by decide) (by decide) (by decide) (by decide) (by decide), hkx.1 22 (by decide)]; exact m3
  · rw [f1 13 (by decide) (by decide) (by decide) (by decide) (by decide)]; exact m13
  · rw [f1 14 (by decide) (by decide) (by decide) (by decide) (by decide)]; exact m14
  · rw [f1 10 (by decide) (by decide) (by decide) (by decide) (by decide)]; exact m10
  · rw [f1 11 (by decide) (by decide) (by decide) (by decide) (by decide)]; exact m11
  · rw [f1 9 (by decide) (by decide) (by decide) (by decide) (by decide)]; exact m9
  · rw [hk.1 12 (by decide)]; exact ha12
  · rw [f1 16 (by decide) (by decide) (by decide) (by decide) (by decide)]; exact m16
  · rw [f2 3 (by decide) (by decide) (by decide) (by decide) (by decide) (by decide)]; exact m3f
  · rw [f2 6 (by decide) (by decide) (by decide) (by decide) (by decide) (by decide)]; exact hst i hi
  · rw [f2 7 (by decide) (by decide) (by decide) (by decide) (by decide) (by decide)]; exact (hrM i hi).2.1
  · obtain ⟨e1, -, e3⟩ := hrM i hi
    have := hmono (i + 1) hi
    obtain ⟨g1, g2⟩ := hne (ps i + j) (by omega)
    rw [g1, g2, hka.2 4 (by decide), hka.2 5 (by decide), (ho (ba + 2 * i) (by omega)).2.1]
    exact e3 j hj
  · rw [f2 1 (by decide) (by decide) (by decide) (by decide) (by decide) (by decide), f2 2 (by decide) (by decide) (by decide) (by decide) (by decide) (by decide)]; exact hfM j hj
theorem z_RM_mem {P R f n ba rb : Nat} {md onv : Int32} {rc0 rc : Nat → Nat → z_Rec} {SX SX' SM SM' : es_St} {fc ru : Nat} {rl ps : Nat → Nat} {oo : Nat → z_Rec} {cn tk tk' h h' : Nat} (hM : z_RM P R f n ba rb md onv rc0 rc SX SM fc ru rl ps oo cn tk h) (hkx : z_keep [22] [24, 25, 26, 27, 28, 29, 30, 31, 32, 33, 34] SX SX') (hk : z_keep [3, 12, 16] [8, 9, 10, 11] SM SM') (e3 : SM'.1 3 = SX'.1 22) (e12 : SM'.1 12 = nI h') (e16 : SM'.1 16 = nI tk') :
    z_RM P R f n ba rb md onv rc0 rc SX' SM' fc ru rl ps oo cn tk' h' := by
  obtain ⟨⟨q0, q1, q2, q4, q7, q8, q9⟩, ⟨m3, m13, m14, m10, m11, m9, m12, m16, m3f⟩, hst, hps0, hrM, hoM, hfM⟩ := hM
  refine ⟨⟨(hk.1 0 (by decide)).trans q0, (hk.1 1 (by decide)).trans q1, (hk.1 2 (by decide)).trans q2, ?_, ?_, (hk.1 8 (by decide)).trans q8, by rw [hkx.1 26 (by decide)]; exact q9⟩, ⟨e3, (hk.1 13 (by decide)).trans m13, (hk.1 14 (by decide)).trans m14, (hk.1 10 (by decide)).trans m10, (hk.1 11 (by decide)).trans m11, (hk.1 9 (by decide)).trans m9, e12, e16, ?_⟩, ?_, hps0, ?_, ?_, ?_⟩
  · rw [hk.1 4 (by decide), hkx.1 23 (by decide)]; exact q4
  · rw [hk.1 7 (by decide), hkx.1 26 (by decide)]; exact q7
  · rw [hk.2 3 (by decide)]; exact m3f
  · rw [hk.2 6 (by decide)]; exact hst
  · rw [hk.2 7 (by decide), hk.2 4 (by decide), hk.2 5 (by decide)]; exact hrM
  · rw [hk.2 4 (by decide), hk.2 5 (by decide)]; exact hoM
  · rw [hk.2 1 (by decide), hk.2 2 (by decide)]; exact hfM
