/-! ===== merging: the relation, and a turn with both ===== -/
def z_FX : List Nat := [2, 3, 4, 5, 6, 7, 8, 9, 22, 23, 26, 32, 33]
def z_GX : List Nat := [11, 12, 13, 14, 15, 16, 17, 24, 25, 26, 27, 28, 29, 30, 31, 32, 33, 34]
def z_FM : List Nat := [2, 3, 4, 7, 8]
def z_GM : List Nat := [4, 5, 15, 16]
theorem z_LN_keep {R : Nat} {S S' : es_St} {pg pg' : Nat → Nat → Nat} {rc rc' : Nat → Nat → z_Rec} {lo hi lo' hi' : Nat → Nat} {c n t l : Nat} (h : z_LN R S pg rc lo hi c n t l) (e : (S'.2 26 l = S.2 26 l ∧ S'.2 27 l = S.2 27 l ∧ S'.2 28 l = S.2 28 l ∧ S'.2 29 l = S.2 29 l) ∧ ∀ s, s < R → S'.2 24 (l * R + s) = S.2 24 (l * R + s) ∧ S'.2 25 (l * R + s) = S.2 25 (l * R + s)) (e30 : S'.2 30 l = S.2 30 l) (e31 : S'.2 31 l = S.2 31 l) (e32 : S'.2 32 l = S.2 32 l) (e33 : S'.2 33 l = S.2 33 l) (hp : pg' c = pg c) (hr : rc' c = rc c) (hlo : lo' c = lo c) (hhi : hi' c = hi c) : z_LN R S' pg' rc' lo' hi' c n t l := by
  obtain ⟨⟨st, en, q1, q2, q3, q4⟩, q5, q6, q7, q8, q9⟩ := h
  obtain ⟨⟨e26, e27, e28, e29⟩, e24⟩ := e
  unfold z_LN
  rw [hp, hr, hlo, hhi, e30, e31, e32, e33]
  exact ⟨⟨st, en, z_lane_keep q1 e26 e27 e28 e29 e24, q2, q3, q4⟩, q5, q6, q7, q8, q9⟩
/-- the lanes are in order, and none stands ahead of what is put out -/
def z_MO (md : Int32) (w : Nat) (c n t : Nat → Nat) (rc : Nat → Nat → z_Rec) (oo : Nat → z_Rec) (cn : Nat) : Prop :=
  z_srt md oo cn ∧ (0 < cn → ∀ l, l < w → t l < n l → ¬ z_ah md (rc (c l) (t l)) (oo (cn - 1))) ∧ ∀ l, l < w → z_srt md (rc (c l)) (n l)
def z_MG (P R w oc fr hr : Nat) (md onv : Int32) (c n qs t : Nat → Nat) (oo : Nat → z_Rec) (cn b : Nat) (SX SM : es_St) (pg : Nat → Nat → Nat) (rc : Nat → Nat → z_Rec) (lo hi : Nat → Nat) (fc : Nat) : Prop :=
  z_DI P R SX pg rc lo hi fc ∧ z_OUT R SX oc pg rc lo hi oo cn ∧ z_AC P R fc SX SM ∧
  (SX.1 7 = onv ∧ SX.1 32 = nI w ∧ SX.1 33 = md ∧ SM.1 13 = md ∧ SM.1 14 = onv ∧ SM.1 3 = SX.1 22) ∧
  (∀ l, l < w → z_LN R SX pg rc lo hi (c l) (n l) (t l) l) ∧
  (∀ l, l < w → SM.2 15 l = nI (hr + qs l + t l) ∧ SM.2 16 l = nI (hr + qs l + n l) ∧ qs l + n l ≤ 8192 ∧ ∀ j, j < n l → (SM.2 4 (hr + qs l + j), SM.2 5 (hr + qs l + j)) = rc (c l) j) ∧
  z_FT SX w b ∧ (∀ j, j < cn → (SM.2 4 (fr + j), SM.2 5 (fr + j)) = oo j) ∧ z_MO md w c n t rc oo cn
/-- the reference chooses what the tree chooses -/
theorem z_mpick {P R w oc fr hr : Nat} {md onv : Int32} {c n qs t : Nat → Nat} {oo : Nat → z_Rec} {cn b : Nat} {SX SM : es_St} {pg : Nat → Nat → Nat} {rc : Nat → Nat → z_Rec} {lo hi : Nat → Nat} {fc : Nat} (hw0 : 0 < w) (hw : w ≤ 15) (hhr : hr = 0 ∨ hr = 8192) (H : z_MG P R w oc fr hr md onv c n qs t oo cn b SX SM pg rc lo hi fc) :
    ((∀ l, l < w → t l = n l) ∧ f_X8_leastOf es_NM z_fu SM (nI w) = some (-1, SM)) ∨ (b < w ∧ t b < n b ∧ f_X8_leastOf es_NM z_fu SM (nI w) = some (nI b, SM)) := by
  obtain ⟨hD, hO, hac, ⟨x7, x32, x33, m13, m14, m3⟩, hL, hM, hF, hoM, -⟩ := H
  obtain ⟨hb, -, hbest⟩ := z_FT_best hw0 hF
  obtain ⟨r, e1, e2⟩ := zm_leastOf (w := w) (md := md) (S := SM) (n := n) (t := t) (qs := fun l => hr + qs l) (rr := fun l => rc (c l)) hw m13 (fun l hl => by
    obtain ⟨u1, u2, u3, u4⟩ := hM l hl
    exact ⟨u1, u2, by omega, (hL l hl).2.2.1, u4⟩)
  rcases e2 with ⟨rfl, hall⟩ | ⟨b', hb', rfl, hlt, hmin⟩
  · exact Or.inl ⟨hall, e1⟩
  · refine Or.inr ?_
    have it1 : ∀ l, l < w → t l < n l → z_it SX l = z_mj md (rc (c l) (t l)) l := fun l hl ht => by
      obtain ⟨-, -, -, l33, l30, -⟩ := hL l hl
      obtain ⟨l30, l31⟩ := l30 ht
      have l31' := Prod.mk.inj l31
      rw [← l31]
      unfold z_it z_mj
      rw [l30, l33, x33, nI_toInt (show l < 2 ^ 31 by omega)]
      rfl
    have hbn : t b < n b := by
      rcases Nat.lt_or_ge (t b) (n b) with z | z
      · exact z
      · exfalso
        obtain ⟨-, -, l3, -, -, l30⟩ := hL b hb
        have h30 := l30 (by omega)
        rcases hbest b' hb' with e | e
        · subst e; omega
        · rw [it1 b' hb' hlt] at e
          have h2 : (SX.2 30 b).toInt = (2147483647 : Nat) := by rw [h30, nI_toInt (by decide)]
          unfold z_l4 z_it z_mj at e
          dsimp only at e
          omega
    have hbb : b = b' := by
      rcases Nat.decEq b b' with z | z
      · exfalso
        have h1 := (hbest b' hb').resolve_left (fun y => z y.symm)
        rw [it1 b hb hbn, it1 b' hb' hlt] at h1
        exact z_l4_irr _ (z_l4_tr h1 (hmin b hb hbn z))
      · exact z
    subst hbb
    exact ⟨hb, hlt, e1⟩
theorem z_OUT_lo {R : Nat} {S S' : es_St} {oc : Nat} {pg : Nat → Nat → Nat} {rc : Nat → Nat → z_Rec} {lo lo' hi : Nat → Nat} {oo : Nat → z_Rec} {cn : Nat} (h : z_OUT R S oc pg rc lo hi oo cn) (hl : lo' oc = lo oc) (e3 : S'.1 3 = S.1 3) (e4 : S'.1 4 = S.1 4) (e5 : S'.1 5 = S.1 5) (e6 : S'.1 6 = S.1 6) (e8 : S'.1 8 = S.1 8) (e9 : S'.1 9 = S.1 9) (e16 : S'.2 16 = S.2 16) (e17 : S'.2 17 = S.2 17) : z_OUT R S' oc pg rc lo' hi oo cn := by
  unfold z_OUT at *
  rw [hl, e3, e4, e5, e6, e8, e9, e16, e17]
  exact h
theorem z_mturn {P R w oc fr hr a d N : Nat} {md onv : Int32} {c n qs t : Nat → Nat} {oo : Nat → z_Rec} {cn b : Nat} {SX SM : es_St} {pg : Nat → Nat → Nat} {rc : Nat → Nat → z_Rec} {lo hi : Nat → Nat} {fc : Nat} (hok : z_ok P R) (hw0 : 0 < w) (hw : w ≤ 15) (hinj : ∀ l l', l < w → l' < w → c l = c l' → l = l') (hoc : 6 ≤ oc) (hcoc : ∀ l, l < w → c l ≠ oc) (hhr : hr = 0 ∨ hr = 8192) (hfr : 8192 - hr ≤ fr) (H : z_MG P R w oc fr hr md onv c n qs t oo cn b SX SM pg rc lo hi fc) (hbw : b < w) (hbt : t b < n b) (h6 : ∀ l, l < w → SM.2 6 (a + l) = nI (qs l)) (ha : a + w ≤ 8200) (hfc : fr + cn < 8192 - hr + 8192) (hd : d < N) (hN : N ≤ 8192) :
    ∃ (r : Int32) (SX' SM' : es_St) (pg' : Nat → Nat → Nat) (rc' : Nat → Nat → z_Rec) (lo' hi' : Nat → Nat) (fc' : Nat) (oo' : Nat → z_Rec) (cn' : Nat),
      (∀ m, f_X5_mergeRuns_28 (es_NX P R) z_fu (m + 1) (nI N) (nI d) SX = if ¬ r = 0 then f_X5_mergeRuns_28 (es_NX P R) z_fu m (nI N) (nI (d + 1)) SX' else some (0, SX')) ∧
      (∀ m, f_X8_merge_68 es_NM z_fu (m + 1) (nI hr) (nI a) (nI w) (nI fr) (nI (fr + cn)) (nI b) SM = es_bd (f_X8_leastOf es_NM z_fu SM' (nI w)) fun r34 S35 => f_X8_merge_68 es_NM z_fu m (nI hr) (nI a) (nI w) (nI fr) (nI (fr + cn')) r34 S35) ∧
      z_keep z_FX z_GX SX SX' ∧ z_keep z_FM z_GM SM SM' ∧ (∀ i, i ≠ fr + cn → SM'.2 4 i = SM.2 4 i ∧ SM'.2 5 i = SM.2 5 i) ∧ z_DI P R SX' pg' rc' lo' hi' fc' ∧ (∀ c', c' ≠ oc → pg' c' = pg c' ∧ rc' c' = rc c' ∧ hi' c' = hi c' ∧ (c' ≠ c b → lo' c' = lo c')) ∧ cn ≤ cn' ∧ cn' ≤ cn + 1 ∧ 0 < cn' ∧
      (∀ l, l < w → SM'.2 15 l = nI (hr + qs l + z_set1 t b (t b + 1) l) ∧ SM'.2 16 l = nI (hr + qs l + n l) ∧ qs l + n l ≤ 8192 ∧ ∀ j, j < n l → (SM'.2 4 (hr + qs l + j), SM'.2 5 (hr + qs l + j)) = rc' (c l) j) ∧
      ((r = 0 ∧ SM'.1 8 = 1) ∨ (r = 1 ∧ ∃ b', z_MG P R w oc fr hr md onv c n qs (z_set1 t b (t b + 1)) oo' cn' b' SX' SM' pg' rc' lo' hi' fc')) := by
  obtain ⟨hD, hO, hac, ⟨x7, x32, x33, m13, m14, m3⟩, hL, hM, hF, hoM, hMO⟩ := id H
  obtain ⟨a1, a2, a3, a4⟩ := id hok
  have hwT : w ≤ es_T R := by unfold es_T; split <;> omega
  obtain ⟨hM15, hM16, hMle, hMrec⟩ := hM b hbw
  have hLb := hL b hbw
  obtain ⟨-, hhib, -, h33b, h30b, -⟩ := id hLb
  obtain ⟨h30b, h31b⟩ := h30b hbt
  -- the lane
  obtain ⟨S2, lo2, fc2, s1, s2, s3, s4, s5, ⟨st, en, s6, s7, s8, s9⟩, s10⟩ := zx_mstep hok (show b < 15 by omega) hD hLb hbt (by omega)
  -- the reference
  obtain ⟨SM2, t1, t2, t3, t4⟩ := zm_mstep (w := w) (fr := fr) (cn := cn) (a := a) ⟨a3, a4⟩ hac.2.1 hac.2.2.2.2.2.1 (show b < 15 by omega) hM15 hM16 (by omega) hbt (k := SX.2 31 b) (tg := SX.2 32 b) (by rw [hMrec (t b) hbt, h31b]) (h6 b hbw) (by omega)
  have hrd : fc2 ≤ P ∧ SM2.1 3 = S2.1 22 ∧ SM2.1 2 = nI (P - fc2) := by
    rcases s3 with ⟨u1, u2, u3, u4, u5⟩ | ⟨u1, u3, u4⟩ <;> rcases t4 with ⟨v1, v2, v3, v4⟩ | ⟨v1, v3, v4⟩
    · rw [v3, v4, u3, m3, hac.2.2.1, u4]
      refine ⟨by omega, rfl, ?_⟩
      rw [show nI (P - fc) - 1 = nI (P - fc - 1) from pk_sub (b := 1) (by omega)]
      congr 1
    · exact absurd ⟨u1, u2⟩ v1
    · exact absurd ⟨v1, v2⟩ u1
    · rw [v3, v4, u3, m3, hac.2.2.1, u4]
      exact ⟨hD.2.2.1.2.1, rfl, rfl⟩
  -- the leaf
  obtain ⟨S3, e1, e2, e3, e4, e5, e6⟩ := zx_enterNext (w := w) hok (show b < 15 by omega) ((s2.1 1 (by decide)).trans hD.2.1) s6 (by omega) (s8.imp id (fun y => y.1)) hwT ((s2.1 32 (by decide)).trans x32) hbw (Or.inl (by rw [s2.2 33 (by decide)]; exact h33b))
  have l33 : ∀ l, l < w → S3.2 33 l = nI l := fun l hl => by
    by_cases e : l = b
    · rw [e]; exact e3
    · rw [(e6 l e).2.2.2, s2.2 33 (by decide)]; exact (hL l hl).2.2.2.1
  obtain ⟨S4, b', f1, f2, f3⟩ := zx_climb (S := SX) (S' := S3) hok hwT hw0 hF (by rw [e2.2 34 (by decide), s2.2 34 (by decide)]) (fun l _ hne => by
    obtain ⟨g1, g2, g3, g4⟩ := e6 l hne
    unfold z_it; rw [g1, g2, g3, g4, e2.1 33 (by decide), s2.1 33 (by decide), s2.2 30 (by decide), s2.2 31 (by decide), s2.2 32 (by decide), s2.2 33 (by decide)]) (by rw [e2.1 32 (by decide), s2.1 32 (by decide)]; exact x32) (fun l l' hl hl' hne y => by
      rw [l33 l hl, l33 l' hl'] at y
      exact hne ((nI_eq (by omega) (by omega)).mp y))
  have k4 : z_keep [2, 22] [13, 15, 24, 25, 26, 27, 28, 29, 30, 31, 32, 33, 34] SX S4 := z_keep_trans (z_keep_mono s2 (by decide) (by decide)) (z_keep_trans (z_keep_mono e2 (by decide) (by decide)) (z_keep_mono f2 (by decide) (by decide)))
  have k24 : z_keep [] [30, 31, 32, 33, 34] S2 S4 := z_keep_trans (z_keep_mono e2 (by decide) (by decide)) (z_keep_mono f2 (by decide) (by decide))
  have hD4 : z_DI P R S4 pg rc lo2 hi fc2 := z_DI_same s4 ⟨k24.1 0 (by decide), k24.1 1 (by decide), k24.1 2 (by decide), k24.2 11 (by decide), k24.2 12 (by decide), k24.2 13 (by decide), k24.2 14 (by decide), k24.2 15 (by decide)⟩
  have hO4 : z_OUT R S4 oc pg rc lo2 hi oo cn := z_OUT_lo hO (s5 oc (fun y => hcoc b hbw y.symm)) (k4.1 3 (by decide)) (k4.1 4 (by decide)) (k4.1 5 (by decide)) (k4.1 6 (by decide)) (k4.1 8 (by decide)) (k4.1 9 (by decide)) (k4.2 16 (by decide)) (k4.2 17 (by decide))
  have hac4 : z_AC P R fc2 S4 SM2 := ⟨(t2.1 0 (by decide)).trans hac.1, (t2.1 1 (by decide)).trans hac.2.1, hrd.2.2, by rw [t2.1 4 (by decide), k4.1 23 (by decide)]; exact hac.2.2.2.1, by rw [t2.1 7 (by decide), k4.1 26 (by decide)]; exact hac.2.2.2.2.1, by rw [t2.1 8 (by decide)]; exact hac.2.2.2.2.2.1, by rw [k4.1 26 (by decide)]; exact Int32.le_trans (nI_le (show P - fc2 ≤ P - fc by rcases s3 with ⟨_, _, _, u, _⟩ | ⟨_, _, u⟩ <;> omega) (by omega)) hac.2.2.2.2.2.2⟩
  obtain ⟨r, SX', SM', pg', rc', hi', fc', oo', cn', p1, p2, p3, p4, p5, p6, p7, p8, p9, p10, p11, p12, p13⟩ := z_put2 (fr := fr) (k := SX.2 31 b) (t := SX.2 32 b) hok hD4 hoc hO4 hac4 ((k4.1 7 (by decide)).trans x7) ((t2.1 14 (by decide)).trans m14) (by omega) (fun j hj => by rw [t2.2 4 (by decide), t2.2 5 (by decide)]; exact hoM j hj)
  have hrecs : ∀ l, l < w → SM'.2 15 l = nI (hr + qs l + z_set1 t b (t b + 1) l) ∧ SM'.2 16 l = nI (hr + qs l + n l) ∧ qs l + n l ≤ 8192 ∧ ∀ j, j < n l → (SM'.2 4 (hr + qs l + j), SM'.2 5 (hr + qs l + j)) = rc' (c l) j := fun l hl => by
    obtain ⟨u1, u2, u3, u4⟩ := hM l hl
    refine ⟨?_, by rw [p4.2 16 (by decide), t2.2 16 (by decide)]; exact u2, u3, fun j hj => ?_⟩
    · rw [p4.2 15 (by decide), t3]
      by_cases e : l = b
      · rw [if_pos e, e, z_s1a]
      · rw [if_neg e, z_s1b _ _ e]; exact u1
    · obtain ⟨y1, y2⟩ := p5 (hr + qs l + j) (by omega)
      rw [y1, y2, t2.2 4 (by decide), t2.2 5 (by decide), (p7 (c l) (hcoc l hl)).2.1]
      exact u4 j hj
  have hMO' : z_MO md w c n (z_set1 t b (t b + 1)) rc' oo' cn' := by
    obtain ⟨o1, o2, o3⟩ := hMO
    have hoo : ∀ j, j < cn → oo' j = oo j := fun j hj => by
      obtain ⟨y1, y2⟩ := p5 (fr + j) (by omega)
      rw [← p11 j (by omega), y1, y2, t2.2 4 (by decide), t2.2 5 (by decide)]
      exact hoM j hj
    have hlast : oo' (cn' - 1) = rc (c b) (t b) := by rw [p12, h31b]
    have hrc : ∀ l, l < w → rc' (c l) = rc (c l) := fun l hl => (p7 (c l) (hcoc l hl)).2.1
    refine ⟨z_srt_put o1 (fun hc => o2 hc b hbw hbt) hoo p8 p9 hlast, fun _ l hl ht => ?_, fun l hl => by rw [hrc l hl]; exact o3 l hl⟩
    rw [hlast, hrc l hl]
    by_cases e : l = b
    · subst e
      rw [z_s1a] at ht ⊢
      exact o3 l hl (t l) ht
    · rw [z_s1b _ _ e] at ht ⊢
      obtain ⟨-, -, hbest⟩ := z_FT_best hw0 hF
      have hz := (hbest l hl).resolve_left e
      obtain ⟨-, -, -, -, l30, -⟩ := hL l hl
      obtain ⟨l30, l31⟩ := l30 ht
      rw [← l31, ← h31b]
      unfold z_it at hz
      rw [x33] at hz
      exact z_l4_ah (by rw [l30, h30b]) hz
  refine ⟨r, SX', SM', pg', rc', lo2, hi', fc', oo', cn', fun m => ?_, fun m => ?_, z_keep_trans (z_keep_mono k4 (by decide) (by decide)) (z_keep_mono p3 (by decide) (by decide)), z_keep_trans (z_keep_mono t2 (by decide) (by decide)) (z_keep_mono p4 (by decide) (by decide)), fun i hi => ?_, p6, fun c' hc' => ⟨(p7 c' hc').1, (p7 c' hc').2.1, (p7 c' hc').2.2, s5 c'⟩, p8, p9, p10, hrecs, ?_⟩
  · rw [f_X5_mergeRuns_28, if_neg (nI_ge hd (by omega)), zx_winner hok hw0 hwT x32 hF, es_bd_s, zx_keyOf hok hwT x32 hbw, es_bd_s, zx_tagOf hok hwT x32 hbw, es_bd_s]
    refine (s1 (fun S => f_X5_mergeRuns_102 (es_NX P R) z_fu (fun x3 x4 S => f_X5_mergeRuns_28 (es_NX P R) z_fu m x3 x4 S) (nI N) (nI d) (nI b) (SX.2 31 b) (SX.2 32 b) S)).trans ?_
    unfold f_X5_mergeRuns_102
    rw [e1, es_bd_s, f1, es_bd_s, p1, es_bd_s, z_lt, nI_1]
  · rw [t1 m]
    unfold f_X8_merge_167
    rw [p2, es_bd_s]
  · obtain ⟨y1, y2⟩ := p5 i hi
    rw [y1, y2, t2.2 4 (by decide), t2.2 5 (by decide)]
    exact ⟨rfl, rfl⟩
  · rcases p13 with ⟨rfl, hfull⟩ | ⟨rfl, hO', hac'⟩
    · exact Or.inl ⟨rfl, hfull⟩
    · refine Or.inr ⟨rfl, b', p6, hO', hac', ⟨(p3.1 7 (by decide)).trans ((k4.1 7 (by decide)).trans x7), (p3.1 32 (by decide)).trans ((k4.1 32 (by decide)).trans x32), (p3.1 33 (by decide)).trans ((k4.1 33 (by decide)).trans x33), (p4.1 13 (by decide)).trans ((t2.1 13 (by decide)).trans m13), (p4.1 14 (by decide)).trans ((t2.1 14 (by decide)).trans m14), ?_⟩, fun l hl => ?_, hrecs, z_FT_same f3 (p3.1 33 (by decide)) (p3.2 30 (by decide)) (p3.2 31 (by decide)) (p3.2 32 (by decide)) (p3.2 33 (by decide)) (p3.2 34 (by decide)), p11, hMO'⟩
      · rw [p4.1 3 (by decide), p3.1 22 (by decide), k24.1 22 (by decide)]; exact hrd.2.1
      · obtain ⟨y1, y2, y3⟩ := p7 (c l) (hcoc l hl)
        have same24 : (SX'.2 26 l = S2.2 26 l ∧ SX'.2 27 l = S2.2 27 l ∧ SX'.2 28 l = S2.2 28 l ∧ SX'.2 29 l = S2.2 29 l) ∧ ∀ s, s < R → SX'.2 24 (l * R + s) = S2.2 24 (l * R + s) ∧ SX'.2 25 (l * R + s) = S2.2 25 (l * R + s) := by
          rw [p3.2 24 (by decide), p3.2 25 (by decide), p3.2 26 (by decide), p3.2 27 (by decide), p3.2 28 (by decide), p3.2 29 (by decide), k24.2 24 (by decide), k24.2 25 (by decide), k24.2 26 (by decide), k24.2 27 (by decide), k24.2 28 (by decide), k24.2 29 (by decide)]
          exact ⟨⟨rfl, rfl, rfl, rfl⟩, fun _ _ => ⟨rfl, rfl⟩⟩
        have q30 : SX'.2 30 = S3.2 30 := by rw [p3.2 30 (by decide), f2.2 30 (by decide)]
        have q31 : SX'.2 31 = S3.2 31 := by rw [p3.2 31 (by decide), f2.2 31 (by decide)]
        have q32 : SX'.2 32 = S3.2 32 := by rw [p3.2 32 (by decide), f2.2 32 (by decide)]
        have q33 : SX'.2 33 = S3.2 33 := by rw [p3.2 33 (by decide), f2.2 33 (by decide)]
        by_cases e : l = b
        · subst e
          rw [z_s1a]
          unfold z_LN
          rw [y1, y2, y3, q30, q31, q32, q33]
          obtain ⟨⟨w26, w27, w28, w29⟩, w24⟩ := same24
          exact ⟨⟨st, en, z_lane_keep s6 w26 w27 w28 w29 w24, s7, s8, s9⟩, hhib, by omega, e3, e4, e5⟩
        · rw [z_s1b _ _ e]
          obtain ⟨g1, g2, g3, g4⟩ := e6 l e
          obtain ⟨⟨w26, w27, w28, w29⟩, w24⟩ := same24
          obtain ⟨⟨o26, o27, o28, o29⟩, o24⟩ := s10 l e
          refine z_LN_keep (hL l hl) ⟨⟨w26.trans o26, w27.trans o27, w28.trans o28, w29.trans o29⟩, fun s hs => ⟨(w24 s hs).1.trans (o24 s hs).1, (w24 s hs).2.trans (o24 s hs).2⟩⟩ ?_ ?_ ?_ ?_ y1 y2 (s5 (c l) (fun y => e (hinj l b hl hbw y))) y3
          · rw [q30, g1, s2.2 30 (by decide)]
          · rw [q31, g2, s2.2 31 (by decide)]
          · rw [q32, g3, s2.2 32 (by decide)]
          · rw [q33, g4, s2.2 33 (by decide)]
