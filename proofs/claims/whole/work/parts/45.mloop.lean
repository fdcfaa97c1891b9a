/-! ===== merging: the loop ===== -/
def z_sum (f : Nat → Nat) : Nat → Nat
  | 0 => 0
  | w + 1 => z_sum f w + f w
theorem z_sum_congr {f g : Nat → Nat} : ∀ w, (∀ l, l < w → f l = g l) → z_sum f w = z_sum g w
  | 0, _ => rfl
  | w + 1, h => by rw [z_sum, z_sum, z_sum_congr w (fun l hl => h l (by omega)), h w (by omega)]
theorem z_sum_set {f : Nat → Nat} {b : Nat} : ∀ w, b < w → z_sum (z_set1 f b (f b + 1)) w = z_sum f w + 1
  | 0, h => absurd h (by omega)
  | w + 1, h => by
    rw [z_sum, z_sum]
    by_cases e : b = w
    · subst e
      rw [z_s1a, z_sum_congr (f := z_set1 f b (f b + 1)) (g := f) b (fun l hl => z_s1b _ _ (by omega))]
      omega
    · rw [z_sum_set w (by omega), z_s1b _ _ (show w ≠ b by omega)]
      omega
theorem z_sum_le {f g : Nat → Nat} : ∀ w, (∀ l, l < w → f l ≤ g l) → z_sum f w ≤ z_sum g w
  | 0, _ => Nat.le_refl _
  | w + 1, h => by
    have h1 := z_sum_le w (fun l hl => h l (by omega))
    have h2 := h w (by omega)
    rw [z_sum, z_sum]
    omega
theorem z_sum_eq {f g : Nat → Nat} : ∀ w, (∀ l, l < w → f l ≤ g l) → z_sum f w = z_sum g w → ∀ l, l < w → f l = g l
  | 0, _, _, l, hl => absurd hl (by omega)
  | w + 1, h, e, l, hl => by
    have h1 := z_sum_le w (fun l hl => h l (by omega))
    have h2 := h w (by omega)
    rw [z_sum, z_sum] at e
    by_cases el : l = w
    · subst el; omega
    · exact z_sum_eq w (fun l hl => h l (by omega)) (by omega) l (by omega)
/-- what a merge leaves as it was -/
def z_MF (w oc fr hr : Nat) (c : Nat → Nat) (SX0 SM0 : es_St) (pg0 : Nat → Nat → Nat) (rc0 : Nat → Nat → z_Rec) (lo0 hi0 : Nat → Nat) (SX SM : es_St) (pg : Nat → Nat → Nat) (rc : Nat → Nat → z_Rec) (lo hi : Nat → Nat) : Prop :=
  z_keep z_FX z_GX SX0 SX ∧ z_keep z_FM z_GM SM0 SM ∧ (∀ i, (i < fr ∨ (hr ≤ i ∧ i < hr + 8192)) → SM.2 4 i = SM0.2 4 i ∧ SM.2 5 i = SM0.2 5 i) ∧ (∀ c', c' ≠ oc → (∀ l, l < w → c' ≠ c l) → pg c' = pg0 c' ∧ rc c' = rc0 c' ∧ lo c' = lo0 c' ∧ hi c' = hi0 c')
/-- the end of a merge -/
theorem z_close2 {P R oc fr cn fc : Nat} {SX SM : es_St} {pg : Nat → Nat → Nat} {rc : Nat → Nat → z_Rec} {lo hi : Nat → Nat} {oo : Nat → z_Rec} (hok : z_ok P R) (hD : z_DI P R SX pg rc lo hi fc) (hoc : 6 ≤ oc) (ho : z_OUT R SX oc pg rc lo hi oo cn) (hac : z_AC P R fc SX SM) (hcn0 : 0 < cn) (hcn : fr + cn ≤ 16384) :
    ∃ (r : Int32) (SX' SM' : es_St) (pg' : Nat → Nat → Nat) (rc' : Nat → Nat → z_Rec) (hi' : Nat → Nat) (fc' : Nat), (es_bd (f_X4_close (es_NX P R) z_fu SX) fun r11 S12 => es_ck (es_B r11) <| some (r11, S12)) = some (r, SX') ∧ f_X8_merge_191 es_NM z_fu (nI fr) (nI (fr + cn)) SM = some (nI (fr + cn), SM') ∧ z_keep [2, 3, 8, 9, 23, 26] [11, 12, 13, 14] SX SX' ∧ z_keep [2, 4, 7, 8] [] SM SM' ∧ z_DI P R SX' pg' rc' lo hi' fc' ∧ z_oth oc pg pg' rc rc' hi hi' ∧
      ((r = 0 ∧ SM'.1 8 = 1) ∨ (r = 1 ∧ z_AC P R fc' SX' SM' ∧ hi' oc = z_pgs R cn ∧ (∀ j, j < cn → rc' oc j = oo j) ∧ SX'.1 3 = nI (pg' oc 0))) := by
  obtain ⟨m0, m1, m2, m4, m7, m8, m9⟩ := id hac
  obtain ⟨a1, a2, a3, a4⟩ := id hok
  have hfcP := hD.2.2.1.2.1
  have hmod := Nat.mod_lt cn (show R > 0 by omega)
  obtain ⟨b, S1, pg', rc', hi', fc', g1, g2, g3, g4, g5⟩ := zx_close hok hD hoc ho (by omega)
  have hMe : f_X8_merge_191 es_NM z_fu (nI fr) (nI (fr + cn)) SM = if cn % R = 0 then some (nI (fr + cn), SM) else es_bd (f_X8_writes es_NM z_fu SM) (fun _ S10 => some (nI (fr + cn), S10)) := by
    unfold f_X8_merge_191
    rw [m1, es_ck_t (nI_ne0 (by omega) (by omega)), pk_sub (by omega), show fr + cn - fr = cn by omega, pk_rem (by omega) (by omega) (by omega)]
    by_cases e : cn % R = 0
    · rw [if_pos (show nI (cn % R) = 0 by rw [e]; rfl), if_pos e]
    · rw [if_neg (nI_ne0 (by omega) (by omega)), if_neg e, m8, if_neg (by simp)]
  rw [hMe, g1, es_bd_s]
  rcases g5 with ⟨rfl, rfl, e1, e2⟩ | ⟨rfl, e1, e2, e3, ⟨e4, e5, e6, e7, e8⟩ | ⟨e4, e5, e6, e7⟩⟩
  · rw [if_neg e1, zm_writes0 m0 m2, es_bd_s]
    exact ⟨0, S1, _, pg', rc', hi', fc', z_B0, rfl, g2, z_keep_F _ 8 _ (by simp), g3, g4, Or.inl ⟨rfl, by rw [z_F1, if_pos rfl]⟩⟩
  · rw [if_neg e4, zm_writes a2 m0 m2 e5 hfcP, es_bd_s]
    have wk : z_keep [2, 4, 7, 8] [] SM (z_wr P fc SM) := by unfold z_wr; exact z_keep_trans (z_keep_trans (z_keep_F _ 2 _ (by simp)) (z_keep_F _ 4 _ (by simp))) (z_keep_F _ 7 _ (by simp))
    have wf : ∀ j, j ≠ 2 → j ≠ 4 → j ≠ 7 → (z_wr P fc SM).1 j = SM.1 j := fun j x y z => by unfold z_wr; rw [z_F1, if_neg z, z_F1, if_neg y, z_F1, if_neg x]
    refine ⟨1, S1, _, pg', rc', hi', fc', z_B1, rfl, g2, wk, g3, g4, Or.inr ⟨rfl, ⟨?_, ?_, ?_, ?_, ?_, ?_, ?_⟩, e1, e2, e3 hcn0⟩⟩
    · rw [wf 0 (by decide) (by decide) (by decide)]; exact m0
    · rw [wf 1 (by decide) (by decide) (by decide)]; exact m1
    · unfold z_wr; rw [z_F1, if_neg (by decide), z_F1, if_neg (by decide), z_F1, if_pos rfl, e6]; congr 1; omega
    · unfold z_wr; rw [z_F1, if_neg (by decide), z_F1, if_pos rfl, m4, e7]
    · unfold z_wr; rw [z_F1, if_pos rfl, m7, e8]
    · rw [wf 8 (by decide) (by decide) (by decide)]; exact m8
    · rw [e8, e6, show P - (fc - 1) = P - fc + 1 by omega]; exact z_pk_ge _ _
  · rw [if_pos e4]
    refine ⟨1, S1, SM, pg', rc', hi', fc', z_B1, rfl, g2, z_keep_rfl, g3, g4, Or.inr ⟨rfl, ⟨m0, m1, by rw [e5]; exact m2, by rw [e6]; exact m4, by rw [e7]; exact m7, m8, by rw [e7, e5]; exact m9⟩, e1, e2, e3 hcn0⟩⟩
theorem zm_191_full {R fr cn : Nat} {S : es_St} (hR : 1 ≤ R ∧ R ≤ 16) (h1 : S.1 1 = nI R) (h8 : S.1 8 = 1) : f_X8_merge_191 es_NM z_fu (nI fr) (nI (fr + cn)) S = some (nI (fr + cn), S) := by
  unfold f_X8_merge_191
  rw [h1, h8, es_ck_t (nI_ne0 (by omega) (by omega)), if_pos (show ¬ (1 : Int32) = 0 by decide)]
  split <;> rfl
theorem zm_68_full {m : Nat} {x1 x2 x3 x4 x5 x6 : Int32} {S : es_St} (h8 : S.1 8 = 1) : f_X8_merge_68 es_NM z_fu (m + 1) x1 x2 x3 x4 x5 x6 S = f_X8_merge_191 es_NM z_fu x4 x5 S := by
  rw [f_X8_merge_68, h8, if_pos (show ¬ (1 : Int32) = 0 by decide)]
  split <;> rfl
theorem z_mloop {P R w oc fr hr a N : Nat} {md onv : Int32} {c n qs : Nat → Nat} {SX0 SM0 : es_St} {pg0 : Nat → Nat → Nat} {rc0 : Nat → Nat → z_Rec} {lo0 hi0 : Nat → Nat} (hok : z_ok P R) (hw0 : 0 < w) (hw : w ≤ 15) (hinj : ∀ l l', l < w → l' < w → c l = c l' → l = l') (hoc : 6 ≤ oc) (hcoc : ∀ l, l < w → c l ≠ oc) (hhr : hr = 0 ∨ hr = 8192) (hfr : 8192 - hr ≤ fr) (h6 : ∀ l, l < w → SM0.2 6 (a + l) = nI (qs l)) (ha : a + w ≤ 8200) (hN : N = z_sum n w) (hN0 : 0 < N) (hfN : fr + N ≤ 8192 - hr + 8192) :
    ∀ (gap fX fM : Nat) (SX SM : es_St) (pg : Nat → Nat → Nat) (rc : Nat → Nat → z_Rec) (lo hi : Nat → Nat) (fc : Nat) (t : Nat → Nat) (oo : Nat → z_Rec) (cn b : Nat), z_MG P R w oc fr hr md onv c n qs t oo cn b SX SM pg rc lo hi fc → z_MF w oc fr hr c SX0 SM0 pg0 rc0 lo0 hi0 SX SM pg rc lo hi → N - z_sum t w = gap → gap < fX → gap + 1 < fM → cn ≤ z_sum t w → (z_sum t w = 0 ∨ 0 < cn) →
    ∃ (r : Int32) (SX' SM' : es_St) (pg' : Nat → Nat → Nat) (rc' : Nat → Nat → z_Rec) (lo' hi' : Nat → Nat) (fc' cn' : Nat), f_X5_mergeRuns_28 (es_NX P R) z_fu fX (nI N) (nI (z_sum t w)) SX = some (r, SX') ∧ (es_bd (f_X8_leastOf es_NM z_fu SM (nI w)) fun r34 S35 => f_X8_merge_68 es_NM z_fu fM (nI hr) (nI a) (nI w) (nI fr) (nI (fr + cn)) r34 S35) = some (nI (fr + cn'), SM') ∧ z_MF w oc fr hr c SX0 SM0 pg0 rc0 lo0 hi0 SX' SM' pg' rc' lo' hi' ∧ z_DI P R SX' pg' rc' lo' hi' fc' ∧ 0 < cn' ∧ cn' ≤ N ∧
      ((r = 0 ∧ SM'.1 8 = 1) ∨ (r = 1 ∧ z_AC P R fc' SX' SM' ∧ SM'.1 3 = SX'.1 22 ∧ lo' oc = 0 ∧ hi' oc = z_pgs R cn' ∧ (∀ l, l < w → hi' (c l) ≤ lo' (c l)) ∧ SX'.1 3 = nI (pg' oc 0) ∧ SX'.1 4 = nI cn' ∧ (∀ j, j < cn' → (SM'.2 4 (fr + j), SM'.2 5 (fr + j)) = rc' oc j) ∧ z_srt md (rc' oc) cn')) := by
  obtain ⟨a1, a2, a3, a4⟩ := id hok
  intro gap
  induction gap with
  | zero =>
    intro fX fM SX SM pg rc lo hi fc t oo cn b H F hgap hfX hfM hcd hcn0
    obtain ⟨hD, hO, hac, ⟨x7, x32, x33, m13, m14, m3⟩, hL, hM, hF, hoM, hMO⟩ := id H
    have hle : ∀ l, l < w → t l ≤ n l := fun l hl => (hL l hl).2.2.1
    have hsl := z_sum_le w hle
    have hall := z_sum_eq w hle (by omega)
    have hcn : 0 < cn := by omega
    obtain ⟨fX', rfl⟩ : ∃ k, fX = k + 1 := ⟨fX - 1, by omega⟩
    obtain ⟨fM', rfl⟩ : ∃ k, fM = k + 1 := ⟨fM - 1, by omega⟩
    rcases z_mpick hw0 hw hhr H with ⟨-, hpick⟩ | ⟨hb, hbt, -⟩
    · rw [hpick, es_bd_s, f_X8_merge_68, if_pos (by decide), f_X5_mergeRuns_28, if_pos (nI_le (by omega) (by omega))]
      obtain ⟨r, SX', SM', pg', rc', hi', fc', g1, g2, g3, g4, g5, g6, g7⟩ := z_close2 (fr := fr) hok hD hoc hO hac hcn (by omega)
      obtain ⟨F1, F2, F3, F4⟩ := F
      refine ⟨r, SX', SM', pg', rc', lo, hi', fc', cn, g1, g2, ⟨z_keep_trans F1 (z_keep_mono g3 (by decide) (by decide)), z_keep_trans F2 (z_keep_mono g4 (by decide) (by decide)), fun i hi => ?_, fun c' hc1 hc2 => ?_⟩, g5, hcn, by omega, ?_⟩
      · rw [g4.2 4 (by decide), g4.2 5 (by decide)]; exact F3 i hi
      · obtain ⟨y1, y2, y3⟩ := g6 c' hc1
        rw [y1, y2, y3]; exact F4 c' hc1 hc2
      · rcases g7 with ⟨rfl, hfull⟩ | ⟨rfl, k1, k2, k3, k4⟩
        · exact Or.inl ⟨rfl, hfull⟩
        · refine Or.inr ⟨rfl, k1, by rw [g4.1 3 (by decide), g3.1 22 (by decide)]; exact m3, hO.2.2.1, k2, fun l hl => ?_, k4, by rw [g3.1 4 (by decide)]; exact hO.1, fun j hj => ?_, z_srt_congr hMO.1 k3⟩
          · obtain ⟨⟨st, en, q1, q2, q3, q4⟩, q5, -⟩ := hL l hl
            have he := hall l hl
            have hen : en = n l := by
              have := q1.2.2.2.2.2.2.1
              omega
            rw [(g6 (c l) (hcoc l hl)).2.2, q5, q4, hen]
            exact Nat.le_refl _
          · rw [g4.2 4 (by decide), g4.2 5 (by decide), k3 j hj]; exact hoM j hj
    · have := hall b hb; omega
  | succ gap ih =>
    intro fX fM SX SM pg rc lo hi fc t oo cn b H F hgap hfX hfM hcd hcn0
    obtain ⟨hD, hO, hac, ⟨x7, x32, x33, m13, m14, m3⟩, hL, hM, hF, hoM, hMO⟩ := id H
    obtain ⟨F1, F2, F3, F4⟩ := id F
    have hle : ∀ l, l < w → t l ≤ n l := fun l hl => (hL l hl).2.2.1
    have hsl := z_sum_le w hle
    obtain ⟨fX', rfl⟩ : ∃ k, fX = k + 1 := ⟨fX - 1, by omega⟩
    obtain ⟨fM', rfl⟩ : ∃ k, fM = k + 2 := ⟨fM - 2, by omega⟩
    rcases z_mpick hw0 hw hhr H with ⟨hall, -⟩ | ⟨hb, hbt, hpick⟩
    · have := z_sum_congr w hall; omega
    · obtain ⟨r, SX1, SM1, pg1, rc1, lo1, hi1, fc1, oo1, cn1, g1, g2, g3, g4, g5, g6, g7, g8, g9, g10, g11, g12⟩ := z_mturn (a := a) (d := z_sum t w) (N := N) hok hw0 hw hinj hoc hcoc hhr hfr H hb hbt (fun l hl => by rw [F2.2 6 (by decide)]; exact h6 l hl) ha (by omega) (by omega) (by omega)
      have F' : z_MF w oc fr hr c SX0 SM0 pg0 rc0 lo0 hi0 SX1 SM1 pg1 rc1 lo1 hi1 := ⟨z_keep_trans F1 g3, z_keep_trans F2 g4, fun i hi => by
        obtain ⟨y1, y2⟩ := g5 i (by omega)
        rw [y1, y2]; exact F3 i hi, fun c' hc1 hc2 => by
        obtain ⟨y1, y2, y3, y4⟩ := g7 c' hc1
        rw [y1, y2, y3, y4 (hc2 b hb)]; exact F4 c' hc1 hc2⟩
      have hs := z_sum_set (f := t) w hb
      rw [hpick, es_bd_s, g1 fX', g2 (fM' + 1)]
      rcases g12 with ⟨rfl, hfull⟩ | ⟨rfl, b', H'⟩
      · obtain ⟨q, e1, -⟩ := zm_leastOf (w := w) (md := md) (S := SM1) (n := n) (t := z_set1 t b (t b + 1)) (qs := fun l => hr + qs l) (rr := fun l => rc1 (c l)) hw ((g4.1 13 (by decide)).trans m13) (fun l hl => by
          obtain ⟨u1, u2, u3, u4⟩ := g11 l hl
          refine ⟨u1, u2, by omega, ?_, u4⟩
          by_cases e : l = b
          · rw [e, z_s1a]; omega
          · rw [z_s1b _ _ e]; exact hle l hl)
        rw [e1, es_bd_s, zm_68_full hfull, zm_191_full ⟨a3, a4⟩ (by rw [g4.1 1 (by decide)]; exact hac.2.1) hfull, if_neg (by simp)]
        exact ⟨0, SX1, SM1, pg1, rc1, lo1, hi1, fc1, cn1, rfl, rfl, F', g6, g10, by omega, Or.inl ⟨rfl, hfull⟩⟩
      · rw [if_pos (by decide), ← hs]
        exact ih fX' (fM' + 1) SX1 SM1 pg1 rc1 lo1 hi1 fc1 _ oo1 cn1 b' H' F' (by omega) (by omega) (by omega) (by omega) (Or.inr g10)
