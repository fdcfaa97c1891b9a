/-! ===== a record is put out, by both ===== -/
def z_AC (P R fc : Nat) (SX SM : es_St) : Prop := SM.1 0 = nI P ∧ SM.1 1 = nI R ∧ SM.1 2 = nI (P - fc) ∧ SM.1 4 = SX.1 23 ∧ SM.1 7 = SX.1 26 ∧ SM.1 8 = 0 ∧ nI (P - fc) ≤ SX.1 26
theorem z_pk_ge (u : Nat) (x : Int32) : nI u ≤ z_pk u x := by
  unfold z_pk
  split
  · assumption
  · exact Int32.le_refl _
theorem zm_puts_dup {S : es_St} {a fr : Nat} {k t : Int32} (h14 : ¬ S.1 14 = 0) (hlt : fr < a) (ha : a < 16384) (e4 : S.2 4 (a - 1) = k) (e5 : S.2 5 (a - 1) = t) : f_X8_puts es_NM z_fu S (nI a) (nI fr) k t = some (nI a, S) := by
  unfold f_X8_puts
  rw [if_neg h14, if_neg (nI_ge hlt (by omega)), show nI a - 1 = nI (a - 1) from pk_sub (b := 1) (by omega), es_ck_t (vp_in_nI (N := es_NM 4) (show a - 1 < 16384 by omega) (by decide)), z_lt, z_rd _ _ _ (by omega), e4, if_neg (by simp), es_ck_t (vp_in_nI (N := es_NM 5) (show a - 1 < 16384 by omega) (by decide)), z_lt, z_rd _ _ _ (by omega), e5, if_neg (by simp)]
theorem zm_puts_new {S : es_St} {a fr : Nat} {k t : Int32} (hle : fr ≤ a) (ha : a < 16384) (h : S.1 14 = 0 ∨ a = fr ∨ ¬ (k, t) = (S.2 4 (a - 1), S.2 5 (a - 1))) : f_X8_puts es_NM z_fu S (nI a) (nI fr) k t = f_X8_puts_39 es_NM z_fu (nI a) (nI fr) k t S := by
  unfold f_X8_puts
  by_cases h1 : S.1 14 = 0
  · rw [if_pos h1]
  · rw [if_neg h1]
    by_cases h2 : a = fr
    · rw [if_pos (by rw [h2]; exact nI_le (Nat.le_refl _) (by omega))]
    · rw [if_neg (nI_ge (by omega) (by omega)), show nI a - 1 = nI (a - 1) from pk_sub (b := 1) (by omega), es_ck_t (vp_in_nI (N := es_NM 4) (show a - 1 < 16384 by omega) (by decide)), z_lt, z_rd _ _ _ (by omega)]
      by_cases h3 : S.2 4 (a - 1) = k
      · rw [if_neg (by simpa using h3), es_ck_t (vp_in_nI (N := es_NM 5) (show a - 1 < 16384 by omega) (by decide)), z_lt, z_rd _ _ _ (by omega)]
        by_cases h4 : S.2 5 (a - 1) = t
        · exact absurd (by rw [h3, h4]) ((h.resolve_left h1).resolve_left h2)
        · rw [if_pos h4]
      · rw [if_pos h3]
theorem zm_puts_39 {R : Nat} {S : es_St} {cn fr : Nat} {k t : Int32} (hR : 1 ≤ R ∧ R ≤ 16) (h1 : S.1 1 = nI R) (ha : fr + cn < 16384) : f_X8_puts_39 es_NM z_fu (nI (fr + cn)) (nI fr) k t S = if (cn + 1) % R = 0 then es_bd (f_X8_writes es_NM z_fu (es_wr (es_wr S 4 (nI (fr + cn)) k) 5 (nI (fr + cn)) t)) (fun _ S9 => some (nI (fr + (cn + 1)), S9)) else some (nI (fr + (cn + 1)), es_wr (es_wr S 4 (nI (fr + cn)) k) 5 (nI (fr + cn)) t) := by
  unfold f_X8_puts_39
  have hm := Nat.mod_lt (cn + 1) (show R > 0 by omega)
  rw [es_ck_t (vp_in_nI (N := es_NM 4) (show fr + cn < 16384 by omega) (by decide)), z_lt, es_ck_t (vp_in_nI (N := es_NM 5) (show fr + cn < 16384 by omega) (by decide)), z_lt, z_w1, z_w1, h1, es_ck_t (nI_ne0 (by omega) (by omega)), nI_1, pk_sub (by omega), show fr + cn + 1 - fr = cn + 1 by omega, pk_rem (by omega) (by omega) (by omega)]
  by_cases e : (cn + 1) % R = 0
  · rw [if_neg (show ¬ ¬ nI ((cn + 1) % R) = 0 by rw [e]; decide), if_pos e]
    rfl
  · rw [if_pos (nI_ne0 (by omega) (by omega)), if_neg e]
    rfl
theorem z_put2 {P R oc fr cn fc : Nat} {SX SM : es_St} {k t onv : Int32} {pg : Nat → Nat → Nat} {rc : Nat → Nat → z_Rec} {lo hi : Nat → Nat} {oo : Nat → z_Rec} (hok : z_ok P R) (hD : z_DI P R SX pg rc lo hi fc) (hoc : 6 ≤ oc) (ho : z_OUT R SX oc pg rc lo hi oo cn) (hac : z_AC P R fc SX SM) (h7 : SX.1 7 = onv) (h14 : SM.1 14 = onv) (hfr : fr + cn < 16384) (hm : ∀ j, j < cn → (SM.2 4 (fr + j), SM.2 5 (fr + j)) = oo j) :
    ∃ (b : Int32) (SX' SM' : es_St) (pg' : Nat → Nat → Nat) (rc' : Nat → Nat → z_Rec) (hi' : Nat → Nat) (fc' : Nat) (oo' : Nat → z_Rec) (cn' : Nat), f_X4_put (es_NX P R) z_fu SX k t = some (b, SX') ∧ f_X8_puts es_NM z_fu SM (nI (fr + cn)) (nI fr) k t = some (nI (fr + cn'), SM') ∧ z_keep [2, 3, 4, 5, 6, 8, 9, 23, 26] [11, 12, 13, 14, 16, 17] SX SX' ∧ z_keep [2, 4, 7, 8] [4, 5] SM SM' ∧ (∀ i, i ≠ fr + cn → SM'.2 4 i = SM.2 4 i ∧ SM'.2 5 i = SM.2 5 i) ∧ z_DI P R SX' pg' rc' lo hi' fc' ∧ z_oth oc pg pg' rc rc' hi hi' ∧ cn ≤ cn' ∧ cn' ≤ cn + 1 ∧ 0 < cn' ∧ (∀ j, j < cn' → (SM'.2 4 (fr + j), SM'.2 5 (fr + j)) = oo' j) ∧ oo' (cn' - 1) = (k, t) ∧
      ((b = 0 ∧ SM'.1 8 = 1) ∨ (b = 1 ∧ z_OUT R SX' oc pg' rc' lo hi' oo' cn' ∧ z_AC P R fc' SX' SM')) := by
  obtain ⟨m0, m1, m2, m4, m7, m8, m9⟩ := id hac
  obtain ⟨o4, o8, olo, ohi, o3, o9, ob, orc, ol⟩ := id ho
  obtain ⟨a1, a2, a3, a4⟩ := id hok
  have hfcP := hD.2.2.1.2.1
  by_cases hdup : ¬ onv = 0 ∧ 0 < cn ∧ oo (cn - 1) = (k, t)
  · -- there already
    obtain ⟨d1, d2, d3⟩ := hdup
    have hl := ol d2
    rw [d3] at hl
    have hm1 := hm (cn - 1) (by omega)
    rw [d3] at hm1
    obtain ⟨hk, ht⟩ := Prod.mk.inj hm1
    rw [show fr + (cn - 1) = fr + cn - 1 by omega] at hk ht
    exact ⟨1, SX, SM, pg, rc, hi, fc, oo, cn, zx_put_dup (by rw [h7]; exact d1) o4 d2 (by omega) hl.1 hl.2, zm_puts_dup (by rw [h14]; exact d1) (by omega) hfr hk ht, z_keep_rfl, z_keep_rfl, fun _ _ => ⟨rfl, rfl⟩, hD, fun _ _ => ⟨rfl, rfl, rfl⟩, Nat.le_refl _, by omega, d2, hm, d3, Or.inr ⟨rfl, ho, hac⟩⟩
  · -- a new one
    have hx : f_X4_put (es_NX P R) z_fu SX k t = f_X4_put_32 (es_NX P R) z_fu k t SX := by
      refine zx_put_new ?_
      rw [h7, o4]
      by_cases d1 : onv = 0
      · exact Or.inl d1
      · by_cases d2 : 0 < cn
        · refine Or.inr (Or.inr (fun y => hdup ⟨d1, d2, ?_⟩))
          have hl := ol d2
          rw [hl.1, hl.2] at y
          exact y.symm
        · exact Or.inr (Or.inl (show nI cn ≤ 0 from nI_le (b := 0) (by omega) (by decide)))
    have hmm : f_X8_puts es_NM z_fu SM (nI (fr + cn)) (nI fr) k t = f_X8_puts_39 es_NM z_fu (nI (fr + cn)) (nI fr) k t SM := by
      refine zm_puts_new (by omega) hfr ?_
      rw [h14]
      by_cases d1 : onv = 0
      · exact Or.inl d1
      · by_cases d2 : 0 < cn
        · refine Or.inr (Or.inr (fun y => hdup ⟨d1, d2, ?_⟩))
          have := hm (cn - 1) (by omega)
          rw [show fr + (cn - 1) = fr + cn - 1 by omega] at this
          rw [← this]; exact y.symm
        · exact Or.inr (Or.inl (by omega))
    obtain ⟨SM1, hSM1⟩ : ∃ SM1 : es_St, SM1 = es_wr (es_wr SM 4 (nI (fr + cn)) k) 5 (nI (fr + cn)) t := ⟨_, rfl⟩
    have f1 : SM1.1 = SM.1 := by rw [hSM1, z_w1, z_w1]
    have h31 : fr + cn < 2 ^ 31 := by omega
    have b4 : ∀ i, SM1.2 4 i = if i = fr + cn then k else SM.2 4 i := fun i => by rw [hSM1, z_w2b _ _ _ (by decide), z_w2a _ _ _ _ h31]
    have b5 : ∀ i, SM1.2 5 i = if i = fr + cn then t else SM.2 5 i := fun i => by rw [hSM1, z_w2a _ _ _ _ h31, z_w2b _ _ _ (by decide)]
    have bk : z_keep [2, 4, 7, 8] [4, 5] SM SM1 := by rw [hSM1]; exact z_keep_trans (z_keep_w _ 4 _ _ (by simp)) (z_keep_w _ 5 _ _ (by simp))
    have hne : ∀ i, i ≠ fr + cn → SM1.2 4 i = SM.2 4 i ∧ SM1.2 5 i = SM.2 5 i := fun i hi' => by rw [b4, b5, if_neg hi', if_neg hi']; exact ⟨rfl, rfl⟩
    have hrec : ∀ j, j < cn + 1 → (SM1.2 4 (fr + j), SM1.2 5 (fr + j)) = (fun j => if j = cn then (k, t) else oo j) j := fun j hj => by
      dsimp only
      rw [b4, b5]
      by_cases e : j = cn
      · rw [if_pos (by omega), if_pos (by omega), if_pos e]
      · rw [if_neg (by omega), if_neg (by omega), if_neg e]; exact hm j (by omega)
    obtain ⟨b, SX', pg', rc', hi', fc', g1, g2, g3, g4, g5⟩ := zx_put_32 (k := k) (t := t) hok hD hoc ho (by omega)
    rw [hx, hmm, zm_puts_39 ⟨a3, a4⟩ m1 hfr, ← hSM1]
    rcases g5 with ⟨rfl, rfl, e1, e2, e3⟩ | ⟨rfl, hout, ⟨e1, e2, e3, e4, e5⟩ | ⟨e1, e2, e3, e4⟩⟩
    · rw [if_pos e1, zm_writes0 (by rw [f1]; exact m0) (by rw [f1]; exact m2), es_bd_s]
      refine ⟨0, SX', es_F SM1 8 1, pg', rc', hi', fc', (fun j => if j = cn then (k, t) else oo j), cn + 1, g1, rfl, g2, z_keep_trans bk (z_keep_F _ 8 _ (by simp)), fun i hi' => by rw [z_F2]; exact hne i hi', g3, g4, by omega, Nat.le_refl _, by omega, fun j hj => by rw [z_F2]; exact hrec j hj, if_pos (Nat.add_sub_cancel cn 1), Or.inl ⟨rfl, by rw [z_F1, if_pos rfl]⟩⟩
    · rw [if_pos e1, zm_writes a2 (by rw [f1]; exact m0) (by rw [f1]; exact m2) e2 hfcP, es_bd_s]
      have w2 : (z_wr P fc SM1).2 = SM1.2 := by unfold z_wr; rw [z_F2, z_F2, z_F2]
      have wf : ∀ j, j ≠ 2 → j ≠ 4 → j ≠ 7 → (z_wr P fc SM1).1 j = SM.1 j := fun j x y z => by unfold z_wr; rw [z_F1, if_neg z, z_F1, if_neg y, z_F1, if_neg x, f1]
      refine ⟨1, SX', z_wr P fc SM1, pg', rc', hi', fc', (fun j => if j = cn then (k, t) else oo j), cn + 1, g1, rfl, g2, ⟨fun j hj => wf j (by simp at hj; omega) (by simp at hj; omega) (by simp at hj; omega), fun q hq => by rw [w2]; exact bk.2 q hq⟩, fun i hi' => by rw [w2]; exact hne i hi', g3, g4, by omega, Nat.le_refl _, by omega, fun j hj => by rw [w2]; exact hrec j hj, if_pos (Nat.add_sub_cancel cn 1), Or.inr ⟨rfl, hout, ?_, ?_, ?_, ?_, ?_, ?_, ?_⟩⟩
      · rw [wf 0 (by decide) (by decide) (by decide)]; exact m0
      · rw [wf 1 (by decide) (by decide) (by decide)]; exact m1
      · unfold z_wr; rw [z_F1, if_neg (by decide), z_F1, if_neg (by decide), z_F1, if_pos rfl, e3]; congr 1; omega
      · unfold z_wr; rw [z_F1, if_neg (by decide), z_F1, if_pos rfl, f1, m4, e4]
      · unfold z_wr; rw [z_F1, if_pos rfl, f1, m7, e5]
      · rw [wf 8 (by decide) (by decide) (by decide)]; exact m8
      · rw [e5, e3, show P - (fc - 1) = P - fc + 1 by omega]; exact z_pk_ge _ _
    · rw [if_neg e1]
      refine ⟨1, SX', SM1, pg', rc', hi', fc', (fun j => if j = cn then (k, t) else oo j), cn + 1, g1, rfl, g2, bk, hne, g3, g4, by omega, Nat.le_refl _, by omega, hrec, if_pos (Nat.add_sub_cancel cn 1), Or.inr ⟨rfl, hout, ?_, ?_, ?_, ?_, ?_, ?_, ?_⟩⟩
      · rw [f1]; exact m0
      · rw [f1]; exact m1
      · rw [f1, e2]; exact m2
      · rw [f1, e3]; exact m4
      · rw [f1, e4]; exact m7
      · rw [f1]; exact m8
      · rw [e4, e2]; exact m9

/-! ===== a run ends, with both ===== -/
theorem zx_addRun {P R : Nat} {S : es_St} {x : Int32} {r : Nat} (hok : z_ok P R) (h24 : S.1 24 = nI r) (hr : r < 2 * P) : f_X6_addRun (es_NX P R) z_fu S x = some (0, es_F (es_wr S 22 (nI r) x) 24 (nI (r + 1))) := by
  have hPb := hok.2.1
  unfold f_X6_addRun
  rw [h24, if_neg (nI_pos (by omega)), zN22, if_neg (nI_ge hr (by omega)), z_ck hr (by omega), z_lt, z_w1, h24, nI_1, z_lt, z_lt]
theorem zx_keepRun {P R : Nat} {S : es_St} {x y : Int32} {r : Nat} (hok : z_ok P R) (hr : r < P) : f_X5_keepRun (es_NX P R) z_fu S (nI r) x y = some (0, es_wr (es_wr S 18 (nI r) x) 19 (nI r) y) := by
  have hPb := hok.2.1
  unfold f_X5_keepRun
  rw [if_neg (nI_pos (by omega)), zN18, if_neg (nI_ge hr (by omega)), z_ck hr (by omega), z_lt, zN19, z_ck hr (by omega), z_lt]
/-- the reference's end of a run -/
theorem zm_endsRun_25 {S : es_St} {at' cn fi co : Nat} (h11 : S.1 11 = nI fi) (h10 : S.1 10 = nI co) (hfi : fi < 16400) (hco : co + 1 < 8200) : f_X8_endsRun_25 es_NM z_fu (nI at') (nI cn) S = some (nI at', es_wr (es_F (es_F (es_wr S 7 (nI fi) (nI cn)) 11 (nI (fi + 1))) 10 (nI (co + 1))) 6 (nI (co + 1)) (nI at')) := by
  unfold f_X8_endsRun_25
  rw [h11, es_ck_t (vp_in_nI (N := es_NM 7) (show fi < 16400 by omega) (by decide)), z_lt, z_w1, h11, nI_1, z_lt, z_lt]
  have e10 : (es_F (es_wr S 7 (nI fi) (nI cn)) 11 (nI (fi + 1))).1 10 = nI co := by rw [z_F1, if_neg (by decide), z_w1, h10]
  rw [e10, nI_1, z_lt, z_lt, z_F1, if_pos rfl, es_ck_t (vp_in_nI (N := es_NM 6) (show co + 1 < 8200 by omega) (by decide)), z_lt]
/-- as many runs as pages, at the most -/
theorem z_runs_le {P R ba k : Nat} {S : es_St} {pg : Nat → Nat → Nat} {rc : Nat → Nat → z_Rec} {lo hi : Nat → Nat} {fc : Nat} (hD : z_DI P R S pg rc lo hi fc) (hl : ∀ i, i < k → lo (ba + 2 * i) = 0 ∧ 0 < hi (ba + 2 * i)) : k ≤ P := by
  obtain ⟨-, -, -, c1, c2, -⟩ := hD
  have := z_pig (Q := fun _ => True) P k (fun i => pg (ba + 2 * i) 0) (fun i j a b e => by
    have h1 := hl i a
    have h2 := hl j b
    have := (c2 (ba + 2 * i) 0 (ba + 2 * j) 0 (by omega) h1.2 (by omega) h2.2 e).1
    omega) (fun i a => ⟨(c1 (ba + 2 * i) 0 (by have := hl i a; omega) (hl i a).2).1, trivial⟩)
  have h2 := z_cnt_le (fun _ => True) P
  omega
theorem z_end2 {P R oc fr cn fc ru rb ba : Nat} {SX SM : es_St} {pg : Nat → Nat → Nat} {rc : Nat → Nat → z_Rec} {lo hi : Nat → Nat} {oo : Nat → z_Rec} (hok : z_ok P R) (hD : z_DI P R SX pg rc lo hi fc) (hoc : 6 ≤ oc) (ho : z_OUT R SX oc pg rc lo hi oo cn) (hac : z_AC P R fc SX SM) (hcn0 : 0 < cn) (hcn : fr + cn ≤ 8192) (h12 : SX.1 12 = nI ru) (h24 : SX.1 24 = nI (rb + ru)) (hru : ru ≤ P) (hrb : rb ≤ P) (hoce : oc = ba + 2 * ru) (hlive : ∀ i, i < ru → lo (ba + 2 * i) = 0 ∧ 0 < hi (ba + 2 * i)) (h10 : SM.1 10 = nI ru) (h11 : SM.1 11 = nI (rb + ru)) (h6 : SM.2 6 ru = nI fr) :
    ∃ (b : Int32) (SX' SM' : es_St) (pg' : Nat → Nat → Nat) (rc' : Nat → Nat → z_Rec) (hi' : Nat → Nat) (fc' : Nat), f_X5_endRun (es_NX P R) z_fu SX = some (b, SX') ∧ f_X8_endsRun es_NM z_fu SM (nI (fr + cn)) = some (nI (fr + cn), SM') ∧ z_keep [2, 3, 8, 9, 12, 23, 24, 26] [11, 12, 13, 14, 18, 19, 22] SX SX' ∧ z_keep [2, 4, 7, 8, 10, 11] [6, 7] SM SM' ∧ z_DI P R SX' pg' rc' lo hi' fc' ∧ z_oth oc pg pg' rc rc' hi hi' ∧ SM'.1 10 = nI (ru + 1) ∧ SM'.1 11 = nI (rb + ru + 1) ∧ (∀ i, SM'.2 6 i = if i = ru + 1 then nI (fr + cn) else SM.2 6 i) ∧ (∀ i, SM'.2 7 i = if i = rb + ru then nI cn else SM.2 7 i) ∧
      ((b = 0 ∧ SM'.1 8 = 1) ∨ (b = 1 ∧ z_AC P R fc' SX' SM' ∧ hi' oc = z_pgs R cn ∧ (∀ j, j < cn → rc' oc j = oo j) ∧ SX'.1 12 = nI (ru + 1) ∧ SX'.1 24 = nI (rb + ru + 1) ∧ (∀ i, SX'.2 18 i = if i = ru then nI (pg' oc 0) else SX.2 18 i) ∧ (∀ i, SX'.2 19 i = if i = ru then nI cn else SX.2 19 i) ∧ (∀ i, SX'.2 22 i = if i = rb + ru then nI cn else SX.2 22 i))) := by
  obtain ⟨m0, m1, m2, m4, m7, m8, m9⟩ := id hac
  obtain ⟨a1, a2, a3, a4⟩ := id hok
  have hfcP := hD.2.2.1.2.1
  have hmod := Nat.mod_lt cn (show R > 0 by omega)
  obtain ⟨b, S1, pg', rc', hi', fc', g1, g2, g3, g4, g5⟩ := zx_close hok hD hoc ho (by omega)
  -- the reference, behind its write
  have hM : ∀ S2 : es_St, S2.1 10 = nI ru → S2.1 11 = nI (rb + ru) → f_X8_endsRun_25 es_NM z_fu (nI (fr + cn)) (nI cn) S2 = some (nI (fr + cn), es_wr (es_F (es_F (es_wr S2 7 (nI (rb + ru)) (nI cn)) 11 (nI (rb + ru + 1))) 10 (nI (ru + 1))) 6 (nI (ru + 1)) (nI (fr + cn))) := fun S2 x y => zm_endsRun_25 y x (by omega) (by omega)
  have hMe : f_X8_endsRun es_NM z_fu SM (nI (fr + cn)) = if cn % R = 0 then f_X8_endsRun_25 es_NM z_fu (nI (fr + cn)) (nI cn) SM else es_bd (f_X8_writes es_NM z_fu SM) (fun _ S15 => f_X8_endsRun_25 es_NM z_fu (nI (fr + cn)) (nI cn) S15) := by
    unfold f_X8_endsRun
    rw [h10, es_ck_t (vp_in_nI (N := es_NM 6) (show ru < 8200 by omega) (by decide)), z_lt, z_rd _ _ _ (by omega), h6, pk_sub (by omega), show fr + cn - fr = cn by omega, z_lt, m1, es_ck_t (nI_ne0 (by omega) (by omega)), pk_rem (by omega) (by omega) (by omega)]
    by_cases e : cn % R = 0
    · rw [if_pos (show nI (cn % R) = 0 by rw [e]; rfl), if_pos e]
    · rw [if_neg (nI_ne0 (by omega) (by omega)), if_neg e]
  -- what is the same in all cases of the reference
  have fin : ∀ S2 : es_St, z_keep [2, 4, 7, 8] [] SM S2 → ∀ S3 : es_St, S3 = es_wr (es_F (es_F (es_wr S2 7 (nI (rb + ru)) (nI cn)) 11 (nI (rb + ru + 1))) 10 (nI (ru + 1))) 6 (nI (ru + 1)) (nI (fr + cn)) → z_keep [2, 4, 7, 8, 10, 11] [6, 7] SM S3 ∧ S3.1 10 = nI (ru + 1) ∧ S3.1 11 = nI (rb + ru + 1) ∧ (∀ i, S3.2 6 i = if i = ru + 1 then nI (fr + cn) else SM.2 6 i) ∧ (∀ i, S3.2 7 i = if i = rb + ru then nI cn else SM.2 7 i) ∧ (∀ j, j ≠ 10 → j ≠ 11 → S3.1 j = S2.1 j) := fun S2 hk S3 hS3 => by
    have fk : ∀ j, j ≠ 10 → j ≠ 11 → S3.1 j = S2.1 j := fun j x y => by rw [hS3, z_w1, z_F1, if_neg x, z_F1, if_neg y, z_w1]
    refine ⟨⟨fun j hj => ?_, fun q hq => ?_⟩, ?_, ?_, fun i => ?_, fun i => ?_, fk⟩
    · simp only [List.mem_cons, List.not_mem_nil, or_false, not_or] at hj
      rw [fk j (by omega) (by omega)]; exact hk.1 j (by simp; omega)
    · simp only [List.mem_cons, List.not_mem_nil, or_false, not_or] at hq
      rw [hS3, z_w2b _ _ _ (by omega), z_F2, z_F2, z_w2b _ _ _ (by omega)]; exact hk.2 q (by simp)
    · rw [hS3, z_w1, z_F1, if_pos rfl]
    · rw [hS3, z_w1, z_F1, if_neg (by decide), z_F1, if_pos rfl]
    · rw [hS3, z_w2a _ _ _ _ (by omega), z_F2, z_F2, z_w2b _ _ _ (by decide), hk.2 6 (by simp)]
    · rw [hS3, z_w2b _ _ _ (by decide), z_F2, z_F2, z_w2a _ _ _ _ (by omega), hk.2 7 (by simp)]
  -- the class, behind its page
  have hruP : hi' oc = z_pgs R cn → ru < P := fun hh => by
    refine z_runs_le (k := ru + 1) (ba := ba) g3 (fun i hi' => ?_)
    by_cases e : i = ru
    · rw [e, ← hoce]
      refine ⟨ho.2.2.1, ?_⟩
      rw [hh]
      have := z_pgs_lt (R := R) (n := cn) (j := 0) (by omega) hcn0
      rw [Nat.zero_div] at this
      exact this
    · rw [(g4 (ba + 2 * i) (by omega)).2.2]
      exact hlive i (by omega)
  have hX : b = 1 → hi' oc = z_pgs R cn → (0 < cn → S1.1 3 = nI (pg' oc 0)) → f_X5_endRun (es_NX P R) z_fu SX = some (1, es_F (es_wr (es_wr (es_F (es_wr S1 22 (nI (rb + ru)) (nI cn)) 24 (nI (rb + ru + 1))) 18 (nI ru) (nI (pg' oc 0))) 19 (nI ru) (nI cn)) 12 (nI (ru + 1))) := fun hb hh h3 => by
    subst hb
    have hru2 := hruP hh
    have e4 : S1.1 4 = nI cn := (g2.1 4 (by decide)).trans ho.1
    have q24 : S1.1 24 = nI (rb + ru) := (g2.1 24 (by decide)).trans h24
    unfold f_X5_endRun
    rw [g1, es_bd_s, if_pos (by decide), e4, zx_addRun hok q24 (by omega), es_bd_s]
    have p12 : (es_F (es_wr S1 22 (nI (rb + ru)) (nI cn)) 24 (nI (rb + ru + 1))).1 12 = nI ru := by rw [z_F1, if_neg (by decide), z_w1, g2.1 12 (by decide), h12]
    have p3 : (es_F (es_wr S1 22 (nI (rb + ru)) (nI cn)) 24 (nI (rb + ru + 1))).1 3 = nI (pg' oc 0) := by rw [z_F1, if_neg (by decide), z_w1, h3 hcn0]
    have p4 : (es_F (es_wr S1 22 (nI (rb + ru)) (nI cn)) 24 (nI (rb + ru + 1))).1 4 = nI cn := by rw [z_F1, if_neg (by decide), z_w1, e4]
    rw [p12, p3, p4, zx_keepRun hok hru2, es_bd_s, z_w1, z_w1, p12, nI_1, z_lt, z_lt]
  have finX : ∀ S4 : es_St, S4 = es_F (es_wr (es_wr (es_F (es_wr S1 22 (nI (rb + ru)) (nI cn)) 24 (nI (rb + ru + 1))) 18 (nI ru) (nI (pg' oc 0))) 19 (nI ru) (nI cn)) 12 (nI (ru + 1)) → z_keep [12, 24] [18, 19, 22] S1 S4 ∧ S4.1 12 = nI (ru + 1) ∧ S4.1 24 = nI (rb + ru + 1) ∧ (∀ i, S4.2 18 i = if i = ru then nI (pg' oc 0) else SX.2 18 i) ∧ (∀ i, S4.2 19 i = if i = ru then nI cn else SX.2 19 i) ∧ (∀ i, S4.2 22 i = if i = rb + ru then nI cn else SX.2 22 i) := fun S4 hS4 => by
    refine ⟨?_, ?_, ?_, fun i => ?_, fun i => ?_, fun i => ?_⟩
    · rw [hS4]
      exact z_keep_trans (z_keep_trans (z_keep_trans (z_keep_trans (z_keep_w _ 22 _ _ (by simp)) (z_keep_F _ 24 _ (by simp))) (z_keep_w _ 18 _ _ (by simp))) (z_keep_w _ 19 _ _ (by simp))) (z_keep_F _ 12 _ (by simp))
    · rw [hS4, z_F1, if_pos rfl]
    · rw [hS4, z_F1, if_neg (by decide), z_w1, z_w1, z_F1, if_pos rfl]
    · rw [hS4, z_F2, z_w2b _ _ _ (by decide), z_w2a _ _ _ _ (by omega), z_F2, z_w2b _ _ _ (by decide), g2.2 18 (by decide)]
    · rw [hS4, z_F2, z_w2a _ _ _ _ (by omega), z_w2b _ _ _ (by decide), z_F2, z_w2b _ _ _ (by decide), g2.2 19 (by decide)]
    · rw [hS4, z_F2, z_w2b _ _ _ (by decide), z_w2b _ _ _ (by decide), z_F2, z_w2a _ _ _ _ (by omega), g2.2 22 (by decide)]
  rw [hMe]
  have sameDI : ∀ S4 : es_St, z_keep [12, 24] [18, 19, 22] S1 S4 → z_DI P R S4 pg' rc' lo hi' fc' := fun S4 hk => z_DI_same g3 ⟨hk.1 0 (by decide), hk.1 1 (by decide), hk.1 2 (by decide), hk.2 11 (by decide), hk.2 12 (by decide), hk.2 13 (by decide), hk.2 14 (by decide), hk.2 15 (by decide)⟩
  rcases g5 with ⟨rfl, rfl, e1, e2⟩ | ⟨hb, e1, e2, e3, ⟨e4, e5, e6, e7, e8⟩ | ⟨e4, e5, e6, e7⟩⟩
  · -- full
    rw [if_neg e1, zm_writes0 m0 m2, es_bd_s, hM _ (by rw [z_F1, if_neg (by decide)]; exact h10) (by rw [z_F1, if_neg (by decide)]; exact h11)]
    obtain ⟨k1, k2, k3, k4, k5, k6⟩ := fin (es_F SM 8 1) (z_keep_F _ 8 _ (by simp)) _ rfl
    refine ⟨0, S1, _, pg', rc', hi', fc', ?_, rfl, z_keep_mono g2 (by simp) (by simp), k1, g3, g4, k2, k3, k4, k5, Or.inl ⟨rfl, ?_⟩⟩
    · unfold f_X5_endRun
      rw [g1, es_bd_s, if_neg (by decide)]
    · rw [k6 8 (by decide) (by decide), z_F1, if_pos rfl]
  · rw [if_neg e4, zm_writes a2 m0 m2 e5 hfcP, es_bd_s]
    have wf : ∀ j, j ≠ 2 → j ≠ 4 → j ≠ 7 → (z_wr P fc SM).1 j = SM.1 j := fun j x y z => by unfold z_wr; rw [z_F1, if_neg z, z_F1, if_neg y, z_F1, if_neg x]
    have wk : z_keep [2, 4, 7, 8] [] SM (z_wr P fc SM) := by unfold z_wr; exact z_keep_trans (z_keep_trans (z_keep_F _ 2 _ (by simp)) (z_keep_F _ 4 _ (by simp))) (z_keep_F _ 7 _ (by simp))
    rw [hM _ (by rw [wf 10 (by decide) (by decide) (by decide)]; exact h10) (by rw [wf 11 (by decide) (by decide) (by decide)]; exact h11)]
    obtain ⟨k1, k2, k3, k4, k5, k6⟩ := fin _ wk _ rfl
    obtain ⟨x1, x2, x3, x4, x5, x6⟩ := finX _ rfl
    refine ⟨1, _, _, pg', rc', hi', fc', hX hb e1 e3, rfl, z_keep_trans (z_keep_mono g2 (by simp) (by simp)) (z_keep_mono x1 (by simp) (by simp)), k1, sameDI _ x1, g4, k2, k3, k4, k5, Or.inr ⟨rfl, ⟨?_, ?_, ?_, ?_, ?_, ?_, ?_⟩, e1, e2, x2, x3, x4, x5, x6⟩⟩
    · rw [k6 0 (by decide) (by decide), wf 0 (by decide) (by decide) (by decide)]; exact m0
    · rw [k6 1 (by decide) (by decide), wf 1 (by decide) (by decide) (by decide)]; exact m1
    · rw [k6 2 (by decide) (by decide)]; unfold z_wr; rw [z_F1, if_neg (by decide), z_F1, if_neg (by decide), z_F1, if_pos rfl, e6]; congr 1; omega
    · rw [k6 4 (by decide) (by decide), x1.1 23 (by decide), e7, ← m4]; unfold z_wr; rw [z_F1, if_neg (by decide), z_F1, if_pos rfl]
    · rw [k6 7 (by decide) (by decide), x1.1 26 (by decide), e8, ← m7]; unfold z_wr; rw [z_F1, if_pos rfl]
    · rw [k6 8 (by decide) (by decide), wf 8 (by decide) (by decide) (by decide)]; exact m8
    · rw [x1.1 26 (by decide), e8, e6, show P - (fc - 1) = P - fc + 1 by omega]; exact z_pk_ge _ _
  · rw [if_pos e4, hM SM h10 h11]
    obtain ⟨k1, k2, k3, k4, k5, k6⟩ := fin SM z_keep_rfl _ rfl
    obtain ⟨x1, x2, x3, x4, x5, x6⟩ := finX _ rfl
    refine ⟨1, _, _, pg', rc', hi', fc', hX hb e1 e3, rfl, z_keep_trans (z_keep_mono g2 (by simp) (by simp)) (z_keep_mono x1 (by simp) (by simp)), k1, sameDI _ x1, g4, k2, k3, k4, k5, Or.inr ⟨rfl, ⟨?_, ?_, ?_, ?_, ?_, ?_, ?_⟩, e1, e2, x2, x3, x4, x5, x6⟩⟩
    · rw [k6 0 (by decide) (by decide)]; exact m0
    · rw [k6 1 (by decide) (by decide)]; exact m1
    · rw [k6 2 (by decide) (by decide), e5]; exact m2
    · rw [k6 4 (by decide) (by decide), x1.1 23 (by decide), e6]; exact m4
    · rw [k6 7 (by decide) (by decide), x1.1 26 (by decide), e7]; exact m7
    · rw [k6 8 (by decide) (by decide)]; exact m8
    · rw [x1.1 26 (by decide), e7, e5]; exact m9
