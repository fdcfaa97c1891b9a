/-! ===== lanes: records st .. en of n are in memory, t of them are taken ===== -/
def z_lane (R : Nat) (S : es_St) (ln : Nat) (g : Nat → Nat) (rr : Nat → z_Rec) (n st en t : Nat) : Prop :=
  S.2 27 ln = nI (n - en) ∧ S.2 28 ln = nI (t - st) ∧ S.2 29 ln = nI (en - st) ∧ (en < n → S.2 26 ln = nI (g (en / R)) ∧ en % R = 0) ∧ st ≤ t ∧ t ≤ en ∧ en ≤ n ∧ en ≤ st + R ∧
  ∀ j, st ≤ j → j < en → S.2 24 (ln * R + (j - st)) = (rr j).1 ∧ S.2 25 (ln * R + (j - st)) = (rr j).2
theorem z_lane_keep {R : Nat} {S S' : es_St} {ln : Nat} {g : Nat → Nat} {rr : Nat → z_Rec} {n st en t : Nat} (h : z_lane R S ln g rr n st en t) (e26 : S'.2 26 ln = S.2 26 ln) (e27 : S'.2 27 ln = S.2 27 ln) (e28 : S'.2 28 ln = S.2 28 ln) (e29 : S'.2 29 ln = S.2 29 ln) (e24 : ∀ s, s < R → S'.2 24 (ln * R + s) = S.2 24 (ln * R + s) ∧ S'.2 25 (ln * R + s) = S.2 25 (ln * R + s)) : z_lane R S' ln g rr n st en t := by
  obtain ⟨h1, h2, h3, h4, h5, h6, h7, h8, h9⟩ := h
  refine ⟨e27.trans h1, e28.trans h2, e29.trans h3, fun x => by rw [e26]; exact h4 x, h5, h6, h7, h8, fun j a b => ?_⟩
  have := e24 (j - st) (by omega)
  rw [this.1, this.2]
  exact h9 j a b
theorem z_lane_same {R : Nat} {S S' : es_St} {ln : Nat} {g : Nat → Nat} {rr : Nat → z_Rec} {n st en t : Nat} (h : z_lane R S ln g rr n st en t) (e24 : S'.2 24 = S.2 24) (e25 : S'.2 25 = S.2 25) (e26 : S'.2 26 = S.2 26) (e27 : S'.2 27 = S.2 27) (e28 : S'.2 28 = S.2 28) (e29 : S'.2 29 = S.2 29) : z_lane R S' ln g rr n st en t :=
  z_lane_keep h (by rw [e26]) (by rw [e27]) (by rw [e28]) (by rw [e29]) (fun s _ => by rw [e24, e25]; exact ⟨rfl, rfl⟩)
theorem zx_usedUp {P R ln : Nat} {S : es_St} {g : Nat → Nat} {rr : Nat → z_Rec} {n st en t : Nat} (hl : ln < 15) (h : z_lane R S ln g rr n st en t) (hn : n < 2 ^ 30) : f_X1_isUsedUp (es_NX P R) z_fu S (nI ln) = some (if t = en then 1 else 0, S) := by
  obtain ⟨h1, h2, h3, h4, h5, h6, h7, h8, h9⟩ := h
  unfold f_X1_isUsedUp
  rw [if_neg (nI_pos (by omega)), if_neg (show ¬ 15 ≤ nI ln from nI_ge (b := 15) hl (by decide))]
  simp only [es_lt, zN28, zN29]
  rw [z_ck hl (by decide), z_ck hl (by decide), z_rd _ _ _ (by omega), z_rd _ _ _ (by omega), h2, h3]
  by_cases e : t = en
  · rw [if_pos e, if_neg (nI_nlt (by omega) (by omega))]
  · rw [if_neg e, if_pos (nI_lt (by omega) (by omega))]
theorem zx_hasMore {P R ln : Nat} {S : es_St} {g : Nat → Nat} {rr : Nat → z_Rec} {n st en t : Nat} (hl : ln < 15) (h : z_lane R S ln g rr n st en t) (hn : n < 2 ^ 30) : f_X1_hasMore (es_NX P R) z_fu S (nI ln) = some (if t < n then 1 else 0, S) := by
  obtain ⟨h1, h2, h3, h4, h5, h6, h7, h8, h9⟩ := h
  unfold f_X1_hasMore
  rw [if_neg (nI_pos (by omega)), if_neg (show ¬ 15 ≤ nI ln from nI_ge (b := 15) hl (by decide))]
  simp only [es_lt, zN28, zN29, zN27]
  rw [z_ck hl (by decide), z_ck hl (by decide), z_rd _ _ _ (by omega), z_rd _ _ _ (by omega), h2, h3]
  by_cases e : t = en
  · rw [if_neg (nI_nlt (by omega) (by omega)), z_ck hl (by decide), z_rd _ _ _ (by omega), h1]
    by_cases e2 : t < n
    · rw [if_pos e2, if_neg (show ¬ nI (n - en) ≤ 0 from nI_nle (by omega) (by omega))]
    · rw [if_neg e2, if_pos (show nI (n - en) ≤ 0 from nI_le (b := 0) (by omega) (by decide))]
  · rw [if_pos (nI_lt (by omega) (by omega)), if_pos (by omega)]
theorem zx_lkey {P R ln : Nat} {S : es_St} {g : Nat → Nat} {rr : Nat → z_Rec} {n st en t : Nat} (hok : z_ok P R) (hl : ln < 15) (h1' : S.1 1 = nI R) (h : z_lane R S ln g rr n st en t) (hn : n < 2 ^ 30) (ht : t < en) : f_X1_keyOf (es_NX P R) z_fu S (nI ln) = some ((rr t).1, S) ∧ f_X1_tagOf (es_NX P R) z_fu S (nI ln) = some ((rr t).2, S) := by
  obtain ⟨h1, h2, h3, h4, h5, h6, h7, h8, h9⟩ := id h
  have hR := hok.2.2
  have hc := z_cell hl (show t - st < R by omega)
  have hb : 15 * R ≤ 240 := by omega
  have hp : ¬ nI (ln * R + (t - st)) < 0 := nI_pos (by omega)
  have hq : ¬ nI (15 * R) ≤ nI (ln * R + (t - st)) := nI_ge hc (by omega)
  unfold f_X1_keyOf f_X1_tagOf
  rw [zx_usedUp hl h hn, if_neg (by omega)]
  simp only [es_bd, es_lt, zN28, zN24, zN25]
  rw [if_pos trivial, if_pos trivial, z_ck hl (by decide), z_rd _ _ _ (by omega), h2, h1', pk_mul, nI_add, if_neg hp, if_neg hq, z_ck hc (by omega), if_neg hp, if_neg hq, z_ck hc (by omega), z_rd _ _ _ (by omega), z_rd _ _ _ (by omega), (h9 t h5 ht).1, (h9 t h5 ht).2]
  exact ⟨rfl, z_ck hl (by decide)⟩
theorem zx_step {P R ln : Nat} {S : es_St} {g : Nat → Nat} {rr : Nat → z_Rec} {n st en t : Nat} (hl : ln < 15) (h : z_lane R S ln g rr n st en t) (hn : n < 2 ^ 30) (ht : t < en) : ∃ S', f_X1_step (es_NX P R) z_fu S (nI ln) = some (0, S') ∧ z_keep [] [28] S S' ∧ z_lane R S' ln g rr n st en (t + 1) ∧ ∀ l, l ≠ ln → S'.2 28 l = S.2 28 l := by
  obtain ⟨h1, h2, h3, h4, h5, h6, h7, h8, h9⟩ := id h
  refine ⟨es_wr S 28 (nI ln) (nI (t + 1 - st)), ?_, z_keep_w S 28 _ _ (by simp), ?_, fun l hne => by rw [z_w2a _ _ _ _ (by omega), if_neg hne]⟩
  · unfold f_X1_step
    rw [zx_usedUp hl h hn, if_neg (by omega)]
    simp only [es_bd, es_lt, zN28]
    rw [if_neg (by decide), z_ck hl (by decide), z_rd _ _ _ (by omega), h2, nI_1, z_ck hl (by decide), show t - st + 1 = t + 1 - st by omega]
  · refine ⟨?_, ?_, ?_, fun x => ?_, by omega, by omega, h7, h8, fun j a b => ?_⟩
    · rw [z_w2b _ _ _ (by decide)]; exact h1
    · rw [z_w2a _ _ _ _ (by omega), if_pos rfl]
    · rw [z_w2b _ _ _ (by decide)]; exact h3
    · rw [z_w2b _ _ _ (by decide)]; exact h4 x
    · rw [z_w2b _ _ _ (by decide), z_w2b _ _ _ (by decide)]; exact h9 j a b
theorem zx_lopen {P R ln : Nat} {S : es_St} {g : Nat → Nat} {rr : Nat → z_Rec} {n : Nat} {hd : Int32} (hl : ln < 15) (hh : 0 < n → hd = nI (g 0)) : ∃ S', f_X1_open (es_NX P R) z_fu S (nI ln) hd (nI n) = some (0, S') ∧ z_keep [] [26, 27, 28, 29] S S' ∧ z_lane R S' ln g rr n 0 0 0 ∧ ∀ l, l ≠ ln → S'.2 26 l = S.2 26 l ∧ S'.2 27 l = S.2 27 l ∧ S'.2 28 l = S.2 28 l ∧ S'.2 29 l = S.2 29 l := by
  refine ⟨es_wr (es_wr (es_wr (es_wr S 26 (nI ln) hd) 27 (nI ln) (nI n)) 28 (nI ln) 0) 29 (nI ln) 0, ?_, ?_, ?_, fun l hne => ?_⟩
  · unfold f_X1_open
    rw [if_neg (nI_pos (by omega)), if_neg (show ¬ 15 ≤ nI ln from nI_ge (b := 15) hl (by decide))]
    simp only [es_lt, zN26, zN27, zN28, zN29]
    rw [z_ck hl (by decide), z_ck hl (by decide), z_ck hl (by decide), z_ck hl (by decide)]
  · exact z_keep_trans (z_keep_trans (z_keep_trans (z_keep_w _ 26 _ _ (by simp)) (z_keep_w _ 27 _ _ (by simp))) (z_keep_w _ 28 _ _ (by simp))) (z_keep_w _ 29 _ _ (by simp))
  · have h15 : ln < 2 ^ 31 := by omega
    refine ⟨?_, ?_, ?_, fun x => ⟨?_, Nat.zero_mod _⟩, by omega, by omega, by omega, by omega, fun j a b => absurd b (by omega)⟩
    · rw [z_w2b _ _ _ (by decide), z_w2b _ _ _ (by decide), z_w2a _ _ _ _ h15, if_pos rfl]; rfl
    · rw [z_w2b _ _ _ (by decide), z_w2a _ _ _ _ h15, if_pos rfl]; rfl
    · rw [z_w2a _ _ _ _ h15, if_pos rfl]; rfl
    · rw [z_w2b _ _ _ (by decide), z_w2b _ _ _ (by decide), z_w2b _ _ _ (by decide), z_w2a _ _ _ _ h15, if_pos rfl, Nat.zero_div]; exact hh x
  · have h15 : ln < 2 ^ 31 := by omega
    refine ⟨?_, ?_, ?_, ?_⟩
    · rw [z_w2b _ _ _ (by decide), z_w2b _ _ _ (by decide), z_w2b _ _ _ (by decide), z_w2a _ _ _ _ h15, if_neg hne]
    · rw [z_w2b _ _ _ (by decide), z_w2b _ _ _ (by decide), z_w2a _ _ _ _ h15, if_neg hne, z_w2b _ _ _ (by decide)]
    · rw [z_w2b _ _ _ (by decide), z_w2a _ _ _ _ h15, if_neg hne, z_w2b _ _ _ (by decide), z_w2b _ _ _ (by decide)]
    · rw [z_w2a _ _ _ _ h15, if_neg hne, z_w2b _ _ _ (by decide), z_w2b _ _ _ (by decide), z_w2b _ _ _ (by decide)]
/-- the copying of a page -/
theorem zx_read_loop {P R ln p cnt : Nat} (hok : z_ok P R) (hl : ln < 15) (hp : p < P) (hc : cnt ≤ R) : ∀ (f i : Nat) (S : es_St), i ≤ cnt → cnt - i < f → S.1 0 = nI P → S.1 1 = nI R → (∀ s, s < i → S.2 24 (ln * R + s) = S.2 11 (p * R + s) ∧ S.2 25 (ln * R + s) = S.2 12 (p * R + s)) →
    ∃ S1, f_X1_readPage_60 (es_NX P R) z_fu f (nI ln) (nI p) (nI cnt) (nI (ln * R)) (nI i) S = f_X1_readPage_125 (es_NX P R) z_fu (nI ln) (nI p) (nI cnt) S1 ∧ z_keep [] [24, 25] S S1 ∧ (∀ s, s < cnt → S1.2 24 (ln * R + s) = S.2 11 (p * R + s) ∧ S1.2 25 (ln * R + s) = S.2 12 (p * R + s)) ∧ ∀ l s, l ≠ ln → s < R → S1.2 24 (l * R + s) = S.2 24 (l * R + s) ∧ S1.2 25 (l * R + s) = S.2 25 (l * R + s) := by
  have hR := hok.2.2
  intro f
  induction f with
  | zero => intro i S _ h; exact absurd h (by omega)
  | succ f ih =>
    intro i S hi hf h0 h1 hL
    rw [f_X1_readPage_60]
    by_cases e : i = cnt
    · subst e
      rw [if_pos (nI_le (Nat.le_refl _) (by omega))]
      exact ⟨S, rfl, z_keep_rfl, hL, fun _ _ _ _ => ⟨rfl, rfl⟩⟩
    · have hb : 15 * R ≤ 240 := by omega
      have hcl := z_cell hl (show i < R by omega)
      have h31 : ln * R + i < 2 ^ 31 := by omega
      rw [if_neg (nI_ge (show i < cnt by omega) (by omega)), nI_add, zN24, if_neg (nI_ge hcl (by omega)), zx_keyAt hok h0 h1 hp (show i < R by omega)]
      simp only [es_bd, es_lt, zN25]
      rw [z_ck hcl (by omega), zx_tagAt hok (by rw [z_w1]; exact h0) (by rw [z_w1]; exact h1) hp (show i < R by omega)]
      simp only []
      rw [z_ck hcl (by omega), nI_1, z_w2b _ _ _ (by decide)]
      obtain ⟨S1, g1, g2, g3, g4⟩ := ih (i + 1) (es_wr (es_wr S 24 (nI (ln * R + i)) (S.2 11 (p * R + i))) 25 (nI (ln * R + i)) (S.2 12 (p * R + i))) (by omega) (by omega) (by rw [z_w1, z_w1]; exact h0) (by rw [z_w1, z_w1]; exact h1) (fun s hs => by
        rw [z_w2b _ _ _ (by decide), z_w2a _ _ _ _ h31, z_w2a _ _ _ _ h31, z_w2b _ _ _ (by decide), z_w2b _ _ _ (by decide), z_w2b _ _ _ (by decide), z_w2b _ _ _ (by decide), z_w2b _ _ _ (by decide)]
        by_cases es : s = i
        · subst es; rw [if_pos rfl, if_pos rfl]; exact ⟨rfl, rfl⟩
        · rw [if_neg (by omega), if_neg (by omega)]; exact hL s (by omega))
      refine ⟨S1, g1, z_keep_trans (z_keep_trans (z_keep_w _ 24 _ _ (by simp)) (z_keep_w _ 25 _ _ (by simp))) g2, fun s hs => ?_, fun l s hne hs => ?_⟩
      · have := g3 s hs
        rw [z_w2b _ _ _ (by decide), z_w2b _ _ _ (by decide), z_w2b _ _ _ (by decide), z_w2b _ _ _ (by decide)] at this
        exact this
      · obtain ⟨u, v⟩ := g4 l s hne hs
        have hno : ¬ l * R + s = ln * R + i := fun y => hne (z_cell_inj hs (show i < R by omega) y).1
        rw [u, v, z_w2b _ _ _ (by decide), z_w2a _ _ _ _ h31, z_w2a _ _ _ _ h31, z_w2b _ _ _ (by decide), if_neg hno, if_neg hno]
        exact ⟨rfl, rfl⟩
theorem zx_readPage {P R ln p : Nat} {S : es_St} {g : Nat → Nat} {rr : Nat → z_Rec} {n st en : Nat} (hok : z_ok P R) (hl : ln < 15) (h0 : S.1 0 = nI P) (h1' : S.1 1 = nI R) (h : z_lane R S ln g rr n st en en) (hn : n < 2 ^ 30) (hen : en < n) (hp : p < P) (hgp : g (en / R) = p) (hcont : ∀ s, s < R → S.2 11 (p * R + s) = (rr (en + s)).1 ∧ S.2 12 (p * R + s) = (rr (en + s)).2) (hnext : en + R < n → S.2 14 p = nI (g (en / R + 1))) :
    ∃ S', f_X1_readPage (es_NX P R) z_fu S (nI ln) = some (nI p, S') ∧ z_keep [22] [24, 25, 26, 27, 28, 29] S S' ∧ S'.1 22 = S.1 22 + 1 ∧ z_lane R S' ln g rr n en (if en + R < n then en + R else n) en ∧ ∀ l, l ≠ ln → (S'.2 26 l = S.2 26 l ∧ S'.2 27 l = S.2 27 l ∧ S'.2 28 l = S.2 28 l ∧ S'.2 29 l = S.2 29 l) ∧ ∀ s, s < R → S'.2 24 (l * R + s) = S.2 24 (l * R + s) ∧ S'.2 25 (l * R + s) = S.2 25 (l * R + s) := by
  obtain ⟨h1, h2, h3, h4, h5, h6, h7, h8, h9⟩ := id h
  have hR := hok.2.2
  have hl31 : ln < 2 ^ 31 := by omega
  obtain ⟨q4, q5⟩ := h4 hen
  obtain ⟨cnt, hcnt⟩ : ∃ cnt, cnt = if n - en < R then n - en else R := ⟨_, rfl⟩
  have hcR : cnt ≤ R := by rw [hcnt]; split <;> omega
  have hend : (if en + R < n then en + R else n) = en + cnt := by rw [hcnt]; split <;> split <;> omega
  obtain ⟨S1, g1, g2, g3, g4⟩ := zx_read_loop (p := p) hok hl hp hcR z_fu 0 S (by omega) (by have := z_fu_ge; omega) h0 h1' (fun s hs => absurd hs (by omega))
  have k0 : S1.1 0 = nI P := (g2.1 0 (by decide)).trans h0
  refine ⟨es_F (es_wr (es_wr (es_wr (es_wr S1 26 (nI ln) (S1.2 14 p)) 27 (nI ln) (nI (n - (en + cnt)))) 28 (nI ln) 0) 29 (nI ln) (nI cnt)) 22 (S.1 22 + 1), ?_, ?_, ?_, ?_, fun l hne => ⟨⟨?_, ?_, ?_, ?_⟩, fun s hs => ?_⟩⟩
  · unfold f_X1_readPage
    rw [if_neg (nI_pos (by omega)), if_neg (show ¬ 15 ≤ nI ln from nI_ge (b := 15) hl (by decide))]
    simp only [es_lt, zN26, zN27]
    rw [z_ck hl (by decide), z_rd _ _ _ hl31, h1, if_pos (show 1 ≤ nI (n - en) from nI_le (a := 1) (by omega) (by omega)), z_ck hl (by decide), z_rd _ _ _ hl31, q4, hgp, z_ck hl (by decide), h1', pk_mul]
    have ec : (if nI (n - en) < nI R then nI (n - en) else nI R) = nI cnt := by
      rw [hcnt]
      by_cases c : n - en < R
      · rw [if_pos c, if_pos (nI_lt c (by omega))]
      · rw [if_neg c, if_neg (nI_nlt (by omega) (by omega))]
    rw [ec]
    refine g1.trans ?_
    unfold f_X1_readPage_125
    rw [zx_nextOf hok k0 hp]
    simp only [es_bd, es_lt, zN26, zN27, zN28, zN29]
    rw [z_ck hl (by decide), z_ck hl (by decide), z_rd _ _ _ hl31, z_w2b _ _ _ (by decide), g2.2 27 (by decide), h1, pk_sub (by rw [hcnt]; split <;> omega), z_ck hl (by decide), z_ck hl (by decide), z_ck hl (by decide), z_w1, z_w1, z_w1, z_w1, g2.1 22 (by decide), show n - en - cnt = n - (en + cnt) by omega]
  · refine z_keep_trans (z_keep_mono g2 (by simp) (by simp)) (z_keep_trans (z_keep_trans (z_keep_trans (z_keep_trans (z_keep_w _ 26 _ _ (by simp)) (z_keep_w _ 27 _ _ (by simp))) (z_keep_w _ 28 _ _ (by simp))) (z_keep_w _ 29 _ _ (by simp))) (z_keep_F _ 22 _ (by simp)))
  · rw [z_F1, if_pos rfl]
  · rw [hend]
    refine ⟨?_, ?_, ?_, fun x => ⟨?_, ?_⟩, by omega, by omega, by rw [hcnt]; split <;> omega, by omega, fun j a b => ?_⟩
    · rw [z_F2, z_w2b _ _ _ (by decide), z_w2b _ _ _ (by decide), z_w2a _ _ _ _ hl31, if_pos rfl]
    · rw [z_F2, z_w2b _ _ _ (by decide), z_w2a _ _ _ _ hl31, if_pos rfl, Nat.sub_self]; rfl
    · rw [z_F2, z_w2a _ _ _ _ hl31, if_pos rfl, Nat.add_sub_cancel_left]
    · have hcR' : cnt = R := by rw [hcnt] at x ⊢; split at x <;> (first | omega | (rw [if_neg (by omega)]))
      rw [z_F2, z_w2b _ _ _ (by decide), z_w2b _ _ _ (by decide), z_w2b _ _ _ (by decide), z_w2a _ _ _ _ hl31, if_pos rfl, g2.2 14 (by decide), hnext (by omega), hcR', Nat.add_div_right _ (by omega)]
    · have hcR' : cnt = R := by rw [hcnt] at x ⊢; split at x <;> (first | omega | (rw [if_neg (by omega)]))
      rw [hcR', Nat.add_mod_right]; exact q5
    · obtain ⟨u, v⟩ := g3 (j - en) (by omega)
      rw [z_F2, z_w2b _ _ _ (by decide), z_w2b _ _ _ (by decide), z_w2b _ _ _ (by decide), z_w2b _ _ _ (by decide), z_w2b _ _ _ (by decide), z_w2b _ _ _ (by decide), z_w2b _ _ _ (by decide), z_w2b _ _ _ (by decide), u, v]
      have := hcont (j - en) (by omega)
      rw [show en + (j - en) = j by omega] at this
      exact this
  · rw [z_F2, z_w2b _ _ _ (by decide), z_w2b _ _ _ (by decide), z_w2b _ _ _ (by decide), z_w2a _ _ _ _ hl31, if_neg hne, g2.2 26 (by decide)]
  · rw [z_F2, z_w2b _ _ _ (by decide), z_w2b _ _ _ (by decide), z_w2a _ _ _ _ hl31, if_neg hne, z_w2b _ _ _ (by decide), g2.2 27 (by decide)]
  · rw [z_F2, z_w2b _ _ _ (by decide), z_w2a _ _ _ _ hl31, if_neg hne, z_w2b _ _ _ (by decide), z_w2b _ _ _ (by decide), g2.2 28 (by decide)]
  · rw [z_F2, z_w2a _ _ _ _ hl31, if_neg hne, z_w2b _ _ _ (by decide), z_w2b _ _ _ (by decide), z_w2b _ _ _ (by decide), g2.2 29 (by decide)]
  · rw [z_F2, z_w2b _ _ _ (by decide), z_w2b _ _ _ (by decide), z_w2b _ _ _ (by decide), z_w2b _ _ _ (by decide), z_w2b _ _ _ (by decide), z_w2b _ _ _ (by decide), z_w2b _ _ _ (by decide), z_w2b _ _ _ (by decide)]
    exact g4 l s hne hs
