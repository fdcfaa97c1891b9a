/-! ===== a group, and a pass, with both ===== -/
theorem z_sum_ps {k : Nat} {ps rl : Nat → Nat} (h : ∀ i, i < k → ps (i + 1) = ps i + rl i) (a : Nat) : ∀ w, a + w ≤ k → ps a + z_sum (fun l => rl (a + l)) w = ps (a + w)
  | 0, _ => rfl
  | w + 1, hw => by
    have := z_sum_ps h a w (by omega)
    rw [z_sum, ← Nat.add_assoc, this, ← Nat.add_assoc a w 1, h (a + w) (by omega)]
theorem z_group {P R ba : Nat} {md onv : Int32} {pg0 : Nat → Nat → Nat} {rc0 : Nat → Nat → z_Rec} {lo0 hi0 : Nat → Nat} {SX0 SM0 : es_St} {kk k hr : Nat} {rl ps ch : Nat → Nat} {SX SM : es_St} {pg : Nat → Nat → Nat} {rc : Nat → Nat → z_Rec} {lo hi : Nat → Nat} {fc g aa : Nat} {nl nq nch : Nat → Nat} {top W : Nat} (hok : z_ok P R) (hba : 6 ≤ ba) (honv : es_B onv) (H : z_GP P R ba md onv pg0 rc0 lo0 hi0 SX0 SM0 kk k hr rl ps ch SX SM pg rc lo hi fc g aa nl nq nch top)
    (hhr : hr = 0 ∨ hr = 8192) (hW : 2 ≤ W) (hW15 : W ≤ 15) (hkP : k ≤ P) (hak : aa < k) (hga : g ≤ aa) (hps : ∀ i, i < k → ps (i + 1) = ps i + rl i ∧ 0 < rl i) (hp8 : ps k ≤ 8192) (hinj : ∀ i j, i < k → j < k → ch i = ch j → i = j) :
    ∃ (r : Int32) (SX' SM' : es_St) (pg' : Nat → Nat → Nat) (rc' : Nat → Nat → z_Rec) (lo' hi' : Nat → Nat) (fc' : Nat) (nl' nq' nch' : Nat → Nat) (top' : Nat),
      (∀ m, f_X5_mergePass_29 (es_NX P R) z_fu (m + 1) (nI W) (nI k) (nI g) (nI aa) SX = if r = 0 then some (0, SX') else f_X5_mergePass_29 (es_NX P R) z_fu m (nI W) (nI k) (nI (g + 1)) (nI (aa + W)) SX') ∧
      (∀ k0 m, f_X8_merges_48 es_NM z_fu k0 (m + 1) (nI W) (nI hr) (nI (8192 - hr)) (nI g) (nI (8192 - hr + nq g)) (nI aa) SM = f_X8_merges_48 es_NM z_fu k0 m (nI W) (nI hr) (nI (8192 - hr)) (nI (g + 1)) (nI (8192 - hr + nq' (g + 1))) (nI (aa + W)) SM') ∧
      ((r = 0 ∧ SM'.1 8 = 1 ∧ z_DI P R SX' pg' rc' lo' hi' fc' ∧ (∀ c, c < ba → pg' c = pg0 c ∧ rc' c = rc0 c ∧ lo' c = lo0 c ∧ hi' c = hi0 c) ∧ z_keep z_KX z_AX SX0 SX' ∧ z_keep z_KM z_AM SM0 SM' ∧ (∀ i, i ≤ g → SM'.2 14 i = nI (nq' i)) ∧ (∀ i, i ≤ g + 1 → nq' i ≤ 8192)) ∨
       (r = 1 ∧ z_GP P R ba md onv pg0 rc0 lo0 hi0 SX0 SM0 kk k hr rl ps ch SX' SM' pg' rc' lo' hi' fc' (g + 1) (aa + W) nl' nq' nch' top')) := by
  obtain ⟨hD, hac, ⟨x14, x15, x12, m13, m14, m10, m3, m6⟩, hfil, hold, hnews, hninj, hdis, hded, htop, hbt, hst, hq0, hqle, kX0, kM0, hRL, hsO, hsN⟩ := id H
  obtain ⟨a1, a2, a3, a4⟩ := id hok
  have hps' : ∀ i, i < k → ps (i + 1) = ps i + rl i := fun i hi => (hps i hi).1
  have hmono : ∀ i j, i ≤ j → j ≤ k → ps i ≤ ps j := fun i j h1 h2 => z_ps_mono (ru := j) (rl := rl) (fun i hi => hps' i (by omega)) i h1
  have hqaa : nq g ≤ ps aa := by rw [if_pos hak] at hqle; exact hqle
  obtain ⟨w, hw⟩ : ∃ w, w = if k - aa < W then k - aa else W := ⟨_, rfl⟩
  have hw1 : 1 ≤ w := by rw [hw]; split <;> omega
  have hwk : aa + w ≤ k := by rw [hw]; split <;> omega
  have hwW : w ≤ W := by rw [hw]; split <;> omega
  have hpw := hmono (aa + w) k hwk (Nat.le_refl _)
  -- both choose the same number of runs
  have hXw : (if nI k - nI aa < nI W then nI k - nI aa else nI W) = nI w := by
    rw [pk_sub (by omega), hw]
    by_cases c : k - aa < W
    · rw [if_pos c, if_pos (nI_lt c (by omega))]
    · rw [if_neg c, if_neg (nI_nlt (by omega) (by omega))]
  obtain ⟨SMa, hSMa⟩ : ∃ S : es_St, S = es_wr SM 14 (nI g) (nI (nq g)) := ⟨_, rfl⟩
  have ka : z_keep [] [14] SM SMa := by rw [hSMa]; exact z_keep_w _ 14 _ _ (by simp)
  have ea14 : ∀ i, SMa.2 14 i = if i = g then nI (nq g) else SM.2 14 i := fun i => by rw [hSMa, z_w2a _ _ _ _ (by omega)]
  have hMs : ∀ (k0 : Int32 → es_St → Option (Int32 × es_St)) (m : Nat), f_X8_merges_48 es_NM z_fu k0 (m + 1) (nI W) (nI hr) (nI (8192 - hr)) (nI g) (nI (8192 - hr + nq g)) (nI aa) SM = if ¬ nI w = 1 then (es_bd (f_X8_merge es_NM z_fu SMa (nI hr) (nI aa) (nI w) (nI (8192 - hr + nq g))) fun r27 S28 => f_X8_merges_48 es_NM z_fu k0 m (nI W) (nI hr) (nI (8192 - hr)) (nI (g + 1)) r27 (nI (aa + W)) S28) else (es_bd (f_X8_stays es_NM z_fu SMa (nI hr) (nI aa) (nI (8192 - hr + nq g))) fun r32 S33 => f_X8_merges_48 es_NM z_fu k0 m (nI W) (nI hr) (nI (8192 - hr)) (nI (g + 1)) r32 (nI (aa + W)) S33) := fun k0 m => by
    have key : f_X8_merges_86 es_NM z_fu k0 (fun x1 x2 x3 x4 x5 x6 S => f_X8_merges_48 es_NM z_fu k0 m x1 x2 x3 x4 x5 x6 S) (nI W) (nI hr) (nI (8192 - hr)) (nI g) (nI (8192 - hr + nq g)) (nI aa) (nI w) SM = if ¬ nI w = 1 then (es_bd (f_X8_merge es_NM z_fu SMa (nI hr) (nI aa) (nI w) (nI (8192 - hr + nq g))) fun r27 S28 => f_X8_merges_48 es_NM z_fu k0 m (nI W) (nI hr) (nI (8192 - hr)) (nI (g + 1)) r27 (nI (aa + W)) S28) else (es_bd (f_X8_stays es_NM z_fu SMa (nI hr) (nI aa) (nI (8192 - hr + nq g))) fun r32 S33 => f_X8_merges_48 es_NM z_fu k0 m (nI W) (nI hr) (nI (8192 - hr)) (nI (g + 1)) r32 (nI (aa + W)) S33) := by
      unfold f_X8_merges_86
      rw [pk_sub (by omega), show 8192 - hr + nq g - (8192 - hr) = nq g by omega, z_lt, es_ck_t (vp_in_nI (N := es_NM 14) (show g < 8200 by omega) (by decide)), z_lt, ← hSMa]
      simp only [nI_1, nI_add, z_lt]
    rw [f_X8_merges_48, m10, if_neg (nI_ge hak (by omega)), hac.2.2.2.2.2.1, if_neg (by simp), pk_sub (by omega)]
    by_cases c : k - aa < W
    · rw [if_neg (nI_ge c (by omega)), show k - aa = w by rw [hw, if_pos c]]; exact key
    · rw [if_pos (nI_le (by omega) (by omega)), show nI W = nI w by rw [hw, if_neg c]]
      rw [show nI W = nI w by rw [hw, if_neg c]] at key
      exact key
  by_cases c1 : w = 1
  · -- a run stays
    subst c1
    obtain ⟨o1, o2, o3, o4, o5, o6, o7⟩ := hold aa (Nat.le_refl _) hak
    obtain ⟨p1, p2⟩ := hps aa hak
    obtain ⟨SM1, s1, s2, s3, s4⟩ := zm_stays_loop (hr := hr) (a := aa) (fr := 8192 - hr + nq g) (s := ps aa) (e := ps (aa + 1)) hhr (by omega) (by omega) (by omega) (by omega) (by omega) z_fu 0 SMa (by omega) (by have := z_fu_ge; omega) (by rw [ka.2 6 (by decide)]; exact hst (aa + 1) (by omega))
    obtain ⟨SX1, hSX1⟩ : ∃ S : es_St, S = es_wr (es_wr SX 18 (nI g) (nI (pg (ch aa) 0))) 19 (nI g) (nI (rl aa)) := ⟨_, rfl⟩
    have k1 : z_keep [] [18, 19] SX SX1 := by rw [hSX1]; exact z_keep_trans (z_keep_w _ 18 _ _ (by simp)) (z_keep_w _ 19 _ _ (by simp))
    have kM1 : z_keep [] [4, 5, 14] SM SM1 := z_keep_trans (z_keep_mono ka (by decide) (by decide)) (z_keep_mono s2 (by decide) (by decide))
    refine ⟨1, SX1, SM1, pg, rc, lo, hi, fc, z_set1 nl g (rl aa), z_set1 nq (g + 1) (nq g + rl aa), z_set1 nch g (ch aa), top, fun m => ?_, fun k0 m => ?_, Or.inr ⟨rfl, z_GP_next (w := 1) (nc := ch aa) (ln := rl aa) (top' := top) H hhr (by omega) hak hw hga hps' hp8 hmono (z_DI_same hD ⟨k1.1 0 (by decide), k1.1 1 (by decide), k1.1 2 (by decide), k1.2 11 (by decide), k1.2 12 (by decide), k1.2 13 (by decide), k1.2 14 (by decide), k1.2 15 (by decide)⟩) (z_AC_same hac (k1.1 23 (by decide)) (k1.1 26 (by decide)) (kM1.1 0 (by decide)) (kM1.1 1 (by decide)) (kM1.1 2 (by decide)) (kM1.1 4 (by decide)) (kM1.1 7 (by decide)) (kM1.1 8 (by decide))) (z_keep_mono k1 (by decide) (by decide)) (z_keep_mono kM1 (by decide) (by decide)) (fun i => ?_) (fun i => ?_) (fun i => ?_) ?_ (fun i hi => ?_) (fun j hj => ?_) (fun _ _ _ => ⟨rfl, rfl, rfl, rfl⟩) o3 o4 p2 o1 o2 (Nat.le_refl _) (fun i hi y => hdis i aa hi (Nat.le_refl _) hak y.symm) (fun j h1 h2 y => by have := hinj aa j hak h2 y; omega) (fun i h1 h2 h3 => absurd (show ch i = ch aa by rw [show i = aa by omega]) h3) (by omega) hinj (hsO aa (Nat.le_refl _) hak)⟩⟩
    · rw [f_X5_mergePass_29, if_neg (nI_ge hak (by omega)), hXw, z_lt, if_neg (by decide), zN18, z_ck (show aa < P by omega) (by omega), z_rd SX 18 aa (by omega), o5, z_lt, zN19, z_ck (show aa < P by omega) (by omega), z_rd SX 19 aa (by omega), o6, z_lt, zx_keepRun hok (show g < P by omega), es_bd_s, ← hSX1, nI_1, z_lt, nI_add, z_lt, if_neg (by decide)]
    · rw [hMs, if_neg (by decide)]
      unfold f_X8_stays
      rw [es_ck_t (vp_in_nI (N := es_NM 6) (show aa < 8200 by omega) (by decide)), z_rd SMa 6 aa (by omega), ka.2 6 (by decide), hst aa (by omega), z_lt, show f_X8_stays_11 es_NM z_fu z_fu (nI hr) (nI aa) (nI (8192 - hr + nq g)) (nI (ps aa)) SMa = _ from s1, es_bd_s, z_s1a, show 8192 - hr + nq g + (ps (aa + 1) - ps aa) = 8192 - hr + (nq g + rl aa) by omega]
    · rw [hSX1, z_w2b _ _ _ (by decide), z_w2a _ _ _ _ (by omega)]
    · rw [hSX1, z_w2a _ _ _ _ (by omega), z_w2b _ _ _ (by decide)]
    · rw [s2.2 14 (by decide)]; exact ea14 i
    · rw [kM1.1 3 (by decide), k1.1 22 (by decide)]; exact m3
    · obtain ⟨y1, y2⟩ := s4 i (by omega)
      rw [y1, y2, ka.2 4 (by decide), ka.2 5 (by decide)]; exact ⟨rfl, rfl⟩
    · obtain ⟨y1, y2⟩ := s3 j (by omega) (by omega)
      rw [y1, y2, ka.2 4 (by decide), ka.2 5 (by decide)]
      exact o7 j hj
  · -- a merge
    have hsum := z_sum_ps hps' aa w hwk
    have htl := htop top (Nat.le_refl _)
    obtain ⟨r, SX1, SM1, pg', rc', lo', hi', fc', cn', g1, g2, ⟨f1, f2, f3, f4⟩, g4, g5, g6, g7⟩ := z_merge (w := w) (oc := top) (fr := 8192 - hr + nq g) (hr := hr) (a := aa) (md := md) (onv := onv) (c := fun l => ch (aa + l)) (n := fun l => rl (aa + l)) (qs := fun l => ps (aa + l)) (SX := SX) (SM := SMa) hok hw1 (by omega) (fun l l' h1 h2 y => by have := hinj (aa + l) (aa + l') (by omega) (by omega) y; omega) (by omega) (fun l hl => by have := (hold (aa + l) (by omega) (by omega)).2.1; omega) hhr (by omega) (by omega) (by omega) honv hD (z_AC_same hac rfl rfl (ka.1 0 (by decide)) (ka.1 1 (by decide)) (ka.1 2 (by decide)) (ka.1 4 (by decide)) (ka.1 7 (by decide)) (ka.1 8 (by decide))) x14 x15 ((ka.1 13 (by decide)).trans m13) ((ka.1 14 (by decide)).trans m14) ((ka.1 3 (by decide)).trans m3) htl.1 htl.2 (fun l hl => by
        obtain ⟨o1, o2, o3, o4, o5, o6, o7⟩ := hold (aa + l) (by omega) (by omega)
        exact ⟨o5, o6, (hps (aa + l) (by omega)).2, o3, o4⟩) (fun l hl => by
        obtain ⟨o1, o2, o3, o4, o5, o6, o7⟩ := hold (aa + l) (by omega) (by omega)
        have hp := hps' (aa + l) (by omega)
        have hm := hmono (aa + l + 1) k (by omega) (Nat.le_refl _)
        rw [ka.2 6 (by decide), ka.2 4 (by decide), ka.2 5 (by decide)]
        exact ⟨hst (aa + l) (by omega), by rw [hst (aa + l + 1) (by omega), hp], by omega, o7⟩) (fun l hl => hsO (aa + l) (by omega) (by omega))
    have hw2 : ¬ nI w = 1 := fun y => c1 ((nI_eq (a := w) (b := 1) (by omega) (by decide)).mp y)
    have fX : z_keep z_KX z_AX SX0 SX1 := z_keep_trans kX0 (z_keep_mono f1 (by decide) (by decide))
    have fM : z_keep z_KM z_AM SM0 SM1 := z_keep_trans kM0 (z_keep_trans (z_keep_mono ka (by decide) (by decide)) (z_keep_mono f2 (by decide) (by decide)))
    have hMr : ∀ (k0 : Int32 → es_St → Option (Int32 × es_St)) (m : Nat), f_X8_merges_48 es_NM z_fu k0 (m + 1) (nI W) (nI hr) (nI (8192 - hr)) (nI g) (nI (8192 - hr + nq g)) (nI aa) SM = f_X8_merges_48 es_NM z_fu k0 m (nI W) (nI hr) (nI (8192 - hr)) (nI (g + 1)) (nI (8192 - hr + z_set1 nq (g + 1) (nq g + cn') (g + 1))) (nI (aa + W)) SM1 := fun k0 m => by
      rw [hMs, if_pos hw2, g2, es_bd_s, z_s1a, Nat.add_assoc]
    have hqs : ∀ i, i ≤ g → SM1.2 14 i = nI (nq i) := fun i hi => by
      rw [f2.2 14 (by decide), ea14]
      by_cases e : i = g
      · rw [if_pos e, e]
      · rw [if_neg e]; exact (hnews i (by omega)).2.2.2.2.2.2.2.1
    rcases g7 with ⟨rfl, hfull⟩ | ⟨rfl, q1, q2, q3, q4, q5, q6, q7, q8, q9⟩
    · refine ⟨0, SX1, SM1, pg', rc', lo', hi', fc', nl, z_set1 nq (g + 1) (nq g + cn'), nch, top, fun m => ?_, hMr, Or.inl ⟨rfl, hfull, g4, fun c hc => ?_, fX, fM, fun i hi => ?_, fun i hi => ?_⟩⟩
      · rw [f_X5_mergePass_29, if_neg (nI_ge hak (by omega)), hXw, z_lt, if_pos hw2, g1, es_bd_s, if_pos rfl, if_pos rfl]
      · obtain ⟨y1, y2, y3, y4⟩ := f4 c (by omega) (fun l hl => by have := (hold (aa + l) (by omega) (by omega)).1; dsimp only; omega)
        rw [y1, y2, y3, y4]; exact hfil c hc
      · rw [z_s1b _ _ (by omega)]; exact hqs i hi
      · by_cases e : i = g + 1
        · rw [e, z_s1a]; omega
        · rw [z_s1b _ _ e]
          have := z_ps_mono (ru := g) (ps := nq) (rl := nl) (fun i' h' => (hnews i' h').2.2.2.2.2.2.2.2.1) i (by omega)
          omega
    · obtain ⟨SX2, hSX2⟩ : ∃ S : es_St, S = es_wr (es_wr SX1 18 (nI g) (nI (pg' top 0))) 19 (nI g) (nI cn') := ⟨_, rfl⟩
      have k2 : z_keep [] [18, 19] SX1 SX2 := by rw [hSX2]; exact z_keep_trans (z_keep_w _ 18 _ _ (by simp)) (z_keep_w _ 19 _ _ (by simp))
      refine ⟨1, SX2, SM1, pg', rc', lo', hi', fc', z_set1 nl g cn', z_set1 nq (g + 1) (nq g + cn'), z_set1 nch g top, top + 1, fun m => ?_, hMr, Or.inr ⟨rfl, z_GP_next (w := w) (nc := top) (ln := cn') (top' := top + 1) H hhr (by omega) hak hw hga hps' hp8 hmono (z_DI_same g4 ⟨k2.1 0 (by decide), k2.1 1 (by decide), k2.1 2 (by decide), k2.2 11 (by decide), k2.2 12 (by decide), k2.2 13 (by decide), k2.2 14 (by decide), k2.2 15 (by decide)⟩) (z_AC_same q1 (k2.1 23 (by decide)) (k2.1 26 (by decide)) rfl rfl rfl rfl rfl rfl) (z_keep_trans (z_keep_mono f1 (by decide) (by decide)) (z_keep_mono k2 (by decide) (by decide))) (z_keep_trans (z_keep_mono ka (by decide) (by decide)) (z_keep_mono f2 (by decide) (by decide))) (fun i => ?_) (fun i => ?_) (fun i => ?_) ?_ (fun i hi => ?_) q8 (fun c' h1 h2 => f4 c' h1 (fun l hl => h2 (aa + l) (by omega) (by omega))) q3 q4 g5 hbt (by omega) (by omega) (fun i hi y => by have := (hnews i hi).2.1; omega) (fun j h1 h2 y => by have := (hold j (by omega) h2).2.1; omega) (fun i h1 h2 _ => by
        have := q5 (i - aa) (by omega)
        rw [show aa + (i - aa) = i by omega] at this
        exact this) (by omega) hinj q9⟩⟩
      · rw [f_X5_mergePass_29, if_neg (nI_ge hak (by omega)), hXw, z_lt, if_pos hw2, g1, es_bd_s, if_neg (by decide), q6, q7, zx_keepRun hok (show g < P by omega), es_bd_s, ← hSX2, nI_1, z_lt, nI_add, z_lt, if_neg (by decide)]
      · rw [hSX2, z_w2b _ _ _ (by decide), z_w2a _ _ _ _ (by omega), f1.2 18 (by decide)]
      · rw [hSX2, z_w2a _ _ _ _ (by omega), z_w2b _ _ _ (by decide), f1.2 19 (by decide)]
      · rw [f2.2 14 (by decide)]; exact ea14 i
      · rw [k2.1 22 (by decide)]; exact q2
      · obtain ⟨y1, y2⟩ := f3 i hi
        rw [y1, y2, ka.2 4 (by decide), ka.2 5 (by decide)]; exact ⟨rfl, rfl⟩
