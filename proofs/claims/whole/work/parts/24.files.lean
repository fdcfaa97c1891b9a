/-! ===== drop, append ===== -/
theorem z_T_keep {P : Nat} {SX SM SX' SM' : es_St} (h : z_T P SX SM) (e27 : SX'.1 27 = SX.1 27) (e28 : SX'.1 28 = SX.1 28) (e29 : SX'.1 29 = SX.1 29) (e30 : SX'.1 30 = SX.1 30) (e31 : SX'.1 31 = SX.1 31) (e23 : SX'.2 23 = SX.2 23) (m12 : SM'.2 12 = SM.2 12) (m15 : SM'.1 15 = SM.1 15) (m13 : SM'.2 13 = SM.2 13) : z_T P SX' SM' := by
  unfold z_T at *
  rw [e27, e28, e29, e30, e31, e23, m12, m15, m13]
  exact h
theorem z_w2a (S : es_St) (k i : Nat) (x : Int32) (hi : i < 2 ^ 31) (q : Nat) : (es_wr S k (nI i) x).2 k q = if q = i then x else S.2 k q := by
  rw [z_w2, if_pos rfl, z_up, nI_clamp hi]
theorem z_w2b (S : es_St) {k j : Nat} (i x : Int32) (h : j ≠ k) : (es_wr S k i x).2 j = S.2 j := by rw [z_w2, if_neg h]
theorem zm_pagesOf {R n fu : Nat} {N : Nat → Nat} {S : es_St} (hR : 1 ≤ R ∧ R ≤ 16) (h1 : S.1 1 = nI R) (hn : n < 2 ^ 30) : f_X8_pagesOf N fu S (nI n) = some (nI (z_pgs R n), S) := by
  unfold f_X8_pagesOf z_pgs
  rw [h1, es_ck_t (nI_ne0 (by omega) (by omega)), nI_add, show nI (n + R) - 1 = nI (n + R - 1) from pk_sub (b := 1) (by omega), pk_div (by omega) (by omega) (by omega)]
theorem z_sim_drop {P R : Nat} {SX SM : es_St} (hok : z_ok P R) (h : z_Rel P R SX SM) (x : Int32) : z_Ans P R (f_X7_drop (es_NX P R) z_fu SX x) (f_X8_drop es_NM z_fu SM x) := by
  obtain ⟨pg, rc, lo, hi, fc, n, hX, hM, hT⟩ := id h
  have key : x < 0 ∨ 6 ≤ x → z_Ans P R (f_X7_drop (es_NX P R) z_fu SX x) (f_X8_drop es_NM z_fu SM x) := fun h1 => by
    unfold f_X7_drop f_X8_drop
    rw [zx_isFile0 h1, zm_isFile0 h1]
    exact ⟨-1, SX, SM, rfl, rfl, h⟩
  rcases z_file x with h1 | h1 | ⟨f, hf, rfl⟩
  · exact key (Or.inl h1)
  · exact key (Or.inr h1)
  · obtain ⟨l1, l2, l3⟩ := z_len hok hX hf
    obtain ⟨hD, hF, hW⟩ := id hX
    obtain ⟨m0, m1, m2, mF⟩ := id hM
    obtain ⟨q1, q2, q3, q4⟩ := hF f hf
    have hR := hok.2.2.1
    have hPb := hok.2.1
    have hD1 : z_DI P R (es_wr (es_wr SX 9 (nI f) (-1)) 10 (nI f) 0) pg rc lo hi fc := z_DI_same hD ⟨rfl, rfl, rfl, rfl, rfl, rfl, rfl, rfl⟩
    obtain ⟨S', g1, g2, g3, g4⟩ := zx_releaseAll (fu := z_fu) (w := nI f) hok (by have := z_fu_ge; omega) (fun e => (z_m1 (by omega)).mp e) hD1.1 hD1.2.2.1
    have hcnt : z_cnt (fun q => (es_wr (es_wr SX 9 (nI f) (-1)) 10 (nI f) 0).2 13 q = nI f) P = z_pgs R (n f) := by
      rw [z_CH_cnt hD1.2.2.2 f (nI f) (z_ow_lt hf).symm (fun c hc e => absurd (z_ow_eq hf e) hc), q1, q2, Nat.sub_zero]
    rw [hcnt] at g1 g3
    have hD2 := z_DI_kill (nI f) (fun e => (z_m1 (by omega)).mp e) hD1 (g2.1 0 (by decide)) (g2.1 1 (by decide)) g3 (g2.2 11 (by decide)) (g2.2 12 (by decide)) g4 (g2.2 14 (by decide))
    have hfc := g3.2.1
    refine ⟨nI (z_pgs R (n f)), S', es_F (es_wr SM 3 (nI f) 0) 2 (nI (P - (fc + z_pgs R (n f)))), ?_, ?_, pg, rc, z_set1 lo f 0, z_set1 hi f 0, fc + z_pgs R (n f), z_set1 n f 0, ⟨?_, ?_, ?_⟩, ⟨?_, ?_, ?_, ?_⟩, ?_⟩
    · unfold f_X7_drop
      rw [zx_isFile1 hf]
      simp only [es_bd, es_lt, zN9, zN10]
      rw [if_pos (by decide), z_ck hf (by decide), z_ck hf (by decide), g1]
    · unfold f_X8_drop
      rw [zm_isFile1 hf]
      simp only [es_bd, es_lt]
      rw [if_pos (by decide), es_ck_t (vp_in_nI (N := es_NM 3) hf (by decide)), z_rd _ _ _ (by omega), (mF f hf).1, zm_pagesOf hok.2.2 m1 (by omega)]
      simp only [es_bd]
      rw [es_ck_t (vp_in_nI (N := es_NM 3) hf (by decide)), z_w1, m2, pk_sub (by omega), show P - fc - z_pgs R (n f) = P - (fc + z_pgs R (n f)) by omega]
    · refine z_DI_re hD2 (fun c i => ?_) (fun _ _ _ _ => rfl) (fun _ _ _ _ _ _ => rfl)
      unfold z_set1
      by_cases e : c = f
      · rw [if_pos e, if_pos e]
        have : z_ow c = nI f := by rw [e]; exact z_ow_lt hf
        rw [if_pos this]; omega
      · rw [if_neg e, if_neg e, if_neg (fun y => e (z_ow_eq hf y))]
    · intro f' hf'
      unfold z_set1
      by_cases e : f' = f
      · rw [if_pos e, if_pos e, if_pos e]
        refine ⟨rfl, (z_pgs_0 hR).symm, ?_, fun y => absurd y (by omega)⟩
        rw [g2.2 10 (by decide), e, z_w2a _ _ _ _ (by omega), if_pos rfl]; rfl
      · rw [if_neg e, if_neg e, if_neg e]
        obtain ⟨u1, u2, u3, u4⟩ := hF f' hf'
        refine ⟨u1, u2, ?_, fun y => ?_⟩
        · rw [g2.2 10 (by decide), z_w2a _ _ _ _ (by omega), if_neg e, z_w2b _ _ _ (by decide)]; exact u3
        · rw [g2.2 9 (by decide), z_w2b _ _ _ (by decide), z_w2a _ _ _ _ (by omega), if_neg e]; exact u4 y
    · intro c hc
      unfold z_set1
      rw [if_neg (by omega), if_neg (by omega)]
      exact hW c hc
    · rw [z_F1, if_neg (by decide), z_w1]; exact m0
    · rw [z_F1, if_neg (by decide), z_w1]; exact m1
    · rw [z_F1, if_pos rfl]
    · intro f' hf'
      rw [z_F2]
      unfold z_set1
      by_cases e : f' = f
      · rw [if_pos e]
        refine ⟨?_, fun j hj => absurd hj (by omega)⟩
        rw [e, z_w2a _ _ _ _ (by omega), if_pos rfl]; rfl
      · rw [if_neg e]
        obtain ⟨u1, u2⟩ := mF f' hf'
        refine ⟨?_, fun j hj => ?_⟩
        · rw [z_w2a _ _ _ _ (by omega), if_neg e]; exact u1
        · rw [z_w2b _ _ _ (by decide), z_w2b _ _ _ (by decide)]; exact u2 j hj
    · refine z_T_keep hT ?_ ?_ ?_ ?_ ?_ ?_ rfl rfl rfl
      · exact g2.1 27 (by decide)
      · exact g2.1 28 (by decide)
      · exact g2.1 29 (by decide)
      · exact g2.1 30 (by decide)
      · exact g2.1 31 (by decide)
      · exact g2.2 23 (by decide)
theorem zm_append {P R f m fu : Nat} {SM : es_St} {k t : Int32} {u : Nat} (hok : z_ok P R) (hf : f < 6) (hm : m < 8192) (m0 : SM.1 0 = nI P) (m1 : SM.1 1 = nI R) (m2 : SM.1 2 = nI u) (hu : u < 100000) (m3 : SM.2 3 f = nI m) (hfull : m % R = 0 → u < P) :
    f_X8_append es_NM fu SM (nI f) k t = some (nI (m + 1), es_wr (es_wr (es_wr (es_F SM 2 (nI (if m % R = 0 then u + 1 else u))) 1 (nI (8192 * f + m)) k) 2 (nI (8192 * f + m)) t) 3 (nI f) (nI (m + 1))) := by
  obtain ⟨a1, a2, a3, a4⟩ := id hok
  have in3 : vp_in (nI f) (es_NM 3) := vp_in_nI (N := es_NM 3) hf (by decide)
  have in1 : vp_in (nI (8192 * f + m)) (es_NM 1) := vp_in_nI (N := es_NM 1) (show 8192 * f + m < 49152 by omega) (by decide)
  have in2 : vp_in (nI (8192 * f + m)) (es_NM 2) := vp_in_nI (N := es_NM 2) (show 8192 * f + m < 49152 by omega) (by decide)
  have hb : 8192 * f + m < 2 ^ 31 := by omega
  have hf31 : f < 2 ^ 31 := by omega
  have tail : ∀ d : Nat, f_X8_append_58 es_NM fu (nI f) k t (nI d) (nI u) SM = some (nI (m + 1), es_wr (es_wr (es_wr (es_F SM 2 (nI (u + d))) 1 (nI (8192 * f + m)) k) 2 (nI (8192 * f + m)) t) 3 (nI f) (nI (m + 1))) := fun d => by
    unfold f_X8_append_58
    simp only [es_lt, nI_add]
    have r1 : es_rd (es_F SM 2 (nI (u + d))) 3 (nI f) = nI m := by rw [z_rd _ _ _ hf31, z_F2]; exact m3
    have r2 : ∀ S : es_St, S.2 3 = SM.2 3 → es_rd S 3 (nI f) = nI m := fun S hS => by rw [z_rd _ _ _ hf31, hS]; exact m3
    rw [es_ck_t in3, r1, zl8192, pk_mul, nI_add, es_ck_t in1, es_ck_t in3, r2 (es_wr (es_F SM 2 (nI (u + d))) 1 (nI (8192 * f + m)) k) (by rw [z_w2b _ _ _ (by decide), z_F2]), nI_add, es_ck_t in2, es_ck_t in3, r2 (es_wr (es_wr (es_F SM 2 (nI (u + d))) 1 (nI (8192 * f + m)) k) 2 (nI (8192 * f + m)) t) (by rw [z_w2b _ _ _ (by decide), z_w2b _ _ _ (by decide), z_F2]), nI_1, es_ck_t in3, es_ck_t in3, z_rd _ _ _ hf31, z_w2a _ _ _ _ hf31, if_pos rfl]
  have hm34 : f_X8_append_34 es_NM fu (nI f) k t SM = some (nI (m + 1), es_wr (es_wr (es_wr (es_F SM 2 (nI (if m % R = 0 then u + 1 else u))) 1 (nI (8192 * f + m)) k) 2 (nI (8192 * f + m)) t) 3 (nI f) (nI (m + 1))) := by
    unfold f_X8_append_34
    simp only [es_lt]
    rw [es_ck_t in3, z_rd _ _ _ hf31, m3, m1, es_ck_t (nI_ne0 (by omega) (by omega)), pk_rem (by omega) (by omega) (by omega), m2]
    have hmod := Nat.mod_lt m (show R > 0 by omega)
    by_cases e : m % R = 0
    · rw [e, if_neg (by decide), if_pos rfl]; exact tail 1
    · rw [if_pos (nI_ne0 (by omega) (by omega)), if_neg e]; exact tail 0
  unfold f_X8_append
  rw [zm_isFile1 hf]
  simp only [es_bd, es_lt]
  rw [if_neg (by decide), es_ck_t in3, z_rd _ _ _ hf31, m3, m1, es_ck_t (nI_ne0 (by omega) (by omega)), pk_rem (by omega) (by omega) (by omega)]
  have hmod := Nat.mod_lt m (show R > 0 by omega)
  by_cases e : m % R = 0
  · rw [if_neg (show ¬ ¬ nI (m % R) = 0 by rw [e]; decide), m2, m0, if_pos (fun y => by have := (nI_eq (by omega) (by omega)).mp y; have := hfull e; omega), hm34]
  · rw [if_pos (nI_ne0 (by omega) (by omega)), hm34]
theorem zm_append_full {P R f m fu : Nat} {SM : es_St} {k t : Int32} (hok : z_ok P R) (hf : f < 6) (hm : m ≤ 8192) (m0 : SM.1 0 = nI P) (m1 : SM.1 1 = nI R) (m2 : SM.1 2 = nI P) (m3 : SM.2 3 f = nI m) (e : m % R = 0) :
    f_X8_append es_NM fu SM (nI f) k t = some (-1, SM) := by
  obtain ⟨a1, a2, a3, a4⟩ := id hok
  unfold f_X8_append
  rw [zm_isFile1 hf]
  simp only [es_bd, es_lt]
  rw [if_neg (by decide), es_ck_t (vp_in_nI (N := es_NM 3) hf (by decide)), z_rd _ _ _ (by omega), m3, m1, es_ck_t (nI_ne0 (by omega) (by omega)), pk_rem (by omega) (by omega) (by omega), e, if_neg (by decide), m2, m0, if_neg (by simp)]
/-- the new record is in both -/
theorem z_M_app {P R f m : Nat} {SM : es_St} {rc rc' : Nat → Nat → z_Rec} {n : Nat → Nat} {fc fc' : Nat} {k t : Int32} (hok : z_ok P R) (hf : f < 6) (hn : n f = m) (hlen : ∀ f', f' < 6 → n f' ≤ 8192) (hm : m < 8192) (h : z_M P R SM rc fc n) (hr : ∀ f' j, f' < 6 → j < n f' → rc' f' j = rc f' j) (hk : rc' f m = (k, t)) (v : Nat) (hv : v = P - fc') :
    z_M P R (es_wr (es_wr (es_wr (es_F SM 2 (nI v)) 1 (nI (8192 * f + m)) k) 2 (nI (8192 * f + m)) t) 3 (nI f) (nI (m + 1))) rc' fc' (z_set1 n f (m + 1)) := by
  obtain ⟨m0, m1, m2, mF⟩ := h
  have hb : 8192 * f + m < 2 ^ 31 := by omega
  refine ⟨?_, ?_, ?_, fun f' hf' => ⟨?_, fun j hj => ?_⟩⟩
  · rw [z_w1, z_w1, z_w1, z_F1, if_neg (by decide)]; exact m0
  · rw [z_w1, z_w1, z_w1, z_F1, if_neg (by decide)]; exact m1
  · rw [z_w1, z_w1, z_w1, z_F1, if_pos rfl, hv]
  · rw [z_w2a _ _ _ _ (by omega), z_w2b _ _ _ (by decide), z_w2b _ _ _ (by decide), z_F2]
    unfold z_set1
    by_cases e : f' = f
    · rw [if_pos e, if_pos e]
    · rw [if_neg e, if_neg e]; exact (mF f' hf').1
  · rw [z_w2b _ _ _ (by decide), z_w2b _ _ _ (by decide), z_w2a _ _ _ _ hb, z_w2b _ _ _ (by decide), z_w2a _ _ _ _ hb, z_w2b _ _ _ (by decide), z_F2]
    unfold z_set1 at hj
    by_cases e : f' = f
    · subst e
      rw [if_pos rfl] at hj
      by_cases ej : j = m
      · subst ej; rw [if_pos rfl, if_pos rfl, hk]; exact ⟨rfl, rfl⟩
      · rw [if_neg (by omega), if_neg (by omega), hr f' j hf' (by omega)]
        exact (mF f' hf').2 j (by omega)
    · rw [if_neg e] at hj
      have := hlen f' hf'
      rw [if_neg (by omega), if_neg (by omega), hr f' j hf' hj]
      exact (mF f' hf').2 j hj
theorem z_sim_append {P R : Nat} {SX SM : es_St} (hok : z_ok P R) (h : z_Rel P R SX SM) (x k t : Int32) : z_Ans P R (f_X7_append (es_NX P R) z_fu SX x k t) (f_X8_append es_NM z_fu SM x k t) := by
  obtain ⟨pg, rc, lo, hi, fc, n, hX, hM, hT⟩ := id h
  have key : x < 0 ∨ 6 ≤ x → z_Ans P R (f_X7_append (es_NX P R) z_fu SX x k t) (f_X8_append es_NM z_fu SM x k t) := fun h1 => by
    unfold f_X7_append f_X8_append
    rw [zx_isFile0 h1, zm_isFile0 h1]
    exact ⟨-1, SX, SM, rfl, rfl, h⟩
  rcases z_file x with h1 | h1 | ⟨f, hf, rfl⟩
  · exact key (Or.inl h1)
  · exact key (Or.inr h1)
  · obtain ⟨l1, l2, l3⟩ := z_len hok hX hf
    have hlen : ∀ f', f' < 6 → n f' ≤ 8192 := fun f' h' => (z_len hok hX h').2.2
    obtain ⟨hD, hF, hW⟩ := id hX
    obtain ⟨d0, d1, dF, dC⟩ := id hD
    obtain ⟨m0, m1, m2, mF⟩ := id hM
    obtain ⟨q1, q2, q3, q4⟩ := hF f hf
    obtain ⟨a1, a2, a3, a4⟩ := id hok
    have hf31 : f < 2 ^ 31 := by omega
    have hmod := Nat.mod_lt (n f) (show R > 0 by omega)
    have hfcP := dF.2.1
    by_cases e : n f % R = 0
    · -- a new page
      by_cases e0 : fc = 0
      · subst e0
        refine ⟨-1, SX, SM, ?_, zm_append_full hok hf l3 m0 m1 m2 (mF f hf).1 e, h⟩
        unfold f_X7_append
        rw [zx_isFile1 hf]
        simp only [es_bd, es_lt, zN10]
        rw [if_pos (by decide), z_ck hf (by decide), z_rd _ _ _ hf31, q3, zx_slotOf hok d1 (by omega)]
        simp only [es_bd]
        rw [e, if_neg (by decide)]
        unfold f_X7_addPage
        rw [zx_take0 dF.1]
        simp only [es_bd]
        rw [if_neg (by decide)]
        rfl
      · obtain ⟨p, p1, p2, p3, p4⟩ := zx_take (fu := z_fu) (w := nI f) hok d0 dF (by omega)
        have hp31 : p < 2 ^ 31 := by omega
        have hlive : ∀ c i, lo c ≤ i → i < hi c → pg c i ≠ p := fun c i a b e => by
          have := (dC.1 c i a b).2
          rw [e, p3] at this
          exact z_ow_m1 c this.symm
        -- the state behind the page was taken and put at the end of the chain
        obtain ⟨S2, s1, s2, s3, s9⟩ : ∃ S2 : es_St, f_X7_addPage (es_NX P R) z_fu SX (nI f) = some (nI p, S2) ∧ z_keep [2, 26] [9, 13, 14] SX S2 ∧ (S2.1 2 = nI (fc - 1) ∧ (∀ q, S2.2 13 q = if q = p then nI f else SX.2 13 q) ∧ (∀ q, q ≠ p → (∀ _ : lo f < hi f, q ≠ pg f (hi f - 1)) → S2.2 14 q = SX.2 14 q) ∧ (lo f < hi f → S2.2 14 (pg f (hi f - 1)) = nI p)) ∧ (∀ q, S2.2 9 q = if q = f ∧ n f = 0 then nI p else SX.2 9 q) := by
          have t1 : ∀ j, j ≠ 2 → j ≠ 26 → (z_tk P SX fc p (nI f)).1 j = SX.1 j := fun j h2 h26 => by simp [z_tk, z_F1, z_w1, h2, h26]
          have t2 : (z_tk P SX fc p (nI f)).1 2 = nI (fc - 1) := by simp [z_tk, z_F1, z_w1]
          have t13 : ∀ q, (z_tk P SX fc p (nI f)).2 13 q = if q = p then nI f else SX.2 13 q := fun q => by simp [z_tk, z_F2, z_w2, z_up, nI_clamp hp31]
          have t14 : ∀ q, (z_tk P SX fc p (nI f)).2 14 q = if q = p then -1 else SX.2 14 q := fun q => by simp [z_tk, z_F2, z_w2, z_up, nI_clamp hp31]
          have tk : ∀ k, k ≠ 13 → k ≠ 14 → (z_tk P SX fc p (nI f)).2 k = SX.2 k := fun k h13 h14 => by simp [z_tk, z_F2, z_w2, h13, h14]
          have kk : z_keep [2, 26] [9, 13, 14] SX (z_tk P SX fc p (nI f)) := ⟨fun g hg => t1 g (by simp at hg; omega) (by simp at hg; omega), fun k hk => tk k (by simp at hk; omega) (by simp at hk; omega)⟩
          unfold f_X7_addPage
          rw [p4]
          simp only [es_bd, es_lt, zN9, zN10]
          rw [if_pos (fun y => (z_m1 hp31).mp y), z_ck hf (by decide), z_rd _ _ _ hf31, tk 10 (by decide) (by decide), q3]
          by_cases en : n f = 0
          · rw [en, if_neg (by decide), z_ck hf (by decide)]
            have hh : ¬ lo f < hi f := by rw [q1, q2, en, z_pgs_0 (by omega)]; omega
            refine ⟨es_wr (z_tk P SX fc p (nI f)) 9 (nI f) (nI p), rfl, z_keep_trans kk (z_keep_w _ 9 _ _ (by simp)), ⟨by rw [z_w1]; exact t2, fun q => by rw [z_w2b _ _ _ (by decide)]; exact t13 q, fun q hq _ => by rw [z_w2b _ _ _ (by decide), t14, if_neg hq], fun y => absurd y hh⟩, fun q => ?_⟩
            rw [z_w2a _ _ _ _ hf31, tk 9 (by decide) (by decide)]
            by_cases eq : q = f
            · rw [if_pos eq, if_pos ⟨eq, rfl⟩]
            · rw [if_neg eq, if_neg (fun y => eq y.1)]
          · rw [if_pos (nI_ne0 (by omega) (by omega)), z_ck hf (by decide), z_rd _ _ _ hf31, tk 9 (by decide) (by decide), q4 (by omega), z_ck hf (by decide)]
            rw [show nI (n f) - 1 = nI (n f - 1) from pk_sub (b := 1) (by omega)]
            have hhi : hi f = n f / R := by rw [q2]; exact z_pgs_div0 (by omega) e
            have hlast : (n f - 1) / R = hi f - 1 := by
              obtain ⟨q, s, w1, w2, w3, w4⟩ := z_split (show 0 < R by omega) (n f)
              have hs0 : s = 0 := by omega
              have hq1 : 1 ≤ q := by
                rcases Nat.eq_zero_or_pos q with z | z
                · rw [z, hs0, Nat.mul_zero] at w2; omega
                · exact z
              rw [hhi, w3, show n f - 1 = R * (q - 1) + (R - 1) by rw [w2, hs0, Nat.mul_sub, Nat.mul_one]; have : R ≤ R * q := Nat.le_mul_of_pos_right R hq1; omega, z_dv (by omega)]
            have hpos : 0 < hi f := by
              have := z_pgs_lt (show 0 < R by omega) (show n f - 1 < n f by omega)
              rw [q2]; omega
            rw [zx_pageOf' (pg f) (hi f) hok z_fu_ge (by rw [t1 0 (by decide) (by decide)]; exact d0) (by rw [t1 1 (by decide) (by decide)]; exact d1) (fun i hi' => (dC.1 f i (by omega) hi').1) (fun i hi' => by rw [t14, if_neg (hlive f i (by omega) (by omega))]; exact dC.2.2.1 f i (by omega) hi') (by rw [hlast]; omega) (by omega), hlast]
            simp only [es_bd]
            have hpl := dC.1 f (hi f - 1) (by omega) (by omega)
            rw [zx_link hok (by rw [t1 0 (by decide) (by decide)]; exact d0) hpl.1]
            simp only [es_bd]
            have hpl31 : pg f (hi f - 1) < 2 ^ 31 := by have := hpl.1; omega
            refine ⟨es_wr (z_tk P SX fc p (nI f)) 14 (nI (pg f (hi f - 1))) (nI p), rfl, z_keep_trans kk (z_keep_w _ 14 _ _ (by simp)), ⟨by rw [z_w1]; exact t2, fun q => by rw [z_w2b _ _ _ (by decide)]; exact t13 q, fun q hq hq2 => ?_, fun y => ?_⟩, fun q => ?_⟩
            · rw [z_w2a _ _ _ _ hpl31, if_neg (hq2 (by omega)), t14, if_neg hq]
            · rw [z_w2a _ _ _ _ hpl31, if_pos rfl]
            · rw [z_w2b _ _ _ (by decide), tk 9 (by decide) (by decide), if_neg (fun y => en y.2)]
        obtain ⟨s21, s22, s23, s24⟩ := s3
        have u0 : S2.1 0 = nI P := (s2.1 0 (by decide)).trans d0
        have u1 : S2.1 1 = nI R := (s2.1 1 (by decide)).trans d1
        have hpR : p * R < 2 ^ 31 := by have := z_cell p1 (show 0 < R by omega); have := z_PR hok; omega
        -- the final state
        obtain ⟨S3, hS3⟩ : ∃ S3 : es_St, S3 = es_wr (es_wr (es_wr S2 11 (nI (p * R)) k) 12 (nI (p * R)) t) 10 (nI f) (nI (n f + 1)) := ⟨_, rfl⟩
        have hhi0 : hi f = n f / R := by rw [q2]; exact z_pgs_div0 (by omega) e
        have e11 : ∀ q, S3.2 11 q = if q = p * R then k else SX.2 11 q := fun q => by rw [hS3, z_w2b _ _ _ (by decide), z_w2b _ _ _ (by decide), z_w2a _ _ _ _ hpR, s2.2 11 (by decide)]
        have e12 : ∀ q, S3.2 12 q = if q = p * R then t else SX.2 12 q := fun q => by rw [hS3, z_w2b _ _ _ (by decide), z_w2a _ _ _ _ hpR, z_w2b _ _ _ (by decide), s2.2 12 (by decide)]
        have ek : ∀ k, k ≠ 10 → k ≠ 11 → k ≠ 12 → S3.2 k = S2.2 k := fun k z1 z2 z3 => by rw [hS3, z_w2b _ _ _ z1, z_w2b _ _ _ z3, z_w2b _ _ _ z2]
        have ef : S3.1 = S2.1 := by rw [hS3, z_w1, z_w1, z_w1]
        have hD3 := z_DI_grow f p (fun s => (S3.2 11 (p * R + s), S3.2 12 (p * R + s))) hD (by omega) (by omega) p2 p1 (by omega) (by omega) (S' := S3) (by rw [ef]; exact s2.1 0 (by decide)) (by rw [ef]; exact s2.1 1 (by decide)) (by rw [ef]; exact s21) (by rw [ek 15 (by decide) (by decide) (by decide)]; exact s2.2 15 (by decide)) (fun q => by rw [ek 13 (by decide) (by decide) (by decide), z_ow_lt hf]; exact s22 q) (fun q y1 y2 => by rw [ek 14 (by decide) (by decide) (by decide)]; exact s23 q y1 y2) (fun y => by rw [ek 14 (by decide) (by decide) (by decide)]; exact s24 y) (fun q s hs hq => by
          have : ¬ q * R + s = p * R := fun y => hq (z_cell_inj (R := R) hs (show 0 < R by omega) (by rw [y, Nat.add_zero])).1
          rw [e11, e12, if_neg this, if_neg this]; exact ⟨rfl, rfl⟩) (fun s _ => ⟨rfl, rfl⟩)
        have hX3 : z_X P R S3 (z_set2 pg f (hi f) p) (fun c' j => if c' = f ∧ j / R = hi f then (S3.2 11 (p * R + j % R), S3.2 12 (p * R + j % R)) else rc c' j) lo (z_set1 hi f (hi f + 1)) (fc - 1) (z_set1 n f (n f + 1)) := by
          refine ⟨hD3, fun f' hf' => ?_, fun c hc => ?_⟩
          · obtain ⟨w1, w2, w3, w4⟩ := hF f' hf'
            have e10 : S3.2 10 f' = if f' = f then nI (n f + 1) else SX.2 10 f' := by rw [hS3, z_w2a _ _ _ _ hf31, z_w2b _ _ _ (by decide), z_w2b _ _ _ (by decide), s2.2 10 (by decide)]
            unfold z_set1 z_set2
            by_cases ef' : f' = f
            · subst ef'
              rw [if_pos rfl, if_pos rfl, e10, if_pos rfl, z_pgs_succ0 (by omega) e]
              refine ⟨w1, by rw [w2], rfl, fun _ => ?_⟩
              rw [ek 9 (by decide) (by decide) (by decide), s9]
              by_cases en : n f' = 0
              · rw [if_pos ⟨rfl, en⟩, if_pos ⟨rfl, by rw [w2, en, z_pgs_0 (by omega)]⟩]
              · have : ¬ (0 : Nat) = hi f' := fun y => by have := z_pgs_lt (show 0 < R by omega) (show 0 < n f' by omega); rw [w2] at y; rw [Nat.zero_div] at this; omega
                rw [if_neg (fun y => en y.2), if_neg (fun y => this y.2)]; exact w4 (by omega)
            · rw [if_neg ef', if_neg ef', e10, if_neg ef']
              refine ⟨w1, w2, w3, fun y => ?_⟩
              rw [ek 9 (by decide) (by decide) (by decide), s9, if_neg (fun z => ef' z.1), if_neg (fun z => ef' z.1)]; exact w4 y
          · unfold z_set1; rw [if_neg (by omega)]; exact hW c hc
        have hlen3 := (z_len hok hX3 hf).2.2
        unfold z_set1 at hlen3
        rw [if_pos rfl] at hlen3
        refine ⟨nI (n f + 1), S3, _, ?_, zm_append hok hf (by omega) m0 m1 m2 (by omega) (mF f hf).1 (fun _ => by omega), _, _, _, _, _, _, hX3, ?_, ?_⟩
        · unfold f_X7_append
          rw [zx_isFile1 hf]
          simp only [es_bd, es_lt, zN10]
          rw [if_pos (by decide), z_ck hf (by decide), z_rd _ _ _ hf31, q3, zx_slotOf hok d1 (by omega)]
          simp only [es_bd]
          rw [e, if_neg (by decide), s1]
          simp only [es_bd]
          unfold f_X7_append_56
          rw [if_pos (fun y => (z_m1 hp31).mp y), zx_store hok u0 u1 p1 (show 0 < R by omega), Nat.add_zero]
          simp only [es_bd, es_lt, nI_1, zN10]
          rw [z_ck hf (by decide), hS3]
        · refine z_M_app hok hf rfl hlen (by omega) hM (fun f' j hf' hj => ?_) ?_ _ ?_
          · rw [if_neg]
            intro y
            obtain ⟨y1, y2⟩ := y
            subst y1
            have := z_pgs_lt (show 0 < R by omega) hj
            rw [← q2] at this; omega
          · rw [if_pos ⟨rfl, hhi0.symm⟩, e, Nat.add_zero, e11, e12, if_pos rfl, if_pos rfl]
          · rw [if_pos e]; omega
        · refine z_T_keep hT ?_ ?_ ?_ ?_ ?_ ?_ ?_ ?_ ?_
          · rw [ef]; exact s2.1 27 (by decide)
          · rw [ef]; exact s2.1 28 (by decide)
          · rw [ef]; exact s2.1 29 (by decide)
          · rw [ef]; exact s2.1 30 (by decide)
          · rw [ef]; exact s2.1 31 (by decide)
          · rw [ek 23 (by decide) (by decide) (by decide)]; exact s2.2 23 (by decide)
          · rw [z_w2b _ _ _ (by decide), z_w2b _ _ _ (by decide), z_w2b _ _ _ (by decide), z_F2]
          · rw [z_w1, z_w1, z_w1, z_F1, if_neg (by decide)]
          · rw [z_w2b _ _ _ (by decide), z_w2b _ _ _ (by decide), z_w2b _ _ _ (by decide), z_F2]
    · -- into the last page
      have hdv : n f / R < hi f := by rw [q2, z_pgs_div1 (by omega) e]; omega
      have hnn : n f / R * R + n f % R = n f := by rw [Nat.mul_comm]; exact Nat.div_add_mod _ _
      have hpp := dC.1 f (n f / R) (by rw [q1]; exact Nat.zero_le _) hdv
      have hcell : pg f (n f / R) * R + n f % R < 2 ^ 31 := by have := z_cell hpp.1 hmod; have := z_PR hok; omega
      have hpos : 0 < n f := by
        rcases Nat.eq_zero_or_pos (n f) with z | z
        · rw [z, Nat.zero_mod] at e; exact absurd rfl e
        · exact z
      obtain ⟨S3, hS3⟩ : ∃ S3 : es_St, S3 = es_wr (es_wr (es_wr SX 11 (nI (pg f (n f / R) * R + n f % R)) k) 12 (nI (pg f (n f / R) * R + n f % R)) t) 10 (nI f) (nI (n f + 1)) := ⟨_, rfl⟩
      have ek : ∀ k, k ≠ 10 → k ≠ 11 → k ≠ 12 → S3.2 k = SX.2 k := fun k z1 z2 z3 => by rw [hS3, z_w2b _ _ _ z1, z_w2b _ _ _ z3, z_w2b _ _ _ z2]
      have ef : S3.1 = SX.1 := by rw [hS3, z_w1, z_w1, z_w1]
      have hD3 := z_DI_put f (n f / R) (n f % R) (k, t) hD (by rw [q1]; exact Nat.zero_le _) hdv hmod (S' := S3) (by rw [ef]) (by rw [ef]) (by rw [ef]) (fun q => by rw [hS3, z_w2b _ _ _ (by decide), z_w2b _ _ _ (by decide), z_w2a _ _ _ _ hcell]) (fun q => by rw [hS3, z_w2b _ _ _ (by decide), z_w2a _ _ _ _ hcell, z_w2b _ _ _ (by decide)]) (ek 13 (by decide) (by decide) (by decide)) (ek 14 (by decide) (by decide) (by decide)) (ek 15 (by decide) (by decide) (by decide))
      rw [hnn] at hD3
      have hX3 : z_X P R S3 pg (z_set2 rc f (n f) (k, t)) lo hi fc (z_set1 n f (n f + 1)) := by
        refine ⟨hD3, fun f' hf' => ?_, hW⟩
        obtain ⟨w1, w2, w3, w4⟩ := hF f' hf'
        have e10 : S3.2 10 f' = if f' = f then nI (n f + 1) else SX.2 10 f' := by rw [hS3, z_w2a _ _ _ _ hf31, z_w2b _ _ _ (by decide), z_w2b _ _ _ (by decide)]
        unfold z_set1
        by_cases ef' : f' = f
        · subst ef'
          rw [if_pos rfl, e10, if_pos rfl, z_pgs_succ1 (by omega) e, ek 9 (by decide) (by decide) (by decide)]
          exact ⟨w1, w2, rfl, fun _ => w4 hpos⟩
        · rw [if_neg ef', e10, if_neg ef', ek 9 (by decide) (by decide) (by decide)]
          exact ⟨w1, w2, w3, w4⟩
      have hlen3 := (z_len hok hX3 hf).2.2
      unfold z_set1 at hlen3
      rw [if_pos rfl] at hlen3
      refine ⟨nI (n f + 1), S3, _, ?_, zm_append hok hf (by omega) m0 m1 m2 (by omega) (mF f hf).1 (fun y => absurd y e), _, _, _, _, _, _, hX3, ?_, ?_⟩
      · unfold f_X7_append
        rw [zx_isFile1 hf]
        simp only [es_bd, es_lt, zN10, zN9]
        rw [if_pos (by decide), z_ck hf (by decide), z_rd _ _ _ hf31, q3, zx_slotOf hok d1 (by omega)]
        simp only [es_bd]
        rw [if_pos (nI_ne0 (by omega) (by omega)), z_ck hf (by decide), z_rd _ _ _ hf31, q4 hpos, zx_pageOf f hok z_fu_ge d0 d1 dC q1 hdv (by omega)]
        simp only [es_bd]
        unfold f_X7_append_56
        have hp31 : pg f (n f / R) < 2 ^ 31 := by have := hpp.1; omega
        rw [if_pos (fun y => (z_m1 hp31).mp y), zx_store hok d0 d1 hpp.1 hmod]
        simp only [es_bd, es_lt, nI_1, zN10]
        rw [z_ck hf (by decide), hS3]
      · refine z_M_app hok hf rfl hlen (by omega) hM (fun f' j hf' hj => ?_) ?_ _ ?_
        · unfold z_set2
          rw [if_neg (fun y => by obtain ⟨y1, y2⟩ := y; subst y1; omega)]
        · unfold z_set2; rw [if_pos ⟨rfl, rfl⟩]
        · rw [if_neg e]
      · refine z_T_keep hT ?_ ?_ ?_ ?_ ?_ ?_ ?_ ?_ ?_
        · rw [ef]
        · rw [ef]
        · rw [ef]
        · rw [ef]
        · rw [ef]
        · exact ek 23 (by decide) (by decide) (by decide)
        · rw [z_w2b _ _ _ (by decide), z_w2b _ _ _ (by decide), z_w2b _ _ _ (by decide), z_F2]
        · rw [z_w1, z_w1, z_w1, z_F1, if_neg (by decide)]
        · rw [z_w2b _ _ _ (by decide), z_w2b _ _ _ (by decide), z_w2b _ _ _ (by decide), z_F2]
