/-! ===== drop, append ===== -/
theorem z_T_keep {P : Nat} {SX SM SX' SM' : es_St} (h : z_T P SX SM) (e27 : SX'.1 27 = SX.1 27) (e28 : SX'.1 28 = SX.1 28) (e29 : SX'.1 29 = SX.1 29) (e30 : SX'.1 30 = SX.1 30) (e31 : SX'.1 31 = SX.1 31) (e23 : SX'.2 23 = SX.2 23) (m12 : SM'.2 12 = SM.2 12) (m15 : SM'.1 15 = SM.1 15) (m13 : SM'.2 13 = SM.2 13) : z_T P SX' SM' := by
  unfold z_T at *
  rw [e27, e28, e29, e30, e31, e23, m12, m15, m13]
  exact h
theorem z_w2a (S : es_St) (k i : Nat) (x : Int32) (hi : i < 2 ^ 31) (q : Nat) : (es_wr S k (nI i) x).2 k q = if q = i then x else S.2 k q := by
  rw [z_w2, if_pos rfl, z_up, nI_clamp hi]
theorem z_w2b (S : es_St) {k j : Nat} (i x : Int32) (h : j ≠ k) : (es_wr S k i x).2 j = S.2 j := by rw [z_w2, if_neg h]
theorem zm_pagesOf {R n fu : Nat} {N : Nat → Nat} {S : es_St} (hR : 1 ≤ R ∧ R ≤ 16) (h1 : S.1 1 = nI R) (hn : n < 2 ^ 30) : f_X8_pagesOf N fu S (nI n) = some (nI (z_pgs R n), S) := by
  unfold f_X8_pagesOf z_pgs
  rw [h1, es_ck_t (nI_ne0 (by omega) (by omega)), nI_add, show nI (n + R) - 1 = nI (n + R - 1) from pk_sub (b := 1) (by omega), pk_div (by omega) (by omega) (by omega)]
theorem z_sim_drop {P R : Nat} {SX SM : es_St} (hok : z_ok P R) (h : z_Rel P R SX SM) (x : Int32) : z_Ans P R (f_X7_drop (es_NX P R) z_fu SX x) (f_X8_drop es_NM z_fu SM x) := by
  obtain ⟨pg, rc, lo, hi, fc, n, hX, hM, hT⟩ := id h
  have key : x < 0 ∨ 6 ≤ x → z_Ans P R (f_X7_drop (es_NX P R) z_fu SX x) (f_X8_drop es_NM z_fu SM x) := fun h1 => by
    unfold f_X7_drop f_X8_drop
    rw [zx_isFile0 h1, zm_isFile0 h1]
    exact ⟨-1, SX, SM, rfl, rfl, h⟩
  rcases z_file x with h1 | h1 | ⟨f, hf, rfl⟩
  · exact key (Or.inl h1)
  · exact key (Or.inr h1)
  · obtain ⟨l1, l2, l3⟩ := z_len hok hX hf
    obtain ⟨hD, hF, hW⟩ := id hX
    obtain ⟨m0, m1, m2, mF⟩ := id hM
    obtain ⟨q1, q2, q3, q4⟩ := hF f hf
    have hR := hok.2.2.1
    have hPb := hok.2.1
    have hD1 : z_DI P R (es_wr (es_wr SX 9 (nI f) (-1)) 10 (nI f) 0) pg rc lo hi fc := z_DI_same hD ⟨rfl, rfl, rfl, rfl, rfl, rfl, rfl, rfl⟩
    obtain ⟨S', g1, g2, g3, g4⟩ := zx_releaseAll (fu := z_fu) (w := nI f) hok (by decide) (fun e => (z_m1 (by omega)).mp e) hD1.1 hD1.2.2.1
    have hcnt : z_cnt (fun q => (es_wr (es_wr SX 9 (nI f) (-1)) 10 (nI f) 0).2 13 q = nI f) P = z_pgs R (n f) := by
      rw [z_CH_cnt hD1.2.2.2 f (nI f) (z_ow_lt hf).symm (fun c hc e => absurd (z_ow_eq hf e) hc), q1, q2, Nat.sub_zero]
    rw [hcnt] at g1 g3
    have hD2 := z_DI_kill (nI f) (fun e => (z_m1 (by omega)).mp e) hD1 (g2.1 0 (by decide)) (g2.1 1 (by decide)) g3 (g2.2 11 (by decide)) (g2.2 12 (by decide)) g4 (g2.2 14 (by decide))
    have hfc := g3.2.1
    refine ⟨nI (z_pgs R (n f)), S', es_F (es_wr SM 3 (nI f) 0) 2 (nI (P - (fc + z_pgs R (n f)))), ?_, ?_, pg, rc, z_set1 lo f 0, z_set1 hi f 0, fc + z_pgs R (n f), z_set1 n f 0, ⟨?_, ?_, ?_⟩, ⟨?_, ?_, ?_, ?_⟩, ?_⟩
    · unfold f_X7_drop
      rw [zx_isFile1 hf]
      simp only [es_bd, es_lt, zN9, zN10]
      rw [if_pos (by decide), z_ck hf (by decide), z_ck hf (by decide), g1]
    · unfold f_X8_drop
      rw [zm_isFile1 hf]
      simp only [es_bd, es_lt]
      rw [if_pos (by decide), es_ck_t (vp_in_nI (N := es_NM 3) hf (by decide)), z_rd _ _ _ (by omega), (mF f hf).1, zm_pagesOf hok.2.2 m1 (by omega)]
      simp only [es_bd]
      rw [es_ck_t (vp_in_nI (N := es_NM 3) hf (by decide)), z_w1, m2, pk_sub (by omega), show P - fc - z_pgs R (n f) = P - (fc + z_pgs R (n f)) by omega]
    · refine z_DI_re hD2 (fun c i => ?_) (fun _ _ _ _ => rfl) (fun _ _ _ _ _ _ => rfl)
      unfold z_set1
      by_cases e : c = f
      · rw [if_pos e, if_pos e]
        have : z_ow c = nI f := by rw [e]; exact z_ow_lt hf
        rw [if_pos this]; omega
      · rw [if_neg e, if_neg e, if_neg (fun y => e (z_ow_eq hf y))]
    · intro f' hf'
      unfold z_set1
      by_cases e : f' = f
      · rw [if_pos e, if_pos e, if_pos e]
        refine ⟨rfl, (z_pgs_0 hR).symm, ?_, fun y => absurd y (by omega)⟩
        rw [g2.2 10 (by decide), e, z_w2a _ _ _ _ (by omega), if_pos rfl]; rfl
      · rw [if_neg e, if_neg e, if_neg e]
        obtain ⟨u1, u2, u3, u4⟩ := hF f' hf'
        refine ⟨u1, u2, ?_, fun y => ?_⟩
        · rw [g2.2 10 (by decide), z_w2a _ _ _ _ (by omega), if_neg e, z_w2b _ _ _ (by decide)]; exact u3
        · rw [g2.2 9 (by decide), z_w2b _ _ _ (by decide), z_w2a _ _ _ _ (by omega), if_neg e]; exact u4 y
    · intro c hc
      unfold z_set1
      rw [if_neg (by omega), if_neg (by omega)]
      exact hW c hc
    · rw [z_F1, if_neg (by decide), z_w1]; exact m0
    · rw [z_F1, if_neg (by decide), z_w1]; exact m1
    · rw [z_F1, if_pos rfl]
    · intro f' hf'
      rw [z_F2]
      unfold z_set1
      by_cases e : f' = f
      · rw [if_pos e]
        refine ⟨?_, fun j hj => absurd hj (by omega)⟩
        rw [e, z_w2a _ _ _ _ (by omega), if_pos rfl]; rfl
      · rw [if_neg e]
        obtain ⟨u1, u2⟩ := mF f' hf'
        refine ⟨?_, fun j hj => ?_⟩
        · rw [z_w2a _ _ _ _ (by omega), if_neg e]; exact u1
        · rw [z_w2b _ _ _ (by decide), z_w2b _ _ _ (by decide)]; exact u2 j hj
    · refine z_T_keep hT ?_ ?_ ?_ ?_ ?_ ?_ rfl rfl rfl
      · exact g2.1 27 (by decide)
      · exact g2.1 28 (by decide)
      · exact g2.1 29 (by decide)
      · exact g2.1 30 (by decide)
      · exact g2.1 31 (by decide)
      · exact g2.2 23 (by decide)
