/-! ===== building the tree ===== -/
theorem z_PT_up {L : Nat → Int32} {it : Nat → z_I4} {n : Nat} {A : Nat → Prop} {w : Nat → Nat} (h : z_PT L it n A w) : ∀ m, 1 ≤ m → m < 2 * n → ¬ A m → ¬ A 1 := by
  intro m
  induction m using Nat.strongRecOn with
  | _ m ih =>
    intro a b c
    by_cases e : m = 1
    · rw [e] at c; exact c
    · refine ih (m / 2) (by omega) (by omega) (by omega) (fun hA => c ?_)
      have := (h.2.1 (m / 2) (by omega) (by omega)).1.mp hA
      rcases Nat.mod_two_eq_zero_or_one m with z | z
      · rw [show m = 2 * (m / 2) by omega]; exact this.1
      · rw [show m = 2 * (m / 2) + 1 by omega]; exact this.2
theorem z_PT_PX {L : Nat → Int32} {it : Nat → z_I4} {n i : Nat} {A : Nat → Prop} {w : Nat → Nat} (h : z_PT L it n A w) (hi : i < n) (hA : ¬ A (n + i)) : z_PX L it n (fun k => A k ∨ k = n + i) w (n + i) := by
  have hno := z_PT_up h (n + i) (by omega) (by omega) hA
  refine ⟨h.1, fun k a b hk => ?_, fun k a b hAk => ?_, by omega, by omega, Or.inr rfl, fun hm hA1 => ?_, fun hq => ?_⟩
  · exact z_node_keep (h.2.1 k a b) rfl ⟨fun y => y.resolve_right (by omega), Or.inl⟩ ⟨fun y => y.resolve_right (by omega), Or.inl⟩ ⟨fun y => y.resolve_right (by omega), Or.inl⟩ (fun _ => rfl) rfl rfl
  · by_cases e : k = n + i
    · subst e
      rw [h.1 i hi]
      exact ⟨hi, 0, by simp⟩
    · exact h.2.2.1 k a b (hAk.resolve_right e)
  · rcases hA1 with z | z
    · exact hno z
    · exact hm z.symm
  · have hnd := h.2.1 ((n + i) / 2) hq (by omega)
    refine ⟨fun hAk => ?_, fun s hs hsm => ?_⟩
    · rcases hAk with z | z
      · have := hnd.1.mp z
        rcases Nat.mod_two_eq_zero_or_one (n + i) with u | u
        · rw [show 2 * ((n + i) / 2) = n + i by omega] at this; exact hA this.1
        · rw [show 2 * ((n + i) / 2) + 1 = n + i by omega] at this; exact hA this.2
      · omega
    · rcases Nat.mod_two_eq_zero_or_one (n + i) with u | u
      · have em : 2 * ((n + i) / 2) = n + i := by omega
        have es : s = 2 * ((n + i) / 2) + 1 := by omega
        rw [es]
        exact ⟨fun y => hnd.2.2.2.1 (by rw [em]; exact hA) (y.resolve_right (by omega)), fun y => hnd.2.2.2.2 (by rw [em]; exact hA) (fun z => y (Or.inl z))⟩
      · have em : 2 * ((n + i) / 2) + 1 = n + i := by omega
        have es : s = 2 * ((n + i) / 2) := by omega
        rw [es]
        exact ⟨fun y => hnd.2.2.1 (y.resolve_right (by omega)) (by rw [em]; exact hA), fun y => hnd.2.2.2.2 (fun z => y (Or.inl z)) (by rw [em]; exact hA)⟩
theorem zx_build_25 {P R n : Nat} (hok : z_ok P R) (hn : n ≤ es_T R) : ∀ (f i : Nat) (S : es_St) (A : Nat → Prop) (w : Nat → Nat), i ≤ n → n - i < f → S.1 32 = nI n → (∀ i j, i < n → j < n → i ≠ j → S.2 33 i ≠ S.2 33 j) → z_PT (S.2 34) (z_it S) n A w → (∀ j, j < n → (A (n + j) ↔ j < i)) →
    ∃ (S' : es_St) (A' : Nat → Prop) (w' : Nat → Nat), f_X3_build_25 (es_NX P R) z_fu f (nI i) S = some (0, S') ∧ z_keep [] [34] S S' ∧ z_PT (S'.2 34) (z_it S') n A' w' ∧ ∀ j, j < n → A' (n + j) := by
  have hT := es_TR hok.2.2
  intro f
  induction f with
  | zero => intro i S A w _ h; exact absurd h (by omega)
  | succ f ih =>
    intro i S A w hi hf h32 hd hpt hA
    rw [f_X3_build_25, h32]
    by_cases e : i = n
    · subst e
      rw [if_pos (nI_le (Nat.le_refl _) (by omega))]
      exact ⟨S, A, w, rfl, z_keep_rfl, hpt, fun j hj => (hA j hj).mpr hj⟩
    · rw [if_neg (nI_ge (show i < n by omega) (by omega))]
      have hx := z_PT_PX hpt (show i < n by omega) (fun y => by have := (hA i (by omega)).mp y; omega)
      obtain ⟨S2, A2, w2, g1, g2, g3, g4⟩ := zx_climb_loop (fu := z_fu) hok hn z_fu (n + i) i S _ w (by have := z_fu_ge; omega) (hpt.1 i (by omega)).symm h32 hd hx
      have hc : f_X3_climb (es_NX P R) z_fu S (nI i) = some (0, S2) := by
        unfold f_X3_climb
        rw [zx_isLeaf h32 (by omega) (show i < n by omega)]
        simp only [es_bd, es_lt]
        rw [if_pos (by decide), h32, nI_add, show nI (n + i) / 2 = nI ((n + i) / 2) from pk_div (d := 2) (by omega) (by decide) (by decide)]
        exact g1
      rw [hc]
      simp only [es_bd, es_lt, nI_1]
      obtain ⟨S', A', w', k1, k2, k3, k4⟩ := ih (i + 1) S2 A2 w2 (by omega) (by omega) ((g2.1 32 (by decide)).trans h32) (by rw [g2.2 33 (by decide)]; exact hd) g3 (fun j hj => by
        rw [g4 (n + j) (by omega), hA j hj]; omega)
      exact ⟨S', A', w', k1, z_keep_trans g2 k2, k3, k4⟩
theorem zx_build_2 {P R n : Nat} (hok : z_ok P R) (hn : n ≤ es_T R) : ∀ (f i : Nat) (S : es_St), i ≤ n → n - i < f → S.1 32 = nI n → (∀ k, k < i → S.2 34 k = -1) →
    ∃ S1 : es_St, f_X3_build_2 (es_NX P R) z_fu f (nI i) S = f_X3_build_25 (es_NX P R) z_fu z_fu (nI 0) S1 ∧ z_keep [] [34] S S1 ∧ ∀ k, k < n → S1.2 34 k = -1 := by
  have hT := es_TR hok.2.2
  intro f
  induction f with
  | zero => intro i S _ h; exact absurd h (by omega)
  | succ f ih =>
    intro i S hi hf h32 hL
    rw [f_X3_build_2, h32]
    by_cases e : i = n
    · subst e
      rw [if_pos (nI_le (Nat.le_refl _) (by omega))]
      exact ⟨S, rfl, z_keep_rfl, hL⟩
    · rw [if_neg (nI_ge (show i < n by omega) (by omega))]
      simp only [es_lt, zN34, nI_1]
      rw [z_ck (show i < es_T R by omega) (by omega)]
      obtain ⟨S1, g1, g2, g3⟩ := ih (i + 1) (es_wr S 34 (nI i) (-1)) (by omega) (by omega) (by rw [z_w1]; exact h32) (fun k hk => by
        rw [z_w2a _ _ _ _ (by omega)]
        by_cases ek : k = i
        · rw [if_pos ek]
        · rw [if_neg ek]; exact hL k (by omega))
      exact ⟨S1, g1, z_keep_trans (z_keep_w S 34 _ _ (by simp)) g2, g3⟩
theorem z_it_keep {S S' : es_St} (h : z_keep [] [34] S S') : z_it S' = z_it S := by
  funext i
  unfold z_it
  rw [h.1 33 (by decide), h.2 30 (by decide), h.2 31 (by decide), h.2 32 (by decide), h.2 33 (by decide)]
theorem zx_build {P R n : Nat} {S : es_St} (hok : z_ok P R) (hn : n ≤ es_T R) (h32 : S.1 32 = nI n) (hd : ∀ i j, i < n → j < n → i ≠ j → S.2 33 i ≠ S.2 33 j) : ∃ (S' : es_St) (b : Nat), f_X3_build (es_NX P R) z_fu S = some (0, S') ∧ z_keep [] [34] S S' ∧ z_FT S' n b := by
  have hT := es_TR hok.2.2
  obtain ⟨S1, g1, g2, g3⟩ := zx_build_2 hok hn z_fu 0 S (by omega) (by have := z_fu_ge; omega) h32 (fun k hk => absurd hk (by omega))
  obtain ⟨S2, A', w', k1, k2, k3, k4⟩ := zx_build_25 hok hn z_fu 0 S1 (fun _ => False) (fun k => k - n) (by omega) (by have := z_fu_ge; omega) ((g2.1 32 (by decide)).trans h32) (by rw [g2.2 33 (by decide)]; exact hd) ⟨fun i hi => by show n + i - n = i; omega, fun k a b => ⟨⟨fun y => y.elim, fun y => y.1.elim⟩, fun y => y.elim, fun y => y.elim, fun _ y => y.elim, fun _ _ => g3 k b⟩, fun _ _ _ y => y.elim, fun y => y.elim⟩ (fun j hj => ⟨fun y => y.elim, fun y => by omega⟩)
  refine ⟨S2, w' 1, ?_, z_keep_trans g2 k2, A', w', k3, k4, rfl⟩
  unfold f_X3_build
  exact g1.trans k1
theorem zx_winner {P R n b : Nat} {S : es_St} (hok : z_ok P R) (hn0 : 0 < n) (hn : n ≤ es_T R) (h32 : S.1 32 = nI n) (h : z_FT S n b) : f_X3_winner (es_NX P R) z_fu S = some (nI b, S) := by
  have hT := es_TR hok.2.2
  unfold f_X3_winner
  rw [h32, if_neg (show ¬ nI n ≤ 0 from nI_nle hn0 (by omega))]
  simp only [es_lt, zN34]
  rw [show es_ck (vp_in 0 (es_T R)) _ = _ from z_ck (i := 0) (show 0 < es_T R by omega) (by omega), zl0, z_rd _ _ _ (by decide), (z_FT_best hn0 h).2.1]
theorem zx_roundOf {P R n i : Nat} {S : es_St} (hok : z_ok P R) (hn : n ≤ es_T R) (h32 : S.1 32 = nI n) (hi : i < n) : f_X3_roundOf (es_NX P R) z_fu S (nI i) = some (S.2 30 i, S) := by
  have hT := es_TR hok.2.2
  unfold f_X3_roundOf
  rw [zx_isLeaf h32 (by omega) hi]
  simp only [es_bd, es_lt, zN30]
  rw [if_neg (by decide), z_ck (show i < es_T R by omega) (by omega), z_rd _ _ _ (by omega)]
theorem zx_keyOf {P R n i : Nat} {S : es_St} (hok : z_ok P R) (hn : n ≤ es_T R) (h32 : S.1 32 = nI n) (hi : i < n) : f_X3_keyOf (es_NX P R) z_fu S (nI i) = some (S.2 31 i, S) := by
  have hT := es_TR hok.2.2
  unfold f_X3_keyOf
  rw [zx_isLeaf h32 (by omega) hi]
  simp only [es_bd, es_lt, zN31]
  rw [if_neg (by decide), z_ck (show i < es_T R by omega) (by omega), z_rd _ _ _ (by omega)]
theorem zx_tagOf {P R n i : Nat} {S : es_St} (hok : z_ok P R) (hn : n ≤ es_T R) (h32 : S.1 32 = nI n) (hi : i < n) : f_X3_tagOf (es_NX P R) z_fu S (nI i) = some (S.2 32 i, S) := by
  have hT := es_TR hok.2.2
  unfold f_X3_tagOf
  rw [zx_isLeaf h32 (by omega) hi]
  simp only [es_bd, es_lt, zN32]
  rw [if_neg (by decide), z_ck (show i < es_T R by omega) (by omega), z_rd _ _ _ (by omega)]
theorem zx_enter {P R n i : Nat} {S : es_St} {r k t a : Int32} (hok : z_ok P R) (hn : n ≤ es_T R) (h32 : S.1 32 = nI n) (hi : i < n) : f_X3_enter (es_NX P R) z_fu S (nI i) r k t a = some (0, es_wr (es_wr (es_wr (es_wr S 30 (nI i) r) 31 (nI i) k) 32 (nI i) t) 33 (nI i) a) := by
  have hT := es_TR hok.2.2
  unfold f_X3_enter
  rw [zx_isLeaf h32 (by omega) hi]
  simp only [es_bd, es_lt, zN30, zN31, zN32, zN33]
  rw [if_neg (by decide), z_ck (show i < es_T R by omega) (by omega), z_ck (show i < es_T R by omega) (by omega), z_ck (show i < es_T R by omega) (by omega), z_ck (show i < es_T R by omega) (by omega)]
theorem zx_retire {P R n i : Nat} {S : es_St} (hok : z_ok P R) (hn : n ≤ es_T R) (h32 : S.1 32 = nI n) (hi : i < n) : f_X3_retire (es_NX P R) z_fu S (nI i) = some (0, es_wr S 30 (nI i) (nI 2147483647)) := by
  have hT := es_TR hok.2.2
  unfold f_X3_retire
  rw [zx_isLeaf h32 (by omega) hi]
  simp only [es_bd, es_lt, zN30]
  rw [if_neg (by decide), z_ck (show i < es_T R by omega) (by omega)]
  rfl
theorem zx_tbegin {P R n : Nat} {S : es_St} {md : Int32} (hok : z_ok P R) (hn : n ≤ es_T R) : f_X3_begin (es_NX P R) z_fu S (nI n) md = some (0, es_F (es_F S 32 (nI n)) 33 md) := by
  have hT := es_TR hok.2.2
  unfold f_X3_begin
  simp only [es_lt, zN34]
  rw [if_neg (nI_nlt hn (by omega))]
  by_cases h : n = 0
  · subst h
    rw [if_neg (by decide)]
    rfl
  · rw [if_pos (show 0 < nI n from nI_lt (a := 0) (by omega) (by omega))]
