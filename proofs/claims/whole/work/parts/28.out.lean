/-! ===== the output page ===== -/
theorem zx_write_loop {P R p fl : Nat} (hok : z_ok P R) (hp : p < P) (hfl : fl ≤ R) : ∀ (f i : Nat) (S : es_St), i ≤ fl → fl - i < f → S.1 0 = nI P → S.1 1 = nI R → S.1 8 = nI fl →
    ∃ S1, f_X4_writePage_19 (es_NX P R) z_fu f (nI p) (nI i) S = f_X4_writePage_63 (es_NX P R) z_fu (nI p) S1 ∧ z_keep [] [11, 12] S S1 ∧ (∀ s, i ≤ s → s < fl → S1.2 11 (p * R + s) = S.2 16 s ∧ S1.2 12 (p * R + s) = S.2 17 s) ∧ (∀ s, s < i → S1.2 11 (p * R + s) = S.2 11 (p * R + s) ∧ S1.2 12 (p * R + s) = S.2 12 (p * R + s)) ∧ ∀ q s, q ≠ p → s < R → S1.2 11 (q * R + s) = S.2 11 (q * R + s) ∧ S1.2 12 (q * R + s) = S.2 12 (q * R + s) := by
  have hR := hok.2.2
  have hPR := z_PR hok
  intro f
  induction f with
  | zero => intro i S _ h; exact absurd h (by omega)
  | succ f ih =>
    intro i S hi hf h0 h1 h8
    rw [f_X4_writePage_19, h8]
    by_cases e : i = fl
    · subst e
      rw [if_pos (nI_le (Nat.le_refl _) (by omega))]
      exact ⟨S, rfl, z_keep_rfl, fun s a b => absurd a (by omega), fun _ _ => ⟨rfl, rfl⟩, fun _ _ _ _ => ⟨rfl, rfl⟩⟩
    · have hiR : i < R := by omega
      have hc := z_cell hp hiR
      have h31 : p * R + i < 2 ^ 31 := by omega
      rw [if_neg (nI_ge (show i < fl by omega) (by omega)), zN16, if_neg (nI_ge hiR (by omega))]
      simp only [es_lt, zN17]
      rw [z_ck hiR (by omega), z_ck hiR (by omega), z_rd _ _ _ (by omega), z_rd _ _ _ (by omega), zx_store hok h0 h1 hp hiR]
      simp only [es_bd, nI_1]
      obtain ⟨S1, g1, g2, g3, g4, g5⟩ := ih (i + 1) (es_wr (es_wr S 11 (nI (p * R + i)) (S.2 16 i)) 12 (nI (p * R + i)) (S.2 17 i)) (by omega) (by omega) (by rw [z_w1, z_w1]; exact h0) (by rw [z_w1, z_w1]; exact h1) (by rw [z_w1, z_w1]; exact h8)
      have w16 : (es_wr (es_wr S 11 (nI (p * R + i)) (S.2 16 i)) 12 (nI (p * R + i)) (S.2 17 i)).2 16 = S.2 16 := by rw [z_w2b _ _ _ (by decide), z_w2b _ _ _ (by decide)]
      have w17 : (es_wr (es_wr S 11 (nI (p * R + i)) (S.2 16 i)) 12 (nI (p * R + i)) (S.2 17 i)).2 17 = S.2 17 := by rw [z_w2b _ _ _ (by decide), z_w2b _ _ _ (by decide)]
      have w11 : ∀ q, (es_wr (es_wr S 11 (nI (p * R + i)) (S.2 16 i)) 12 (nI (p * R + i)) (S.2 17 i)).2 11 q = if q = p * R + i then S.2 16 i else S.2 11 q := fun q => by rw [z_w2b _ _ _ (by decide), z_w2a _ _ _ _ h31]
      have w12 : ∀ q, (es_wr (es_wr S 11 (nI (p * R + i)) (S.2 16 i)) 12 (nI (p * R + i)) (S.2 17 i)).2 12 q = if q = p * R + i then S.2 17 i else S.2 12 q := fun q => by rw [z_w2a _ _ _ _ h31, z_w2b _ _ _ (by decide)]
      rw [w16, w17] at g3
      refine ⟨S1, g1, z_keep_trans (z_keep_trans (z_keep_w _ 11 _ _ (by simp)) (z_keep_w _ 12 _ _ (by simp))) g2, fun s a b => ?_, fun s a => ?_, fun q s hq hs => ?_⟩
      · by_cases es : s = i
        · subst es
          have := g4 s (by omega)
          rw [this.1, this.2, w11, w12, if_pos rfl, if_pos rfl]
          exact ⟨rfl, rfl⟩
        · exact g3 s (by omega) b
      · have := g4 s (by omega)
        rw [this.1, this.2, w11, w12, if_neg (by omega), if_neg (by omega)]
        exact ⟨rfl, rfl⟩
      · have := g5 q s hq hs
        have hno : ¬ q * R + s = p * R + i := fun y => hq (z_cell_inj hs hiR y).1
        rw [this.1, this.2, w11, w12, if_neg hno, if_neg hno]
        exact ⟨rfl, rfl⟩
/-- the peak of used pages -/
def z_pk (u : Nat) (x : Int32) : Int32 := if nI u ≤ x then x else nI u
theorem zx_writePage0 {P R : Nat} {S : es_St} (h2 : S.1 2 = nI 0) : f_X4_writePage (es_NX P R) z_fu S = some (0, S) := by
  unfold f_X4_writePage
  rw [zx_take0 h2]
  simp only [es_bd]
  rw [if_neg (by decide)]
theorem zx_writePage {P R fl oc : Nat} {S : es_St} {pg : Nat → Nat → Nat} {rc : Nat → Nat → z_Rec} {lo hi : Nat → Nat} {fc : Nat} (hok : z_ok P R) (hD : z_DI P R S pg rc lo hi fc) (hfc : 0 < fc) (hoc : 6 ≤ oc) (hlo : lo oc = 0) (hfl : fl ≤ R) (h8 : S.1 8 = nI fl) (h9 : S.1 9 = if hi oc = 0 then -1 else nI (pg oc (hi oc - 1))) :
    ∃ (p : Nat) (S' : es_St) (rp : Nat → z_Rec), f_X4_writePage (es_NX P R) z_fu S = some (1, S') ∧ z_DI P R S' (z_set2 pg oc (hi oc) p) (fun c j => if c = oc ∧ j / R = hi oc then rp (j % R) else rc c j) lo (z_set1 hi oc (hi oc + 1)) (fc - 1) ∧ (∀ s, s < fl → rp s = (S.2 16 s, S.2 17 s)) ∧ p < P ∧
      z_keep [2, 3, 8, 9, 23, 26] [11, 12, 13, 14] S S' ∧ S'.1 8 = nI 0 ∧ S'.1 9 = nI p ∧ S'.1 3 = (if hi oc = 0 then nI p else S.1 3) ∧ S'.1 23 = S.1 23 + 1 ∧ S'.1 26 = z_pk (P - fc + 1) (S.1 26) := by
  obtain ⟨d0, d1, dF, dC⟩ := id hD
  obtain ⟨a1, a2, a3, a4⟩ := id hok
  obtain ⟨p, p1, p2, p3, p4⟩ := zx_take (fu := z_fu) (w := 6) hok d0 dF hfc
  have hp31 : p < 2 ^ 31 := by omega
  have t1 : ∀ j, j ≠ 2 → j ≠ 26 → (z_tk P S fc p 6).1 j = S.1 j := fun j h2 h26 => by simp [z_tk, z_F1, z_w1, h2, h26]
  have t2 : (z_tk P S fc p 6).1 2 = nI (fc - 1) := by simp [z_tk, z_F1, z_w1]
  have t26 : (z_tk P S fc p 6).1 26 = z_pk (P - fc + 1) (S.1 26) := by simp [z_tk, z_F1, z_pk]
  have t13 : ∀ q, (z_tk P S fc p 6).2 13 q = if q = p then 6 else S.2 13 q := fun q => by simp [z_tk, z_F2, z_w2, z_up, nI_clamp hp31]
  have t14 : ∀ q, (z_tk P S fc p 6).2 14 q = if q = p then -1 else S.2 14 q := fun q => by simp [z_tk, z_F2, z_w2, z_up, nI_clamp hp31]
  have tk : ∀ k, k ≠ 13 → k ≠ 14 → (z_tk P S fc p 6).2 k = S.2 k := fun k h13 h14 => by simp [z_tk, z_F2, z_w2, h13, h14]
  have hlive : ∀ c i, lo c ≤ i → i < hi c → pg c i ≠ p := fun c i a b e => by
    have := (dC.1 c i a b).2
    rw [e, p3] at this
    exact z_ow_m1 c this.symm
  obtain ⟨S1, g1, g2, g3, g4, g5⟩ := zx_write_loop (p := p) hok p1 hfl z_fu 0 (z_tk P S fc p 6) (by omega) (by have := z_fu_ge; omega) (by rw [t1 0 (by decide) (by decide)]; exact d0) (by rw [t1 1 (by decide) (by decide)]; exact d1) (by rw [t1 8 (by decide) (by decide)]; exact h8)
  rw [tk 16 (by decide) (by decide), tk 17 (by decide) (by decide)] at g3
  rw [tk 11 (by decide) (by decide), tk 12 (by decide) (by decide)] at g5
  have f1 : ∀ j, j ≠ 2 → j ≠ 26 → S1.1 j = S.1 j := fun j h2 h26 => (g2.1 j (by simp)).trans (t1 j h2 h26)
  -- the end
  have fin : ∀ S2 : es_St, f_X4_writePage_91 (es_NX P R) z_fu (nI p) S2 = some (1, es_F (es_F (es_F S2 9 (nI p)) 8 (nI 0)) 23 (S2.1 23 + 1)) := fun S2 => by
    unfold f_X4_writePage_91
    simp only [es_lt, z_F1]
    rfl
  obtain ⟨S2, k1, k2, k3, k4, k5⟩ : ∃ S2 : es_St, f_X4_writePage_63 (es_NX P R) z_fu (nI p) S1 = f_X4_writePage_91 (es_NX P R) z_fu (nI p) S2 ∧ z_keep [3] [14] S1 S2 ∧ S2.1 3 = (if hi oc = 0 then nI p else S1.1 3) ∧ (∀ q, q ≠ p → (∀ _ : lo oc < hi oc, q ≠ pg oc (hi oc - 1)) → S2.2 14 q = S.2 14 q) ∧ (lo oc < hi oc → S2.2 14 (pg oc (hi oc - 1)) = nI p) := by
    unfold f_X4_writePage_63
    rw [f1 9 (by decide) (by decide), h9]
    by_cases e : hi oc = 0
    · rw [if_pos e, if_neg (by simp)]
      simp only [es_lt]
      refine ⟨es_F S1 3 (nI p), rfl, z_keep_F _ 3 _ (by simp), by rw [z_F1, if_pos rfl, if_pos e], fun q hq _ => ?_, fun y => absurd y (by omega)⟩
      rw [z_F2, g2.2 14 (by decide), t14, if_neg hq]
    · have hpl := dC.1 oc (hi oc - 1) (by omega) (by omega)
      have hpl31 : pg oc (hi oc - 1) < 2 ^ 31 := by have := hpl.1; omega
      rw [if_neg e, if_pos (fun y => (z_m1 hpl31).mp y), zx_link hok (by rw [f1 0 (by decide) (by decide)]; exact d0) hpl.1]
      simp only [es_bd]
      refine ⟨es_wr S1 14 (nI (pg oc (hi oc - 1))) (nI p), rfl, z_keep_w _ 14 _ _ (by simp), by rw [z_w1, if_neg e], fun q hq hq2 => ?_, fun _ => ?_⟩
      · rw [z_w2a _ _ _ _ hpl31, if_neg (hq2 (by omega)), g2.2 14 (by decide), t14, if_neg hq]
      · rw [z_w2a _ _ _ _ hpl31, if_pos rfl]
  obtain ⟨S3, hS3⟩ : ∃ S3 : es_St, S3 = es_F (es_F (es_F S2 9 (nI p)) 8 (nI 0)) 23 (S2.1 23 + 1) := ⟨_, rfl⟩
  have e3k : ∀ k, S3.2 k = S2.2 k := fun k => by rw [hS3, z_F2, z_F2, z_F2]
  have e3f : ∀ j, j ≠ 9 → j ≠ 8 → j ≠ 23 → S3.1 j = S2.1 j := fun j x y z => by rw [hS3, z_F1, if_neg z, z_F1, if_neg y, z_F1, if_neg x]
  have s23 : S3.1 23 = S.1 23 + 1 := by rw [hS3, z_F1, if_pos rfl, k2.1 23 (by decide), f1 23 (by decide) (by decide)]
  have e11 : S3.2 11 = S1.2 11 := by rw [e3k, k2.2 11 (by decide)]
  have e12 : S3.2 12 = S1.2 12 := by rw [e3k, k2.2 12 (by decide)]
  refine ⟨p, S3, fun s => (S3.2 11 (p * R + s), S3.2 12 (p * R + s)), ?_, ?_, fun s hs => ?_, p1, ?_, ?_, ?_, ?_, s23, ?_⟩
  · unfold f_X4_writePage
    rw [p4]
    simp only [es_bd]
    rw [if_pos (fun y => (z_m1 hp31).mp y)]
    refine g1.trans (k1.trans ((fin S2).trans ?_))
    rw [hS3]
  · refine z_DI_grow oc p _ hD hfc (by omega) p2 p1 (by omega) (by omega) ?_ ?_ ?_ ?_ ?_ ?_ ?_ ?_ (fun s _ => ⟨rfl, rfl⟩)
    · rw [e3f 0 (by decide) (by decide) (by decide), k2.1 0 (by decide), f1 0 (by decide) (by decide)]
    · rw [e3f 1 (by decide) (by decide) (by decide), k2.1 1 (by decide), f1 1 (by decide) (by decide)]
    · rw [e3f 2 (by decide) (by decide) (by decide), k2.1 2 (by decide), g2.1 2 (by decide)]; exact t2
    · rw [e3k, k2.2 15 (by decide), g2.2 15 (by decide), tk 15 (by decide) (by decide)]
    · intro q
      rw [e3k, k2.2 13 (by decide), g2.2 13 (by decide), t13, z_ow_ge hoc]
      rfl
    · intro q x y; rw [e3k]; exact k4 q x y
    · intro x; rw [e3k]; exact k5 x
    · intro q s hs hq
      rw [e11, e12]; exact g5 q s hq hs
  · dsimp only
    rw [e11, e12]
    have := g3 s (by omega) hs
    rw [this.1, this.2]
  · refine ⟨fun j hj => ?_, fun k hk => ?_⟩
    · simp only [List.mem_cons, List.not_mem_nil, or_false, not_or] at hj
      rw [e3f j (by omega) (by omega) (by omega), k2.1 j (by simp; omega), f1 j (by omega) (by omega)]
    · simp only [List.mem_cons, List.not_mem_nil, or_false, not_or] at hk
      rw [e3k, k2.2 k (by simp; omega), g2.2 k (by simp; omega), tk k (by omega) (by omega)]
  · rw [hS3, z_F1, if_neg (by decide), z_F1, if_pos rfl]
  · rw [hS3, z_F1, if_neg (by decide), z_F1, if_neg (by decide), z_F1, if_pos rfl]
  · rw [e3f 3 (by decide) (by decide) (by decide), k3, f1 3 (by decide) (by decide)]
  · rw [e3f 26 (by decide) (by decide) (by decide), k2.1 26 (by decide), g2.1 26 (by decide)]; exact t26
