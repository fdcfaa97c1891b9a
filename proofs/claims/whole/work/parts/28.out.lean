/-! ===== the output page ===== -/
theorem zx_write_loop {P R p fl : Nat} (hok : z_ok P R) (hp : p < P) (hfl : fl ≤ R) : ∀ (f i : Nat) (S : es_St), i ≤ fl → fl - i < f → S.1 0 = nI P → S.1 1 = nI R → S.1 8 = nI fl →
    ∃ S1, f_X4_writePage_19 (es_NX P R) z_fu f (nI p) (nI i) S = f_X4_writePage_63 (es_NX P R) z_fu (nI p) S1 ∧ z_keep [] [11, 12] S S1 ∧ (∀ s, i ≤ s → s < fl → S1.2 11 (p * R + s) = S.2 16 s ∧ S1.2 12 (p * R + s) = S.2 17 s) ∧ (∀ s, s < i → S1.2 11 (p * R + s) = S.2 11 (p * R + s) ∧ S1.2 12 (p * R + s) = S.2 12 (p * R + s)) ∧ ∀ q s, q ≠ p → s < R → S1.2 11 (q * R + s) = S.2 11 (q * R + s) ∧ S1.2 12 (q * R + s) = S.2 12 (q * R + s) := by
  have hR := hok.2.2
  have hPR := z_PR hok
  intro f
  induction f with
  | zero => intro i S _ h; exact absurd h (by omega)
  | succ f ih =>
    intro i S hi hf h0 h1 h8
    rw [f_X4_writePage_19, h8]
    by_cases e : i = fl
    · subst e
      rw [if_pos (nI_le (Nat.le_refl _) (by omega))]
      exact ⟨S, rfl, z_keep_rfl, fun s a b => absurd a (by omega), fun _ _ => ⟨rfl, rfl⟩, fun _ _ _ _ => ⟨rfl, rfl⟩⟩
    · have hiR : i < R := by omega
      have hc := z_cell hp hiR
      have h31 : p * R + i < 2 ^ 31 := by omega
      rw [if_neg (nI_ge (show i < fl by omega) (by omega)), zN16, if_neg (nI_ge hiR (by omega))]
      simp only [es_lt, zN17]
      rw [z_ck hiR (by omega), z_ck hiR (by omega), z_rd _ _ _ (by omega), z_rd _ _ _ (by omega), zx_store hok h0 h1 hp hiR]
      simp only [es_bd, nI_1]
      obtain ⟨S1, g1, g2, g3, g4, g5⟩ := ih (i + 1) (es_wr (es_wr S 11 (nI (p * R + i)) (S.2 16 i)) 12 (nI (p * R + i)) (S.2 17 i)) (by omega) (by omega) (by rw [z_w1, z_w1]; exact h0) (by rw [z_w1, z_w1]; exact h1) (by rw [z_w1, z_w1]; exact h8)
      have w16 : (es_wr (es_wr S 11 (nI (p * R + i)) (S.2 16 i)) 12 (nI (p * R + i)) (S.2 17 i)).2 16 = S.2 16 := by rw [z_w2b _ _ _ (by decide), z_w2b _ _ _ (by decide)]
      have w17 : (es_wr (es_wr S 11 (nI (p * R + i)) (S.2 16 i)) 12 (nI (p * R + i)) (S.2 17 i)).2 17 = S.2 17 := by rw [z_w2b _ _ _ (by decide), z_w2b _ _ _ (by decide)]
      have w11 : ∀ q, (es_wr (es_wr S 11 (nI (p * R + i)) (S.2 16 i)) 12 (nI (p * R + i)) (S.2 17 i)).2 11 q = if q = p * R + i then S.2 16 i else S.2 11 q := fun q => by rw [z_w2b _ _ _ (by decide), z_w2a _ _ _ _ h31]
      have w12 : ∀ q, (es_wr (es_wr S 11 (nI (p * R + i)) (S.2 16 i)) 12 (nI (p * R + i)) (S.2 17 i)).2 12 q = if q = p * R + i then S.2 17 i else S.2 12 q := fun q => by rw [z_w2a _ _ _ _ h31, z_w2b _ _ _ (by decide)]
      rw [w16, w17] at g3
      refine ⟨S1, g1, z_keep_trans (z_keep_trans (z_keep_w _ 11 _ _ (by simp)) (z_keep_w _ 12 _ _ (by simp))) g2, fun s a b => ?_, fun s a => ?_, fun q s hq hs => ?_⟩
      · by_cases es : s = i
        · subst es
          have := g4 s (by omega)
          rw [this.1, this.2, w11, w12, if_pos rfl, if_pos rfl]
          exact ⟨rfl, rfl⟩
        · exact g3 s (by omega) b
      · have := g4 s (by omega)
        rw [this.1, this.2, w11, w12, if_neg (by omega), if_neg (by omega)]
        exact ⟨rfl, rfl⟩
      · have := g5 q s hq hs
        have hno : ¬ q * R + s = p * R + i := fun y => hq (z_cell_inj hs hiR y).1
        rw [this.1, this.2, w11, w12, if_neg hno, if_neg hno]
        exact ⟨rfl, rfl⟩
/-- the peak of used pages -/
def z_pk (u : Nat) (x : Int32) : Int32 := if nI u ≤ x then x else nI u
theorem zx_writePage0 {P R : Nat} {S : es_St} (h2 : S.1 2 = nI 0) : f_X4_writePage (es_NX P R) z_fu S = some (0, S) := by
  unfold f_X4_writePage
  rw [zx_take0 h2]
  simp only [es_bd]
  rw [if_neg (by decide)]
theorem zx_writePage {P R fl oc : Nat} {S : es_St} {pg : Nat → Nat → Nat} {rc : Nat → Nat → z_Rec} {lo hi : Nat → Nat} {fc : Nat} (hok : z_ok P R) (hD : z_DI P R S pg rc lo hi fc) (hfc : 0 < fc) (hoc : 6 ≤ oc) (hlo : lo oc = 0) (hfl : fl ≤ R) (h8 : S.1 8 = nI fl) (h9 : S.1 9 = if hi oc = 0 then -1 else nI (pg oc (hi oc - 1))) :
    ∃ (p : Nat) (S' : es_St) (rp : Nat → z_Rec), f_X4_writePage (es_NX P R) z_fu S = some (1, S') ∧ z_DI P R S' (z_set2 pg oc (hi oc) p) (fun c j => if c = oc ∧ j / R = hi oc then rp (j % R) else rc c j) lo (z_set1 hi oc (hi oc + 1)) (fc - 1) ∧ (∀ s, s < fl → rp s = (S.2 16 s, S.2 17 s)) ∧ p < P ∧
      z_keep [2, 3, 8, 9, 23, 26] [11, 12, 13, 14] S S' ∧ S'.1 8 = nI 0 ∧ S'.1 9 = nI p ∧ S'.1 3 = (if hi oc = 0 then nI p else S.1 3) ∧ S'.1 23 = S.1 23 + 1 ∧ S'.1 26 = z_pk (P - fc + 1) (S.1 26) := by
  obtain ⟨d0, d1, dF, dC⟩ := id hD
  obtain ⟨a1, a2, a3, a4⟩ := id hok
  obtain ⟨p, p1, p2, p3, p4⟩ := zx_take (fu := z_fu) (w := 6) hok d0 dF hfc
  have hp31 : p < 2 ^ 31 := by omega
  have t1 : ∀ j, j ≠ 2 → j ≠ 26 → (z_tk P S fc p 6).1 j = S.1 j := fun j h2 h26 => by simp [z_tk, z_F1, z_w1, h2, h26]
  have t2 : (z_tk P S fc p 6).1 2 = nI (fc - 1) := by simp [z_tk, z_F1, z_w1]
  have t26 : (z_tk P S fc p 6).1 26 = z_pk (P - fc + 1) (S.1 26) := by simp [z_tk, z_F1, z_pk]
  have t13 : ∀ q, (z_tk P S fc p 6).2 13 q = if q = p then 6 else S.2 13 q := fun q => by simp [z_tk, z_F2, z_w2, z_up, nI_clamp hp31]
  have t14 : ∀ q, (z_tk P S fc p 6).2 14 q = if q = p then -1 else S.2 14 q := fun q => by simp [z_tk, z_F2, z_w2, z_up, nI_clamp hp31]
  have tk : ∀ k, k ≠ 13 → k ≠ 14 → (z_tk P S fc p 6).2 k = S.2 k := fun k h13 h14 => by simp [z_tk, z_F2, z_w2, h13, h14]
  have hlive : ∀ c i, lo c ≤ i → i < hi c → pg c i ≠ p := fun c i a b e => by
    have := (dC.1 c i a b).2
    rw [e, p3] at this
    exact z_ow_m1 c this.symm
  obtain ⟨S1, g1, g2, g3, g4, g5⟩ := zx_write_loop (p := p) hok p1 hfl z_fu 0 (z_tk P S fc p 6) (by omega) (by have := z_fu_ge; omega) (by rw [t1 0 (by decide) (by decide)]; exact d0) (by rw [t1 1 (by decide) (by decide)]; exact d1) (by rw [t1 8 (by decide) (by decide)]; exact h8)
  rw [tk 16 (by decide) (by decide), tk 17 (by decide) (by decide)] at g3
  rw [tk 11 (by decide) (by decide), tk 12 (by decide) (by decide)] at g5
  have f1 : ∀ j, j ≠ 2 → j ≠ 26 → S1.1 j = S.1 j := fun j h2 h26 => (g2.1 j (by simp)).trans (t1 j h2 h26)
  -- the end
  have fin : ∀ S2 : es_St, f_X4_writePage_91 (es_NX P R) z_fu (nI p) S2 = some (1, es_F (es_F (es_F S2 9 (nI p)) 8 (nI 0)) 23 (S2.1 23 + 1)) := fun S2 => by
    unfold f_X4_writePage_91
    simp only [es_lt, z_F1]
    rfl
  obtain ⟨S2, k1, k2, k3, k4, k5⟩ : ∃ S2 : es_St, f_X4_writePage_63 (es_NX P R) z_fu (nI p) S1 = f_X4_writePage_91 (es_NX P R) z_fu (nI p) S2 ∧ z_keep [3] [14] S1 S2 ∧ S2.1 3 = (if hi oc = 0 then nI p else S1.1 3) ∧ (∀ q, q ≠ p → (∀ _ : lo oc < hi oc, q ≠ pg oc (hi oc - 1)) → S2.2 14 q = S.2 14 q) ∧ (lo oc < hi oc → S2.2 14 (pg oc (hi oc - 1)) = nI p) := by
    unfold f_X4_writePage_63
    rw [f1 9 (by decide) (by decide), h9]
    by_cases e : hi oc = 0
    · rw [if_pos e, if_neg (by simp)]
      simp only [es_lt]
      refine ⟨es_F S1 3 (nI p), rfl, z_keep_F _ 3 _ (by simp), by rw [z_F1, if_pos rfl, if_pos e], fun q hq _ => ?_, fun y => absurd y (by omega)⟩
      rw [z_F2, g2.2 14 (by decide), t14, if_neg hq]
    · have hpl := dC.1 oc (hi oc - 1) (by omega) (by omega)
      have hpl31 : pg oc (hi oc - 1) < 2 ^ 31 := by have := hpl.1; omega
      rw [if_neg e, if_pos (fun y => (z_m1 hpl31).mp y), zx_link hok (by rw [f1 0 (by decide) (by decide)]; exact d0) hpl.1]
      simp only [es_bd]
      refine ⟨es_wr S1 14 (nI (pg oc (hi oc - 1))) (nI p), rfl, z_keep_w _ 14 _ _ (by simp), by rw [z_w1, if_neg e], fun q hq hq2 => ?_, fun _ => ?_⟩
      · rw [z_w2a _ _ _ _ hpl31, if_neg (hq2 (by omega)), g2.2 14 (by decide), t14, if_neg hq]
      · rw [z_w2a _ _ _ _ hpl31, if_pos rfl]
  obtain ⟨S3, hS3⟩ : ∃ S3 : es_St, S3 = es_F (es_F (es_F S2 9 (nI p)) 8 (nI 0)) 23 (S2.1 23 + 1) := ⟨_, rfl⟩
  have e3k : ∀ k, S3.2 k = S2.2 k := fun k => by rw [hS3, z_F2, z_F2, z_F2]
  have e3f : ∀ j, j ≠ 9 → j ≠ 8 → j ≠ 23 → S3.1 j = S2.1 j := fun j x y z => by rw [hS3, z_F1, if_neg z, z_F1, if_neg y, z_F1, if_neg x]
  have s23 : S3.1 23 = S.1 23 + 1 := by rw [hS3, z_F1, if_pos rfl, k2.1 23 (by decide), f1 23 (by decide) (by decide)]
  have e11 : S3.2 11 = S1.2 11 := by rw [e3k, k2.2 11 (by decide)]
  have e12 : S3.2 12 = S1.2 12 := by rw [e3k, k2.2 12 (by decide)]
  refine ⟨p, S3, fun s => (S3.2 11 (p * R + s), S3.2 12 (p * R + s)), ?_, ?_, fun s hs => ?_, p1, ?_, ?_, ?_, ?_, s23, ?_⟩
  · unfold f_X4_writePage
    rw [p4]
    simp only [es_bd]
    rw [if_pos (fun y => (z_m1 hp31).mp y)]
    refine g1.trans (k1.trans ((fin S2).trans ?_))
    rw [hS3]
  · refine z_DI_grow (S' := S3) oc p (fun s => (S3.2 11 (p * R + s), S3.2 12 (p * R + s))) hD hfc (by omega) p2 p1 (by omega) (by omega) ?_ ?_ ?_ ?_ ?_ ?_ ?_ ?_ (fun s _ => ⟨rfl, rfl⟩)
    · rw [e3f 0 (by decide) (by decide) (by decide), k2.1 0 (by decide), f1 0 (by decide) (by decide)]
    · rw [e3f 1 (by decide) (by decide) (by decide), k2.1 1 (by decide), f1 1 (by decide) (by decide)]
    · rw [e3f 2 (by decide) (by decide) (by decide), k2.1 2 (by decide), g2.1 2 (by decide)]; exact t2
    · rw [e3k, k2.2 15 (by decide), g2.2 15 (by decide), tk 15 (by decide) (by decide)]
    · intro q
      rw [e3k, k2.2 13 (by decide), g2.2 13 (by decide), t13, z_ow_ge hoc]
      rfl
    · intro q x y; rw [e3k]; exact k4 q x y
    · intro x; rw [e3k]; exact k5 x
    · intro q s hs hq
      rw [e11, e12]; exact g5 q s hq hs
  · dsimp only
    rw [e11, e12]
    have := g3 s (by omega) hs
    rw [this.1, this.2]
  · refine ⟨fun j hj => ?_, fun k hk => ?_⟩
    · simp only [List.mem_cons, List.not_mem_nil, or_false, not_or] at hj
      rw [e3f j (by omega) (by omega) (by omega), k2.1 j (by simp; omega), f1 j (by omega) (by omega)]
    · simp only [List.mem_cons, List.not_mem_nil, or_false, not_or] at hk
      rw [e3k, k2.2 k (by simp; omega), g2.2 k (by simp; omega), tk k (by omega) (by omega)]
  · rw [hS3, z_F1, if_neg (by decide), z_F1, if_pos rfl]
  · rw [hS3, z_F1, if_neg (by decide), z_F1, if_neg (by decide), z_F1, if_pos rfl]
  · rw [e3f 3 (by decide) (by decide) (by decide), k3, f1 3 (by decide) (by decide)]
  · rw [e3f 26 (by decide) (by decide) (by decide), k2.1 26 (by decide), g2.1 26 (by decide)]; exact t26

/-- what was put out since the opening: cn records oo, the full pages of them in chain oc -/
def z_OUT (R : Nat) (S : es_St) (oc : Nat) (pg : Nat → Nat → Nat) (rc : Nat → Nat → z_Rec) (lo hi : Nat → Nat) (oo : Nat → z_Rec) (cn : Nat) : Prop :=
  S.1 4 = nI cn ∧ S.1 8 = nI (cn % R) ∧ lo oc = 0 ∧ hi oc = cn / R ∧ S.1 3 = (if hi oc = 0 then -1 else nI (pg oc 0)) ∧ S.1 9 = (if hi oc = 0 then -1 else nI (pg oc (hi oc - 1))) ∧
  (∀ s, s < cn % R → (S.2 16 s, S.2 17 s) = oo (R * (cn / R) + s)) ∧ (∀ j, j < R * (cn / R) → rc oc j = oo j) ∧ (0 < cn → S.1 5 = (oo (cn - 1)).1 ∧ S.1 6 = (oo (cn - 1)).2)
theorem z_OUT_same {R : Nat} {S S' : es_St} {oc : Nat} {pg : Nat → Nat → Nat} {rc : Nat → Nat → z_Rec} {lo hi : Nat → Nat} {oo : Nat → z_Rec} {cn : Nat} (h : z_OUT R S oc pg rc lo hi oo cn) (e3 : S'.1 3 = S.1 3) (e4 : S'.1 4 = S.1 4) (e5 : S'.1 5 = S.1 5) (e6 : S'.1 6 = S.1 6) (e8 : S'.1 8 = S.1 8) (e9 : S'.1 9 = S.1 9) (e16 : S'.2 16 = S.2 16) (e17 : S'.2 17 = S.2 17) : z_OUT R S' oc pg rc lo hi oo cn := by
  unfold z_OUT at *
  rw [e3, e4, e5, e6, e8, e9, e16, e17]
  exact h
/-- other chains stay -/
def z_oth (oc : Nat) (pg pg' : Nat → Nat → Nat) (rc rc' : Nat → Nat → z_Rec) (hi hi' : Nat → Nat) : Prop := ∀ c, c ≠ oc → pg' c = pg c ∧ rc' c = rc c ∧ hi' c = hi c
theorem zx_oopen {P R : Nat} {S : es_St} {oc : Nat} {pg : Nat → Nat → Nat} {rc : Nat → Nat → z_Rec} {lo hi : Nat → Nat} {oo : Nat → z_Rec} {b : Int32} (hb : es_B b) (hR : 0 < R) (hlo : lo oc = 0) (hhi : hi oc = 0) : ∃ S', f_X4_open (es_NX P R) z_fu S b = some (0, S') ∧ z_keep [3, 4, 7, 8, 9] [] S S' ∧ S'.1 7 = b ∧ z_OUT R S' oc pg rc lo hi oo 0 := by
  refine ⟨es_F (es_F (es_F (es_F (es_F S 7 b) 3 (-1)) 9 (-1)) 4 0) 8 0, ?_, ?_, ?_, ?_⟩
  · unfold f_X4_open
    rw [es_ck_t hb]
    rfl
  · exact z_keep_trans (z_keep_trans (z_keep_trans (z_keep_trans (z_keep_F _ 7 _ (by simp)) (z_keep_F _ 3 _ (by simp))) (z_keep_F _ 9 _ (by simp))) (z_keep_F _ 4 _ (by simp))) (z_keep_F _ 8 _ (by simp))
  · simp [z_F1]
  · refine ⟨by simp [z_F1]; rfl, by simp [z_F1]; rfl, hlo, by rw [hhi, Nat.zero_div], by simp [z_F1, hhi], by simp [z_F1, hhi], fun s hs => absurd hs (by rw [Nat.zero_mod]; omega), fun j hj => absurd hj (by rw [Nat.zero_div, Nat.mul_zero]; omega), fun y => absurd y (by omega)⟩
theorem zx_put_dup {P R : Nat} {S : es_St} {k t : Int32} {cn : Nat} (h7 : ¬ S.1 7 = 0) (h4 : S.1 4 = nI cn) (hcn : 0 < cn) (hcn2 : cn < 2 ^ 31) (h5 : S.1 5 = k) (h6 : S.1 6 = t) : f_X4_put (es_NX P R) z_fu S k t = some (1, S) := by
  unfold f_X4_put
  rw [if_neg h7, h4, if_neg (show ¬ nI cn ≤ 0 from nI_nle hcn hcn2), h5, h6, if_neg (by simp), if_neg (by simp)]
theorem zx_put_new {P R : Nat} {S : es_St} {k t : Int32} (h : S.1 7 = 0 ∨ S.1 4 ≤ 0 ∨ ¬ (k, t) = (S.1 5, S.1 6)) : f_X4_put (es_NX P R) z_fu S k t = f_X4_put_32 (es_NX P R) z_fu k t S := by
  unfold f_X4_put
  by_cases h1 : S.1 7 = 0
  · rw [if_pos h1]
  · rw [if_neg h1]
    by_cases h2 : S.1 4 ≤ 0
    · rw [if_pos h2]
    · rw [if_neg h2]
      by_cases h3 : k = S.1 5
      · rw [if_neg (by simpa using h3)]
        by_cases h4 : t = S.1 6
        · exact absurd (by rw [h3, h4]) ((h.resolve_left h1).resolve_left h2)
        · rw [if_pos h4]
      · rw [if_pos h3]
theorem z_lt {α β : Type} (e : α) (k : α → β) : es_lt e k = k e := by simp [es_lt]
theorem zx_put_81 {P R : Nat} (S : es_St) (k t : Int32) : f_X4_put_81 (es_NX P R) z_fu k t S = (if S.1 8 < nI R then some (1, es_F (es_F (es_F S 5 k) 6 t) 4 (S.1 4 + 1)) else es_bd (f_X4_writePage (es_NX P R) z_fu (es_F (es_F (es_F S 5 k) 6 t) 4 (S.1 4 + 1))) fun r8 S9 => if r8 = 0 then some (0, S9) else some (1, S9)) := by
  unfold f_X4_put_81
  dsimp only [es_lt]
  have e4 : (es_F (es_F S 5 k) 6 t).1 4 = S.1 4 := by rw [z_F1, if_neg (by decide), z_F1, if_neg (by decide)]
  have e8 : (es_F (es_F (es_F S 5 k) 6 t) 4 (S.1 4 + 1)).1 8 = S.1 8 := by rw [z_F1, if_neg (by decide), z_F1, if_neg (by decide), z_F1, if_neg (by decide)]
  rw [e4, e8, zN16]
theorem zx_put_32 {P R oc : Nat} {S : es_St} {k t : Int32} {pg : Nat → Nat → Nat} {rc : Nat → Nat → z_Rec} {lo hi : Nat → Nat} {fc : Nat} {oo : Nat → z_Rec} {cn : Nat} (hok : z_ok P R) (hD : z_DI P R S pg rc lo hi fc) (hoc : 6 ≤ oc) (ho : z_OUT R S oc pg rc lo hi oo cn) (hcn : cn < 100000) :
    ∃ (b : Int32) (S' : es_St) (pg' : Nat → Nat → Nat) (rc' : Nat → Nat → z_Rec) (hi' : Nat → Nat) (fc' : Nat), f_X4_put_32 (es_NX P R) z_fu k t S = some (b, S') ∧ z_keep [2, 3, 4, 5, 6, 8, 9, 23, 26] [11, 12, 13, 14, 16, 17] S S' ∧ z_DI P R S' pg' rc' lo hi' fc' ∧ z_oth oc pg pg' rc rc' hi hi' ∧
      ((b = 0 ∧ fc = 0 ∧ (cn + 1) % R = 0 ∧ fc' = 0 ∧ hi' oc = hi oc) ∨ (b = 1 ∧ z_OUT R S' oc pg' rc' lo hi' (fun j => if j = cn then (k, t) else oo j) (cn + 1) ∧
        (((cn + 1) % R = 0 ∧ 0 < fc ∧ fc' = fc - 1 ∧ S'.1 23 = S.1 23 + 1 ∧ S'.1 26 = z_pk (P - fc + 1) (S.1 26)) ∨ (¬ (cn + 1) % R = 0 ∧ fc' = fc ∧ S'.1 23 = S.1 23 ∧ S'.1 26 = S.1 26)))) := by
  obtain ⟨o4, o8, olo, ohi, o3, o9, ob, orc, ol⟩ := id ho
  obtain ⟨a1, a2, a3, a4⟩ := id hok
  obtain ⟨q, s, s1, s2, s3, s4⟩ := z_split (show 0 < R by omega) cn
  rw [s4] at o8 ob
  rw [s3] at ohi ob orc
  have hs31 : s < 2 ^ 31 := by omega
  -- the record is in the buffer
  obtain ⟨S1, hS1⟩ : ∃ S1 : es_St, S1 = es_F (es_F (es_F (es_F (es_wr (es_wr S 16 (nI s) k) 17 (nI s) t) 8 (nI (s + 1))) 5 k) 6 t) 4 (nI (cn + 1)) := ⟨_, rfl⟩
  have e32 : f_X4_put_32 (es_NX P R) z_fu k t S = (if nI (s + 1) < nI R then some (1, S1) else es_bd (f_X4_writePage (es_NX P R) z_fu S1) fun r8 S9 => if r8 = 0 then some (0, S9) else some (1, S9)) := by
    unfold f_X4_put_32
    rw [o8, if_neg (nI_pos hs31), zN16, if_neg (nI_ge s1 (by omega)), z_ck s1 (by omega)]
    rw [z_lt, z_w1, o8, zN17, z_ck s1 (by omega), z_lt, z_lt, z_w1, z_w1, o8, nI_1, z_lt, zx_put_81]
    have x8 : (es_F (es_wr (es_wr S 16 (nI s) k) 17 (nI s) t) 8 (nI (s + 1))).1 8 = nI (s + 1) := by rw [z_F1, if_pos rfl]
    have x4 : (es_F (es_wr (es_wr S 16 (nI s) k) 17 (nI s) t) 8 (nI (s + 1))).1 4 = nI cn := by rw [z_F1, if_neg (by decide), z_w1, z_w1, o4]
    rw [x8, x4, nI_1, hS1]
  have f1 : ∀ j, j ≠ 4 → j ≠ 5 → j ≠ 6 → j ≠ 8 → S1.1 j = S.1 j := fun j x y z u => by rw [hS1]; simp [z_F1, z_w1, x, y, z, u]
  have f8 : S1.1 8 = nI (s + 1) := by rw [hS1]; simp [z_F1]
  have f4 : S1.1 4 = nI (cn + 1) := by rw [hS1]; simp [z_F1]
  have f5 : S1.1 5 = k := by rw [hS1]; simp [z_F1]
  have f6 : S1.1 6 = t := by rw [hS1]; simp [z_F1]
  have b16 : ∀ j, S1.2 16 j = if j = s then k else S.2 16 j := fun j => by rw [hS1, z_F2, z_F2, z_F2, z_F2, z_w2b _ _ _ (by decide), z_w2a _ _ _ _ hs31]
  have b17 : ∀ j, S1.2 17 j = if j = s then t else S.2 17 j := fun j => by rw [hS1, z_F2, z_F2, z_F2, z_F2, z_w2a _ _ _ _ hs31, z_w2b _ _ _ (by decide)]
  have bk : ∀ j, j ≠ 16 → j ≠ 17 → S1.2 j = S.2 j := fun j x y => by rw [hS1, z_F2, z_F2, z_F2, z_F2, z_w2b _ _ _ y, z_w2b _ _ _ x]
  have k1 : z_keep [2, 3, 4, 5, 6, 8, 9, 23, 26] [11, 12, 13, 14, 16, 17] S S1 := ⟨fun j hj => f1 j (by simp at hj; omega) (by simp at hj; omega) (by simp at hj; omega) (by simp at hj; omega), fun j hj => bk j (by simp at hj; omega) (by simp at hj; omega)⟩
  have hD1 : z_DI P R S1 pg rc lo hi fc := z_DI_same hD ⟨f1 0 (by decide) (by decide) (by decide) (by decide), f1 1 (by decide) (by decide) (by decide) (by decide), f1 2 (by decide) (by decide) (by decide) (by decide), bk 11 (by decide) (by decide), bk 12 (by decide) (by decide), bk 13 (by decide) (by decide), bk 14 (by decide) (by decide), bk 15 (by decide) (by decide)⟩
  -- what the buffer holds
  have hbuf : ∀ j, j < s + 1 → (S1.2 16 j, S1.2 17 j) = (fun j => if j = cn then (k, t) else oo j) (R * q + j) := fun j hj => by
    dsimp only
    rw [b16, b17]
    by_cases e : j = s
    · rw [if_pos e, if_pos e, if_pos (by omega)]
    · rw [if_neg e, if_neg e, if_neg (by omega)]; exact ob j (by omega)
  rw [e32]
  by_cases hfull : s + 1 = R
  · have hm : (cn + 1) % R = 0 := by rw [s2, show R * q + s + 1 = R * (q + 1) + 0 by rw [Nat.mul_add]; omega, z_md (by omega)]
    have hdv : (cn + 1) / R = q + 1 := by rw [s2, show R * q + s + 1 = R * (q + 1) + 0 by rw [Nat.mul_add]; omega, z_dv (by omega)]
    rw [if_neg (show ¬ nI (s + 1) < nI R from nI_nlt (by omega) (by omega))]
    by_cases e0 : fc = 0
    · subst e0
      rw [zx_writePage0 hD1.2.2.1.1, es_bd_s, if_pos rfl]
      exact ⟨0, S1, pg, rc, hi, 0, rfl, k1, hD1, fun c _ => ⟨rfl, rfl, rfl⟩, Or.inl ⟨rfl, rfl, hm, rfl, rfl⟩⟩
    · obtain ⟨p, S2, rp, w1, w2, w3, w4, w5, w6, w7, w8, w9, w10⟩ := zx_writePage (fl := s + 1) hok hD1 (by omega) hoc olo (by omega) f8 (by rw [f1 9 (by decide) (by decide) (by decide) (by decide)]; exact o9)
      rw [w1, es_bd_s, if_neg (by decide)]
      refine ⟨1, S2, _, _, _, _, rfl, z_keep_trans k1 (z_keep_mono w5 (by simp) (by simp)), w2, fun c hc => ⟨?_, ?_, ?_⟩, Or.inr ⟨rfl, ⟨?_, ?_, olo, ?_, ?_, ?_, ?_, ?_, ?_⟩, Or.inl ⟨hm, by omega, rfl, ?_, ?_⟩⟩⟩
      · funext i; unfold z_set2; rw [if_neg (fun y => hc y.1)]
      · funext j; dsimp only; rw [if_neg (fun y => hc y.1)]
      · unfold z_set1; rw [if_neg hc]
      · rw [w5.1 4 (by decide), f4]
      · rw [w6, hm]
      · rw [hdv]; unfold z_set1; rw [if_pos rfl, ohi]
      · unfold z_set1 z_set2
        rw [if_pos rfl, if_neg (by omega), w8, f1 3 (by decide) (by decide) (by decide) (by decide), o3]
        by_cases e : hi oc = 0
        · rw [if_pos e, if_pos ⟨rfl, e.symm⟩]
        · rw [if_neg e, if_neg e, if_neg (fun y => e y.2.symm)]
      · unfold z_set1 z_set2
        rw [if_pos rfl, if_neg (by omega), w7, Nat.add_sub_cancel, if_pos ⟨rfl, rfl⟩]
      · rw [hm]; intro j hj; exact absurd hj (by omega)
      · rw [hdv]
        intro j hj
        by_cases e : j / R = q
        · have hjm := Nat.mod_lt j (show R > 0 by omega)
          have hjj : j = R * q + j % R := by rw [← e]; exact (Nat.div_add_mod j R).symm
          dsimp only
          rw [ohi, if_pos ⟨rfl, e⟩, w3 _ (by omega), hbuf _ (by omega), ← hjj]
        · dsimp only
          rw [ohi, if_neg (fun y => e y.2)]
          have hjq : j / R < q := by
            have : j / R < q + 1 := by rw [Nat.div_lt_iff_lt_mul (by omega), Nat.mul_comm]; exact hj
            omega
          have hj2 : j < R * q := by rw [Nat.mul_comm, ← Nat.div_lt_iff_lt_mul (by omega)]; exact hjq
          rw [if_neg (by omega)]; exact orc j hj2
      · intro _
        dsimp only
        rw [Nat.add_sub_cancel, if_pos rfl, w5.1 5 (by decide), w5.1 6 (by decide), f5, f6]
        exact ⟨rfl, rfl⟩
      · rw [w9, f1 23 (by decide) (by decide) (by decide) (by decide)]
      · rw [w10, f1 26 (by decide) (by decide) (by decide) (by decide)]
  · have hm : (cn + 1) % R = s + 1 := by rw [s2, show R * q + s + 1 = R * q + (s + 1) by omega, z_md (by omega)]
    have hdv : (cn + 1) / R = q := by rw [s2, show R * q + s + 1 = R * q + (s + 1) by omega, z_dv (by omega)]
    rw [if_pos (show nI (s + 1) < nI R from nI_lt (by omega) (by omega))]
    refine ⟨1, S1, pg, rc, hi, fc, rfl, k1, hD1, fun c _ => ⟨rfl, rfl, rfl⟩, Or.inr ⟨rfl, ⟨f4, by rw [hm]; exact f8, olo, by rw [hdv]; exact ohi, ?_, ?_, ?_, ?_, ?_⟩, Or.inr ⟨by omega, rfl, f1 23 (by decide) (by decide) (by decide) (by decide), f1 26 (by decide) (by decide) (by decide) (by decide)⟩⟩⟩
    · rw [f1 3 (by decide) (by decide) (by decide) (by decide)]; exact o3
    · rw [f1 9 (by decide) (by decide) (by decide) (by decide)]; exact o9
    · rw [hm, hdv]; exact hbuf
    · rw [hdv]; intro j hj; dsimp only; rw [if_neg (by omega)]; exact orc j hj
    · intro _
      dsimp only
      rw [Nat.add_sub_cancel, if_pos rfl, f5, f6]
      exact ⟨rfl, rfl⟩

/-- a run's end -/
theorem zx_close {P R oc : Nat} {S : es_St} {pg : Nat → Nat → Nat} {rc : Nat → Nat → z_Rec} {lo hi : Nat → Nat} {fc : Nat} {oo : Nat → z_Rec} {cn : Nat} (hok : z_ok P R) (hD : z_DI P R S pg rc lo hi fc) (hoc : 6 ≤ oc) (ho : z_OUT R S oc pg rc lo hi oo cn) (hcn : cn < 100000) :
    ∃ (b : Int32) (S' : es_St) (pg' : Nat → Nat → Nat) (rc' : Nat → Nat → z_Rec) (hi' : Nat → Nat) (fc' : Nat), f_X4_close (es_NX P R) z_fu S = some (b, S') ∧ z_keep [2, 3, 8, 9, 23, 26] [11, 12, 13, 14] S S' ∧ z_DI P R S' pg' rc' lo hi' fc' ∧ z_oth oc pg pg' rc rc' hi hi' ∧
      ((b = 0 ∧ fc = 0 ∧ ¬ cn % R = 0 ∧ fc' = 0) ∨ (b = 1 ∧ hi' oc = z_pgs R cn ∧ (∀ j, j < cn → rc' oc j = oo j) ∧ (0 < cn → S'.1 3 = nI (pg' oc 0)) ∧
        ((¬ cn % R = 0 ∧ 0 < fc ∧ fc' = fc - 1 ∧ S'.1 23 = S.1 23 + 1 ∧ S'.1 26 = z_pk (P - fc + 1) (S.1 26)) ∨ (cn % R = 0 ∧ fc' = fc ∧ S'.1 23 = S.1 23 ∧ S'.1 26 = S.1 26)))) := by
  obtain ⟨o4, o8, olo, ohi, o3, o9, ob, orc, ol⟩ := id ho
  obtain ⟨a1, a2, a3, a4⟩ := id hok
  obtain ⟨q, s, s1, s2, s3, s4⟩ := z_split (show 0 < R by omega) cn
  rw [s4] at o8 ob
  rw [s3] at ohi ob orc
  unfold f_X4_close
  rw [o8, s4]
  by_cases e : s = 0
  · subst e
    rw [if_pos (show nI 0 = 0 from rfl)]
    have hq : 0 < cn → 0 < q := fun h => by
      rcases Nat.eq_zero_or_pos q with z | z
      · rw [z, Nat.mul_zero] at s2; omega
      · exact z
    refine ⟨1, S, pg, rc, hi, fc, rfl, z_keep_rfl, hD, fun c _ => ⟨rfl, rfl, rfl⟩, Or.inr ⟨rfl, ?_, fun j hj => orc j (by omega), fun h => ?_, Or.inr ⟨rfl, rfl, rfl, rfl⟩⟩⟩
    · rw [ohi, s2, z_pgs_qs (by omega), if_pos rfl]
    · rw [o3, if_neg (by have := hq h; omega)]
  · rw [if_neg (nI_ne0 (by omega) (by omega))]
    by_cases e0 : fc = 0
    · subst e0
      rw [zx_writePage0 hD.2.2.1.1, es_bd_s, if_pos rfl]
      exact ⟨0, S, pg, rc, hi, 0, rfl, z_keep_rfl, hD, fun c _ => ⟨rfl, rfl, rfl⟩, Or.inl ⟨rfl, rfl, e, rfl⟩⟩
    · obtain ⟨p, S2, rp, w1, w2, w3, w4, w5, w6, w7, w8, w9, w10⟩ := zx_writePage (fl := s) hok hD (by omega) hoc olo (by omega) o8 o9
      rw [w1, es_bd_s, if_neg (by decide)]
      refine ⟨1, S2, _, _, _, _, rfl, w5, w2, fun c hc => ⟨?_, ?_, ?_⟩, Or.inr ⟨rfl, ?_, fun j hj => ?_, fun h => ?_, Or.inl ⟨e, by omega, rfl, w9, w10⟩⟩⟩
      · funext i; unfold z_set2; rw [if_neg (fun y => hc y.1)]
      · funext j; dsimp only; rw [if_neg (fun y => hc y.1)]
      · unfold z_set1; rw [if_neg hc]
      · unfold z_set1; rw [if_pos rfl, ohi, s2, z_pgs_qs s1, if_neg e]
      · by_cases ej : j / R = q
        · have hjj : j = R * q + j % R := by rw [← ej]; exact (Nat.div_add_mod j R).symm
          rw [ohi, if_pos ⟨rfl, ej⟩, w3 _ (by omega), ob _ (by omega), ← hjj]
        · rw [ohi, if_neg (fun y => ej y.2)]
          refine orc j ?_
          have hd : R * (j / R) + j % R = j := Nat.div_add_mod j R
          have hle : j / R < q := by
            rcases Nat.lt_or_ge (j / R) q with z | z
            · exact z
            · have : q + 1 ≤ j / R := by omega
              have h2 : R * (q + 1) ≤ R * (j / R) := Nat.mul_le_mul_left R this
              rw [Nat.mul_add] at h2
              omega
          have h3 : R * (j / R + 1) ≤ R * q := Nat.mul_le_mul_left R hle
          rw [Nat.mul_add] at h3
          have := Nat.mod_lt j (show R > 0 by omega)
          omega
      · unfold z_set2
        rw [w8, o3]
        by_cases eh : hi oc = 0
        · rw [if_pos eh, if_pos ⟨rfl, eh.symm⟩]
        · rw [if_neg eh, if_neg eh, if_neg (fun y => eh y.2.symm)]
