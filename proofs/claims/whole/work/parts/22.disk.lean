/-! ===== the class's disk ===== -/
theorem zx_tagAt {P R p s fu : Nat} {S : es_St} (hok : z_ok P R) (h0 : S.1 0 = nI P) (h1 : S.1 1 = nI R) (hp : p < P) (hs : s < R) : f_X0_tagAt (es_NX P R) fu S (nI p) (nI s) = some (S.2 12 (p * R + s), S) := by
  have hc := z_cell hp hs
  have hPR := z_PR hok
  unfold f_X0_tagAt
  rw [zx_isCell hok h0 h1 hp hs]
  simp only [es_bd, es_lt, h1, pk_mul, nI_add, zN12]
  rw [z_ck hc (by omega), z_rd _ _ _ (by omega)]
  simp
theorem zx_store {P R p s fu : Nat} {S : es_St} {k t : Int32} (hok : z_ok P R) (h0 : S.1 0 = nI P) (h1 : S.1 1 = nI R) (hp : p < P) (hs : s < R) : f_X0_store (es_NX P R) fu S (nI p) (nI s) k t = some (0, es_wr (es_wr S 11 (nI (p * R + s)) k) 12 (nI (p * R + s)) t) := by
  have hc := z_cell hp hs
  have hPR := z_PR hok
  unfold f_X0_store
  rw [zx_isCell hok h0 h1 hp hs]
  simp only [es_bd, es_lt, h1, pk_mul, nI_add, zN11, zN12, z_w1]
  rw [z_ck hc (by omega), z_ck hc (by omega)]
  simp
theorem zx_nextOf {P R p fu : Nat} {S : es_St} (hok : z_ok P R) (h0 : S.1 0 = nI P) (hp : p < P) : f_X0_nextOf (es_NX P R) fu S (nI p) = some (S.2 14 p, S) := by
  have hPb := hok.2.1
  unfold f_X0_nextOf
  rw [zx_isPage hok h0 (by omega)]
  simp only [es_bd, es_lt, if_pos hp, zN14]
  rw [z_ck hp (by omega), z_rd _ _ _ (by omega)]
  simp
theorem zx_link {P R p fu : Nat} {S : es_St} {q : Int32} (hok : z_ok P R) (h0 : S.1 0 = nI P) (hp : p < P) : f_X0_link (es_NX P R) fu S (nI p) q = some (0, es_wr S 14 (nI p) q) := by
  have hPb := hok.2.1
  unfold f_X0_link
  rw [zx_isPage hok h0 (by omega)]
  simp only [es_bd, es_lt, if_pos hp, zN14]
  rw [z_ck hp (by omega)]
  simp
def z_tk (P : Nat) (S : es_St) (fc p : Nat) (w : Int32) : es_St := es_F (es_wr (es_wr (es_F S 2 (nI (fc - 1))) 13 (nI p) w) 14 (nI p) (-1)) 26 (if nI (P - fc + 1) ≤ S.1 26 then S.1 26 else nI (P - fc + 1))
theorem zx_take0 {P R fu : Nat} {S : es_St} {w : Int32} (h2 : S.1 2 = nI 0) : f_X0_take (es_NX P R) fu S w = some (-1, S) := by
  unfold f_X0_take
  rw [h2]
  rfl
theorem zx_take {P R fc fu : Nat} {S : es_St} {w : Int32} (hok : z_ok P R) (h0 : S.1 0 = nI P) (hf : z_FR P S fc) (hfc : 0 < fc) : ∃ p, p < P ∧ S.2 15 (fc - 1) = nI p ∧ S.2 13 p = -1 ∧ f_X0_take (es_NX P R) fu S w = some (nI p, z_tk P S fc p w) := by
  have hPb := hok.2.1
  obtain ⟨f1, f2, f3, f4, f5⟩ := hf
  obtain ⟨p, a, b, d⟩ := f3 (fc - 1) (by omega)
  refine ⟨p, a, b, d, ?_⟩
  unfold f_X0_take
  have e1 : nI fc - 1 = nI (fc - 1) := pk_sub (a := fc) (b := 1) (by omega)
  simp only [f1, zN15, e1]
  rw [if_neg (show ¬ nI fc < 1 from nI_nlt (b := 1) (by omega) (by omega)), if_pos (nI_le f2 (by omega)), z_ck (by omega) (by omega), z_rd _ _ _ (by omega), b]
  simp only [es_lt]
  rw [zx_isPage hok h0 (by omega), if_pos a]
  simp only [es_bd, f1, e1, zN13, zN14]
  rw [if_pos (by decide), z_ck a (by omega), z_ck a (by omega)]
  have e2 : nI P - nI (fc - 1) = nI (P - fc + 1) := by rw [pk_sub (by omega)]; congr 1; omega
  simp only [z_w1, z_F1, z_F2, h0, Nat.reduceEqDiff, ↓reduceIte, e2]
  unfold z_tk
  by_cases hm : nI (P - fc + 1) ≤ S.1 26
  · rw [if_pos hm, if_pos hm]
  · rw [if_neg hm, if_neg hm]
def z_rl (S : es_St) (fc p : Nat) : es_St := es_F (es_wr (es_wr S 13 (nI p) (-1)) 15 (nI fc) (nI p)) 2 (nI (fc + 1))
theorem z_rl13 (S : es_St) (fc p : Nat) (hp : p < 2 ^ 31) (q : Nat) : (z_rl S fc p).2 13 q = if q = p then -1 else S.2 13 q := by
  simp [z_rl, z_F2, z_w2, z_up, nI_clamp hp]
theorem z_rl15 (S : es_St) (fc p : Nat) (hf : fc < 2 ^ 31) (i : Nat) : (z_rl S fc p).2 15 i = if i = fc then nI p else S.2 15 i := by
  simp [z_rl, z_F2, z_w2, z_up, nI_clamp hf]
theorem zx_release {P R fc p fu : Nat} {S : es_St} (hok : z_ok P R) (h0 : S.1 0 = nI P) (h2 : S.1 2 = nI fc) (hfc : fc < P) (hp : p < P) (ho : S.2 13 p ≠ -1) : f_X0_release (es_NX P R) fu S (nI p) = some (0, z_rl S fc p) := by
  have hPb := hok.2.1
  unfold f_X0_release
  rw [zx_isPage hok h0 (by omega), if_pos hp]
  simp only [es_bd, es_lt, zN13, zN15]
  rw [if_neg (by decide), z_ck hp (by omega), z_rd _ _ _ (by omega), if_neg ho, h2, if_neg (nI_pos (by omega)), if_neg (nI_ge hfc (by omega)), z_ck hp (by omega)]
  simp only [z_w1, h2]
  rw [z_ck hfc (by omega)]
  simp only [z_w1, h2, nI_1]
  rfl
theorem zx_releaseN {P R fu : Nat} {S : es_St} : f_X0_release (es_NX P R) fu S (-1) = some (0, S) := by
  unfold f_X0_release f_X0_isPage
  rw [if_pos (by decide)]
  rfl
/-- what releaseAll leaves as it was -/
def z_keep (fs ks : List Nat) (S S' : es_St) : Prop := (∀ g, g ∉ fs → S'.1 g = S.1 g) ∧ ∀ k, k ∉ ks → S'.2 k = S.2 k
theorem z_keep_rfl {fs ks : List Nat} {S : es_St} : z_keep fs ks S S := ⟨fun _ _ => rfl, fun _ _ => rfl⟩
theorem z_keep_trans {fs ks : List Nat} {S S1 S2 : es_St} (h1 : z_keep fs ks S S1) (h2 : z_keep fs ks S1 S2) : z_keep fs ks S S2 := ⟨fun g hg => (h2.1 g hg).trans (h1.1 g hg), fun k hk => (h2.2 k hk).trans (h1.2 k hk)⟩
theorem z_keep_mono {fs ks fs' ks' : List Nat} {S S1 : es_St} (h : z_keep fs ks S S1) (hf : ∀ g ∈ fs, g ∈ fs') (hk : ∀ k ∈ ks, k ∈ ks') : z_keep fs' ks' S S1 := ⟨fun g hg => h.1 g (fun x => hg (hf g x)), fun k hg => h.2 k (fun x => hg (hk k x))⟩
theorem z_keep_F {fs ks : List Nat} (S : es_St) (g : Nat) (v : Int32) (hg : g ∈ fs) : z_keep fs ks S (es_F S g v) := ⟨fun j hj => by rw [z_F1, if_neg (show ¬ j = g from fun e => hj (e ▸ hg))], fun _ _ => rfl⟩
theorem z_keep_w {fs ks : List Nat} (S : es_St) (k : Nat) (i v : Int32) (hk : k ∈ ks) : z_keep fs ks S (es_wr S k i v) := ⟨fun _ _ => rfl, fun j hj => by rw [z_w2, if_neg (show ¬ j = k from fun e => hj (e ▸ hk))]⟩
theorem zx_releaseAll_loop {P R fu : Nat} {w : Int32} (hok : z_ok P R) (hw : w ≠ -1) (x2 : Int32) : ∀ (m i : Nat) (S : es_St) (fc : Nat), i ≤ P → P - i < m → S.1 0 = nI P → z_FR P S fc →
    ∃ S', f_X0_releaseAll_7 (es_NX P R) fu m w x2 (nI i) S = some (nI (fc + (z_cnt (fun q => S.2 13 q = w) P - z_cnt (fun q => S.2 13 q = w) i)) - x2, S') ∧ z_keep [2] [13, 15] S S' ∧ z_FR P S' (fc + (z_cnt (fun q => S.2 13 q = w) P - z_cnt (fun q => S.2 13 q = w) i)) ∧ ∀ q, S'.2 13 q = if i ≤ q ∧ q < P ∧ S.2 13 q = w then -1 else S.2 13 q := by
  have hPb := hok.2.1
  intro m
  induction m with
  | zero => intro i S fc h1 h2; exact absurd h2 (by omega)
  | succ m ih =>
    intro i S fc hi hm h0 hf
    rw [f_X0_releaseAll_7]
    simp only [zN13]
    by_cases hend : i = P
    · subst hend
      rw [if_pos (nI_le (Nat.le_refl _) (by omega))]
      refine ⟨S, ?_, z_keep_rfl, ?_, fun q => ?_⟩
      · rw [hf.1]; simp
      · simpa using hf
      · rw [if_neg (by omega)]
    · have hiP : i < P := by omega
      rw [if_neg (nI_ge hiP (by omega)), z_ck hiP (by omega)]
      simp only [es_lt, z_rd S 13 i (show i < 2 ^ 31 by omega), nI_1]
      by_cases hq : S.2 13 i = w
      · rw [if_neg (by simpa using hq)]
        have hlt : fc < P := by rw [← hf.2.2.2.2]; exact z_cnt_lt hiP (by rw [hq]; exact hw)
        rw [zx_release hok h0 hf.1 hlt hiP (by rw [hq]; exact hw)]
        simp only [es_bd]
        have hne : nI i ≠ -1 := fun x => (z_m1 (by omega)).mp x
        have e13 : ∀ q, (z_rl S fc i).2 13 q = if q = i then -1 else S.2 13 q := z_rl13 S fc i (by omega)
        have hf' : z_FR P (z_rl S fc i) (fc + 1) := z_FR_rel hf hiP (by omega) (by rw [hq]; exact hw) rfl e13 (z_rl15 S fc i (by omega))
        obtain ⟨S', g1, g2, g3, g4⟩ := ih (i + 1) (z_rl S fc i) (fc + 1) (by omega) (by omega) h0 hf'
        have cc : ∀ j, i < j → j ≤ P → z_cnt (fun q => (z_rl S fc i).2 13 q = w) j + 1 = z_cnt (fun q => S.2 13 q = w) j := fun j hj _ => by
          have := z_cnt_add (Q := fun q => (z_rl S fc i).2 13 q = w) (Q' := fun q => S.2 13 q = w) (P := j) (q := i) hj (by show ¬ (z_rl S fc i).2 13 i = w; rw [e13, if_pos rfl]; exact fun x => hw x.symm) hq (fun q _ hn => by show (z_rl S fc i).2 13 q = w ↔ _; rw [e13, if_neg hn])
          omega
        have cP := cc P hiP (Nat.le_refl _)
        have ci := cc (i + 1) (by omega) hiP
        have ci2 : z_cnt (fun q => S.2 13 q = w) (i + 1) = z_cnt (fun q => S.2 13 q = w) i + 1 := by rw [z_cnt, if_pos hq]
        have hm1 := z_cnt_mono (fun q => S.2 13 q = w) (show i + 1 ≤ P by omega)
        have en : fc + 1 + (z_cnt (fun q => (z_rl S fc i).2 13 q = w) P - z_cnt (fun q => (z_rl S fc i).2 13 q = w) (i + 1)) = fc + (z_cnt (fun q => S.2 13 q = w) P - z_cnt (fun q => S.2 13 q = w) i) := by omega
        rw [en] at g1 g3
        refine ⟨S', g1, z_keep_trans ?_ g2, g3, fun q => ?_⟩
        · exact z_keep_trans (z_keep_trans (z_keep_w S 13 _ _ (by simp)) (z_keep_w _ 15 _ _ (by simp))) (z_keep_F _ 2 _ (by simp))
        · rw [g4, e13]
          by_cases e : q = i
          · subst e
            rw [if_pos rfl, if_neg (by omega), if_pos ⟨Nat.le_refl _, hiP, hq⟩]
          · rw [if_neg e]
            by_cases x : i + 1 ≤ q ∧ q < P ∧ S.2 13 q = w
            · rw [if_pos x, if_pos ⟨by omega, x.2⟩]
            · rw [if_neg x, if_neg (fun y => x ⟨by omega, y.2⟩)]
      · rw [if_pos (by simpa using hq)]
        obtain ⟨S', g1, g2, g3, g4⟩ := ih (i + 1) S fc (by omega) (by omega) h0 hf
        have ci2 : z_cnt (fun q => S.2 13 q = w) (i + 1) = z_cnt (fun q => S.2 13 q = w) i := by rw [z_cnt, if_neg hq]; rfl
        rw [ci2] at g1 g3
        refine ⟨S', g1, g2, g3, fun q => ?_⟩
        rw [g4]
        by_cases e : q = i
        · subst e
          rw [if_neg (by omega), if_neg (fun y => hq y.2.2)]
        · by_cases x : i + 1 ≤ q ∧ q < P ∧ S.2 13 q = w
          · rw [if_pos x, if_pos ⟨by omega, x.2⟩]
          · rw [if_neg x, if_neg (fun y => x ⟨by omega, y.2⟩)]

theorem zx_releaseAll {P R fu fc : Nat} {w : Int32} {S : es_St} (hok : z_ok P R) (hfu : 1000 ≤ fu) (hw : w ≠ -1) (h0 : S.1 0 = nI P) (hf : z_FR P S fc) :
    ∃ S', f_X0_releaseAll (es_NX P R) fu S w = some (nI (z_cnt (fun q => S.2 13 q = w) P), S') ∧ z_keep [2] [13, 15] S S' ∧ z_FR P S' (fc + z_cnt (fun q => S.2 13 q = w) P) ∧ ∀ q, q < P → S'.2 13 q = if S.2 13 q = w then -1 else S.2 13 q := by
  have hPb := hok.2.1
  obtain ⟨S', g1, g2, g3, g4⟩ := zx_releaseAll_loop (fu := fu) hok hw (S.1 2) fu 0 S fc (by omega) (by omega) h0 hf
  have e0 : z_cnt (fun q => S.2 13 q = w) 0 = 0 := rfl
  rw [e0, Nat.sub_zero] at g1 g3
  refine ⟨S', ?_, g2, g3, fun q hq => ?_⟩
  · unfold f_X0_releaseAll
    rw [zl0, g1, hf.1, pk_sub (by omega)]
    congr 3
    omega
  · rw [g4]
    by_cases e : S.2 13 q = w
    · rw [if_pos e, if_pos ⟨by omega, hq, e⟩]
    · rw [if_neg e, if_neg (fun x => e x.2.2)]
theorem zx_handOver_loop {P R fu : Nat} {w v : Int32} (hok : z_ok P R) (hwv : w ≠ v) : ∀ (m i : Nat) (S : es_St), i ≤ P → P - i < m →
    ∃ S', f_X0_handOver_2 (es_NX P R) fu m w v (nI i) S = some (0, S') ∧ z_keep [] [13] S S' ∧ ∀ q, S'.2 13 q = if i ≤ q ∧ q < P ∧ S.2 13 q = w then v else S.2 13 q := by
  have hPb := hok.2.1
  intro m
  induction m with
  | zero => intro i S h1 h2; exact absurd h2 (by omega)
  | succ m ih =>
    intro i S hi hm
    rw [f_X0_handOver_2]
    simp only [zN13]
    by_cases hend : i = P
    · subst hend
      rw [if_pos (nI_le (Nat.le_refl _) (by omega))]
      exact ⟨S, rfl, z_keep_rfl, fun q => by rw [if_neg (by omega)]⟩
    · have hiP : i < P := by omega
      rw [if_neg (nI_ge hiP (by omega)), z_ck hiP (by omega)]
      simp only [es_lt, z_rd S 13 i (show i < 2 ^ 31 by omega), nI_1]
      by_cases hq : S.2 13 i = w
      · rw [if_neg (by simpa using hq), z_ck hiP (by omega)]
        obtain ⟨S', g1, g2, g3⟩ := ih (i + 1) (es_wr S 13 (nI i) v) (by omega) (by omega)
        have e13 : ∀ q, (es_wr S 13 (nI i) v).2 13 q = if q = i then v else S.2 13 q := fun q => by simp [z_w2, z_up, nI_clamp (show i < 2 ^ 31 by omega)]
        refine ⟨S', g1, z_keep_trans (z_keep_w S 13 _ _ (by simp)) g2, fun q => ?_⟩
        rw [g3, e13]
        by_cases e : q = i
        · subst e
          rw [if_pos rfl, if_neg (by omega), if_pos ⟨Nat.le_refl _, hiP, hq⟩]
        · rw [if_neg e]
          by_cases x : i + 1 ≤ q ∧ q < P ∧ S.2 13 q = w
          · rw [if_pos x, if_pos ⟨by omega, x.2⟩]
          · rw [if_neg x, if_neg (fun y => x ⟨by omega, y.2⟩)]
      · rw [if_pos (by simpa using hq)]
        obtain ⟨S', g1, g2, g3⟩ := ih (i + 1) S (by omega) (by omega)
        refine ⟨S', g1, g2, fun q => ?_⟩
        rw [g3]
        by_cases e : q = i
        · subst e
          rw [if_neg (by omega), if_neg (fun y => hq y.2.2)]
        · by_cases x : i + 1 ≤ q ∧ q < P ∧ S.2 13 q = w
          · rw [if_pos x, if_pos ⟨by omega, x.2⟩]
          · rw [if_neg x, if_neg (fun y => x ⟨by omega, y.2⟩)]
theorem zx_handOver {P R fu : Nat} {w v : Int32} {S : es_St} (hok : z_ok P R) (hfu : 1000 ≤ fu) (hwv : w ≠ v) :
    ∃ S', f_X0_handOver (es_NX P R) fu S w v = some (0, S') ∧ z_keep [] [13] S S' ∧ ∀ q, q < P → S'.2 13 q = if S.2 13 q = w then v else S.2 13 q := by
  have hPb := hok.2.1
  obtain ⟨S', g1, g2, g3⟩ := zx_handOver_loop (fu := fu) hok hwv fu 0 S (by omega) (by omega)
  refine ⟨S', g1, g2, fun q hq => ?_⟩
  rw [g3]
  by_cases e : S.2 13 q = w
  · rw [if_pos e, if_pos ⟨by omega, hq, e⟩]
  · rw [if_neg e, if_neg (fun x => e x.2.2)]
theorem zx_slotOf {P R j fu : Nat} {N : Nat → Nat} {S : es_St} (hok : z_ok P R) (h1 : S.1 1 = nI R) (hj : j < 2 ^ 31) : f_X0_slotOf N fu S (nI j) = some (nI (j % R), S) := by
  obtain ⟨a1, a2, a3, a4⟩ := hok
  unfold f_X0_slotOf
  rw [h1, if_neg (show ¬ nI R < 1 from nI_nlt (b := 1) a3 (by omega)), if_pos (nI_pos' hj), es_ck_t (nI_ne0 (by omega) (by omega)), pk_rem hj (by omega) (by omega)]
theorem zx_pagesFor {P R j fu : Nat} {N : Nat → Nat} {S : es_St} (hok : z_ok P R) (h1 : S.1 1 = nI R) (hj : j < 2 ^ 30) : f_X0_pagesFor N fu S (nI j) = some (nI ((j + R - 1) / R), S) := by
  obtain ⟨a1, a2, a3, a4⟩ := hok
  unfold f_X0_pagesFor
  rw [h1, if_neg (show ¬ nI R < 1 from nI_nlt (b := 1) a3 (by omega))]
  by_cases h : 1 ≤ j
  · rw [if_pos (show 1 ≤ nI j from nI_le (a := 1) h (by omega)), es_ck_t (nI_ne0 (by omega) (by omega)), show nI j - 1 = nI (j - 1) from pk_sub (b := 1) h, pk_div (by omega) (by omega) (by omega), nI_1]
    have : (j + R - 1) / R = (j - 1) / R + 1 := by
      rw [show j + R - 1 = (j - 1) + R by omega, Nat.add_div_right _ (by omega)]
    rw [this]
  · have hj0 : j = 0 := by omega
    subst hj0
    rw [if_neg (show ¬ 1 ≤ nI 0 by decide), show 0 + R - 1 = R - 1 by omega, Nat.div_eq_of_lt (by omega)]
    rfl
theorem zx_pageOf_loop {P R fu : Nat} {S : es_St} (g : Nat → Nat) (k hops : Nat) (hok : z_ok P R) (h0 : S.1 0 = nI P) (hg : ∀ i, i < k → g i < P) (hl : ∀ i, i + 1 < k → S.2 14 (g i) = nI (g (i + 1))) (hh : hops < k) (hb : hops < 100000) : ∀ (m i : Nat), i ≤ hops → hops - i < m →
    f_X0_pageOf_29 (es_NX P R) fu m (nI hops) (nI (g i)) (nI i) S = some (nI (g hops), S) := by
  have hPb := hok.2.1
  intro m
  induction m with
  | zero => intro i h1 h2; exact absurd h2 (by omega)
  | succ m ih =>
    intro i hi' hm
    rw [f_X0_pageOf_29]
    by_cases e : i = hops
    · subst e
      rw [if_pos (nI_le (Nat.le_refl _) (by omega))]
    · rw [if_neg (nI_ge (by omega) (by omega)), zx_nextOf hok h0 (hg i (by omega))]
      simp only [es_bd, es_lt, nI_1, hl i (by omega)]
      exact ih (i + 1) (by omega) (by omega)
theorem zx_pageOf' {P R fu j : Nat} {S : es_St} (g : Nat → Nat) (k : Nat) (hok : z_ok P R) (hfu : 100000 ≤ fu) (h0 : S.1 0 = nI P) (h1 : S.1 1 = nI R) (hg : ∀ i, i < k → g i < P) (hl : ∀ i, i + 1 < k → S.2 14 (g i) = nI (g (i + 1))) (hh : j / R < k) (hj : j < 100000) :
    f_X0_pageOf (es_NX P R) fu S (nI (g 0)) (nI j) = some (nI (g (j / R)), S) := by
  obtain ⟨a1, a2, a3, a4⟩ := id hok
  have hd : j / R ≤ j := Nat.div_le_self j R
  unfold f_X0_pageOf
  rw [h1, if_neg (show ¬ nI R < 1 from nI_nlt (b := 1) a3 (by omega)), if_pos (nI_pos' (by omega)), es_ck_t (nI_ne0 (by omega) (by omega)), pk_div (by omega) (by omega) (by omega)]
  simp only [es_lt]
  exact zx_pageOf_loop g k (j / R) hok h0 hg hl hh (by omega) fu 0 (Nat.zero_le _) (by have := Nat.zero_le (j / R); omega)
theorem zx_pageOf {P R fu j : Nat} {S : es_St} {pg : Nat → Nat → Nat} {rc : Nat → Nat → z_Rec} {lo hi : Nat → Nat} (c : Nat) (hok : z_ok P R) (hfu : 100000 ≤ fu) (h0 : S.1 0 = nI P) (h1 : S.1 1 = nI R) (hc : z_CH P R S pg rc lo hi) (hlo : lo c = 0) (hh : j / R < hi c) (hj : j < 100000) :
    f_X0_pageOf (es_NX P R) fu S (nI (pg c 0)) (nI j) = some (nI (pg c (j / R)), S) :=
  zx_pageOf' (pg c) (hi c) hok hfu h0 h1 (fun i h => (hc.1 c i (by omega) h).1) (fun i h => hc.2.2.1 c i (by omega) h) hh hj
/-- a chain is no longer than the disk -/
theorem z_CH_len {P R : Nat} {S : es_St} {pg : Nat → Nat → Nat} {rc : Nat → Nat → z_Rec} {lo hi : Nat → Nat} (hc : z_CH P R S pg rc lo hi) (c : Nat) : hi c - lo c ≤ z_cnt (fun q => S.2 13 q = z_ow c) P :=
  z_pig P (hi c - lo c) (fun i => pg c (lo c + i)) (fun i j a b e => by
    have := (hc.2.1 c (lo c + i) c (lo c + j) (by omega) (by omega) (by omega) (by omega) e).2
    omega) (fun i a => ⟨(hc.1 c (lo c + i) (by omega) (by omega)).1, (hc.1 c (lo c + i) (by omega) (by omega)).2⟩)
/-- a file's pages are those of its chain -/
theorem z_CH_cnt {P R : Nat} {S : es_St} {pg : Nat → Nat → Nat} {rc : Nat → Nat → z_Rec} {lo hi : Nat → Nat} (hc : z_CH P R S pg rc lo hi) (f : Nat) (w : Int32) (hw : w = z_ow f) (h1 : ∀ c, c ≠ f → z_ow c = w → hi c ≤ lo c) : z_cnt (fun q => S.2 13 q = w) P = hi f - lo f := by
  subst hw
  refine Nat.le_antisymm (z_pig2 P (hi f - lo f) (fun i => pg f (lo f + i)) (fun p hp hq => ?_)) (z_CH_len hc f)
  rcases hc.2.2.2.2 p hp with x | ⟨c, i, a, b, d⟩
  · rw [x] at hq; exact absurd hq.symm (z_ow_m1 f)
  · have hcf : c = f := by
      rcases Nat.decEq c f with z | z
      · have h2 := (hc.1 c i a b).2
        rw [d, hq] at h2
        have := h1 c z h2.symm
        omega
      · exact z
    subst hcf
    exact ⟨i - lo c, by omega, by rw [show lo c + (i - lo c) = i by omega]; exact d⟩
