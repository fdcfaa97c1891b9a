/-! ===== counting ===== -/
def z_cnt (Q : Nat → Prop) [DecidablePred Q] : Nat → Nat
  | 0 => 0
  | p + 1 => z_cnt Q p + if Q p then 1 else 0
theorem z_cnt_le (Q : Nat → Prop) [DecidablePred Q] (P : Nat) : z_cnt Q P ≤ P := by
  induction P with
  | zero => exact Nat.le_refl 0
  | succ p ih => unfold z_cnt; split <;> omega
theorem z_cnt_mono (Q : Nat → Prop) [DecidablePred Q] {a b : Nat} (h : a ≤ b) : z_cnt Q a ≤ z_cnt Q b := by
  induction b with
  | zero => have : a = 0 := by omega
            subst this; exact Nat.le_refl _
  | succ b ih =>
    rcases Nat.lt_or_ge a (b + 1) with x | x
    · have := ih (by omega)
      rw [show z_cnt Q (b + 1) = z_cnt Q b + if Q b then 1 else 0 from rfl]
      omega
    · have : a = b + 1 := by omega
      subst this; exact Nat.le_refl _
theorem z_cnt_congr {Q Q' : Nat → Prop} [DecidablePred Q] [DecidablePred Q'] {P : Nat} (h : ∀ p, p < P → (Q p ↔ Q' p)) : z_cnt Q P = z_cnt Q' P := by
  induction P with
  | zero => rfl
  | succ p ih =>
    unfold z_cnt
    rw [ih (fun q hq => h q (by omega))]
    by_cases hq : Q p
    · rw [if_pos hq, if_pos ((h p (by omega)).mp hq)]
    · rw [if_neg hq, if_neg (fun x => hq ((h p (by omega)).mpr x))]
theorem z_cnt_add {Q Q' : Nat → Prop} [DecidablePred Q] [DecidablePred Q'] {P q : Nat} (hq : q < P) (h1 : ¬ Q q) (h2 : Q' q) (h : ∀ p, p < P → p ≠ q → (Q p ↔ Q' p)) : z_cnt Q' P = z_cnt Q P + 1 := by
  induction P with
  | zero => exact absurd hq (by omega)
  | succ p ih =>
    unfold z_cnt
    by_cases e : q = p
    · subst e
      rw [if_neg h1, if_pos h2, z_cnt_congr (Q := Q') (Q' := Q) (fun x hx => (h x (by omega) (by omega)).symm)]
    · rw [ih (by omega) (fun x hx hn => h x (by omega) hn)]
      by_cases hp : Q p
      · rw [if_pos hp, if_pos ((h p (by omega) (by omega)).mp hp)]
      · rw [if_neg hp, if_neg (fun x => hp ((h p (by omega) (by omega)).mpr x))]
theorem z_pig {Q : Nat → Prop} [DecidablePred Q] : ∀ (P k : Nat) (g : Nat → Nat), (∀ i j, i < k → j < k → g i = g j → i = j) → (∀ i, i < k → g i < P ∧ Q (g i)) → k ≤ z_cnt Q P := by
  intro P
  induction P with
  | zero =>
    intro k g _ h
    rcases Nat.eq_zero_or_pos k with e | e
    · omega
    · exact absurd (h 0 e).1 (by omega)
  | succ p ih =>
    intro k g hi h
    unfold z_cnt
    by_cases hx : ∃ i, i < k ∧ g i = p
    · obtain ⟨i0, h1, h2⟩ := hx
      have hQ : Q p := h2 ▸ (h i0 h1).2
      rw [if_pos hQ]
      have := ih (k - 1) (fun i => if i = i0 then g (k - 1) else g i) (fun i j a b e => by
        by_cases e1 : i = i0 <;> by_cases e2 : j = i0
        · omega
        · simp only [e1, e2, if_true, if_false] at e
          have := hi (k - 1) j (by omega) (by omega) e
          omega
        · simp only [e1, e2, if_true, if_false] at e
          have := hi i (k - 1) (by omega) (by omega) e
          omega
        · simp only [e1, e2, if_false] at e
          exact hi i j (by omega) (by omega) e) (fun i a => by
        by_cases e1 : i = i0
        · simp only [e1, if_true]
          have h3 := h (k - 1) (by omega)
          have h4 : g (k - 1) ≠ p := fun e => by
            have := hi (k - 1) i0 (by omega) h1 (by rw [e, h2])
            omega
          exact ⟨by omega, h3.2⟩
        · simp only [e1, if_false]
          have h3 := h i (by omega)
          have h4 : g i ≠ p := fun e => e1 (hi i i0 (by omega) h1 (by rw [e, h2]))
          exact ⟨by omega, h3.2⟩)
      omega
    · have := ih k g hi (fun i a => by
        have h3 := h i a
        have h4 : g i ≠ p := fun e => hx ⟨i, a, e⟩
        exact ⟨by omega, h3.2⟩)
      omega
theorem z_pig2 {Q : Nat → Prop} [DecidablePred Q] : ∀ (P k : Nat) (g : Nat → Nat), (∀ p, p < P → Q p → ∃ i, i < k ∧ g i = p) → z_cnt Q P ≤ k := by
  intro P
  induction P with
  | zero => intro k g _; exact Nat.zero_le k
  | succ p ih =>
    intro k g h
    unfold z_cnt
    by_cases hQ : Q p
    · obtain ⟨i0, h1, h2⟩ := h p (by omega) hQ
      rw [if_pos hQ]
      have := ih (k - 1) (fun i => if i = i0 then g (k - 1) else g i) (fun q hq hQq => by
        obtain ⟨i, h3, h4⟩ := h q (by omega) hQq
        have hne : i ≠ i0 := fun e => by rw [e, h2] at h4; omega
        by_cases e : i = k - 1
        · exact ⟨i0, by omega, by simp only [if_true]; rw [← e]; exact h4⟩
        · exact ⟨i, by omega, by simp only [hne, if_false]; exact h4⟩)
      omega
    · rw [if_neg hQ]
      have := ih k g (fun q hq hQq => h q (by omega) hQq)
      omega
/-! ===== the disk: chains of pages ===== -/
def z_ow (c : Nat) : Int32 := if c < 6 then nI c else nI 6
theorem z_ow_lt {c : Nat} (h : c < 6) : z_ow c = nI c := if_pos h
theorem z_ow_ge {c : Nat} (h : 6 ≤ c) : z_ow c = nI 6 := if_neg (by omega)
theorem z_ow_m1 (c : Nat) : z_ow c ≠ -1 := by
  unfold z_ow
  split
  · exact fun h => (z_m1 (by omega)).mp h
  · exact fun h => (z_m1 (by omega)).mp h
theorem z_ow_eq {c f : Nat} (hf : f < 6) (h : z_ow c = nI f) : c = f := by
  unfold z_ow at h
  split at h
  · exact (nI_eq (by omega) (by omega)).mp h
  · have := (nI_eq (by omega) (by omega)).mp h
    omega
theorem z_ow_6 {c : Nat} (h : z_ow c = nI 6) : 6 ≤ c := by
  unfold z_ow at h
  split at h
  · have := (nI_eq (by omega) (by omega)).mp h
    omega
  · omega
abbrev z_Rec : Type := Int32 × Int32
/-- the free pages -/
def z_FR (P : Nat) (S : es_St) (fc : Nat) : Prop :=
  S.1 2 = nI fc ∧ fc ≤ P ∧ (∀ i, i < fc → ∃ p, p < P ∧ S.2 15 i = nI p ∧ S.2 13 p = -1) ∧ (∀ i j, i < fc → j < fc → S.2 15 i = S.2 15 j → i = j) ∧ z_cnt (fun p => S.2 13 p = -1) P = fc
/-- the chains: pages lo c .. hi c of chain c -/
def z_CH (P R : Nat) (S : es_St) (pg : Nat → Nat → Nat) (rc : Nat → Nat → z_Rec) (lo hi : Nat → Nat) : Prop :=
  (∀ c i, lo c ≤ i → i < hi c → pg c i < P ∧ S.2 13 (pg c i) = z_ow c) ∧
  (∀ c i c' i', lo c ≤ i → i < hi c → lo c' ≤ i' → i' < hi c' → pg c i = pg c' i' → c = c' ∧ i = i') ∧
  (∀ c i, lo c ≤ i → i + 1 < hi c → S.2 14 (pg c i) = nI (pg c (i + 1))) ∧
  (∀ c i s, lo c ≤ i → i < hi c → s < R → S.2 11 (pg c i * R + s) = (rc c (i * R + s)).1 ∧ S.2 12 (pg c i * R + s) = (rc c (i * R + s)).2) ∧
  (∀ p, p < P → S.2 13 p = -1 ∨ ∃ c i, lo c ≤ i ∧ i < hi c ∧ pg c i = p)
def z_DI (P R : Nat) (S : es_St) (pg : Nat → Nat → Nat) (rc : Nat → Nat → z_Rec) (lo hi : Nat → Nat) (fc : Nat) : Prop :=
  S.1 0 = nI P ∧ S.1 1 = nI R ∧ z_FR P S fc ∧ z_CH P R S pg rc lo hi
/-- what the disk rests on -/
def z_same (S S' : es_St) : Prop := S'.1 0 = S.1 0 ∧ S'.1 1 = S.1 1 ∧ S'.1 2 = S.1 2 ∧ S'.2 11 = S.2 11 ∧ S'.2 12 = S.2 12 ∧ S'.2 13 = S.2 13 ∧ S'.2 14 = S.2 14 ∧ S'.2 15 = S.2 15
theorem z_DI_same {P R : Nat} {S S' : es_St} {pg : Nat → Nat → Nat} {rc : Nat → Nat → z_Rec} {lo hi : Nat → Nat} {fc : Nat} (h : z_DI P R S pg rc lo hi fc) (e : z_same S S') : z_DI P R S' pg rc lo hi fc := by
  obtain ⟨e0, e1, e2, e3, e4, e5, e6, e7⟩ := e
  unfold z_DI z_FR z_CH at *
  simp only [e0, e1, e2, e3, e4, e5, e6, e7]
  exact h
def z_set2 {α : Type} (f : Nat → Nat → α) (c i : Nat) (x : α) : Nat → Nat → α := fun c' i' => if c' = c ∧ i' = i then x else f c' i'
def z_set1 {α : Type} (f : Nat → α) (c : Nat) (x : α) : Nat → α := fun c' => if c' = c then x else f c'
/-- one page more at the end of chain c -/
theorem z_DI_grow {P R : Nat} {S S' : es_St} {pg : Nat → Nat → Nat} {rc : Nat → Nat → z_Rec} {lo hi : Nat → Nat} {fc : Nat} (c p : Nat) (rp : Nat → z_Rec) (h : z_DI P R S pg rc lo hi fc) (hfc : 0 < fc) (hR : 0 < R) (hp : S.2 15 (fc - 1) = nI p) (hpP : p < P) (hP31 : P < 2 ^ 31) (hlo : lo c ≤ hi c)
    (e0 : S'.1 0 = S.1 0) (e1 : S'.1 1 = S.1 1) (e2 : S'.1 2 = nI (fc - 1)) (e15 : S'.2 15 = S.2 15) (e13 : ∀ q, S'.2 13 q = if q = p then z_ow c else S.2 13 q)
    (e14 : ∀ q, q ≠ p → (∀ _ : lo c < hi c, q ≠ pg c (hi c - 1)) → S'.2 14 q = S.2 14 q) (e14t : lo c < hi c → S'.2 14 (pg c (hi c - 1)) = nI p)
    (e11 : ∀ q s, s < R → q ≠ p → S'.2 11 (q * R + s) = S.2 11 (q * R + s) ∧ S'.2 12 (q * R + s) = S.2 12 (q * R + s)) (er : ∀ s, s < R → S'.2 11 (p * R + s) = (rp s).1 ∧ S'.2 12 (p * R + s) = (rp s).2) :
    z_DI P R S' (z_set2 pg c (hi c) p) (fun c' j => if c' = c ∧ j / R = hi c then rp (j % R) else rc c' j) lo (z_set1 hi c (hi c + 1)) (fc - 1) := by
  obtain ⟨h0, h1, ⟨f1, f2, f3, f4, f5⟩, c1, c2, c3, c4, c5⟩ := h
  have hpm : S.2 13 p = -1 := by
    obtain ⟨p', a, b, d⟩ := f3 (fc - 1) (by omega)
    have : p = p' := (nI_eq (by omega) (by omega)).mp (hp.symm.trans b)
    rw [this]; exact d
  have hlive : ∀ c' i, lo c' ≤ i → i < hi c' → pg c' i ≠ p := fun c' i a b e => by
    have := (c1 c' i a b).2
    rw [e, hpm] at this
    exact z_ow_m1 c' this.symm
  refine ⟨e0.trans h0, e1.trans h1, ⟨e2, by omega, fun i hi' => ?_, fun i j a b e => f4 i j (by omega) (by omega) (by rw [← e15]; exact e), ?_⟩, ?_, ?_, ?_, ?_, ?_⟩
  · obtain ⟨q, a, b, d⟩ := f3 i (by omega)
    refine ⟨q, a, by rw [e15]; exact b, ?_⟩
    rw [e13, if_neg ?_]
    · exact d
    · intro e
      rw [e] at b
      have := f4 i (fc - 1) (by omega) (by omega) (b.trans hp.symm)
      omega
  · have := z_cnt_add (Q := fun q => S'.2 13 q = -1) (Q' := fun q => S.2 13 q = -1) (P := P) (q := p) hpP (by show ¬ S'.2 13 p = -1; rw [e13, if_pos rfl]; exact z_ow_m1 c) hpm (fun q _ hne => by show S'.2 13 q = -1 ↔ S.2 13 q = -1; rw [e13, if_neg hne])
    omega
  · intro c' i a b
    unfold z_set2 z_set1 at *
    by_cases e : c' = c ∧ i = hi c
    · rw [if_pos e, e13, if_pos rfl, e.1]
      exact ⟨hpP, rfl⟩
    · rw [if_neg e]
      have hb : i < hi c' := by
        by_cases ec : c' = c
        · rw [if_pos ec] at b; subst ec; have : i ≠ hi c' := fun x => e ⟨rfl, x⟩; omega
        · rw [if_neg ec] at b; exact b
      rw [e13, if_neg (hlive c' i a hb)]
      exact c1 c' i a hb
  · intro c' i c'' i' a b a' b' e
    unfold z_set2 z_set1 at *
    by_cases q1 : c' = c ∧ i = hi c <;> by_cases q2 : c'' = c ∧ i' = hi c
    · exact ⟨q1.1.trans q2.1.symm, q1.2.trans q2.2.symm⟩
    · rw [if_pos q1, if_neg q2] at e
      have hb : i' < hi c'' := by
        by_cases ec : c'' = c
        · rw [if_pos ec] at b'; subst ec; have : i' ≠ hi c'' := fun x => q2 ⟨rfl, x⟩; omega
        · rw [if_neg ec] at b'; exact b'
      exact absurd e.symm (hlive c'' i' a' hb)
    · rw [if_neg q1, if_pos q2] at e
      have hb : i < hi c' := by
        by_cases ec : c' = c
        · rw [if_pos ec] at b; subst ec; have : i ≠ hi c' := fun x => q1 ⟨rfl, x⟩; omega
        · rw [if_neg ec] at b; exact b
      exact absurd e (hlive c' i a hb)
    · rw [if_neg q1, if_neg q2] at e
      refine c2 c' i c'' i' a ?_ a' ?_ e
      · by_cases ec : c' = c
        · rw [if_pos ec] at b; subst ec; have : i ≠ hi c' := fun x => q1 ⟨rfl, x⟩; omega
        · rw [if_neg ec] at b; exact b
      · by_cases ec : c'' = c
        · rw [if_pos ec] at b'; subst ec; have : i' ≠ hi c'' := fun x => q2 ⟨rfl, x⟩; omega
        · rw [if_neg ec] at b'; exact b'
  · intro c' i a b
    unfold z_set2 z_set1 at *
    by_cases ec : c' = c
    · subst ec
      rw [if_pos rfl] at b
      rw [if_neg (by intro x; omega)]
      by_cases e : i + 1 = hi c'
      · rw [if_pos ⟨rfl, e⟩]
        have := e14t (by omega)
        rw [← e] at this
        simpa using this
      · rw [if_neg (by intro x; exact e x.2), e14 _ (hlive c' i a (by omega)) (fun hl x => ?_)]
        · exact c3 c' i a (by omega)
        · have := (c2 c' i c' (hi c' - 1) a (by omega) (by omega) (by omega) x).2
          omega
    · rw [if_neg ec] at b
      rw [if_neg (by intro x; exact ec x.1), if_neg (by intro x; exact ec x.1), e14 _ (hlive c' i a (by omega)) (fun hl x => ?_)]
      · exact c3 c' i a b
      · exact ec (c2 c' i c (hi c - 1) a (by omega) (by omega) (by omega) x).1
  · intro c' i s a b hs
    unfold z_set2 z_set1 at *
    have d1 : (i * R + s) / R = i := by rw [Nat.mul_comm, Nat.mul_add_div hR, Nat.div_eq_of_lt hs]; omega
    have d2 : (i * R + s) % R = s := by rw [Nat.mul_comm, Nat.mul_add_mod, Nat.mod_eq_of_lt hs]
    dsimp only
    rw [d1, d2]
    by_cases e : c' = c ∧ i = hi c
    · rw [if_pos e, if_pos e]
      exact er s hs
    · rw [if_neg e, if_neg e]
      have hb : i < hi c' := by
        by_cases ec : c' = c
        · rw [if_pos ec] at b; subst ec; have : i ≠ hi c' := fun x => e ⟨rfl, x⟩; omega
        · rw [if_neg ec] at b; exact b
      have g := e11 (pg c' i) s hs (hlive c' i a hb)
      rw [g.1, g.2]
      exact c4 c' i s a hb hs
  · intro q hq
    unfold z_set2 z_set1
    by_cases e : q = p
    · exact Or.inr ⟨c, hi c, hlo, by rw [if_pos rfl]; omega, by rw [if_pos ⟨rfl, rfl⟩]; exact e.symm⟩
    · rw [e13, if_neg e]
      rcases c5 q hq with x | ⟨c', i, a, b, d⟩
      · exact Or.inl x
      · refine Or.inr ⟨c', i, a, ?_, ?_⟩
        · by_cases ec : c' = c
          · rw [if_pos ec]; subst ec; omega
          · rw [if_neg ec]; exact b
        · rw [if_neg (fun x => by rw [x.1, x.2] at b; omega)]; exact d

theorem z_cnt_lt {Q : Nat → Prop} [DecidablePred Q] {P p : Nat} (hp : p < P) (h : ¬ Q p) : z_cnt Q P < P := by
  have h1 := z_cnt_add (Q := Q) (Q' := fun q => Q q ∨ q = p) (P := P) (q := p) hp h (Or.inr rfl) (fun q _ hne => ⟨Or.inl, fun x => x.elim id (fun e => absurd e hne)⟩)
  have h2 := z_cnt_le (fun q => Q q ∨ q = p) P
  omega
/-- a page comes back -/
theorem z_FR_rel {P : Nat} {S S' : es_St} {fc p : Nat} (h : z_FR P S fc) (hp : p < P) (hP : P < 2 ^ 31) (ho : S.2 13 p ≠ -1) (e2 : S'.1 2 = nI (fc + 1)) (e13 : ∀ q, S'.2 13 q = if q = p then -1 else S.2 13 q) (e15 : ∀ i, S'.2 15 i = if i = fc then nI p else S.2 15 i) : z_FR P S' (fc + 1) := by
  obtain ⟨f1, f2, f3, f4, f5⟩ := h
  have hlt : fc < P := by rw [← f5]; exact z_cnt_lt hp ho
  refine ⟨e2, hlt, fun i hi => ?_, fun i j hi hj e => ?_, ?_⟩
  · by_cases e : i = fc
    · exact ⟨p, hp, by rw [e15, if_pos e], by rw [e13, if_pos rfl]⟩
    · obtain ⟨q, a, b, d⟩ := f3 i (by omega)
      refine ⟨q, a, by rw [e15, if_neg e]; exact b, ?_⟩
      rw [e13]
      split
      · rfl
      · exact d
  · rw [e15, e15] at e
    by_cases q1 : i = fc <;> by_cases q2 : j = fc
    · omega
    · rw [if_pos q1, if_neg q2] at e
      obtain ⟨q, a, b, d⟩ := f3 j (by omega)
      have : p = q := (nI_eq (by omega) (by omega)).mp (e.trans b)
      exact absurd (this ▸ d) ho
    · rw [if_neg q1, if_pos q2] at e
      obtain ⟨q, a, b, d⟩ := f3 i (by omega)
      have : q = p := (nI_eq (by omega) (by omega)).mp (b.symm.trans e)
      exact absurd (this ▸ d) ho
    · rw [if_neg q1, if_neg q2] at e
      exact f4 i j (by omega) (by omega) e
  · have := z_cnt_add (Q := fun q => S.2 13 q = -1) (Q' := fun q => S'.2 13 q = -1) (P := P) (q := p) hp ho (by show S'.2 13 p = -1; rw [e13, if_pos rfl]) (fun q _ hne => by show S.2 13 q = -1 ↔ S'.2 13 q = -1; rw [e13, if_neg hne])
    omega
/-- the first page of a chain is free -/
theorem z_DI_rel {P R : Nat} {S S' : es_St} {pg : Nat → Nat → Nat} {rc : Nat → Nat → z_Rec} {lo hi : Nat → Nat} {fc : Nat} (c : Nat) (h : z_DI P R S pg rc lo hi fc) (hlo : lo c < hi c) (hP : P < 2 ^ 31)
    (e0 : S'.1 0 = S.1 0) (e1 : S'.1 1 = S.1 1) (e2 : S'.1 2 = nI (fc + 1)) (e11 : S'.2 11 = S.2 11) (e12 : S'.2 12 = S.2 12) (e13 : ∀ q, S'.2 13 q = if q = pg c (lo c) then -1 else S.2 13 q) (e14 : S'.2 14 = S.2 14) (e15 : ∀ i, S'.2 15 i = if i = fc then nI (pg c (lo c)) else S.2 15 i) :
    z_DI P R S' pg rc (z_set1 lo c (lo c + 1)) hi (fc + 1) := by
  obtain ⟨h0, h1, hf, c1, c2, c3, c4, c5⟩ := h
  have hp := c1 c (lo c) (Nat.le_refl _) hlo
  have hge : ∀ c' i, z_set1 lo c (lo c + 1) c' ≤ i → lo c' ≤ i := fun c' i a => by
    unfold z_set1 at a
    split at a
    · next e => subst e; omega
    · exact a
  have hne : ∀ c' i, z_set1 lo c (lo c + 1) c' ≤ i → i < hi c' → pg c' i ≠ pg c (lo c) := fun c' i a b e => by
    have := c2 c' i c (lo c) (hge c' i a) b (Nat.le_refl _) hlo e
    unfold z_set1 at a
    rw [if_pos this.1] at a
    omega
  refine ⟨e0.trans h0, e1.trans h1, z_FR_rel hf hp.1 hP (by rw [hp.2]; exact z_ow_m1 c) e2 e13 e15, fun c' i a b => ?_, fun c' i c'' i' a b a' b' e => c2 c' i c'' i' (hge c' i a) b (hge c'' i' a') b' e, fun c' i a b => ?_, fun c' i s a b hs => ?_, fun q hq => ?_⟩
  · rw [e13, if_neg (hne c' i a b)]
    exact c1 c' i (hge c' i a) b
  · rw [e14]; exact c3 c' i (hge c' i a) b
  · rw [e11, e12]; exact c4 c' i s (hge c' i a) b hs
  · rw [e13]
    by_cases e : q = pg c (lo c)
    · rw [if_pos e]; exact Or.inl rfl
    · rw [if_neg e]
      rcases c5 q hq with x | ⟨c', i, a, b, d⟩
      · exact Or.inl x
      · refine Or.inr ⟨c', i, ?_, b, d⟩
        unfold z_set1
        by_cases ec : c' = c
        · rw [if_pos ec]
          subst ec
          have : i ≠ lo c' := fun x => e (by rw [← d, x])
          omega
        · rw [if_neg ec]; exact a
/-- all chains of an owner are gone -/
theorem z_DI_kill {P R : Nat} {S S' : es_St} {pg : Nat → Nat → Nat} {rc : Nat → Nat → z_Rec} {lo hi : Nat → Nat} {fc fc' : Nat} (w : Int32) (hw : w ≠ -1) (h : z_DI P R S pg rc lo hi fc)
    (e0 : S'.1 0 = S.1 0) (e1 : S'.1 1 = S.1 1) (hf : z_FR P S' fc') (e11 : S'.2 11 = S.2 11) (e12 : S'.2 12 = S.2 12) (e13 : ∀ q, q < P → S'.2 13 q = if S.2 13 q = w then -1 else S.2 13 q) (e14 : S'.2 14 = S.2 14) :
    z_DI P R S' pg rc (fun c => if z_ow c = w then hi c else lo c) hi fc' := by
  obtain ⟨h0, h1, -, c1, c2, c3, c4, c5⟩ := h
  have hge : ∀ c i, (if z_ow c = w then hi c else lo c) ≤ i → i < hi c → lo c ≤ i ∧ z_ow c ≠ w := fun c i a b => by
    split at a
    · omega
    · next e => exact ⟨a, e⟩
  refine ⟨e0.trans h0, e1.trans h1, hf, fun c i a b => ?_, fun c i c' i' a b a' b' e => c2 c i c' i' (hge c i a b).1 b (hge c' i' a' b').1 b' e, fun c i a b => ?_, fun c i s a b hs => ?_, fun q hq => ?_⟩
  · obtain ⟨a1, a2⟩ := hge c i a b
    obtain ⟨x, y⟩ := c1 c i a1 b
    exact ⟨x, by rw [e13 _ x, y, if_neg a2]⟩
  · rw [e14]; exact c3 c i (hge c i a (by omega)).1 b
  · rw [e11, e12]; exact c4 c i s (hge c i a b).1 b hs
  · rw [e13 q hq]
    by_cases e : S.2 13 q = w
    · rw [if_pos e]; exact Or.inl rfl
    · rw [if_neg e]
      rcases c5 q hq with x | ⟨c, i, a, b, d⟩
      · exact Or.inl x
      · refine Or.inr ⟨c, i, ?_, b, d⟩
        have := (c1 c i a b).2
        rw [d] at this
        show (if z_ow c = w then hi c else lo c) ≤ i
        rw [if_neg (fun z => e (this.trans z))]
        exact a
/-- the run that is left becomes file f's -/
theorem z_DI_hand {P R : Nat} {S S' : es_St} {pg : Nat → Nat → Nat} {rc : Nat → Nat → z_Rec} {lo hi : Nat → Nat} {fc : Nat} (f r : Nat) (hf6 : f < 6) (hr : 6 ≤ r) (h : z_DI P R S pg rc lo hi fc) (hdead : ∀ c, (6 ≤ c ∧ c ≠ r) ∨ c = f → hi c ≤ lo c)
    (e0 : S'.1 0 = S.1 0) (e1 : S'.1 1 = S.1 1) (e2 : S'.1 2 = S.1 2) (e11 : S'.2 11 = S.2 11) (e12 : S'.2 12 = S.2 12) (e13 : ∀ q, q < P → S'.2 13 q = if S.2 13 q = nI 6 then nI f else S.2 13 q) (e14 : S'.2 14 = S.2 14) (e15 : S'.2 15 = S.2 15) :
    z_DI P R S' (fun c => if c = f then pg r else pg c) (fun c => if c = f then rc r else rc c) (fun c => if c = f then lo r else if 6 ≤ c then hi c else lo c) (fun c => if c = f then hi r else hi c) fc := by
  obtain ⟨h0, h1, ⟨f1, f2, f3, f4, f5⟩, c1, c2, c3, c4, c5⟩ := h
  have hm : ∀ q, q < P → (S'.2 13 q = -1 ↔ S.2 13 q = -1) := fun q hq => by
    rw [e13 q hq]
    split
    · next e => rw [e]; simp only [z_m1 (show f < 2 ^ 31 by omega), z_m1 (show 6 < 2 ^ 31 by decide)]
    · exact Iff.rfl
  -- every live chain of the new world is one of the old
  have key : ∀ c i, (if c = f then lo r else if 6 ≤ c then hi c else lo c) ≤ i → i < (if c = f then hi r else hi c) → (c = f ∧ lo r ≤ i ∧ i < hi r) ∨ (c ≠ f ∧ c < 6 ∧ lo c ≤ i ∧ i < hi c) := fun c i a b => by
    by_cases e : c = f
    · rw [if_pos e] at a b; exact Or.inl ⟨e, a, b⟩
    · rw [if_neg e] at a b
      by_cases e6 : 6 ≤ c
      · rw [if_pos e6] at a; omega
      · rw [if_neg e6] at a; exact Or.inr ⟨e, by omega, a, b⟩
  refine ⟨e0.trans h0, e1.trans h1, ⟨e2.trans f1, f2, fun i hi' => ?_, fun i j a b e => f4 i j a b (by rw [← e15]; exact e), ?_⟩, fun c i a b => ?_, fun c i c' i' a b a' b' e => ?_, fun c i a b => ?_, fun c i s a b hs => ?_, fun q hq => ?_⟩
  · obtain ⟨q, x, y, z⟩ := f3 i hi'
    exact ⟨q, x, by rw [e15]; exact y, (hm q x).mpr z⟩
  · rw [← f5]; exact z_cnt_congr (fun q hq => hm q hq)
  · dsimp only at a b ⊢
    rcases key c i a b with ⟨e, x, y⟩ | ⟨e, e6, x, y⟩
    · rw [if_pos e]
      obtain ⟨u, v⟩ := c1 r i x y
      refine ⟨u, ?_⟩
      rw [e13 _ u, v, z_ow_ge hr, if_pos rfl, e, z_ow_lt hf6]
    · rw [if_neg e]
      obtain ⟨u, v⟩ := c1 c i x y
      refine ⟨u, ?_⟩
      rw [e13 _ u, v, if_neg (fun z => by have := z_ow_6 z; omega)]
  · dsimp only at a b a' b' e
    rcases key c i a b with ⟨q1, x, y⟩ | ⟨q1, q16, x, y⟩ <;> rcases key c' i' a' b' with ⟨q2, x', y'⟩ | ⟨q2, q26, x', y'⟩
    · rw [if_pos q1, if_pos q2] at e
      exact ⟨q1.trans q2.symm, (c2 r i r i' x y x' y' e).2⟩
    · rw [if_pos q1, if_neg q2] at e
      have := (c2 r i c' i' x y x' y' e).1
      omega
    · rw [if_neg q1, if_pos q2] at e
      have := (c2 c i r i' x y x' y' e).1
      omega
    · rw [if_neg q1, if_neg q2] at e
      exact c2 c i c' i' x y x' y' e
  · dsimp only at a b ⊢
    rw [e14]
    rcases key c i a (by omega) with ⟨e, x, y⟩ | ⟨e, e6, x, y⟩
    · rw [if_pos e] at b ⊢; exact c3 r i x b
    · rw [if_neg e] at b ⊢; exact c3 c i x b
  · dsimp only at a b ⊢
    rw [e11, e12]
    rcases key c i a b with ⟨e, x, y⟩ | ⟨e, e6, x, y⟩
    · rw [if_pos e, if_pos e]; exact c4 r i s x y hs
    · rw [if_neg e, if_neg e]; exact c4 c i s x y hs
  · rcases c5 q hq with x | ⟨c, i, a, b, d⟩
    · exact Or.inl ((hm q hq).mpr x)
    · refine Or.inr ?_
      by_cases e6 : 6 ≤ c
      · have hcr : c = r := by
          rcases Nat.decEq c r with z | z
          · have := hdead c (Or.inl ⟨e6, z⟩); omega
          · exact z
        subst hcr
        refine ⟨f, i, ?_, ?_, ?_⟩
        · dsimp only; rw [if_pos rfl]; exact a
        · dsimp only; rw [if_pos rfl]; exact b
        · dsimp only; rw [if_pos rfl]; exact d
      · have hcf : c ≠ f := fun z => by have := hdead c (Or.inr z); omega
        refine ⟨c, i, ?_, ?_, ?_⟩
        · dsimp only; rw [if_neg hcf, if_neg e6]; exact a
        · dsimp only; rw [if_neg hcf]; exact b
        · dsimp only; rw [if_neg hcf]; exact d
/-- a record is put into a page of chain c -/
theorem z_DI_put {P R : Nat} {S S' : es_St} {pg : Nat → Nat → Nat} {rc : Nat → Nat → z_Rec} {lo hi : Nat → Nat} {fc : Nat} (c i s : Nat) (x : z_Rec) (h : z_DI P R S pg rc lo hi fc) (hi1 : lo c ≤ i) (hi2 : i < hi c) (hs : s < R)
    (e0 : S'.1 0 = S.1 0) (e1 : S'.1 1 = S.1 1) (e2 : S'.1 2 = S.1 2) (e11 : ∀ q, S'.2 11 q = if q = pg c i * R + s then x.1 else S.2 11 q) (e12 : ∀ q, S'.2 12 q = if q = pg c i * R + s then x.2 else S.2 12 q) (e13 : S'.2 13 = S.2 13) (e14 : S'.2 14 = S.2 14) (e15 : S'.2 15 = S.2 15) :
    z_DI P R S' pg (z_set2 rc c (i * R + s) x) lo hi fc := by
  obtain ⟨h0, h1, hf, c1, c2, c3, c4, c5⟩ := h
  refine ⟨e0.trans h0, e1.trans h1, ?_, ?_, c2, ?_, ?_, ?_⟩
  · unfold z_FR at *; rw [e2, e13, e15]; exact hf
  · rw [e13]; exact c1
  · rw [e14]; exact c3
  · intro c' i' s' a b hs'
    rw [e11, e12]
    unfold z_set2
    by_cases e : pg c' i' * R + s' = pg c i * R + s
    · obtain ⟨q1, q2⟩ := z_cell_inj hs' hs e
      obtain ⟨q3, q4⟩ := c2 c' i' c i a b hi1 hi2 q1
      rw [if_pos e, if_pos e, if_pos ⟨q3, by rw [q4, q2]⟩]
      exact ⟨rfl, rfl⟩
    · rw [if_neg e, if_neg e, if_neg (fun q => e ?_)]
      · exact c4 c' i' s' a b hs'
      · obtain ⟨q1, q2⟩ := q
        obtain ⟨q3, q4⟩ := z_cell_inj hs' hs q2
        rw [q1, q3, q4]
  · rw [e13]; exact c5

/-- the same live pages, other names -/
theorem z_DI_re {P R : Nat} {S : es_St} {pg pg' : Nat → Nat → Nat} {rc rc' : Nat → Nat → z_Rec} {lo hi lo' hi' : Nat → Nat} {fc : Nat} (h : z_DI P R S pg rc lo hi fc) (hL : ∀ c i, (lo' c ≤ i ∧ i < hi' c) ↔ (lo c ≤ i ∧ i < hi c)) (hp : ∀ c i, lo c ≤ i → i < hi c → pg' c i = pg c i) (hr : ∀ c i s, lo c ≤ i → i < hi c → s < R → rc' c (i * R + s) = rc c (i * R + s)) : z_DI P R S pg' rc' lo' hi' fc := by
  obtain ⟨h0, h1, hf, c1, c2, c3, c4, c5⟩ := h
  refine ⟨h0, h1, hf, fun c i a b => ?_, fun c i c' i' a b a' b' e => ?_, fun c i a b => ?_, fun c i s a b hs => ?_, fun q hq => ?_⟩
  · obtain ⟨x, y⟩ := (hL c i).mp ⟨a, b⟩
    rw [hp c i x y]; exact c1 c i x y
  · obtain ⟨x, y⟩ := (hL c i).mp ⟨a, b⟩
    obtain ⟨x', y'⟩ := (hL c' i').mp ⟨a', b'⟩
    rw [hp c i x y, hp c' i' x' y'] at e
    exact c2 c i c' i' x y x' y' e
  · obtain ⟨x, y⟩ := (hL c i).mp ⟨a, by omega⟩
    obtain ⟨x', y'⟩ := (hL c (i + 1)).mp ⟨by omega, b⟩
    rw [hp c i x y, hp c (i + 1) x' y']
    exact c3 c i x y'
  · obtain ⟨x, y⟩ := (hL c i).mp ⟨a, b⟩
    rw [hp c i x y, hr c i s x y hs]
    exact c4 c i s x y hs
  · rcases c5 q hq with x | ⟨c, i, a, b, d⟩
    · exact Or.inl x
    · obtain ⟨x, y⟩ := (hL c i).mpr ⟨a, b⟩
      exact Or.inr ⟨c, i, x, y, by rw [hp c i a b]; exact d⟩
