/-! ===== join: what pairs there are ===== -/
theorem z_cnt_pre {Q : Nat → Prop} [DecidablePred Q] : ∀ n, (∀ i j, i ≤ j → j < n → Q j → Q i) → ∀ j, j < n → (Q j ↔ j < z_cnt Q n)
  | 0, _, j, hj => absurd hj (by omega)
  | p + 1, h, j, hj => by
    have ih := z_cnt_pre p (fun i j h1 h2 => h i j h1 (by omega))
    rw [show z_cnt Q (p + 1) = z_cnt Q p + if Q p then 1 else 0 from rfl]
    have hle := z_cnt_le Q p
    by_cases hq : Q p
    · have hall : z_cnt Q p = p := by
        rcases Nat.eq_zero_or_pos p with z | z
        · omega
        · have := (ih (p - 1) (by omega)).mp (h (p - 1) p (by omega) (by omega) hq)
          omega
      rw [if_pos hq, hall]
      exact ⟨fun _ => by omega, fun _ => h j p (by omega) (by omega) hq⟩
    · rw [if_neg hq, Nat.add_zero]
      by_cases e : j = p
      · subst e
        exact ⟨fun y => absurd y hq, fun y => by omega⟩
      · exact ih j (by omega)
def z_mon (k : Nat → Int) (n : Nat) : Prop := ∀ i j, i ≤ j → j < n → k i ≤ k j
def z_low (kb : Nat → Int) (nb : Nat) (x : Int) : Nat := z_cnt (fun j => kb j < x) nb
def z_upp (kb : Nat → Int) (nb : Nat) (x : Int) : Nat := z_cnt (fun j => kb j ≤ x) nb
theorem z_low_iff {kb : Nat → Int} {nb : Nat} {x : Int} (h : z_mon kb nb) {j : Nat} (hj : j < nb) : kb j < x ↔ j < z_low kb nb x :=
  z_cnt_pre (Q := fun j => kb j < x) nb (fun i j h1 h2 h3 => Int.lt_of_le_of_lt (h i j h1 h2) h3) j hj
theorem z_upp_iff {kb : Nat → Int} {nb : Nat} {x : Int} (h : z_mon kb nb) {j : Nat} (hj : j < nb) : kb j ≤ x ↔ j < z_upp kb nb x :=
  z_cnt_pre (Q := fun j => kb j ≤ x) nb (fun i j h1 h2 h3 => Int.le_trans (h i j h1 h2) h3) j hj
theorem z_low_le (kb : Nat → Int) (nb : Nat) (x : Int) : z_low kb nb x ≤ nb := z_cnt_le _ _
theorem z_upp_le (kb : Nat → Int) (nb : Nat) (x : Int) : z_upp kb nb x ≤ nb := z_cnt_le _ _
theorem z_low_upp {kb : Nat → Int} {nb : Nat} {x : Int} (h : z_mon kb nb) : z_low kb nb x ≤ z_upp kb nb x := by
  rcases Nat.lt_or_ge (z_upp kb nb x) (z_low kb nb x) with z | z
  · have h1 := z_low_le kb nb x
    have h2 := (z_low_iff (x := x) h (show z_upp kb nb x < nb by omega)).mpr z
    have h3 := (z_upp_iff (x := x) h (show z_upp kb nb x < nb by omega)).mp (by omega)
    omega
  · exact z
/-- how many pairs the first i have -/
def z_B (ka kb : Nat → Int) (nb i : Nat) : Nat := z_sum (fun i => z_upp kb nb (ka i) - z_low kb nb (ka i)) i
theorem z_B_succ (ka kb : Nat → Int) (nb i : Nat) : z_B ka kb nb (i + 1) = z_B ka kb nb i + (z_upp kb nb (ka i) - z_low kb nb (ka i)) := rfl
theorem z_B_const {ka kb : Nat → Int} {nb a v : Nat} : ∀ d, (∀ i, a ≤ i → i < a + d → z_upp kb nb (ka i) - z_low kb nb (ka i) = v) → z_B ka kb nb (a + d) = z_B ka kb nb a + d * v
  | 0, _ => by rw [Nat.zero_mul]; rfl
  | d + 1, h => by
    rw [show a + (d + 1) = a + d + 1 by omega, z_B_succ, z_B_const d (fun i h1 h2 => h i h1 (by omega)), h (a + d) (by omega) (by omega), Nat.add_mul]
    omega
theorem z_B_mono {ka kb : Nat → Int} {nb i : Nat} : ∀ j, i ≤ j → z_B ka kb nb i ≤ z_B ka kb nb j := fun j h => by
  obtain ⟨d, rfl⟩ : ∃ d, j = i + d := ⟨j - i, by omega⟩
  clear h
  induction d with
  | zero => exact Nat.le_refl _
  | succ d ih => rw [show i + (d + 1) = i + d + 1 by omega, z_B_succ]; omega
theorem z_B_le (ka kb : Nat → Int) (nb : Nat) : ∀ i, z_B ka kb nb i ≤ i * nb
  | 0 => Nat.zero_le _
  | i + 1 => by
    have := z_B_le ka kb nb i
    have h2 := z_upp_le kb nb (ka i)
    rw [z_B_succ, Nat.add_mul]
    omega
/-- nothing of b before ib goes with a's from ia on -/
def z_II (ka kb : Nat → Int) (na nb ia ib : Nat) : Prop := ∀ i, ia ≤ i → i < na → ib ≤ z_low kb nb (ka i)
theorem z_II_a {ka kb : Nat → Int} {na nb ia ib : Nat} (hb : z_mon kb nb) (h : z_II ka kb na nb ia ib) (h1 : ia < na) (h2 : ib < nb) (hlt : ka ia < kb ib) : z_B ka kb nb (ia + 1) = z_B ka kb nb ia ∧ z_II ka kb na nb (ia + 1) ib := by
  refine ⟨?_, fun i a b => h i (by omega) b⟩
  have e1 := h ia (Nat.le_refl _) h1
  have e2 : ¬ ib < z_upp kb nb (ka ia) := fun y => by have := (z_upp_iff hb h2).mpr y; omega
  rw [z_B_succ]; omega
theorem z_II_b {ka kb : Nat → Int} {na nb ia ib : Nat} (ha : z_mon ka na) (hb : z_mon kb nb) (h2 : ib < nb) (hlt : kb ib < ka ia) : z_II ka kb na nb ia (ib + 1) := fun i a b => by
  have := ha ia i a b
  exact (z_low_iff hb h2).mp (by omega)
theorem z_II_eq {ka kb : Nat → Int} {na nb ia ib ea eb : Nat} (ha : z_mon ka na) (hb : z_mon kb nb) (h : z_II ka kb na nb ia ib) (h1 : ia < na) (h2 : ib < nb) (he : ka ia = kb ib) (a1 : ia < ea) (a2 : ea ≤ na) (a3 : ∀ i, ia ≤ i → i < ea → ka i = ka ia) (a4 : ea = na ∨ ka ea ≠ ka ia) (b1 : ib < eb) (b2 : eb ≤ nb) (b3 : ∀ j, ib ≤ j → j < eb → kb j = kb ib) (b4 : eb = nb ∨ kb eb ≠ kb ib) :
    (∀ i, ia ≤ i → i < ea → z_low kb nb (ka i) = ib ∧ z_upp kb nb (ka i) = eb) ∧ z_II ka kb na nb ea eb := by
  have l0 := h ia (Nat.le_refl _) h1
  have l1 : ¬ ib < z_low kb nb (ka ia) := fun y => by have := (z_low_iff hb h2).mpr y; omega
  have u1 : eb - 1 < z_upp kb nb (ka ia) := (z_upp_iff hb (show eb - 1 < nb by omega)).mp (by rw [b3 (eb - 1) (by omega) (by omega)]; omega)
  have u2 : z_upp kb nb (ka ia) ≤ eb := by
    rcases b4 with z | z
    · have := z_upp_le kb nb (ka ia); omega
    · rcases Nat.lt_or_ge eb (z_upp kb nb (ka ia)) with y | y
      · have hx := z_upp_le kb nb (ka ia)
        have h3 := (z_upp_iff hb (show eb < nb by omega)).mpr y
        have h4 := hb ib eb (by omega) (by omega)
        omega
      · exact y
  refine ⟨fun i c d => ?_, fun i c d => ?_⟩
  · rw [a3 i c d]; exact ⟨by omega, by omega⟩
  · have h5 : ka ia < ka i := by
      rcases a4 with z | z
      · omega
      · have h6 := ha ea i c d
        have h7 := ha ia ea (by omega) (by omega)
        omega
    have : eb - 1 < z_low kb nb (ka i) := (z_low_iff hb (show eb - 1 < nb by omega)).mp (by rw [b3 (eb - 1) (by omega) (by omega)]; omega)
    omega
theorem z_II_end {ka kb : Nat → Int} {na nb ia ib : Nat} (h : z_II ka kb na nb ia ib) (h1 : ia ≤ na) (he : na ≤ ia ∨ nb ≤ ib) : z_B ka kb nb na = z_B ka kb nb ia := by
  rcases he with z | z
  · rw [show na = ia by omega]
  · have := z_B_const (ka := ka) (kb := kb) (nb := nb) (a := ia) (v := 0) (na - ia) (fun i c d => by
      have e1 := h i c (by omega)
      have e2 := z_low_le kb nb (ka i)
      have e3 := z_upp_le kb nb (ka i)
      omega)
    rw [show ia + (na - ia) = na by omega] at this
    omega
theorem z_key_eq {a b : Int32} : a = b ↔ a.toInt = b.toInt := ⟨fun h => by rw [h], fun h => Int32.toInt_inj.mp h⟩
/-- the class's groups -/
theorem zx_groupEnd_loop {P R p L : Nat} {S : es_St} (hok : z_ok P R) (hL : L ≤ P * R) (hp : p < L) : ∀ (fu e : Nat), p < e → e ≤ L → L - e < fu → (∀ q, p ≤ q → q < e → S.2 20 q = S.2 20 p) →
    ∃ e', f_X2_groupEnd_4 (es_NX P R) z_fu fu (nI p) (nI L) (nI e) S = some (nI e', S) ∧ p < e' ∧ e' ≤ L ∧ (∀ q, p ≤ q → q < e' → S.2 20 q = S.2 20 p) ∧ (e' = L ∨ S.2 20 e' ≠ S.2 20 p) := by
  have hPR := z_PR hok
  intro fu
  induction fu with
  | zero => intro e _ _ h; exact absurd h (by omega)
  | succ fu ih =>
    intro e h1 h2 hf hq
    rw [f_X2_groupEnd_4]
    by_cases c : e = L
    · subst c
      rw [if_pos (nI_le (Nat.le_refl _) (by omega))]
      exact ⟨e, rfl, h1, h2, hq, Or.inl rfl⟩
    · rw [if_neg (nI_ge (show e < L by omega) (by omega)), zN20, z_ck (show e < P * R by omega) (by omega), z_rd S 20 e (by omega), z_lt, z_ck (show p < P * R by omega) (by omega), z_rd S 20 p (by omega), z_lt]
      by_cases c2 : S.2 20 e = S.2 20 p
      · rw [if_pos c2, nI_1, z_lt]
        exact ih (e + 1) (by omega) (by omega) (by omega) (fun q a b => by
          by_cases eq : q = e
          · rw [eq]; exact c2
          · exact hq q a (by omega))
      · rw [if_neg c2]
        exact ⟨e, rfl, h1, h2, hq, Or.inr c2⟩
theorem zx_groupEnd {P R p L : Nat} {S : es_St} (hok : z_ok P R) (hL : L ≤ P * R) (hp : p < L) :
    ∃ e', f_X2_groupEnd (es_NX P R) z_fu S (nI p) (nI L) = some (nI e', S) ∧ p < e' ∧ e' ≤ L ∧ (∀ q, p ≤ q → q < e' → S.2 20 q = S.2 20 p) ∧ (e' = L ∨ S.2 20 e' ≠ S.2 20 p) := by
  have hPR := z_PR hok
  obtain ⟨e', g1, g2⟩ := zx_groupEnd_loop (S := S) hok hL hp z_fu (p + 1) (by omega) (by omega) (by have := z_fu_ge; omega) (fun q a b => by rw [show q = p by omega])
  refine ⟨e', ?_, g2⟩
  unfold f_X2_groupEnd
  rw [nI_1, z_lt]; exact g1
/-- what the joiner holds -/
def z_JX (na nb : Nat) (ra rb : Nat → z_Rec) (S : es_St) : Prop := S.1 16 = nI na ∧ S.1 17 = nI (na + nb) ∧ (∀ i, i < na → S.2 20 i = (ra i).1 ∧ S.2 21 i = (ra i).2) ∧ ∀ j, j < nb → S.2 20 (na + j) = (rb j).1 ∧ S.2 21 (na + j) = (rb j).2
def z_ki (r : Nat → z_Rec) (i : Nat) : Int := (r i).1.toInt
/-- a group: a's ga .. ea and b's gb .. eb -/
def z_gr (ka kb : Nat → Int) (na nb ga ea gb eb : Nat) : Prop := ga < ea ∧ ea ≤ na ∧ gb < eb ∧ eb ≤ nb ∧ (∀ i, ga ≤ i → i < ea → z_low kb nb (ka i) = gb ∧ z_upp kb nb (ka i) = eb) ∧ z_II ka kb na nb ea eb
theorem zx_find_loop {P R na nb : Nat} {ra rb : Nat → z_Rec} (hok : z_ok P R) (hn : na + nb ≤ P * R) (ha : z_mon (z_ki ra) na) (hb : z_mon (z_ki rb) nb) : ∀ (gap fu ia ib s : Nat) (S : es_St), (na - ia) + (nb - ib) ≤ gap → gap < fu → ia ≤ na → ib ≤ nb → s ≤ ia + ib → z_JX na nb ra rb S → S.1 18 = nI ia → S.1 20 = nI (na + ib) → z_II (z_ki ra) (z_ki rb) na nb ia ib →
    ∃ (r : Int32) (S' : es_St), f_X2_findGroup_18 (es_NX P R) z_fu fu (nI s) S = some (r, S') ∧ z_keep [18, 19, 20, 21] [] S S' ∧ ((r = 0 ∧ z_B (z_ki ra) (z_ki rb) nb na = z_B (z_ki ra) (z_ki rb) nb ia) ∨ (r = 1 ∧ ∃ ga ea gb eb, ia ≤ ga ∧ z_gr (z_ki ra) (z_ki rb) na nb ga ea gb eb ∧ z_B (z_ki ra) (z_ki rb) nb ga = z_B (z_ki ra) (z_ki rb) nb ia ∧ S'.1 18 = nI ga ∧ S'.1 19 = nI ea ∧ S'.1 20 = nI (na + gb) ∧ S'.1 21 = nI (na + eb))) := by
  have hPR := z_PR hok
  intro gap
  induction gap with
  | zero =>
    intro fu ia ib s S hgap hf h1 h2 hs hJ h18 h20 hI
    obtain ⟨fu, rfl⟩ : ∃ q, fu = q + 1 := ⟨fu - 1, by omega⟩
    obtain ⟨j16, j17, -, -⟩ := hJ
    refine ⟨0, S, ?_, z_keep_rfl, Or.inl ⟨rfl, z_II_end hI h1 (Or.inl (by omega))⟩⟩
    rw [f_X2_findGroup_18, j16, j17, h18, h20]
    by_cases c : na + nb ≤ s
    · rw [if_pos (nI_le c (by omega))]
    · rw [if_neg (nI_ge (by omega) (by omega)), if_pos (nI_le (by omega) (by omega))]
  | succ gap ih =>
    intro fu ia ib s S hgap hf h1 h2 hs hJ h18 h20 hI
    obtain ⟨fu, rfl⟩ : ∃ q, fu = q + 1 := ⟨fu - 1, by omega⟩
    obtain ⟨j16, j17, jA, jB⟩ := id hJ
    rw [f_X2_findGroup_18, j16, j17, h18, h20]
    by_cases c : na + nb ≤ s
    · rw [if_pos (nI_le c (by omega))]
      exact ⟨0, S, rfl, z_keep_rfl, Or.inl ⟨rfl, z_II_end hI h1 (Or.inl (by omega))⟩⟩
    · rw [if_neg (nI_ge (by omega) (by omega))]
      by_cases c1 : na ≤ ia
      · rw [if_pos (nI_le c1 (by omega))]
        exact ⟨0, S, rfl, z_keep_rfl, Or.inl ⟨rfl, z_II_end hI h1 (Or.inl c1)⟩⟩
      · rw [if_neg (nI_ge (by omega) (by omega))]
        by_cases c2 : nb ≤ ib
        · rw [if_pos (nI_le (by omega) (by omega))]
          exact ⟨0, S, rfl, z_keep_rfl, Or.inl ⟨rfl, z_II_end hI h1 (Or.inr c2)⟩⟩
        · have hia : ia < na := by omega
          have hib : ib < nb := by omega
          have ra1 : es_rd S 20 (nI ia) = (ra ia).1 := by rw [z_rd _ _ _ (by omega), (jA ia hia).1]
          have rb1 : es_rd S 20 (nI (na + ib)) = (rb ib).1 := by rw [z_rd _ _ _ (by omega), (jB ib hib).1]
          rw [if_neg (nI_ge (show na + ib < na + nb by omega) (by omega)), zN20, z_ck (show ia < P * R by omega) (by omega), ra1, z_lt, z_ck (show na + ib < P * R by omega) (by omega), rb1, z_lt]
          by_cases c3 : (ra ia).1 = (rb ib).1
          · -- a group
            rw [if_neg (by simpa using c3)]
            obtain ⟨ea, g1, g2, g3, g4, g5⟩ := zx_groupEnd (S := S) (p := ia) (L := na) hok (by omega) hia
            obtain ⟨S1, hS1⟩ : ∃ S1 : es_St, S1 = es_F S 19 (nI ea) := ⟨_, rfl⟩
            have k1 : z_keep [19] [] S S1 := by rw [hS1]; exact z_keep_F _ 19 _ (by simp)
            obtain ⟨eb', q1, q2, q3, q4, q5⟩ := zx_groupEnd (S := S1) (p := na + ib) (L := na + nb) hok hn (by omega)
            obtain ⟨eb, rfl⟩ : ∃ eb, eb' = na + eb := ⟨eb' - na, by omega⟩
            rw [k1.2 20 (by decide)] at q4 q5
            have e18 : S1.1 18 = nI ia := (k1.1 18 (by decide)).trans h18
            have a4 : ea = na ∨ z_ki ra ea ≠ z_ki ra ia := by
              rcases Nat.lt_or_ge ea na with w | w
              · right
                intro z
                rcases g5 with y | y
                · omega
                · apply y
                  rw [(jA ea w).1, (jA ia hia).1]
                  exact Int32.toInt_inj.mp z
              · left; omega
            have b4 : eb = nb ∨ z_ki rb eb ≠ z_ki rb ib := by
              rcases Nat.lt_or_ge eb nb with w | w
              · right
                intro z
                rcases q5 with y | y
                · omega
                · apply y
                  rw [(jB eb w).1, (jB ib hib).1]
                  exact Int32.toInt_inj.mp z
              · left; omega
            obtain ⟨hz1, hz2⟩ := z_II_eq (ea := ea) (eb := eb) ha hb hI hia hib (by unfold z_ki; rw [c3]) g2 g3 (fun i a b => by
              have := g4 i a b
              rw [(jA i (by omega)).1, (jA ia hia).1] at this
              unfold z_ki; rw [this]) a4 (by omega) (by omega) (fun j a b => by
              have := q4 (na + j) (by omega) (by omega)
              rw [(jB j (by omega)).1, (jB ib hib).1] at this
              unfold z_ki; rw [this]) b4
            refine ⟨1, es_F S1 21 (nI (na + eb)), ?_, z_keep_trans (z_keep_mono k1 (by decide) (by decide)) (z_keep_F _ 21 _ (by simp)), Or.inr ⟨rfl, ia, ea, ib, eb, Nat.le_refl _, ⟨g2, g3, by omega, by omega, hz1, hz2⟩, rfl, ?_, ?_, ?_, ?_⟩⟩
            · rw [g1, es_bd_s, z_lt, ← hS1, k1.1 20 (by decide), h20, k1.1 17 (by decide), j17, q1, es_bd_s, z_lt]
            · rw [z_F1, if_neg (by decide)]; exact e18
            · rw [z_F1, if_neg (by decide), hS1, z_F1, if_pos rfl]
            · rw [z_F1, if_neg (by decide), k1.1 20 (by decide)]; exact h20
            · rw [z_F1, if_pos rfl]
          · rw [if_pos c3, z_ck (show ia < P * R by omega) (by omega), z_lt, z_ck (show na + ib < P * R by omega) (by omega), z_lt]
            have hne : (ra ia).1.toInt ≠ (rb ib).1.toInt := fun y => c3 (Int32.toInt_inj.mp y)
            by_cases c4 : (rb ib).1 ≤ (ra ia).1
            · have h4 := Int32.le_iff_toInt_le.mp c4
              rw [if_pos c4, nI_1, z_lt, z_lt, nI_1, z_lt]
              have k1 : z_keep [18, 19, 20, 21] [] S (es_F S 20 (nI (na + ib + 1))) := z_keep_F _ 20 _ (by simp)
              obtain ⟨r, S', g1, g2, g3⟩ := ih fu ia (ib + 1) (s + 1) (es_F S 20 (nI (na + ib + 1))) (by omega) (by omega) h1 (by omega) (by omega) ⟨(k1.1 16 (by decide)).trans j16, (k1.1 17 (by decide)).trans j17, jA, jB⟩ (by rw [z_F1, if_neg (by decide)]; exact h18) (by rw [z_F1, if_pos rfl]; rfl) (z_II_b ha hb hib (by unfold z_ki; omega))
              exact ⟨r, S', g1, z_keep_trans k1 g2, g3⟩
            · have h4 : ¬ (rb ib).1.toInt ≤ (ra ia).1.toInt := fun y => c4 (Int32.le_iff_toInt_le.mpr y)
              rw [if_neg c4, nI_1, z_lt, z_lt, nI_1, z_lt]
              have k1 : z_keep [18, 19, 20, 21] [] S (es_F S 18 (nI (ia + 1))) := z_keep_F _ 18 _ (by simp)
              obtain ⟨hB, hI'⟩ := z_II_a hb hI hia hib (by unfold z_ki; omega)
              obtain ⟨r, S', g1, g2, g3⟩ := ih fu (ia + 1) ib (s + 1) (es_F S 18 (nI (ia + 1))) (by omega) (by omega) (by omega) h2 (by omega) ⟨(k1.1 16 (by decide)).trans j16, (k1.1 17 (by decide)).trans j17, jA, jB⟩ (by rw [z_F1, if_pos rfl]) (by rw [z_F1, if_neg (by decide)]; exact h20) hI'
              refine ⟨r, S', g1, z_keep_trans k1 g2, ?_⟩
              rw [hB] at g3
              rcases g3 with y | ⟨y, ga, ea, gb, eb, y1, y2⟩
              · exact Or.inl y
              · exact Or.inr ⟨y, ga, ea, gb, eb, by omega, y2⟩
theorem zx_findGroup {P R na nb ia ib : Nat} {ra rb : Nat → z_Rec} {S : es_St} (hok : z_ok P R) (hn : na + nb ≤ P * R) (ha : z_mon (z_ki ra) na) (hb : z_mon (z_ki rb) nb) (h1 : ia ≤ na) (h2 : ib ≤ nb) (hJ : z_JX na nb ra rb S) (h19 : S.1 19 = nI ia) (h21 : S.1 21 = nI (na + ib)) (hI : z_II (z_ki ra) (z_ki rb) na nb ia ib) :
    ∃ (r : Int32) (S' : es_St), f_X2_findGroup (es_NX P R) z_fu S = some (r, S') ∧ z_keep [18, 19, 20, 21] [] S S' ∧ ((r = 0 ∧ z_B (z_ki ra) (z_ki rb) nb na = z_B (z_ki ra) (z_ki rb) nb ia) ∨ (r = 1 ∧ ∃ ga ea gb eb, ia ≤ ga ∧ z_gr (z_ki ra) (z_ki rb) na nb ga ea gb eb ∧ z_B (z_ki ra) (z_ki rb) nb ga = z_B (z_ki ra) (z_ki rb) nb ia ∧ S'.1 18 = nI ga ∧ S'.1 19 = nI ea ∧ S'.1 20 = nI (na + gb) ∧ S'.1 21 = nI (na + eb))) := by
  have hPR := z_PR hok
  obtain ⟨S1, hS1⟩ : ∃ S1 : es_St, S1 = es_F (es_F S 18 (nI ia)) 20 (nI (na + ib)) := ⟨_, rfl⟩
  have k1 : z_keep [18, 19, 20, 21] [] S S1 := by rw [hS1]; exact z_keep_trans (z_keep_F _ 18 _ (by simp)) (z_keep_F _ 20 _ (by simp))
  obtain ⟨j16, j17, jA, jB⟩ := hJ
  obtain ⟨r, S', g1, g2, g3⟩ := zx_find_loop hok hn ha hb ((na - ia) + (nb - ib)) z_fu ia ib 0 S1 (Nat.le_refl _) (by have := z_fu_ge; omega) h1 h2 (by omega) ⟨(k1.1 16 (by decide)).trans j16, (k1.1 17 (by decide)).trans j17, by rw [k1.2 20 (by decide), k1.2 21 (by decide)]; exact jA, by rw [k1.2 20 (by decide), k1.2 21 (by decide)]; exact jB⟩ (by rw [hS1, z_F1, if_neg (by decide), z_F1, if_pos rfl]) (by rw [hS1, z_F1, if_pos rfl]) hI
  refine ⟨r, S', ?_, z_keep_trans k1 g2, g3⟩
  unfold f_X2_findGroup
  rw [h19, z_lt, z_F1, if_neg (by decide), h21, z_lt, ← hS1]
  exact g1
theorem z_gr_B {ka kb : Nat → Int} {na nb ga ea gb eb : Nat} (h : z_gr ka kb na nb ga ea gb eb) : z_B ka kb nb ea = z_B ka kb nb ga + (ea - ga) * (eb - gb) := by
  obtain ⟨g1, g2, g3, g4, g5, -⟩ := h
  have := z_B_const (ka := ka) (kb := kb) (nb := nb) (a := ga) (v := eb - gb) (ea - ga) (fun i a b => by
    obtain ⟨y1, y2⟩ := g5 i a (by omega)
    rw [y1, y2])
  rw [show ga + (ea - ga) = ea by omega] at this
  exact this
theorem zx_count_loop {P R na nb : Nat} {ra rb : Nat → z_Rec} (hok : z_ok P R) (hn : na + nb ≤ P * R) (ha : z_mon (z_ki ra) na) (hb : z_mon (z_ki rb) nb) : ∀ (gap fu ia ib s : Nat) (S : es_St), na - ia ≤ gap → gap < fu → ia ≤ na → ib ≤ nb → s ≤ ia → z_JX na nb ra rb S → S.1 19 = nI ia → S.1 21 = nI (na + ib) → z_II (z_ki ra) (z_ki rb) na nb ia ib →
    ∃ S', f_X2_countPairs_8 (es_NX P R) z_fu fu (nI (z_B (z_ki ra) (z_ki rb) nb ia)) (nI s) S = some (nI (z_B (z_ki ra) (z_ki rb) nb na), S') ∧ z_keep [18, 19, 20, 21] [] S S' := by
  have hPR := z_PR hok
  intro gap
  induction gap with
  | zero =>
    intro fu ia ib s S hgap hf h1 h2 hs hJ h19 h21 hI
    obtain ⟨fu, rfl⟩ : ∃ q, fu = q + 1 := ⟨fu - 1, by omega⟩
    have e : ia = na := by omega
    subst e
    rw [f_X2_countPairs_8, zN20]
    by_cases c : P * R ≤ s
    · rw [if_pos (nI_le c (by omega))]; exact ⟨S, rfl, z_keep_rfl⟩
    · rw [if_neg (nI_ge (by omega) (by omega))]
      obtain ⟨r, S', g1, g2, g3⟩ := zx_findGroup hok hn ha hb h1 h2 hJ h19 h21 hI
      rcases g3 with ⟨rfl, -⟩ | ⟨-, ga, ea, gb, eb, q1, ⟨q2, q3, -⟩, -⟩
      · rw [g1, es_bd_s, if_pos rfl]; exact ⟨S', rfl, g2⟩
      · omega
  | succ gap ih =>
    intro fu ia ib s S hgap hf h1 h2 hs hJ h19 h21 hI
    obtain ⟨fu, rfl⟩ : ∃ q, fu = q + 1 := ⟨fu - 1, by omega⟩
    rw [f_X2_countPairs_8, zN20]
    by_cases c : P * R ≤ s
    · have e : ia = na := by omega
      subst e
      rw [if_pos (nI_le c (by omega))]; exact ⟨S, rfl, z_keep_rfl⟩
    · rw [if_neg (nI_ge (by omega) (by omega))]
      obtain ⟨r, S', g1, g2, g3⟩ := zx_findGroup hok hn ha hb h1 h2 hJ h19 h21 hI
      rw [g1, es_bd_s]
      rcases g3 with ⟨rfl, hB⟩ | ⟨rfl, ga, ea, gb, eb, q1, hg, q3, e18, e19, e20, e21⟩
      · rw [if_pos rfl, hB]; exact ⟨S', rfl, g2⟩
      · have hgB := z_gr_B hg
        obtain ⟨y1, y2, y3, y4, y5, y6⟩ := hg
        obtain ⟨j16, j17, jA, jB⟩ := hJ
        rw [if_neg (by decide), e18, e19, e20, e21, pk_sub (by omega), pk_sub (by omega), pk_mul, nI_add, z_lt, nI_1, z_lt, show na + eb - (na + gb) = eb - gb by omega, ← q3, ← hgB]
        obtain ⟨S2, k1, k2⟩ := ih fu ea eb (s + 1) S' (by omega) (by omega) y2 y4 (by omega) ⟨(g2.1 16 (by decide)).trans j16, (g2.1 17 (by decide)).trans j17, by rw [g2.2 20 (by decide), g2.2 21 (by decide)]; exact jA, by rw [g2.2 20 (by decide), g2.2 21 (by decide)]; exact jB⟩ e19 e21 y6
        exact ⟨S2, k1, z_keep_trans g2 k2⟩
theorem zx_rewind {P R na nb : Nat} {ra rb : Nat → z_Rec} {S : es_St} (hJ : z_JX na nb ra rb S) : ∃ S', f_X2_rewind (es_NX P R) z_fu S = some (0, S') ∧ z_keep [18, 19, 20, 21] [] S S' ∧ S'.1 19 = nI 0 ∧ S'.1 21 = nI (na + 0) ∧ z_JX na nb ra rb S' := by
  obtain ⟨j16, j17, jA, jB⟩ := hJ
  have k1 : z_keep [18, 19, 20, 21] [] S (es_F (es_F S 19 0) 21 (nI na)) := z_keep_trans (z_keep_F _ 19 _ (by simp)) (z_keep_F _ 21 _ (by simp))
  refine ⟨es_F (es_F S 19 0) 21 (nI na), ?_, k1, by rw [z_F1, if_neg (by decide), z_F1, if_pos rfl]; rfl, by rw [z_F1, if_pos rfl]; rfl, (k1.1 16 (by decide)).trans j16, (k1.1 17 (by decide)).trans j17, by rw [k1.2 20 (by decide), k1.2 21 (by decide)]; exact jA, by rw [k1.2 20 (by decide), k1.2 21 (by decide)]; exact jB⟩
  unfold f_X2_rewind
  rw [z_lt, z_F1, if_neg (by decide), j16, z_lt]
theorem zx_countPairs {P R na nb : Nat} {ra rb : Nat → z_Rec} {S : es_St} (hok : z_ok P R) (hn : na + nb ≤ P * R) (ha : z_mon (z_ki ra) na) (hb : z_mon (z_ki rb) nb) (hJ : z_JX na nb ra rb S) :
    ∃ S', f_X2_countPairs (es_NX P R) z_fu S = some (nI (z_B (z_ki ra) (z_ki rb) nb na), S') ∧ z_keep [18, 19, 20, 21] [] S S' := by
  have hPR := z_PR hok
  obtain ⟨S1, g1, g2, g3, g4, g5⟩ := zx_rewind (P := P) (R := R) hJ
  obtain ⟨S2, k1, k2⟩ := zx_count_loop hok hn ha hb na z_fu 0 0 0 S1 (by omega) (by have := z_fu_ge; omega) (by omega) (by omega) (by omega) g5 g3 g4 (fun i _ _ => Nat.zero_le _)
  refine ⟨S2, ?_, z_keep_trans g2 k2⟩
  unfold f_X2_countPairs
  rw [g1, es_bd_s]; exact k1
