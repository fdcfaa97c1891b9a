/-! ===== join: the pairs, in their order ===== -/
def z_pr (ra rb : Nat → z_Rec) (na nb p : Nat) : z_Rec :=
  ((ra (z_cnt (fun i => z_B (z_ki ra) (z_ki rb) nb (i + 1) ≤ p) na)).2, (rb (z_low (z_ki rb) nb (z_ki ra (z_cnt (fun i => z_B (z_ki ra) (z_ki rb) nb (i + 1) ≤ p) na)) + (p - z_B (z_ki ra) (z_ki rb) nb (z_cnt (fun i => z_B (z_ki ra) (z_ki rb) nb (i + 1) ≤ p) na)))).2)
theorem z_pr_at {ra rb : Nat → z_Rec} {na nb i j l u : Nat} (hi : i < na) (hl : z_low (z_ki rb) nb (z_ki ra i) = l) (hu : z_upp (z_ki rb) nb (z_ki ra i) = u) (h1 : l ≤ j) (h2 : j < u) : z_pr ra rb na nb (z_B (z_ki ra) (z_ki rb) nb i + (j - l)) = ((ra i).2, (rb j).2) := by
  have hB := z_B_succ (z_ki ra) (z_ki rb) nb i
  rw [hl, hu] at hB
  have hq : z_cnt (fun i' => z_B (z_ki ra) (z_ki rb) nb (i' + 1) ≤ z_B (z_ki ra) (z_ki rb) nb i + (j - l)) na = i := by
    have pre := z_cnt_pre (Q := fun i' => z_B (z_ki ra) (z_ki rb) nb (i' + 1) ≤ z_B (z_ki ra) (z_ki rb) nb i + (j - l)) na (fun a b h1 _ h3 => Nat.le_trans (z_B_mono (b + 1) (by omega)) h3)
    have n1 : ¬ i < z_cnt (fun i' => z_B (z_ki ra) (z_ki rb) nb (i' + 1) ≤ z_B (z_ki ra) (z_ki rb) nb i + (j - l)) na := fun y => by
      have := (pre i hi).mpr y
      omega
    rcases Nat.eq_zero_or_pos i with z | z
    · omega
    · have := (pre (i - 1) (by omega)).mp (by rw [show i - 1 + 1 = i by omega]; omega)
      omega
  unfold z_pr
  rw [hq, hl, show l + (z_B (z_ki ra) (z_ki rb) nb i + (j - l) - z_B (z_ki ra) (z_ki rb) nb i) = j by omega]
theorem z_pk_pk {a b : Nat} {x : Int32} (h : a ≤ b) (hb : b < 2 ^ 31) : z_pk b (z_pk a x) = z_pk b x := by
  unfold z_pk
  by_cases c : nI a ≤ x
  · rw [if_pos c]
  · rw [if_neg c]
    have c2 : ¬ nI b ≤ x := fun y => c (Int32.le_trans (nI_le h hb) y)
    rw [if_neg c2]
    by_cases e : nI b ≤ nI a
    · rw [if_pos e]
      have : ¬ a < b := fun y => nI_ge y hb e
      rw [show a = b by omega]
    · rw [if_neg e]
/-- cn pairs are put out -/
def z_WS (P R oc fs : Nat) (w0 pk0 : Int32) (pgf : Nat → Nat → Nat) (rcf : Nat → Nat → z_Rec) (lo hif : Nat → Nat) (na nb : Nat) (ra rb : Nat → z_Rec) (S0 S : es_St) (cn : Nat) : Prop :=
  ∃ (pg : Nat → Nat → Nat) (rc : Nat → Nat → z_Rec) (hi : Nat → Nat) (fc : Nat) (oo : Nat → z_Rec), z_DI P R S pg rc lo hi fc ∧ z_OUT R S oc pg rc lo hi oo cn ∧ (∀ p, p < cn → oo p = z_pr ra rb na nb p) ∧ S.1 7 = 0 ∧ fc + cn / R = fs ∧ S.1 23 = w0 + nI (cn / R) ∧ S.1 26 = (if cn / R = 0 then pk0 else z_pk (P - fs + cn / R) pk0) ∧ z_oth oc pgf pg rcf rc hif hi ∧ z_keep [2, 3, 4, 5, 6, 8, 9, 18, 19, 20, 21, 23, 26] [11, 12, 13, 14, 16, 17] S0 S ∧ z_JX na nb ra rb S
theorem zx_wput {P R oc fs T : Nat} {w0 pk0 : Int32} {pgf : Nat → Nat → Nat} {rcf : Nat → Nat → z_Rec} {lo hif : Nat → Nat} {na nb : Nat} {ra rb : Nat → z_Rec} {S0 S : es_St} {cn : Nat} {k t : Int32} (hok : z_ok P R) (hoc : 6 ≤ oc) (hfs : fs ≤ P) (hT : z_pgs R T ≤ fs) (hcn : cn < T) (hkt : z_pr ra rb na nb cn = (k, t)) (H : z_WS P R oc fs w0 pk0 pgf rcf lo hif na nb ra rb S0 S cn) :
    ∃ S', f_X4_put (es_NX P R) z_fu S k t = some (1, S') ∧ z_keep [2, 3, 4, 5, 6, 8, 9, 23, 26] [11, 12, 13, 14, 16, 17] S S' ∧ z_WS P R oc fs w0 pk0 pgf rcf lo hif na nb ra rb S0 S' (cn + 1) := by
  obtain ⟨pg, rc, hi, fc, oo, hD, hO, hoo, h7, hfc, h23, h26, hoth, hk, j16, j17, jA, jB⟩ := H
  obtain ⟨a1, a2, a3, a4⟩ := id hok
  obtain ⟨m, hm⟩ : ∃ m, m = cn / R := ⟨_, rfl⟩
  rw [← hm] at hfc h23 h26
  have hPR := z_PR hok
  have hTP : T ≤ 8192 := by
    have := (z_pgs_fit (show 0 < R by omega)).mp hT
    have h2 : fs * R ≤ P * R := Nat.mul_le_mul_right R hfs
    omega
  obtain ⟨b, S', pg', rc', hi', fc', g1, g2, g3, g4, g5⟩ := zx_put_32 (k := k) (t := t) hok hD hoc hO (by omega)
  have hk' : z_keep [2, 3, 4, 5, 6, 8, 9, 18, 19, 20, 21, 23, 26] [11, 12, 13, 14, 16, 17] S0 S' := z_keep_trans hk (z_keep_mono g2 (by decide) (by decide))
  have hJ' : z_JX na nb ra rb S' := ⟨(g2.1 16 (by decide)).trans j16, (g2.1 17 (by decide)).trans j17, by rw [g2.2 20 (by decide), g2.2 21 (by decide)]; exact jA, by rw [g2.2 20 (by decide), g2.2 21 (by decide)]; exact jB⟩
  have hoth' : z_oth oc pgf pg' rcf rc' hif hi' := fun c hc => by
    obtain ⟨y1, y2, y3⟩ := g4 c hc
    rw [y1, y2, y3]; exact hoth c hc
  have hoo' : ∀ p, p < cn + 1 → (fun j => if j = cn then (k, t) else oo j) p = z_pr ra rb na nb p := fun p hp => by
    dsimp only
    by_cases e : p = cn
    · rw [if_pos e, e, hkt]
    · rw [if_neg e]; exact hoo p (by omega)
  have hdiv1 : (cn + 1) % R = 0 → (cn + 1) / R = m + 1 ∧ m + 1 ≤ fs := fun h => by
    have c : cn % R + 1 = R := by
      rcases Nat.decEq (cn % R + 1) R with z | z
      · have := ((z_nexts (R := R) (j := cn) (by omega)).2 z).2; omega
      · exact z
    have e1 := ((z_nexts (R := R) (j := cn) (by omega)).1 c).1
    rw [← hm] at e1
    refine ⟨e1, ?_⟩
    have e2 : z_pgs R (cn + 1) ≤ z_pgs R T := by unfold z_pgs; exact Nat.div_le_div_right (by omega)
    rw [z_pgs_div0 (by omega) h] at e2
    omega
  have hdiv0 : ¬ (cn + 1) % R = 0 → (cn + 1) / R = m := fun h => by
    have c : cn % R + 1 ≠ R := fun y => h ((z_nexts (R := R) (j := cn) (by omega)).1 y).2
    rw [hm]; exact ((z_nexts (R := R) (j := cn) (by omega)).2 c).1
  have hput : f_X4_put (es_NX P R) z_fu S k t = f_X4_put_32 (es_NX P R) z_fu k t S := zx_put_new (Or.inl h7)
  rcases g5 with ⟨rfl, e1, e2, -⟩ | ⟨rfl, hO', ⟨e1, e2, e3, e4, e5⟩ | ⟨e1, e2, e3, e4⟩⟩
  · have := hdiv1 e2
    omega
  · obtain ⟨d1, d2⟩ := hdiv1 e1
    refine ⟨S', hput.trans g1, g2, pg', rc', hi', fc', _, g3, hO', hoo', (g2.1 7 (by decide)).trans h7, by omega, ?_, ?_, hoth', hk', hJ'⟩
    · rw [e4, h23, d1, Int32.add_assoc]; congr 1; exact nI_add _ 1
    · rw [e5, h26, d1, if_neg (show ¬ m + 1 = 0 by omega), show P - fc + 1 = P - fs + (m + 1) by omega]
      by_cases c : m = 0
      · rw [if_pos c]
      · rw [if_neg c]; exact z_pk_pk (by omega) (by omega)
  · have d1 := hdiv0 e1
    exact ⟨S', hput.trans g1, g2, pg', rc', hi', fc', _, g3, hO', hoo', (g2.1 7 (by decide)).trans h7, by omega, by rw [e3, h23, d1], by rw [e4, h26, d1], hoth', hk', hJ'⟩
theorem zx_wrow {P R oc fs T : Nat} {w0 pk0 : Int32} {pgf : Nat → Nat → Nat} {rcf : Nat → Nat → z_Rec} {lo hif : Nat → Nat} {na nb : Nat} {ra rb : Nat → z_Rec} {S0 : es_St} {i gb eb : Nat} {k5 : Int32 → es_St → Option (Int32 × es_St)} (hok : z_ok P R) (hn : na + nb ≤ P * R) (hoc : 6 ≤ oc) (hfs : fs ≤ P) (hT : z_pgs R T ≤ fs) (hi : i < na) (hl : z_low (z_ki rb) nb (z_ki ra i) = gb) (hu : z_upp (z_ki rb) nb (z_ki ra i) = eb) (hBT : z_B (z_ki ra) (z_ki rb) nb i + (eb - gb) ≤ T) (heb : eb ≤ nb) :
    ∀ (fu j : Nat) (S : es_St), gb ≤ j → j ≤ eb → eb - j < fu → S.1 21 = nI (na + eb) → z_WS P R oc fs w0 pk0 pgf rcf lo hif na nb ra rb S0 S (z_B (z_ki ra) (z_ki rb) nb i + (j - gb)) →
    ∃ S', f_X2_writeGroup_18 (es_NX P R) z_fu k5 fu (nI i) (nI (na + j)) S = k5 (nI (i + 1)) S' ∧ z_keep [2, 3, 4, 5, 6, 8, 9, 23, 26] [11, 12, 13, 14, 16, 17] S S' ∧ z_WS P R oc fs w0 pk0 pgf rcf lo hif na nb ra rb S0 S' (z_B (z_ki ra) (z_ki rb) nb i + (eb - gb)) := by
  have hPR := z_PR hok
  intro fu
  induction fu with
  | zero => intro j S _ _ h; exact absurd h (by omega)
  | succ fu ih =>
    intro j S h1 h2 hf h21 H
    rw [f_X2_writeGroup_18, h21]
    by_cases c : j = eb
    · subst c
      rw [if_pos (nI_le (Nat.le_refl _) (by omega)), nI_1, z_lt]
      exact ⟨S, rfl, z_keep_rfl, H⟩
    · have hjA : S.2 21 i = (ra i).2 ∧ S.2 21 (na + j) = (rb j).2 := by
        obtain ⟨pg, rc, hi', fc, oo, -, -, -, -, -, -, -, -, -, -, -, jA, jB⟩ := H
        exact ⟨(jA i hi).2, (jB j (by omega)).2⟩
      rw [if_neg (nI_ge (show na + j < na + eb by omega) (by omega)), zN21, z_ck (show i < P * R by omega) (by omega), z_rd S 21 i (by omega), hjA.1, z_lt, z_ck (show na + j < P * R by omega) (by omega), z_rd S 21 (na + j) (by omega), hjA.2, z_lt]
      obtain ⟨S1, g1, g2, g3⟩ := zx_wput (k := (ra i).2) (t := (rb j).2) hok hoc hfs hT (by omega) (z_pr_at hi hl hu h1 (by omega)) H
      rw [g1, es_bd_s, if_pos (by decide), nI_1, z_lt]
      obtain ⟨S', k1, k2, k3⟩ := ih (j + 1) S1 (by omega) (by omega) (by omega) ((g2.1 21 (by decide)).trans h21) (by rw [show j + 1 - gb = j - gb + 1 by omega]; exact g3)
      exact ⟨S', k1, z_keep_trans g2 k2, k3⟩
theorem zx_wgroup {P R oc fs T : Nat} {w0 pk0 : Int32} {pgf : Nat → Nat → Nat} {rcf : Nat → Nat → z_Rec} {lo hif : Nat → Nat} {na nb : Nat} {ra rb : Nat → z_Rec} {S0 : es_St} {ga ea gb eb : Nat} (hok : z_ok P R) (hn : na + nb ≤ P * R) (hoc : 6 ≤ oc) (hfs : fs ≤ P) (hT : z_pgs R T ≤ fs) (hg : z_gr (z_ki ra) (z_ki rb) na nb ga ea gb eb) (hTe : T = z_B (z_ki ra) (z_ki rb) nb na) :
    ∀ (fu i : Nat) (S : es_St), ga ≤ i → i ≤ ea → ea - i < fu → S.1 19 = nI ea → S.1 20 = nI (na + gb) → S.1 21 = nI (na + eb) → z_WS P R oc fs w0 pk0 pgf rcf lo hif na nb ra rb S0 S (z_B (z_ki ra) (z_ki rb) nb i) →
    ∃ S', f_X2_writeGroup_5 (es_NX P R) z_fu fu (nI i) S = some (1, S') ∧ z_keep [2, 3, 4, 5, 6, 8, 9, 23, 26] [11, 12, 13, 14, 16, 17] S S' ∧ z_WS P R oc fs w0 pk0 pgf rcf lo hif na nb ra rb S0 S' (z_B (z_ki ra) (z_ki rb) nb ea) := by
  have hPR := z_PR hok
  obtain ⟨y1, y2, y3, y4, y5, y6⟩ := hg
  intro fu
  induction fu with
  | zero => intro i S _ _ h; exact absurd h (by omega)
  | succ fu ih =>
    intro i S h1 h2 hf h19 h20 h21 H
    rw [f_X2_writeGroup_5, h19]
    by_cases c : i = ea
    · subst c
      rw [if_pos (nI_le (Nat.le_refl _) (by omega))]
      exact ⟨S, rfl, z_keep_rfl, H⟩
    · obtain ⟨l1, u1⟩ := y5 i h1 (by omega)
      have hBs := z_B_succ (z_ki ra) (z_ki rb) nb i
      rw [l1, u1] at hBs
      have hBm := z_B_mono (ka := z_ki ra) (kb := z_ki rb) (nb := nb) (i := i + 1) na (by omega)
      rw [if_neg (nI_ge (show i < ea by omega) (by omega)), h20]
      obtain ⟨S1, g1, g2, g3⟩ := zx_wrow (k5 := fun x1 S => f_X2_writeGroup_5 (es_NX P R) z_fu fu x1 S) hok hn hoc hfs hT (show i < na by omega) l1 u1 (by omega) y4 z_fu gb S (Nat.le_refl _) (by omega) (by have := z_fu_ge; omega) h21 (by rw [Nat.sub_self]; exact H)
      rw [g1]
      obtain ⟨S', k1, k2, k3⟩ := ih (i + 1) S1 (by omega) (by omega) (by omega) ((g2.1 19 (by decide)).trans h19) ((g2.1 20 (by decide)).trans h20) ((g2.1 21 (by decide)).trans h21) (by rw [hBs]; exact g3)
      exact ⟨S', k1, z_keep_trans g2 k2, k3⟩
theorem z_WS_keep {P R oc fs : Nat} {w0 pk0 : Int32} {pgf : Nat → Nat → Nat} {rcf : Nat → Nat → z_Rec} {lo hif : Nat → Nat} {na nb : Nat} {ra rb : Nat → z_Rec} {S0 S S' : es_St} {cn : Nat} (H : z_WS P R oc fs w0 pk0 pgf rcf lo hif na nb ra rb S0 S cn) (k : z_keep [18, 19, 20, 21] [] S S') : z_WS P R oc fs w0 pk0 pgf rcf lo hif na nb ra rb S0 S' cn := by
  obtain ⟨pg, rc, hi, fc, oo, hD, hO, hoo, h7, hfc, h23, h26, hoth, hk, j16, j17, jA, jB⟩ := H
  refine ⟨pg, rc, hi, fc, oo, z_DI_same hD ⟨k.1 0 (by decide), k.1 1 (by decide), k.1 2 (by decide), k.2 11 (by decide), k.2 12 (by decide), k.2 13 (by decide), k.2 14 (by decide), k.2 15 (by decide)⟩, z_OUT_same hO (k.1 3 (by decide)) (k.1 4 (by decide)) (k.1 5 (by decide)) (k.1 6 (by decide)) (k.1 8 (by decide)) (k.1 9 (by decide)) (k.2 16 (by decide)) (k.2 17 (by decide)), hoo, (k.1 7 (by decide)).trans h7, hfc, (k.1 23 (by decide)).trans h23, (k.1 26 (by decide)).trans h26, hoth, z_keep_trans hk (z_keep_mono k (by decide) (by decide)), (k.1 16 (by decide)).trans j16, (k.1 17 (by decide)).trans j17, by rw [k.2 20 (by decide), k.2 21 (by decide)]; exact jA, by rw [k.2 20 (by decide), k.2 21 (by decide)]; exact jB⟩
/-- all pairs are written -/
def z_WE (P R oc fs T : Nat) (w0 pk0 : Int32) (pgf : Nat → Nat → Nat) (rcf : Nat → Nat → z_Rec) (lo hif : Nat → Nat) (na nb : Nat) (ra rb : Nat → z_Rec) (S0 S : es_St) : Prop :=
  ∃ (pg : Nat → Nat → Nat) (rc : Nat → Nat → z_Rec) (hi : Nat → Nat) (fc : Nat), z_DI P R S pg rc lo hi fc ∧ lo oc = 0 ∧ hi oc = z_pgs R T ∧ (∀ p, p < T → rc oc p = z_pr ra rb na nb p) ∧ (0 < T → S.1 3 = nI (pg oc 0)) ∧ S.1 4 = nI T ∧ fc + z_pgs R T = fs ∧ S.1 23 = w0 + nI (z_pgs R T) ∧ S.1 26 = (if z_pgs R T = 0 then pk0 else z_pk (P - fs + z_pgs R T) pk0) ∧ z_oth oc pgf pg rcf rc hif hi ∧ z_keep [2, 3, 4, 5, 6, 8, 9, 18, 19, 20, 21, 23, 26] [11, 12, 13, 14, 16, 17] S0 S
theorem zx_wclose {P R oc fs T : Nat} {w0 pk0 : Int32} {pgf : Nat → Nat → Nat} {rcf : Nat → Nat → z_Rec} {lo hif : Nat → Nat} {na nb : Nat} {ra rb : Nat → z_Rec} {S0 S : es_St} (hok : z_ok P R) (hoc : 6 ≤ oc) (hfs : fs ≤ P) (hT : z_pgs R T ≤ fs) (H : z_WS P R oc fs w0 pk0 pgf rcf lo hif na nb ra rb S0 S T) :
    ∃ S', (es_bd (f_X4_close (es_NX P R) z_fu S) fun r16 S17 => es_ck (es_B r16) <| some (r16, S17)) = some (1, S') ∧ z_WE P R oc fs T w0 pk0 pgf rcf lo hif na nb ra rb S0 S' := by
  obtain ⟨pg, rc, hi, fc, oo, hD, hO, hoo, h7, hfc, h23, h26, hoth, hk, -⟩ := H
  obtain ⟨a1, a2, a3, a4⟩ := id hok
  obtain ⟨m, hm⟩ : ∃ m, m = T / R := ⟨_, rfl⟩
  rw [← hm] at hfc h23 h26
  have hPR := z_PR hok
  have hTP : T ≤ 8192 := by
    have := (z_pgs_fit (show 0 < R by omega)).mp hT
    have h2 : fs * R ≤ P * R := Nat.mul_le_mul_right R hfs
    omega
  obtain ⟨b, S', pg', rc', hi', fc', g1, g2, g3, g4, g5⟩ := zx_close hok hD hoc hO (by omega)
  have hoth' : z_oth oc pgf pg' rcf rc' hif hi' := fun c hc => by
    obtain ⟨y1, y2, y3⟩ := g4 c hc
    rw [y1, y2, y3]; exact hoth c hc
  have hk' : z_keep [2, 3, 4, 5, 6, 8, 9, 18, 19, 20, 21, 23, 26] [11, 12, 13, 14, 16, 17] S0 S' := z_keep_trans hk (z_keep_mono g2 (by decide) (by decide))
  rw [g1, es_bd_s]
  rcases g5 with ⟨rfl, e1, e2, -⟩ | ⟨rfl, e1, e2, e3, ⟨e4, e5, e6, e7, e8⟩ | ⟨e4, e5, e6, e7⟩⟩
  · have := z_pgs_div1 (show 0 < R by omega) e2
    rw [← hm] at this
    omega
  · have d := z_pgs_div1 (show 0 < R by omega) e4
    rw [← hm] at d
    refine ⟨S', z_B1, pg', rc', hi', fc', g3, hO.2.2.1, e1, fun p hp => by rw [e2 p hp]; exact hoo p hp, e3, (g2.1 4 (by decide)).trans hO.1, by omega, ?_, ?_, hoth', hk'⟩
    · rw [e7, h23, d, Int32.add_assoc]; congr 1; exact nI_add _ 1
    · rw [e8, h26, d, if_neg (show ¬ m + 1 = 0 by omega), show P - fc + 1 = P - fs + (m + 1) by omega]
      by_cases c : m = 0
      · rw [if_pos c]
      · rw [if_neg c]; exact z_pk_pk (by omega) (by omega)
  · have d := z_pgs_div0 (show 0 < R by omega) e4
    rw [← hm] at d
    refine ⟨S', z_B1, pg', rc', hi', fc', g3, hO.2.2.1, e1, fun p hp => by rw [e2 p hp]; exact hoo p hp, e3, (g2.1 4 (by decide)).trans hO.1, by omega, by rw [e6, h23, d], by rw [e7, h26, d], hoth', hk'⟩
theorem zx_wloop {P R oc fs T : Nat} {w0 pk0 : Int32} {pgf : Nat → Nat → Nat} {rcf : Nat → Nat → z_Rec} {lo hif : Nat → Nat} {na nb : Nat} {ra rb : Nat → z_Rec} {S0 : es_St} (hok : z_ok P R) (hn : na + nb ≤ P * R) (ha : z_mon (z_ki ra) na) (hb : z_mon (z_ki rb) nb) (hoc : 6 ≤ oc) (hfs : fs ≤ P) (hT : z_pgs R T ≤ fs) (hTe : T = z_B (z_ki ra) (z_ki rb) nb na) :
    ∀ (gap fu ia ib s : Nat) (S : es_St), na - ia ≤ gap → gap < fu → ia ≤ na → ib ≤ nb → s ≤ ia → S.1 19 = nI ia → S.1 21 = nI (na + ib) → z_II (z_ki ra) (z_ki rb) na nb ia ib → z_WS P R oc fs w0 pk0 pgf rcf lo hif na nb ra rb S0 S (z_B (z_ki ra) (z_ki rb) nb ia) →
    ∃ S', f_X2_writePairs_43 (es_NX P R) z_fu fu (nI s) S = some (1, S') ∧ z_WE P R oc fs T w0 pk0 pgf rcf lo hif na nb ra rb S0 S' := by
  have hPR := z_PR hok
  intro gap
  induction gap with
  | zero =>
    intro fu ia ib s S hgap hf h1 h2 hs h19 h21 hI H
    obtain ⟨fu, rfl⟩ : ∃ q, fu = q + 1 := ⟨fu - 1, by omega⟩
    have e : ia = na := by omega
    subst e
    rw [← hTe] at H
    rw [f_X2_writePairs_43, zN20]
    by_cases c : P * R ≤ s
    · rw [if_pos (nI_le c (by omega))]; exact zx_wclose hok hoc hfs hT H
    · rw [if_neg (nI_ge (by omega) (by omega))]
      have hJ : z_JX ia nb ra rb S := by obtain ⟨pg, rc, hi, fc, oo, -, -, -, -, -, -, -, -, -, hJ⟩ := H; exact hJ
      obtain ⟨r, S', g1, g2, g3⟩ := zx_findGroup hok hn ha hb h1 h2 hJ h19 h21 hI
      rcases g3 with ⟨rfl, -⟩ | ⟨-, ga, ea, gb, eb, q1, ⟨q2, q3, -⟩, -⟩
      · rw [g1, es_bd_s, if_pos rfl]; exact zx_wclose hok hoc hfs hT (z_WS_keep H g2)
      · omega
  | succ gap ih =>
    intro fu ia ib s S hgap hf h1 h2 hs h19 h21 hI H
    obtain ⟨fu, rfl⟩ : ∃ q, fu = q + 1 := ⟨fu - 1, by omega⟩
    rw [f_X2_writePairs_43, zN20]
    by_cases c : P * R ≤ s
    · have e : ia = na := by omega
      subst e
      rw [← hTe] at H
      rw [if_pos (nI_le c (by omega))]; exact zx_wclose hok hoc hfs hT H
    · rw [if_neg (nI_ge (by omega) (by omega))]
      have hJ : z_JX na nb ra rb S := by obtain ⟨pg, rc, hi, fc, oo, -, -, -, -, -, -, -, -, -, hJ⟩ := H; exact hJ
      obtain ⟨r, S', g1, g2, g3⟩ := zx_findGroup hok hn ha hb h1 h2 hJ h19 h21 hI
      rw [g1, es_bd_s]
      rcases g3 with ⟨rfl, hB⟩ | ⟨rfl, ga, ea, gb, eb, q1, hg, q3, e18, e19, e20, e21⟩
      · rw [if_pos rfl]
        rw [← hB, ← hTe] at H
        exact zx_wclose hok hoc hfs hT (z_WS_keep H g2)
      · obtain ⟨y1, y2, y3, y4, y5, y6⟩ := id hg
        rw [if_neg (by decide)]
        unfold f_X2_writeGroup
        rw [e18]
        obtain ⟨S2, k1, k2, k3⟩ := zx_wgroup hok hn hoc hfs hT hg hTe z_fu ga S' (Nat.le_refl _) (by omega) (by have := z_fu_ge; omega) e19 e20 e21 (by rw [q3]; exact z_WS_keep H g2)
        rw [k1, es_bd_s, if_pos (by decide), nI_1, z_lt]
        exact ih fu ea eb (s + 1) S2 (by omega) (by omega) y2 y4 (by omega) ((k2.1 19 (by decide)).trans e19) ((k2.1 21 (by decide)).trans e21) y6 k3
