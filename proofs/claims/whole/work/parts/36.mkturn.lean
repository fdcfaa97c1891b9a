/-! ===== making runs: a turn of the loop, by both ===== -/
def z_KX : List Nat := [2, 3, 4, 5, 6, 7, 8, 9, 10, 11, 12, 22, 23, 24, 25, 26, 32, 33]
def z_AX : List Nat := [11, 12, 13, 14, 15, 16, 17, 18, 19, 22, 24, 25, 26, 27, 28, 29, 30, 31, 32, 33, 34]
def z_KM : List Nat := [2, 3, 4, 5, 6, 7, 8, 9, 10, 11, 12, 16]
def z_AM : List Nat := [4, 5, 6, 7, 8, 9, 10, 11, 14, 15, 16]
theorem z_FT_same {S S' : es_St} {n b : Nat} (h : z_FT S n b) (e33 : S'.1 33 = S.1 33) (e30 : S'.2 30 = S.2 30) (e31 : S'.2 31 = S.2 31) (e32 : S'.2 32 = S.2 32) (e : S'.2 33 = S.2 33) (e34 : S'.2 34 = S.2 34) : z_FT S' n b := by
  have hi : z_it S' = z_it S := by funext i; unfold z_it; rw [e33, e30, e31, e32, e]
  unfold z_FT at *
  rw [hi, e34]
  exact h
/-- in order -/
def z_srt (md : Int32) (f : Nat → z_Rec) (n : Nat) : Prop := ∀ j, j + 1 < n → ¬ z_ah md (f (j + 1)) (f j)
theorem z_srt_congr {md : Int32} {f g : Nat → z_Rec} {n : Nat} (h : z_srt md f n) (e : ∀ j, j < n → g j = f j) : z_srt md g n := fun j hj => by
  rw [e (j + 1) hj, e j (by omega)]; exact h j hj
theorem z_srt_put {md : Int32} {oo oo' : Nat → z_Rec} {cn cn' : Nat} {x : z_Rec} (h : z_srt md oo cn) (hx : 0 < cn → ¬ z_ah md x (oo (cn - 1))) (e : ∀ j, j < cn → oo' j = oo j) (h1 : cn ≤ cn') (h2 : cn' ≤ cn + 1) (hl : oo' (cn' - 1) = x) : z_srt md oo' cn' := fun j hj => by
  by_cases c : j + 1 < cn
  · rw [e (j + 1) c, e j (by omega)]; exact h j c
  · have e1 : cn' = cn + 1 := by omega
    have e2 : j + 1 = cn := by omega
    subst e1
    rw [Nat.add_sub_cancel] at hl
    rw [e2, hl, e j (by omega)]
    have := hx (by omega)
    rw [← e2, Nat.add_sub_cancel] at this
    exact this
theorem z_l4_ah {md k k' t t' : Int32} {a b x y : Int} (e : a = b) (h : z_l4 (a, z_kk md k, z_tt md t, x) (b, z_kk md k', z_tt md t', y)) : ¬ z_ah md (k', t') (k, t) := fun z => by
  unfold z_l4 at h
  unfold z_ah at z
  dsimp only at h z
  omega
/-- the runs are in order, and nothing of this run stands ahead of what is put out -/
def z_SO (md : Int32) (nb ru ba : Nat) (SX : es_St) (rc : Nat → Nat → z_Rec) (rl : Nat → Nat) (oo : Nat → z_Rec) (cn : Nat) : Prop :=
  (∀ i, i < ru → z_srt md (rc (ba + 2 * i)) (rl i)) ∧ z_srt md oo cn ∧ (0 < cn → ∀ i, i < nb → SX.2 30 i = nI ru → ¬ z_ah md (SX.2 31 i, SX.2 32 i) (oo (cn - 1)))
theorem z_SO_turn {md : Int32} {nb ru ba b : Nat} {SX SX' : es_St} {rc rc' : Nat → Nat → z_Rec} {rl : Nat → Nat} {oo oo' : Nat → z_Rec} {cn cn' : Nat} (h : z_SO md nb ru ba SX rc rl oo cn) (x33 : SX.1 33 = md) (hn : 0 < nb) (hF : z_FT SX nb b) (h30 : SX.2 30 b = nI ru) (e : ∀ j, j < cn → oo' j = oo j) (h1 : cn ≤ cn') (h2 : cn' ≤ cn + 1) (hl : oo' (cn' - 1) = (SX.2 31 b, SX.2 32 b)) (hrc : ∀ i, i < ru → rc' (ba + 2 * i) = rc (ba + 2 * i)) (hleaf : ∀ i, i ≠ b → SX'.2 30 i = SX.2 30 i ∧ SX'.2 31 i = SX.2 31 i ∧ SX'.2 32 i = SX.2 32 i) (hb : SX'.2 30 b = nI ru → ¬ z_ah md (SX'.2 31 b, SX'.2 32 b) (SX.2 31 b, SX.2 32 b)) : z_SO md nb ru ba SX' rc' rl oo' cn' := by
  obtain ⟨s1, s2, s3⟩ := h
  obtain ⟨hbn, -, hbest⟩ := z_FT_best hn hF
  refine ⟨fun i hi => by rw [hrc i hi]; exact s1 i hi, z_srt_put s2 (fun hc => s3 hc b hbn h30) e h1 h2 hl, fun _ i hi hr => ?_⟩
  rw [hl]
  by_cases eb : i = b
  · rw [eb] at hr ⊢; exact hb hr
  · obtain ⟨q1, q2, q3⟩ := hleaf i eb
    rw [q1] at hr
    rw [q2, q3]
    have hz := (hbest i hi).resolve_left eb
    unfold z_it at hz
    rw [x33] at hz
    exact z_l4_ah (by rw [hr, h30]) hz
def z_HD (P R f n nb ba rb : Nat) (md onv : Int32) (pg0 : Nat → Nat → Nat) (rc0 : Nat → Nat → z_Rec) (lo0 hi0 : Nat → Nat) (SX0 SM0 SX SM : es_St) (pg : Nat → Nat → Nat) (rc : Nat → Nat → z_Rec) (lo hi : Nat → Nat) (fc ru : Nat) (rl ps : Nat → Nat) (oo : Nat → z_Rec) (cn tk h : Nat) (lam nx : Nat → Nat) (b d : Nat) : Prop :=
  z_RX P R f n nb ba rb md onv pg0 rc0 lo0 hi0 SX pg rc lo hi fc ru rl oo cn tk ∧
  z_RM P R f n ba rb md onv rc0 rc SX SM fc ru rl ps oo cn tk h ∧
  z_RT nb ru tk h SX SM lam nx ∧ z_FT SX nb b ∧
  (d + h = tk ∧ ((tk = nb + d ∧ tk ≤ n) ∨ (tk = n ∧ n ≤ nb + d)) ∧ ps ru + cn ≤ d ∧ d ≤ n) ∧ (0 < cn ∨ ∀ q, q < h → nx q = 0) ∧ z_keep z_KX z_AX SX0 SX ∧ z_keep z_KM z_AM SM0 SM ∧ (SX.1 25 = SX0.1 25 ∧ SM.1 6 = SM0.1 6 ∧ SM.1 5 = SM0.1 5) ∧ z_SO md nb ru ba SX rc rl oo cn ∧ ∀ i, i < rb → SX.2 22 i = SX0.2 22 i ∧ SM.2 7 i = SM0.2 7 i
/-- a chain of the files stays, when a run's chain grows -/
theorem z_oth_c {ba c oc : Nat} {pg pg' : Nat → Nat → Nat} {rc rc' : Nat → Nat → z_Rec} {hi hi' : Nat → Nat} (h : z_oth oc pg pg' rc rc' hi hi') (hc : c ≠ oc) : pg' c = pg c ∧ rc' c = rc c ∧ hi' c = hi c := h c hc
/-- the reference leaves its loop when it is full -/
theorem zm_59_full {m : Nat} {x1 x3 : Int32} {S : es_St} (h8 : S.1 8 = 1) : f_X8_makeRuns_59 es_NM z_fu (m + 1) x1 x3 S = f_X8_makeRuns_301 es_NM z_fu x3 S := by
  rw [f_X8_makeRuns_59]
  by_cases e : S.1 12 ≤ 0
  · rw [if_pos e]
  · rw [if_neg e, h8, if_pos (by decide)]
theorem zm_301_end {S : es_St} {ru fr cn : Nat} (hru : ru < 8199) (h10 : S.1 10 = nI ru) (h6 : S.2 6 ru = nI fr) (hcn : fr + cn ≤ 8192) : f_X8_makeRuns_301 es_NM z_fu (nI (fr + cn)) S = if cn = 0 then some (0, es_F S 5 (S.1 5 + S.1 10)) else es_bd (f_X8_endsRun es_NM z_fu S (nI (fr + cn))) (fun _ S15 => some (0, es_F S15 5 (S15.1 5 + S15.1 10))) := by
  unfold f_X8_makeRuns_301
  rw [h10, es_ck_t (vp_in_nI (N := es_NM 6) (show ru < 8200 by omega) (by decide)), z_lt, z_rd _ _ _ (by omega), h6]
  by_cases e : cn = 0
  · rw [if_pos e, if_pos (nI_le (by omega) (by omega)), z_lt, z_lt]
  · rw [if_neg e, if_neg (nI_ge (by omega) (by omega))]
    rfl
/-- a run's end when the disk is full -/
theorem zm_endsRun_full {R ru fr cn fi : Nat} {S : es_St} (hR : 1 ≤ R ∧ R ≤ 16) (h1 : S.1 1 = nI R) (h8 : S.1 8 = 1) (hru : ru < 8199) (hfi : fi < 16400) (h10 : S.1 10 = nI ru) (h11 : S.1 11 = nI fi) (h6 : S.2 6 ru = nI fr) (hcn : fr + cn ≤ 8192) : ∃ S', f_X8_endsRun es_NM z_fu S (nI (fr + cn)) = some (nI (fr + cn), S') ∧ z_keep [2, 4, 7, 8, 10, 11] [6, 7] S S' ∧ S'.1 8 = 1 ∧ S'.1 10 = nI (ru + 1) ∧ ∀ i, S'.2 6 i = if i = ru + 1 then nI (fr + cn) else S.2 6 i := by
  have hmod := Nat.mod_lt cn (show R > 0 by omega)
  have fin : ∀ S2 : es_St, z_keep [2, 4, 7, 8] [] S S2 → S2.1 8 = 1 → ∃ S', f_X8_endsRun_25 es_NM z_fu (nI (fr + cn)) (nI cn) S2 = some (nI (fr + cn), S') ∧ z_keep [2, 4, 7, 8, 10, 11] [6, 7] S S' ∧ S'.1 8 = 1 ∧ S'.1 10 = nI (ru + 1) ∧ ∀ i, S'.2 6 i = if i = ru + 1 then nI (fr + cn) else S.2 6 i := fun S2 hk h82 => by
    refine ⟨_, zm_endsRun_25 ((hk.1 11 (by decide)).trans h11) ((hk.1 10 (by decide)).trans h10) hfi (by omega), z_keep_trans (z_keep_mono hk (by decide) (by decide)) (z_keep_trans (z_keep_trans (z_keep_trans (z_keep_w _ 7 _ _ (by simp)) (z_keep_F _ 11 _ (by simp))) (z_keep_F _ 10 _ (by simp))) (z_keep_w _ 6 _ _ (by simp))), ?_, ?_, fun i => ?_⟩
    · rw [z_w1, z_F1, if_neg (by decide), z_F1, if_neg (by decide), z_w1]; exact h82
    · rw [z_w1, z_F1, if_pos rfl]
    · rw [z_w2a _ _ _ _ (by omega), z_F2, z_F2, z_w2b _ _ _ (by decide), hk.2 6 (by decide)]
  unfold f_X8_endsRun
  rw [h10, es_ck_t (vp_in_nI (N := es_NM 6) (show ru < 8200 by omega) (by decide)), z_lt, z_rd _ _ _ (by omega), h6, pk_sub (by omega), show fr + cn - fr = cn by omega, z_lt, h1, es_ck_t (nI_ne0 (by omega) (by omega)), pk_rem (by omega) (by omega) (by omega)]
  by_cases e : cn % R = 0
  · rw [if_pos (show nI (cn % R) = 0 by rw [e]; rfl)]
    exact fin S z_keep_rfl h8
  · rw [if_neg (nI_ne0 (by omega) (by omega))]
    unfold f_X8_writes
    by_cases c : S.1 2 = S.1 0
    · rw [if_neg (by simpa using c), z_lt, es_bd_s]
      exact fin _ (z_keep_F _ 8 _ (by simp)) (by rw [z_F1, if_pos rfl])
    · rw [if_pos c, z_lt, z_lt, z_lt, z_lt]
      have k1 : z_keep [2, 4, 7, 8] [] S (es_F (es_F S 2 (S.1 2 + 1)) 4 ((es_F S 2 (S.1 2 + 1)).1 4 + 1)) := z_keep_trans (z_keep_F _ 2 _ (by simp)) (z_keep_F _ 4 _ (by simp))
      have k8 : (es_F (es_F S 2 (S.1 2 + 1)) 4 ((es_F S 2 (S.1 2 + 1)).1 4 + 1)).1 8 = 1 := by rw [z_F1, if_neg (by decide), z_F1, if_neg (by decide)]; exact h8
      split
      · rw [z_lt, es_bd_s]
        exact fin _ (z_keep_trans k1 (z_keep_F _ 7 _ (by simp))) (by rw [z_F1, if_neg (by decide)]; exact k8)
      · rw [z_lt, es_bd_s]
        exact fin _ (z_keep_trans k1 (z_keep_F _ 7 _ (by simp))) (by rw [z_F1, if_neg (by decide)]; exact k8)
/-- the reference's way out when it is full -/
theorem zm_301_full {R ru fr cn fi : Nat} {S : es_St} (hR : 1 ≤ R ∧ R ≤ 16) (h1 : S.1 1 = nI R) (h8 : S.1 8 = 1) (hru : ru < 8199) (hfi : fi < 16400) (h10 : S.1 10 = nI ru) (h11 : S.1 11 = nI fi) (h6 : S.2 6 ru = nI fr) (hcn : fr + cn ≤ 8192) (hru1 : 1 ≤ ru → ∃ v, v ≤ 8192 ∧ S.2 6 1 = nI v) : ∃ S', f_X8_makeRuns_301 es_NM z_fu (nI (fr + cn)) S = some (0, S') ∧ z_keep [2, 4, 5, 7, 8, 10, 11] [6, 7] S S' ∧ S'.1 8 = 1 ∧ (¬ S'.1 10 = 0 → ∃ v, v ≤ 8192 ∧ S'.2 6 1 = nI v) := by
  rw [zm_301_end hru h10 h6 hcn]
  by_cases e : cn = 0
  · rw [if_pos e]
    refine ⟨_, rfl, z_keep_F _ 5 _ (by simp), by rw [z_F1, if_neg (by decide)]; exact h8, fun hne => ?_⟩
    rw [z_F1, if_neg (by decide), h10] at hne
    have : 1 ≤ ru := by
      rcases Nat.eq_zero_or_pos ru with z | z
      · rw [z] at hne; exact absurd rfl hne
      · exact z
    rw [z_F2]
    exact hru1 this
  · rw [if_neg e]
    obtain ⟨S', g1, g2, g3, g4, g5⟩ := zm_endsRun_full hR h1 h8 hru hfi h10 h11 h6 hcn
    rw [g1, es_bd_s]
    refine ⟨_, rfl, z_keep_trans (z_keep_mono g2 (by decide) (by decide)) (z_keep_F _ 5 _ (by simp)), by rw [z_F1, if_neg (by decide)]; exact g3, fun _ => ?_⟩
    rw [z_F2, g5]
    by_cases e1 : 1 = ru + 1
    · rw [if_pos e1]; exact ⟨_, hcn, rfl⟩
    · rw [if_neg e1]; exact hru1 (by omega)
