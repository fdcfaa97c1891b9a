/-! ===== arrange against sorted ===== -/
theorem z_clear {P R ba rch : Nat} {S : es_St} {pg : Nat → Nat → Nat} {rc : Nat → Nat → z_Rec} {lo hi : Nat → Nat} {fc : Nat} (h : z_DI P R S pg rc lo hi fc) (hd : ∀ c, ba ≤ c → c ≠ rch → hi c ≤ lo c) : z_DI P R S pg rc (fun c => if ba ≤ c ∧ c ≠ rch then 0 else lo c) (fun c => if ba ≤ c ∧ c ≠ rch then 0 else hi c) fc := by
  refine z_DI_re h (fun c i => ?_) (fun _ _ _ _ => rfl) (fun _ _ _ _ _ _ => rfl)
  by_cases e : ba ≤ c ∧ c ≠ rch
  · rw [if_pos e, if_pos e]
    have := hd c e.1 e.2
    omega
  · rw [if_neg e, if_neg e]
theorem z_arr_end {P R ba : Nat} {md onv : Int32} {pg0 : Nat → Nat → Nat} {rc0 : Nat → Nat → z_Rec} {lo0 hi0 : Nat → Nat} {SX0 SM0 SX SM : es_St} {pg : Nat → Nat → Nat} {rc : Nat → Nat → z_Rec} {lo hi : Nat → Nat} {fc k : Nat} {rl ps ch : Nat → Nat} {hr top kk : Nat} (hok : z_ok P R) (H : z_PS P R ba md onv pg0 rc0 lo0 hi0 SX SM pg rc lo hi fc k rl ps ch hr top) (hk : k ≤ 1) (kX : z_keep z_KX z_AX SX0 SX) (kM : z_keep z_KM z_AM SM0 SM) (hRL : z_RL SX SM kk) :
    ∃ SX', f_X5_arrange_50 (es_NX P R) z_fu SX = some (1, SX') ∧ ∃ (pg' : Nat → Nat → Nat) (rc' : Nat → Nat → z_Rec) (lo' hi' : Nat → Nat) (fc' n hr' rch : Nat), z_RS P R ba md pg0 rc0 lo0 hi0 SX0 SM0 SX' SM pg' rc' lo' hi' fc' n kk hr' rch := by
  obtain ⟨hD, hac, ⟨x14, x15, x12, m13, m14, m10, m9, hhr, m3, m6⟩, hfil, hruns, hinj, hded, htop, hbt, hst, hq0, hrM, hle, hsrt⟩ := H
  obtain ⟨a1, a2, a3, a4⟩ := id hok
  have fin : ∀ (v w : Int32), z_keep [10, 11] [] SX (es_F (es_F SX 10 v) 11 w) := fun v w => z_keep_trans (z_keep_F _ 10 _ (by simp)) (z_keep_F _ 11 _ (by simp))
  have q12 : ∀ v, (es_F SX 10 v).1 12 = SX.1 12 := fun v => by rw [z_F1, if_neg (by decide)]
  have frl : ∀ S' : es_St, z_keep [10, 11] [] SX S' → z_RL S' SM kk := fun S' k1 => by
    obtain ⟨r1, r2, r3, r4⟩ := hRL
    exact ⟨(k1.1 24 (by decide)).trans r1, r2, r3, fun i hi => by rw [k1.2 22 (by decide)]; exact r4 i hi⟩
  rcases (show k = 0 ∨ k = 1 by omega) with rfl | rfl
  · have k1 := fin (-1) 0
    refine ⟨es_F (es_F SX 10 (-1)) 11 0, ?_, pg, rc, _, _, fc, 0, hr, top, z_DI_same (z_clear (rch := top) hD (fun c hc hne => hded c hc (fun i hi => absurd hi (by omega)))) ⟨k1.1 0 (by decide), k1.1 1 (by decide), k1.1 2 (by decide), k1.2 11 (by decide), k1.2 12 (by decide), k1.2 13 (by decide), k1.2 14 (by decide), k1.2 15 (by decide)⟩, z_AC_same hac (k1.1 23 (by decide)) (k1.1 26 (by decide)) rfl rfl rfl rfl rfl rfl, fun c hc => ?_, z_keep_trans kX (z_keep_mono k1 (by decide) (by decide)), kM, ⟨by rw [k1.1 22 (by decide)]; exact m3, by rw [k1.1 25 (by decide)]; exact m6, m9, hhr⟩, frl _ k1, hbt, ?_, ?_, fun c hc hne => ?_, by rw [z_F1, if_pos rfl]; rfl, fun h => absurd h (by omega), fun _ => by rw [z_F1, if_neg (by decide), z_F1, if_pos rfl], fun j hj => absurd hj (by omega), by omega, Or.inl ⟨rfl, m10⟩, fun j hj => absurd hj (by omega)⟩
    · unfold f_X5_arrange_50 f_X5_arrange_68
      rw [x12, if_pos (by decide), z_lt, q12, x12, if_pos (by decide), z_lt]
    · rw [if_neg (by omega), if_neg (by omega)]; exact hfil c hc
    · rw [if_neg (fun y => y.2 rfl)]; exact (htop top (Nat.le_refl _)).1
    · rw [if_neg (fun y => y.2 rfl), z_pgs_0 (by omega)]; exact (htop top (Nat.le_refl _)).2
    · rw [if_pos ⟨hc, hne⟩, if_pos ⟨hc, hne⟩]; exact ⟨rfl, rfl⟩
  · obtain ⟨o1, o2, o3, o4, o5, o6, o7⟩ := hruns 0 (by omega)
    obtain ⟨p1, p2⟩ := hrM 0 (by omega)
    have hp1 : ps 1 = rl 0 := by rw [p1, hq0]; omega
    have k1 := fin (nI (pg (ch 0) 0)) (nI (rl 0))
    refine ⟨es_F (es_F SX 10 (nI (pg (ch 0) 0))) 11 (nI (rl 0)), ?_, pg, rc, _, _, fc, rl 0, hr, ch 0, z_DI_same (z_clear (rch := ch 0) hD (fun c hc hne => hded c hc (fun i hi y => hne (by rw [y, show i = 0 by omega])))) ⟨k1.1 0 (by decide), k1.1 1 (by decide), k1.1 2 (by decide), k1.2 11 (by decide), k1.2 12 (by decide), k1.2 13 (by decide), k1.2 14 (by decide), k1.2 15 (by decide)⟩, z_AC_same hac (k1.1 23 (by decide)) (k1.1 26 (by decide)) rfl rfl rfl rfl rfl rfl, fun c hc => ?_, z_keep_trans kX (z_keep_mono k1 (by decide) (by decide)), kM, ⟨by rw [k1.1 22 (by decide)]; exact m3, by rw [k1.1 25 (by decide)]; exact m6, m9, hhr⟩, frl _ k1, o1, ?_, ?_, fun c hc hne => ?_, by rw [z_F1, if_pos rfl], fun _ => by rw [z_F1, if_neg (by decide), z_F1, if_pos rfl], fun h => absurd h (by omega), fun j hj => ?_, by omega, Or.inr ⟨by rw [m10]; decide, by rw [hst 1 (by omega), hp1]⟩, hsrt 0 (by omega)⟩
    · unfold f_X5_arrange_50 f_X5_arrange_68
      rw [x12, if_neg (by decide), zN18, show es_ck (vp_in 0 P) _ = _ from z_ck (i := 0) (show 0 < P by omega) (by omega), show es_rd SX 18 0 = _ from z_rd SX 18 0 (by decide), o6, z_lt, z_lt, q12, x12, if_neg (by decide), zN19, show es_ck (vp_in 0 P) _ = _ from z_ck (i := 0) (show 0 < P by omega) (by omega), show es_rd (es_F SX 10 (nI (pg (ch 0) 0))) 19 0 = _ from z_rd _ 19 0 (by decide), z_F2, o7, z_lt, z_lt]
    · rw [if_neg (by omega), if_neg (by omega)]; exact hfil c hc
    · rw [if_neg (fun y => y.2 rfl)]; exact o3
    · rw [if_neg (fun y => y.2 rfl)]; exact o4
    · rw [if_pos ⟨hc, hne⟩, if_pos ⟨hc, hne⟩]; exact ⟨rfl, rfl⟩
    · have := p2 j hj
      rw [hq0] at this
      exact this
theorem z_arr_loop {P R ba : Nat} {md onv : Int32} {pg0 : Nat → Nat → Nat} {rc0 : Nat → Nat → z_Rec} {lo0 hi0 : Nat → Nat} {SX0 SM0 : es_St} {kk bu : Nat} (hok : z_ok P R) (hba : 6 ≤ ba) (honv : es_B onv) (hbu : 3 ≤ bu ∧ bu ≤ 16) (x13 : SX0.1 13 = nI bu) :
    ∀ (K fX fM p : Nat) (SX SM : es_St) (pg : Nat → Nat → Nat) (rc : Nat → Nat → z_Rec) (lo hi : Nat → Nat) (fc k : Nat) (rl ps ch : Nat → Nat) (hr top : Nat), k ≤ K → K < fX → K < fM → p + k ≤ P → z_PS P R ba md onv pg0 rc0 lo0 hi0 SX SM pg rc lo hi fc k rl ps ch hr top → z_keep z_KX z_AX SX0 SX → z_keep z_KM z_AM SM0 SM → z_RL SX SM kk →
    ∃ (r : Int32) (SX' SM' : es_St), f_X5_arrange_18 (es_NX P R) z_fu fX (nI p) SX = some (r, SX') ∧ f_X8_merges_0 es_NM z_fu fM (nI (bu - 1)) SM = some (0, SM') ∧ ((r = 0 ∧ z_FL P R ba pg0 rc0 lo0 hi0 SX0 SM0 SX' SM') ∨ (r = 1 ∧ ∃ (pg' : Nat → Nat → Nat) (rc' : Nat → Nat → z_Rec) (lo' hi' : Nat → Nat) (fc' n hr' rch : Nat), z_RS P R ba md pg0 rc0 lo0 hi0 SX0 SM0 SX' SM' pg' rc' lo' hi' fc' n kk hr' rch)) := by
  obtain ⟨a1, a2, a3, a4⟩ := id hok
  have hfu := z_fu_ge
  have fin : ∀ (fX fM p : Nat) (SX SM : es_St) (pg : Nat → Nat → Nat) (rc : Nat → Nat → z_Rec) (lo hi : Nat → Nat) (fc k : Nat) (rl ps ch : Nat → Nat) (hr top : Nat), k ≤ 1 → 0 < fX → 0 < fM → z_PS P R ba md onv pg0 rc0 lo0 hi0 SX SM pg rc lo hi fc k rl ps ch hr top → z_keep z_KX z_AX SX0 SX → z_keep z_KM z_AM SM0 SM → z_RL SX SM kk →
    ∃ (r : Int32) (SX' SM' : es_St), f_X5_arrange_18 (es_NX P R) z_fu fX (nI p) SX = some (r, SX') ∧ f_X8_merges_0 es_NM z_fu fM (nI (bu - 1)) SM = some (0, SM') ∧ ((r = 0 ∧ z_FL P R ba pg0 rc0 lo0 hi0 SX0 SM0 SX' SM') ∨ (r = 1 ∧ ∃ (pg' : Nat → Nat → Nat) (rc' : Nat → Nat → z_Rec) (lo' hi' : Nat → Nat) (fc' n hr' rch : Nat), z_RS P R ba md pg0 rc0 lo0 hi0 SX0 SM0 SX' SM' pg' rc' lo' hi' fc' n kk hr' rch)) := by
    intro fX fM p SX SM pg rc lo hi fc k rl ps ch hr top hk hfX hfM H kX kM hRL
    obtain ⟨fX', rfl⟩ : ∃ q, fX = q + 1 := ⟨fX - 1, by omega⟩
    obtain ⟨fM', rfl⟩ : ∃ q, fM = q + 1 := ⟨fM - 1, by omega⟩
    obtain ⟨SX', g1, g2⟩ := z_arr_end hok H hk kX kM hRL
    obtain ⟨hD, hac, ⟨x14, x15, x12, m13, m14, m10, m9, hhr, m3, m6⟩, -⟩ := H
    refine ⟨1, SX', SM, ?_, ?_, Or.inr ⟨rfl, g2⟩⟩
    · rw [f_X5_arrange_18, x12, if_pos (show nI k ≤ 1 from nI_le (b := 1) hk (by decide)), g1]
      split <;> rfl
    · rw [f_X8_merges_0, m10, if_pos (show nI k ≤ 1 from nI_le (b := 1) hk (by decide))]
  intro K
  induction K with
  | zero =>
    intro fX fM p SX SM pg rc lo hi fc k rl ps ch hr top hk hfX hfM hp H kX kM hRL
    exact fin fX fM p SX SM pg rc lo hi fc k rl ps ch hr top (by omega) (by omega) (by omega) H kX kM hRL
  | succ K ih =>
    intro fX fM p SX SM pg rc lo hi fc k rl ps ch hr top hk hfX hfM hp H kX kM hRL
    rcases Nat.lt_or_ge k 2 with h2 | h2
    · exact fin fX fM p SX SM pg rc lo hi fc k rl ps ch hr top (by omega) (by omega) (by omega) H kX kM hRL
    · obtain ⟨hD, hac, ⟨x14, x15, x12, m13, m14, m10, m9, hhr, m3, m6⟩, hfil, hruns, hinj, hded, htop, hbt, hst, hq0, hrM, hle, hsrt⟩ := id H
      obtain ⟨fX', rfl⟩ : ∃ q, fX = q + 1 := ⟨fX - 1, by omega⟩
      obtain ⟨fM', rfl⟩ : ∃ q, fM = q + 1 := ⟨fM - 1, by omega⟩
      have hkP : k ≤ P := by omega
      obtain ⟨SMa, hSMa⟩ : ∃ S : es_St, S = es_F SM 6 (SM.1 6 + 1) := ⟨_, rfl⟩
      have ka : z_keep [6] [] SM SMa := by rw [hSMa]; exact z_keep_F _ 6 _ (by simp)
      have HG : z_GP P R ba md onv pg0 rc0 lo0 hi0 SX0 SM0 kk k hr rl ps ch SX SMa pg rc lo hi fc 0 0 (fun _ => 0) (fun _ => 0) (fun _ => 0) top := by
        refine ⟨hD, z_AC_same hac rfl rfl (ka.1 0 (by decide)) (ka.1 1 (by decide)) (ka.1 2 (by decide)) (ka.1 4 (by decide)) (ka.1 7 (by decide)) (ka.1 8 (by decide)), ⟨x14, x15, x12, (ka.1 13 (by decide)).trans m13, (ka.1 14 (by decide)).trans m14, (ka.1 10 (by decide)).trans m10, (ka.1 3 (by decide)).trans m3, by rw [hSMa, z_F1, if_pos rfl, m6]⟩, hfil, fun i _ hi => ?_, fun i hi => absurd hi (by omega), fun i j hi => absurd hi (by omega), fun i j hi => absurd hi (by omega), fun c hc _ hne => hded c hc (fun i hi => hne i (by omega) hi), htop, hbt, fun i hi => by rw [ka.2 6 (by decide)]; exact hst i hi, rfl, Nat.zero_le _, kX, z_keep_trans kM (z_keep_mono ka (by decide) (by decide)), ?_, fun i _ hi => hsrt i hi, fun i hi => absurd hi (by omega)⟩
        · obtain ⟨o1, o2, o3, o4, o5, o6, o7⟩ := hruns i hi
          exact ⟨o1, o2, o3, o4, o6, o7, fun j hj => by rw [ka.2 4 (by decide), ka.2 5 (by decide)]; exact (hrM i hi).2 j hj⟩
        · obtain ⟨r1, r2, r3, r4⟩ := hRL
          exact ⟨r1, (ka.1 11 (by decide)).trans r2, (ka.1 5 (by decide)).trans r3, fun i hi => by rw [ka.2 7 (by decide)]; exact r4 i hi⟩
      obtain ⟨r, SX1, SM1, g1, g2, g3⟩ := z_pass_loop (W := bu - 1) hok hba honv hhr (by omega) (by omega) hkP h2 (fun i hi => ⟨(hrM i hi).1, (hruns i hi).2.2.2.2.1⟩) hle hinj k z_fu z_fu SX SMa pg rc lo hi fc 0 0 _ _ _ top (by omega) (by omega) (by omega) (by omega) (by omega) (by omega) HG
      have hXs : f_X5_arrange_18 (es_NX P R) z_fu (fX' + 1) (nI p) SX = if ¬ r = 0 then f_X5_arrange_18 (es_NX P R) z_fu fX' (nI (p + 1)) SX1 else some (0, SX1) := by
        rw [f_X5_arrange_18, zN18, if_neg (nI_ge (show p < P by omega) (by omega)), x12, if_neg (show ¬ nI k ≤ 1 from nI_ge (a := 1) (by omega) (by omega))]
        have hm : f_X5_mergePass (es_NX P R) z_fu SX = some (r, SX1) := by
          unfold f_X5_mergePass
          rw [kX.1 13 (by decide), x13, show nI bu - 1 = nI (bu - 1) from pk_sub (b := 1) (by omega)]
          have e1 : (if 2 < nI (bu - 1) then nI (bu - 1) else 2) = nI (bu - 1) := by
            by_cases c : 2 < bu - 1
            · rw [if_pos (show 2 < nI (bu - 1) from nI_lt (a := 2) c (by omega))]
            · rw [if_neg (show ¬ 2 < nI (bu - 1) from nI_nlt (a := 2) (by omega) (by omega)), show bu - 1 = 2 by omega]; rfl
          rw [e1, z_lt, zN18, x12, if_neg (nI_nlt hkP (by omega)), z_lt]
          exact g1
        rw [hm, es_bd_s, nI_1, z_lt]
      have hMs : f_X8_merges_0 es_NM z_fu (fM' + 1) (nI (bu - 1)) SM = f_X8_merges_0 es_NM z_fu fM' (nI (bu - 1)) SM1 := by
        rw [f_X8_merges_0, m10, if_neg (show ¬ nI k ≤ 1 from nI_ge (a := 1) (by omega) (by omega)), hac.2.2.2.2.2.1, if_neg (by simp), z_lt, z_lt, ← hSMa, ka.1 9 (by decide), m9, zl8192, pk_sub (by omega), z_lt]
        exact g2 _
      rw [hXs, hMs]
      rcases g3 with ⟨rfl, hFL⟩ | ⟨rfl, kX1, kM1, hRL1, pg1, rc1, lo1, hi1, fc1, k1, rl1, ps1, ch1, hr1, top1, hlt, H1⟩
      · rw [if_neg (by simp)]
        obtain ⟨fM'', rfl⟩ : ∃ q, fM' = q + 1 := ⟨fM' - 1, by omega⟩
        refine ⟨0, SX1, SM1, rfl, ?_, Or.inl ⟨rfl, hFL⟩⟩
        obtain ⟨pgq, rcq, loq, hiq, fcq, -, -, -, -, h8, -⟩ := hFL
        rw [f_X8_merges_0, h8, if_pos (show ¬ (1 : Int32) = 0 by decide)]
        split <;> rfl
      · rw [if_pos (by decide)]
        exact ih fX' fM' (p + 1) SX1 SM1 pg1 rc1 lo1 hi1 fc1 k1 rl1 ps1 ch1 hr1 top1 (by omega) (by omega) (by omega) (by omega) H1 kX1 kM1 hRL1
/-- arrange, and the reference's sorted -/
theorem z_arrange {P R f n ba rb bu : Nat} {md onv hd : Int32} {pg0 : Nat → Nat → Nat} {rc0 : Nat → Nat → z_Rec} {lo0 hi0 : Nat → Nat} {SX SM : es_St} {fc : Nat} (hok : z_ok P R) (hf6 : f < 6) (hba : 6 ≤ ba) (hn : n ≤ 8192) (hrb : rb ≤ P) (hbu : 3 ≤ bu ∧ bu ≤ 16) (hlo0 : lo0 f = 0) (hhi0 : hi0 f = z_pgs R n) (honv : es_B onv) (hhd : 0 < n → hd = nI (pg0 f 0)) (hD : z_DI P R SX pg0 rc0 lo0 hi0 fc) (hdead : ∀ c, ba ≤ c → lo0 c = 0 ∧ hi0 c = 0)
    (x13 : SX.1 13 = nI bu) (x14 : SX.1 14 = md) (x15 : SX.1 15 = onv) (x24 : SX.1 24 = nI rb) (hac : z_AC P R fc SX SM) (m3 : SM.1 3 = SX.1 22) (m11 : SM.1 11 = nI rb) (m5 : SM.1 5 = nI rb) (m6 : SM.1 6 = SX.1 25) (m3f : SM.2 3 f = nI n) (hrec : ∀ j, j < n → (SM.2 1 (8192 * f + j), SM.2 2 (8192 * f + j)) = rc0 f j) (hrl : ∀ i, i < rb → SX.2 22 i = SM.2 7 i) :
    ∃ (r : Int32) (SX' SM' : es_St) (v : Nat), f_X5_arrange (es_NX P R) z_fu SX hd (nI n) = some (r, SX') ∧ f_X8_sorted es_NM z_fu SM (nI f) (nI bu) md onv = some (nI v, SM') ∧ v ≤ 8192 ∧ ((r = 0 ∧ z_FL P R ba pg0 rc0 lo0 hi0 SX (es_F (es_F SM 13 md) 14 onv) SX' SM') ∨ (r = 1 ∧ ∃ (pg' : Nat → Nat → Nat) (rc' : Nat → Nat → z_Rec) (lo' hi' : Nat → Nat) (fc' kk hr' rch : Nat), kk ≤ rb + P ∧ z_RS P R ba md pg0 rc0 lo0 hi0 SX (es_F (es_F SM 13 md) 14 onv) SX' SM' pg' rc' lo' hi' fc' v kk hr' rch)) := by
  obtain ⟨a1, a2, a3, a4⟩ := id hok
  have hfu := z_fu_ge
  obtain ⟨SXa, hSXa⟩ : ∃ S : es_St, S = es_F SX 12 (nI 0) := ⟨_, rfl⟩
  have ka : z_keep [12] [] SX SXa := by rw [hSXa]; exact z_keep_F _ 12 _ (by simp)
  obtain ⟨SMa, hSMa⟩ : ∃ S : es_St, S = es_F (es_F SM 13 md) 14 onv := ⟨_, rfl⟩
  have kb : z_keep [13, 14] [] SM SMa := by rw [hSMa]; exact z_keep_trans (z_keep_F _ 13 _ (by simp)) (z_keep_F _ 14 _ (by simp))
  rw [← hSMa]
  obtain ⟨r, SX1, SM1, g1, g2, g3⟩ := z_makeRuns (ba := ba) (rb := rb) (bu := bu) (H := (bu - 2) * R) (md := md) (onv := onv) (hd := hd) (SX := SXa) (SM := SMa) hok hf6 hba hn hrb hbu rfl hlo0 hhi0 honv hhd (z_DI_same hD ⟨ka.1 0 (by decide), ka.1 1 (by decide), ka.1 2 (by decide), ka.2 11 (by decide), ka.2 12 (by decide), ka.2 13 (by decide), ka.2 14 (by decide), ka.2 15 (by decide)⟩) hdead ((ka.1 13 (by decide)).trans x13) ((ka.1 14 (by decide)).trans x14) ((ka.1 15 (by decide)).trans x15) (by rw [hSXa, z_F1, if_pos rfl]) ((ka.1 24 (by decide)).trans x24) (z_AC_same hac (ka.1 23 (by decide)) (ka.1 26 (by decide)) (kb.1 0 (by decide)) (kb.1 1 (by decide)) (kb.1 2 (by decide)) (kb.1 4 (by decide)) (kb.1 7 (by decide)) (kb.1 8 (by decide))) (by rw [kb.1 3 (by decide), ka.1 22 (by decide)]; exact m3) (by rw [hSMa, z_F1, if_neg (by decide), z_F1, if_pos rfl]) (by rw [hSMa, z_F1, if_pos rfl]) ((kb.1 11 (by decide)).trans m11) ((kb.1 5 (by decide)).trans m5) (by rw [kb.1 6 (by decide), ka.1 25 (by decide)]; exact m6) (by rw [kb.2 3 (by decide)]; exact m3f) (by rw [kb.2 1 (by decide), kb.2 2 (by decide)]; exact hrec) (by rw [ka.2 22 (by decide), kb.2 7 (by decide)]; exact hrl)
  have kaX : z_keep z_KX z_AX SX SXa := z_keep_mono ka (by decide) (by decide)
  -- the reference
  have hMs : f_X8_sorted es_NM z_fu SM (nI f) (nI bu) md onv = es_bd (f_X8_merges_0 es_NM z_fu z_fu (nI (bu - 1)) SM1) fun _ S8 => if ¬ S8.1 10 = 0 then es_ck (vp_in 1 (es_NM 6)) <| es_lt (es_rd S8 6 1) fun v12 => some (v12, S8) else some (0, S8) := by
    unfold f_X8_sorted f_X8_merges
    rw [z_lt, es_ck_t honv, z_lt, ← hSMa, kb.1 1 (by decide), hac.2.1, show nI bu - 2 = nI (bu - 2) from pk_sub (b := 2) (by omega), pk_mul, g2, es_bd_s, show nI bu - 1 = nI (bu - 1) from pk_sub (b := 1) (by omega)]
  have hend : ∀ (S8 : es_St) (v : Nat), ((v = 0 ∧ S8.1 10 = 0) ∨ (¬ S8.1 10 = 0 ∧ S8.2 6 1 = nI v)) → (if ¬ S8.1 10 = 0 then es_ck (vp_in 1 (es_NM 6)) <| es_lt (es_rd S8 6 1) fun v12 => some (v12, S8) else some ((0 : Int32), S8)) = some (nI v, S8) := fun S8 v h => by
    rcases h with ⟨rfl, h⟩ | ⟨h, h2⟩
    · rw [if_neg (by simpa using h)]; rfl
    · rw [if_pos h, es_ck_t (show vp_in 1 (es_NM 6) from vp_in_nI (n := 1) (N := es_NM 6) (by decide) (by decide)), show es_rd S8 6 1 = _ from z_rd S8 6 1 (by decide), h2, z_lt]
  have hFLv : ∀ S8 : es_St, (¬ S8.1 10 = 0 → ∃ v, v ≤ 8192 ∧ S8.2 6 1 = nI v) → ∃ v, v ≤ 8192 ∧ ((v = 0 ∧ S8.1 10 = 0) ∨ (¬ S8.1 10 = 0 ∧ S8.2 6 1 = nI v)) := fun S8 h => by
    by_cases e : S8.1 10 = 0
    · exact ⟨0, by omega, Or.inl ⟨rfl, e⟩⟩
    · obtain ⟨v, h1, h2⟩ := h e
      exact ⟨v, h1, Or.inr ⟨e, h2⟩⟩
  have hFLx : ∀ S1 S2, z_FL P R ba pg0 rc0 lo0 hi0 SXa SMa S1 S2 → z_FL P R ba pg0 rc0 lo0 hi0 SX SMa S1 S2 := fun S1 S2 ⟨pg, rc, lo, hi, fc, y1, y2, y3, y4⟩ => ⟨pg, rc, lo, hi, fc, y1, y2, z_keep_trans kaX y3, y4⟩
  have hXs : f_X5_arrange (es_NX P R) z_fu SX hd (nI n) = if ¬ r = 0 then f_X5_arrange_18 (es_NX P R) z_fu z_fu (nI 0) SX1 else some (0, SX1) := by
    unfold f_X5_arrange
    rw [z_lt, show es_F SX 12 0 = SXa from hSXa.symm, g1, es_bd_s]
    rfl
  rw [hXs, hMs]
  rcases g3 with ⟨rfl, hFL⟩ | ⟨rfl, kX1, kM1, pg, rc, lo, hi, fc1, k, rl, ps, ch, hr, top, kk, HP, hkk, hRL⟩
  · obtain ⟨pgq, rcq, loq, hiq, fcq, -, -, -, -, h8, -, h10⟩ := id hFL
    obtain ⟨v, hv, hv2⟩ := hFLv SM1 h10
    obtain ⟨q, hq⟩ : ∃ q, z_fu = q + 1 := ⟨z_fu - 1, by omega⟩
    have hm0 : f_X8_merges_0 es_NM z_fu z_fu (nI (bu - 1)) SM1 = some (0, SM1) := by
      rw [show f_X8_merges_0 es_NM z_fu z_fu (nI (bu - 1)) SM1 = f_X8_merges_0 es_NM z_fu (q + 1) (nI (bu - 1)) SM1 from by rw [← hq], f_X8_merges_0, h8, if_pos (show ¬ (1 : Int32) = 0 by decide)]
      split <;> rfl
    rw [if_neg (by simp), hm0, es_bd_s, hend SM1 v hv2]
    exact ⟨0, SX1, SM1, v, rfl, rfl, hv, Or.inl ⟨rfl, hFLx _ _ hFL⟩⟩
  · have hkP : k ≤ P := z_runs_leC HP.1 HP.2.2.2.2.2.1 (fun i hi => by
      obtain ⟨o1, o2, o3, o4, o5, -⟩ := HP.2.2.2.2.1 i hi
      refine ⟨o3, ?_⟩
      rw [o4]
      have := z_pgs_lt (R := R) (n := rl i) (j := 0) (by omega) o5
      rw [Nat.zero_div] at this
      exact this)
    obtain ⟨r, SX2, SM2, q1, q2, q3⟩ := z_arr_loop (SX0 := SX) (SM0 := SMa) (kk := kk) hok hba honv hbu x13 k z_fu z_fu 0 SX1 SM1 pg rc lo hi fc1 k rl ps ch hr top (Nat.le_refl _) (by omega) (by omega) (by omega) HP (z_keep_trans kaX kX1) kM1 hRL
    rw [if_pos (by decide), q1, q2, es_bd_s]
    rcases q3 with ⟨rfl, hFL⟩ | ⟨rfl, pg', rc', lo', hi', fc', n', hr', rch, hRS⟩
    · obtain ⟨pgq, rcq, loq, hiq, fcq, -, -, -, -, h8, -, h10⟩ := id hFL
      obtain ⟨v, hv, hv2⟩ := hFLv SM2 h10
      rw [hend SM2 v hv2]
      exact ⟨0, SX2, SM2, v, rfl, rfl, hv, Or.inl ⟨rfl, hFL⟩⟩
    · obtain ⟨-, -, -, -, -, -, -, -, -, -, -, -, -, -, -, hv, hv2, -⟩ := id hRS
      rw [hend SM2 n' hv2]
      exact ⟨1, SX2, SM2, n', rfl, rfl, hv, Or.inr ⟨rfl, pg', rc', lo', hi', fc', kk, hr', rch, hkk, hRS⟩⟩
