/-! ===== making runs: what holds between both at the head of the loop ===== -/
/-- the class: run ru is at hand, runs i < ru of rl i records are written (chains ba + 2 * i), cn records oo of run ru are put out, tk records of file f are taken -/
def z_RX (P R f n nb ba rb : Nat) (md onv : Int32) (pg0 : Nat → Nat → Nat) (rc0 : Nat → Nat → z_Rec) (lo0 hi0 : Nat → Nat) (SX : es_St) (pg : Nat → Nat → Nat) (rc : Nat → Nat → z_Rec) (lo hi : Nat → Nat) (fc ru : Nat) (rl : Nat → Nat) (oo : Nat → z_Rec) (cn tk : Nat) : Prop :=
  z_DI P R SX pg rc lo hi fc ∧ z_OUT R SX (ba + 2 * ru) pg rc lo hi oo cn ∧
  (SX.1 7 = onv ∧ SX.1 14 = md ∧ SX.1 33 = md ∧ SX.1 15 = onv ∧ SX.1 12 = nI ru ∧ SX.1 24 = nI (rb + ru) ∧ SX.1 32 = nI nb) ∧
  (∀ c, c < ba → pg c = pg0 c ∧ rc c = rc0 c ∧ lo c = lo0 c ∧ hi c = hi0 c) ∧
  (∀ i, i < ru → lo (ba + 2 * i) = 0 ∧ hi (ba + 2 * i) = z_pgs R (rl i) ∧ 0 < rl i ∧ SX.2 18 i = nI (pg (ba + 2 * i) 0) ∧ SX.2 19 i = nI (rl i) ∧ SX.2 22 (rb + i) = nI (rl i)) ∧
  (∀ c, ba ≤ c → (∀ i, i ≤ ru → c ≠ ba + 2 * i) → lo c = 0 ∧ hi c = 0) ∧ z_lz R SX (pg0 f) (rc0 f) n tk
/-- the reference: ps are the runs' starts, h records are held -/
def z_RM (P R f n ba rb : Nat) (md onv : Int32) (rc0 rc : Nat → Nat → z_Rec) (SX SM : es_St) (fc ru : Nat) (rl ps : Nat → Nat) (oo : Nat → z_Rec) (cn tk h : Nat) : Prop :=
  z_AC P R fc SX SM ∧ (SM.1 3 = SX.1 22 ∧ SM.1 13 = md ∧ SM.1 14 = onv ∧ SM.1 10 = nI ru ∧ SM.1 11 = nI (rb + ru) ∧ SM.1 9 = 0 ∧ SM.1 12 = nI h ∧ SM.1 16 = nI tk ∧ SM.2 3 f = nI n) ∧
  (∀ i, i ≤ ru → SM.2 6 i = nI (ps i)) ∧ ps 0 = 0 ∧ (∀ i, i < ru → ps (i + 1) = ps i + rl i ∧ SM.2 7 (rb + i) = nI (rl i) ∧ ∀ j, j < rl i → (SM.2 4 (ps i + j), SM.2 5 (ps i + j)) = rc (ba + 2 * i) j) ∧
  (∀ j, j < cn → (SM.2 4 (ps ru + j), SM.2 5 (ps ru + j)) = oo j) ∧ ∀ j, j < n → (SM.2 1 (8192 * f + j), SM.2 2 (8192 * f + j)) = rc0 f j
/-- the leaves and the reference's memory: entry q lies in leaf lam q, nx q = 1: for the next run -/
def z_RT (nb ru tk h : Nat) (SX SM : es_St) (lam nx : Nat → Nat) : Prop :=
  (∀ q, q < h → lam q < nb ∧ SM.2 8 q = SX.2 31 (lam q) ∧ SM.2 9 q = SX.2 32 (lam q) ∧ SM.2 10 q = SX.2 33 (lam q) ∧ SX.2 30 (lam q) = nI (ru + nx q) ∧ nx q ≤ 1 ∧ SM.2 11 q = nI (nx q)) ∧
  (∀ q q', q < h → q' < h → lam q = lam q' → q = q') ∧ (∀ i, i < nb → (∀ q, q < h → lam q ≠ i) → SX.2 30 i = nI 2147483647) ∧ (∀ i j, i < nb → j < nb → i ≠ j → SX.2 33 i ≠ SX.2 33 j) ∧ ∀ i, i < nb → ∃ a, a < tk ∧ SX.2 33 i = nI a
/-- both choose the same record, or find the run at its end -/
theorem z_pick {nb ru tk h b : Nat} {SX SM : es_St} {lam nx : Nat → Nat} (hnb : nb ≤ 224) (hru : ru < 100000) (hh : 0 < h) (hh2 : h ≤ 224) (h12 : SM.1 12 = nI h) (hmd : SM.1 13 = SX.1 33) (hT : z_RT nb ru tk h SX SM lam nx) (hF : z_FT SX nb b) :
    (∃ q, q < h ∧ lam q = b ∧ nx q = 0 ∧ SX.2 30 b = nI ru ∧ f_X8_first es_NM z_fu SM = some (nI q, SM)) ∨ ((∀ q, q < h → nx q = 1) ∧ SX.2 30 b = nI (ru + 1) ∧ f_X8_first es_NM z_fu SM = some (-1, SM)) := by
  obtain ⟨t1, t2, t3, t4, t5⟩ := hT
  obtain ⟨hb, -, hbest⟩ := z_FT_best (by have := (t1 0 hh).1; omega) hF
  have rnd : ∀ q, q < h → (SX.2 30 (lam q)).toInt = (ru + nx q : Nat) := fun q hq => by rw [(t1 q hq).2.2.2.2.1, nI_toInt (by have := (t1 q hq).2.2.2.2.2.1; omega)]
  -- the winner holds a record
  obtain ⟨qb, hqb, rfl⟩ : ∃ qb, qb < h ∧ lam qb = b := by
    rcases Classical.em (∃ qb, qb < h ∧ lam qb = b) with z | z
    · exact z
    · exfalso
      have hr := t3 b hb (fun q hq e => z ⟨q, hq, e⟩)
      rcases hbest (lam 0) (t1 0 hh).1 with e | e
      · exact z ⟨0, hh, e⟩
      · have h1 := rnd 0 hh
        have h2 : (SX.2 30 b).toInt = (2147483647 : Nat) := by rw [hr, nI_toInt (by decide)]
        have h3 := (t1 0 hh).2.2.2.2.2.1
        unfold z_l4 z_it at e
        dsimp only at e
        omega
  have hdist : ∀ q q', q < h → q' < h → q ≠ q' → SM.2 10 q ≠ SM.2 10 q' := fun q q' a c e => by
    rw [(t1 q a).2.2.2.1, (t1 q' c).2.2.2.1]
    exact t4 _ _ (t1 q a).1 (t1 q' c).1 (fun y => e (t2 q q' a c y))
  have mi : ∀ q, q < h → z_mi SM q = (0, (z_it SX (lam q)).2) := fun q hq => by
    unfold z_mi z_it
    rw [hmd, (t1 q hq).2.1, (t1 q hq).2.2.1, (t1 q hq).2.2.2.1]
  have zero : ∀ q, q < h → (SM.2 11 q = 0 ↔ nx q = 0) := fun q hq => by
    rw [(t1 q hq).2.2.2.2.2.2]
    exact ⟨fun y => (nI_eq (b := 0) (by have := (t1 q hq).2.2.2.2.2.1; omega) (by decide)).mp y, fun y => by rw [y]; rfl⟩
  obtain ⟨r, f1, f2⟩ := zm_first hh2 h12 hdist
  have hnxb := (t1 qb hqb).2.2.2.2.2.1
  by_cases e0 : nx qb = 0
  · refine Or.inl ⟨qb, hqb, rfl, e0, by rw [(t1 qb hqb).2.2.2.2.1, e0, Nat.add_zero], ?_⟩
    rcases f2 with ⟨-, hall⟩ | ⟨q, hq, rfl, hq0, hqbest⟩
    · exact absurd ((zero qb hqb).mpr e0) (hall qb hqb)
    · have : q = qb := by
        rcases Nat.decEq q qb with z | z
        · exfalso
          have g1 := hqbest qb hqb ((zero qb hqb).mpr e0) (fun y => z y.symm)
          have hnq := (zero q hq).mp hq0
          rcases hbest (lam q) (t1 q hq).1 with y | y
          · exact z (t2 q qb hq hqb y)
          · have r1 := rnd q hq
            have r2 := rnd qb hqb
            rw [mi q hq, mi qb hqb] at g1
            unfold z_l4 z_it at y g1
            dsimp only at y g1
            omega
        · exact z
      rw [f1, this]
  · have e1 : nx qb = 1 := by omega
    have hall : ∀ q, q < h → nx q = 1 := fun q hq => by
      have hq1 := (t1 q hq).2.2.2.2.2.1
      rcases (show nx q = 0 ∨ nx q = 1 by omega) with z | z
      · exfalso
        rcases hbest (lam q) (t1 q hq).1 with y | y
        · have := t2 q qb hq hqb y
          rw [this] at z; omega
        · have r1 := rnd q hq
          have r2 := rnd qb hqb
          unfold z_l4 z_it at y
          dsimp only at y
          omega
      · exact z
    refine Or.inr ⟨hall, by rw [(t1 qb hqb).2.2.2.2.1, e1], ?_⟩
    rcases f2 with ⟨rfl, -⟩ | ⟨q, hq, rfl, hq0, -⟩
    · exact f1
    · have := hall q hq
      rw [(zero q hq).mp hq0] at this
      omega
