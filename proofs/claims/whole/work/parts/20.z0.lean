/-! ===== pure part: numbers, states ===== -/
theorem zl0 : (0 : Int32) = nI 0 := rfl
theorem zl1 : (1 : Int32) = nI 1 := rfl
theorem zl2 : (2 : Int32) = nI 2 := rfl
theorem zl3 : (3 : Int32) = nI 3 := rfl
theorem zl5 : (5 : Int32) = nI 5 := rfl
theorem zl6 : (6 : Int32) = nI 6 := rfl
theorem zl14 : (14 : Int32) = nI 14 := rfl
theorem zl15 : (15 : Int32) = nI 15 := rfl
theorem zl16 : (16 : Int32) = nI 16 := rfl
theorem zl8192 : (8192 : Int32) = nI 8192 := rfl
theorem zlM : (2147483647 : Int32) = nI 2147483647 := rfl
theorem z_m1 {p : Nat} (h : p < 2 ^ 31) : (nI p = -1) ↔ False := by
  constructor
  · intro e
    have h1 := nI_toInt h
    rw [e] at h1
    have h2 : (-1 : Int32).toInt = -1 := by decide
    omega
  · intro h; cases h
theorem z_m1' {p : Nat} (h : p < 2 ^ 31) : (-1 = nI p) ↔ False := by rw [eq_comm]; exact z_m1 h
theorem z_F1 (S : es_St) (g : Nat) (v : Int32) (j : Nat) : (es_F S g v).1 j = if j = g then v else S.1 j := by simp [es_F]
theorem z_F2 (S : es_St) (g : Nat) (v : Int32) : (es_F S g v).2 = S.2 := by simp [es_F]
theorem z_w1 (S : es_St) (k : Nat) (i x : Int32) : (es_wr S k i x).1 = S.1 := by simp [es_wr, es_R]
theorem z_w2 (S : es_St) (k : Nat) (i x : Int32) (j : Nat) : (es_wr S k i x).2 j = if j = k then upd (S.2 k) i.toNatClampNeg x else S.2 j := by simp [es_wr, es_R]
theorem z_up (f : Nat → Int32) (k : Nat) (x : Int32) (j : Nat) : upd f k x j = if j = k then x else f j := by simp [upd]
theorem z_rd (S : es_St) (k i : Nat) (h : i < 2 ^ 31) : es_rd S k (nI i) = S.2 k i := by unfold es_rd; rw [nI_clamp h]
theorem z_in (i n : Nat) (h : i < n) (hn : n < 2 ^ 31) : vp_in (nI i) n := vp_in_nI h hn
theorem z_ck {α : Type} {i n : Nat} {k : Option α} (h : i < n) (hn : n < 2 ^ 31) : es_ck (vp_in (nI i) n) k = k := es_ck_t (vp_in_nI h hn)
theorem z_ckn {α : Type} {i : Nat} {k : Option α} (h : 0 < i) (hn : i < 2 ^ 31) : es_ck (¬ nI i = nI 0) k = k := es_ck_t (by rw [nI_eq hn (by decide)]; omega)
theorem z_B0 {α : Type} {k : Option α} : es_ck (es_B (nI 0)) k = k := es_ck_t ⟨rfl, rfl⟩
theorem z_B1 {α : Type} {k : Option α} : es_ck (es_B (nI 1)) k = k := es_ck_t ⟨rfl, rfl⟩
theorem z_N0 (P R : Nat) : es_NX P R 9 = 6 ∧ es_NX P R 10 = 6 ∧ es_NX P R 11 = P * R ∧ es_NX P R 12 = P * R ∧ es_NX P R 13 = P ∧ es_NX P R 14 = P ∧ es_NX P R 15 = P ∧ es_NX P R 16 = R ∧ es_NX P R 17 = R ∧ es_NX P R 18 = P ∧ es_NX P R 19 = P ∧ es_NX P R 20 = P * R ∧ es_NX P R 21 = P * R ∧ es_NX P R 22 = 2 * P ∧ es_NX P R 23 = 2 * P ∧ es_NX P R 24 = 15 * R ∧ es_NX P R 25 = 15 * R ∧ es_NX P R 26 = 15 ∧ es_NX P R 27 = 15 ∧ es_NX P R 28 = 15 ∧ es_NX P R 29 = 15 ∧ es_NX P R 30 = es_T R ∧ es_NX P R 31 = es_T R ∧ es_NX P R 32 = es_T R ∧ es_NX P R 33 = es_T R ∧ es_NX P R 34 = es_T R := ⟨rfl, rfl, rfl, rfl, rfl, rfl, rfl, rfl, rfl, rfl, rfl, rfl, rfl, rfl, rfl, rfl, rfl, rfl, rfl, rfl, rfl, rfl, rfl, rfl, rfl, rfl⟩
theorem zN9 (P R : Nat) : es_NX P R 9 = 6 := by simp [es_NX]
theorem zN10 (P R : Nat) : es_NX P R 10 = 6 := by simp [es_NX]
theorem zN11 (P R : Nat) : es_NX P R 11 = P * R := by simp [es_NX]
theorem zN12 (P R : Nat) : es_NX P R 12 = P * R := by simp [es_NX]
theorem zN13 (P R : Nat) : es_NX P R 13 = P := by simp [es_NX]
theorem zN14 (P R : Nat) : es_NX P R 14 = P := by simp [es_NX]
theorem zN15 (P R : Nat) : es_NX P R 15 = P := by simp [es_NX]
theorem zN16 (P R : Nat) : es_NX P R 16 = R := by simp [es_NX]
theorem zN17 (P R : Nat) : es_NX P R 17 = R := by simp [es_NX]
theorem zN18 (P R : Nat) : es_NX P R 18 = P := by simp [es_NX]
theorem zN19 (P R : Nat) : es_NX P R 19 = P := by simp [es_NX]
theorem zN20 (P R : Nat) : es_NX P R 20 = P * R := by simp [es_NX]
theorem zN21 (P R : Nat) : es_NX P R 21 = P * R := by simp [es_NX]
theorem zN22 (P R : Nat) : es_NX P R 22 = 2 * P := by simp [es_NX]
theorem zN23 (P R : Nat) : es_NX P R 23 = 2 * P := by simp [es_NX]
theorem zN24 (P R : Nat) : es_NX P R 24 = 15 * R := by simp [es_NX]
theorem zN25 (P R : Nat) : es_NX P R 25 = 15 * R := by simp [es_NX]
theorem zN26 (P R : Nat) : es_NX P R 26 = 15 := by simp [es_NX]
theorem zN27 (P R : Nat) : es_NX P R 27 = 15 := by simp [es_NX]
theorem zN28 (P R : Nat) : es_NX P R 28 = 15 := by simp [es_NX]
theorem zN29 (P R : Nat) : es_NX P R 29 = 15 := by simp [es_NX]
theorem zN30 (P R : Nat) : es_NX P R 30 = es_T R := by simp [es_NX]
theorem zN31 (P R : Nat) : es_NX P R 31 = es_T R := by simp [es_NX]
theorem zN32 (P R : Nat) : es_NX P R 32 = es_T R := by simp [es_NX]
theorem zN33 (P R : Nat) : es_NX P R 33 = es_T R := by simp [es_NX]
theorem zN34 (P R : Nat) : es_NX P R 34 = es_T R := by simp [es_NX]
/-- sizes -/
def z_ok (P R : Nat) : Prop := 1 ≤ P ∧ P ≤ 512 ∧ 1 ≤ R ∧ R ≤ 16
theorem z_PR {P R : Nat} (h : z_ok P R) : P * R ≤ 8192 := es_PR h
theorem z_cell {P R p s : Nat} (hp : p < P) (hs : s < R) : p * R + s < P * R := by
  have : (p + 1) * R ≤ P * R := Nat.mul_le_mul_right R hp
  rw [Nat.add_mul] at this
  omega
theorem z_cell_inj {R p s q t : Nat} (hs : s < R) (ht : t < R) (h : p * R + s = q * R + t) : p = q ∧ s = t := by
  have h1 : (p * R + s) / R = p := by rw [Nat.mul_comm, Nat.mul_add_div (by omega), Nat.div_eq_of_lt hs]; omega
  have h2 : (q * R + t) / R = q := by rw [Nat.mul_comm, Nat.mul_add_div (by omega), Nat.div_eq_of_lt ht]; omega
  have h3 : p = q := by rw [← h1, ← h2, h]
  subst h3
  exact ⟨rfl, by omega⟩
-- leaves
theorem zx_isPage {P R p fu : Nat} {N : Nat → Nat} {S : es_St} (hok : z_ok P R) (h0 : S.1 0 = nI P) (hp : p < 2 ^ 31) : f_X0_isPage N fu S (nI p) = some (if p < P then 1 else 0, S) := by
  obtain ⟨a1, a2, a3, a4⟩ := hok
  unfold f_X0_isPage
  rw [h0, zl0, zl1]
  simp (disch := omega) only [nI_ltI, nI_leI]
  by_cases h : p < P
  · simp [h, Nat.not_le.mpr h]
  · simp [h, Nat.le_of_not_lt h]
theorem zx_isCell {P R p s fu : Nat} {N : Nat → Nat} {S : es_St} (hok : z_ok P R) (h0 : S.1 0 = nI P) (h1 : S.1 1 = nI R) (hp : p < P) (hs : s < R) : f_X0_isCell N fu S (nI p) (nI s) = some (1, S) := by
  obtain ⟨a1, a2, a3, a4⟩ := hok
  unfold f_X0_isCell
  rw [h0, h1, zl0, zl1]
  simp (disch := omega) only [nI_ltI, nI_leI]
  simp [Nat.not_le.mpr hp, Nat.not_le.mpr hs]
theorem zx_keyAt {P R p s fu : Nat} {S : es_St} (hok : z_ok P R) (h0 : S.1 0 = nI P) (h1 : S.1 1 = nI R) (hp : p < P) (hs : s < R) : f_X0_keyAt (es_NX P R) fu S (nI p) (nI s) = some (S.2 11 (p * R + s), S) := by
  have hc := z_cell hp hs
  have hPR := z_PR hok
  unfold f_X0_keyAt
  rw [zx_isCell hok h0 h1 hp hs]
  simp only [es_bd, es_lt, h1, pk_mul, nI_add, zN11]
  rw [z_ck hc (by omega), z_rd _ _ _ (by omega)]
  simp
