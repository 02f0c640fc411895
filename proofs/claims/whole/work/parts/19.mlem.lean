/-! rows for the reference -/
def thF (a b c d : Int32) : Int32 := if a = 0 then (if b = 0 then (if c = 0 then (if d = 0 then 0 else 4) else 3) else 2) else 1
theorem k7_iff {x : Int32} : (0 ≤ x ∧ x ≤ 7) ↔ isK x := by
  constructor
  · rintro ⟨h1, h2⟩
    exact k8_of (Int32.not_lt.mpr h1) (by rw [Int32.lt_iff_toInt_lt]; rw [Int32.le_iff_toInt_le] at h2; have e1 : (7 : Int32).toInt = 7 := rfl; have e2 : (8 : Int32).toInt = 8 := rfl; omega)
  · rintro ⟨k, hk, rfl⟩
    exact ⟨nI_pos' (by omega), nI_le (b := 7) (by omega) (by decide)⟩
theorem m7_iff {x : Int32} : (-1 ≤ x ∧ x ≤ 7) ↔ ynK x := by
  constructor
  · rintro ⟨h1, h2⟩
    by_cases h : x = -1
    · exact Or.inl h
    · refine Or.inr (k7_iff.mp ⟨?_, h2⟩)
      rw [Int32.le_iff_toInt_le] at h1 ⊢
      have e1 : (-1 : Int32).toInt = -1 := rfl
      have e2 : (0 : Int32).toInt = 0 := rfl
      have := lv_neT h (a := -1) rfl
      omega
  · rintro (rfl | h)
    · decide
    · obtain ⟨h1, h2⟩ := k7_iff.mpr h
      refine ⟨?_, h2⟩
      rw [Int32.le_iff_toInt_le] at h1 ⊢
      have e1 : (-1 : Int32).toInt = -1 := rfl
      have e2 : (0 : Int32).toInt = 0 := rfl
      omega
theorem inN_iff {y : Int32} {n : Nat} (hn : n ≤ 1000) : (0 ≤ y ∧ y ≤ nI n - 1) ↔ ∃ j, j < n ∧ y = nI j := by
  have e1 : (1 : Int32).toInt = 1 := rfl
  have e0 : (0 : Int32).toInt = 0 := rfl
  have e2 : (nI n - 1).toInt = (n : Int) - 1 := by
    rw [Int32.toInt_sub, nI_toInt (by omega), e1, Int.bmod_eq_of_le (by omega) (by omega)]
  constructor
  · rintro ⟨h1, h2⟩
    obtain ⟨j, hj, rfl⟩ := nI_of (Int32.not_lt.mpr h1)
    rw [Int32.le_iff_toInt_le, e2, nI_toInt hj] at h2
    exact ⟨j, by omega, rfl⟩
  · rintro ⟨j, hj, rfl⟩
    exact ⟨nI_pos' (by omega), by rw [Int32.le_iff_toInt_le, e2, nI_toInt (by omega)]; omega⟩
theorem isS_in {v : St} {k : Nat} {y : Int32} (hi : Inv v) (hk : k < 8) (h : 0 ≤ y ∧ y ≤ nI (mN v k) - 1) : isS v (nI k) y := by
  obtain ⟨j, hj, rfl⟩ := (inN_iff (Nat.le_trans (hi.mk k hk).1 (by decide))).mp h
  exact ⟨k, j, hk, hj, rfl, rfl⟩
theorem isS_nin {v : St} {k : Nat} {y : Int32} (hi : Inv v) (hk : k < 8) (h : ¬ (0 ≤ y ∧ y ≤ nI (mN v k) - 1)) : ¬ isS v (nI k) y := by
  rintro ⟨k2, j, hk2, hj, he, rfl⟩
  have e : k = k2 := (nI_eq (by omega) (by omega)).mp he
  subst e
  exact h ((inN_iff (Nat.le_trans (hi.mk k hk).1 (by decide))).mpr ⟨j, hj, rfl⟩)
theorem s30_nI (k j : Nat) : 30 * nI k + nI j = nI (k * 30 + j) := by
  rw [show (30 : Int32) = nI 30 from rfl, pk_mul, nI_add, Nat.mul_comm]
theorem s8_nI (k j : Nat) : 8 * nI k + nI j = nI (k * 8 + j) := by
  rw [show (8 : Int32) = nI 8 from rfl, pk_mul, nI_add, Nat.mul_comm]
theorem s16_nI (k j : Nat) : 16 * nI k + nI j = nI (k * 16 + j) := by
  rw [show (16 : Int32) = nI 16 from rfl, pk_mul, nI_add, Nat.mul_comm]
theorem s5_nI (k j : Nat) : 5 * nI k + nI j = nI (k * 5 + j) := by
  rw [show (5 : Int32) = nI 5 from rfl, pk_mul, nI_add, Nat.mul_comm]
theorem s5_0 (k : Nat) : 5 * nI k = nI (k * 5) := by
  rw [show (5 : Int32) = nI 5 from rfl, pk_mul, Nat.mul_comm]
theorem rem30 {i : Nat} (h : i < 240) : nI i - nI i / 30 * 30 = nI (i % 30) := pk_rem (d := 30) (by omega) (by decide) (by decide)
theorem div30 {i : Nat} (h : i < 240) : nI i / 30 = nI (i / 30) := pk_div (d := 30) (by omega) (by decide) (by decide)
/-- open ones under, as the reference counts them -/
abbrev ouP (v : St) (x y : Int32) (n : Nat) : Prop := (n % 30 < mN v (n / 30) ∧ zka v (n / 30) = x ∧ zab v n = y) ∧ ¬ zop v n = 0
def ouC (v : St) (x y : Int32) : Nat → Nat
  | 0 => 0
  | n + 1 => ouC v x y n + (if (n % 30 < mN v (n / 30) ∧ zka v (n / 30) = x ∧ zab v n = y) ∧ ¬ zop v n = 0 then 1 else 0)
theorem ouC_0 {v : St} {x y : Int32} {n : Nat} (h : ¬ ouP v x y n) : ouC v x y (n + 1) = ouC v x y n := by rw [ouC, if_neg h, Nat.add_zero]
theorem ouC_1 {v : St} {x y : Int32} {n : Nat} (h : ouP v x y n) : ouC v x y (n + 1) = ouC v x y n + 1 := by rw [ouC, if_pos h]
theorem ou_in {v : St} {x y : Int32} {k : Nat} : ∀ j, j ≤ 30 → ouC v x y (k * 30 + j) = ouC v x y (k * 30) + (if zka v k = x then unC v k y (min j (mN v k)) else 0)
  | 0, _ => by
    rw [Nat.add_zero, Nat.zero_min]
    split <;> rfl
  | j + 1, h => by
    have ih := ou_in (v := v) (x := x) (y := y) (k := k) j (by omega)
    have e1 : (k * 30 + j) % 30 = j := by omega
    have e2 : (k * 30 + j) / 30 = k := by omega
    show ouC v x y (k * 30 + j + 1) = _
    rw [ouC, e1, e2, ih]
    by_cases hx : zka v k = x
    · rw [if_pos hx, if_pos hx]
      by_cases hj : j < mN v k
      · rw [show min (j + 1) (mN v k) = j + 1 by omega, show min j (mN v k) = j by omega]
        by_cases ho : zop v (k * 30 + j) = 0
        · rw [unC_0 ho, if_neg (fun z => z.2 ho)]; omega
        · by_cases ha : zab v (k * 30 + j) = y
          · rw [unC_2 ho ha, if_pos ⟨⟨hj, hx, ha⟩, ho⟩]; omega
          · rw [unC_1 ho ha, if_neg (fun z => ha z.1.2.2)]; omega
      · rw [show min (j + 1) (mN v k) = mN v k by omega, show min j (mN v k) = mN v k by omega, if_neg (fun z => hj z.1.1)]; omega
    · rw [if_neg hx, if_neg hx, if_neg (fun z => hx z.1.2.1)]
theorem ou_on {v : St} {x y : Int32} (hi : Inv v) : ∀ n, n ≤ 8 → ouC v x y (n * 30) = onC v x y n
  | 0, _ => by rw [Nat.zero_mul]; rfl
  | n + 1, h => by
    have ih := ou_on (v := v) (x := x) (y := y) hi n (by omega)
    have hM := (hi.mk n (by omega)).1
    rw [show (n + 1) * 30 = n * 30 + 30 by omega, ou_in 30 (Nat.le_refl _), ih, show min 30 (mN v n) = mN v n by omega, onC]
