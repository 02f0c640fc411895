theorem nlt_of {a b : Nat} (ha : a < 2 ^ 31) (h : ¬ nI b ≤ nI a) : a < b := Nat.lt_of_not_le (fun q => h (nI_le q ha))
theorem eq_of_nle {a b : Nat} (hab : a ≤ b) (hb : b < 2 ^ 31) (h : nI b ≤ nI a) : a = b := Nat.le_antisymm hab ((nI_leI hb (Nat.lt_of_le_of_lt hab hb)).mp h)
theorem isS_yes {v : St} {k : Nat} {y : Int32} (hi : Inv v) (hk : k < 8) (h1 : ¬ y < 0) (h2 : ¬ nI (mN v k) ≤ y) : isS v (nI k) y := by
  obtain ⟨j, hj, rfl⟩ := nI_of h1
  exact ⟨k, j, hk, nlt_of hj h2, rfl, rfl⟩
theorem isS_no1 {v : St} {x y : Int32} (h : ¬ isK x) : ¬ isS v x y := fun ⟨k, _, hk, _, hx, _⟩ => h ⟨k, hk, hx⟩
theorem mN_lt {v : St} {k : Nat} (hi : Inv v) (hk : k < 8) : mN v k < 2 ^ 31 := Nat.lt_of_le_of_lt (hi.mk k hk).1 (by decide)
theorem isS_no2 {v : St} {x y : Int32} (hi : Inv v) (h : y < 0) : ¬ isS v x y := by
  rintro ⟨k, j, hk, hj, rfl, rfl⟩
  exact nI_pos (Nat.lt_trans hj (mN_lt hi hk)) h
theorem isS_no3 {v : St} {k : Nat} {y : Int32} (hi : Inv v) (hk : k < 8) (h : nI (mN v k) ≤ y) : ¬ isS v (nI k) y := by
  rintro ⟨k2, j, hk2, hj, he, rfl⟩
  have e : k = k2 := (nI_eq (by omega) (by omega)).mp he
  subst e
  exact nI_ge hj (mN_lt hi hk) h
/-- a subject may be under this one -/
def canA (v : St) (k : Nat) (a : Int32) : Prop := (zka v k = -1 ∧ a = -1) ∨ (zka v k ≠ -1 ∧ isS v (zka v k) a)
theorem opC_0 {v : St} {k n : Nat} (h : zop v (k * 30 + n) = 0) : opC v k (n + 1) = opC v k n := by rw [opC, if_pos h, Nat.add_zero]
theorem opC_1 {v : St} {k n : Nat} (h : ¬ zop v (k * 30 + n) = 0) : opC v k (n + 1) = opC v k n + 1 := by rw [opC, if_neg h]
theorem unC_0 {v : St} {k n : Nat} {a : Int32} (h : zop v (k * 30 + n) = 0) : unC v k a (n + 1) = unC v k a n := by rw [unC, if_pos h, Nat.add_zero]
theorem unC_1 {v : St} {k n : Nat} {a : Int32} (h : ¬ zop v (k * 30 + n) = 0) (h2 : ¬ zab v (k * 30 + n) = a) : unC v k a (n + 1) = unC v k a n := by rw [unC, if_neg h, if_neg h2, Nat.add_zero]
theorem unC_2 {v : St} {k n : Nat} {a : Int32} (h : ¬ zop v (k * 30 + n) = 0) (h2 : zab v (k * 30 + n) = a) : unC v k a (n + 1) = unC v k a n + 1 := by rw [unC, if_neg h, if_pos h2]
theorem onC_0 {v : St} {n : Nat} {x a : Int32} (h : ¬ zka v n = x) : onC v x a (n + 1) = onC v x a n := by rw [onC, if_neg h, Nat.add_zero]
theorem onC_1 {v : St} {n : Nat} {x a : Int32} (h : zka v n = x) : onC v x a (n + 1) = onC v x a n + unC v n a (mN v n) := by rw [onC, if_pos h]
theorem unC_le {v : St} {k : Nat} {a : Int32} : ∀ n, unC v k a n ≤ n
  | 0 => Nat.le_refl _
  | n + 1 => by
    have := unC_le (v := v) (k := k) (a := a) n
    rw [unC]
    split
    · omega
    · split <;> omega
theorem opC_le {v : St} {k : Nat} : ∀ n, opC v k n ≤ n
  | 0 => Nat.le_refl _
  | n + 1 => by
    have := opC_le (v := v) (k := k) n
    rw [opC]
    split <;> omega
theorem onC_le {v : St} {x a : Int32} (hi : Inv v) : ∀ n, n ≤ 8 → onC v x a n ≤ 30 * n
  | 0, _ => Nat.le_refl _
  | n + 1, h => by
    have h1 := onC_le (v := v) (x := x) (a := a) hi n (by omega)
    have h2 := unC_le (v := v) (k := n) (a := a) (mN v n)
    have h3 := (hi.mk n (by omega)).1
    rw [onC]
    split <;> omega
/-! what holds of a text, sums over all kinds, the book's sum -/
def hasJ (v : St) (g : Nat) (p0 : Int64) (n : Nat) : Prop := zln v g = nI n ∧ ∀ i, i < n → ztx v (g * 16 + i) &&& 255 = byteF p0 (nI n) (nI i)
def mkS (v : St) : Nat → Nat
  | 0 => 0
  | n + 1 => mkS v n + mN v n
def opS (v : St) : Nat → Nat
  | 0 => 0
  | n + 1 => opS v n + opC v n (mN v n)
def txS (v : St) (g : Nat) (b : Int32) : Nat → Int32
  | 0 => b
  | n + 1 => stirF (txS v g b n) (ztx v (g * 16 + n) &&& 255)
def sOne (v : St) (b : Int32) (g : Nat) : Int32 := txS v g (stirF (stirF (stirF b (zab v g)) (if zop v g = 0 then 0 else 1)) (zsm v g)) (lN9 v g)
def sKi (v : St) (b : Int32) (k : Nat) : Nat → Int32
  | 0 => b
  | n + 1 => sOne v (sKi v b k n) (k * 30 + n)
def sRo (v : St) (b : Int32) : Nat → Int32
  | 0 => b
  | n + 1 => stirF (sRo v b n) (znu v n)
def sBk (v : St) : Nat → Int32
  | 0 => stirF (stirF 0 (zck v)) (ztn v)
  | n + 1 => sKi v (stirF (sBk v n) (zka v n)) n (mN v n)
def bookF (v : St) : Int32 := sRo v (sBk v 8) (kN v * 5)
/-! the chain of kinds -/
theorem pigeon : ∀ (n : Nat) (f : Nat → Nat), (∀ i, i < n + 1 → f i < n) → ∃ i j, i < j ∧ j < n + 1 ∧ f i = f j
  | 0, f, h => absurd (h 0 (by omega)) (Nat.not_lt_zero _)
  | n + 1, f, h => by
    by_cases hx : ∃ i, i < n + 1 ∧ f i = f (n + 1)
    · obtain ⟨i, h1, h2⟩ := hx
      exact ⟨i, n + 1, h1, by omega, h2⟩
    · have hne : ∀ i, i < n + 1 → f i ≠ f (n + 1) := fun i h1 h2 => hx ⟨i, h1, h2⟩
      obtain ⟨i, j, h1, h2, h3⟩ := pigeon n (fun i => if f i < f (n + 1) then f i else f i - 1) (fun i hi => by
        have a := h i (by omega)
        have b := h (n + 1) (by omega)
        have c := hne i hi
        show (if f i < f (n + 1) then f i else f i - 1) < n
        split <;> omega)
      refine ⟨i, j, h1, by omega, ?_⟩
      have a := hne i (by omega)
      have b := hne j h2
      have h3 : (if f i < f (n + 1) then f i else f i - 1) = (if f j < f (n + 1) then f j else f j - 1) := h3
      split at h3 <;> split at h3 <;> omega
/-- g is x, or above it -/
def reaU (v : St) (x g : Int32) : Prop := ∃ n, chA (zka v) x n = g ∧ ∀ j, j < n → chA (zka v) x j ≠ -1
/-- a chain's kinds, as numbers -/
theorem chA_kind {v : St} {x : Int32} (hi : Inv v) (hx : x = -1 ∨ isK x) : ∀ n, (∀ j, j < n → chA (zka v) x j ≠ -1) → chA (zka v) x n = -1 ∨ isK (chA (zka v) x n)
  | 0, _ => hx
  | n + 1, h => by
    rcases chA_kind hi hx n (fun j hj => h j (by omega)) with q | ⟨k, hk, q⟩
    · exact absurd q (h n (by omega))
    · show zka v (chA (zka v) x n).toNatClampNeg = -1 ∨ isK (zka v (chA (zka v) x n).toNatClampNeg)
      rw [q, nI_clamp (by omega)]
      exact hi.ka k hk
theorem chA_rk {v : St} {x : Int32} {rk : Nat → Nat} (hi : Inv v) (hrk : ∀ k j, k < 8 → j < 8 → zka v k = nI j → rk j < rk k) (hx : x = -1 ∨ isK x) (a : Nat) : ∀ d, (∀ j, j < a + d + 1 → chA (zka v) x j ≠ -1) → rk (chA (zka v) x (a + d)).toNatClampNeg ≤ rk (chA (zka v) x a).toNatClampNeg ∧ (0 < d → rk (chA (zka v) x (a + d)).toNatClampNeg < rk (chA (zka v) x a).toNatClampNeg)
  | 0, _ => ⟨Nat.le_refl _, fun h => absurd h (Nat.lt_irrefl _)⟩
  | d + 1, h => by
    have ih := chA_rk hi hrk hx a d (fun j hj => h j (by omega))
    obtain ⟨k, hk, e1⟩ := (chA_kind hi hx (a + d) (fun j hj => h j (by omega))).resolve_left (h (a + d) (by omega))
    obtain ⟨k2, hk2, e2⟩ := (chA_kind hi hx (a + (d + 1)) (fun j hj => h j (by omega))).resolve_left (h (a + (d + 1)) (by omega))
    have e3 : zka v k = nI k2 := by
      have e4 : zka v (chA (zka v) x (a + d)).toNatClampNeg = nI k2 := e2
      rw [e1, nI_clamp (by omega)] at e4
      exact e4
    have hlt := hrk k k2 hk hk2 e3
    rw [e1, nI_clamp (by omega)] at ih
    rw [e2, nI_clamp (by omega)]
    exact ⟨by omega, fun _ => by omega⟩
/-- eight steps that meet neither the end nor the goal: there are none -/
theorem chA_end {v : St} {x : Int32} {g : Nat} (hi : Inv v) (hx : x = -1 ∨ isK x) (hg : g < 8) (h : ∀ j, j < 8 → chA (zka v) x j ≠ -1 ∧ chA (zka v) x j ≠ nI g) : False := by
  obtain ⟨rk, hrk⟩ := hi.rk
  have hk : ∀ j, j < 8 → isK (chA (zka v) x j) := fun j hj => (chA_kind hi hx j (fun i hi' => (h i (by omega)).1)).resolve_left (h j hj).1
  obtain ⟨i, j, h1, h2, h3⟩ := pigeon 8 (fun i => if i < 8 then (chA (zka v) x i).toNatClampNeg else g) (fun i hi' => by
    show (if i < 8 then (chA (zka v) x i).toNatClampNeg else g) < 8
    split
    · next q =>
      obtain ⟨k, hk1, e⟩ := hk i q
      rw [e, nI_clamp (by omega)]; exact hk1
    · exact hg)
  have h3 : (if i < 8 then (chA (zka v) x i).toNatClampNeg else g) = (if j < 8 then (chA (zka v) x j).toNatClampNeg else g) := h3
  rw [if_pos (by omega)] at h3
  by_cases hj : j < 8
  · rw [if_pos hj] at h3
    have h4 := (chA_rk hi hrk hx i (j - i) (fun t ht => (h t (by omega)).1)).2 (by omega)
    rw [show i + (j - i) = j by omega, h3] at h4
    exact Nat.lt_irrefl _ h4
  · rw [if_neg hj] at h3
    obtain ⟨k, hk1, e⟩ := hk i (by omega)
    rw [e, nI_clamp (by omega)] at h3
    exact (h i (by omega)).2 (by rw [e, h3])
theorem reaU_yes {v : St} {x g : Int32} {n : Nat} (h : chA (zka v) x n = g) (hb : ∀ j, j < n → chA (zka v) x j ≠ -1) : reaU v x g := ⟨n, h, hb⟩
theorem reaU_no {v : St} {x g : Int32} {n : Nat} (hg : g ≠ -1) (h : chA (zka v) x n = -1) (hb : ∀ j, j < n → chA (zka v) x j ≠ g) : ¬ reaU v x g := by
  rintro ⟨m, h1, h2⟩
  rcases Nat.lt_trichotomy m n with q | q | q
  · exact hb m q h1
  · subst q; exact hg (h1.symm.trans h)
  · exact h2 n q h
/-! answers -/
def suF (x : Int64) : Int64 := if -1000000000 ≤ x ∧ x ≤ 1000000000 then x else -9000000000009
def anF (v : St) (k j n : Nat) (a : Int32) : Int64 :=
  if zmd v (k * 8 + n) = 1 then (zas v (k * 8 + n)).toInt64 * (nI j).toInt64 + (zbs v (k * 8 + n)).toInt64
  else if zmd v (k * 8 + n) = 2 then suF ((zsm v (k * 30 + j)).toInt64 + a.toInt64 * (zas v (k * 8 + n)).toInt64 + (zbs v (k * 8 + n)).toInt64)
  else if zmd v (k * 8 + n) = 3 then (zsm v (k * 30 + j)).toInt64 * (zas v (k * 8 + n)).toInt64 + (zbs v (k * 8 + n)).toInt64 + a.toInt64
  else if zmd v (k * 8 + n) = 4 then -9000000000000 - (1 + ((zas v (k * 8 + n)).toInt64 &&& 7))
  else if zmd v (k * 8 + n) = 5 then (if a = 0 then -9000000000010 else (zsm v (k * 30 + j)).toInt64 / a.toInt64 + (zbs v (k * 8 + n)).toInt64)
  else if zmd v (k * 8 + n) = 6 then (if zka v k = -1 then -9000000000011 else suF ((zsm v ((zka v k).toNatClampNeg * 30 + (zab v (k * 30 + j)).toNatClampNeg)).toInt64 + a.toInt64))
  else (if 0 < onC v (nI k) (nI j) 8 then -9000000000012 else (nI (opC v k (mN v k)) - 1).toInt64)
/-- a verb's call that is known -/
def okC (v : St) (x y z : Int32) : Prop := ∃ k j n, k < 8 ∧ j < mN v k ∧ n < 8 ∧ x = nI k ∧ y = nI j ∧ z = nI n ∧ zmd v (k * 8 + n) ≠ 0
def aOk (a : Int32) : Prop := -1000000 ≤ a ∧ a ≤ 1000000
theorem aOk_iff {a : Int32} : (-1000000 ≤ a.toInt64 ∧ a.toInt64 ≤ 1000000) ↔ aOk a := by
  unfold aOk
  rw [Int64.le_iff_toInt_le, Int64.le_iff_toInt_le, Int32.le_iff_toInt_le, Int32.le_iff_toInt_le, Int32.toInt_toInt64]
  exact Iff.rfl
