/-! bytes and sums as the reference keeps them -/
theorem xb_c : ∀ k, k < 64 → ((nI k).toInt64 &&& 63) = lN k := by decide +kernel
theorem xb_cu : ∀ k, k < 64 → ((nI k).toInt64.toUInt64 &&& Int64.toUInt64 63) = UInt64.ofNat k := by decide +kernel
theorem xb_sm : ∀ k, k < 64 → (BitVec.ofNat 64 k).smod 64 = BitVec.ofNat 64 k := by decide +kernel
theorem byte_sar (p : Int64) {s : Nat} (hs : s ≤ 56) : (p >>> ((nI s).toInt64 &&& 63)).toInt32 &&& 255 = ((p.toUInt64 >>> ((nI s).toInt64.toUInt64 &&& Int64.toUInt64 63)).toInt64).toInt32 &&& 255 := by
  rw [xb_c s (by omega), xb_cu s (by omega)]
  apply Int32.toBitVec_inj.mp
  rw [Int32.toBitVec_and, Int32.toBitVec_and, Int64.toBitVec_toInt32, Int64.toBitVec_toInt32]
  have e1 : (p >>> lN s).toBitVec = p.toBitVec.sshiftRight s := by
    rw [Int64.toBitVec_shiftRight]
    show p.toBitVec.sshiftRight ((BitVec.ofNat 64 s).smod 64).toNat = _
    rw [xb_sm s (by omega), BitVec.toNat_ofNat, Nat.mod_eq_of_lt (by omega)]
  have h1 : (UInt64.ofNat s).toNat = s := by
    show (BitVec.ofNat 64 s).toNat = s
    rw [BitVec.toNat_ofNat, Nat.mod_eq_of_lt (by omega)]
  have e2 : (p.toUInt64 >>> UInt64.ofNat s).toInt64.toBitVec = p.toBitVec >>> s := by
    apply BitVec.eq_of_toNat_eq
    show (p.toUInt64 >>> UInt64.ofNat s).toNat = _
    rw [UInt64.toNat_shiftRight, h1, Nat.mod_eq_of_lt (by omega), BitVec.toNat_ushiftRight]
    rfl
  rw [e1, e2]
  apply BitVec.eq_of_getLsbD_eq
  intro i hi
  rw [BitVec.getLsbD_and, BitVec.getLsbD_and]
  have hm : ∀ i < 32, 8 ≤ i → (255 : Int32).toBitVec.getLsbD i = false := by decide
  rcases Nat.lt_or_ge i 8 with z | z
  · rw [BitVec.getLsbD_signExtend, BitVec.getLsbD_signExtend, if_pos (show i < 64 by omega), if_pos (show i < 64 by omega), BitVec.getLsbD_sshiftRight, BitVec.getLsbD_ushiftRight, if_pos (show s + i < 64 by omega), decide_eq_false (show ¬ 64 ≤ i by omega), Bool.not_false, Bool.true_and]
  · rw [hm i hi z]; simp
theorem sh8 {w t : Nat} (h : t < w) (hw : w ≤ 8) : 8 * (nI w - 1 - nI t) = nI (8 * (w - 1 - t)) := by
  rw [show nI w - 1 = nI (w - 1) from pk_sub (b := 1) (by omega), pk_sub (by omega), show (8 : Int32) = nI 8 from rfl, pk_mul]
theorem byteF_sar {p : Int64} {w t : Nat} (h : t < w) (hw : w ≤ 8) : (p >>> ((8 * (nI w - 1 - nI t)).toInt64 &&& 63)).toInt32 &&& 255 = byteF p (nI w) (nI t) := by
  rw [byteF, sh8 h hw]
  exact byte_sar p (by omega)
/-- counting down -/
def dn (w t : Nat) : Int32 := if t < w then nI (w - 1 - t) else -1
theorem dn_0 {w : Nat} (h : 1 ≤ w) : nI w - 1 = dn w 0 := by rw [dn, if_pos (by omega), Nat.sub_zero]; exact pk_sub (b := 1) h
theorem dn_t {w t : Nat} (h : t < w) : dn w t = nI (w - 1 - t) := if_pos h
theorem dn_s {w t : Nat} (h : t < w) : dn w t + (-1) = dn w (t + 1) := by
  rw [dn_t h, dn]
  by_cases h2 : t + 1 < w
  · rw [if_pos h2, show w - 1 - t = (w - 1 - (t + 1)) + 1 by omega]; exact pk_m1 _
  · rw [if_neg h2, show w - 1 - t = 0 by omega]; decide
theorem dn_neg {w t : Nat} (hw : w ≤ 8) (h : dn w t < 0) : ¬ t < w := fun q => by
  rw [dn_t q] at h
  exact nI_pos (by omega) h
theorem dn_pos {w t : Nat} (h : ¬ dn w t < 0) : t < w := by
  rcases Nat.lt_or_ge t w with q | q
  · exact q
  · rw [dn, if_neg (by omega)] at h
    exact absurd (by decide) h
theorem byteF_dn {p : Int64} {w t : Nat} (h : t < w) (hw : w ≤ 8) : (p >>> ((8 * nI (w - 1 - t)).toInt64 &&& 63)).toInt32 &&& 255 = byteF p (nI w) (nI t) := by
  rw [← byteF_sar h hw, sh8 h hw, show (8 : Int32) = nI 8 from rfl, pk_mul]
theorem and255 (y : Int32) : (y &&& 255) &&& 255 = y &&& 255 := by
  apply Int32.toBitVec_inj.mp
  rw [Int32.toBitVec_and, Int32.toBitVec_and, BitVec.and_assoc, BitVec.and_self]
theorem i8_255 (x : Int32) : x.toInt8.toInt32 &&& 255 = x &&& 255 := by
  apply Int32.toBitVec_inj.mp
  rw [Int32.toBitVec_and, Int32.toBitVec_and, Int8.toBitVec_toInt32, Int32.toBitVec_toInt8]
  apply BitVec.eq_of_getLsbD_eq
  intro i hi
  rw [BitVec.getLsbD_and, BitVec.getLsbD_and]
  have hm : ∀ i < 32, 8 ≤ i → (255 : Int32).toBitVec.getLsbD i = false := by decide
  rcases Nat.lt_or_ge i 8 with z | z
  · rw [BitVec.getLsbD_signExtend, BitVec.getLsbD_signExtend, if_pos z, if_pos hi]
    simp only [z, hi, decide_true, Bool.true_and]
  · rw [hm i hi z]; simp
theorem byteF_8 {p : Int64} {n i : Int32} : (byteF p n i).toInt8.toInt32 &&& 255 = byteF p n i := by rw [i8_255, byteF, and255]
theorem upd_upd {f : Nat → Int32} {k : Nat} {x y : Int32} : upd (upd f k x) k y = upd f k y := by
  funext j
  unfold upd
  split <;> rfl
theorem upd_same {f : Nat → Int32} {k : Nat} {x : Int32} (h : f k = x) : upd f k x = f := by
  funext j
  unfold upd
  split
  · next q => rw [q, h]
  · rfl
theorem txW {f : Nat → Int32} {b : Nat} {p0 : Int64} {n t : Nat} : upd (fun i => lenT f b p0 n t i &&& 255) (b + t) (byteF p0 (nI n) (nI t)) = fun i => lenT f b p0 n (t + 1) i &&& 255 := by
  funext i
  rw [lenT_s]
  unfold upd
  by_cases h : i = b + t
  · rw [if_pos h, if_pos h, byteF_8]
  · rw [if_neg h, if_neg h]
theorem i64_32 {x : Int64} (h : -1000000000 ≤ x ∧ x ≤ 1000000000) : x.toInt32.toInt64 = x := by
  apply Int64.toInt_inj.mp
  obtain ⟨h1, h2⟩ := h
  rw [Int64.le_iff_toInt_le] at h1 h2
  have e1 : (-1000000000 : Int64).toInt = -1000000000 := rfl
  have e2 : (1000000000 : Int64).toInt = 1000000000 := rfl
  rw [Int32.toInt_toInt64, Int64.toInt_toInt32, Int.bmod_eq_of_le (by omega) (by omega)]
theorem i32_64 (x : Int32) : x.toInt64.toInt32 = x := by
  apply Int32.toInt_inj.mp
  have h1 := x.le_toInt
  have h2 := x.toInt_lt
  rw [Int64.toInt_toInt32, Int32.toInt_toInt64, Int.bmod_eq_of_le (by omega) (by omega)]
theorem sumW {v : St} {g : Nat} {x : Int64} (h : -1000000000 ≤ x ∧ x ≤ 1000000000) : vp_updL (fun i => (zsm v i).toInt64) g x = fun i => (upd (zsm v) g x.toInt32 i).toInt64 := by
  funext i
  unfold vp_updL upd
  by_cases e : i = g
  · rw [if_pos e, if_pos e, i64_32 h]
  · rw [if_neg e, if_neg e]
/-! how large answers are -/
theorem mul_bd {a b M N : Int} (h1 : -M ≤ a) (h2 : a ≤ M) (h3 : -N ≤ b) (h4 : b ≤ N) (hM : 0 ≤ M) (hN : 0 ≤ N) : -(M * N) ≤ a * b ∧ a * b ≤ M * N := by
  obtain ⟨n, hn⟩ := Int.eq_nat_or_neg a
  obtain ⟨m, hm⟩ := Int.eq_nat_or_neg b
  have hnM : (n : Int) ≤ M := by rcases hn with rfl | rfl <;> omega
  have hmN : (m : Int) ≤ N := by rcases hm with rfl | rfl <;> omega
  have hp : (n : Int) * m ≤ M * N := Int.mul_le_mul hnM hmN (Int.natCast_nonneg _) hM
  have h0 : 0 ≤ (n : Int) * m := Int.mul_nonneg (Int.natCast_nonneg _) (Int.natCast_nonneg _)
  rcases hn with rfl | rfl <;> rcases hm with rfl | rfl <;> (try simp only [Int.neg_mul, Int.mul_neg, Int.neg_neg]) <;> constructor <;> omega
theorem i64_add {x y : Int64} (h1 : -9223372036854775808 ≤ x.toInt + y.toInt) (h2 : x.toInt + y.toInt < 9223372036854775808) : (x + y).toInt = x.toInt + y.toInt := by
  rw [Int64.toInt_add, Int.bmod_eq_of_le (by omega) (by omega)]
theorem i64_sub {x y : Int64} (h1 : -9223372036854775808 ≤ x.toInt - y.toInt) (h2 : x.toInt - y.toInt < 9223372036854775808) : (x - y).toInt = x.toInt - y.toInt := by
  rw [Int64.toInt_sub, Int.bmod_eq_of_le (by omega) (by omega)]
theorem i64_mul {x y : Int64} (h1 : -9223372036854775808 ≤ x.toInt * y.toInt) (h2 : x.toInt * y.toInt < 9223372036854775808) : (x * y).toInt = x.toInt * y.toInt := by
  rw [Int64.toInt_mul, Int.bmod_eq_of_le (by omega) (by omega)]
theorem tdiv_bd {a b M : Int} (h1 : -M ≤ a) (h2 : a ≤ M) : -M ≤ a.tdiv b ∧ a.tdiv b ≤ M := by
  obtain ⟨n, hn⟩ := Int.eq_nat_or_neg a
  obtain ⟨m, hm⟩ := Int.eq_nat_or_neg b
  have hnM : (n : Int) ≤ M := by rcases hn with rfl | rfl <;> omega
  have hd : (n / m : Nat) ≤ n := Nat.div_le_self _ _
  have hq : (n : Int).tdiv (m : Int) = ((n / m : Nat) : Int) := rfl
  have q0 : 0 ≤ (n : Int).tdiv (m : Int) := by rw [hq]; exact Int.natCast_nonneg _
  have q1 : (n : Int).tdiv (m : Int) ≤ n := by rw [hq]; exact Int.ofNat_le.mpr hd
  clear hq
  rcases hn with rfl | rfl <;> rcases hm with rfl | rfl <;> (try simp only [Int.neg_tdiv, Int.tdiv_neg, Int.neg_neg]) <;> constructor <;> omega
theorem and7 (x : Int64) : ∃ n, n < 8 ∧ x &&& 7 = lN n := by
  refine ⟨x.toBitVec.toNat % 8, Nat.mod_lt _ (by decide), ?_⟩
  apply Int64.toBitVec_inj.mp
  rw [Int64.toBitVec_and]
  apply BitVec.eq_of_toNat_eq
  rw [BitVec.toNat_and]
  show x.toBitVec.toNat &&& (2 ^ 3 - 1) = (BitVec.ofNat 64 _).toNat
  rw [Nat.and_two_pow_sub_one_eq_mod, BitVec.toNat_ofNat, Nat.mod_eq_of_lt (a := x.toBitVec.toNat % 8) (by omega)]
/-- an answer is a failure of a known kind, or far from one -/
theorem suF_cases {x : Int64} : suF x = -9000000000009 ∨ -9000000000000 < suF x := by
  by_cases h : -1000000000 ≤ x ∧ x ≤ 1000000000
  · rw [su_yes h]
    refine Or.inr ?_
    have h1 := h.1
    rw [Int64.le_iff_toInt_le] at h1
    rw [Int64.lt_iff_toInt_lt]
    have e1 : (-1000000000 : Int64).toInt = -1000000000 := rfl
    have e2 : (-9000000000000 : Int64).toInt = -9000000000000 := rfl
    omega
  · exact Or.inl (su_no h)
theorem anF_cases {v : St} {k j n : Nat} {a : Int32} (hi : Inv v) (hk : k < 8) (hj : j < mN v k) (hn : n < 8) (ha : aOk a) : (∃ c : Nat, 1 ≤ c ∧ c ≤ 12 ∧ anF v k j n a = -9000000000000 - lN c) ∨ -9000000000000 < anF v k j n a := by
  have hM := (hi.mk k hk).1
  obtain ⟨⟨a1, a2⟩, b1, b2⟩ := hi.as (k * 8 + n) (by omega)
  obtain ⟨s1, s2⟩ := hi.sm (k * 30 + j) (by omega)
  obtain ⟨ha1, ha2⟩ := ha
  rw [Int32.le_iff_toInt_le] at ha1 ha2
  have t1 : (-1000000 : Int32).toInt = -1000000 := rfl
  have t2 : (1000000 : Int32).toInt = 1000000 := rfl
  rw [t1] at ha1; rw [t2] at ha2
  have eA : ((zas v (k * 8 + n)).toInt64).toInt = (zas v (k * 8 + n)).toInt := Int32.toInt_toInt64 _
  have eB : ((zbs v (k * 8 + n)).toInt64).toInt = (zbs v (k * 8 + n)).toInt := Int32.toInt_toInt64 _
  have eS : ((zsm v (k * 30 + j)).toInt64).toInt = (zsm v (k * 30 + j)).toInt := Int32.toInt_toInt64 _
  have ea : (a.toInt64).toInt = a.toInt := Int32.toInt_toInt64 _
  have eF : (-9000000000000 : Int64).toInt = -9000000000000 := rfl
  have eJ : ((nI j).toInt64).toInt = (j : Int) := by rw [Int32.toInt_toInt64, nI_toInt (by omega)]
  rcases md8 hi (show k * 8 + n < 64 by omega) with e9 | e9 | e9 | e9 | e9 | e9 | e9 | e9
  · rw [anF_7 (Or.inl e9)]
    split
    · exact Or.inl ⟨12, by decide, by decide, by decide⟩
    · refine Or.inr ?_
      have := opC_le (v := v) (k := k) (mN v k)
      rw [Int64.lt_iff_toInt_lt, eF, Int32.toInt_toInt64, Int32.toInt_sub, nI_toInt (by omega), show (1 : Int32).toInt = 1 from rfl, Int.bmod_eq_of_le (by omega) (by omega)]
      omega
  · rw [anF_1 e9]
    refine Or.inr ?_
    have hm := mul_bd (a := (zas v (k * 8 + n)).toInt) (b := (j : Int)) (M := 1000) (N := 30) (by omega) (by omega) (by omega) (by omega) (by decide) (by decide)
    have e1 := i64_mul (x := (zas v (k * 8 + n)).toInt64) (y := (nI j).toInt64) (by rw [eA, eJ]; omega) (by rw [eA, eJ]; omega)
    rw [eA, eJ] at e1
    rw [Int64.lt_iff_toInt_lt, eF, i64_add (by rw [e1, eB]; omega) (by rw [e1, eB]; omega), e1, eB]
    omega
  · rw [anF_2 e9]
    exact suF_cases.elim (fun h => Or.inl ⟨9, by decide, by decide, by rw [h]; decide⟩) Or.inr
  · rw [anF_3 e9]
    refine Or.inr ?_
    have hm := mul_bd (a := (zsm v (k * 30 + j)).toInt) (b := (zas v (k * 8 + n)).toInt) (M := 1000000000) (N := 1000) (by omega) (by omega) (by omega) (by omega) (by decide) (by decide)
    have e1 := i64_mul (x := (zsm v (k * 30 + j)).toInt64) (y := (zas v (k * 8 + n)).toInt64) (by rw [eA, eS]; omega) (by rw [eA, eS]; omega)
    rw [eA, eS] at e1
    have e2 := i64_add (x := (zsm v (k * 30 + j)).toInt64 * (zas v (k * 8 + n)).toInt64) (y := (zbs v (k * 8 + n)).toInt64) (by rw [e1, eB]; omega) (by rw [e1, eB]; omega)
    rw [e1, eB] at e2
    rw [Int64.lt_iff_toInt_lt, eF, i64_add (by rw [e2, ea]; omega) (by rw [e2, ea]; omega), e2, ea]
    omega
  · rw [anF_4 e9]
    obtain ⟨c, hc, e⟩ := and7 (zas v (k * 8 + n)).toInt64
    exact Or.inl ⟨1 + c, by omega, by omega, by rw [e, show (1 : Int64) = lN 1 from rfl, lN_add]⟩
  · rw [anF_5 e9]
    split
    · exact Or.inl ⟨10, by decide, by decide, by decide⟩
    · refine Or.inr ?_
      have hm := tdiv_bd (a := (zsm v (k * 30 + j)).toInt) (b := a.toInt) (M := 1000000000) (by omega) (by omega)
      have e1 : ((zsm v (k * 30 + j)).toInt64 / a.toInt64).toInt = (zsm v (k * 30 + j)).toInt.tdiv a.toInt := by
        rw [Int64.toInt_div, eS, ea, Int.bmod_eq_of_le (by omega) (by omega)]
      rw [Int64.lt_iff_toInt_lt, eF, i64_add (by rw [e1, eB]; omega) (by rw [e1, eB]; omega), e1, eB]
      omega
  · rw [anF_6 e9]
    split
    · exact Or.inl ⟨11, by decide, by decide, by decide⟩
    · exact suF_cases.elim (fun h => Or.inl ⟨9, by decide, by decide, by rw [h]; decide⟩) Or.inr
  · rw [anF_7 (Or.inr e9)]
    split
    · exact Or.inl ⟨12, by decide, by decide, by decide⟩
    · refine Or.inr ?_
      have := opC_le (v := v) (k := k) (mN v k)
      rw [Int64.lt_iff_toInt_lt, eF, Int32.toInt_toInt64, Int32.toInt_sub, nI_toInt (by omega), show (1 : Int32).toInt = 1 from rfl, Int.bmod_eq_of_le (by omega) (by omega)]
      omega
theorem anF_le {v : St} {k j n : Nat} {a : Int32} (hi : Inv v) (hk : k < 8) (hj : j < mN v k) (hn : n < 8) (ha : aOk a) (h : ¬ -9000000000000 < anF v k j n a) : anF v k j n a < -9000000000000 ∧ ¬ (-9000000000000 - anF v k j n a).toInt32 = 0 := by
  rcases anF_cases hi hk hj hn ha with ⟨c, h1, h2, e⟩ | h3
  · rw [e]
    rcases (show c = 1 ∨ c = 2 ∨ c = 3 ∨ c = 4 ∨ c = 5 ∨ c = 6 ∨ c = 7 ∨ c = 8 ∨ c = 9 ∨ c = 10 ∨ c = 11 ∨ c = 12 by omega) with rfl | rfl | rfl | rfl | rfl | rfl | rfl | rfl | rfl | rfl | rfl | rfl <;> decide
  · exact absurd h3 h
