/-! rows for what the reference writes -/
theorem reaU_m1 {v : St} {k : Nat} (hk : k < 8) : ¬ reaU v (-1) (nI k) := by
  rintro ⟨n, h1, h2⟩
  cases n with
  | zero => exact absurd (show nI k < 0 by rw [← h1]; show (-1 : Int32) < 0; decide) (nI_pos (by omega))
  | succ n => exact h2 0 (by omega) rfl
theorem ka_neg {v : St} {k : Nat} (hi : Inv v) (hk : k < 8) (h : zka v k < 0) : zka v k = -1 := (hi.ka k hk).resolve_right (k8_neg h)
theorem nneg_1 {x : Int32} (h : ¬ x < 0) : ¬ x = -1 := fun e => h (by rw [e]; decide)
theorem lt30 {v : St} {k : Nat} (hi : Inv v) (hk : k < 8) (h : ¬ nI (mN v k) = 30) : mN v k < 30 := by
  have := (hi.mk k hk).1
  rcases Nat.lt_or_ge (mN v k) 30 with q | q
  · exact q
  · exact absurd (by rw [show mN v k = 30 by omega]; rfl) h
theorem nlt30 {v : St} {k : Nat} (h : nI (mN v k) = 30) (hk : mN v k ≤ 30) : ¬ mN v k < 30 := by
  have := (nI_eq (a := mN v k) (b := 30) (by omega) (by decide)).mp h
  omega
theorem an4 (x : Int64) : -9000000000001 - x = -9000000000000 - (1 + x) := by
  apply Int64.toBitVec_inj.mp
  rw [Int64.toBitVec_sub, Int64.toBitVec_sub, Int64.toBitVec_add, show (-9000000000001 : Int64).toBitVec = (-9000000000000 : Int64).toBitVec - (1 : Int64).toBitVec from by decide]
  generalize (-9000000000000 : Int64).toBitVec = a
  generalize (1 : Int64).toBitVec = b
  generalize x.toBitVec = c
  bv_omega
/-- what change a worked out answer notes -/
def notd (v : St) (k j n : Nat) (a : Int32) (ch : Int32) (cd : Int64) : Prop :=
  (ch = -1 ∧ ((¬ zmd v (k * 8 + n) = 2 ∧ ¬ zmd v (k * 8 + n) = 6) ∨ anF v k j n a < -9000000000000)) ∨
  ∃ g, g < 240 ∧ ch = nI g ∧ cd = anF v k j n a ∧ (-1000000000 ≤ anF v k j n a ∧ anF v k j n a ≤ 1000000000) ∧ ((zmd v (k * 8 + n) = 2 ∧ g = k * 30 + j) ∨ (zmd v (k * 8 + n) = 6 ∧ ¬ zka v k = -1 ∧ g = abG v k j))
section ND
variable {v : St} {k j n : Nat} {a : Int32} {ch : Int32} {cd : Int64}
theorem nd_o {m0 : Int32} (e : zmd v (k * 8 + n) = m0) (h2 : ¬ m0 = 2) (h6 : ¬ m0 = 6) : notd v k j n a (-1) cd := Or.inl ⟨rfl, Or.inl ⟨by rw [e]; exact h2, by rw [e]; exact h6⟩⟩
theorem su_yes {x : Int64} (h : -1000000000 ≤ x ∧ x ≤ 1000000000) : suF x = x := by rw [suF, if_pos h]
theorem su_no {x : Int64} (h : ¬ (-1000000000 ≤ x ∧ x ≤ 1000000000)) : suF x = -9000000000009 := by rw [suF, if_neg h]
theorem an6_r (hi : Inv v) {k2 j2 : Nat} (h0 : zmd v (k * 8 + n) = 6) (h1 : k2 < 8) (h2 : j2 < mN v k2) (e2 : zka v k = nI k2) (e3 : zab v (k * 30 + j) = nI j2) : anF v k j n a = suF ((zsm v (k2 * 30 + j2)).toInt64 + a.toInt64) ∧ abG v k j = k2 * 30 + j2 ∧ ¬ zka v k = -1 := by
  have hM := (hi.mk k2 h1).1
  have hne : ¬ zka v k = -1 := by rw [e2]; intro e; exact absurd (show nI k2 < 0 by rw [e]; decide) (nI_pos (by omega))
  rw [anF_6 h0, if_neg hne, abG, e2, e3, nI_clamp (by omega), nI_clamp (by omega)]
  exact ⟨rfl, rfl, by rw [← e2]; exact hne⟩
end ND
theorem tl_0 {v : St} {x y z : Int32} : (if (0 : Int32) = 0 then trn v else telS (trn v) (ztn v + 1) x y z 0) = trn v := if_pos rfl
theorem aOk_in {a : Int32} (h : -1000000 ≤ a ∧ a ≤ 1000000) : aOk a := h
theorem tl_1 {v : St} {x y z f : Int32} (hf : ¬ f = 0) (h : 80 ≤ kN v) : trn v = (if f = 0 then trn v else telS (trn v) (ztn v + 1) x y z f) := by rw [if_neg hf, telS, if_pos (show 80 ≤ kN (trn v) from h)]
theorem tl_2 {v : St} {x y z f : Int32} (hf : ¬ f = 0) (h : ¬ 80 ≤ kN v) : ukp (unu (trn v) (telN (znu v) (kN v * 5) (ztn v + 1) x y z f)) (nI (kN v + 1)) = (if f = 0 then trn v else telS (trn v) (ztn v + 1) x y z f) := by
  rw [if_neg hf, telS, if_neg (show ¬ 80 ≤ kN (trn v) from h)]
  rfl
