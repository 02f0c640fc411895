/-! how calls change the state -/
abbrev setV (v : St) (i : Nat) (m a b : Int32) : St := ubs (uas (umd v (upd (zmd v) i m)) (upd (zas v) i a)) (upd (zbs v) i b)
abbrev addS (v : St) (k : Nat) (a : Int32) : St := umk (uop (uab v (upd (zab v) (k * 30 + mN v k) a)) (upd (zop v) (k * 30 + mN v k) 1)) (upd (zmk v) k (nI (mN v k + 1)))
def lenT (f : Nat → Int32) (b : Nat) (p0 : Int64) (n : Nat) : Nat → Nat → Int32
  | 0 => f
  | i + 1 => upd (lenT f b p0 n i) (b + i) (byteF p0 (nI n) (nI i)).toInt8.toInt32
abbrev lenS (v : St) (g : Nat) (p0 : Int64) (n : Nat) : St := uln (utx v (lenT (ztx v) (g * 16 + lN9 v g) p0 n n)) (upd (zln v) g (nI (lN9 v g + n)))
abbrev telN (f : Nat → Int32) (b : Nat) (t x y z w : Int32) : Nat → Int32 := upd (upd (upd (upd (upd f b t) (b + 1) x) (b + 2) y) (b + 3) z) (b + 4) w
def telS (v : St) (t x y z w : Int32) : St := if 80 ≤ kN v then v else ukp (unu v (telN (znu v) (kN v * 5) t x y z w)) (nI (kN v + 1))
/-- the slot of the one above -/
def abG (v : St) (k j : Nat) : Nat := (zka v k).toNatClampNeg * 30 + (zab v (k * 30 + j)).toNatClampNeg
def carF (v : St) (k j n : Nat) (x : Int64) : St :=
  if zmd v (k * 8 + n) = 2 then usm v (upd (zsm v) (k * 30 + j) x.toInt32)
  else if zmd v (k * 8 + n) = 6 then (if zka v k = -1 then v else usm v (upd (zsm v) (abG v k j) x.toInt32))
  else if zmd v (k * 8 + n) = 7 then uop v (upd (zop v) (k * 30 + j) 0) else v
theorem lenT_s (f : Nat → Int32) (b : Nat) (p0 : Int64) (n i : Nat) : lenT f b p0 n (i + 1) = upd (lenT f b p0 n i) (b + i) (byteF p0 (nI n) (nI i)).toInt8.toInt32 := rfl
section CAR
variable {v : St} {k j n : Nat} {x : Int64}
theorem carF_2 (h : zmd v (k * 8 + n) = 2) : usm v (upd (zsm v) (k * 30 + j) x.toInt32) = carF v k j n x := by rw [carF, if_pos h]
theorem carF_7 (h : zmd v (k * 8 + n) = 7) : uop v (upd (zop v) (k * 30 + j) 0) = carF v k j n x := by rw [carF, if_neg (by rw [h]; decide), if_neg (by rw [h]; decide), if_pos h]
theorem carF_o (h : ¬ zmd v (k * 8 + n) = 2) (h6 : ¬ zmd v (k * 8 + n) = 6) (h7 : ¬ zmd v (k * 8 + n) = 7) : v = carF v k j n x := by rw [carF, if_neg h, if_neg h6, if_neg h7]
theorem carF_6 {u : St} {r : Int32} (hi : Inv v) (h : zmd v (k * 8 + n) = 6) (h1 : (r = -1 ∧ zka v k = -1) ∨ ∃ k2 j2, k2 < 8 ∧ j2 < mN v k2 ∧ zka v k = nI k2 ∧ zab v (k * 30 + j) = nI j2 ∧ r = nI (k2 * 30 + j2)) (h2 : (r = -1 ∧ u = v) ∨ ∃ g, g < 240 ∧ r = nI g ∧ u = usm v (upd (zsm v) g x.toInt32)) : u = carF v k j n x := by
  rw [carF, if_neg (by rw [h]; decide), if_pos h]
  rcases h1 with ⟨h1, h3⟩ | ⟨k2, j2, b1, b2, b3, b4, b5⟩
  · rw [if_pos h3]
    rcases h2 with ⟨-, h4⟩ | ⟨g, h4, h5, -⟩
    · exact h4
    · rw [h1] at h5
      exact absurd (show nI g < 0 by rw [← h5]; decide) (nI_pos (by omega))
  · have hM := (hi.mk k2 b1).1
    rw [if_neg (by rw [b3]; intro e; exact absurd (show nI k2 < 0 by rw [e]; decide) (nI_pos (by omega))), abG, b3, b4, nI_clamp (by omega), nI_clamp (by omega)]
    rcases h2 with ⟨h4, -⟩ | ⟨g, h4, h5, h6⟩
    · rw [b5] at h4
      exact absurd (show nI (k2 * 30 + j2) < 0 by rw [h4]; decide) (nI_pos (by omega))
    · rw [b5] at h5
      have e : k2 * 30 + j2 = g := (nI_eq (by omega) (by omega)).mp h5
      rw [h6, e]
end CAR
