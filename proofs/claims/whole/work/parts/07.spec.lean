/-! the sum's step; a byte of packed ones -/
def stirF (s v : Int32) : Int32 := ((s ^^^ v) <<< ((5 : Int32) &&& 31) ||| ((s ^^^ v).toUInt32 >>> ((27 : Int32).toUInt32 &&& Int32.toUInt32 31)).toInt32) * (-2048144789)
def byteF (p : Int64) (n i : Int32) : Int32 := ((p.toUInt64 >>> ((8 * (n - 1 - i)).toInt64.toUInt64 &&& Int64.toUInt64 63)).toInt64).toInt32 &&& 255
/-- a loop that only reads, with what is known of the turn -/
theorem rd_loopI {p : Program} {l : Launch} {e : Env} {R : Room} {s : State} {m : MethodId} {args : Array Value} {below : List Frame} {meth : Method} {c : Code} {H : Heap} {locs : List Loc} {cells slots : Nat} {Q : State → Prop} {nL : Nat} (N : Nat) (I : Nat → Prop) (LV : Nat → List (Nat × Value)) {head : Nat} {st : List Value}
    (step : ∀ (i : Nat) (ls : Array Slot), i ≤ N → I i → lv_has ls nL (LV i) → (∀ ls' : Array Slot, i < N → I (i + 1) → lv_has ls' nL (LV (i + 1)) → W p l e R s m args below meth c H locs cells slots Q (F0 m head ls' st)) → W p l e R s m args below meth c H locs cells slots Q (F0 m head ls st)) :
    ∀ ls : Array Slot, I 0 → lv_has ls nL (LV 0) → W p l e R s m args below meth c H locs cells slots Q (F0 m head ls st) := by
  have key : ∀ (n i : Nat) (ls : Array Slot), i ≤ N → N - i < n → I i → lv_has ls nL (LV i) → W p l e R s m args below meth c H locs cells slots Q (F0 m head ls st) := by
    intro n
    induction n with
    | zero => intro i ls _ h _ _; exact absurd h (Nat.not_lt_zero _)
    | succ n ih => exact fun i ls hi hn hI hl => step i ls hi hI hl (fun ls' hlt hI' hl' => ih (i + 1) ls' hlt (by omega) hI' hl')
  exact fun ls h0 hl => key (N + 1) 0 ls (Nat.zero_le _) (by omega) h0 hl
/-! longs compared -/
theorem lcmp_lt {x y : Int64} : lg_cmp x y < 0 ↔ x < y := by
  unfold lg_cmp
  by_cases h1 : y < x
  · rw [if_pos h1]; exact ⟨fun h => absurd h (by decide), fun h => absurd h (Int64.lt_asymm h1)⟩
  · rw [if_neg h1]
    by_cases h2 : x = y
    · rw [if_pos h2, h2]; exact ⟨fun h => absurd h (by decide), fun h => absurd h (Int64.lt_irrefl)⟩
    · rw [if_neg h2]; exact ⟨fun _ => Int64.lt_of_le_of_ne (Int64.not_lt.mp h1) h2, fun _ => by decide⟩
theorem lcmp_gt {x y : Int64} : 0 < lg_cmp x y ↔ y < x := by
  unfold lg_cmp
  by_cases h1 : y < x
  · rw [if_pos h1]; exact ⟨fun _ => h1, fun _ => by decide⟩
  · rw [if_neg h1]
    by_cases h2 : x = y
    · rw [if_pos h2]; exact ⟨fun h => absurd h (by decide), fun h => absurd h h1⟩
    · rw [if_neg h2]; exact ⟨fun h => absurd h (by decide), fun h => absurd h h1⟩
theorem lcmp_eq {x y : Int64} : lg_cmp x y = 0 ↔ x = y := by
  unfold lg_cmp
  by_cases h1 : y < x
  · rw [if_pos h1]; exact ⟨fun h => absurd h (by decide), fun h => by subst h; exact absurd h1 Int64.lt_irrefl⟩
  · rw [if_neg h1]
    by_cases h2 : x = y
    · rw [if_pos h2]; exact ⟨fun _ => h2, fun _ => rfl⟩
    · rw [if_neg h2]; exact ⟨fun h => absurd h (by decide), fun h => absurd h h2⟩
theorem lcmp_ge {x y : Int64} : 0 ≤ lg_cmp x y ↔ y ≤ x := by
  rw [← Int32.not_lt, lcmp_lt, Int64.not_lt]
theorem lcmp_le {x y : Int64} : lg_cmp x y ≤ 0 ↔ x ≤ y := by
  rw [← Int32.not_lt, lcmp_gt, Int64.not_lt]
/-- how many of a kind's first n are open; of these, under a given one; of all kinds under a kind -/
def opC (v : St) (k : Nat) : Nat → Nat
  | 0 => 0
  | n + 1 => opC v k n + (if zop v (k * 30 + n) = 0 then 0 else 1)
def unC (v : St) (k : Nat) (a : Int32) : Nat → Nat
  | 0 => 0
  | n + 1 => unC v k a n + (if zop v (k * 30 + n) = 0 then 0 else if zab v (k * 30 + n) = a then 1 else 0)
def onC (v : St) (x a : Int32) : Nat → Nat
  | 0 => 0
  | n + 1 => onC v x a n + (if zka v n = x then unC v n a (mN v n) else 0)
/-- the chain of the kinds above x -/
def chA (f : Nat → Int32) (x : Int32) : Nat → Int32
  | 0 => x
  | n + 1 => f (chA f x n).toNatClampNeg
theorem slot_nI (k j : Nat) : nI k * 30 + nI j = nI (k * 30 + j) := by
  rw [show (30 : Int32) = nI 30 from rfl, pk_mul, nI_add]
theorem mul8_nI (k j : Nat) : nI k * 8 + nI j = nI (k * 8 + j) := by
  rw [show (8 : Int32) = nI 8 from rfl, pk_mul, nI_add]
theorem mul16_nI (k j : Nat) : nI k * 16 + nI j = nI (k * 16 + j) := by
  rw [show (16 : Int32) = nI 16 from rfl, pk_mul, nI_add]
