/-! what each call answers: c is 0 when it returns, else which of its exceptions (in the order of the document's face) it throws -/
def wi3 (a : Int32) : Prop := -1000 ≤ a ∧ a ≤ 1000
theorem wi3_iff {a : Int32} : (-1000 ≤ a.toInt64 ∧ a.toInt64 ≤ 1000) ↔ wi3 a := by
  unfold wi3
  rw [Int64.le_iff_toInt_le, Int64.le_iff_toInt_le, Int32.le_iff_toInt_le, Int32.le_iff_toInt_le, Int32.toInt_toInt64]
  exact Iff.rfl
def ynK (y : Int32) : Prop := y = -1 ∨ isK y
def spUnder (v : St) (x y : Int32) (c : Nat) (u : St) : Prop :=
  (c = 1 ∧ u = v ∧ ¬ (isK x ∧ ynK y)) ∨ (c = 2 ∧ u = v ∧ ∃ k, k < 8 ∧ x = nI k ∧ ynK y ∧ (0 < mN v k ∨ reaU v y x)) ∨
  (c = 0 ∧ ∃ k, k < 8 ∧ x = nI k ∧ ynK y ∧ ¬ (0 < mN v k ∨ reaU v y x) ∧ u = uka v (upd (zka v) k y))
def okAb (v : St) (k : Nat) (y : Int32) : Prop := ∀ k2 j2, k2 < 8 → j2 < mN v k2 → zka v k = nI k2 → y = nI j2 → zop v (k2 * 30 + j2) ≠ 0
def spMake (v : St) (x y : Int32) (c : Nat) (r : Int32) (u : St) : Prop :=
  (c = 1 ∧ u = v ∧ ¬ ∃ k, k < 8 ∧ x = nI k ∧ canA v k y) ∨ (c = 2 ∧ u = v ∧ ∃ k, k < 8 ∧ x = nI k ∧ canA v k y ∧ ¬ okAb v k y) ∨
  (c = 3 ∧ u = v ∧ ∃ k, k < 8 ∧ x = nI k ∧ canA v k y ∧ okAb v k y ∧ ¬ mN v k < 30) ∨
  (c = 0 ∧ ∃ k, k < 8 ∧ x = nI k ∧ canA v k y ∧ okAb v k y ∧ mN v k < 30 ∧ r = nI (mN v k) ∧ u = addS v k y)
def spVerb (v : St) (x y z a b : Int32) (c : Nat) (u : St) : Prop :=
  (c = 1 ∧ u = v ∧ ¬ (isK x ∧ isK y ∧ isK z)) ∨ (c = 2 ∧ u = v ∧ (isK x ∧ isK y ∧ isK z) ∧ ¬ (wi3 a ∧ wi3 b)) ∨
  (c = 0 ∧ (wi3 a ∧ wi3 b) ∧ ∃ k n, k < 8 ∧ n < 8 ∧ x = nI k ∧ y = nI n ∧ isK z ∧ u = setV v (k * 8 + n) z a b)
/-- the state when a turn has begun -/
abbrev trn (v : St) : St := utn v (ztn v + 1)
def spCall (v : St) (x y z a : Int32) (c : Nat) (r : Int64) (u : St) : Prop :=
  (c = 1 ∧ ¬ okC v x y z ∧ u = telS (trn v) (ztn v + 1) x y z 13) ∨ (c = 2 ∧ okC v x y z ∧ ¬ aOk a ∧ u = telS (trn v) (ztn v + 1) x y z 14) ∨
  ∃ k j n, k < 8 ∧ j < mN v k ∧ n < 8 ∧ x = nI k ∧ y = nI j ∧ z = nI n ∧ zmd v (k * 8 + n) ≠ 0 ∧ aOk a ∧
    ((c = 3 ∧ zop v (k * 30 + j) = 0 ∧ u = telS (trn v) (ztn v + 1) x y z 15) ∨
     (c = 0 ∧ zop v (k * 30 + j) ≠ 0 ∧ r = anF v k j n a ∧ ((r < -9000000000000 ∧ u = telS (trn v) (ztn v + 1) x y z (-9000000000000 - r).toInt32) ∨ (¬ r < -9000000000000 ∧ u = carF (trn v) k j n r))))
def spSim (v : St) (x y z a : Int32) (c : Nat) (r : Int64) (u : St) : Prop :=
  u = v ∧ ((c = 1 ∧ ¬ okC v x y z) ∨ (c = 2 ∧ okC v x y z ∧ ¬ aOk a) ∨
  ∃ k j n, k < 8 ∧ j < mN v k ∧ n < 8 ∧ x = nI k ∧ y = nI j ∧ z = nI n ∧ zmd v (k * 8 + n) ≠ 0 ∧ aOk a ∧ ((c = 3 ∧ zop v (k * 30 + j) = 0) ∨ (c = 0 ∧ zop v (k * 30 + j) ≠ 0 ∧ r = anF v k j n a)))
def okN (n : Int32) : Prop := ∃ w, 1 ≤ w ∧ w ≤ 8 ∧ n = nI w
def spText (v : St) (x y : Int32) (p0 : Int64) (n : Int32) (c : Nat) (r : Int32) (u : St) : Prop :=
  (c = 1 ∧ u = v ∧ ¬ isS v x y) ∨ (c = 2 ∧ u = v ∧ isS v x y ∧ ¬ okN n) ∨
  ∃ k j w, k < 8 ∧ j < mN v k ∧ x = nI k ∧ y = nI j ∧ (1 ≤ w ∧ w ≤ 8) ∧ n = nI w ∧
    ((c = 3 ∧ u = v ∧ zop v (k * 30 + j) = 0) ∨ (c = 4 ∧ u = v ∧ zop v (k * 30 + j) ≠ 0 ∧ ¬ lN9 v (k * 30 + j) + w ≤ 16) ∨
     (c = 0 ∧ zop v (k * 30 + j) ≠ 0 ∧ lN9 v (k * 30 + j) + w ≤ 16 ∧ r = nI (lN9 v (k * 30 + j) + w) ∧ u = lenS v (k * 30 + j) p0 w))
def spTextAt (v : St) (x y i : Int32) (c : Nat) (r : Int32) (u : St) : Prop :=
  u = v ∧ ((c = 1 ∧ ¬ isS v x y) ∨ (c = 2 ∧ isS v x y ∧ i < 0) ∨ (c = 0 ∧ ∃ k j t, k < 8 ∧ j < mN v k ∧ x = nI k ∧ y = nI j ∧ t < 2 ^ 31 ∧ i = nI t ∧ ((t < lN9 v (k * 30 + j) ∧ r = ztx v ((k * 30 + j) * 16 + t) &&& 255) ∨ (¬ t < lN9 v (k * 30 + j) ∧ r = -1))))
def fOK (v : St) (k : Nat) (p0 : Int64) (n j : Nat) : Prop := zop v (k * 30 + j) ≠ 0 ∧ hasJ v (k * 30 + j) p0 n
def ok08 (n : Int32) : Prop := ∃ w, w ≤ 8 ∧ n = nI w
def spFind (v : St) (x : Int32) (p0 : Int64) (n : Int32) (c : Nat) (r : Int32) (u : St) : Prop :=
  u = v ∧ ((c = 1 ∧ ¬ isK x) ∨ (c = 2 ∧ isK x ∧ ¬ ok08 n) ∨ (c = 0 ∧ ∃ k w, k < 8 ∧ x = nI k ∧ w ≤ 8 ∧ n = nI w ∧ ((∃ j, j < mN v k ∧ fOK v k p0 w j ∧ (∀ i, i < j → ¬ fOK v k p0 w i) ∧ r = nI j) ∨ ((∀ i, i < mN v k → ¬ fOK v k p0 w i) ∧ r = -1))))
def ok03 (w : Int32) : Prop := w = 0 ∨ w = 1 ∨ w = 2 ∨ w = 3
def spSubj (v : St) (x y w : Int32) (c : Nat) (r : Int32) (u : St) : Prop :=
  u = v ∧ ((c = 1 ∧ ¬ (isS v x y ∧ ok03 w)) ∨ (c = 0 ∧ ∃ k j, k < 8 ∧ j < mN v k ∧ x = nI k ∧ y = nI j ∧ ((w = 0 ∧ r = zab v (k * 30 + j)) ∨ (w = 1 ∧ r = if zop v (k * 30 + j) = 0 then 0 else 1) ∨ (w = 2 ∧ r = zsm v (k * 30 + j)) ∨ (w = 3 ∧ r = nI (onC v x y 8)))))
def okR (v : St) (i w : Int32) : Prop := ∃ t z, t < kN v ∧ z < 5 ∧ i = nI t ∧ w = nI z
def spRow (v : St) (i w : Int32) (c : Nat) (r : Int32) (u : St) : Prop :=
  u = v ∧ ((c = 1 ∧ ¬ okR v i w) ∨ (c = 0 ∧ ∃ t z, t < kN v ∧ z < 5 ∧ i = nI t ∧ w = nI z ∧ r = znu v (t * 5 + z)))
def okT (v : St) (n : Int32) : Prop := 1 ≤ n.toInt ∧ n.toInt ≤ 100000 ∧ (zck v).toInt + n.toInt ≤ 1000000000
def spTick (v : St) (n : Int32) (c : Nat) (r : Int32) (u : St) : Prop :=
  (c = 1 ∧ u = v ∧ ¬ okT v n) ∨ (c = 0 ∧ okT v n ∧ r = zck v + n ∧ u = uck v (zck v + n))
def spCount (v : St) (w : Int32) (c : Nat) (r : Int32) (u : St) : Prop :=
  u = v ∧ ((c = 1 ∧ ¬ ok03 w) ∨ (c = 0 ∧ ((w = 0 ∧ r = ztn v) ∨ (w = 1 ∧ r = zkp v) ∨ (w = 2 ∧ r = nI (mkS v 8)) ∨ (w = 3 ∧ r = nI (opS v 8)))))
/-! small rows for them -/
theorem pos_of_lt {n : Nat} (h : 0 < nI n) : 0 < n := Nat.pos_of_ne_zero (fun e => by rw [e] at h; exact absurd h (by decide))
theorem npos_of_nlt {n : Nat} (hn : n < 2 ^ 31) (h : ¬ 0 < nI n) : ¬ 0 < n := fun q => h (nI_lt (a := 0) q hn)
theorem mk_no {v : St} {k : Nat} {y : Int32} (hk : k < 8) (h : ¬ canA v k y) : ¬ ∃ k2, k2 < 8 ∧ nI k = nI k2 ∧ canA v k2 y := by
  rintro ⟨k2, h2, e, hc⟩
  have e2 : k = k2 := (nI_eq (by omega) (by omega)).mp e
  subst e2
  exact h hc
theorem okAb_no {v : St} {k : Nat} {y : Int32} (h : ¬ isS v (zka v k) y) : okAb v k y := fun k2 j2 a b c d => absurd ⟨k2, j2, a, b, c, d⟩ h
theorem okAb_of {v : St} {k k2 j2 : Nat} {y : Int32} (hi : Inv v) (h1 : k2 < 8) (h2 : j2 < mN v k2) (e1 : zka v k = nI k2) (e2 : y = nI j2) (h : ¬ zop v (k2 * 30 + j2) = 0) : okAb v k y := by
  intro k3 j3 a b c d
  have q1 : k2 = k3 := (nI_eq (by omega) (by omega)).mp (e1.symm.trans c)
  subst q1
  have hM := (hi.mk k2 h1).1
  have q2 : j2 = j3 := (nI_eq (by omega) (by omega)).mp (e2.symm.trans d)
  subst q2
  exact h
theorem k8_lt {x : Int32} (h1 : ¬ x < 0) (h2 : x < 8) : isK x := k8_of h1 h2
theorem k8_nlt {x : Int32} (h2 : ¬ x < 8) : ¬ isK x := k8_no (Or.inr (Int32.not_lt.mp h2))
theorem k8_neg {x : Int32} (h2 : x < 0) : ¬ isK x := k8_no (Or.inl h2)
theorem okN_of {n : Int32} (h1 : ¬ n < 1) (h2 : n ≤ 8) : okN n := by
  rw [Int32.lt_iff_toInt_lt] at h1
  obtain ⟨w, hw, rfl⟩ := nI_of (x := n) (by rw [Int32.lt_iff_toInt_lt]; have e1 : (1 : Int32).toInt = 1 := rfl; have e0 : (0 : Int32).toInt = 0 := rfl; rw [e1] at h1; rw [e0]; omega)
  have := (nI_leI hw (by decide)).mp (show nI w ≤ nI 8 from h2)
  rw [nI_toInt hw] at h1
  have e1 : (1 : Int32).toInt = 1 := rfl
  rw [e1] at h1
  exact ⟨w, by omega, this, rfl⟩
theorem okN_no1 {n : Int32} (h : n < 1) : ¬ okN n := by
  rintro ⟨w, h1, h2, rfl⟩
  exact absurd ((nI_ltI (by omega) (by decide)).mp (show nI w < nI 1 from h)) (by omega)
theorem okN_no2 {n : Int32} (h : ¬ n ≤ 8) : ¬ okN n := by
  rintro ⟨w, h1, h2, rfl⟩
  exact h (nI_le (b := 8) h2 (by decide))
theorem ok08_of {n : Int32} (h1 : ¬ n < 0) (h2 : n ≤ 8) : ok08 n := by
  obtain ⟨w, hw, rfl⟩ := nI_of h1
  exact ⟨w, (nI_leI hw (by decide)).mp (show nI w ≤ nI 8 from h2), rfl⟩
theorem ok08_no1 {n : Int32} (h : n < 0) : ¬ ok08 n := by
  rintro ⟨w, h2, rfl⟩
  exact nI_pos (by omega) h
theorem ok08_no2 {n : Int32} (h : ¬ n ≤ 8) : ¬ ok08 n := by
  rintro ⟨w, h2, rfl⟩
  exact h (nI_le (b := 8) h2 (by decide))
theorem ok03_of {n : Int32} (h1 : ¬ n < 0) (h2 : n ≤ 3) : ok03 n := by
  obtain ⟨w, hw, rfl⟩ := nI_of h1
  have := (nI_leI hw (by decide)).mp (show nI w ≤ nI 3 from h2)
  unfold ok03
  rcases (show w = 0 ∨ w = 1 ∨ w = 2 ∨ w = 3 by omega) with rfl | rfl | rfl | rfl <;> decide
theorem ok03_no1 {n : Int32} (h : n < 0) : ¬ ok03 n := by
  rintro (rfl | rfl | rfl | rfl) <;> revert h <;> decide
theorem ok03_no2 {n : Int32} (h : ¬ n ≤ 3) : ¬ ok03 n := by
  rintro (rfl | rfl | rfl | rfl) <;> revert h <;> decide
theorem ix_of {i : Int32} {n : Nat} (h1 : ¬ i < 0) (h2 : ¬ nI n ≤ i) : ∃ t, t < n ∧ i = nI t := by
  obtain ⟨w, hw, rfl⟩ := nI_of h1
  exact ⟨w, nlt_of hw h2, rfl⟩
theorem ix5_of {i : Int32} (h1 : ¬ i < 0) (h2 : i < 5) : ∃ t, t < 5 ∧ i = nI t := by
  obtain ⟨w, hw, rfl⟩ := nI_of h1
  exact ⟨w, (nI_ltI hw (by decide)).mp (show nI w < nI 5 from h2), rfl⟩
theorem mul5a_nI (k j : Nat) : nI k * 5 + nI j = nI (k * 5 + j) := by rw [mul5_nI, nI_add]
theorem okT_of {v : St} {n : Int32} (hi : Inv v) (h1 : ¬ n < 1) (h2 : ¬ 100000 < n) (h3 : n ≤ 1000000000 - zck v) : okT v n := by
  obtain ⟨c1, c2⟩ := hi.ck
  rw [Int32.lt_iff_toInt_lt] at h1 h2
  rw [Int32.le_iff_toInt_le, Int32.toInt_sub] at h3
  have e1 : (1 : Int32).toInt = 1 := rfl
  have e2 : (100000 : Int32).toInt = 100000 := rfl
  have e3 : (1000000000 : Int32).toInt = 1000000000 := rfl
  rw [e1] at h1; rw [e2] at h2; rw [e3] at h3
  rw [Int.bmod_eq_of_le (by omega) (by omega)] at h3
  exact ⟨by omega, by omega, by omega⟩
theorem okT_no1 {v : St} {n : Int32} (h : n < 1) : ¬ okT v n := by
  rw [Int32.lt_iff_toInt_lt] at h
  have e1 : (1 : Int32).toInt = 1 := rfl
  rw [e1] at h
  rintro ⟨a, -, -⟩; omega
theorem okT_no2 {v : St} {n : Int32} (h : 100000 < n) : ¬ okT v n := by
  rw [Int32.lt_iff_toInt_lt] at h
  have e1 : (100000 : Int32).toInt = 100000 := rfl
  rw [e1] at h
  rintro ⟨-, a, -⟩; omega
theorem okT_no3 {v : St} {n : Int32} (hi : Inv v) (h : ¬ n ≤ 1000000000 - zck v) : ¬ okT v n := by
  obtain ⟨c1, c2⟩ := hi.ck
  rw [Int32.le_iff_toInt_le, Int32.toInt_sub] at h
  have e3 : (1000000000 : Int32).toInt = 1000000000 := rfl
  rw [e3, Int.bmod_eq_of_le (by omega) (by omega)] at h
  rintro ⟨-, -, a⟩; omega
theorem w03 (w : Int32) : w = 0 ∨ w = 1 ∨ w = 2 ∨ w = 3 ∨ (¬ ok03 w ∧ (w.toInt < 0 ∨ 3 < w.toInt)) := by
  by_cases h0 : w = 0
  · exact Or.inl h0
  by_cases h1 : w = 1
  · exact Or.inr (Or.inl h1)
  by_cases h2 : w = 2
  · exact Or.inr (Or.inr (Or.inl h2))
  by_cases h3 : w = 3
  · exact Or.inr (Or.inr (Or.inr (Or.inl h3)))
  refine Or.inr (Or.inr (Or.inr (Or.inr ⟨fun h => h.elim h0 (fun h => h.elim h1 (fun h => h.elim h2 h3)), ?_⟩)))
  have a0 := lv_neT h0 (a := 0) rfl
  have a1 := lv_neT h1 (a := 1) rfl
  have a2 := lv_neT h2 (a := 2) rfl
  have a3 := lv_neT h3 (a := 3) rfl
  omega
/-! refuse(): throws, or returns; the caller's cells stay -/
def rfE (x : Int32) (E : String) : Prop := (x = 13 ∧ E = "java/lang/IllegalArgumentException") ∨ (x = 14 ∧ E = "java/lang/IndexOutOfBoundsException") ∨ (x = 15 ∧ E = "java/lang/IllegalStateException")
section TXS
variable {p : Program} {l : Launch} {e : Env} {R : Room} {s : State} {m : MethodId} {args : Array Value} {below : List Frame} {meth : Method} {c : Code} {H : Heap} {locs : List Loc} {cells slots : Nat} {Q : State → Prop}
variable {own : String} {idx maxL nL pc : Nat} {y : MethodName} {bytes cc : ByteArray} {ret : Option FieldType} {rm : Room} {c0 : Cond} {rest st0 : List Value} {ls : Array Slot}
variable {D : va_G} {ws : va_W} {A : Nat → Prop} {x : Int32}
theorem txS_rf (S : CallFix p m c cc nL s args (c0 :: CW) own) (hM : vx_Met l y (Cond.code y bytes maxL ret :: CW) rm (va_Pc [.int x] (fun U => U.heap.size = H.size ∧ XcC (fun q => H.size ≤ q) U U.heap)) (va_Qv (fun _ : Unit => ¬ x = 13 ∧ ¬ x = 14 ∧ ¬ x = 15) (fun _ _ => True) (fun q => H.size ≤ q)) (vx_X (fun _ : Unit => True) (fun E _ _ => rfE x E) (fun q => H.size ≤ q)) 1 6 (fun _ => False)) (h0 : Cond.code y bytes maxL ret ∈ lw_tbl) (h1 : Cond.methodLink own idx y ∈ lw_tbl) (h2 : Cond.static y ∈ lw_tbl) (h3 : Cond.initialized y.cls ∈ lw_tbl) (hd : yD y 1)
    (hR : (rm.cells = 1 ∧ rm.slots = 6) ∧ rm.frames + 1 ≤ R.frames ∧ 8 + (maxL + 11) + rm.locals ≤ R.locals) (hcap : cells + 1 ≤ R.cells ∧ slots + 6 ≤ R.slots) (hP : va_P D vwCl ws H) (hS : va_S A s.heap H locs) (hA : ∀ q, s.heap.size ≤ q → A q) (hX : XcC A s s.heap) (hsz : ls.size = nL) (hst : st0 = .int x :: rest) (hW : (rest.map fun v => v.category).sum ≤ 8) (hdg : decode cc pc = .ok (.invokestatic idx, 3))
    (kx : ∀ (E : String) (ce : Cell) (q9 : Addr) (H1 : Heap) (locs1 : List Loc), rfE x E → va_P D vwCl ws H1 → va_S A s.heap H1 locs1 → H1[q9]? = some ce → ce.vm = .none → s.vm.findClass E = some ce.cls → vx_W p l e R s m args below meth c H1 locs1 (cells + 1) (slots + 6) Q (F0 m pc ls rest) q9)
    (kk : ∀ (H1 : Heap) (locs1 : List Loc), (¬ x = 13 ∧ ¬ x = 14 ∧ ¬ x = 15) → va_P D vwCl ws H1 → va_S A s.heap H1 locs1 → W p l e R s m args below meth c H1 locs1 (cells + 1) (slots + 6) Q (F0 m (pc + 3) ls rest)) : W p l e R s m args below meth c H locs cells slots Q (F0 m pc ls st0) := by
  have hAA : ∀ q, H.size ≤ q → A q := fun q h => hA q (Nat.le_trans hS.1 h)
  refine vx_callv (vx_runS S hM (va_cwS 1 S.2.2.2.2 (cw_goodS h0 rfl h1 h2 h3) rfl hR.1.1 hR.1.2 hd hR.2) ⟨fun _ U _ _ q => ⟨q.1, q.2.1, q.2.2.calling⟩, fun U hU hW9 => ⟨rfl, by rw [hU], hX.to hS hAA hU hW9⟩⟩ rfl rfl hsz hst (lv_room hW) hdg hcap) hS (fun q _ h => hAA q h) (fun q h => h.elim) (fun q _ h => hAA q h) ?_ ?_
  · intro E ce q9 u t H1 locs1 ht ha _ hE hz hk hS1 hce hcv hcl
    exact kx E ce q9 H1 locs1 hE (hP.kept (fun k q hq => hk q.1 (hP k q hq).lt (Nat.not_le.mpr (hP k q hq).lt))) hS1 hce hcv hcl
  · intro u t H1 locs1 ht ha hw _ hz hk hS1
    exact kk H1 locs1 hw (hP.kept (fun k q hq => hk q.1 (hP k q hq).lt (Nat.not_le.mpr (hP k q hq).lt))) hS1
end TXS
