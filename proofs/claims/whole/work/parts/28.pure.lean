/-! what calls answer is one answer; what holds of a state holds of the next -/
theorem kq {a b : Nat} (ha : a < 8) (hb : b < 8) (h : nI a = nI b) : a = b := (nI_eq (by omega) (by omega)).mp h
theorem exK {k : Nat} (hk : k < 8) {P : Nat → Prop} : (∃ k', k' < 8 ∧ nI k = nI k' ∧ P k') ↔ P k := ⟨fun ⟨k', h1, h2, h3⟩ => by rw [kq hk h1 h2]; exact h3, fun h => ⟨k, hk, rfl, h⟩⟩
theorem exJ {v : St} (hi : Inv v) {k j : Nat} (hk : k < 8) (hj : j < mN v k) {P : Nat → Nat → Prop} : (∃ k' j', k' < 8 ∧ j' < mN v k' ∧ nI k = nI k' ∧ nI j = nI j' ∧ P k' j') ↔ P k j := by
  constructor
  · rintro ⟨k', j', h1, h2, h3, h4, h5⟩
    obtain rfl := kq hk h1 h3
    have := (hi.mk k hk).1
    obtain rfl : j = j' := (nI_eq (by omega) (by omega)).mp h4
    exact h5
  · exact fun h => ⟨k, j, hk, hj, rfl, rfl, h⟩
theorem det_under {v : St} {x y : Int32} {c c' : Nat} {u u' : St} (h : spUnder v x y c u) (h' : spUnder v x y c' u') : c = c' ∧ u = u' := by
  rcases h with ⟨rfl, rfl, a⟩ | ⟨rfl, rfl, k, hk, rfl, b, g⟩ | ⟨rfl, k, hk, rfl, b, g, rfl⟩ <;> rcases h' with ⟨rfl, e, a'⟩ | ⟨rfl, e, k', hk', e', b', g'⟩ | ⟨rfl, k', hk', e', b', g', e⟩
  · exact ⟨rfl, e.symm⟩
  · exact absurd ⟨⟨k', hk', e'⟩, b'⟩ a
  · exact absurd ⟨⟨k', hk', e'⟩, b'⟩ a
  · exact absurd ⟨⟨k, hk, rfl⟩, b⟩ a'
  · exact ⟨rfl, e.symm⟩
  · obtain rfl := kq hk hk' e'
    exact absurd g g'
  · exact absurd ⟨⟨k, hk, rfl⟩, b⟩ a'
  · obtain rfl := kq hk hk' e'
    exact absurd g' g
  · obtain rfl := kq hk hk' e'
    exact ⟨rfl, e.symm⟩
theorem det_make {v : St} {x y : Int32} {c c' : Nat} {r r' : Int32} {u u' : St} (h : spMake v x y c r u) (h' : spMake v x y c' r' u') : c = c' ∧ u = u' ∧ (c = 0 → r = r') := by
  by_cases hx : ∃ k, k < 8 ∧ x = nI k
  · obtain ⟨k, hk, rfl⟩ := hx
    unfold spMake at h h'
    rw [exK hk (P := fun k => canA v k y), exK hk (P := fun k => canA v k y ∧ ¬ okAb v k y), exK hk (P := fun k => canA v k y ∧ okAb v k y ∧ ¬ mN v k < 30), exK hk (P := fun k => canA v k y ∧ okAb v k y ∧ mN v k < 30 ∧ r = nI (mN v k) ∧ u = addS v k y)] at h
    rw [exK hk (P := fun k => canA v k y), exK hk (P := fun k => canA v k y ∧ ¬ okAb v k y), exK hk (P := fun k => canA v k y ∧ okAb v k y ∧ ¬ mN v k < 30), exK hk (P := fun k => canA v k y ∧ okAb v k y ∧ mN v k < 30 ∧ r' = nI (mN v k) ∧ u' = addS v k y)] at h'
    generalize addS v k y = U at h h'
    generalize nI (mN v k) = N at h h'
    rcases h with ⟨rfl, rfl, a⟩ | ⟨rfl, rfl, a, b⟩ | ⟨rfl, rfl, a, b, d⟩ | ⟨rfl, a, b, d, rfl, rfl⟩ <;> rcases h' with ⟨rfl, e, a'⟩ | ⟨rfl, e, a', b'⟩ | ⟨rfl, e, a', b', d'⟩ | ⟨rfl, a', b', d', e2, e⟩ <;> first | exact ⟨rfl, e.symm, fun h => absurd h (by decide)⟩ | exact ⟨rfl, e.symm, fun _ => e2.symm⟩ | exact absurd a' a | exact absurd a a' | exact absurd b' b | exact absurd b b' | exact absurd d' d | exact absurd d d'
  · rcases h with ⟨rfl, rfl, a⟩ | ⟨rfl, rfl, k, hk, e, -⟩ | ⟨rfl, rfl, k, hk, e, -⟩ | ⟨rfl, k, hk, e, -⟩
    · rcases h' with ⟨rfl, rfl, a⟩ | ⟨rfl, rfl, k, hk, e, -⟩ | ⟨rfl, rfl, k, hk, e, -⟩ | ⟨rfl, k, hk, e, -⟩
      · exact ⟨rfl, rfl, fun h => absurd h (by decide)⟩
      all_goals exact absurd ⟨k, hk, e⟩ hx
    all_goals exact absurd ⟨k, hk, e⟩ hx
theorem det_verb {v : St} {x y z a b : Int32} {c c' : Nat} {u u' : St} (h : spVerb v x y z a b c u) (h' : spVerb v x y z a b c' u') : c = c' ∧ u = u' := by
  rcases h with ⟨rfl, rfl, p⟩ | ⟨rfl, rfl, p, q⟩ | ⟨rfl, q, k, n, hk, hn, rfl, rfl, hz, rfl⟩ <;> rcases h' with ⟨rfl, e, p'⟩ | ⟨rfl, e, p', q'⟩ | ⟨rfl, q', k', n', hk', hn', e1, e2, hz', e⟩
  · exact ⟨rfl, e.symm⟩
  · exact absurd p' p
  · exact absurd ⟨⟨k', hk', e1⟩, ⟨n', hn', e2⟩, hz'⟩ p
  · exact absurd p p'
  · exact ⟨rfl, e.symm⟩
  · exact absurd q' q
  · exact absurd ⟨⟨k, hk, rfl⟩, ⟨n, hn, rfl⟩, hz⟩ p'
  · exact absurd q q'
  · obtain rfl := kq hk hk' e1
    obtain rfl := kq hn hn' e2
    exact ⟨rfl, e.symm⟩
theorem exN {v : St} (hi : Inv v) {k j n : Nat} (hk : k < 8) (hj : j < mN v k) (hn : n < 8) {P : Nat → Nat → Nat → Prop} : (∃ k' j' n', k' < 8 ∧ j' < mN v k' ∧ n' < 8 ∧ nI k = nI k' ∧ nI j = nI j' ∧ nI n = nI n' ∧ P k' j' n') ↔ P k j n := by
  constructor
  · rintro ⟨k', j', n', h1, h2, h3, h4, h5, h6, h7⟩
    obtain rfl := kq hk h1 h4
    have := (hi.mk k hk).1
    obtain rfl : j = j' := (nI_eq (by omega) (by omega)).mp h5
    obtain rfl := kq hn h3 h6
    exact h7
  · exact fun h => ⟨k, j, n, hk, hj, hn, rfl, rfl, rfl, h⟩
theorem det_call {v : St} {x y z a : Int32} {c c' : Nat} {r r' : Int64} {u u' : St} (hi : Inv v) (h : spCall v x y z a c r u) (h' : spCall v x y z a c' r' u') : c = c' ∧ u = u' ∧ (c = 0 → r = r') := by
  rcases h with ⟨rfl, p, rfl⟩ | ⟨rfl, p, q, rfl⟩ | ⟨k, j, n, hk, hj, hn, rfl, rfl, rfl, hm, ha, h⟩
  · rcases h' with ⟨rfl, p', rfl⟩ | ⟨rfl, p', q', rfl⟩ | ⟨k, j, n, hk, hj, hn, e1, e2, e3, hm, ha, h'⟩
    · exact ⟨rfl, rfl, fun h => absurd h (by decide)⟩
    · exact absurd p' p
    · exact absurd ⟨k, j, n, hk, hj, hn, e1, e2, e3, hm⟩ p
  · rcases h' with ⟨rfl, p', rfl⟩ | ⟨rfl, p', q', rfl⟩ | ⟨k, j, n, hk, hj, hn, e1, e2, e3, hm, ha, h'⟩
    · exact absurd p p'
    · exact ⟨rfl, rfl, fun h => absurd h (by decide)⟩
    · exact absurd ha q
  · rcases h' with ⟨rfl, p', rfl⟩ | ⟨rfl, p', q', rfl⟩ | h'
    · exact absurd ⟨k, j, n, hk, hj, hn, rfl, rfl, rfl, hm⟩ p'
    · exact absurd ha q'
    · obtain ⟨-, -, h'⟩ := (exN hi hk hj hn (P := fun k' j' n' => zmd v (k' * 8 + n') ≠ 0 ∧ aOk a ∧ ((c' = 3 ∧ zop v (k' * 30 + j') = 0 ∧ u' = telS (trn v) (ztn v + 1) (nI k) (nI j) (nI n) 15) ∨ (c' = 0 ∧ zop v (k' * 30 + j') ≠ 0 ∧ r' = anF v k' j' n' a ∧ ((r' < -9000000000000 ∧ u' = telS (trn v) (ztn v + 1) (nI k) (nI j) (nI n) (-9000000000000 - r').toInt32) ∨ (¬ r' < -9000000000000 ∧ u' = carF (trn v) k' j' n' r')))))).mp h'
      rcases h with ⟨rfl, p, rfl⟩ | ⟨rfl, p, rfl, h⟩
      · rcases h' with ⟨rfl, p', rfl⟩ | ⟨rfl, p', rfl, h'⟩
        · exact ⟨rfl, rfl, fun h => absurd h (by decide)⟩
        · exact absurd p p'
      · rcases h' with ⟨rfl, p', rfl⟩ | ⟨rfl, p', rfl, h'⟩
        · exact absurd p' p
        · rcases h with ⟨a1, rfl⟩ | ⟨a1, rfl⟩ <;> rcases h' with ⟨a2, rfl⟩ | ⟨a2, rfl⟩
          · exact ⟨rfl, rfl, fun _ => rfl⟩
          · exact absurd a1 a2
          · exact absurd a2 a1
          · exact ⟨rfl, rfl, fun _ => rfl⟩
theorem det_sim {v : St} {x y z a : Int32} {c c' : Nat} {r r' : Int64} {u u' : St} (hi : Inv v) (h : spSim v x y z a c r u) (h' : spSim v x y z a c' r' u') : c = c' ∧ u = u' ∧ (c = 0 → r = r') := by
  obtain ⟨rfl, h⟩ := h
  obtain ⟨rfl, h'⟩ := h'
  rcases h with ⟨rfl, p⟩ | ⟨rfl, p, q⟩ | ⟨k, j, n, hk, hj, hn, rfl, rfl, rfl, hm, ha, h⟩
  · rcases h' with ⟨rfl, p'⟩ | ⟨rfl, p', q'⟩ | ⟨k, j, n, hk, hj, hn, e1, e2, e3, hm, ha, h'⟩
    · exact ⟨rfl, rfl, fun h => absurd h (by decide)⟩
    · exact absurd p' p
    · exact absurd ⟨k, j, n, hk, hj, hn, e1, e2, e3, hm⟩ p
  · rcases h' with ⟨rfl, p'⟩ | ⟨rfl, p', q'⟩ | ⟨k, j, n, hk, hj, hn, e1, e2, e3, hm, ha, h'⟩
    · exact absurd p p'
    · exact ⟨rfl, rfl, fun h => absurd h (by decide)⟩
    · exact absurd ha q
  · rcases h' with ⟨rfl, p'⟩ | ⟨rfl, p', q'⟩ | h'
    · exact absurd ⟨k, j, n, hk, hj, hn, rfl, rfl, rfl, hm⟩ p'
    · exact absurd ha q'
    · obtain ⟨-, -, h'⟩ := (exN hi hk hj hn (P := fun k' j' n' => zmd _ (k' * 8 + n') ≠ 0 ∧ aOk a ∧ ((c' = 3 ∧ zop _ (k' * 30 + j') = 0) ∨ (c' = 0 ∧ zop _ (k' * 30 + j') ≠ 0 ∧ r' = anF _ k' j' n' a)))).mp h'
      rcases h with ⟨rfl, p⟩ | ⟨rfl, p, rfl⟩
      · rcases h' with ⟨rfl, p'⟩ | ⟨rfl, p', rfl⟩
        · exact ⟨rfl, rfl, fun h => absurd h (by decide)⟩
        · exact absurd p p'
      · rcases h' with ⟨rfl, p'⟩ | ⟨rfl, p', rfl⟩
        · exact absurd p' p
        · exact ⟨rfl, rfl, fun _ => rfl⟩
theorem det_text {v : St} {x y : Int32} {p0 : Int64} {n : Int32} {c c' : Nat} {r r' : Int32} {u u' : St} (hi : Inv v) (h : spText v x y p0 n c r u) (h' : spText v x y p0 n c' r' u') : c = c' ∧ u = u' ∧ (c = 0 → r = r') := by
  rcases h with ⟨rfl, rfl, p⟩ | ⟨rfl, rfl, p, q⟩ | ⟨k, j, w, hk, hj, rfl, rfl, hw, rfl, h⟩
  · rcases h' with ⟨rfl, rfl, p'⟩ | ⟨rfl, rfl, p', q'⟩ | ⟨k, j, w, hk, hj, e1, e2, hw, e3, h'⟩
    · exact ⟨rfl, rfl, fun h => absurd h (by decide)⟩
    · exact absurd p' p
    · exact absurd ⟨k, j, hk, hj, e1, e2⟩ p
  · rcases h' with ⟨rfl, rfl, p'⟩ | ⟨rfl, rfl, p', q'⟩ | ⟨k, j, w, hk, hj, e1, e2, hw, e3, h'⟩
    · exact absurd p p'
    · exact ⟨rfl, rfl, fun h => absurd h (by decide)⟩
    · exact absurd ⟨w, hw.1, hw.2, e3⟩ q
  · rcases h' with ⟨rfl, rfl, p'⟩ | ⟨rfl, rfl, p', q'⟩ | ⟨k', j', w', hk', hj', e1, e2, hw', e3, h'⟩
    · exact absurd ⟨k, j, hk, hj, rfl, rfl⟩ p'
    · exact absurd ⟨w, hw.1, hw.2, rfl⟩ q'
    · obtain rfl := kq hk hk' e1
      have := (hi.mk k hk).1
      obtain rfl : j = j' := (nI_eq (by omega) (by omega)).mp e2
      obtain rfl : w = w' := (nI_eq (by omega) (by omega)).mp e3
      rcases h with ⟨rfl, rfl, a⟩ | ⟨rfl, rfl, a, b⟩ | ⟨rfl, a, b, rfl, rfl⟩ <;> rcases h' with ⟨rfl, e, a'⟩ | ⟨rfl, e, a', b'⟩ | ⟨rfl, a', b', e4, e⟩ <;> first | exact ⟨rfl, e.symm, fun h => absurd h (by decide)⟩ | exact ⟨rfl, e.symm, fun _ => e4.symm⟩ | exact absurd a' a | exact absurd a a' | exact absurd b' b | exact absurd b b'
theorem det_textAt {v : St} {x y i : Int32} {c c' : Nat} {r r' : Int32} {u u' : St} (hi : Inv v) (h : spTextAt v x y i c r u) (h' : spTextAt v x y i c' r' u') : c = c' ∧ u = u' ∧ (c = 0 → r = r') := by
  obtain ⟨rfl, h⟩ := h
  obtain ⟨rfl, h'⟩ := h'
  rcases h with ⟨rfl, p⟩ | ⟨rfl, p, q⟩ | ⟨rfl, k, j, t, hk, hj, rfl, rfl, ht, rfl, h⟩
  · rcases h' with ⟨rfl, p'⟩ | ⟨rfl, p', q'⟩ | ⟨rfl, k, j, t, hk, hj, e1, e2, ht, e3, h'⟩
    · exact ⟨rfl, rfl, fun h => absurd h (by decide)⟩
    · exact absurd p' p
    · exact absurd ⟨k, j, hk, hj, e1, e2⟩ p
  · rcases h' with ⟨rfl, p'⟩ | ⟨rfl, p', q'⟩ | ⟨rfl, k, j, t, hk, hj, e1, e2, ht, e3, h'⟩
    · exact absurd p p'
    · exact ⟨rfl, rfl, fun h => absurd h (by decide)⟩
    · rw [e3] at q; exact absurd q (nI_pos ht)
  · rcases h' with ⟨rfl, p'⟩ | ⟨rfl, p', q'⟩ | ⟨rfl, k', j', t', hk', hj', e1, e2, ht', e3, h'⟩
    · exact absurd ⟨k, j, hk, hj, rfl, rfl⟩ p'
    · exact absurd q' (nI_pos ht)
    · obtain rfl := kq hk hk' e1
      have := (hi.mk k hk).1
      obtain rfl : j = j' := (nI_eq (by omega) (by omega)).mp e2
      obtain rfl : t = t' := (nI_eq ht ht').mp e3
      rcases h with ⟨a, rfl⟩ | ⟨a, rfl⟩ <;> rcases h' with ⟨a', e⟩ | ⟨a', e⟩ <;> first | exact absurd a a' | exact absurd a' a | exact ⟨rfl, rfl, fun _ => e.symm⟩
theorem det_find {v : St} {x : Int32} {p0 : Int64} {n : Int32} {c c' : Nat} {r r' : Int32} {u u' : St} (h : spFind v x p0 n c r u) (h' : spFind v x p0 n c' r' u') : c = c' ∧ u = u' ∧ (c = 0 → r = r') := by
  obtain ⟨rfl, h⟩ := h
  obtain ⟨rfl, h'⟩ := h'
  rcases h with ⟨rfl, p⟩ | ⟨rfl, p, q⟩ | ⟨rfl, k, w, hk, rfl, hw, rfl, h⟩
  · rcases h' with ⟨rfl, p'⟩ | ⟨rfl, p', q'⟩ | ⟨rfl, k, w, hk, e1, hw, e2, h'⟩
    · exact ⟨rfl, rfl, fun h => absurd h (by decide)⟩
    · exact absurd p' p
    · exact absurd ⟨k, hk, e1⟩ p
  · rcases h' with ⟨rfl, p'⟩ | ⟨rfl, p', q'⟩ | ⟨rfl, k, w, hk, e1, hw, e2, h'⟩
    · exact absurd p p'
    · exact ⟨rfl, rfl, fun h => absurd h (by decide)⟩
    · exact absurd ⟨w, hw, e2⟩ q
  · rcases h' with ⟨rfl, p'⟩ | ⟨rfl, p', q'⟩ | ⟨rfl, k', w', hk', e1, hw', e2, h'⟩
    · exact absurd ⟨k, hk, rfl⟩ p'
    · exact absurd ⟨w, hw, rfl⟩ q'
    · obtain rfl := kq hk hk' e1
      obtain rfl : w = w' := (nI_eq (by omega) (by omega)).mp e2
      rcases h with ⟨j, hj, hf, hb, rfl⟩ | ⟨hb, rfl⟩ <;> rcases h' with ⟨j', hj', hf', hb', rfl⟩ | ⟨hb', rfl⟩
      · rcases Nat.lt_trichotomy j j' with q | q | q
        · exact absurd hf (hb' j q)
        · exact ⟨rfl, rfl, fun _ => by rw [q]⟩
        · exact absurd hf' (hb j' q)
      · exact absurd hf (hb' j hj)
      · exact absurd hf' (hb j' hj')
      · exact ⟨rfl, rfl, fun _ => rfl⟩
theorem det_subj {v : St} {x y w : Int32} {c c' : Nat} {r r' : Int32} {u u' : St} (hi : Inv v) (h : spSubj v x y w c r u) (h' : spSubj v x y w c' r' u') : c = c' ∧ u = u' ∧ (c = 0 → r = r') := by
  obtain ⟨rfl, h⟩ := h
  obtain ⟨rfl, h'⟩ := h'
  have key : ∀ {P0 P1 P2 P3 : Prop}, ((w = 0 ∧ P0) ∨ (w = 1 ∧ P1) ∨ (w = 2 ∧ P2) ∨ (w = 3 ∧ P3)) → ok03 w := fun h => h.elim (fun h => Or.inl h.1) (fun h => Or.inr (h.elim (fun h => Or.inl h.1) (fun h => Or.inr (h.elim (fun h => Or.inl h.1) (fun h => Or.inr h.1)))))
  rcases h with ⟨rfl, p⟩ | ⟨rfl, k, j, hk, hj, rfl, rfl, h⟩
  · rcases h' with ⟨rfl, p'⟩ | ⟨rfl, k, j, hk, hj, e1, e2, h'⟩
    · exact ⟨rfl, rfl, fun h => absurd h (by decide)⟩
    · exact absurd ⟨⟨k, j, hk, hj, e1, e2⟩, key h'⟩ p
  · rcases h' with ⟨rfl, p'⟩ | ⟨rfl, k', j', hk', hj', e1, e2, h'⟩
    · exact absurd ⟨⟨k, j, hk, hj, rfl, rfl⟩, key h⟩ p'
    · obtain rfl := kq hk hk' e1
      have := (hi.mk k hk).1
      obtain rfl : j = j' := (nI_eq (by omega) (by omega)).mp e2
      rcases h with ⟨rfl, rfl⟩ | ⟨rfl, rfl⟩ | ⟨rfl, rfl⟩ | ⟨rfl, rfl⟩ <;> rcases h' with ⟨f, e⟩ | ⟨f, e⟩ | ⟨f, e⟩ | ⟨f, e⟩ <;> first | exact ⟨rfl, rfl, fun _ => e.symm⟩ | exact absurd f (by decide)
theorem det_row {v : St} {i w : Int32} {c c' : Nat} {r r' : Int32} {u u' : St} (hi : Inv v) (h : spRow v i w c r u) (h' : spRow v i w c' r' u') : c = c' ∧ u = u' ∧ (c = 0 → r = r') := by
  obtain ⟨rfl, h⟩ := h
  obtain ⟨rfl, h'⟩ := h'
  rcases h with ⟨rfl, p⟩ | ⟨rfl, t, z, ht, hz, rfl, rfl, rfl⟩
  · rcases h' with ⟨rfl, p'⟩ | ⟨rfl, t, z, ht, hz, e1, e2, e⟩
    · exact ⟨rfl, rfl, fun h => absurd h (by decide)⟩
    · exact absurd ⟨t, z, ht, hz, e1, e2⟩ p
  · rcases h' with ⟨rfl, p'⟩ | ⟨rfl, t', z', ht', hz', e1, e2, e⟩
    · exact absurd ⟨t, z, ht, hz, rfl, rfl⟩ p'
    · have := hi.kp.1
      obtain rfl : t = t' := (nI_eq (by omega) (by omega)).mp e1
      obtain rfl : z = z' := (nI_eq (by omega) (by omega)).mp e2
      exact ⟨rfl, rfl, fun _ => e.symm⟩
theorem det_tick {v : St} {n : Int32} {c c' : Nat} {r r' : Int32} {u u' : St} (h : spTick v n c r u) (h' : spTick v n c' r' u') : c = c' ∧ u = u' ∧ (c = 0 → r = r') := by
  rcases h with ⟨rfl, rfl, p⟩ | ⟨rfl, p, rfl, rfl⟩ <;> rcases h' with ⟨rfl, e, p'⟩ | ⟨rfl, p', e2, e⟩
  · exact ⟨rfl, e.symm, fun h => absurd h (by decide)⟩
  · exact absurd p' p
  · exact absurd p p'
  · exact ⟨rfl, e.symm, fun _ => e2.symm⟩
theorem det_count {v : St} {w : Int32} {c c' : Nat} {r r' : Int32} {u u' : St} (h : spCount v w c r u) (h' : spCount v w c' r' u') : c = c' ∧ u = u' ∧ (c = 0 → r = r') := by
  obtain ⟨rfl, h⟩ := h
  obtain ⟨rfl, h'⟩ := h'
  have key : ∀ {P0 P1 P2 P3 : Prop}, ((w = 0 ∧ P0) ∨ (w = 1 ∧ P1) ∨ (w = 2 ∧ P2) ∨ (w = 3 ∧ P3)) → ok03 w := fun h => h.elim (fun h => Or.inl h.1) (fun h => Or.inr (h.elim (fun h => Or.inl h.1) (fun h => Or.inr (h.elim (fun h => Or.inl h.1) (fun h => Or.inr h.1)))))
  rcases h with ⟨rfl, p⟩ | ⟨rfl, h⟩ <;> rcases h' with ⟨rfl, p'⟩ | ⟨rfl, h'⟩
  · exact ⟨rfl, rfl, fun h => absurd h (by decide)⟩
  · exact absurd (key h') p
  · exact absurd (key h) p'
  · rcases h with ⟨rfl, rfl⟩ | ⟨rfl, rfl⟩ | ⟨rfl, rfl⟩ | ⟨rfl, rfl⟩ <;> rcases h' with ⟨f, e⟩ | ⟨f, e⟩ | ⟨f, e⟩ | ⟨f, e⟩ <;> first | exact ⟨rfl, rfl, fun _ => e.symm⟩ | exact absurd f (by decide)
/-! the next state -/
theorem chA_sh (f : Nat → Int32) (x : Int32) : ∀ n, chA f x (n + 1) = chA f (f x.toNatClampNeg) n
  | 0 => rfl
  | n + 1 => by
    show f (chA f x (n + 1)).toNatClampNeg = f (chA f (f x.toNatClampNeg) n).toNatClampNeg
    rw [chA_sh f x n]
theorem nI_nm {k : Nat} (hk : k < 2 ^ 31) : nI k ≠ -1 := fun e => absurd (show nI k < 0 by rw [e]; decide) (nI_pos hk)
theorem rea_up {v : St} {a b k : Nat} (ha : a < 8) (h : zka v a = nI b) (q : reaU v (nI b) (nI k)) : reaU v (nI a) (nI k) := by
  obtain ⟨n, h1, h2⟩ := q
  refine ⟨n + 1, ?_, fun j hj => ?_⟩
  · rw [chA_sh, nI_clamp (by omega), h]; exact h1
  · cases j with
    | zero => exact nI_nm (by omega)
    | succ j => rw [chA_sh, nI_clamp (by omega), h]; exact h2 j (by omega)
theorem rea_dn {v : St} {a b k : Nat} (ha : a < 8) (hk : k < 8) (hn : a ≠ k) (h : zka v a = nI b) (q : reaU v (nI a) (nI k)) : reaU v (nI b) (nI k) := by
  obtain ⟨n, h1, h2⟩ := q
  cases n with
  | zero => exact absurd (kq ha hk h1) hn
  | succ n =>
    rw [chA_sh, nI_clamp (by omega), h] at h1
    refine ⟨n, h1, fun j hj => ?_⟩
    have := h2 (j + 1) (by omega)
    rw [chA_sh, nI_clamp (by omega), h] at this
    exact this
theorem inv_under {v : St} {k : Nat} {y : Int32} (hi : Inv v) (hk : k < 8) (hy : ynK y) (h0 : ¬ (0 < mN v k ∨ reaU v y (nI k))) : Inv (uka v (upd (zka v) k y)) := by
  refine ⟨fun i hi8 => ?_, ?_, hi.mk, hi.op, hi.ln, hi.kp, hi.md, hi.as, hi.sm, fun k2 j hk2 hj => ?_, hi.ck⟩
  · show upd (zka v) k y i = -1 ∨ ∃ j, j < 8 ∧ upd (zka v) k y i = nI j
    by_cases e : i = k
    · rw [e, pk_us]; exact hy
    · rw [pk_un e]; exact hi.ka i hi8
  · obtain ⟨rk, hrk⟩ := hi.rk
    refine ⟨fun i => rk i + @ite Nat (reaU v (nI i) (nI k)) (Classical.propDecidable _) (rk y.toNatClampNeg + 1) 0, fun a b ha hb h => ?_⟩
    have h : upd (zka v) k y a = nI b := h
    show rk b + @ite Nat (reaU v (nI b) (nI k)) (Classical.propDecidable _) (rk y.toNatClampNeg + 1) 0 < rk a + @ite Nat (reaU v (nI a) (nI k)) (Classical.propDecidable _) (rk y.toNatClampNeg + 1) 0
    by_cases e : a = k
    · rw [e, pk_us] at h
      have h1 : ¬ reaU v (nI b) (nI k) := fun q => h0 (Or.inr (by rw [h]; exact q))
      have h2 : reaU v (nI a) (nI k) := ⟨0, by rw [e]; rfl, fun j hj => absurd hj (Nat.not_lt_zero _)⟩
      rw [if_neg h1, if_pos h2, h, nI_clamp (by omega)]
      omega
    · rw [pk_un e] at h
      have hlt := hrk a b ha hb h
      by_cases q : reaU v (nI b) (nI k)
      · rw [if_pos q, if_pos (rea_up ha h q)]; omega
      · rw [if_neg q, if_neg (fun z => q (rea_dn ha hk e h z))]; omega
  · have hj : j < mN v k2 := hj
    have e : k2 ≠ k := fun e => h0 (Or.inl (by rw [← e]; omega))
    rcases hi.ab k2 j hk2 hj with ⟨a, b⟩ | ⟨k3, j3, a, b, d, f⟩
    · exact Or.inl ⟨(pk_un e).trans a, b⟩
    · exact Or.inr ⟨k3, j3, a, b, (pk_un e).trans d, f⟩
theorem mN_addS {v : St} {k : Nat} {y : Int32} (h : mN v k < 30) (i : Nat) : mN (addS v k y) i = if i = k then mN v k + 1 else mN v i := by
  show (upd (zmk v) k (nI (mN v k + 1)) i).toNatClampNeg = _
  by_cases e : i = k
  · rw [if_pos e, e, pk_us, nI_clamp (by omega)]
  · rw [if_neg e, pk_un e]; rfl
theorem inv_make {v : St} {k : Nat} {y : Int32} (hi : Inv v) (hk : k < 8) (hc : canA v k y) (h : mN v k < 30) : Inv (addS v k y) := by
  have mono : ∀ i, mN v i ≤ mN (addS v k y) i := fun i => by
    rw [mN_addS h]
    by_cases e : i = k
    · rw [if_pos e, e]; omega
    · rw [if_neg e]; exact Nat.le_refl _
  refine ⟨hi.ka, hi.rk, fun i hi8 => ?_, fun i hi2 => ?_, hi.ln, hi.kp, hi.md, hi.as, hi.sm, fun k2 j hk2 hj => ?_, hi.ck⟩
  · rw [mN_addS h]
    show _ ∧ upd (zmk v) k (nI (mN v k + 1)) i = _
    by_cases e : i = k
    · rw [if_pos e, e, pk_us]; exact ⟨h, rfl⟩
    · rw [if_neg e, pk_un e]; exact hi.mk i hi8
  · show upd (zop v) (k * 30 + mN v k) 1 i = 0 ∨ upd (zop v) (k * 30 + mN v k) 1 i = 1
    by_cases e : i = k * 30 + mN v k
    · rw [e, pk_us]; exact Or.inr rfl
    · rw [pk_un e]; exact hi.op i hi2
  · rw [mN_addS h] at hj
    show (zka v k2 = -1 ∧ upd (zab v) (k * 30 + mN v k) y (k2 * 30 + j) = -1) ∨ ∃ k3 j3, k3 < 8 ∧ j3 < mN (addS v k y) k3 ∧ zka v k2 = nI k3 ∧ upd (zab v) (k * 30 + mN v k) y (k2 * 30 + j) = nI j3
    by_cases e : k2 * 30 + j = k * 30 + mN v k
    · have hb : j < 30 := by
        by_cases e2 : k2 = k
        · rw [e2] at e; omega
        · rw [if_neg e2] at hj; have := (hi.mk k2 hk2).1; omega
      have e2 : k2 = k := by omega
      rw [e, pk_us, e2]
      rcases hc with ⟨a, b⟩ | ⟨a, k3, j3, c1, c2, c3, c4⟩
      · exact Or.inl ⟨a, b⟩
      · exact Or.inr ⟨k3, j3, c1, Nat.lt_of_lt_of_le c2 (mono k3), c3, c4⟩
    · rw [pk_un e]
      have hj2 : j < mN v k2 := by
        by_cases e2 : k2 = k
        · rw [if_pos e2] at hj; rw [e2] at e ⊢; omega
        · rw [if_neg e2] at hj; exact hj
      rcases hi.ab k2 j hk2 hj2 with ⟨a, b⟩ | ⟨k3, j3, c1, c2, c3, c4⟩
      · exact Or.inl ⟨a, b⟩
      · exact Or.inr ⟨k3, j3, c1, Nat.lt_of_lt_of_le c2 (mono k3), c3, c4⟩
theorem wi3_in {a : Int32} (h : wi3 a) : -1000 ≤ a.toInt ∧ a.toInt ≤ 1000 := by
  obtain ⟨h1, h2⟩ := h
  rw [Int32.le_iff_toInt_le] at h1 h2
  have e1 : (-1000 : Int32).toInt = -1000 := rfl
  have e2 : (1000 : Int32).toInt = 1000 := rfl
  rw [e1] at h1; rw [e2] at h2
  exact ⟨h1, h2⟩
theorem inv_verb {v : St} {g : Nat} {z a b : Int32} (hi : Inv v) (hz : isK z) (ha : wi3 a) (hb : wi3 b) : Inv (setV v g z a b) := by
  refine ⟨hi.ka, hi.rk, hi.mk, hi.op, hi.ln, hi.kp, fun i hi6 => ?_, fun i hi6 => ?_, hi.sm, hi.ab, hi.ck⟩
  · show ∃ n, n < 8 ∧ upd (zmd v) g z i = nI n
    by_cases e : i = g
    · rw [e, pk_us]; exact hz
    · rw [pk_un e]; exact hi.md i hi6
  · show (-1000 ≤ (upd (zas v) g a i).toInt ∧ (upd (zas v) g a i).toInt ≤ 1000) ∧ -1000 ≤ (upd (zbs v) g b i).toInt ∧ (upd (zbs v) g b i).toInt ≤ 1000
    by_cases e : i = g
    · rw [e, pk_us, pk_us]; exact ⟨wi3_in ha, wi3_in hb⟩
    · rw [pk_un e, pk_un e]; exact hi.as i hi6
theorem inv_tel {v : St} {t x y z w : Int32} (hi : Inv v) : Inv (telS v t x y z w) := by
  unfold telS
  by_cases h : 80 ≤ kN v
  · rw [if_pos h]; exact hi
  · rw [if_neg h]
    refine ⟨hi.ka, hi.rk, hi.mk, hi.op, hi.ln, ?_, hi.md, hi.as, hi.sm, hi.ab, hi.ck⟩
    show (nI (kN v + 1)).toNatClampNeg ≤ 80 ∧ nI (kN v + 1) = nI (nI (kN v + 1)).toNatClampNeg
    rw [nI_clamp (by omega)]
    exact ⟨by omega, rfl⟩
theorem inv_sm {v : St} {g : Nat} {x : Int64} (hi : Inv v) (h : -1000000000 ≤ x ∧ x ≤ 1000000000) : Inv (usm v (upd (zsm v) g x.toInt32)) := by
  refine ⟨hi.ka, hi.rk, hi.mk, hi.op, hi.ln, hi.kp, hi.md, hi.as, fun i hi2 => ?_, hi.ab, hi.ck⟩
  show -1000000000 ≤ (upd (zsm v) g x.toInt32 i).toInt ∧ (upd (zsm v) g x.toInt32 i).toInt ≤ 1000000000
  by_cases e : i = g
  · rw [e, pk_us]
    have e1 := congrArg Int64.toInt (i64_32 h)
    rw [Int32.toInt_toInt64] at e1
    rw [e1]
    obtain ⟨h1, h2⟩ := h
    rw [Int64.le_iff_toInt_le] at h1 h2
    have e1 : (-1000000000 : Int64).toInt = -1000000000 := rfl
    have e2 : (1000000000 : Int64).toInt = 1000000000 := rfl
    rw [e1] at h1; rw [e2] at h2
    exact ⟨h1, h2⟩
  · rw [pk_un e]; exact hi.sm i hi2
theorem inv_op {v : St} {g : Nat} (hi : Inv v) : Inv (uop v (upd (zop v) g 0)) := by
  refine ⟨hi.ka, hi.rk, hi.mk, fun i hi2 => ?_, hi.ln, hi.kp, hi.md, hi.as, hi.sm, hi.ab, hi.ck⟩
  show upd (zop v) g 0 i = 0 ∨ upd (zop v) g 0 i = 1
  by_cases e : i = g
  · rw [e, pk_us]; exact Or.inl rfl
  · rw [pk_un e]; exact hi.op i hi2
theorem suF_in {x : Int64} (h : ¬ suF x < -9000000000000) : -1000000000 ≤ suF x ∧ suF x ≤ 1000000000 := by
  by_cases q : -1000000000 ≤ x ∧ x ≤ 1000000000
  · rw [su_yes q]; exact q
  · rw [su_no q] at h; exact absurd (by decide) h
theorem inv_car {v : St} {k j n : Nat} {a : Int32} (hi : Inv v) (h : ¬ anF v k j n a < -9000000000000) : Inv (carF v k j n (anF v k j n a)) := by
  by_cases m2 : zmd v (k * 8 + n) = 2
  · rw [← carF_2 m2]
    refine inv_sm hi ?_
    have e : anF v k j n a = suF ((zsm v (k * 30 + j)).toInt64 + a.toInt64 * (zas v (k * 8 + n)).toInt64 + (zbs v (k * 8 + n)).toInt64) := by
      rw [anF, if_neg (by rw [m2]; decide), if_pos m2]
    rw [e] at h ⊢
    exact suF_in h
  by_cases m6 : zmd v (k * 8 + n) = 6
  · rw [carF, if_neg m2, if_pos m6]
    by_cases ka : zka v k = -1
    · rw [if_pos ka]; exact hi
    · rw [if_neg ka]
      refine inv_sm hi ?_
      have e : anF v k j n a = suF ((zsm v ((zka v k).toNatClampNeg * 30 + (zab v (k * 30 + j)).toNatClampNeg)).toInt64 + a.toInt64) := by
        rw [anF, if_neg (by rw [m6]; decide), if_neg m2, if_neg (by rw [m6]; decide), if_neg (by rw [m6]; decide), if_neg (by rw [m6]; decide), if_pos m6, if_neg ka]
      rw [e] at h ⊢
      exact suF_in h
  by_cases m7 : zmd v (k * 8 + n) = 7
  · rw [← carF_7 m7]; exact inv_op hi
  · rw [← carF_o m2 m6 m7]; exact hi
theorem inv_trn {v : St} (hi : Inv v) : Inv (trn v) := hi
theorem inv_len {v : St} {g w : Nat} {p0 : Int64} (hi : Inv v) (h : lN9 v g + w ≤ 16) : Inv (lenS v g p0 w) := by
  refine ⟨hi.ka, hi.rk, hi.mk, hi.op, fun i hi2 => ?_, hi.kp, hi.md, hi.as, hi.sm, hi.ab, hi.ck⟩
  show (upd (zln v) g (nI (lN9 v g + w)) i).toNatClampNeg ≤ 16 ∧ upd (zln v) g (nI (lN9 v g + w)) i = nI (upd (zln v) g (nI (lN9 v g + w)) i).toNatClampNeg
  by_cases e : i = g
  · rw [e, pk_us, nI_clamp (by omega)]; exact ⟨h, rfl⟩
  · rw [pk_un e]; exact hi.ln i hi2
theorem inv_tick {v : St} {n : Int32} (hi : Inv v) (h : okT v n) : Inv (uck v (zck v + n)) := by
  refine ⟨hi.ka, hi.rk, hi.mk, hi.op, hi.ln, hi.kp, hi.md, hi.as, hi.sm, hi.ab, ?_⟩
  obtain ⟨c1, c2⟩ := hi.ck
  obtain ⟨h1, h2, h3⟩ := h
  show 0 ≤ (zck v + n).toInt ∧ (zck v + n).toInt ≤ 1000000000
  rw [Int32.toInt_add, Int.bmod_eq_of_le (by omega) (by omega)]
  exact ⟨by omega, by omega⟩
theorem nx_under {v u : St} {x y : Int32} {c : Nat} (hi : Inv v) (h : spUnder v x y c u) : Inv u := by
  rcases h with ⟨-, rfl, -⟩ | ⟨-, rfl, -⟩ | ⟨-, k, hk, rfl, b, g, rfl⟩
  · exact hi
  · exact hi
  · exact inv_under hi hk b g
theorem nx_make {v u : St} {x y : Int32} {c : Nat} {r : Int32} (hi : Inv v) (h : spMake v x y c r u) : Inv u := by
  rcases h with ⟨-, rfl, -⟩ | ⟨-, rfl, -⟩ | ⟨-, rfl, -⟩ | ⟨-, k, hk, rfl, a, -, g, -, rfl⟩
  · exact hi
  · exact hi
  · exact hi
  · exact inv_make hi hk a g
theorem nx_verb {v u : St} {x y z a b : Int32} {c : Nat} (hi : Inv v) (h : spVerb v x y z a b c u) : Inv u := by
  rcases h with ⟨-, rfl, -⟩ | ⟨-, rfl, -⟩ | ⟨-, q, k, n, hk, hn, -, -, hz, rfl⟩
  · exact hi
  · exact hi
  · exact inv_verb hi hz q.1 q.2
theorem nx_call {v u : St} {x y z a : Int32} {c : Nat} {r : Int64} (hi : Inv v) (h : spCall v x y z a c r u) : Inv u := by
  rcases h with ⟨-, -, rfl⟩ | ⟨-, -, -, rfl⟩ | ⟨k, j, n, hk, hj, hn, -, -, -, -, -, ⟨-, -, rfl⟩ | ⟨-, -, rfl, ⟨-, rfl⟩ | ⟨g, rfl⟩⟩⟩
  · exact inv_tel (inv_trn hi)
  · exact inv_tel (inv_trn hi)
  · exact inv_tel (inv_trn hi)
  · exact inv_tel (inv_trn hi)
  · rw [← anF_trn] at g ⊢
    exact inv_car (inv_trn hi) g
theorem nx_text {v u : St} {x y : Int32} {p0 : Int64} {n : Int32} {c : Nat} {r : Int32} (hi : Inv v) (h : spText v x y p0 n c r u) : Inv u := by
  rcases h with ⟨-, rfl, -⟩ | ⟨-, rfl, -⟩ | ⟨k, j, w, hk, hj, -, -, -, -, ⟨-, rfl, -⟩ | ⟨-, rfl, -⟩ | ⟨-, -, b, -, rfl⟩⟩
  · exact hi
  · exact hi
  · exact hi
  · exact hi
  · exact inv_len hi b
theorem nx_tick {v u : St} {n : Int32} {c : Nat} {r : Int32} (hi : Inv v) (h : spTick v n c r u) : Inv u := by
  rcases h with ⟨-, rfl, -⟩ | ⟨-, p, -, rfl⟩
  · exact hi
  · exact inv_tick hi p
theorem v00_ka : ∀ k, k < 8 → fil (fun _ => 0) (-1) 8 k = -1 := by decide
theorem inv_v00 : Inv v00 := by
  have z1 : (0 : Int32).toNatClampNeg ≤ 30 := by decide
  have z2 : (0 : Int32).toNatClampNeg ≤ 16 := by decide
  have z3 : -1000 ≤ (0 : Int32).toInt ∧ (0 : Int32).toInt ≤ 1000 := by decide
  have z4 : -1000000000 ≤ (0 : Int32).toInt ∧ (0 : Int32).toInt ≤ 1000000000 := by decide
  refine ⟨fun k hk => Or.inl (v00_ka k hk), ⟨fun _ => 0, fun k j hk hj h => ?_⟩, fun k _ => ⟨z1, rfl⟩, fun _ _ => Or.inl rfl, fun _ _ => ⟨z2, rfl⟩, ⟨by decide, rfl⟩, fun _ _ => ⟨0, by decide, rfl⟩, fun _ _ => ⟨z3, z3.1, z3.2⟩, fun _ _ => z4, fun k j _ hj => ?_, ⟨by decide, by decide⟩⟩
  · exact absurd ((v00_ka k hk).symm.trans h).symm (nI_nm (by omega))
  · exact absurd (show j < 0 from hj) (Nat.not_lt_zero _)
