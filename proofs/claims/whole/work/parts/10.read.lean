theorem slA_post {v : St} {k j : Nat} {r : Int32} (hi : Inv v) (hk : k < 8) (hj : j < mN v k) (h : (r = -1 ∧ ¬ isS v (zka v k) (zab v (k * 30 + j))) ∨ ∃ k2 j2, k2 < 8 ∧ j2 < mN v k2 ∧ zka v k = nI k2 ∧ zab v (k * 30 + j) = nI j2 ∧ r = nI (k2 * 30 + j2)) : (r = -1 ∧ zka v k = -1) ∨ ∃ k2 j2, k2 < 8 ∧ j2 < mN v k2 ∧ zka v k = nI k2 ∧ zab v (k * 30 + j) = nI j2 ∧ r = nI (k2 * 30 + j2) := by
  rcases h with ⟨h1, h2⟩ | h
  · rcases hi.ab k j hk hj with ⟨h3, _⟩ | ⟨k2, j2, a, b, c, d⟩
    · exact Or.inl ⟨h1, h3⟩
    · exact absurd ⟨k2, j2, a, b, c, d⟩ h2
  · exact Or.inr h
set_option maxHeartbeats 4000000 in
set_option maxRecDepth 100000 in
theorem c_d_isSubject (l : Launch) (dC : Nat → ClassId) (dI : Nat → Nat → Nat) (q : Nat → Nat) (cI cZ cB : ClassId) (v : St) (hi : Inv v) (x y : Int32) : Met l y_d_isSubject (Cond.code y_d_isSubject b_d_isSubject 3 (some .boolean) :: CW) { frames := 1, cells := 0, slots := 0, locals := 20 } (va_Pc [.ref (q 0), .int x, .int y] (RdC (dC, dI) (wC q cI cZ cB v) (tyC cI cZ cB))) (vp_Si (fun r : Int32 => (r = 1 ∧ isS v x y) ∨ (r = 0 ∧ ¬ isS v x y))) 0 0 (fun _ => False) := by
  refine cx_met (by decide) (Nat.le_of_ble_eq_true rfl) ?_
  intro p e s m below meth c hx hb hr hml hts hown hlocks hnm hC ls hl
  obtain ⟨hP, hK, hN⟩ := hC
  have hown : s.vm.findClass "ServiceDesk" = some m.cls := hown
  have hl : lv_has ls 3 [(0, .ref (q 0)), (1, .int x), (2, .int y)] := hl
  refine lv_iload_n hx hb z_d_isSubject_0 rfl (lv_at hl 1 rfl) ?_
  refine rdSi (As := [.int x]) (rest := []) ⟨hx, hb, hml, hown, hts⟩ (c_d_isKind l x) mw_151 mw_149 mw_150 mw_1 yd_d_isKind ⟨⟨rfl, rfl⟩, Nat.le_of_ble_eq_true rfl, Nat.le_of_ble_eq_true rfl⟩ ⟨Nat.zero_le _, Nat.zero_le _⟩ (pre_pure) rfl hl.1 rfl (Nat.le_of_ble_eq_true rfl) z_d_isSubject_1 (fun r_1 h_2 => ?_)
  rcases h_2 with ⟨rfl, h_2⟩ | ⟨rfl, h_2⟩
  · obtain ⟨k, hk, rfl⟩ := h_2
    refine lv_if_eq (tgt := 28) hx hb z_d_isSubject_4 (by decide) (fun c9 => absurd c9 (by decide)) (fun _ => ?_)
    refine lv_iload_n hx hb z_d_isSubject_7 rfl (lv_at hl 2 rfl) ?_
    refine lv_if_lt (tgt := 28) hx hb z_d_isSubject_8 (by decide) (fun c_8 => ?_) (fun c_8 => ?_)
    · refine lv_iconst (v := 0) hx hb z_d_isSubject_28 (by decide) ?_
      exact W.zret (v := 0) hx hb hr rfl (fun t ht _ => ⟨0, rfl, Or.inr ⟨rfl, isS_no2 hi c_8⟩, ht⟩) t_nil z_d_isSubject_29
    · refine lv_iload_n hx hb z_d_isSubject_11 rfl (lv_at hl 2 rfl) ?_
      refine lv_aload_n hx hb z_d_isSubject_12 rfl (lv_at hl 0 rfl) ?_
      refine va_get (D := (dC, dI)) (ci := 3) (v := .ref (q 6)) (C := R3) (T := T3) (N := 6) hx hb hts (cw_sub iC3) hown hK hP 0 rfl rfl 2 (by decide) (hts _ (cw_in mw_94 rfl)) (fun _ h9 => h9) rfl z_d_isSubject_13 ?_
      refine va_getN (D := (dC, dI)) (ci := 1) (v := .ref (q 7)) (C := R1) (T := T1) (N := 6) hx hb hts (cw_sub iC1) hown hK hP 6 rfl rfl 0 (by decide) (va_Nw.use rfl (hN _ nw_5)) (fun _ h9 => h9) rfl z_d_isSubject_16 ?_
      refine lv_iload_n hx hb z_d_isSubject_19 rfl (lv_at hl 1 rfl) ?_
      refine xa_i hx hb hK hP 7 0 rfl rfl (k := k) (y := nI (mN v k)) (hk) (by decide) ((hi.mk k hk).2) z_d_isSubject_20 ?_
      refine lv_icmp_ge (tgt := 28) hx hb z_d_isSubject_21 (by decide) (fun c_21 => ?_) (fun c_21 => ?_)
      · refine lv_iconst (v := 0) hx hb z_d_isSubject_28 (by decide) ?_
        exact W.zret (v := 0) hx hb hr rfl (fun t ht _ => ⟨0, rfl, Or.inr ⟨rfl, isS_no3 hi hk c_21⟩, ht⟩) t_nil z_d_isSubject_29
      · refine lv_iconst (v := 1) hx hb z_d_isSubject_24 (by decide) ?_
        refine lv_goto (tgt := 29) hx hb z_d_isSubject_25 (by decide) ?_
        exact W.zret (v := 1) hx hb hr rfl (fun t ht _ => ⟨1, rfl, Or.inl ⟨rfl, isS_yes hi hk c_8 c_21⟩, ht⟩) t_nil z_d_isSubject_29
  · refine lv_if_eq (tgt := 28) hx hb z_d_isSubject_4 (by decide) (fun _ => ?_) (fun c9 => absurd (by decide) c9)
    refine lv_iconst (v := 0) hx hb z_d_isSubject_28 (by decide) ?_
    exact W.zret (v := 0) hx hb hr rfl (fun t ht _ => ⟨0, rfl, Or.inr ⟨rfl, isS_no1 h_2⟩, ht⟩) t_nil z_d_isSubject_29

set_option maxHeartbeats 4000000 in
set_option maxRecDepth 100000 in
theorem c_d_canBeAbove (l : Launch) (dC : Nat → ClassId) (dI : Nat → Nat → Nat) (q : Nat → Nat) (cI cZ cB : ClassId) (v : St) (hi : Inv v) (k : Nat) (hk : k < 8) (a : Int32) : Met l y_d_canBeAbove (Cond.code y_d_canBeAbove b_d_canBeAbove 4 (some .boolean) :: CW) { frames := 2, cells := 0, slots := 0, locals := 45 } (va_Pc [.ref (q 0), .int (nI k), .int a] (RdC (dC, dI) (wC q cI cZ cB v) (tyC cI cZ cB))) (vp_Si (fun r : Int32 => (r = 1 ∧ canA v k a) ∨ (r = 0 ∧ ¬ canA v k a))) 0 0 (fun _ => False) := by
  refine cx_met (by decide) (Nat.le_of_ble_eq_true rfl) ?_
  intro p e s m below meth c hx hb hr hml hts hown hlocks hnm hC ls hl
  obtain ⟨hP, hK, hN⟩ := hC
  have hown : s.vm.findClass "ServiceDesk" = some m.cls := hown
  have hl : lv_has ls 4 [(0, .ref (q 0)), (1, .int (nI k)), (2, .int a)] := hl
  refine lv_aload_n hx hb z_d_canBeAbove_0 rfl (lv_at hl 0 rfl) ?_
  refine va_get (D := (dC, dI)) (ci := 3) (v := .ref (q 1)) (C := R3) (T := T3) (N := 6) hx hb hts (cw_sub iC3) hown hK hP 0 rfl rfl 0 (by decide) (hts _ (cw_in mw_92 rfl)) (fun _ h9 => h9) rfl z_d_canBeAbove_1 ?_
  refine lv_iload_n hx hb z_d_canBeAbove_4 rfl (lv_at hl 1 rfl) ?_
  refine xa_i hx hb hK hP 1 0 rfl rfl (k := k) (y := zka v k) (hk) (by decide) (rfl) z_d_canBeAbove_5 ?_
  refine lv_istore_n (lv' := [(3, .int (zka v k)), (0, .ref (q 0)), (1, .int (nI k)), (2, .int a)]) hx hb z_d_canBeAbove_6 rfl hl (by decide) rfl (fun ls hl => ?_)
  refine lv_iload_n hx hb z_d_canBeAbove_7 rfl (lv_at hl 0 rfl) ?_
  refine lv_iconst (v := (-1)) hx hb z_d_canBeAbove_8 (by decide) ?_
  refine lv_icmp_ne (tgt := 25) hx hb z_d_canBeAbove_9 (by decide) (fun c_9 => ?_) (fun c_9 => ?_)
  · refine lv_aload_n hx hb z_d_canBeAbove_25 rfl (lv_at hl 1 rfl) ?_
    refine lv_iload_n hx hb z_d_canBeAbove_26 rfl (lv_at hl 0 rfl) ?_
    refine lv_iload_n hx hb z_d_canBeAbove_27 rfl (lv_at hl 3 rfl) ?_
    refine rdVi (As := [.int (zka v k), .int a]) (rest := []) ⟨hx, hb, hml, hown, hts⟩ (c_d_isSubject l dC dI q cI cZ cB v hi (zka v k) a) mw_255 mw_252 mw_254 mp_7 mw_1 rfl yd_d_isSubject ⟨⟨rfl, rfl⟩, Nat.le_of_ble_eq_true rfl, Nat.le_of_ble_eq_true rfl⟩ ⟨Nat.zero_le _, Nat.zero_le _⟩ (RdC.preV hP hK hN (ci := 3) (q0 := 0) rfl rfl) rfl hl.1 rfl (Nat.le_of_ble_eq_true rfl) z_d_canBeAbove_28 (fun r_1 h_2 => ?_)
    rcases h_2 with ⟨rfl, h_2⟩ | ⟨rfl, h_2⟩
    · exact W.zret (v := 1) hx hb hr rfl (fun t ht _ => ⟨1, rfl, Or.inl ⟨rfl, Or.inr ⟨c_9, h_2⟩⟩, ht⟩) t_nil z_d_canBeAbove_31
    · exact W.zret (v := 0) hx hb hr rfl (fun t ht _ => ⟨0, rfl, Or.inr ⟨rfl, fun h => h.elim (fun z => c_9 z.1) (fun z => h_2 z.2)⟩, ht⟩) t_nil z_d_canBeAbove_31
  · refine lv_iload_n hx hb z_d_canBeAbove_12 rfl (lv_at hl 3 rfl) ?_
    refine lv_iconst (v := (-1)) hx hb z_d_canBeAbove_13 (by decide) ?_
    refine lv_icmp_ne (tgt := 21) hx hb z_d_canBeAbove_14 (by decide) (fun c_14 => ?_) (fun c_14 => ?_)
    · refine lv_iconst (v := 0) hx hb z_d_canBeAbove_21 (by decide) ?_
      refine lv_goto (tgt := 31) hx hb z_d_canBeAbove_22 (by decide) ?_
      exact W.zret (v := 0) hx hb hr rfl (fun t ht _ => ⟨0, rfl, Or.inr ⟨rfl, fun h => h.elim (fun z => c_14 z.2) (fun z => z.1 c_9)⟩, ht⟩) t_nil z_d_canBeAbove_31
    · refine lv_iconst (v := 1) hx hb z_d_canBeAbove_17 (by decide) ?_
      refine lv_goto (tgt := 31) hx hb z_d_canBeAbove_18 (by decide) ?_
      exact W.zret (v := 1) hx hb hr rfl (fun t ht _ => ⟨1, rfl, Or.inl ⟨rfl, Or.inl ⟨c_9, c_14⟩⟩, ht⟩) t_nil z_d_canBeAbove_31

set_option maxHeartbeats 4000000 in
set_option maxRecDepth 100000 in
theorem c_d_isAtOrUnder (l : Launch) (dC : Nat → ClassId) (dI : Nat → Nat → Nat) (q : Nat → Nat) (cI cZ cB : ClassId) (v : St) (hi : Inv v) (x : Int32) (hx9 : x = -1 ∨ isK x) (g : Nat) (hg : g < 8) : Met l y_d_isAtOrUnder (Cond.code y_d_isAtOrUnder b_d_isAtOrUnder 5 (some .boolean) :: CW) { frames := 0, cells := 0, slots := 0, locals := 0 } (va_Pc [.ref (q 0), .int x, .int (nI g)] (RdC (dC, dI) (wC q cI cZ cB v) (tyC cI cZ cB))) (vp_Si (fun r : Int32 => (r = 1 ∧ reaU v x (nI g)) ∨ (r = 0 ∧ ¬ reaU v x (nI g)))) 0 0 (fun _ => False) := by
  refine cx_met (by decide) (Nat.le_of_ble_eq_true rfl) ?_
  intro p e s m below meth c hx hb hr hml hts hown hlocks hnm hC ls hl
  obtain ⟨hP, hK, hN⟩ := hC
  have hown : s.vm.findClass "ServiceDesk" = some m.cls := hown
  have hl : lv_has ls 5 [(0, .ref (q 0)), (1, .int x), (2, .int (nI g))] := hl
  refine lv_iload_n hx hb z_d_isAtOrUnder_0 rfl (lv_at hl 1 rfl) ?_
  refine lv_istore_n (lv' := [(3, .int x), (0, .ref (q 0)), (1, .int x), (2, .int (nI g))]) hx hb z_d_isAtOrUnder_1 rfl hl (by decide) rfl (fun ls hl => ?_)
  refine lv_iconst (v := 0) hx hb z_d_isAtOrUnder_2 (by decide) ?_
  refine lv_istore (lv' := [(4, .int 0), (3, .int x), (0, .ref (q 0)), (1, .int x), (2, .int (nI g))]) hx hb z_d_isAtOrUnder_3 hl (by decide) rfl (fun ls hl => ?_)
  refine rd_loopI (nL := 5) (8) (fun i => ∀ j, j < i → chA (zka v) x j ≠ -1 ∧ chA (zka v) x j ≠ nI g) (fun i => [(0, .ref (q 0)), (1, .int x), (2, .int (nI g)), (3, .int (chA (zka v) x i)), (4, .int (nI i))]) ?_ ls (fun j h => absurd h (Nat.not_lt_zero j)) (lv_sub hl [2, 3, 4, 1, 0] rfl)
  intro i ls hle hI hl ih
  have hl : lv_has ls 5 [(0, .ref (q 0)), (1, .int x), (2, .int (nI g)), (3, .int (chA (zka v) x i)), (4, .int (nI i))] := hl
  refine lv_iload hx hb z_d_isAtOrUnder_5 (lv_at hl 4 rfl) ?_
  refine lv_bipush (v := 8) hx hb z_d_isAtOrUnder_7 (by decide) ?_
  refine lv_icmp_ge (tgt := 37) hx hb z_d_isAtOrUnder_9 (by decide) (fun c_9 => ?_) (fun c_9 => ?_)
  · refine lv_iconst (v := 0) hx hb z_d_isAtOrUnder_37 (by decide) ?_
    exact W.zret (v := 0) hx hb hr rfl (fun t ht _ => ⟨0, rfl, (chA_end hi hx9 hg (fun j hj => hI j (by have := eq_of_nle hle (by decide) c_9; omega))).elim, ht⟩) t_nil z_d_isAtOrUnder_38
  · have hlt : i < 8 := nlt_of (b := 8) (by omega) c_9
    refine lv_iload_n hx hb z_d_isAtOrUnder_12 rfl (lv_at hl 3 rfl) ?_
    refine lv_iconst (v := (-1)) hx hb z_d_isAtOrUnder_13 (by decide) ?_
    refine lv_icmp_eq (tgt := 37) hx hb z_d_isAtOrUnder_14 (by decide) (fun c_14 => ?_) (fun c_14 => ?_)
    · refine lv_iconst (v := 0) hx hb z_d_isAtOrUnder_37 (by decide) ?_
      exact W.zret (v := 0) hx hb hr rfl (fun t ht _ => ⟨0, rfl, Or.inr ⟨rfl, reaU_no (fun z => nI_pos (n := g) (by omega) (by rw [z]; decide)) c_14 (fun j hj => (hI j hj).2)⟩, ht⟩) t_nil z_d_isAtOrUnder_38
    · refine lv_iload_n hx hb z_d_isAtOrUnder_17 rfl (lv_at hl 3 rfl) ?_
      refine lv_iload_n hx hb z_d_isAtOrUnder_18 rfl (lv_at hl 2 rfl) ?_
      refine lv_icmp_ne (tgt := 24) hx hb z_d_isAtOrUnder_19 (by decide) (fun c_19 => ?_) (fun c_19 => ?_)
      · obtain ⟨k, hk, e9⟩ := (chA_kind hi hx9 i (fun j hj => (hI j hj).1)).resolve_left c_14
        have e8 : chA (zka v) x (i + 1) = zka v k := by show zka v (chA (zka v) x i).toNatClampNeg = _; rw [e9, nI_clamp (by omega)]
        rw [e9] at hl
        refine lv_aload_n hx hb z_d_isAtOrUnder_24 rfl (lv_at hl 0 rfl) ?_
        refine va_get (D := (dC, dI)) (ci := 3) (v := .ref (q 1)) (C := R3) (T := T3) (N := 6) hx hb hts (cw_sub iC3) hown hK hP 0 rfl rfl 0 (by decide) (hts _ (cw_in mw_92 rfl)) (fun _ h9 => h9) rfl z_d_isAtOrUnder_25 ?_
        refine lv_iload_n hx hb z_d_isAtOrUnder_28 rfl (lv_at hl 3 rfl) ?_
        refine xa_i hx hb hK hP 1 0 rfl rfl (k := k) (y := chA (zka v) x (i + 1)) (hk) (by decide) (e8.symm) z_d_isAtOrUnder_29 ?_
        refine lv_istore_n (lv' := [(3, .int (chA (zka v) x (i + 1))), (0, .ref (q 0)), (1, .int x), (2, .int (nI g)), (4, .int (nI i))]) hx hb z_d_isAtOrUnder_30 rfl hl (by decide) rfl (fun ls hl => ?_)
        refine lv_iinc (v := nI (i + 1)) (lv' := [(4, .int (nI (i + 1))), (3, .int (chA (zka v) x (i + 1))), (0, .ref (q 0)), (1, .int x), (2, .int (nI g))]) hx hb z_d_isAtOrUnder_31 hl (k := 4) rfl (by exact nI_1 i) (by decide) rfl (fun ls hl => ?_)
        refine lv_goto (tgt := 5) hx hb z_d_isAtOrUnder_34 (by decide) ?_
        exact ih ls hlt (fun j hj => (Nat.lt_succ_iff_lt_or_eq.mp hj).elim (fun h => hI j h) (fun h => by rw [h]; exact ⟨c_14, c_19⟩)) (lv_sub hl [2, 3, 4, 1, 0] rfl)
      · refine lv_iconst (v := 1) hx hb z_d_isAtOrUnder_22 (by decide) ?_
        exact W.zret (v := 1) hx hb hr rfl (fun t ht _ => ⟨1, rfl, Or.inl ⟨rfl, reaU_yes c_19 (fun j hj => (hI j hj).1)⟩, ht⟩) t_nil z_d_isAtOrUnder_23

set_option maxHeartbeats 4000000 in
set_option maxRecDepth 100000 in
theorem c_d_slotOrNone (l : Launch) (dC : Nat → ClassId) (dI : Nat → Nat → Nat) (q : Nat → Nat) (cI cZ cB : ClassId) (v : St) (hi : Inv v) (x y : Int32) : Met l y_d_slotOrNone (Cond.code y_d_slotOrNone b_d_slotOrNone 3 (some .int) :: CW) { frames := 2, cells := 0, slots := 0, locals := 45 } (va_Pc [.ref (q 0), .int x, .int y] (RdC (dC, dI) (wC q cI cZ cB v) (tyC cI cZ cB))) (vp_Si (fun r : Int32 => (r = -1 ∧ ¬ isS v x y) ∨ ∃ k j, k < 8 ∧ j < mN v k ∧ x = nI k ∧ y = nI j ∧ r = nI (k * 30 + j))) 0 0 (fun _ => False) := by
  refine cx_met (by decide) (Nat.le_of_ble_eq_true rfl) ?_
  intro p e s m below meth c hx hb hr hml hts hown hlocks hnm hC ls hl
  obtain ⟨hP, hK, hN⟩ := hC
  have hown : s.vm.findClass "ServiceDesk" = some m.cls := hown
  have hl : lv_has ls 3 [(0, .ref (q 0)), (1, .int x), (2, .int y)] := hl
  refine lv_aload_n hx hb z_d_slotOrNone_0 rfl (lv_at hl 0 rfl) ?_
  refine lv_iload_n hx hb z_d_slotOrNone_1 rfl (lv_at hl 1 rfl) ?_
  refine lv_iload_n hx hb z_d_slotOrNone_2 rfl (lv_at hl 2 rfl) ?_
  refine rdVi (As := [.int x, .int y]) (rest := []) ⟨hx, hb, hml, hown, hts⟩ (c_d_isSubject l dC dI q cI cZ cB v hi x y) mw_255 mw_252 mw_254 mp_7 mw_1 rfl yd_d_isSubject ⟨⟨rfl, rfl⟩, Nat.le_of_ble_eq_true rfl, Nat.le_of_ble_eq_true rfl⟩ ⟨Nat.zero_le _, Nat.zero_le _⟩ (RdC.preV hP hK hN (ci := 3) (q0 := 0) rfl rfl) rfl hl.1 rfl (Nat.le_of_ble_eq_true rfl) z_d_slotOrNone_3 (fun r_1 h_2 => ?_)
  rcases h_2 with ⟨rfl, h_2⟩ | ⟨rfl, h_2⟩
  · obtain ⟨k, j, hk, hj, rfl, rfl⟩ := h_2
    refine lv_if_eq (tgt := 17) hx hb z_d_slotOrNone_6 (by decide) (fun c9 => absurd c9 (by decide)) (fun _ => ?_)
    refine lv_iload_n hx hb z_d_slotOrNone_9 rfl (lv_at hl 1 rfl) ?_
    refine lv_iload_n hx hb z_d_slotOrNone_10 rfl (lv_at hl 2 rfl) ?_
    refine rdSi (As := [.int (nI k), .int (nI j)]) (rest := []) ⟨hx, hb, hml, hown, hts⟩ (c_d_slotOf l k j) mw_125 mw_261 mw_124 mw_1 yd_d_slotOf ⟨⟨rfl, rfl⟩, Nat.le_of_ble_eq_true rfl, Nat.le_of_ble_eq_true rfl⟩ ⟨Nat.zero_le _, Nat.zero_le _⟩ (pre_pure) rfl hl.1 rfl (Nat.le_of_ble_eq_true rfl) z_d_slotOrNone_11 (fun r_3 h_4 => ?_)
    subst h_4
    refine lv_goto (tgt := 18) hx hb z_d_slotOrNone_14 (by decide) ?_
    exact W.iret (v := nI (k * 30 + j)) hx hb hr (fun t ht _ => ⟨nI (k * 30 + j), rfl, Or.inr ⟨k, j, hk, hj, rfl, rfl, rfl⟩, ht⟩) t_nil z_d_slotOrNone_18
  · refine lv_if_eq (tgt := 17) hx hb z_d_slotOrNone_6 (by decide) (fun _ => ?_) (fun c9 => absurd (by decide) c9)
    refine lv_iconst (v := (-1)) hx hb z_d_slotOrNone_17 (by decide) ?_
    exact W.iret (v := (-1)) hx hb hr (fun t ht _ => ⟨(-1), rfl, Or.inl ⟨rfl, h_2⟩, ht⟩) t_nil z_d_slotOrNone_18

set_option maxHeartbeats 4000000 in
set_option maxRecDepth 100000 in
theorem c_d_slotAbove (l : Launch) (dC : Nat → ClassId) (dI : Nat → Nat → Nat) (q : Nat → Nat) (cI cZ cB : ClassId) (v : St) (hi : Inv v) (k j : Nat) (hk : k < 8) (hj : j < mN v k) : Met l y_d_slotAbove (Cond.code y_d_slotAbove b_d_slotAbove 3 (some .int) :: CW) { frames := 3, cells := 0, slots := 0, locals := 70 } (va_Pc [.ref (q 0), .int (nI k), .int (nI j)] (RdC (dC, dI) (wC q cI cZ cB v) (tyC cI cZ cB))) (vp_Si (fun r : Int32 => (r = -1 ∧ zka v k = -1) ∨ ∃ k2 j2, k2 < 8 ∧ j2 < mN v k2 ∧ zka v k = nI k2 ∧ zab v (k * 30 + j) = nI j2 ∧ r = nI (k2 * 30 + j2))) 0 0 (fun _ => False) := by
  refine cx_met (by decide) (Nat.le_of_ble_eq_true rfl) ?_
  intro p e s m below meth c hx hb hr hml hts hown hlocks hnm hC ls hl
  obtain ⟨hP, hK, hN⟩ := hC
  have hown : s.vm.findClass "ServiceDesk" = some m.cls := hown
  have hl : lv_has ls 3 [(0, .ref (q 0)), (1, .int (nI k)), (2, .int (nI j))] := hl
  have hM := (hi.mk k hk).1
  refine lv_aload_n hx hb z_d_slotAbove_0 rfl (lv_at hl 0 rfl) ?_
  refine lv_aload_n hx hb z_d_slotAbove_1 rfl (lv_at hl 0 rfl) ?_
  refine va_get (D := (dC, dI)) (ci := 3) (v := .ref (q 1)) (C := R3) (T := T3) (N := 6) hx hb hts (cw_sub iC3) hown hK hP 0 rfl rfl 0 (by decide) (hts _ (cw_in mw_92 rfl)) (fun _ h9 => h9) rfl z_d_slotAbove_2 ?_
  refine lv_iload_n hx hb z_d_slotAbove_5 rfl (lv_at hl 1 rfl) ?_
  refine xa_i hx hb hK hP 1 0 rfl rfl (k := k) (y := zka v k) (hk) (by decide) (rfl) z_d_slotAbove_6 ?_
  refine lv_aload_n hx hb z_d_slotAbove_7 rfl (lv_at hl 0 rfl) ?_
  refine va_get (D := (dC, dI)) (ci := 3) (v := .ref (q 6)) (C := R3) (T := T3) (N := 6) hx hb hts (cw_sub iC3) hown hK hP 0 rfl rfl 2 (by decide) (hts _ (cw_in mw_94 rfl)) (fun _ h9 => h9) rfl z_d_slotAbove_8 ?_
  refine va_getN (D := (dC, dI)) (ci := 1) (v := .ref (q 8)) (C := R1) (T := T1) (N := 6) hx hb hts (cw_sub iC1) hown hK hP 6 rfl rfl 1 (by decide) (va_Nw.use rfl (hN _ nw_6)) (fun _ h9 => h9) rfl z_d_slotAbove_11 ?_
  refine lv_iload_n hx hb z_d_slotAbove_14 rfl (lv_at hl 1 rfl) ?_
  refine lv_iload_n hx hb z_d_slotAbove_15 rfl (lv_at hl 2 rfl) ?_
  refine rdSi (As := [.int (nI k), .int (nI j)]) (rest := [.ref (q 8), .int (zka v k), .ref (q 0)]) ⟨hx, hb, hml, hown, hts⟩ (c_d_slotOf l k j) mw_125 mw_261 mw_124 mw_1 yd_d_slotOf ⟨⟨rfl, rfl⟩, Nat.le_of_ble_eq_true rfl, Nat.le_of_ble_eq_true rfl⟩ ⟨Nat.zero_le _, Nat.zero_le _⟩ (pre_pure) rfl hl.1 rfl (Nat.le_of_ble_eq_true rfl) z_d_slotAbove_16 (fun r_1 h_2 => ?_)
  subst h_2
  refine xa_i hx hb hK hP 8 0 rfl rfl (k := (k * 30 + j)) (y := zab v (k * 30 + j)) (by omega) (by decide) (rfl) z_d_slotAbove_19 ?_
  refine rdVi (As := [.int (zka v k), .int (zab v (k * 30 + j))]) (rest := []) ⟨hx, hb, hml, hown, hts⟩ (c_d_slotOrNone l dC dI q cI cZ cB v hi (zka v k) (zab v (k * 30 + j))) mw_260 mw_257 mw_259 mp_8 mw_1 rfl yd_d_slotOrNone ⟨⟨rfl, rfl⟩, Nat.le_of_ble_eq_true rfl, Nat.le_of_ble_eq_true rfl⟩ ⟨Nat.zero_le _, Nat.zero_le _⟩ (RdC.preV hP hK hN (ci := 3) (q0 := 0) rfl rfl) rfl hl.1 rfl (Nat.le_of_ble_eq_true rfl) z_d_slotAbove_20 (fun r_3 h_4 => ?_)
  exact W.iret (v := r_3) hx hb hr (fun t ht _ => ⟨r_3, rfl, slA_post hi hk hj h_4, ht⟩) t_nil z_d_slotAbove_23

set_option maxHeartbeats 4000000 in
set_option maxRecDepth 100000 in
theorem c_s_byteAt (l : Launch) (dC : Nat → ClassId) (dI : Nat → Nat → Nat) (q : Nat → Nat) (cI cZ cB : ClassId) (v : St) (g i : Nat) (h9 : g * 16 + i < 3840) : Met l y_s_byteAt (Cond.code y_s_byteAt b_s_byteAt 3 (some .int) :: CW) { frames := 0, cells := 0, slots := 0, locals := 0 } (va_Pc [.ref (q 6), .int (nI g), .int (nI i)] (RdC (dC, dI) (wC q cI cZ cB v) (tyC cI cZ cB))) (vp_Si (fun r : Int32 => r = ztx v (g * 16 + i) &&& 255)) 0 0 (fun _ => False) := by
  refine cx_met (by decide) (Nat.le_of_ble_eq_true rfl) ?_
  intro p e s m below meth c hx hb hr hml hts hown hlocks hnm hC ls hl
  obtain ⟨hP, hK, hN⟩ := hC
  have hown : s.vm.findClass "ServiceDesk$Subjects" = some m.cls := hown
  have hl : lv_has ls 3 [(0, .ref (q 6)), (1, .int (nI g)), (2, .int (nI i))] := hl
  refine lv_aload_n hx hb z_s_byteAt_0 rfl (lv_at hl 0 rfl) ?_
  refine va_get (D := (dC, dI)) (ci := 1) (v := .ref (q 12)) (C := R1) (T := T1) (N := 6) hx hb hts (cw_sub iC1) hown hK hP 6 rfl rfl 5 (by decide) (hts _ (cw_in mw_58 rfl)) (fun _ h9 => h9) rfl z_s_byteAt_1 ?_
  refine lv_iload_n hx hb z_s_byteAt_4 rfl (lv_at hl 1 rfl) ?_
  refine lv_bipush (v := 16) hx hb z_s_byteAt_5 (by decide) ?_
  refine lv_imul hx hb z_s_byteAt_7 ?_
  refine lv_iload_n hx hb z_s_byteAt_8 rfl (lv_at hl 2 rfl) ?_
  refine lv_iadd hx hb z_s_byteAt_9 ?_
  rw [mul16_nI]
  refine xa_b hx hb hK hP 12 2 rfl rfl (k := (g * 16 + i)) (y := ztx v (g * 16 + i)) (h9) (by decide) (rfl) z_s_byteAt_10 ?_
  refine lv_sipush (v := 255) hx hb z_s_byteAt_11 (by decide) ?_
  refine lv_iand hx hb z_s_byteAt_14 ?_
  exact W.iret (v := (ztx v (g * 16 + i)) &&& 255) hx hb hr (fun t ht _ => ⟨(ztx v (g * 16 + i)) &&& 255, rfl, rfl, ht⟩) t_nil z_s_byteAt_15

set_option maxHeartbeats 4000000 in
set_option maxRecDepth 100000 in
theorem c_s_openOf (l : Launch) (dC : Nat → ClassId) (dI : Nat → Nat → Nat) (q : Nat → Nat) (cI cZ cB : ClassId) (v : St) (hi : Inv v) (k : Nat) (hk : k < 8) : Met l y_s_openOf (Cond.code y_s_openOf b_s_openOf 4 (some .int) :: CW) { frames := 1, cells := 0, slots := 0, locals := 21 } (va_Pc [.ref (q 6), .int (nI k)] (RdC (dC, dI) (wC q cI cZ cB v) (tyC cI cZ cB))) (vp_Si (fun r : Int32 => r = nI (opC v k (mN v k)))) 0 0 (fun _ => False) := by
  refine cx_met (by decide) (Nat.le_of_ble_eq_true rfl) ?_
  intro p e s m below meth c hx hb hr hml hts hown hlocks hnm hC ls hl
  obtain ⟨hP, hK, hN⟩ := hC
  have hown : s.vm.findClass "ServiceDesk$Subjects" = some m.cls := hown
  have hl : lv_has ls 4 [(0, .ref (q 6)), (1, .int (nI k))] := hl
  have hM := (hi.mk k hk).1
  refine lv_iconst (v := 0) hx hb z_s_openOf_0 (by decide) ?_
  refine lv_istore_n (lv' := [(2, .int 0), (0, .ref (q 6)), (1, .int (nI k))]) hx hb z_s_openOf_1 rfl hl (by decide) rfl (fun ls hl => ?_)
  refine lv_iconst (v := 0) hx hb z_s_openOf_2 (by decide) ?_
  refine lv_istore_n (lv' := [(3, .int 0), (2, .int 0), (0, .ref (q 6)), (1, .int (nI k))]) hx hb z_s_openOf_3 rfl hl (by decide) rfl (fun ls hl => ?_)
  refine rd_loopI (nL := 4) (mN v k) (fun _ => True) (fun i => [(0, .ref (q 6)), (1, .int (nI k)), (2, .int (nI (opC v k i))), (3, .int (nI i))]) ?_ ls trivial (lv_sub hl [2, 3, 1, 0] rfl)
  intro i ls hle hI hl ih
  have hl : lv_has ls 4 [(0, .ref (q 6)), (1, .int (nI k)), (2, .int (nI (opC v k i))), (3, .int (nI i))] := hl
  refine lv_iload_n hx hb z_s_openOf_4 rfl (lv_at hl 3 rfl) ?_
  refine lv_aload_n hx hb z_s_openOf_5 rfl (lv_at hl 0 rfl) ?_
  refine va_get (D := (dC, dI)) (ci := 1) (v := .ref (q 7)) (C := R1) (T := T1) (N := 6) hx hb hts (cw_sub iC1) hown hK hP 6 rfl rfl 0 (by decide) (hts _ (cw_in mw_48 rfl)) (fun _ h9 => h9) rfl z_s_openOf_6 ?_
  refine lv_iload_n hx hb z_s_openOf_9 rfl (lv_at hl 1 rfl) ?_
  refine xa_i hx hb hK hP 7 0 rfl rfl (k := k) (y := nI (mN v k)) (hk) (by decide) ((hi.mk k hk).2) z_s_openOf_10 ?_
  refine lv_icmp_ge (tgt := 36) hx hb z_s_openOf_11 (by decide) (fun c_11 => ?_) (fun c_11 => ?_)
  · refine lv_iload_n hx hb z_s_openOf_36 rfl (lv_at hl 2 rfl) ?_
    exact W.iret (v := nI (opC v k i)) hx hb hr (fun t ht _ => ⟨nI (opC v k i), rfl, by rw [eq_of_nle hle (by omega) c_11], ht⟩) t_nil z_s_openOf_37
  · have hlt : i < mN v k := nlt_of (by omega) c_11
    refine lv_aload_n hx hb z_s_openOf_14 rfl (lv_at hl 0 rfl) ?_
    refine va_get (D := (dC, dI)) (ci := 1) (v := .ref (q 9)) (C := R1) (T := T1) (N := 6) hx hb hts (cw_sub iC1) hown hK hP 6 rfl rfl 2 (by decide) (hts _ (cw_in mw_52 rfl)) (fun _ h9 => h9) rfl z_s_openOf_15 ?_
    refine lv_iload_n hx hb z_s_openOf_18 rfl (lv_at hl 1 rfl) ?_
    refine lv_iload_n hx hb z_s_openOf_19 rfl (lv_at hl 3 rfl) ?_
    refine rdSNi (As := [.int (nI k), .int (nI i)]) (rest := [.ref (q 9)]) ⟨hx, hb, hml, hown, hts⟩ (c_d_slotOf l k i) mw_125 (hN _ nw_14) mw_124 mw_1 yd_d_slotOf ⟨⟨rfl, rfl⟩, Nat.le_of_ble_eq_true rfl, Nat.le_of_ble_eq_true rfl⟩ ⟨Nat.zero_le _, Nat.zero_le _⟩ (pre_pure) rfl hl.1 rfl (Nat.le_of_ble_eq_true rfl) z_s_openOf_20 (fun r_1 h_2 => ?_)
    subst h_2
    refine xa_z hx hb hK hP 9 1 rfl rfl (k := (k * 30 + i)) (y := zop v (k * 30 + i)) (by omega) (by decide) (rfl) z_s_openOf_23 ?_
    refine lv_if_eq (tgt := 30) hx hb z_s_openOf_24 (by decide) (fun c_24 => ?_) (fun c_24 => ?_)
    · refine lv_iinc (v := nI (i + 1)) (lv' := [(3, .int (nI (i + 1))), (0, .ref (q 6)), (1, .int (nI k)), (2, .int (nI (opC v k i)))]) hx hb z_s_openOf_30 hl (k := 3) rfl (by exact nI_1 i) (by decide) rfl (fun ls hl => ?_)
      refine lv_goto (tgt := 4) hx hb z_s_openOf_33 (by decide) ?_
      exact ih ls hlt trivial (by show lv_has ls 4 [(0, .ref (q 6)), (1, .int (nI k)), (2, .int (nI (opC v k (i + 1)))), (3, .int (nI (i + 1)))]; rw [opC_0 c_24]; exact lv_sub hl [1, 2, 3, 0] rfl)
    · refine lv_iinc (v := nI (opC v k i + 1)) (lv' := [(2, .int (nI (opC v k i + 1))), (0, .ref (q 6)), (1, .int (nI k)), (3, .int (nI i))]) hx hb z_s_openOf_27 hl (k := 2) rfl (by exact nI_1 _) (by decide) rfl (fun ls hl => ?_)
      refine lv_iinc (v := nI (i + 1)) (lv' := [(3, .int (nI (i + 1))), (2, .int (nI (opC v k i + 1))), (0, .ref (q 6)), (1, .int (nI k))]) hx hb z_s_openOf_30 hl (k := 3) rfl (by exact nI_1 i) (by decide) rfl (fun ls hl => ?_)
      refine lv_goto (tgt := 4) hx hb z_s_openOf_33 (by decide) ?_
      exact ih ls hlt trivial (by show lv_has ls 4 [(0, .ref (q 6)), (1, .int (nI k)), (2, .int (nI (opC v k (i + 1)))), (3, .int (nI (i + 1)))]; rw [opC_1 c_24]; exact lv_sub hl [2, 3, 1, 0] rfl)

set_option maxHeartbeats 4000000 in
set_option maxRecDepth 100000 in
theorem c_s_openUnder (l : Launch) (dC : Nat → ClassId) (dI : Nat → Nat → Nat) (q : Nat → Nat) (cI cZ cB : ClassId) (v : St) (hi : Inv v) (k : Nat) (hk : k < 8) (a : Int32) : Met l y_s_openUnder (Cond.code y_s_openUnder b_s_openUnder 6 (some .int) :: CW) { frames := 1, cells := 0, slots := 0, locals := 21 } (va_Pc [.ref (q 6), .int (nI k), .int a] (RdC (dC, dI) (wC q cI cZ cB v) (tyC cI cZ cB))) (vp_Si (fun r : Int32 => r = nI (unC v k a (mN v k)))) 0 0 (fun _ => False) := by
  refine cx_met (by decide) (Nat.le_of_ble_eq_true rfl) ?_
  intro p e s m below meth c hx hb hr hml hts hown hlocks hnm hC ls hl
  obtain ⟨hP, hK, hN⟩ := hC
  have hown : s.vm.findClass "ServiceDesk$Subjects" = some m.cls := hown
  have hl : lv_has ls 6 [(0, .ref (q 6)), (1, .int (nI k)), (2, .int a)] := hl
  have hM := (hi.mk k hk).1
  refine lv_iconst (v := 0) hx hb z_s_openUnder_0 (by decide) ?_
  refine lv_istore_n (lv' := [(3, .int 0), (0, .ref (q 6)), (1, .int (nI k)), (2, .int a)]) hx hb z_s_openUnder_1 rfl hl (by decide) rfl (fun ls hl => ?_)
  refine lv_iconst (v := 0) hx hb z_s_openUnder_2 (by decide) ?_
  refine lv_istore (lv' := [(4, .int 0), (3, .int 0), (0, .ref (q 6)), (1, .int (nI k)), (2, .int a)]) hx hb z_s_openUnder_3 hl (by decide) rfl (fun ls hl => ?_)
  refine rd_loopI (nL := 6) (mN v k) (fun _ => True) (fun i => [(0, .ref (q 6)), (1, .int (nI k)), (2, .int a), (3, .int (nI (unC v k a i))), (4, .int (nI i))]) ?_ ls trivial (lv_sub hl [2, 3, 4, 1, 0] rfl)
  intro i ls hle hI hl ih
  have hl : lv_has ls 6 [(0, .ref (q 6)), (1, .int (nI k)), (2, .int a), (3, .int (nI (unC v k a i))), (4, .int (nI i))] := hl
  refine lv_iload hx hb z_s_openUnder_5 (lv_at hl 4 rfl) ?_
  refine lv_aload_n hx hb z_s_openUnder_7 rfl (lv_at hl 0 rfl) ?_
  refine va_get (D := (dC, dI)) (ci := 1) (v := .ref (q 7)) (C := R1) (T := T1) (N := 6) hx hb hts (cw_sub iC1) hown hK hP 6 rfl rfl 0 (by decide) (hts _ (cw_in mw_48 rfl)) (fun _ h9 => h9) rfl z_s_openUnder_8 ?_
  refine lv_iload_n hx hb z_s_openUnder_11 rfl (lv_at hl 1 rfl) ?_
  refine xa_i hx hb hK hP 7 0 rfl rfl (k := k) (y := nI (mN v k)) (hk) (by decide) ((hi.mk k hk).2) z_s_openUnder_12 ?_
  refine lv_icmp_ge (tgt := 54) hx hb z_s_openUnder_13 (by decide) (fun c_13 => ?_) (fun c_13 => ?_)
  · refine lv_iload_n hx hb z_s_openUnder_54 rfl (lv_at hl 3 rfl) ?_
    exact W.iret (v := nI (unC v k a i)) hx hb hr (fun t ht _ => ⟨nI (unC v k a i), rfl, by rw [eq_of_nle hle (by omega) c_13], ht⟩) t_nil z_s_openUnder_55
  · have hlt : i < mN v k := nlt_of (by omega) c_13
    refine lv_iload_n hx hb z_s_openUnder_16 rfl (lv_at hl 1 rfl) ?_
    refine lv_iload hx hb z_s_openUnder_17 (lv_at hl 4 rfl) ?_
    refine rdSNi (As := [.int (nI k), .int (nI i)]) (rest := []) ⟨hx, hb, hml, hown, hts⟩ (c_d_slotOf l k i) mw_125 (hN _ nw_14) mw_124 mw_1 yd_d_slotOf ⟨⟨rfl, rfl⟩, Nat.le_of_ble_eq_true rfl, Nat.le_of_ble_eq_true rfl⟩ ⟨Nat.zero_le _, Nat.zero_le _⟩ (pre_pure) rfl hl.1 rfl (Nat.le_of_ble_eq_true rfl) z_s_openUnder_19 (fun r_1 h_2 => ?_)
    subst h_2
    refine lv_istore (lv' := [(5, .int (nI (k * 30 + i))), (0, .ref (q 6)), (1, .int (nI k)), (2, .int a), (3, .int (nI (unC v k a i))), (4, .int (nI i))]) hx hb z_s_openUnder_22 hl (by decide) rfl (fun ls hl => ?_)
    refine lv_aload_n hx hb z_s_openUnder_24 rfl (lv_at hl 1 rfl) ?_
    refine va_get (D := (dC, dI)) (ci := 1) (v := .ref (q 9)) (C := R1) (T := T1) (N := 6) hx hb hts (cw_sub iC1) hown hK hP 6 rfl rfl 2 (by decide) (hts _ (cw_in mw_52 rfl)) (fun _ h9 => h9) rfl z_s_openUnder_25 ?_
    refine lv_iload hx hb z_s_openUnder_28 (lv_at hl 0 rfl) ?_
    refine xa_z hx hb hK hP 9 1 rfl rfl (k := (k * 30 + i)) (y := zop v (k * 30 + i)) (by omega) (by decide) (rfl) z_s_openUnder_30 ?_
    refine lv_if_eq (tgt := 48) hx hb z_s_openUnder_31 (by decide) (fun c_31 => ?_) (fun c_31 => ?_)
    · refine lv_iinc (v := nI (i + 1)) (lv' := [(4, .int (nI (i + 1))), (5, .int (nI (k * 30 + i))), (0, .ref (q 6)), (1, .int (nI k)), (2, .int a), (3, .int (nI (unC v k a i)))]) hx hb z_s_openUnder_48 hl (k := 5) rfl (by exact nI_1 i) (by decide) rfl (fun ls hl => ?_)
      refine lv_goto (tgt := 5) hx hb z_s_openUnder_51 (by decide) ?_
      exact ih ls hlt trivial (by show lv_has ls 6 [(0, .ref (q 6)), (1, .int (nI k)), (2, .int a), (3, .int (nI (unC v k a (i + 1)))), (4, .int (nI (i + 1)))]; rw [unC_0 c_31]; exact lv_sub hl [2, 3, 4, 5, 0] rfl)
    · refine lv_aload_n hx hb z_s_openUnder_34 rfl (lv_at hl 1 rfl) ?_
      refine va_get (D := (dC, dI)) (ci := 1) (v := .ref (q 8)) (C := R1) (T := T1) (N := 6) hx hb hts (cw_sub iC1) hown hK hP 6 rfl rfl 1 (by decide) (hts _ (cw_in mw_50 rfl)) (fun _ h9 => h9) rfl z_s_openUnder_35 ?_
      refine lv_iload hx hb z_s_openUnder_38 (lv_at hl 0 rfl) ?_
      refine xa_i hx hb hK hP 8 0 rfl rfl (k := (k * 30 + i)) (y := zab v (k * 30 + i)) (by omega) (by decide) (rfl) z_s_openUnder_40 ?_
      refine lv_iload_n hx hb z_s_openUnder_41 rfl (lv_at hl 3 rfl) ?_
      refine lv_icmp_ne (tgt := 48) hx hb z_s_openUnder_42 (by decide) (fun c_42 => ?_) (fun c_42 => ?_)
      · refine lv_iinc (v := nI (i + 1)) (lv' := [(4, .int (nI (i + 1))), (5, .int (nI (k * 30 + i))), (0, .ref (q 6)), (1, .int (nI k)), (2, .int a), (3, .int (nI (unC v k a i)))]) hx hb z_s_openUnder_48 hl (k := 5) rfl (by exact nI_1 i) (by decide) rfl (fun ls hl => ?_)
        refine lv_goto (tgt := 5) hx hb z_s_openUnder_51 (by decide) ?_
        exact ih ls hlt trivial (by show lv_has ls 6 [(0, .ref (q 6)), (1, .int (nI k)), (2, .int a), (3, .int (nI (unC v k a (i + 1)))), (4, .int (nI (i + 1)))]; rw [unC_1 c_31 c_42]; exact lv_sub hl [2, 3, 4, 5, 0] rfl)
      · refine lv_iinc (v := nI (unC v k a i + 1)) (lv' := [(3, .int (nI (unC v k a i + 1))), (5, .int (nI (k * 30 + i))), (0, .ref (q 6)), (1, .int (nI k)), (2, .int a), (4, .int (nI i))]) hx hb z_s_openUnder_45 hl (k := 4) rfl (by exact nI_1 _) (by decide) rfl (fun ls hl => ?_)
        refine lv_iinc (v := nI (i + 1)) (lv' := [(4, .int (nI (i + 1))), (3, .int (nI (unC v k a i + 1))), (5, .int (nI (k * 30 + i))), (0, .ref (q 6)), (1, .int (nI k)), (2, .int a)]) hx hb z_s_openUnder_48 hl (k := 5) rfl (by exact nI_1 i) (by decide) rfl (fun ls hl => ?_)
        refine lv_goto (tgt := 5) hx hb z_s_openUnder_51 (by decide) ?_
        exact ih ls hlt trivial (by show lv_has ls 6 [(0, .ref (q 6)), (1, .int (nI k)), (2, .int a), (3, .int (nI (unC v k a (i + 1)))), (4, .int (nI (i + 1)))]; rw [unC_2 c_31 c_42]; exact lv_sub hl [3, 4, 5, 1, 0] rfl)

set_option maxHeartbeats 4000000 in
set_option maxRecDepth 100000 in
theorem c_d_openOnesUnder (l : Launch) (dC : Nat → ClassId) (dI : Nat → Nat → Nat) (q : Nat → Nat) (cI cZ cB : ClassId) (v : St) (hi : Inv v) (x a : Int32) : Met l y_d_openOnesUnder (Cond.code y_d_openOnesUnder b_d_openOnesUnder 5 (some .int) :: CW) { frames := 2, cells := 0, slots := 0, locals := 46 } (va_Pc [.ref (q 0), .int x, .int a] (RdC (dC, dI) (wC q cI cZ cB v) (tyC cI cZ cB))) (vp_Si (fun r : Int32 => r = nI (onC v x a 8))) 0 0 (fun _ => False) := by
  refine cx_met (by decide) (Nat.le_of_ble_eq_true rfl) ?_
  intro p e s m below meth c hx hb hr hml hts hown hlocks hnm hC ls hl
  obtain ⟨hP, hK, hN⟩ := hC
  have hown : s.vm.findClass "ServiceDesk" = some m.cls := hown
  have hl : lv_has ls 5 [(0, .ref (q 0)), (1, .int x), (2, .int a)] := hl
  refine lv_iconst (v := 0) hx hb z_d_openOnesUnder_0 (by decide) ?_
  refine lv_istore_n (lv' := [(3, .int 0), (0, .ref (q 0)), (1, .int x), (2, .int a)]) hx hb z_d_openOnesUnder_1 rfl hl (by decide) rfl (fun ls hl => ?_)
  refine lv_iconst (v := 0) hx hb z_d_openOnesUnder_2 (by decide) ?_
  refine lv_istore (lv' := [(4, .int 0), (3, .int 0), (0, .ref (q 0)), (1, .int x), (2, .int a)]) hx hb z_d_openOnesUnder_3 hl (by decide) rfl (fun ls hl => ?_)
  refine rd_loopI (nL := 5) (8) (fun _ => True) (fun i => [(0, .ref (q 0)), (1, .int x), (2, .int a), (3, .int (nI (onC v x a i))), (4, .int (nI i))]) ?_ ls trivial (lv_sub hl [2, 3, 4, 1, 0] rfl)
  intro i ls hle hI hl ih
  have hl : lv_has ls 5 [(0, .ref (q 0)), (1, .int x), (2, .int a), (3, .int (nI (onC v x a i))), (4, .int (nI i))] := hl
  refine lv_iload hx hb z_d_openOnesUnder_5 (lv_at hl 4 rfl) ?_
  refine lv_bipush (v := 8) hx hb z_d_openOnesUnder_7 (by decide) ?_
  refine lv_icmp_ge (tgt := 42) hx hb z_d_openOnesUnder_9 (by decide) (fun c_9 => ?_) (fun c_9 => ?_)
  · refine lv_iload_n hx hb z_d_openOnesUnder_42 rfl (lv_at hl 3 rfl) ?_
    exact W.iret (v := nI (onC v x a i)) hx hb hr (fun t ht _ => ⟨nI (onC v x a i), rfl, by rw [eq_of_nle hle (by decide) c_9], ht⟩) t_nil z_d_openOnesUnder_43
  · have hlt : i < 8 := nlt_of (b := 8) (by omega) c_9
    refine lv_aload_n hx hb z_d_openOnesUnder_12 rfl (lv_at hl 0 rfl) ?_
    refine va_get (D := (dC, dI)) (ci := 3) (v := .ref (q 1)) (C := R3) (T := T3) (N := 6) hx hb hts (cw_sub iC3) hown hK hP 0 rfl rfl 0 (by decide) (hts _ (cw_in mw_92 rfl)) (fun _ h9 => h9) rfl z_d_openOnesUnder_13 ?_
    refine lv_iload hx hb z_d_openOnesUnder_16 (lv_at hl 4 rfl) ?_
    refine xa_i hx hb hK hP 1 0 rfl rfl (k := i) (y := zka v i) (hlt) (by decide) (rfl) z_d_openOnesUnder_18 ?_
    refine lv_iload_n hx hb z_d_openOnesUnder_19 rfl (lv_at hl 1 rfl) ?_
    refine lv_icmp_ne (tgt := 36) hx hb z_d_openOnesUnder_20 (by decide) (fun c_20 => ?_) (fun c_20 => ?_)
    · refine lv_iinc (v := nI (i + 1)) (lv' := [(4, .int (nI (i + 1))), (0, .ref (q 0)), (1, .int x), (2, .int a), (3, .int (nI (onC v x a i)))]) hx hb z_d_openOnesUnder_36 hl (k := 4) rfl (by exact nI_1 i) (by decide) rfl (fun ls hl => ?_)
      refine lv_goto (tgt := 5) hx hb z_d_openOnesUnder_39 (by decide) ?_
      exact ih ls hlt trivial (by show lv_has ls 5 [(0, .ref (q 0)), (1, .int x), (2, .int a), (3, .int (nI (onC v x a (i + 1)))), (4, .int (nI (i + 1)))]; rw [onC_0 c_20]; exact lv_sub hl [1, 2, 3, 4, 0] rfl)
    · refine lv_iload_n hx hb z_d_openOnesUnder_23 rfl (lv_at hl 3 rfl) ?_
      refine lv_aload_n hx hb z_d_openOnesUnder_24 rfl (lv_at hl 0 rfl) ?_
      refine va_get (D := (dC, dI)) (ci := 3) (v := .ref (q 6)) (C := R3) (T := T3) (N := 6) hx hb hts (cw_sub iC3) hown hK hP 0 rfl rfl 2 (by decide) (hts _ (cw_in mw_94 rfl)) (fun _ h9 => h9) rfl z_d_openOnesUnder_25 ?_
      refine lv_iload hx hb z_d_openOnesUnder_28 (lv_at hl 4 rfl) ?_
      refine lv_iload_n hx hb z_d_openOnesUnder_30 rfl (lv_at hl 2 rfl) ?_
      refine rdVNi (As := [.int (nI i), .int a]) (rest := [.int (nI (onC v x a i))]) ⟨hx, hb, hml, hown, hts⟩ (c_s_openUnder l dC dI q cI cZ cB v hi i hlt a) mw_373 (hN _ nw_21) mw_372 mp_18 mw_3 yd_s_openUnder ⟨⟨rfl, rfl⟩, Nat.le_of_ble_eq_true rfl, Nat.le_of_ble_eq_true rfl⟩ ⟨Nat.zero_le _, Nat.zero_le _⟩ (RdC.preV hP hK hN (ci := 1) (q0 := 6) rfl rfl) rfl hl.1 rfl (Nat.le_of_ble_eq_true rfl) z_d_openOnesUnder_31 (fun r_1 h_2 => ?_)
      subst h_2
      refine lv_iadd hx hb z_d_openOnesUnder_34 ?_
      rw [nI_add]
      refine lv_istore_n (lv' := [(3, .int (nI (onC v x a i + unC v i a (mN v i)))), (0, .ref (q 0)), (1, .int x), (2, .int a), (4, .int (nI i))]) hx hb z_d_openOnesUnder_35 rfl hl (by decide) rfl (fun ls hl => ?_)
      refine lv_iinc (v := nI (i + 1)) (lv' := [(4, .int (nI (i + 1))), (3, .int (nI (onC v x a i + unC v i a (mN v i)))), (0, .ref (q 0)), (1, .int x), (2, .int a)]) hx hb z_d_openOnesUnder_36 hl (k := 4) rfl (by exact nI_1 i) (by decide) rfl (fun ls hl => ?_)
      refine lv_goto (tgt := 5) hx hb z_d_openOnesUnder_39 (by decide) ?_
      exact ih ls hlt trivial (by show lv_has ls 5 [(0, .ref (q 0)), (1, .int x), (2, .int a), (3, .int (nI (onC v x a (i + 1)))), (4, .int (nI (i + 1)))]; rw [onC_1 c_20]; exact lv_sub hl [2, 3, 4, 1, 0] rfl)
