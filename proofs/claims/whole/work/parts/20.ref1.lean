set_option maxHeartbeats 4000000 in
set_option maxRecDepth 100000 in
theorem c_m_thrown (l : Launch) (dC : Nat → ClassId) (dI : Nat → Nat → Nat) (o : Nat → Nat) (cI cZ cL : ClassId) (v : St) (th ch : Int32) (cd : Int64)  : Met l y_m_thrown (Cond.code y_m_thrown b_m_thrown 1 (some .int) :: CW) { frames := 0, cells := 0, slots := 0, locals := 0 } (va_Pc [.ref (o 0)] (RdC (dC, dI) (wM o cI cZ cL v th ch cd) (tyM cI cZ cL))) (vp_Si (fun r : Int32 => r = th)) 0 0 (fun _ => False) := by
  refine cx_met (by decide) (Nat.le_of_ble_eq_true rfl) ?_
  intro p e s m below meth c hx hb hr hml hts hown hlocks hnm hC ls hl
  obtain ⟨hP, hK, hN⟩ := hC
  have hown : s.vm.findClass "ServiceDeskModel" = some m.cls := hown
  have hl : lv_has ls 1 [(0, .ref (o 0))] := hl
  refine lv_aload_n hx hb z_m_thrown_0 rfl (lv_at hl 0 rfl) ?_
  refine va_get (D := (dC, dI)) (ci := 4) (v := .int th) (C := R4) (T := T4) (N := 17) hx hb hts (cw_sub iC4) hown hK hP 0 rfl rfl 0 (by decide) (hts _ (cw_in mw_480 rfl)) (fun _ h9 => h9) rfl z_m_thrown_1 ?_
  exact W.iret (v := th) hx hb hr (fun t ht _ => ⟨th, rfl, rfl, ht⟩) t_nil z_m_thrown_4

set_option maxHeartbeats 4000000 in
set_option maxRecDepth 100000 in
theorem c_m_in (l : Launch) (x a b : Int32) : Met l y_m_in (Cond.code y_m_in b_m_in 3 (some .boolean) :: CW) { frames := 0, cells := 0, slots := 0, locals := 0 } (va_Pc [.int x, .int a, .int b] (fun _ => True)) (vp_Si (fun r : Int32 => (r = 1 ∧ (a ≤ x ∧ x ≤ b)) ∨ (r = 0 ∧ ¬ (a ≤ x ∧ x ≤ b)))) 0 0 (fun _ => False) := by
  refine cx_met (by decide) (Nat.le_of_ble_eq_true rfl) ?_
  intro p e s m below meth c hx hb hr hml hts hown hlocks hnm hC ls hl
  have hown : s.vm.findClass "ServiceDeskModel" = some m.cls := hown
  have hl : lv_has ls 3 [(0, .int x), (1, .int a), (2, .int b)] := hl
  refine lv_iload_n hx hb z_m_in_0 rfl (lv_at hl 0 rfl) ?_
  refine lv_iload_n hx hb z_m_in_1 rfl (lv_at hl 1 rfl) ?_
  refine lv_icmp_lt (tgt := 14) hx hb z_m_in_2 (by decide) (fun c_2 => ?_) (fun c_2 => ?_)
  · refine lv_iconst (v := 0) hx hb z_m_in_14 (by decide) ?_
    exact W.zret (v := 0) hx hb hr rfl (fun t ht _ => ⟨0, rfl, Or.inr ⟨rfl, fun h => Int32.not_lt.mpr h.1 c_2⟩, ht⟩) t_nil z_m_in_15
  · refine lv_iload_n hx hb z_m_in_5 rfl (lv_at hl 0 rfl) ?_
    refine lv_iload_n hx hb z_m_in_6 rfl (lv_at hl 2 rfl) ?_
    refine lv_icmp_gt (tgt := 14) hx hb z_m_in_7 (by decide) (fun c_7 => ?_) (fun c_7 => ?_)
    · refine lv_iconst (v := 0) hx hb z_m_in_14 (by decide) ?_
      exact W.zret (v := 0) hx hb hr rfl (fun t ht _ => ⟨0, rfl, Or.inr ⟨rfl, fun h => Int32.not_lt.mpr h.2 c_7⟩, ht⟩) t_nil z_m_in_15
    · refine lv_iconst (v := 1) hx hb z_m_in_10 (by decide) ?_
      refine lv_goto (tgt := 15) hx hb z_m_in_11 (by decide) ?_
      exact W.zret (v := 1) hx hb hr rfl (fun t ht _ => ⟨1, rfl, Or.inl ⟨rfl, Int32.not_lt.mp c_2, Int32.not_lt.mp c_7⟩, ht⟩) t_nil z_m_in_15

set_option maxHeartbeats 4000000 in
set_option maxRecDepth 100000 in
theorem c_m_isKind (l : Launch) (x : Int32) : Met l y_m_isKind (Cond.code y_m_isKind b_m_isKind 1 (some .boolean) :: CW) { frames := 1, cells := 0, slots := 0, locals := 22 } (va_Pc [.int x] (fun _ => True)) (vp_Si (fun r : Int32 => (r = 1 ∧ isK x) ∨ (r = 0 ∧ ¬ isK x))) 0 0 (fun _ => False) := by
  refine cx_met (by decide) (Nat.le_of_ble_eq_true rfl) ?_
  intro p e s m below meth c hx hb hr hml hts hown hlocks hnm hC ls hl
  have hown : s.vm.findClass "ServiceDeskModel" = some m.cls := hown
  have hl : lv_has ls 1 [(0, .int x)] := hl
  refine lv_iload_n hx hb z_m_isKind_0 rfl (lv_at hl 0 rfl) ?_
  refine lv_iconst (v := 0) hx hb z_m_isKind_1 (by decide) ?_
  refine lv_bipush (v := 7) hx hb z_m_isKind_2 (by decide) ?_
  refine rdSi (As := [.int x, .int 0, .int 7]) (rest := []) ⟨hx, hb, hml, hown, hts⟩ (c_m_in l x 0 7) mw_546 mw_544 mw_545 mw_6 yd_m_in ⟨⟨rfl, rfl⟩, Nat.le_of_ble_eq_true rfl, Nat.le_of_ble_eq_true rfl⟩ ⟨Nat.zero_le _, Nat.zero_le _⟩ (pre_pure) rfl hl.1 rfl (Nat.le_of_ble_eq_true rfl) z_m_isKind_4 (fun r_1 h_2 => ?_)
  rcases h_2 with ⟨rfl, h_2⟩ | ⟨rfl, h_2⟩
  · exact W.zret (v := 1) hx hb hr rfl (fun t ht _ => ⟨1, rfl, Or.inl ⟨rfl, k7_iff.mp h_2⟩, ht⟩) t_nil z_m_isKind_7
  · exact W.zret (v := 0) hx hb hr rfl (fun t ht _ => ⟨0, rfl, Or.inr ⟨rfl, fun h => h_2 (k7_iff.mpr h)⟩, ht⟩) t_nil z_m_isKind_7

set_option maxHeartbeats 4000000 in
set_option maxRecDepth 100000 in
theorem c_m_isSubject (l : Launch) (dC : Nat → ClassId) (dI : Nat → Nat → Nat) (o : Nat → Nat) (cI cZ cL : ClassId) (v : St) (th ch : Int32) (cd : Int64) (hi : Inv v) (x y : Int32) : Met l y_m_isSubject (Cond.code y_m_isSubject b_m_isSubject 3 (some .boolean) :: CW) { frames := 2, cells := 0, slots := 0, locals := 42 } (va_Pc [.ref (o 0), .int x, .int y] (RdC (dC, dI) (wM o cI cZ cL v th ch cd) (tyM cI cZ cL))) (vp_Si (fun r : Int32 => (r = 1 ∧ isS v x y) ∨ (r = 0 ∧ ¬ isS v x y))) 0 0 (fun _ => False) := by
  refine cx_met (by decide) (Nat.le_of_ble_eq_true rfl) ?_
  intro p e s m below meth c hx hb hr hml hts hown hlocks hnm hC ls hl
  obtain ⟨hP, hK, hN⟩ := hC
  have hown : s.vm.findClass "ServiceDeskModel" = some m.cls := hown
  have hl : lv_has ls 3 [(0, .ref (o 0)), (1, .int x), (2, .int y)] := hl
  refine lv_iload_n hx hb z_m_isSubject_0 rfl (lv_at hl 1 rfl) ?_
  refine rdSi (As := [.int x]) (rest := []) ⟨hx, hb, hml, hown, hts⟩ (c_m_isKind l x) mw_543 mw_541 mw_542 mw_6 yd_m_isKind ⟨⟨rfl, rfl⟩, Nat.le_of_ble_eq_true rfl, Nat.le_of_ble_eq_true rfl⟩ ⟨Nat.zero_le _, Nat.zero_le _⟩ (pre_pure) rfl hl.1 rfl (Nat.le_of_ble_eq_true rfl) z_m_isSubject_1 (fun r_1 h_2 => ?_)
  rcases h_2 with ⟨rfl, h_2⟩ | ⟨rfl, h_2⟩
  · obtain ⟨k, hk, rfl⟩ := h_2
    refine lv_if_eq (tgt := 27) hx hb z_m_isSubject_4 (by decide) (fun c9 => absurd c9 (by decide)) (fun _ => ?_)
    refine lv_iload_n hx hb z_m_isSubject_7 rfl (lv_at hl 2 rfl) ?_
    refine lv_iconst (v := 0) hx hb z_m_isSubject_8 (by decide) ?_
    refine lv_aload_n hx hb z_m_isSubject_9 rfl (lv_at hl 0 rfl) ?_
    refine va_get (D := (dC, dI)) (ci := 4) (v := .ref (o 2)) (C := R4) (T := T4) (N := 17) hx hb hts (cw_sub iC4) hown hK hP 0 rfl rfl 2 (by decide) (hts _ (cw_in mw_482 rfl)) (fun _ h9 => h9) rfl z_m_isSubject_10 ?_
    refine lv_iload_n hx hb z_m_isSubject_13 rfl (lv_at hl 1 rfl) ?_
    refine xa_i hx hb hK hP 2 0 rfl rfl (k := k) (y := nI (mN v k)) (hk) (by decide) ((hi.mk k hk).2) z_m_isSubject_14 ?_
    refine lv_iconst (v := 1) hx hb z_m_isSubject_15 (by decide) ?_
    refine lv_isub hx hb z_m_isSubject_16 ?_
    refine rdSi (As := [.int y, .int 0, .int ((nI (mN v k)) - 1)]) (rest := []) ⟨hx, hb, hml, hown, hts⟩ (c_m_in l y 0 (nI (mN v k) - 1)) mw_546 mw_544 mw_545 mw_6 yd_m_in ⟨⟨rfl, rfl⟩, Nat.le_of_ble_eq_true rfl, Nat.le_of_ble_eq_true rfl⟩ ⟨Nat.zero_le _, Nat.zero_le _⟩ (pre_pure) rfl hl.1 rfl (Nat.le_of_ble_eq_true rfl) z_m_isSubject_17 (fun r_3 h_4 => ?_)
    rcases h_4 with ⟨rfl, h_4⟩ | ⟨rfl, h_4⟩
    · refine lv_if_eq (tgt := 27) hx hb z_m_isSubject_20 (by decide) (fun c9 => absurd c9 (by decide)) (fun _ => ?_)
      refine lv_iconst (v := 1) hx hb z_m_isSubject_23 (by decide) ?_
      refine lv_goto (tgt := 28) hx hb z_m_isSubject_24 (by decide) ?_
      exact W.zret (v := 1) hx hb hr rfl (fun t ht _ => ⟨1, rfl, Or.inl ⟨rfl, isS_in hi hk h_4⟩, ht⟩) t_nil z_m_isSubject_28
    · refine lv_if_eq (tgt := 27) hx hb z_m_isSubject_20 (by decide) (fun _ => ?_) (fun c9 => absurd (by decide) c9)
      refine lv_iconst (v := 0) hx hb z_m_isSubject_27 (by decide) ?_
      exact W.zret (v := 0) hx hb hr rfl (fun t ht _ => ⟨0, rfl, Or.inr ⟨rfl, isS_nin hi hk h_4⟩, ht⟩) t_nil z_m_isSubject_28
  · refine lv_if_eq (tgt := 27) hx hb z_m_isSubject_4 (by decide) (fun _ => ?_) (fun c9 => absurd (by decide) c9)
    refine lv_iconst (v := 0) hx hb z_m_isSubject_27 (by decide) ?_
    exact W.zret (v := 0) hx hb hr rfl (fun t ht _ => ⟨0, rfl, Or.inr ⟨rfl, isS_no1 h_2⟩, ht⟩) t_nil z_m_isSubject_28

set_option maxHeartbeats 4000000 in
set_option maxRecDepth 100000 in
theorem c_m_reaches (l : Launch) (dC : Nat → ClassId) (dI : Nat → Nat → Nat) (o : Nat → Nat) (cI cZ cL : ClassId) (v : St) (th ch : Int32) (cd : Int64) (hi : Inv v) (x : Int32) (hx9 : isK x) (g : Nat) (hg : g < 8) : Met l y_m_reaches (Cond.code y_m_reaches b_m_reaches 4 (some .boolean) :: CW) { frames := 0, cells := 0, slots := 0, locals := 0 } (va_Pc [.ref (o 0), .int x, .int (nI g)] (RdC (dC, dI) (wM o cI cZ cL v th ch cd) (tyM cI cZ cL))) (vp_Si (fun r : Int32 => (r = 1 ∧ reaU v x (nI g)) ∨ (r = 0 ∧ ¬ reaU v x (nI g)))) 0 0 (fun _ => False) := by
  refine cx_met (by decide) (Nat.le_of_ble_eq_true rfl) ?_
  intro p e s m below meth c hx hb hr hml hts hown hlocks hnm hC ls hl
  obtain ⟨hP, hK, hN⟩ := hC
  have hown : s.vm.findClass "ServiceDeskModel" = some m.cls := hown
  have hl : lv_has ls 4 [(0, .ref (o 0)), (1, .int x), (2, .int (nI g))] := hl
  refine lv_iload_n hx hb z_m_reaches_0 rfl (lv_at hl 1 rfl) ?_
  refine lv_istore_n (lv' := [(3, .int x), (0, .ref (o 0)), (1, .int x), (2, .int (nI g))]) hx hb z_m_reaches_1 rfl hl (by decide) rfl (fun ls hl => ?_)
  refine rd_loopI (nL := 4) (8) (fun i => ∀ j, j < i → chA (zka v) x j ≠ -1 ∧ chA (zka v) x j ≠ nI g) (fun i => [(0, .ref (o 0)), (1, .int x), (2, .int (nI g)), (3, .int (chA (zka v) x i))]) ?_ ls (fun j h => absurd h (Nat.not_lt_zero j)) (lv_sub hl [1, 2, 3, 0] rfl)
  intro i ls hle hI hl ih
  have hl : lv_has ls 4 [(0, .ref (o 0)), (1, .int x), (2, .int (nI g)), (3, .int (chA (zka v) x i))] := hl
  refine lv_iload_n hx hb z_m_reaches_2 rfl (lv_at hl 3 rfl) ?_
  refine lv_if_lt (tgt := 21) hx hb z_m_reaches_3 (by decide) (fun c_3 => ?_) (fun c_3 => ?_)
  · refine lv_iload_n hx hb z_m_reaches_21 rfl (lv_at hl 3 rfl) ?_
    refine lv_iload_n hx hb z_m_reaches_22 rfl (lv_at hl 2 rfl) ?_
    refine lv_icmp_ne (tgt := 30) hx hb z_m_reaches_23 (by decide) (fun c_23 => ?_) (fun c_23 => False.elim (nI_pos (n := g) (by omega) (by rw [← c_23]; exact c_3)))
    refine lv_iconst (v := 0) hx hb z_m_reaches_30 (by decide) ?_
    exact W.zret (v := 0) hx hb hr rfl (fun t ht _ => ⟨0, rfl, Or.inr ⟨rfl, reaU_no (fun z => nI_pos (n := g) (by omega) (by rw [z]; decide)) ((chA_kind hi (Or.inr hx9) i (fun j hj => (hI j hj).1)).resolve_right (k8_neg c_3)) (fun j hj => (hI j hj).2)⟩, ht⟩) t_nil z_m_reaches_31
  · refine lv_iload_n hx hb z_m_reaches_6 rfl (lv_at hl 3 rfl) ?_
    refine lv_iload_n hx hb z_m_reaches_7 rfl (lv_at hl 2 rfl) ?_
    refine lv_icmp_eq (tgt := 21) hx hb z_m_reaches_8 (by decide) (fun c_8 => ?_) (fun c_8 => ?_)
    · refine lv_iload_n hx hb z_m_reaches_21 rfl (lv_at hl 3 rfl) ?_
      refine lv_iload_n hx hb z_m_reaches_22 rfl (lv_at hl 2 rfl) ?_
      refine lv_icmp_ne (tgt := 30) hx hb z_m_reaches_23 (by decide) (fun c_23 => False.elim (c_23 c_8)) (fun c_23 => ?_)
      refine lv_iconst (v := 1) hx hb z_m_reaches_26 (by decide) ?_
      refine lv_goto (tgt := 31) hx hb z_m_reaches_27 (by decide) ?_
      exact W.zret (v := 1) hx hb hr rfl (fun t ht _ => ⟨1, rfl, Or.inl ⟨rfl, reaU_yes c_8 (fun j hj => (hI j hj).1)⟩, ht⟩) t_nil z_m_reaches_31
    · have hlt : i < 8 := Nat.lt_of_not_le (fun q9 => chA_end hi (Or.inr hx9) hg (fun j hj => hI j (by omega)))
      obtain ⟨k, hk, e9⟩ := (chA_kind hi (Or.inr hx9) i (fun j hj => (hI j hj).1)).resolve_left (fun z => c_3 (by rw [z]; decide))
      have e8 : chA (zka v) x (i + 1) = zka v k := by show zka v (chA (zka v) x i).toNatClampNeg = _; rw [e9, nI_clamp (by omega)]
      rw [e9] at hl
      refine lv_aload_n hx hb z_m_reaches_11 rfl (lv_at hl 0 rfl) ?_
      refine va_get (D := (dC, dI)) (ci := 4) (v := .ref (o 1)) (C := R4) (T := T4) (N := 17) hx hb hts (cw_sub iC4) hown hK hP 0 rfl rfl 1 (by decide) (hts _ (cw_in mw_481 rfl)) (fun _ h9 => h9) rfl z_m_reaches_12 ?_
      refine lv_iload_n hx hb z_m_reaches_15 rfl (lv_at hl 3 rfl) ?_
      refine xa_i hx hb hK hP 1 0 rfl rfl (k := k) (y := chA (zka v) x (i + 1)) (hk) (by decide) (e8.symm) z_m_reaches_16 ?_
      refine lv_istore_n (lv' := [(3, .int (chA (zka v) x (i + 1))), (0, .ref (o 0)), (1, .int x), (2, .int (nI g))]) hx hb z_m_reaches_17 rfl hl (by decide) rfl (fun ls hl => ?_)
      refine lv_goto (tgt := 2) hx hb z_m_reaches_18 (by decide) ?_
      exact ih ls hlt (fun j hj => (Nat.lt_succ_iff_lt_or_eq.mp hj).elim (fun h => hI j h) (fun h => by rw [h]; exact ⟨fun z => c_3 (by rw [z]; decide), c_8⟩)) (lv_sub hl [1, 2, 3, 0] rfl)

set_option maxHeartbeats 4000000 in
set_option maxRecDepth 100000 in
theorem c_m_openOf (l : Launch) (dC : Nat → ClassId) (dI : Nat → Nat → Nat) (o : Nat → Nat) (cI cZ cL : ClassId) (v : St) (th ch : Int32) (cd : Int64) (hi : Inv v) (k : Nat) (hk : k < 8) : Met l y_m_openOf (Cond.code y_m_openOf b_m_openOf 4 (some .int) :: CW) { frames := 0, cells := 0, slots := 0, locals := 0 } (va_Pc [.ref (o 0), .int (nI k)] (RdC (dC, dI) (wM o cI cZ cL v th ch cd) (tyM cI cZ cL))) (vp_Si (fun r : Int32 => r = nI (opC v k (mN v k)))) 0 0 (fun _ => False) := by
  refine cx_met (by decide) (Nat.le_of_ble_eq_true rfl) ?_
  intro p e s m below meth c hx hb hr hml hts hown hlocks hnm hC ls hl
  obtain ⟨hP, hK, hN⟩ := hC
  have hown : s.vm.findClass "ServiceDeskModel" = some m.cls := hown
  have hl : lv_has ls 4 [(0, .ref (o 0)), (1, .int (nI k))] := hl
  have hM := (hi.mk k hk).1
  refine lv_iconst (v := 0) hx hb z_m_openOf_0 (by decide) ?_
  refine lv_istore_n (lv' := [(2, .int 0), (0, .ref (o 0)), (1, .int (nI k))]) hx hb z_m_openOf_1 rfl hl (by decide) rfl (fun ls hl => ?_)
  refine lv_iconst (v := 0) hx hb z_m_openOf_2 (by decide) ?_
  refine lv_istore_n (lv' := [(3, .int 0), (2, .int 0), (0, .ref (o 0)), (1, .int (nI k))]) hx hb z_m_openOf_3 rfl hl (by decide) rfl (fun ls hl => ?_)
  refine rd_loopI (nL := 4) (mN v k) (fun _ => True) (fun i => [(0, .ref (o 0)), (1, .int (nI k)), (2, .int (nI (opC v k i))), (3, .int (nI i))]) ?_ ls trivial (lv_sub hl [2, 3, 1, 0] rfl)
  intro i ls hle hI hl ih
  have hl : lv_has ls 4 [(0, .ref (o 0)), (1, .int (nI k)), (2, .int (nI (opC v k i))), (3, .int (nI i))] := hl
  refine lv_iload_n hx hb z_m_openOf_4 rfl (lv_at hl 3 rfl) ?_
  refine lv_aload_n hx hb z_m_openOf_5 rfl (lv_at hl 0 rfl) ?_
  refine va_get (D := (dC, dI)) (ci := 4) (v := .ref (o 2)) (C := R4) (T := T4) (N := 17) hx hb hts (cw_sub iC4) hown hK hP 0 rfl rfl 2 (by decide) (hts _ (cw_in mw_482 rfl)) (fun _ h9 => h9) rfl z_m_openOf_6 ?_
  refine lv_iload_n hx hb z_m_openOf_9 rfl (lv_at hl 1 rfl) ?_
  refine xa_i hx hb hK hP 2 0 rfl rfl (k := k) (y := nI (mN v k)) (hk) (by decide) ((hi.mk k hk).2) z_m_openOf_10 ?_
  refine lv_icmp_ge (tgt := 42) hx hb z_m_openOf_11 (by decide) (fun c_11 => ?_) (fun c_11 => ?_)
  · refine lv_iload_n hx hb z_m_openOf_42 rfl (lv_at hl 2 rfl) ?_
    exact W.iret (v := nI (opC v k i)) hx hb hr (fun t ht _ => ⟨nI (opC v k i), rfl, by rw [eq_of_nle hle (by omega) c_11], ht⟩) t_nil z_m_openOf_43
  · have hlt : i < mN v k := nlt_of (by omega) c_11
    refine lv_iload_n hx hb z_m_openOf_14 rfl (lv_at hl 2 rfl) ?_
    refine lv_aload_n hx hb z_m_openOf_15 rfl (lv_at hl 0 rfl) ?_
    refine va_get (D := (dC, dI)) (ci := 4) (v := .ref (o 4)) (C := R4) (T := T4) (N := 17) hx hb hts (cw_sub iC4) hown hK hP 0 rfl rfl 4 (by decide) (hts _ (cw_in mw_484 rfl)) (fun _ h9 => h9) rfl z_m_openOf_16 ?_
    refine lv_bipush (v := 30) hx hb z_m_openOf_19 (by decide) ?_
    refine lv_iload_n hx hb z_m_openOf_21 rfl (lv_at hl 1 rfl) ?_
    refine lv_imul hx hb z_m_openOf_22 ?_
    refine lv_iload_n hx hb z_m_openOf_23 rfl (lv_at hl 3 rfl) ?_
    refine lv_iadd hx hb z_m_openOf_24 ?_
    rw [s30_nI]
    refine xa_z hx hb hK hP 4 1 rfl rfl (k := (k * 30 + i)) (y := zop v (k * 30 + i)) (by omega) (by decide) (rfl) z_m_openOf_25 ?_
    refine lv_if_eq (tgt := 33) hx hb z_m_openOf_26 (by decide) (fun c_26 => ?_) (fun c_26 => ?_)
    · refine lv_iconst (v := 0) hx hb z_m_openOf_33 (by decide) ?_
      refine lv_iadd hx hb z_m_openOf_34 ?_
      rw [show nI (opC v k i) + 0 = nI (opC v k i) from nI_add _ 0]
      refine lv_istore_n (lv' := [(2, .int (nI (opC v k i))), (0, .ref (o 0)), (1, .int (nI k)), (3, .int (nI i))]) hx hb z_m_openOf_35 rfl hl (by decide) rfl (fun ls hl => ?_)
      refine lv_iinc (v := nI (i + 1)) (lv' := [(3, .int (nI (i + 1))), (2, .int (nI (opC v k i))), (0, .ref (o 0)), (1, .int (nI k))]) hx hb z_m_openOf_36 hl (k := 3) rfl (by exact nI_1 i) (by decide) rfl (fun ls hl => ?_)
      refine lv_goto (tgt := 4) hx hb z_m_openOf_39 (by decide) ?_
      exact ih ls hlt trivial (by show lv_has ls 4 [(0, .ref (o 0)), (1, .int (nI k)), (2, .int (nI (opC v k (i + 1)))), (3, .int (nI (i + 1)))]; rw [opC_0 c_26]; exact lv_sub hl [2, 3, 1, 0] rfl)
    · refine lv_iconst (v := 1) hx hb z_m_openOf_29 (by decide) ?_
      refine lv_goto (tgt := 34) hx hb z_m_openOf_30 (by decide) ?_
      refine lv_iadd hx hb z_m_openOf_34 ?_
      rw [nI_1]
      refine lv_istore_n (lv' := [(2, .int (nI (opC v k i + 1))), (0, .ref (o 0)), (1, .int (nI k)), (3, .int (nI i))]) hx hb z_m_openOf_35 rfl hl (by decide) rfl (fun ls hl => ?_)
      refine lv_iinc (v := nI (i + 1)) (lv' := [(3, .int (nI (i + 1))), (2, .int (nI (opC v k i + 1))), (0, .ref (o 0)), (1, .int (nI k))]) hx hb z_m_openOf_36 hl (k := 3) rfl (by exact nI_1 i) (by decide) rfl (fun ls hl => ?_)
      refine lv_goto (tgt := 4) hx hb z_m_openOf_39 (by decide) ?_
      exact ih ls hlt trivial (by show lv_has ls 4 [(0, .ref (o 0)), (1, .int (nI k)), (2, .int (nI (opC v k (i + 1)))), (3, .int (nI (i + 1)))]; rw [opC_1 c_26]; exact lv_sub hl [2, 3, 1, 0] rfl)

set_option maxHeartbeats 4000000 in
set_option maxRecDepth 100000 in
theorem c_m_openUnder (l : Launch) (dC : Nat → ClassId) (dI : Nat → Nat → Nat) (o : Nat → Nat) (cI cZ cL : ClassId) (v : St) (th ch : Int32) (cd : Int64) (hi : Inv v) (x y : Int32) : Met l y_m_openUnder (Cond.code y_m_openUnder b_m_openUnder 6 (some .int) :: CW) { frames := 0, cells := 0, slots := 0, locals := 0 } (va_Pc [.ref (o 0), .int x, .int y] (RdC (dC, dI) (wM o cI cZ cL v th ch cd) (tyM cI cZ cL))) (vp_Si (fun r : Int32 => r = nI (onC v x y 8))) 0 0 (fun _ => False) := by
  refine cx_met (by decide) (Nat.le_of_ble_eq_true rfl) ?_
  intro p e s m below meth c hx hb hr hml hts hown hlocks hnm hC ls hl
  obtain ⟨hP, hK, hN⟩ := hC
  have hown : s.vm.findClass "ServiceDeskModel" = some m.cls := hown
  have hl : lv_has ls 6 [(0, .ref (o 0)), (1, .int x), (2, .int y)] := hl
  refine lv_iconst (v := 0) hx hb z_m_openUnder_0 (by decide) ?_
  refine lv_istore_n (lv' := [(3, .int 0), (0, .ref (o 0)), (1, .int x), (2, .int y)]) hx hb z_m_openUnder_1 rfl hl (by decide) rfl (fun ls hl => ?_)
  refine lv_iconst (v := 0) hx hb z_m_openUnder_2 (by decide) ?_
  refine lv_istore (lv' := [(4, .int 0), (3, .int 0), (0, .ref (o 0)), (1, .int x), (2, .int y)]) hx hb z_m_openUnder_3 hl (by decide) rfl (fun ls hl => ?_)
  refine rd_loopI (nL := 6) (240) (fun _ => True) (fun i => [(0, .ref (o 0)), (1, .int x), (2, .int y), (3, .int (nI (ouC v x y i))), (4, .int (nI i))]) ?_ ls trivial (lv_sub hl [2, 3, 4, 1, 0] rfl)
  intro i ls hle hI hl ih
  have hl : lv_has ls 6 [(0, .ref (o 0)), (1, .int x), (2, .int y), (3, .int (nI (ouC v x y i))), (4, .int (nI i))] := hl
  refine lv_iload hx hb z_m_openUnder_5 (lv_at hl 4 rfl) ?_
  refine lv_sipush (v := 240) hx hb z_m_openUnder_7 (by decide) ?_
  refine lv_icmp_ge (tgt := 92) hx hb z_m_openUnder_10 (by decide) (fun c_10 => ?_) (fun c_10 => ?_)
  · refine lv_iload_n hx hb z_m_openUnder_92 rfl (lv_at hl 3 rfl) ?_
    exact W.iret (v := nI (ouC v x y i)) hx hb hr (fun t ht _ => ⟨nI (ouC v x y i), rfl, by rw [eq_of_nle hle (by decide) c_10, show (240 : Nat) = 8 * 30 from rfl, ou_on hi 8 (Nat.le_refl _)], ht⟩) t_nil z_m_openUnder_93
  · have hlt : i < 240 := nlt_of (b := 240) (by omega) c_10
    have hk9 : i / 30 < 8 := by omega
    have hM := (hi.mk (i / 30) hk9).1
    refine lv_iload hx hb z_m_openUnder_13 (lv_at hl 4 rfl) ?_
    refine lv_bipush (v := 30) hx hb z_m_openUnder_15 (by decide) ?_
    refine lv_irem hx hb z_m_openUnder_17 (by decide) ?_
    rw [rem30 hlt]
    refine lv_aload_n hx hb z_m_openUnder_18 rfl (lv_at hl 0 rfl) ?_
    refine va_get (D := (dC, dI)) (ci := 4) (v := .ref (o 2)) (C := R4) (T := T4) (N := 17) hx hb hts (cw_sub iC4) hown hK hP 0 rfl rfl 2 (by decide) (hts _ (cw_in mw_482 rfl)) (fun _ h9 => h9) rfl z_m_openUnder_19 ?_
    refine lv_iload hx hb z_m_openUnder_22 (lv_at hl 4 rfl) ?_
    refine lv_bipush (v := 30) hx hb z_m_openUnder_24 (by decide) ?_
    refine lv_idiv hx hb z_m_openUnder_26 (by decide) ?_
    rw [div30 hlt]
    refine xa_i hx hb hK hP 2 0 rfl rfl (k := (i / 30)) (y := nI (mN v (i / 30))) (hk9) (by decide) ((hi.mk (i / 30) hk9).2) z_m_openUnder_27 ?_
    refine lv_icmp_ge (tgt := 60) hx hb z_m_openUnder_28 (by decide) (fun c_28 => ?_) (fun c_28 => ?_)
    · refine lv_iconst (v := 0) hx hb z_m_openUnder_60 (by decide) ?_
      refine lv_istore (lv' := [(5, .int 0), (0, .ref (o 0)), (1, .int x), (2, .int y), (3, .int (nI (ouC v x y i))), (4, .int (nI i))]) hx hb z_m_openUnder_61 hl (by decide) rfl (fun ls hl => ?_)
      refine lv_iload_n hx hb z_m_openUnder_63 rfl (lv_at hl 4 rfl) ?_
      refine lv_iload hx hb z_m_openUnder_64 (lv_at hl 0 rfl) ?_
      refine lv_if_eq (tgt := 83) hx hb z_m_openUnder_66 (by decide) (fun _ => ?_) (fun c9 => absurd (by decide) c9)
      refine lv_iconst (v := 0) hx hb z_m_openUnder_83 (by decide) ?_
      refine lv_iadd hx hb z_m_openUnder_84 ?_
      rw [show nI (ouC v x y i) + 0 = nI (ouC v x y i) from nI_add _ 0]
      refine lv_istore_n (lv' := [(3, .int (nI (ouC v x y i))), (5, .int 0), (0, .ref (o 0)), (1, .int x), (2, .int y), (4, .int (nI i))]) hx hb z_m_openUnder_85 rfl hl (by decide) rfl (fun ls hl => ?_)
      refine lv_iinc (v := nI (i + 1)) (lv' := [(4, .int (nI (i + 1))), (3, .int (nI (ouC v x y i))), (5, .int 0), (0, .ref (o 0)), (1, .int x), (2, .int y)]) hx hb z_m_openUnder_86 hl (k := 5) rfl (by exact nI_1 i) (by decide) rfl (fun ls hl => ?_)
      refine lv_goto (tgt := 5) hx hb z_m_openUnder_89 (by decide) ?_
      exact ih ls hlt trivial (by show lv_has ls 6 [(0, .ref (o 0)), (1, .int x), (2, .int y), (3, .int (nI (ouC v x y (i + 1)))), (4, .int (nI (i + 1)))]; rw [ouC_0 (fun z => absurd (nI_lt z.1.1 (by omega)) (Int32.not_lt.mpr c_28))]; exact lv_sub hl [3, 4, 5, 1, 0] rfl)
    · refine lv_aload_n hx hb z_m_openUnder_31 rfl (lv_at hl 0 rfl) ?_
      refine va_get (D := (dC, dI)) (ci := 4) (v := .ref (o 1)) (C := R4) (T := T4) (N := 17) hx hb hts (cw_sub iC4) hown hK hP 0 rfl rfl 1 (by decide) (hts _ (cw_in mw_481 rfl)) (fun _ h9 => h9) rfl z_m_openUnder_32 ?_
      refine lv_iload hx hb z_m_openUnder_35 (lv_at hl 4 rfl) ?_
      refine lv_bipush (v := 30) hx hb z_m_openUnder_37 (by decide) ?_
      refine lv_idiv hx hb z_m_openUnder_39 (by decide) ?_
      rw [div30 hlt]
      refine xa_i hx hb hK hP 1 0 rfl rfl (k := (i / 30)) (y := zka v (i / 30)) (hk9) (by decide) (rfl) z_m_openUnder_40 ?_
      refine lv_iload_n hx hb z_m_openUnder_41 rfl (lv_at hl 1 rfl) ?_
      refine lv_icmp_ne (tgt := 60) hx hb z_m_openUnder_42 (by decide) (fun c_42 => ?_) (fun c_42 => ?_)
      · refine lv_iconst (v := 0) hx hb z_m_openUnder_60 (by decide) ?_
        refine lv_istore (lv' := [(5, .int 0), (0, .ref (o 0)), (1, .int x), (2, .int y), (3, .int (nI (ouC v x y i))), (4, .int (nI i))]) hx hb z_m_openUnder_61 hl (by decide) rfl (fun ls hl => ?_)
        refine lv_iload_n hx hb z_m_openUnder_63 rfl (lv_at hl 4 rfl) ?_
        refine lv_iload hx hb z_m_openUnder_64 (lv_at hl 0 rfl) ?_
        refine lv_if_eq (tgt := 83) hx hb z_m_openUnder_66 (by decide) (fun _ => ?_) (fun c9 => absurd (by decide) c9)
        refine lv_iconst (v := 0) hx hb z_m_openUnder_83 (by decide) ?_
        refine lv_iadd hx hb z_m_openUnder_84 ?_
        rw [show nI (ouC v x y i) + 0 = nI (ouC v x y i) from nI_add _ 0]
        refine lv_istore_n (lv' := [(3, .int (nI (ouC v x y i))), (5, .int 0), (0, .ref (o 0)), (1, .int x), (2, .int y), (4, .int (nI i))]) hx hb z_m_openUnder_85 rfl hl (by decide) rfl (fun ls hl => ?_)
        refine lv_iinc (v := nI (i + 1)) (lv' := [(4, .int (nI (i + 1))), (3, .int (nI (ouC v x y i))), (5, .int 0), (0, .ref (o 0)), (1, .int x), (2, .int y)]) hx hb z_m_openUnder_86 hl (k := 5) rfl (by exact nI_1 i) (by decide) rfl (fun ls hl => ?_)
        refine lv_goto (tgt := 5) hx hb z_m_openUnder_89 (by decide) ?_
        exact ih ls hlt trivial (by show lv_has ls 6 [(0, .ref (o 0)), (1, .int x), (2, .int y), (3, .int (nI (ouC v x y (i + 1)))), (4, .int (nI (i + 1)))]; rw [ouC_0 (fun z => c_42 z.1.2.1)]; exact lv_sub hl [3, 4, 5, 1, 0] rfl)
      · refine lv_aload_n hx hb z_m_openUnder_45 rfl (lv_at hl 0 rfl) ?_
        refine va_get (D := (dC, dI)) (ci := 4) (v := .ref (o 3)) (C := R4) (T := T4) (N := 17) hx hb hts (cw_sub iC4) hown hK hP 0 rfl rfl 3 (by decide) (hts _ (cw_in mw_483 rfl)) (fun _ h9 => h9) rfl z_m_openUnder_46 ?_
        refine lv_iload hx hb z_m_openUnder_49 (lv_at hl 4 rfl) ?_
        refine xa_i hx hb hK hP 3 0 rfl rfl (k := i) (y := zab v i) (hlt) (by decide) (rfl) z_m_openUnder_51 ?_
        refine lv_iload_n hx hb z_m_openUnder_52 rfl (lv_at hl 2 rfl) ?_
        refine lv_icmp_ne (tgt := 60) hx hb z_m_openUnder_53 (by decide) (fun c_53 => ?_) (fun c_53 => ?_)
        · refine lv_iconst (v := 0) hx hb z_m_openUnder_60 (by decide) ?_
          refine lv_istore (lv' := [(5, .int 0), (0, .ref (o 0)), (1, .int x), (2, .int y), (3, .int (nI (ouC v x y i))), (4, .int (nI i))]) hx hb z_m_openUnder_61 hl (by decide) rfl (fun ls hl => ?_)
          refine lv_iload_n hx hb z_m_openUnder_63 rfl (lv_at hl 4 rfl) ?_
          refine lv_iload hx hb z_m_openUnder_64 (lv_at hl 0 rfl) ?_
          refine lv_if_eq (tgt := 83) hx hb z_m_openUnder_66 (by decide) (fun _ => ?_) (fun c9 => absurd (by decide) c9)
          refine lv_iconst (v := 0) hx hb z_m_openUnder_83 (by decide) ?_
          refine lv_iadd hx hb z_m_openUnder_84 ?_
          rw [show nI (ouC v x y i) + 0 = nI (ouC v x y i) from nI_add _ 0]
          refine lv_istore_n (lv' := [(3, .int (nI (ouC v x y i))), (5, .int 0), (0, .ref (o 0)), (1, .int x), (2, .int y), (4, .int (nI i))]) hx hb z_m_openUnder_85 rfl hl (by decide) rfl (fun ls hl => ?_)
          refine lv_iinc (v := nI (i + 1)) (lv' := [(4, .int (nI (i + 1))), (3, .int (nI (ouC v x y i))), (5, .int 0), (0, .ref (o 0)), (1, .int x), (2, .int y)]) hx hb z_m_openUnder_86 hl (k := 5) rfl (by exact nI_1 i) (by decide) rfl (fun ls hl => ?_)
          refine lv_goto (tgt := 5) hx hb z_m_openUnder_89 (by decide) ?_
          exact ih ls hlt trivial (by show lv_has ls 6 [(0, .ref (o 0)), (1, .int x), (2, .int y), (3, .int (nI (ouC v x y (i + 1)))), (4, .int (nI (i + 1)))]; rw [ouC_0 (fun z => c_53 z.1.2.2)]; exact lv_sub hl [3, 4, 5, 1, 0] rfl)
        · refine lv_iconst (v := 1) hx hb z_m_openUnder_56 (by decide) ?_
          refine lv_goto (tgt := 61) hx hb z_m_openUnder_57 (by decide) ?_
          refine lv_istore (lv' := [(5, .int 1), (0, .ref (o 0)), (1, .int x), (2, .int y), (3, .int (nI (ouC v x y i))), (4, .int (nI i))]) hx hb z_m_openUnder_61 hl (by decide) rfl (fun ls hl => ?_)
          refine lv_iload_n hx hb z_m_openUnder_63 rfl (lv_at hl 4 rfl) ?_
          refine lv_iload hx hb z_m_openUnder_64 (lv_at hl 0 rfl) ?_
          refine lv_if_eq (tgt := 83) hx hb z_m_openUnder_66 (by decide) (fun c9 => absurd c9 (by decide)) (fun _ => ?_)
          refine lv_aload_n hx hb z_m_openUnder_69 rfl (lv_at hl 1 rfl) ?_
          refine va_get (D := (dC, dI)) (ci := 4) (v := .ref (o 4)) (C := R4) (T := T4) (N := 17) hx hb hts (cw_sub iC4) hown hK hP 0 rfl rfl 4 (by decide) (hts _ (cw_in mw_484 rfl)) (fun _ h9 => h9) rfl z_m_openUnder_70 ?_
          refine lv_iload hx hb z_m_openUnder_73 (lv_at hl 5 rfl) ?_
          refine xa_z hx hb hK hP 4 1 rfl rfl (k := i) (y := zop v i) (hlt) (by decide) (rfl) z_m_openUnder_75 ?_
          refine lv_if_eq (tgt := 83) hx hb z_m_openUnder_76 (by decide) (fun c_76 => ?_) (fun c_76 => ?_)
          · refine lv_iconst (v := 0) hx hb z_m_openUnder_83 (by decide) ?_
            refine lv_iadd hx hb z_m_openUnder_84 ?_
            rw [show nI (ouC v x y i) + 0 = nI (ouC v x y i) from nI_add _ 0]
            refine lv_istore_n (lv' := [(3, .int (nI (ouC v x y i))), (5, .int 1), (0, .ref (o 0)), (1, .int x), (2, .int y), (4, .int (nI i))]) hx hb z_m_openUnder_85 rfl hl (by decide) rfl (fun ls hl => ?_)
            refine lv_iinc (v := nI (i + 1)) (lv' := [(4, .int (nI (i + 1))), (3, .int (nI (ouC v x y i))), (5, .int 1), (0, .ref (o 0)), (1, .int x), (2, .int y)]) hx hb z_m_openUnder_86 hl (k := 5) rfl (by exact nI_1 i) (by decide) rfl (fun ls hl => ?_)
            refine lv_goto (tgt := 5) hx hb z_m_openUnder_89 (by decide) ?_
            exact ih ls hlt trivial (by show lv_has ls 6 [(0, .ref (o 0)), (1, .int x), (2, .int y), (3, .int (nI (ouC v x y (i + 1)))), (4, .int (nI (i + 1)))]; rw [ouC_0 (fun z => z.2 c_76)]; exact lv_sub hl [3, 4, 5, 1, 0] rfl)
          · refine lv_iconst (v := 1) hx hb z_m_openUnder_79 (by decide) ?_
            refine lv_goto (tgt := 84) hx hb z_m_openUnder_80 (by decide) ?_
            refine lv_iadd hx hb z_m_openUnder_84 ?_
            rw [nI_1]
            refine lv_istore_n (lv' := [(3, .int (nI (ouC v x y i + 1))), (5, .int 1), (0, .ref (o 0)), (1, .int x), (2, .int y), (4, .int (nI i))]) hx hb z_m_openUnder_85 rfl hl (by decide) rfl (fun ls hl => ?_)
            refine lv_iinc (v := nI (i + 1)) (lv' := [(4, .int (nI (i + 1))), (3, .int (nI (ouC v x y i + 1))), (5, .int 1), (0, .ref (o 0)), (1, .int x), (2, .int y)]) hx hb z_m_openUnder_86 hl (k := 5) rfl (by exact nI_1 i) (by decide) rfl (fun ls hl => ?_)
            refine lv_goto (tgt := 5) hx hb z_m_openUnder_89 (by decide) ?_
            exact ih ls hlt trivial (by show lv_has ls 6 [(0, .ref (o 0)), (1, .int x), (2, .int y), (3, .int (nI (ouC v x y (i + 1)))), (4, .int (nI (i + 1)))]; rw [ouC_1 ⟨⟨nlt_of (by omega) c_28, c_42, c_53⟩, c_76⟩]; exact lv_sub hl [3, 4, 5, 1, 0] rfl)

set_option maxHeartbeats 4000000 in
set_option maxRecDepth 100000 in
theorem c_m_isSum (l : Launch) (x : Int64) : Met l y_m_isSum (Cond.code y_m_isSum b_m_isSum 2 (some .boolean) :: CW) { frames := 0, cells := 0, slots := 0, locals := 0 } (va_Pc [.long x] (fun _ => True)) (vp_Si (fun r : Int32 => (r = 1 ∧ (-1000000000 ≤ x ∧ x ≤ 1000000000)) ∨ (r = 0 ∧ ¬ (-1000000000 ≤ x ∧ x ≤ 1000000000)))) 0 0 (fun _ => False) := by
  refine cx_met (by decide) (Nat.le_of_ble_eq_true rfl) ?_
  intro p e s m below meth c hx hb hr hml hts hown hlocks hnm hC ls hl
  have hown : s.vm.findClass "ServiceDeskModel" = some m.cls := hown
  have hl : lv_has ls 2 [(0, .long x)] := hl
  refine lv_lload_n hx hb z_m_isSum_0 rfl (lv_at hl 0 rfl) ?_
  refine lv_ldc2 (v := (-1000000000)) hx hb hown (hts _ (cw_in mw_592 rfl)) z_m_isSum_1 ?_
  refine W.lcmp hx hb z_m_isSum_4 ?_
  refine lv_if_lt (tgt := 20) hx hb z_m_isSum_5 (by decide) (fun c_5 => ?_) (fun c_5 => ?_)
  · refine lv_iconst (v := 0) hx hb z_m_isSum_20 (by decide) ?_
    exact W.zret (v := 0) hx hb hr rfl (fun t ht _ => ⟨0, rfl, Or.inr ⟨rfl, fun h => Int64.not_lt.mpr h.1 (lcmp_lt.mp c_5)⟩, ht⟩) t_nil z_m_isSum_21
  · refine lv_lload_n hx hb z_m_isSum_8 rfl (lv_at hl 0 rfl) ?_
    refine lv_ldc2 (v := 1000000000) hx hb hown (hts _ (cw_in mw_593 rfl)) z_m_isSum_9 ?_
    refine W.lcmp hx hb z_m_isSum_12 ?_
    refine lv_if_gt (tgt := 20) hx hb z_m_isSum_13 (by decide) (fun c_13 => ?_) (fun c_13 => ?_)
    · refine lv_iconst (v := 0) hx hb z_m_isSum_20 (by decide) ?_
      exact W.zret (v := 0) hx hb hr rfl (fun t ht _ => ⟨0, rfl, Or.inr ⟨rfl, fun h => Int64.not_lt.mpr h.2 (lcmp_gt.mp c_13)⟩, ht⟩) t_nil z_m_isSum_21
    · refine lv_iconst (v := 1) hx hb z_m_isSum_16 (by decide) ?_
      refine lv_goto (tgt := 21) hx hb z_m_isSum_17 (by decide) ?_
      exact W.zret (v := 1) hx hb hr rfl (fun t ht _ => ⟨1, rfl, Or.inl ⟨rfl, Int64.not_lt.mp (fun h => c_5 (lcmp_lt.mpr h)), Int64.not_lt.mp (fun h => c_13 (lcmp_gt.mpr h))⟩, ht⟩) t_nil z_m_isSum_21
