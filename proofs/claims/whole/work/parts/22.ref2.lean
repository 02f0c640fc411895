set_option maxHeartbeats 4000000 in
set_option maxRecDepth 100000 in
theorem c_m_throwing (l : Launch) (dC : Nat → ClassId) (dI : Nat → Nat → Nat) (o : Nat → Nat) (cI cZ cL : ClassId) (v : St) (th ch : Int32) (cd : Int64) (sz : Nat) (b1 b2 b3 b4 : Int32) : Met l y_m_throwing (Cond.code y_m_throwing b_m_throwing 5 (some .boolean) :: CW) { frames := 0, cells := 0, slots := 0, locals := 0 } (va_Pc [.ref (o 0), .int b1, .int b2, .int b3, .int b4] (WrC (dC, dI) sz (wM o cI cZ cL v th ch cd) (tyM cI cZ cL))) (va_Qi (fun (r : Int32) (u : St × Int32 × Int32 × Int64) => r = (if thF b1 b2 b3 b4 = 0 then 0 else 1) ∧ u = (v, thF b1 b2 b3 b4, ch, cd)) (fun u => WrB (dC, dI) (wM o cI cZ cL u.1 u.2.1 u.2.2.1 u.2.2.2) (tyM cI cZ cL) (va_A (wM o cI cZ cL v th ch cd) sz)) (va_A (wM o cI cZ cL v th ch cd) sz)) 0 0 (va_A (wM o cI cZ cL v th ch cd) sz) := by
  refine cx_met (by decide) (Nat.le_of_ble_eq_true rfl) ?_
  intro p e s m below meth c hx hb hr hml hts hown hlocks hnm hC ls hl
  obtain ⟨hsz, hP, hK, hD0, hN⟩ := hC
  subst hsz
  have hD := hD0.self (sz := s.heap.size)
  generalize hAe : va_A (wM o cI cZ cL v th ch cd) s.heap.size = A at hD ⊢
  have hA : ∀ q9 : Nat, s.heap.size ≤ q9 → A q9 := fun q9 h => by rw [← hAe]; exact Or.inr h
  have hS : va_S A s.heap s.heap [] := va_S.rf
  have hown : s.vm.findClass "ServiceDeskModel" = some m.cls := hown
  have hl : lv_has ls 5 [(0, .ref (o 0)), (1, .int b1), (2, .int b2), (3, .int b3), (4, .int b4)] := hl
  refine lv_aload_n hx hb z_m_throwing_0 rfl (lv_at hl 0 rfl) ?_
  refine lv_iload_n hx hb z_m_throwing_1 rfl (lv_at hl 1 rfl) ?_
  refine lv_if_eq (tgt := 9) hx hb z_m_throwing_2 (by decide) (fun c_2 => ?_) (fun c_2 => ?_)
  · refine lv_iload_n hx hb z_m_throwing_9 rfl (lv_at hl 2 rfl) ?_
    refine lv_if_eq (tgt := 17) hx hb z_m_throwing_10 (by decide) (fun c_10 => ?_) (fun c_10 => ?_)
    · refine lv_iload_n hx hb z_m_throwing_17 rfl (lv_at hl 3 rfl) ?_
      refine lv_if_eq (tgt := 25) hx hb z_m_throwing_18 (by decide) (fun c_18 => ?_) (fun c_18 => ?_)
      · refine lv_iload hx hb z_m_throwing_25 (lv_at hl 4 rfl) ?_
        refine lv_if_eq (tgt := 34) hx hb z_m_throwing_27 (by decide) (fun c_27 => ?_) (fun c_27 => ?_)
        · refine lv_iconst (v := 0) hx hb z_m_throwing_34 (by decide) ?_
          refine va_put (D := (dC, dI)) (ci := 4) (v := .int 0) (ty := .int) (C := R4) (T := T4) (N := 17) hx hb hts (cw_sub iC4) ty4 tyok4 nm4 hown hK hP hD hS 0 rfl rfl 0 (by decide) (hts _ (cw_in mw_480 rfl)) (fun _ h9 => h9) rfl (by decide +kernel) rfl rfl (Nat.le_of_ble_eq_true rfl) z_m_throwing_35 (fun H locs hP hD hS => ?_)
          have hP : va_P (dC, dI) vwCl (wM o cI cZ cL v 0 ch cd) H := hP
          have hD : va_D A (wM o cI cZ cL v 0 ch cd) := hD
          refine lv_aload_n hx hb z_m_throwing_38 rfl (lv_at hl 0 rfl) ?_
          refine va_get (D := (dC, dI)) (ci := 4) (v := .int 0) (C := R4) (T := T4) (N := 17) hx hb hts (cw_sub iC4) hown hK hP 0 rfl rfl 0 (by decide) (hts _ (cw_in mw_480 rfl)) (fun _ h9 => h9) rfl z_m_throwing_39 ?_
          refine lv_if_le (tgt := 49) hx hb z_m_throwing_42 (by decide) (fun _ => ?_) (fun c9 => absurd (by decide) c9)
          refine lv_iconst (v := 0) hx hb z_m_throwing_49 (by decide) ?_
          have e9 : thF b1 b2 b3 b4 = 0 := by rw [thF, if_pos c_2, if_pos c_10, if_pos c_18, if_pos c_27]
          exact W.zret (v := 0) hx hb hr rfl (fun t ht hW => ⟨⟨0, (v, 0, ch, cd), rfl, ⟨by rw [e9]; decide, by rw [e9]⟩, by rw [ht]; exact hP, va_K.moved hW.alike hK, hD⟩, hS.F ht⟩) hS.2.2 z_m_throwing_50
        · refine lv_iconst (v := 4) hx hb z_m_throwing_30 (by decide) ?_
          refine lv_goto (tgt := 35) hx hb z_m_throwing_31 (by decide) ?_
          refine va_put (D := (dC, dI)) (ci := 4) (v := .int 4) (ty := .int) (C := R4) (T := T4) (N := 17) hx hb hts (cw_sub iC4) ty4 tyok4 nm4 hown hK hP hD hS 0 rfl rfl 0 (by decide) (hts _ (cw_in mw_480 rfl)) (fun _ h9 => h9) rfl (by decide +kernel) rfl rfl (Nat.le_of_ble_eq_true rfl) z_m_throwing_35 (fun H locs hP hD hS => ?_)
          have hP : va_P (dC, dI) vwCl (wM o cI cZ cL v 4 ch cd) H := hP
          have hD : va_D A (wM o cI cZ cL v 4 ch cd) := hD
          refine lv_aload_n hx hb z_m_throwing_38 rfl (lv_at hl 0 rfl) ?_
          refine va_get (D := (dC, dI)) (ci := 4) (v := .int 4) (C := R4) (T := T4) (N := 17) hx hb hts (cw_sub iC4) hown hK hP 0 rfl rfl 0 (by decide) (hts _ (cw_in mw_480 rfl)) (fun _ h9 => h9) rfl z_m_throwing_39 ?_
          refine lv_if_le (tgt := 49) hx hb z_m_throwing_42 (by decide) (fun c9 => absurd c9 (by decide)) (fun _ => ?_)
          refine lv_iconst (v := 1) hx hb z_m_throwing_45 (by decide) ?_
          refine lv_goto (tgt := 50) hx hb z_m_throwing_46 (by decide) ?_
          have e9 : thF b1 b2 b3 b4 = 4 := by rw [thF, if_pos c_2, if_pos c_10, if_pos c_18, if_neg c_27]
          exact W.zret (v := 1) hx hb hr rfl (fun t ht hW => ⟨⟨1, (v, 4, ch, cd), rfl, ⟨by rw [e9]; decide, by rw [e9]⟩, by rw [ht]; exact hP, va_K.moved hW.alike hK, hD⟩, hS.F ht⟩) hS.2.2 z_m_throwing_50
      · refine lv_iconst (v := 3) hx hb z_m_throwing_21 (by decide) ?_
        refine lv_goto (tgt := 35) hx hb z_m_throwing_22 (by decide) ?_
        refine va_put (D := (dC, dI)) (ci := 4) (v := .int 3) (ty := .int) (C := R4) (T := T4) (N := 17) hx hb hts (cw_sub iC4) ty4 tyok4 nm4 hown hK hP hD hS 0 rfl rfl 0 (by decide) (hts _ (cw_in mw_480 rfl)) (fun _ h9 => h9) rfl (by decide +kernel) rfl rfl (Nat.le_of_ble_eq_true rfl) z_m_throwing_35 (fun H locs hP hD hS => ?_)
        have hP : va_P (dC, dI) vwCl (wM o cI cZ cL v 3 ch cd) H := hP
        have hD : va_D A (wM o cI cZ cL v 3 ch cd) := hD
        refine lv_aload_n hx hb z_m_throwing_38 rfl (lv_at hl 0 rfl) ?_
        refine va_get (D := (dC, dI)) (ci := 4) (v := .int 3) (C := R4) (T := T4) (N := 17) hx hb hts (cw_sub iC4) hown hK hP 0 rfl rfl 0 (by decide) (hts _ (cw_in mw_480 rfl)) (fun _ h9 => h9) rfl z_m_throwing_39 ?_
        refine lv_if_le (tgt := 49) hx hb z_m_throwing_42 (by decide) (fun c9 => absurd c9 (by decide)) (fun _ => ?_)
        refine lv_iconst (v := 1) hx hb z_m_throwing_45 (by decide) ?_
        refine lv_goto (tgt := 50) hx hb z_m_throwing_46 (by decide) ?_
        have e9 : thF b1 b2 b3 b4 = 3 := by rw [thF, if_pos c_2, if_pos c_10, if_neg c_18]
        exact W.zret (v := 1) hx hb hr rfl (fun t ht hW => ⟨⟨1, (v, 3, ch, cd), rfl, ⟨by rw [e9]; decide, by rw [e9]⟩, by rw [ht]; exact hP, va_K.moved hW.alike hK, hD⟩, hS.F ht⟩) hS.2.2 z_m_throwing_50
    · refine lv_iconst (v := 2) hx hb z_m_throwing_13 (by decide) ?_
      refine lv_goto (tgt := 35) hx hb z_m_throwing_14 (by decide) ?_
      refine va_put (D := (dC, dI)) (ci := 4) (v := .int 2) (ty := .int) (C := R4) (T := T4) (N := 17) hx hb hts (cw_sub iC4) ty4 tyok4 nm4 hown hK hP hD hS 0 rfl rfl 0 (by decide) (hts _ (cw_in mw_480 rfl)) (fun _ h9 => h9) rfl (by decide +kernel) rfl rfl (Nat.le_of_ble_eq_true rfl) z_m_throwing_35 (fun H locs hP hD hS => ?_)
      have hP : va_P (dC, dI) vwCl (wM o cI cZ cL v 2 ch cd) H := hP
      have hD : va_D A (wM o cI cZ cL v 2 ch cd) := hD
      refine lv_aload_n hx hb z_m_throwing_38 rfl (lv_at hl 0 rfl) ?_
      refine va_get (D := (dC, dI)) (ci := 4) (v := .int 2) (C := R4) (T := T4) (N := 17) hx hb hts (cw_sub iC4) hown hK hP 0 rfl rfl 0 (by decide) (hts _ (cw_in mw_480 rfl)) (fun _ h9 => h9) rfl z_m_throwing_39 ?_
      refine lv_if_le (tgt := 49) hx hb z_m_throwing_42 (by decide) (fun c9 => absurd c9 (by decide)) (fun _ => ?_)
      refine lv_iconst (v := 1) hx hb z_m_throwing_45 (by decide) ?_
      refine lv_goto (tgt := 50) hx hb z_m_throwing_46 (by decide) ?_
      have e9 : thF b1 b2 b3 b4 = 2 := by rw [thF, if_pos c_2, if_neg c_10]
      exact W.zret (v := 1) hx hb hr rfl (fun t ht hW => ⟨⟨1, (v, 2, ch, cd), rfl, ⟨by rw [e9]; decide, by rw [e9]⟩, by rw [ht]; exact hP, va_K.moved hW.alike hK, hD⟩, hS.F ht⟩) hS.2.2 z_m_throwing_50
  · refine lv_iconst (v := 1) hx hb z_m_throwing_5 (by decide) ?_
    refine lv_goto (tgt := 35) hx hb z_m_throwing_6 (by decide) ?_
    refine va_put (D := (dC, dI)) (ci := 4) (v := .int 1) (ty := .int) (C := R4) (T := T4) (N := 17) hx hb hts (cw_sub iC4) ty4 tyok4 nm4 hown hK hP hD hS 0 rfl rfl 0 (by decide) (hts _ (cw_in mw_480 rfl)) (fun _ h9 => h9) rfl (by decide +kernel) rfl rfl (Nat.le_of_ble_eq_true rfl) z_m_throwing_35 (fun H locs hP hD hS => ?_)
    have hP : va_P (dC, dI) vwCl (wM o cI cZ cL v 1 ch cd) H := hP
    have hD : va_D A (wM o cI cZ cL v 1 ch cd) := hD
    refine lv_aload_n hx hb z_m_throwing_38 rfl (lv_at hl 0 rfl) ?_
    refine va_get (D := (dC, dI)) (ci := 4) (v := .int 1) (C := R4) (T := T4) (N := 17) hx hb hts (cw_sub iC4) hown hK hP 0 rfl rfl 0 (by decide) (hts _ (cw_in mw_480 rfl)) (fun _ h9 => h9) rfl z_m_throwing_39 ?_
    refine lv_if_le (tgt := 49) hx hb z_m_throwing_42 (by decide) (fun c9 => absurd c9 (by decide)) (fun _ => ?_)
    refine lv_iconst (v := 1) hx hb z_m_throwing_45 (by decide) ?_
    refine lv_goto (tgt := 50) hx hb z_m_throwing_46 (by decide) ?_
    have e9 : thF b1 b2 b3 b4 = 1 := by rw [thF, if_neg c_2]
    exact W.zret (v := 1) hx hb hr rfl (fun t ht hW => ⟨⟨1, (v, 1, ch, cd), rfl, ⟨by rw [e9]; decide, by rw [e9]⟩, by rw [ht]; exact hP, va_K.moved hW.alike hK, hD⟩, hS.F ht⟩) hS.2.2 z_m_throwing_50

set_option maxHeartbeats 4000000 in
set_option maxRecDepth 100000 in
theorem c_m_under (l : Launch) (dC : Nat → ClassId) (dI : Nat → Nat → Nat) (o : Nat → Nat) (cI cZ cL : ClassId) (v : St) (th ch : Int32) (cd : Int64) (sz : Nat) (hi : Inv v) (x y : Int32) : Met l y_m_under (Cond.code y_m_under b_m_under 4 none :: CW) { frames := 2, cells := 0, slots := 0, locals := 46 } (va_Pc [.ref (o 0), .int x, .int y] (WrC (dC, dI) sz (wM o cI cZ cL v th ch cd) (tyM cI cZ cL))) (va_Qv (fun u : St × Int32 × Int32 × Int64 => ∃ c9 : Nat, u.2.1 = nI c9 ∧ spUnder v x y c9 u.1) (fun u => WrB (dC, dI) (wM o cI cZ cL u.1 u.2.1 u.2.2.1 u.2.2.2) (tyM cI cZ cL) (va_A (wM o cI cZ cL v th ch cd) sz)) (va_A (wM o cI cZ cL v th ch cd) sz)) 0 0 (va_A (wM o cI cZ cL v th ch cd) sz) := by
  refine cx_met (by decide) (Nat.le_of_ble_eq_true rfl) ?_
  intro p e s m below meth c hx hb hr hml hts hown hlocks hnm hC ls hl
  obtain ⟨hsz, hP, hK, hD0, hN⟩ := hC
  subst hsz
  have hD := hD0.self (sz := s.heap.size)
  generalize hAe : va_A (wM o cI cZ cL v th ch cd) s.heap.size = A at hD ⊢
  have hA : ∀ q9 : Nat, s.heap.size ≤ q9 → A q9 := fun q9 h => by rw [← hAe]; exact Or.inr h
  have hS : va_S A s.heap s.heap [] := va_S.rf
  have hown : s.vm.findClass "ServiceDeskModel" = some m.cls := hown
  have hl : lv_has ls 4 [(0, .ref (o 0)), (1, .int x), (2, .int y)] := hl
  refine lv_iload_n hx hb z_m_under_0 rfl (lv_at hl 1 rfl) ?_
  refine rdSi (As := [.int x]) (rest := []) ⟨hx, hb, hml, hown, hts⟩ (c_m_isKind l x) mw_543 mw_541 mw_542 mw_6 yd_m_isKind ⟨⟨rfl, rfl⟩, Nat.le_of_ble_eq_true rfl, Nat.le_of_ble_eq_true rfl⟩ ⟨Nat.zero_le _, Nat.zero_le _⟩ (pre_pure) rfl hl.1 rfl (Nat.le_of_ble_eq_true rfl) z_m_under_1 (fun r_1 h_2 => ?_)
  rcases h_2 with ⟨rfl, h_2⟩ | ⟨rfl, h_2⟩
  · obtain ⟨k, hk, rfl⟩ := h_2
    refine lv_if_eq (tgt := 17) hx hb z_m_under_4 (by decide) (fun c9 => absurd c9 (by decide)) (fun _ => ?_)
    refine lv_iload_n hx hb z_m_under_7 rfl (lv_at hl 2 rfl) ?_
    refine lv_iconst (v := (-1)) hx hb z_m_under_8 (by decide) ?_
    refine lv_bipush (v := 7) hx hb z_m_under_9 (by decide) ?_
    refine rdSi (As := [.int y, .int (-1), .int 7]) (rest := []) ⟨hx, hb, hml, hown, hts⟩ (c_m_in l y (-1) 7) mw_546 mw_544 mw_545 mw_6 yd_m_in ⟨⟨rfl, rfl⟩, Nat.le_of_ble_eq_true rfl, Nat.le_of_ble_eq_true rfl⟩ ⟨Nat.zero_le _, Nat.zero_le _⟩ (pre_pure) rfl hl.1 rfl (Nat.le_of_ble_eq_true rfl) z_m_under_11 (fun r_3 h_4 => ?_)
    rcases h_4 with ⟨rfl, h_4⟩ | ⟨rfl, h_4⟩
    · refine lv_if_ne (tgt := 21) hx hb z_m_under_14 (by decide) (fun _ => ?_) (fun c9 => absurd c9 (by decide))
      refine lv_iconst (v := 0) hx hb z_m_under_21 (by decide) ?_
      refine lv_istore_n (lv' := [(3, .int 0), (0, .ref (o 0)), (1, .int (nI k)), (2, .int y)]) hx hb z_m_under_22 rfl hl (by decide) rfl (fun ls hl => ?_)
      refine lv_aload_n hx hb z_m_under_23 rfl (lv_at hl 1 rfl) ?_
      refine lv_iload_n hx hb z_m_under_24 rfl (lv_at hl 0 rfl) ?_
      refine lv_iload_n hx hb z_m_under_25 rfl (lv_at hl 0 rfl) ?_
      refine lv_if_ne (tgt := 55) hx hb z_m_under_26 (by decide) (fun c9 => absurd rfl c9) (fun _ => ?_)
      refine lv_aload_n hx hb z_m_under_29 rfl (lv_at hl 1 rfl) ?_
      refine va_get (D := (dC, dI)) (ci := 4) (v := .ref (o 2)) (C := R4) (T := T4) (N := 17) hx hb hts (cw_sub iC4) hown hK hP 0 rfl rfl 2 (by decide) (hts _ (cw_in mw_482 rfl)) (fun _ h9 => h9) rfl z_m_under_30 ?_
      refine lv_iload_n hx hb z_m_under_33 rfl (lv_at hl 2 rfl) ?_
      refine xa_i hx hb hK hP 2 0 rfl rfl (k := k) (y := nI (mN v k)) (hk) (by decide) ((hi.mk k hk).2) z_m_under_34 ?_
      refine lv_if_gt (tgt := 51) hx hb z_m_under_35 (by decide) (fun c_35 => ?_) (fun c_35 => ?_)
      · refine lv_iconst (v := 1) hx hb z_m_under_51 (by decide) ?_
        refine lv_goto (tgt := 56) hx hb z_m_under_52 (by decide) ?_
        refine lv_iconst (v := 0) hx hb z_m_under_56 (by decide) ?_
        refine lv_iconst (v := 0) hx hb z_m_under_57 (by decide) ?_
        refine wrVi (As := [.int 0, .int 1, .int 0, .int 0]) (rest := []) (wf := fun u : St × Int32 × Int32 × Int64 => wM o cI cZ cL u.1 u.2.1 u.2.2.1 u.2.2.2) ⟨hx, hb, hml, hown, hts⟩ (c_m_throwing l dC dI o cI cZ cL v th ch cd s.heap.size 0 1 0 0) mw_554 mw_551 mw_553 mp_27 mw_6 rfl yd_m_throwing ⟨⟨rfl, rfl⟩, Nat.le_of_ble_eq_true rfl, Nat.le_of_ble_eq_true rfl⟩ ⟨Nat.le_of_ble_eq_true rfl, Nat.le_of_ble_eq_true rfl⟩ (WrC.preV hP hK hD hN (ci := 4) (q0 := 0) rfl rfl) (wr_free hD hS hA) hS rfl hl.1 rfl (Nat.le_of_ble_eq_true rfl) z_m_under_58 (fun r_5 u_6 H locs h_7 hP hD hS hz9 => ?_)
        obtain ⟨rfl, rfl⟩ : r_5 = 1 ∧ u_6 = (v, 2, ch, cd) := ⟨h_7.1.trans (by decide), h_7.2.trans (by rw [show thF 0 1 0 0 = 2 from by decide])⟩
        have hP : va_P (dC, dI) vwCl (wM o cI cZ cL v 2 ch cd) H := hP
        have hD : va_D A (wM o cI cZ cL v 2 ch cd) := hD
        refine lv_if_eq (tgt := 65) hx hb z_m_under_61 (by decide) (fun c9 => absurd c9 (by decide)) (fun _ => ?_)
        exact W.vret hx hb hr (fun t ht hW => ⟨⟨(v, 2, ch, cd), rfl, ⟨2, rfl, Or.inr (Or.inl ⟨rfl, rfl, k, hk, rfl, m7_iff.mp h_4, Or.inl (pos_of_lt c_35)⟩)⟩, by rw [ht]; exact hP, va_K.moved hW.alike hK, hD⟩, hS.F ht⟩) hS.2.2 z_m_under_64
      · refine lv_iload_n hx hb z_m_under_38 rfl (lv_at hl 3 rfl) ?_
        refine lv_if_lt (tgt := 55) hx hb z_m_under_39 (by decide) (fun c_39 => ?_) (fun c_39 => ?_)
        · refine lv_iconst (v := 0) hx hb z_m_under_55 (by decide) ?_
          refine lv_iconst (v := 0) hx hb z_m_under_56 (by decide) ?_
          refine lv_iconst (v := 0) hx hb z_m_under_57 (by decide) ?_
          refine wrVi (As := [.int 0, .int 0, .int 0, .int 0]) (rest := []) (wf := fun u : St × Int32 × Int32 × Int64 => wM o cI cZ cL u.1 u.2.1 u.2.2.1 u.2.2.2) ⟨hx, hb, hml, hown, hts⟩ (c_m_throwing l dC dI o cI cZ cL v th ch cd s.heap.size 0 0 0 0) mw_554 mw_551 mw_553 mp_27 mw_6 rfl yd_m_throwing ⟨⟨rfl, rfl⟩, Nat.le_of_ble_eq_true rfl, Nat.le_of_ble_eq_true rfl⟩ ⟨Nat.le_of_ble_eq_true rfl, Nat.le_of_ble_eq_true rfl⟩ (WrC.preV hP hK hD hN (ci := 4) (q0 := 0) rfl rfl) (wr_free hD hS hA) hS rfl hl.1 rfl (Nat.le_of_ble_eq_true rfl) z_m_under_58 (fun r_8 u_9 H locs h_10 hP hD hS hz9 => ?_)
          obtain ⟨rfl, rfl⟩ : r_8 = 0 ∧ u_9 = (v, 0, ch, cd) := ⟨h_10.1.trans (by decide), h_10.2.trans (by rw [show thF 0 0 0 0 = 0 from by decide])⟩
          have hP : va_P (dC, dI) vwCl (wM o cI cZ cL v 0 ch cd) H := hP
          have hD : va_D A (wM o cI cZ cL v 0 ch cd) := hD
          refine lv_if_eq (tgt := 65) hx hb z_m_under_61 (by decide) (fun _ => ?_) (fun c9 => absurd (by decide) c9)
          refine lv_aload_n hx hb z_m_under_65 rfl (lv_at hl 1 rfl) ?_
          refine va_get (D := (dC, dI)) (ci := 4) (v := .ref (o 1)) (C := R4) (T := T4) (N := 17) hx hb hts (cw_sub iC4) hown hK hP 0 rfl rfl 1 (by decide) (hts _ (cw_in mw_481 rfl)) (fun _ h9 => h9) rfl z_m_under_66 ?_
          refine lv_iload_n hx hb z_m_under_69 rfl (lv_at hl 2 rfl) ?_
          refine lv_iload_n hx hb z_m_under_70 rfl (lv_at hl 3 rfl) ?_
          refine xs_i hx hb hK hP hD hS 1 0 rfl rfl (k := k) (hk) (by decide) z_m_under_71 (fun H locs hP hD hS => ?_)
          have hP : va_P (dC, dI) vwCl (wM o cI cZ cL (uka v (upd (zka v) k y)) 0 ch cd) H := hP
          have hD : va_D A (wM o cI cZ cL (uka v (upd (zka v) k y)) 0 ch cd) := hD
          exact W.vret hx hb hr (fun t ht hW => ⟨⟨(uka v (upd (zka v) k y), 0, ch, cd), rfl, ⟨0, rfl, Or.inr (Or.inr ⟨rfl, k, hk, rfl, m7_iff.mp h_4, fun h => h.elim (npos_of_nlt (mN_lt hi hk) c_35) (by rw [(m7_iff.mp h_4).resolve_right (k8_neg c_39)]; exact reaU_m1 hk), rfl⟩)⟩, by rw [ht]; exact hP, va_K.moved hW.alike hK, hD⟩, hS.F ht⟩) hS.2.2 z_m_under_72
        · refine lv_aload_n hx hb z_m_under_42 rfl (lv_at hl 1 rfl) ?_
          refine lv_iload_n hx hb z_m_under_43 rfl (lv_at hl 3 rfl) ?_
          refine lv_iload_n hx hb z_m_under_44 rfl (lv_at hl 2 rfl) ?_
          refine rdVi (As := [.int y, .int (nI k)]) (rest := [.int 0, .ref (o 0)]) ⟨hx, hb, hml, hown, hts⟩ (c_m_reaches l dC dI o cI cZ cL v th ch cd hi y ((m7_iff.mp h_4).resolve_left (nneg_1 c_39)) k hk) mw_550 mw_547 mw_549 mp_26 mw_6 rfl yd_m_reaches ⟨⟨rfl, rfl⟩, Nat.le_of_ble_eq_true rfl, Nat.le_of_ble_eq_true rfl⟩ ⟨Nat.zero_le _, Nat.zero_le _⟩ (RdC.preV hP hK hN (ci := 4) (q0 := 0) rfl rfl) rfl hl.1 rfl (Nat.le_of_ble_eq_true rfl) z_m_under_45 (fun r_11 h_12 => ?_)
          rcases h_12 with ⟨rfl, h_12⟩ | ⟨rfl, h_12⟩
          · refine lv_if_eq (tgt := 55) hx hb z_m_under_48 (by decide) (fun c9 => absurd c9 (by decide)) (fun _ => ?_)
            refine lv_iconst (v := 1) hx hb z_m_under_51 (by decide) ?_
            refine lv_goto (tgt := 56) hx hb z_m_under_52 (by decide) ?_
            refine lv_iconst (v := 0) hx hb z_m_under_56 (by decide) ?_
            refine lv_iconst (v := 0) hx hb z_m_under_57 (by decide) ?_
            refine wrVi (As := [.int 0, .int 1, .int 0, .int 0]) (rest := []) (wf := fun u : St × Int32 × Int32 × Int64 => wM o cI cZ cL u.1 u.2.1 u.2.2.1 u.2.2.2) ⟨hx, hb, hml, hown, hts⟩ (c_m_throwing l dC dI o cI cZ cL v th ch cd s.heap.size 0 1 0 0) mw_554 mw_551 mw_553 mp_27 mw_6 rfl yd_m_throwing ⟨⟨rfl, rfl⟩, Nat.le_of_ble_eq_true rfl, Nat.le_of_ble_eq_true rfl⟩ ⟨Nat.le_of_ble_eq_true rfl, Nat.le_of_ble_eq_true rfl⟩ (WrC.preV hP hK hD hN (ci := 4) (q0 := 0) rfl rfl) (wr_free hD hS hA) hS rfl hl.1 rfl (Nat.le_of_ble_eq_true rfl) z_m_under_58 (fun r_13 u_14 H locs h_15 hP hD hS hz9 => ?_)
            obtain ⟨rfl, rfl⟩ : r_13 = 1 ∧ u_14 = (v, 2, ch, cd) := ⟨h_15.1.trans (by decide), h_15.2.trans (by rw [show thF 0 1 0 0 = 2 from by decide])⟩
            have hP : va_P (dC, dI) vwCl (wM o cI cZ cL v 2 ch cd) H := hP
            have hD : va_D A (wM o cI cZ cL v 2 ch cd) := hD
            refine lv_if_eq (tgt := 65) hx hb z_m_under_61 (by decide) (fun c9 => absurd c9 (by decide)) (fun _ => ?_)
            exact W.vret hx hb hr (fun t ht hW => ⟨⟨(v, 2, ch, cd), rfl, ⟨2, rfl, Or.inr (Or.inl ⟨rfl, rfl, k, hk, rfl, m7_iff.mp h_4, Or.inr h_12⟩)⟩, by rw [ht]; exact hP, va_K.moved hW.alike hK, hD⟩, hS.F ht⟩) hS.2.2 z_m_under_64
          · refine lv_if_eq (tgt := 55) hx hb z_m_under_48 (by decide) (fun _ => ?_) (fun c9 => absurd (by decide) c9)
            refine lv_iconst (v := 0) hx hb z_m_under_55 (by decide) ?_
            refine lv_iconst (v := 0) hx hb z_m_under_56 (by decide) ?_
            refine lv_iconst (v := 0) hx hb z_m_under_57 (by decide) ?_
            refine wrVi (As := [.int 0, .int 0, .int 0, .int 0]) (rest := []) (wf := fun u : St × Int32 × Int32 × Int64 => wM o cI cZ cL u.1 u.2.1 u.2.2.1 u.2.2.2) ⟨hx, hb, hml, hown, hts⟩ (c_m_throwing l dC dI o cI cZ cL v th ch cd s.heap.size 0 0 0 0) mw_554 mw_551 mw_553 mp_27 mw_6 rfl yd_m_throwing ⟨⟨rfl, rfl⟩, Nat.le_of_ble_eq_true rfl, Nat.le_of_ble_eq_true rfl⟩ ⟨Nat.le_of_ble_eq_true rfl, Nat.le_of_ble_eq_true rfl⟩ (WrC.preV hP hK hD hN (ci := 4) (q0 := 0) rfl rfl) (wr_free hD hS hA) hS rfl hl.1 rfl (Nat.le_of_ble_eq_true rfl) z_m_under_58 (fun r_16 u_17 H locs h_18 hP hD hS hz9 => ?_)
            obtain ⟨rfl, rfl⟩ : r_16 = 0 ∧ u_17 = (v, 0, ch, cd) := ⟨h_18.1.trans (by decide), h_18.2.trans (by rw [show thF 0 0 0 0 = 0 from by decide])⟩
            have hP : va_P (dC, dI) vwCl (wM o cI cZ cL v 0 ch cd) H := hP
            have hD : va_D A (wM o cI cZ cL v 0 ch cd) := hD
            refine lv_if_eq (tgt := 65) hx hb z_m_under_61 (by decide) (fun _ => ?_) (fun c9 => absurd (by decide) c9)
            refine lv_aload_n hx hb z_m_under_65 rfl (lv_at hl 1 rfl) ?_
            refine va_get (D := (dC, dI)) (ci := 4) (v := .ref (o 1)) (C := R4) (T := T4) (N := 17) hx hb hts (cw_sub iC4) hown hK hP 0 rfl rfl 1 (by decide) (hts _ (cw_in mw_481 rfl)) (fun _ h9 => h9) rfl z_m_under_66 ?_
            refine lv_iload_n hx hb z_m_under_69 rfl (lv_at hl 2 rfl) ?_
            refine lv_iload_n hx hb z_m_under_70 rfl (lv_at hl 3 rfl) ?_
            refine xs_i hx hb hK hP hD hS 1 0 rfl rfl (k := k) (hk) (by decide) z_m_under_71 (fun H locs hP hD hS => ?_)
            have hP : va_P (dC, dI) vwCl (wM o cI cZ cL (uka v (upd (zka v) k y)) 0 ch cd) H := hP
            have hD : va_D A (wM o cI cZ cL (uka v (upd (zka v) k y)) 0 ch cd) := hD
            exact W.vret hx hb hr (fun t ht hW => ⟨⟨(uka v (upd (zka v) k y), 0, ch, cd), rfl, ⟨0, rfl, Or.inr (Or.inr ⟨rfl, k, hk, rfl, m7_iff.mp h_4, fun h => h.elim (npos_of_nlt (mN_lt hi hk) c_35) (h_12), rfl⟩)⟩, by rw [ht]; exact hP, va_K.moved hW.alike hK, hD⟩, hS.F ht⟩) hS.2.2 z_m_under_72
    · refine lv_if_ne (tgt := 21) hx hb z_m_under_14 (by decide) (fun c9 => absurd rfl c9) (fun _ => ?_)
      refine lv_iconst (v := 1) hx hb z_m_under_17 (by decide) ?_
      refine lv_goto (tgt := 22) hx hb z_m_under_18 (by decide) ?_
      refine lv_istore_n (lv' := [(3, .int 1), (0, .ref (o 0)), (1, .int (nI k)), (2, .int y)]) hx hb z_m_under_22 rfl hl (by decide) rfl (fun ls hl => ?_)
      refine lv_aload_n hx hb z_m_under_23 rfl (lv_at hl 1 rfl) ?_
      refine lv_iload_n hx hb z_m_under_24 rfl (lv_at hl 0 rfl) ?_
      refine lv_iload_n hx hb z_m_under_25 rfl (lv_at hl 0 rfl) ?_
      refine lv_if_ne (tgt := 55) hx hb z_m_under_26 (by decide) (fun _ => ?_) (fun c9 => absurd c9 (by decide))
      refine lv_iconst (v := 0) hx hb z_m_under_55 (by decide) ?_
      refine lv_iconst (v := 0) hx hb z_m_under_56 (by decide) ?_
      refine lv_iconst (v := 0) hx hb z_m_under_57 (by decide) ?_
      refine wrVi (As := [.int 1, .int 0, .int 0, .int 0]) (rest := []) (wf := fun u : St × Int32 × Int32 × Int64 => wM o cI cZ cL u.1 u.2.1 u.2.2.1 u.2.2.2) ⟨hx, hb, hml, hown, hts⟩ (c_m_throwing l dC dI o cI cZ cL v th ch cd s.heap.size 1 0 0 0) mw_554 mw_551 mw_553 mp_27 mw_6 rfl yd_m_throwing ⟨⟨rfl, rfl⟩, Nat.le_of_ble_eq_true rfl, Nat.le_of_ble_eq_true rfl⟩ ⟨Nat.le_of_ble_eq_true rfl, Nat.le_of_ble_eq_true rfl⟩ (WrC.preV hP hK hD hN (ci := 4) (q0 := 0) rfl rfl) (wr_free hD hS hA) hS rfl hl.1 rfl (Nat.le_of_ble_eq_true rfl) z_m_under_58 (fun r_19 u_20 H locs h_21 hP hD hS hz9 => ?_)
      obtain ⟨rfl, rfl⟩ : r_19 = 1 ∧ u_20 = (v, 1, ch, cd) := ⟨h_21.1.trans (by decide), h_21.2.trans (by rw [show thF 1 0 0 0 = 1 from by decide])⟩
      have hP : va_P (dC, dI) vwCl (wM o cI cZ cL v 1 ch cd) H := hP
      have hD : va_D A (wM o cI cZ cL v 1 ch cd) := hD
      refine lv_if_eq (tgt := 65) hx hb z_m_under_61 (by decide) (fun c9 => absurd c9 (by decide)) (fun _ => ?_)
      exact W.vret hx hb hr (fun t ht hW => ⟨⟨(v, 1, ch, cd), rfl, ⟨1, rfl, Or.inl ⟨rfl, rfl, fun h => h_4 (m7_iff.mpr h.2)⟩⟩, by rw [ht]; exact hP, va_K.moved hW.alike hK, hD⟩, hS.F ht⟩) hS.2.2 z_m_under_64
  · refine lv_if_eq (tgt := 17) hx hb z_m_under_4 (by decide) (fun _ => ?_) (fun c9 => absurd (by decide) c9)
    refine lv_iconst (v := 1) hx hb z_m_under_17 (by decide) ?_
    refine lv_goto (tgt := 22) hx hb z_m_under_18 (by decide) ?_
    refine lv_istore_n (lv' := [(3, .int 1), (0, .ref (o 0)), (1, .int x), (2, .int y)]) hx hb z_m_under_22 rfl hl (by decide) rfl (fun ls hl => ?_)
    refine lv_aload_n hx hb z_m_under_23 rfl (lv_at hl 1 rfl) ?_
    refine lv_iload_n hx hb z_m_under_24 rfl (lv_at hl 0 rfl) ?_
    refine lv_iload_n hx hb z_m_under_25 rfl (lv_at hl 0 rfl) ?_
    refine lv_if_ne (tgt := 55) hx hb z_m_under_26 (by decide) (fun _ => ?_) (fun c9 => absurd c9 (by decide))
    refine lv_iconst (v := 0) hx hb z_m_under_55 (by decide) ?_
    refine lv_iconst (v := 0) hx hb z_m_under_56 (by decide) ?_
    refine lv_iconst (v := 0) hx hb z_m_under_57 (by decide) ?_
    refine wrVi (As := [.int 1, .int 0, .int 0, .int 0]) (rest := []) (wf := fun u : St × Int32 × Int32 × Int64 => wM o cI cZ cL u.1 u.2.1 u.2.2.1 u.2.2.2) ⟨hx, hb, hml, hown, hts⟩ (c_m_throwing l dC dI o cI cZ cL v th ch cd s.heap.size 1 0 0 0) mw_554 mw_551 mw_553 mp_27 mw_6 rfl yd_m_throwing ⟨⟨rfl, rfl⟩, Nat.le_of_ble_eq_true rfl, Nat.le_of_ble_eq_true rfl⟩ ⟨Nat.le_of_ble_eq_true rfl, Nat.le_of_ble_eq_true rfl⟩ (WrC.preV hP hK hD hN (ci := 4) (q0 := 0) rfl rfl) (wr_free hD hS hA) hS rfl hl.1 rfl (Nat.le_of_ble_eq_true rfl) z_m_under_58 (fun r_22 u_23 H locs h_24 hP hD hS hz9 => ?_)
    obtain ⟨rfl, rfl⟩ : r_22 = 1 ∧ u_23 = (v, 1, ch, cd) := ⟨h_24.1.trans (by decide), h_24.2.trans (by rw [show thF 1 0 0 0 = 1 from by decide])⟩
    have hP : va_P (dC, dI) vwCl (wM o cI cZ cL v 1 ch cd) H := hP
    have hD : va_D A (wM o cI cZ cL v 1 ch cd) := hD
    refine lv_if_eq (tgt := 65) hx hb z_m_under_61 (by decide) (fun c9 => absurd c9 (by decide)) (fun _ => ?_)
    exact W.vret hx hb hr (fun t ht hW => ⟨⟨(v, 1, ch, cd), rfl, ⟨1, rfl, Or.inl ⟨rfl, rfl, fun h => h_2 h.1⟩⟩, by rw [ht]; exact hP, va_K.moved hW.alike hK, hD⟩, hS.F ht⟩) hS.2.2 z_m_under_64

set_option maxHeartbeats 4000000 in
set_option maxRecDepth 100000 in
theorem c_m_make (l : Launch) (dC : Nat → ClassId) (dI : Nat → Nat → Nat) (o : Nat → Nat) (cI cZ cL : ClassId) (v : St) (th ch : Int32) (cd : Int64) (sz : Nat) (hi : Inv v) (x y : Int32) : Met l y_m_make (Cond.code y_m_make b_m_make 6 (some .int) :: CW) { frames := 3, cells := 0, slots := 0, locals := 64 } (va_Pc [.ref (o 0), .int x, .int y] (WrC (dC, dI) sz (wM o cI cZ cL v th ch cd) (tyM cI cZ cL))) (va_Qi (fun (r : Int32) (u : St × Int32 × Int32 × Int64) => ∃ c9 : Nat, u.2.1 = nI c9 ∧ spMake v x y c9 r u.1) (fun u => WrB (dC, dI) (wM o cI cZ cL u.1 u.2.1 u.2.2.1 u.2.2.2) (tyM cI cZ cL) (va_A (wM o cI cZ cL v th ch cd) sz)) (va_A (wM o cI cZ cL v th ch cd) sz)) 0 0 (va_A (wM o cI cZ cL v th ch cd) sz) := by
  refine cx_met (by decide) (Nat.le_of_ble_eq_true rfl) ?_
  intro p e s m below meth c hx hb hr hml hts hown hlocks hnm hC ls hl
  obtain ⟨hsz, hP, hK, hD0, hN⟩ := hC
  subst hsz
  have hD := hD0.self (sz := s.heap.size)
  generalize hAe : va_A (wM o cI cZ cL v th ch cd) s.heap.size = A at hD ⊢
  have hA : ∀ q9 : Nat, s.heap.size ≤ q9 → A q9 := fun q9 h => by rw [← hAe]; exact Or.inr h
  have hS : va_S A s.heap s.heap [] := va_S.rf
  have hown : s.vm.findClass "ServiceDeskModel" = some m.cls := hown
  have hl : lv_has ls 6 [(0, .ref (o 0)), (1, .int x), (2, .int y)] := hl
  refine lv_iload_n hx hb z_m_make_0 rfl (lv_at hl 1 rfl) ?_
  refine rdSi (As := [.int x]) (rest := []) ⟨hx, hb, hml, hown, hts⟩ (c_m_isKind l x) mw_543 mw_541 mw_542 mw_6 yd_m_isKind ⟨⟨rfl, rfl⟩, Nat.le_of_ble_eq_true rfl, Nat.le_of_ble_eq_true rfl⟩ ⟨Nat.zero_le _, Nat.zero_le _⟩ (pre_pure) rfl hl.1 rfl (Nat.le_of_ble_eq_true rfl) z_m_make_1 (fun r_1 h_2 => ?_)
  rcases h_2 with ⟨rfl, h_2⟩ | ⟨rfl, h_2⟩
  · obtain ⟨k, hk, rfl⟩ := h_2
    have hM := (hi.mk k hk).1
    refine lv_if_ne (tgt := 11) hx hb z_m_make_4 (by decide) (fun _ => ?_) (fun c9 => absurd c9 (by decide))
    refine lv_iconst (v := 0) hx hb z_m_make_11 (by decide) ?_
    refine lv_istore_n (lv' := [(3, .int 0), (0, .ref (o 0)), (1, .int (nI k)), (2, .int y)]) hx hb z_m_make_12 rfl hl (by decide) rfl (fun ls hl => ?_)
    refine lv_iload_n hx hb z_m_make_13 rfl (lv_at hl 0 rfl) ?_
    refine lv_if_ne (tgt := 30) hx hb z_m_make_14 (by decide) (fun c9 => absurd rfl c9) (fun _ => ?_)
    refine lv_aload_n hx hb z_m_make_17 rfl (lv_at hl 1 rfl) ?_
    refine va_get (D := (dC, dI)) (ci := 4) (v := .ref (o 1)) (C := R4) (T := T4) (N := 17) hx hb hts (cw_sub iC4) hown hK hP 0 rfl rfl 1 (by decide) (hts _ (cw_in mw_481 rfl)) (fun _ h9 => h9) rfl z_m_make_18 ?_
    refine lv_iload_n hx hb z_m_make_21 rfl (lv_at hl 2 rfl) ?_
    refine xa_i hx hb hK hP 1 0 rfl rfl (k := k) (y := zka v k) (hk) (by decide) (rfl) z_m_make_22 ?_
    refine lv_if_lt (tgt := 30) hx hb z_m_make_23 (by decide) (fun c_23 => ?_) (fun c_23 => ?_)
    · refine lv_iconst (v := 0) hx hb z_m_make_30 (by decide) ?_
      refine lv_istore (lv' := [(4, .int 0), (3, .int 0), (0, .ref (o 0)), (1, .int (nI k)), (2, .int y)]) hx hb z_m_make_31 hl (by decide) rfl (fun ls hl => ?_)
      refine lv_iload_n hx hb z_m_make_33 rfl (lv_at hl 1 rfl) ?_
      refine lv_if_ne (tgt := 64) hx hb z_m_make_34 (by decide) (fun c9 => absurd rfl c9) (fun _ => ?_)
      refine lv_iload hx hb z_m_make_37 (lv_at hl 0 rfl) ?_
      refine lv_if_eq (tgt := 59) hx hb z_m_make_39 (by decide) (fun _ => ?_) (fun c9 => absurd (by decide) c9)
      refine lv_iload_n hx hb z_m_make_59 rfl (lv_at hl 4 rfl) ?_
      refine lv_iconst (v := (-1)) hx hb z_m_make_60 (by decide) ?_
      refine lv_icmp_eq (tgt := 68) hx hb z_m_make_61 (by decide) (fun c_61 => ?_) (fun c_61 => ?_)
      · refine lv_iconst (v := 0) hx hb z_m_make_68 (by decide) ?_
        refine lv_istore_n (lv' := [(3, .int 0), (4, .int 0), (0, .ref (o 0)), (1, .int (nI k)), (2, .int y)]) hx hb z_m_make_69 rfl hl (by decide) rfl (fun ls hl => ?_)
        refine lv_aload_n hx hb z_m_make_70 rfl (lv_at hl 2 rfl) ?_
        refine lv_iload_n hx hb z_m_make_71 rfl (lv_at hl 0 rfl) ?_
        refine lv_iload_n hx hb z_m_make_72 rfl (lv_at hl 0 rfl) ?_
        refine lv_if_ne (tgt := 104) hx hb z_m_make_73 (by decide) (fun c9 => absurd rfl c9) (fun _ => ?_)
        refine lv_iload hx hb z_m_make_76 (lv_at hl 1 rfl) ?_
        refine lv_if_eq (tgt := 104) hx hb z_m_make_78 (by decide) (fun _ => ?_) (fun c9 => absurd (by decide) c9)
        refine lv_iconst (v := 0) hx hb z_m_make_104 (by decide) ?_
        refine lv_iload_n hx hb z_m_make_105 rfl (lv_at hl 0 rfl) ?_
        refine lv_if_ne (tgt := 124) hx hb z_m_make_106 (by decide) (fun c9 => absurd rfl c9) (fun _ => ?_)
        refine lv_aload_n hx hb z_m_make_109 rfl (lv_at hl 2 rfl) ?_
        refine va_get (D := (dC, dI)) (ci := 4) (v := .ref (o 2)) (C := R4) (T := T4) (N := 17) hx hb hts (cw_sub iC4) hown hK hP 0 rfl rfl 2 (by decide) (hts _ (cw_in mw_482 rfl)) (fun _ h9 => h9) rfl z_m_make_110 ?_
        refine lv_iload_n hx hb z_m_make_113 rfl (lv_at hl 3 rfl) ?_
        refine xa_i hx hb hK hP 2 0 rfl rfl (k := k) (y := nI (mN v k)) (hk) (by decide) ((hi.mk k hk).2) z_m_make_114 ?_
        refine lv_bipush (v := 30) hx hb z_m_make_115 (by decide) ?_
        refine lv_icmp_ne (tgt := 124) hx hb z_m_make_117 (by decide) (fun c_117 => ?_) (fun c_117 => ?_)
        · refine lv_iconst (v := 0) hx hb z_m_make_124 (by decide) ?_
          refine lv_iconst (v := 0) hx hb z_m_make_125 (by decide) ?_
          refine wrVi (As := [.int 0, .int 0, .int 0, .int 0]) (rest := []) (wf := fun u : St × Int32 × Int32 × Int64 => wM o cI cZ cL u.1 u.2.1 u.2.2.1 u.2.2.2) ⟨hx, hb, hml, hown, hts⟩ (c_m_throwing l dC dI o cI cZ cL v th ch cd s.heap.size 0 0 0 0) mw_554 mw_551 mw_553 mp_27 mw_6 rfl yd_m_throwing ⟨⟨rfl, rfl⟩, Nat.le_of_ble_eq_true rfl, Nat.le_of_ble_eq_true rfl⟩ ⟨Nat.le_of_ble_eq_true rfl, Nat.le_of_ble_eq_true rfl⟩ (WrC.preV hP hK hD hN (ci := 4) (q0 := 0) rfl rfl) (wr_free hD hS hA) hS rfl hl.1 rfl (Nat.le_of_ble_eq_true rfl) z_m_make_126 (fun r_3 u_4 H locs h_5 hP hD hS hz9 => ?_)
          obtain ⟨rfl, rfl⟩ : r_3 = 0 ∧ u_4 = (v, 0, ch, cd) := ⟨h_5.1.trans (by decide), h_5.2.trans (by rw [show thF 0 0 0 0 = 0 from by decide])⟩
          have hP : va_P (dC, dI) vwCl (wM o cI cZ cL v 0 ch cd) H := hP
          have hD : va_D A (wM o cI cZ cL v 0 ch cd) := hD
          refine lv_if_eq (tgt := 134) hx hb z_m_make_129 (by decide) (fun _ => ?_) (fun c9 => absurd (by decide) c9)
          have hM9 := lt30 hi hk c_117
          refine lv_bipush (v := 30) hx hb z_m_make_134 (by decide) ?_
          refine lv_iload_n hx hb z_m_make_136 rfl (lv_at hl 3 rfl) ?_
          refine lv_imul hx hb z_m_make_137 ?_
          refine lv_aload_n hx hb z_m_make_138 rfl (lv_at hl 2 rfl) ?_
          refine va_get (D := (dC, dI)) (ci := 4) (v := .ref (o 2)) (C := R4) (T := T4) (N := 17) hx hb hts (cw_sub iC4) hown hK hP 0 rfl rfl 2 (by decide) (hts _ (cw_in mw_482 rfl)) (fun _ h9 => h9) rfl z_m_make_139 ?_
          refine lv_iload_n hx hb z_m_make_142 rfl (lv_at hl 3 rfl) ?_
          refine xa_i hx hb hK hP 2 0 rfl rfl (k := k) (y := nI (mN v k)) (hk) (by decide) ((hi.mk k hk).2) z_m_make_143 ?_
          refine lv_iadd hx hb z_m_make_144 ?_
          rw [s30_nI]
          refine lv_istore (lv' := [(5, .int (nI (k * 30 + mN v k))), (3, .int 0), (4, .int 0), (0, .ref (o 0)), (1, .int (nI k)), (2, .int y)]) hx hb z_m_make_145 hl (by decide) rfl (fun ls hl => ?_)
          refine lv_aload_n hx hb z_m_make_147 rfl (lv_at hl 3 rfl) ?_
          refine va_get (D := (dC, dI)) (ci := 4) (v := .ref (o 3)) (C := R4) (T := T4) (N := 17) hx hb hts (cw_sub iC4) hown hK hP 0 rfl rfl 3 (by decide) (hts _ (cw_in mw_483 rfl)) (fun _ h9 => h9) rfl z_m_make_148 ?_
          refine lv_iload hx hb z_m_make_151 (lv_at hl 0 rfl) ?_
          refine lv_iload_n hx hb z_m_make_153 rfl (lv_at hl 5 rfl) ?_
          refine xs_i hx hb hK hP hD hS 3 0 rfl rfl (k := (k * 30 + mN v k)) (by omega) (by decide) z_m_make_154 (fun H locs hP hD hS => ?_)
          have hP : va_P (dC, dI) vwCl (wM o cI cZ cL (uab v (upd (zab v) (k * 30 + mN v k) y)) 0 ch cd) H := hP
          have hD : va_D A (wM o cI cZ cL (uab v (upd (zab v) (k * 30 + mN v k) y)) 0 ch cd) := hD
          refine lv_aload_n hx hb z_m_make_155 rfl (lv_at hl 3 rfl) ?_
          refine va_get (D := (dC, dI)) (ci := 4) (v := .ref (o 4)) (C := R4) (T := T4) (N := 17) hx hb hts (cw_sub iC4) hown hK hP 0 rfl rfl 4 (by decide) (hts _ (cw_in mw_484 rfl)) (fun _ h9 => h9) rfl z_m_make_156 ?_
          refine lv_iload hx hb z_m_make_159 (lv_at hl 0 rfl) ?_
          refine lv_iconst (v := 1) hx hb z_m_make_161 (by decide) ?_
          refine xs_z hx hb hK hP hD hS 4 1 rfl rfl (k := (k * 30 + mN v k)) (y := 1) (by omega) (by decide) (rfl) z_m_make_162 (fun H locs hP hD hS => ?_)
          have hP : va_P (dC, dI) vwCl (wM o cI cZ cL (uop (uab v (upd (zab v) (k * 30 + mN v k) y)) (upd (zop v) (k * 30 + mN v k) 1)) 0 ch cd) H := hP
          have hD : va_D A (wM o cI cZ cL (uop (uab v (upd (zab v) (k * 30 + mN v k) y)) (upd (zop v) (k * 30 + mN v k) 1)) 0 ch cd) := hD
          refine lv_aload_n hx hb z_m_make_163 rfl (lv_at hl 3 rfl) ?_
          refine va_get (D := (dC, dI)) (ci := 4) (v := .ref (o 2)) (C := R4) (T := T4) (N := 17) hx hb hts (cw_sub iC4) hown hK hP 0 rfl rfl 2 (by decide) (hts _ (cw_in mw_482 rfl)) (fun _ h9 => h9) rfl z_m_make_164 ?_
          refine lv_iload_n hx hb z_m_make_167 rfl (lv_at hl 4 rfl) ?_
          refine lv_dup2_11 hx hb z_m_make_168 rfl rfl ?_
          refine xa_i hx hb hK hP 2 0 rfl rfl (k := k) (y := nI (mN v k)) (hk) (by decide) ((hi.mk k hk).2) z_m_make_169 ?_
          refine lv_iconst (v := 1) hx hb z_m_make_170 (by decide) ?_
          refine lv_iadd hx hb z_m_make_171 ?_
          rw [nI_1]
          refine xs_i hx hb hK hP hD hS 2 0 rfl rfl (k := k) (hk) (by decide) z_m_make_172 (fun H locs hP hD hS => ?_)
          have hP : va_P (dC, dI) vwCl (wM o cI cZ cL (umk (uop (uab v (upd (zab v) (k * 30 + mN v k) y)) (upd (zop v) (k * 30 + mN v k) 1)) (upd (zmk v) k (nI (mN v k + 1)))) 0 ch cd) H := hP
          have hD : va_D A (wM o cI cZ cL (umk (uop (uab v (upd (zab v) (k * 30 + mN v k) y)) (upd (zop v) (k * 30 + mN v k) 1)) (upd (zmk v) k (nI (mN v k + 1)))) 0 ch cd) := hD
          refine lv_aload_n hx hb z_m_make_173 rfl (lv_at hl 3 rfl) ?_
          refine va_get (D := (dC, dI)) (ci := 4) (v := .ref (o 2)) (C := R4) (T := T4) (N := 17) hx hb hts (cw_sub iC4) hown hK hP 0 rfl rfl 2 (by decide) (hts _ (cw_in mw_482 rfl)) (fun _ h9 => h9) rfl z_m_make_174 ?_
          refine lv_iload_n hx hb z_m_make_177 rfl (lv_at hl 4 rfl) ?_
          refine xa_i hx hb hK hP 2 0 rfl rfl (k := k) (y := nI (mN v k + 1)) (hk) (by decide) (pk_us) z_m_make_178 ?_
          refine lv_iconst (v := 1) hx hb z_m_make_179 (by decide) ?_
          refine lv_isub hx hb z_m_make_180 ?_
          rw [nI_pred]
          exact W.iret (v := nI (mN v k)) hx hb hr (fun t ht hW => ⟨⟨nI (mN v k), (umk (uop (uab v (upd (zab v) (k * 30 + mN v k) y)) (upd (zop v) (k * 30 + mN v k) 1)) (upd (zmk v) k (nI (mN v k + 1))), 0, ch, cd), rfl, ⟨0, rfl, Or.inr (Or.inr (Or.inr ⟨rfl, k, hk, rfl, Or.inl ⟨ka_neg hi hk c_23, c_61⟩, okAb_no (isS_no1 (k8_neg c_23)), lt30 hi hk c_117, rfl, rfl⟩))⟩, by rw [ht]; exact hP, va_K.moved hW.alike hK, hD⟩, hS.F ht⟩) hS.2.2 z_m_make_181
        · refine lv_iconst (v := 1) hx hb z_m_make_120 (by decide) ?_
          refine lv_goto (tgt := 125) hx hb z_m_make_121 (by decide) ?_
          refine lv_iconst (v := 0) hx hb z_m_make_125 (by decide) ?_
          refine wrVi (As := [.int 0, .int 0, .int 1, .int 0]) (rest := []) (wf := fun u : St × Int32 × Int32 × Int64 => wM o cI cZ cL u.1 u.2.1 u.2.2.1 u.2.2.2) ⟨hx, hb, hml, hown, hts⟩ (c_m_throwing l dC dI o cI cZ cL v th ch cd s.heap.size 0 0 1 0) mw_554 mw_551 mw_553 mp_27 mw_6 rfl yd_m_throwing ⟨⟨rfl, rfl⟩, Nat.le_of_ble_eq_true rfl, Nat.le_of_ble_eq_true rfl⟩ ⟨Nat.le_of_ble_eq_true rfl, Nat.le_of_ble_eq_true rfl⟩ (WrC.preV hP hK hD hN (ci := 4) (q0 := 0) rfl rfl) (wr_free hD hS hA) hS rfl hl.1 rfl (Nat.le_of_ble_eq_true rfl) z_m_make_126 (fun r_6 u_7 H locs h_8 hP hD hS hz9 => ?_)
          obtain ⟨rfl, rfl⟩ : r_6 = 1 ∧ u_7 = (v, 3, ch, cd) := ⟨h_8.1.trans (by decide), h_8.2.trans (by rw [show thF 0 0 1 0 = 3 from by decide])⟩
          have hP : va_P (dC, dI) vwCl (wM o cI cZ cL v 3 ch cd) H := hP
          have hD : va_D A (wM o cI cZ cL v 3 ch cd) := hD
          refine lv_if_eq (tgt := 134) hx hb z_m_make_129 (by decide) (fun c9 => absurd c9 (by decide)) (fun _ => ?_)
          refine lv_iconst (v := 0) hx hb z_m_make_132 (by decide) ?_
          exact W.iret (v := 0) hx hb hr (fun t ht hW => ⟨⟨0, (v, 3, ch, cd), rfl, ⟨3, rfl, Or.inr (Or.inr (Or.inl ⟨rfl, rfl, k, hk, rfl, Or.inl ⟨ka_neg hi hk c_23, c_61⟩, okAb_no (isS_no1 (k8_neg c_23)), nlt30 c_117 hM⟩))⟩, by rw [ht]; exact hP, va_K.moved hW.alike hK, hD⟩, hS.F ht⟩) hS.2.2 z_m_make_133
      · refine lv_iconst (v := 1) hx hb z_m_make_64 (by decide) ?_
        refine lv_goto (tgt := 69) hx hb z_m_make_65 (by decide) ?_
        refine lv_istore_n (lv' := [(3, .int 1), (4, .int 0), (0, .ref (o 0)), (1, .int (nI k)), (2, .int y)]) hx hb z_m_make_69 rfl hl (by decide) rfl (fun ls hl => ?_)
        refine lv_aload_n hx hb z_m_make_70 rfl (lv_at hl 2 rfl) ?_
        refine lv_iload_n hx hb z_m_make_71 rfl (lv_at hl 0 rfl) ?_
        refine lv_iload_n hx hb z_m_make_72 rfl (lv_at hl 0 rfl) ?_
        refine lv_if_ne (tgt := 104) hx hb z_m_make_73 (by decide) (fun _ => ?_) (fun c9 => absurd c9 (by decide))
        refine lv_iconst (v := 0) hx hb z_m_make_104 (by decide) ?_
        refine lv_iload_n hx hb z_m_make_105 rfl (lv_at hl 0 rfl) ?_
        refine lv_if_ne (tgt := 124) hx hb z_m_make_106 (by decide) (fun _ => ?_) (fun c9 => absurd c9 (by decide))
        refine lv_iconst (v := 0) hx hb z_m_make_124 (by decide) ?_
        refine lv_iconst (v := 0) hx hb z_m_make_125 (by decide) ?_
        refine wrVi (As := [.int 1, .int 0, .int 0, .int 0]) (rest := []) (wf := fun u : St × Int32 × Int32 × Int64 => wM o cI cZ cL u.1 u.2.1 u.2.2.1 u.2.2.2) ⟨hx, hb, hml, hown, hts⟩ (c_m_throwing l dC dI o cI cZ cL v th ch cd s.heap.size 1 0 0 0) mw_554 mw_551 mw_553 mp_27 mw_6 rfl yd_m_throwing ⟨⟨rfl, rfl⟩, Nat.le_of_ble_eq_true rfl, Nat.le_of_ble_eq_true rfl⟩ ⟨Nat.le_of_ble_eq_true rfl, Nat.le_of_ble_eq_true rfl⟩ (WrC.preV hP hK hD hN (ci := 4) (q0 := 0) rfl rfl) (wr_free hD hS hA) hS rfl hl.1 rfl (Nat.le_of_ble_eq_true rfl) z_m_make_126 (fun r_9 u_10 H locs h_11 hP hD hS hz9 => ?_)
        obtain ⟨rfl, rfl⟩ : r_9 = 1 ∧ u_10 = (v, 1, ch, cd) := ⟨h_11.1.trans (by decide), h_11.2.trans (by rw [show thF 1 0 0 0 = 1 from by decide])⟩
        have hP : va_P (dC, dI) vwCl (wM o cI cZ cL v 1 ch cd) H := hP
        have hD : va_D A (wM o cI cZ cL v 1 ch cd) := hD
        refine lv_if_eq (tgt := 134) hx hb z_m_make_129 (by decide) (fun c9 => absurd c9 (by decide)) (fun _ => ?_)
        refine lv_iconst (v := 0) hx hb z_m_make_132 (by decide) ?_
        exact W.iret (v := 0) hx hb hr (fun t ht hW => ⟨⟨0, (v, 1, ch, cd), rfl, ⟨1, rfl, Or.inl ⟨rfl, rfl, mk_no hk (fun h => h.elim (fun z => c_61 z.2) (fun z => z.1 (ka_neg hi hk c_23)))⟩⟩, by rw [ht]; exact hP, va_K.moved hW.alike hK, hD⟩, hS.F ht⟩) hS.2.2 z_m_make_133
    · refine lv_iconst (v := 1) hx hb z_m_make_26 (by decide) ?_
      refine lv_goto (tgt := 31) hx hb z_m_make_27 (by decide) ?_
      refine lv_istore (lv' := [(4, .int 1), (3, .int 0), (0, .ref (o 0)), (1, .int (nI k)), (2, .int y)]) hx hb z_m_make_31 hl (by decide) rfl (fun ls hl => ?_)
      refine lv_iload_n hx hb z_m_make_33 rfl (lv_at hl 1 rfl) ?_
      refine lv_if_ne (tgt := 64) hx hb z_m_make_34 (by decide) (fun c9 => absurd rfl c9) (fun _ => ?_)
      refine lv_iload hx hb z_m_make_37 (lv_at hl 0 rfl) ?_
      refine lv_if_eq (tgt := 59) hx hb z_m_make_39 (by decide) (fun c9 => absurd c9 (by decide)) (fun _ => ?_)
      refine lv_aload_n hx hb z_m_make_42 rfl (lv_at hl 2 rfl) ?_
      refine lv_aload_n hx hb z_m_make_43 rfl (lv_at hl 2 rfl) ?_
      refine va_get (D := (dC, dI)) (ci := 4) (v := .ref (o 1)) (C := R4) (T := T4) (N := 17) hx hb hts (cw_sub iC4) hown hK hP 0 rfl rfl 1 (by decide) (hts _ (cw_in mw_481 rfl)) (fun _ h9 => h9) rfl z_m_make_44 ?_
      refine lv_iload_n hx hb z_m_make_47 rfl (lv_at hl 3 rfl) ?_
      refine xa_i hx hb hK hP 1 0 rfl rfl (k := k) (y := zka v k) (hk) (by decide) (rfl) z_m_make_48 ?_
      refine lv_iload_n hx hb z_m_make_49 rfl (lv_at hl 4 rfl) ?_
      refine rdVi (As := [.int (zka v k), .int y]) (rest := []) ⟨hx, hb, hml, hown, hts⟩ (c_m_isSubject l dC dI o cI cZ cL v th ch cd hi (zka v k) y) mw_562 mw_559 mw_561 mp_28 mw_6 rfl yd_m_isSubject ⟨⟨rfl, rfl⟩, Nat.le_of_ble_eq_true rfl, Nat.le_of_ble_eq_true rfl⟩ ⟨Nat.zero_le _, Nat.zero_le _⟩ (RdC.preV hP hK hN (ci := 4) (q0 := 0) rfl rfl) rfl hl.1 rfl (Nat.le_of_ble_eq_true rfl) z_m_make_50 (fun r_12 h_13 => ?_)
      rcases h_13 with ⟨rfl, h_13⟩ | ⟨rfl, h_13⟩
      · obtain ⟨k2, j2, hk2, hj2, e2, rfl⟩ := h_13
        have hM2 := (hi.mk k2 hk2).1
        refine lv_if_ne (tgt := 68) hx hb z_m_make_53 (by decide) (fun _ => ?_) (fun c9 => absurd c9 (by decide))
        refine lv_iconst (v := 0) hx hb z_m_make_68 (by decide) ?_
        refine lv_istore_n (lv' := [(3, .int 0), (4, .int 1), (0, .ref (o 0)), (1, .int (nI k)), (2, .int (nI j2))]) hx hb z_m_make_69 rfl hl (by decide) rfl (fun ls hl => ?_)
        refine lv_aload_n hx hb z_m_make_70 rfl (lv_at hl 2 rfl) ?_
        refine lv_iload_n hx hb z_m_make_71 rfl (lv_at hl 0 rfl) ?_
        refine lv_iload_n hx hb z_m_make_72 rfl (lv_at hl 0 rfl) ?_
        refine lv_if_ne (tgt := 104) hx hb z_m_make_73 (by decide) (fun c9 => absurd rfl c9) (fun _ => ?_)
        refine lv_iload hx hb z_m_make_76 (lv_at hl 1 rfl) ?_
        refine lv_if_eq (tgt := 104) hx hb z_m_make_78 (by decide) (fun c9 => absurd c9 (by decide)) (fun _ => ?_)
        refine lv_aload_n hx hb z_m_make_81 rfl (lv_at hl 2 rfl) ?_
        refine va_get (D := (dC, dI)) (ci := 4) (v := .ref (o 4)) (C := R4) (T := T4) (N := 17) hx hb hts (cw_sub iC4) hown hK hP 0 rfl rfl 4 (by decide) (hts _ (cw_in mw_484 rfl)) (fun _ h9 => h9) rfl z_m_make_82 ?_
        refine lv_bipush (v := 30) hx hb z_m_make_85 (by decide) ?_
        refine lv_aload_n hx hb z_m_make_87 rfl (lv_at hl 2 rfl) ?_
        refine va_get (D := (dC, dI)) (ci := 4) (v := .ref (o 1)) (C := R4) (T := T4) (N := 17) hx hb hts (cw_sub iC4) hown hK hP 0 rfl rfl 1 (by decide) (hts _ (cw_in mw_481 rfl)) (fun _ h9 => h9) rfl z_m_make_88 ?_
        refine lv_iload_n hx hb z_m_make_91 rfl (lv_at hl 3 rfl) ?_
        refine xa_i hx hb hK hP 1 0 rfl rfl (k := k) (y := zka v k) (hk) (by decide) (rfl) z_m_make_92 ?_
        refine lv_imul hx hb z_m_make_93 ?_
        refine lv_iload_n hx hb z_m_make_94 rfl (lv_at hl 4 rfl) ?_
        refine lv_iadd hx hb z_m_make_95 ?_
        rw [show 30 * zka v k + nI j2 = nI (k2 * 30 + j2) by rw [e2, s30_nI]]
        refine xa_z hx hb hK hP 4 1 rfl rfl (k := (k2 * 30 + j2)) (y := zop v (k2 * 30 + j2)) (by omega) (by decide) (rfl) z_m_make_96 ?_
        refine lv_if_ne (tgt := 104) hx hb z_m_make_97 (by decide) (fun c_97 => ?_) (fun c_97 => ?_)
        · refine lv_iconst (v := 0) hx hb z_m_make_104 (by decide) ?_
          refine lv_iload_n hx hb z_m_make_105 rfl (lv_at hl 0 rfl) ?_
          refine lv_if_ne (tgt := 124) hx hb z_m_make_106 (by decide) (fun c9 => absurd rfl c9) (fun _ => ?_)
          refine lv_aload_n hx hb z_m_make_109 rfl (lv_at hl 2 rfl) ?_
          refine va_get (D := (dC, dI)) (ci := 4) (v := .ref (o 2)) (C := R4) (T := T4) (N := 17) hx hb hts (cw_sub iC4) hown hK hP 0 rfl rfl 2 (by decide) (hts _ (cw_in mw_482 rfl)) (fun _ h9 => h9) rfl z_m_make_110 ?_
          refine lv_iload_n hx hb z_m_make_113 rfl (lv_at hl 3 rfl) ?_
          refine xa_i hx hb hK hP 2 0 rfl rfl (k := k) (y := nI (mN v k)) (hk) (by decide) ((hi.mk k hk).2) z_m_make_114 ?_
          refine lv_bipush (v := 30) hx hb z_m_make_115 (by decide) ?_
          refine lv_icmp_ne (tgt := 124) hx hb z_m_make_117 (by decide) (fun c_117 => ?_) (fun c_117 => ?_)
          · refine lv_iconst (v := 0) hx hb z_m_make_124 (by decide) ?_
            refine lv_iconst (v := 0) hx hb z_m_make_125 (by decide) ?_
            refine wrVi (As := [.int 0, .int 0, .int 0, .int 0]) (rest := []) (wf := fun u : St × Int32 × Int32 × Int64 => wM o cI cZ cL u.1 u.2.1 u.2.2.1 u.2.2.2) ⟨hx, hb, hml, hown, hts⟩ (c_m_throwing l dC dI o cI cZ cL v th ch cd s.heap.size 0 0 0 0) mw_554 mw_551 mw_553 mp_27 mw_6 rfl yd_m_throwing ⟨⟨rfl, rfl⟩, Nat.le_of_ble_eq_true rfl, Nat.le_of_ble_eq_true rfl⟩ ⟨Nat.le_of_ble_eq_true rfl, Nat.le_of_ble_eq_true rfl⟩ (WrC.preV hP hK hD hN (ci := 4) (q0 := 0) rfl rfl) (wr_free hD hS hA) hS rfl hl.1 rfl (Nat.le_of_ble_eq_true rfl) z_m_make_126 (fun r_14 u_15 H locs h_16 hP hD hS hz9 => ?_)
            obtain ⟨rfl, rfl⟩ : r_14 = 0 ∧ u_15 = (v, 0, ch, cd) := ⟨h_16.1.trans (by decide), h_16.2.trans (by rw [show thF 0 0 0 0 = 0 from by decide])⟩
            have hP : va_P (dC, dI) vwCl (wM o cI cZ cL v 0 ch cd) H := hP
            have hD : va_D A (wM o cI cZ cL v 0 ch cd) := hD
            refine lv_if_eq (tgt := 134) hx hb z_m_make_129 (by decide) (fun _ => ?_) (fun c9 => absurd (by decide) c9)
            have hM9 := lt30 hi hk c_117
            refine lv_bipush (v := 30) hx hb z_m_make_134 (by decide) ?_
            refine lv_iload_n hx hb z_m_make_136 rfl (lv_at hl 3 rfl) ?_
            refine lv_imul hx hb z_m_make_137 ?_
            refine lv_aload_n hx hb z_m_make_138 rfl (lv_at hl 2 rfl) ?_
            refine va_get (D := (dC, dI)) (ci := 4) (v := .ref (o 2)) (C := R4) (T := T4) (N := 17) hx hb hts (cw_sub iC4) hown hK hP 0 rfl rfl 2 (by decide) (hts _ (cw_in mw_482 rfl)) (fun _ h9 => h9) rfl z_m_make_139 ?_
            refine lv_iload_n hx hb z_m_make_142 rfl (lv_at hl 3 rfl) ?_
            refine xa_i hx hb hK hP 2 0 rfl rfl (k := k) (y := nI (mN v k)) (hk) (by decide) ((hi.mk k hk).2) z_m_make_143 ?_
            refine lv_iadd hx hb z_m_make_144 ?_
            rw [s30_nI]
            refine lv_istore (lv' := [(5, .int (nI (k * 30 + mN v k))), (3, .int 0), (4, .int 1), (0, .ref (o 0)), (1, .int (nI k)), (2, .int (nI j2))]) hx hb z_m_make_145 hl (by decide) rfl (fun ls hl => ?_)
            refine lv_aload_n hx hb z_m_make_147 rfl (lv_at hl 3 rfl) ?_
            refine va_get (D := (dC, dI)) (ci := 4) (v := .ref (o 3)) (C := R4) (T := T4) (N := 17) hx hb hts (cw_sub iC4) hown hK hP 0 rfl rfl 3 (by decide) (hts _ (cw_in mw_483 rfl)) (fun _ h9 => h9) rfl z_m_make_148 ?_
            refine lv_iload hx hb z_m_make_151 (lv_at hl 0 rfl) ?_
            refine lv_iload_n hx hb z_m_make_153 rfl (lv_at hl 5 rfl) ?_
            refine xs_i hx hb hK hP hD hS 3 0 rfl rfl (k := (k * 30 + mN v k)) (by omega) (by decide) z_m_make_154 (fun H locs hP hD hS => ?_)
            have hP : va_P (dC, dI) vwCl (wM o cI cZ cL (uab v (upd (zab v) (k * 30 + mN v k) (nI j2))) 0 ch cd) H := hP
            have hD : va_D A (wM o cI cZ cL (uab v (upd (zab v) (k * 30 + mN v k) (nI j2))) 0 ch cd) := hD
            refine lv_aload_n hx hb z_m_make_155 rfl (lv_at hl 3 rfl) ?_
            refine va_get (D := (dC, dI)) (ci := 4) (v := .ref (o 4)) (C := R4) (T := T4) (N := 17) hx hb hts (cw_sub iC4) hown hK hP 0 rfl rfl 4 (by decide) (hts _ (cw_in mw_484 rfl)) (fun _ h9 => h9) rfl z_m_make_156 ?_
            refine lv_iload hx hb z_m_make_159 (lv_at hl 0 rfl) ?_
            refine lv_iconst (v := 1) hx hb z_m_make_161 (by decide) ?_
            refine xs_z hx hb hK hP hD hS 4 1 rfl rfl (k := (k * 30 + mN v k)) (y := 1) (by omega) (by decide) (rfl) z_m_make_162 (fun H locs hP hD hS => ?_)
            have hP : va_P (dC, dI) vwCl (wM o cI cZ cL (uop (uab v (upd (zab v) (k * 30 + mN v k) (nI j2))) (upd (zop v) (k * 30 + mN v k) 1)) 0 ch cd) H := hP
            have hD : va_D A (wM o cI cZ cL (uop (uab v (upd (zab v) (k * 30 + mN v k) (nI j2))) (upd (zop v) (k * 30 + mN v k) 1)) 0 ch cd) := hD
            refine lv_aload_n hx hb z_m_make_163 rfl (lv_at hl 3 rfl) ?_
            refine va_get (D := (dC, dI)) (ci := 4) (v := .ref (o 2)) (C := R4) (T := T4) (N := 17) hx hb hts (cw_sub iC4) hown hK hP 0 rfl rfl 2 (by decide) (hts _ (cw_in mw_482 rfl)) (fun _ h9 => h9) rfl z_m_make_164 ?_
            refine lv_iload_n hx hb z_m_make_167 rfl (lv_at hl 4 rfl) ?_
            refine lv_dup2_11 hx hb z_m_make_168 rfl rfl ?_
            refine xa_i hx hb hK hP 2 0 rfl rfl (k := k) (y := nI (mN v k)) (hk) (by decide) ((hi.mk k hk).2) z_m_make_169 ?_
            refine lv_iconst (v := 1) hx hb z_m_make_170 (by decide) ?_
            refine lv_iadd hx hb z_m_make_171 ?_
            rw [nI_1]
            refine xs_i hx hb hK hP hD hS 2 0 rfl rfl (k := k) (hk) (by decide) z_m_make_172 (fun H locs hP hD hS => ?_)
            have hP : va_P (dC, dI) vwCl (wM o cI cZ cL (umk (uop (uab v (upd (zab v) (k * 30 + mN v k) (nI j2))) (upd (zop v) (k * 30 + mN v k) 1)) (upd (zmk v) k (nI (mN v k + 1)))) 0 ch cd) H := hP
            have hD : va_D A (wM o cI cZ cL (umk (uop (uab v (upd (zab v) (k * 30 + mN v k) (nI j2))) (upd (zop v) (k * 30 + mN v k) 1)) (upd (zmk v) k (nI (mN v k + 1)))) 0 ch cd) := hD
            refine lv_aload_n hx hb z_m_make_173 rfl (lv_at hl 3 rfl) ?_
            refine va_get (D := (dC, dI)) (ci := 4) (v := .ref (o 2)) (C := R4) (T := T4) (N := 17) hx hb hts (cw_sub iC4) hown hK hP 0 rfl rfl 2 (by decide) (hts _ (cw_in mw_482 rfl)) (fun _ h9 => h9) rfl z_m_make_174 ?_
            refine lv_iload_n hx hb z_m_make_177 rfl (lv_at hl 4 rfl) ?_
            refine xa_i hx hb hK hP 2 0 rfl rfl (k := k) (y := nI (mN v k + 1)) (hk) (by decide) (pk_us) z_m_make_178 ?_
            refine lv_iconst (v := 1) hx hb z_m_make_179 (by decide) ?_
            refine lv_isub hx hb z_m_make_180 ?_
            rw [nI_pred]
            exact W.iret (v := nI (mN v k)) hx hb hr (fun t ht hW => ⟨⟨nI (mN v k), (umk (uop (uab v (upd (zab v) (k * 30 + mN v k) (nI j2))) (upd (zop v) (k * 30 + mN v k) 1)) (upd (zmk v) k (nI (mN v k + 1))), 0, ch, cd), rfl, ⟨0, rfl, Or.inr (Or.inr (Or.inr ⟨rfl, k, hk, rfl, Or.inr ⟨nneg_1 c_23, k2, j2, hk2, hj2, e2, rfl⟩, okAb_of hi hk2 hj2 e2 rfl c_97, lt30 hi hk c_117, rfl, rfl⟩))⟩, by rw [ht]; exact hP, va_K.moved hW.alike hK, hD⟩, hS.F ht⟩) hS.2.2 z_m_make_181
          · refine lv_iconst (v := 1) hx hb z_m_make_120 (by decide) ?_
            refine lv_goto (tgt := 125) hx hb z_m_make_121 (by decide) ?_
            refine lv_iconst (v := 0) hx hb z_m_make_125 (by decide) ?_
            refine wrVi (As := [.int 0, .int 0, .int 1, .int 0]) (rest := []) (wf := fun u : St × Int32 × Int32 × Int64 => wM o cI cZ cL u.1 u.2.1 u.2.2.1 u.2.2.2) ⟨hx, hb, hml, hown, hts⟩ (c_m_throwing l dC dI o cI cZ cL v th ch cd s.heap.size 0 0 1 0) mw_554 mw_551 mw_553 mp_27 mw_6 rfl yd_m_throwing ⟨⟨rfl, rfl⟩, Nat.le_of_ble_eq_true rfl, Nat.le_of_ble_eq_true rfl⟩ ⟨Nat.le_of_ble_eq_true rfl, Nat.le_of_ble_eq_true rfl⟩ (WrC.preV hP hK hD hN (ci := 4) (q0 := 0) rfl rfl) (wr_free hD hS hA) hS rfl hl.1 rfl (Nat.le_of_ble_eq_true rfl) z_m_make_126 (fun r_17 u_18 H locs h_19 hP hD hS hz9 => ?_)
            obtain ⟨rfl, rfl⟩ : r_17 = 1 ∧ u_18 = (v, 3, ch, cd) := ⟨h_19.1.trans (by decide), h_19.2.trans (by rw [show thF 0 0 1 0 = 3 from by decide])⟩
            have hP : va_P (dC, dI) vwCl (wM o cI cZ cL v 3 ch cd) H := hP
            have hD : va_D A (wM o cI cZ cL v 3 ch cd) := hD
            refine lv_if_eq (tgt := 134) hx hb z_m_make_129 (by decide) (fun c9 => absurd c9 (by decide)) (fun _ => ?_)
            refine lv_iconst (v := 0) hx hb z_m_make_132 (by decide) ?_
            exact W.iret (v := 0) hx hb hr (fun t ht hW => ⟨⟨0, (v, 3, ch, cd), rfl, ⟨3, rfl, Or.inr (Or.inr (Or.inl ⟨rfl, rfl, k, hk, rfl, Or.inr ⟨nneg_1 c_23, k2, j2, hk2, hj2, e2, rfl⟩, okAb_of hi hk2 hj2 e2 rfl c_97, nlt30 c_117 hM⟩))⟩, by rw [ht]; exact hP, va_K.moved hW.alike hK, hD⟩, hS.F ht⟩) hS.2.2 z_m_make_133
        · refine lv_iconst (v := 1) hx hb z_m_make_100 (by decide) ?_
          refine lv_goto (tgt := 105) hx hb z_m_make_101 (by decide) ?_
          refine lv_iload_n hx hb z_m_make_105 rfl (lv_at hl 0 rfl) ?_
          refine lv_if_ne (tgt := 124) hx hb z_m_make_106 (by decide) (fun c9 => absurd rfl c9) (fun _ => ?_)
          refine lv_aload_n hx hb z_m_make_109 rfl (lv_at hl 2 rfl) ?_
          refine va_get (D := (dC, dI)) (ci := 4) (v := .ref (o 2)) (C := R4) (T := T4) (N := 17) hx hb hts (cw_sub iC4) hown hK hP 0 rfl rfl 2 (by decide) (hts _ (cw_in mw_482 rfl)) (fun _ h9 => h9) rfl z_m_make_110 ?_
          refine lv_iload_n hx hb z_m_make_113 rfl (lv_at hl 3 rfl) ?_
          refine xa_i hx hb hK hP 2 0 rfl rfl (k := k) (y := nI (mN v k)) (hk) (by decide) ((hi.mk k hk).2) z_m_make_114 ?_
          refine lv_bipush (v := 30) hx hb z_m_make_115 (by decide) ?_
          refine lv_icmp_ne (tgt := 124) hx hb z_m_make_117 (by decide) (fun c_117 => ?_) (fun c_117 => ?_)
          · refine lv_iconst (v := 0) hx hb z_m_make_124 (by decide) ?_
            refine lv_iconst (v := 0) hx hb z_m_make_125 (by decide) ?_
            refine wrVi (As := [.int 0, .int 1, .int 0, .int 0]) (rest := []) (wf := fun u : St × Int32 × Int32 × Int64 => wM o cI cZ cL u.1 u.2.1 u.2.2.1 u.2.2.2) ⟨hx, hb, hml, hown, hts⟩ (c_m_throwing l dC dI o cI cZ cL v th ch cd s.heap.size 0 1 0 0) mw_554 mw_551 mw_553 mp_27 mw_6 rfl yd_m_throwing ⟨⟨rfl, rfl⟩, Nat.le_of_ble_eq_true rfl, Nat.le_of_ble_eq_true rfl⟩ ⟨Nat.le_of_ble_eq_true rfl, Nat.le_of_ble_eq_true rfl⟩ (WrC.preV hP hK hD hN (ci := 4) (q0 := 0) rfl rfl) (wr_free hD hS hA) hS rfl hl.1 rfl (Nat.le_of_ble_eq_true rfl) z_m_make_126 (fun r_20 u_21 H locs h_22 hP hD hS hz9 => ?_)
            obtain ⟨rfl, rfl⟩ : r_20 = 1 ∧ u_21 = (v, 2, ch, cd) := ⟨h_22.1.trans (by decide), h_22.2.trans (by rw [show thF 0 1 0 0 = 2 from by decide])⟩
            have hP : va_P (dC, dI) vwCl (wM o cI cZ cL v 2 ch cd) H := hP
            have hD : va_D A (wM o cI cZ cL v 2 ch cd) := hD
            refine lv_if_eq (tgt := 134) hx hb z_m_make_129 (by decide) (fun c9 => absurd c9 (by decide)) (fun _ => ?_)
            refine lv_iconst (v := 0) hx hb z_m_make_132 (by decide) ?_
            exact W.iret (v := 0) hx hb hr (fun t ht hW => ⟨⟨0, (v, 2, ch, cd), rfl, ⟨2, rfl, Or.inr (Or.inl ⟨rfl, rfl, k, hk, rfl, Or.inr ⟨nneg_1 c_23, k2, j2, hk2, hj2, e2, rfl⟩, fun h => h k2 j2 hk2 hj2 e2 rfl c_97⟩)⟩, by rw [ht]; exact hP, va_K.moved hW.alike hK, hD⟩, hS.F ht⟩) hS.2.2 z_m_make_133
          · refine lv_iconst (v := 1) hx hb z_m_make_120 (by decide) ?_
            refine lv_goto (tgt := 125) hx hb z_m_make_121 (by decide) ?_
            refine lv_iconst (v := 0) hx hb z_m_make_125 (by decide) ?_
            refine wrVi (As := [.int 0, .int 1, .int 1, .int 0]) (rest := []) (wf := fun u : St × Int32 × Int32 × Int64 => wM o cI cZ cL u.1 u.2.1 u.2.2.1 u.2.2.2) ⟨hx, hb, hml, hown, hts⟩ (c_m_throwing l dC dI o cI cZ cL v th ch cd s.heap.size 0 1 1 0) mw_554 mw_551 mw_553 mp_27 mw_6 rfl yd_m_throwing ⟨⟨rfl, rfl⟩, Nat.le_of_ble_eq_true rfl, Nat.le_of_ble_eq_true rfl⟩ ⟨Nat.le_of_ble_eq_true rfl, Nat.le_of_ble_eq_true rfl⟩ (WrC.preV hP hK hD hN (ci := 4) (q0 := 0) rfl rfl) (wr_free hD hS hA) hS rfl hl.1 rfl (Nat.le_of_ble_eq_true rfl) z_m_make_126 (fun r_23 u_24 H locs h_25 hP hD hS hz9 => ?_)
            obtain ⟨rfl, rfl⟩ : r_23 = 1 ∧ u_24 = (v, 2, ch, cd) := ⟨h_25.1.trans (by decide), h_25.2.trans (by rw [show thF 0 1 1 0 = 2 from by decide])⟩
            have hP : va_P (dC, dI) vwCl (wM o cI cZ cL v 2 ch cd) H := hP
            have hD : va_D A (wM o cI cZ cL v 2 ch cd) := hD
            refine lv_if_eq (tgt := 134) hx hb z_m_make_129 (by decide) (fun c9 => absurd c9 (by decide)) (fun _ => ?_)
            refine lv_iconst (v := 0) hx hb z_m_make_132 (by decide) ?_
            exact W.iret (v := 0) hx hb hr (fun t ht hW => ⟨⟨0, (v, 2, ch, cd), rfl, ⟨2, rfl, Or.inr (Or.inl ⟨rfl, rfl, k, hk, rfl, Or.inr ⟨nneg_1 c_23, k2, j2, hk2, hj2, e2, rfl⟩, fun h => h k2 j2 hk2 hj2 e2 rfl c_97⟩)⟩, by rw [ht]; exact hP, va_K.moved hW.alike hK, hD⟩, hS.F ht⟩) hS.2.2 z_m_make_133
      · refine lv_if_ne (tgt := 68) hx hb z_m_make_53 (by decide) (fun c9 => absurd rfl c9) (fun _ => ?_)
        refine lv_goto (tgt := 64) hx hb z_m_make_56 (by decide) ?_
        refine lv_iconst (v := 1) hx hb z_m_make_64 (by decide) ?_
        refine lv_goto (tgt := 69) hx hb z_m_make_65 (by decide) ?_
        refine lv_istore_n (lv' := [(3, .int 1), (4, .int 1), (0, .ref (o 0)), (1, .int (nI k)), (2, .int y)]) hx hb z_m_make_69 rfl hl (by decide) rfl (fun ls hl => ?_)
        refine lv_aload_n hx hb z_m_make_70 rfl (lv_at hl 2 rfl) ?_
        refine lv_iload_n hx hb z_m_make_71 rfl (lv_at hl 0 rfl) ?_
        refine lv_iload_n hx hb z_m_make_72 rfl (lv_at hl 0 rfl) ?_
        refine lv_if_ne (tgt := 104) hx hb z_m_make_73 (by decide) (fun _ => ?_) (fun c9 => absurd c9 (by decide))
        refine lv_iconst (v := 0) hx hb z_m_make_104 (by decide) ?_
        refine lv_iload_n hx hb z_m_make_105 rfl (lv_at hl 0 rfl) ?_
        refine lv_if_ne (tgt := 124) hx hb z_m_make_106 (by decide) (fun _ => ?_) (fun c9 => absurd c9 (by decide))
        refine lv_iconst (v := 0) hx hb z_m_make_124 (by decide) ?_
        refine lv_iconst (v := 0) hx hb z_m_make_125 (by decide) ?_
        refine wrVi (As := [.int 1, .int 0, .int 0, .int 0]) (rest := []) (wf := fun u : St × Int32 × Int32 × Int64 => wM o cI cZ cL u.1 u.2.1 u.2.2.1 u.2.2.2) ⟨hx, hb, hml, hown, hts⟩ (c_m_throwing l dC dI o cI cZ cL v th ch cd s.heap.size 1 0 0 0) mw_554 mw_551 mw_553 mp_27 mw_6 rfl yd_m_throwing ⟨⟨rfl, rfl⟩, Nat.le_of_ble_eq_true rfl, Nat.le_of_ble_eq_true rfl⟩ ⟨Nat.le_of_ble_eq_true rfl, Nat.le_of_ble_eq_true rfl⟩ (WrC.preV hP hK hD hN (ci := 4) (q0 := 0) rfl rfl) (wr_free hD hS hA) hS rfl hl.1 rfl (Nat.le_of_ble_eq_true rfl) z_m_make_126 (fun r_26 u_27 H locs h_28 hP hD hS hz9 => ?_)
        obtain ⟨rfl, rfl⟩ : r_26 = 1 ∧ u_27 = (v, 1, ch, cd) := ⟨h_28.1.trans (by decide), h_28.2.trans (by rw [show thF 1 0 0 0 = 1 from by decide])⟩
        have hP : va_P (dC, dI) vwCl (wM o cI cZ cL v 1 ch cd) H := hP
        have hD : va_D A (wM o cI cZ cL v 1 ch cd) := hD
        refine lv_if_eq (tgt := 134) hx hb z_m_make_129 (by decide) (fun c9 => absurd c9 (by decide)) (fun _ => ?_)
        refine lv_iconst (v := 0) hx hb z_m_make_132 (by decide) ?_
        exact W.iret (v := 0) hx hb hr (fun t ht hW => ⟨⟨0, (v, 1, ch, cd), rfl, ⟨1, rfl, Or.inl ⟨rfl, rfl, mk_no hk (fun h => h.elim (fun z => nneg_1 c_23 z.1) (fun z => h_13 z.2))⟩⟩, by rw [ht]; exact hP, va_K.moved hW.alike hK, hD⟩, hS.F ht⟩) hS.2.2 z_m_make_133
  · refine lv_if_ne (tgt := 11) hx hb z_m_make_4 (by decide) (fun c9 => absurd rfl c9) (fun _ => ?_)
    refine lv_iconst (v := 1) hx hb z_m_make_7 (by decide) ?_
    refine lv_goto (tgt := 12) hx hb z_m_make_8 (by decide) ?_
    refine lv_istore_n (lv' := [(3, .int 1), (0, .ref (o 0)), (1, .int x), (2, .int y)]) hx hb z_m_make_12 rfl hl (by decide) rfl (fun ls hl => ?_)
    refine lv_iload_n hx hb z_m_make_13 rfl (lv_at hl 0 rfl) ?_
    refine lv_if_ne (tgt := 30) hx hb z_m_make_14 (by decide) (fun _ => ?_) (fun c9 => absurd c9 (by decide))
    refine lv_iconst (v := 0) hx hb z_m_make_30 (by decide) ?_
    refine lv_istore (lv' := [(4, .int 0), (3, .int 1), (0, .ref (o 0)), (1, .int x), (2, .int y)]) hx hb z_m_make_31 hl (by decide) rfl (fun ls hl => ?_)
    refine lv_iload_n hx hb z_m_make_33 rfl (lv_at hl 1 rfl) ?_
    refine lv_if_ne (tgt := 64) hx hb z_m_make_34 (by decide) (fun _ => ?_) (fun c9 => absurd c9 (by decide))
    refine lv_iconst (v := 1) hx hb z_m_make_64 (by decide) ?_
    refine lv_goto (tgt := 69) hx hb z_m_make_65 (by decide) ?_
    refine lv_istore_n (lv' := [(3, .int 1), (4, .int 0), (0, .ref (o 0)), (1, .int x), (2, .int y)]) hx hb z_m_make_69 rfl hl (by decide) rfl (fun ls hl => ?_)
    refine lv_aload_n hx hb z_m_make_70 rfl (lv_at hl 2 rfl) ?_
    refine lv_iload_n hx hb z_m_make_71 rfl (lv_at hl 0 rfl) ?_
    refine lv_iload_n hx hb z_m_make_72 rfl (lv_at hl 0 rfl) ?_
    refine lv_if_ne (tgt := 104) hx hb z_m_make_73 (by decide) (fun _ => ?_) (fun c9 => absurd c9 (by decide))
    refine lv_iconst (v := 0) hx hb z_m_make_104 (by decide) ?_
    refine lv_iload_n hx hb z_m_make_105 rfl (lv_at hl 0 rfl) ?_
    refine lv_if_ne (tgt := 124) hx hb z_m_make_106 (by decide) (fun _ => ?_) (fun c9 => absurd c9 (by decide))
    refine lv_iconst (v := 0) hx hb z_m_make_124 (by decide) ?_
    refine lv_iconst (v := 0) hx hb z_m_make_125 (by decide) ?_
    refine wrVi (As := [.int 1, .int 0, .int 0, .int 0]) (rest := []) (wf := fun u : St × Int32 × Int32 × Int64 => wM o cI cZ cL u.1 u.2.1 u.2.2.1 u.2.2.2) ⟨hx, hb, hml, hown, hts⟩ (c_m_throwing l dC dI o cI cZ cL v th ch cd s.heap.size 1 0 0 0) mw_554 mw_551 mw_553 mp_27 mw_6 rfl yd_m_throwing ⟨⟨rfl, rfl⟩, Nat.le_of_ble_eq_true rfl, Nat.le_of_ble_eq_true rfl⟩ ⟨Nat.le_of_ble_eq_true rfl, Nat.le_of_ble_eq_true rfl⟩ (WrC.preV hP hK hD hN (ci := 4) (q0 := 0) rfl rfl) (wr_free hD hS hA) hS rfl hl.1 rfl (Nat.le_of_ble_eq_true rfl) z_m_make_126 (fun r_29 u_30 H locs h_31 hP hD hS hz9 => ?_)
    obtain ⟨rfl, rfl⟩ : r_29 = 1 ∧ u_30 = (v, 1, ch, cd) := ⟨h_31.1.trans (by decide), h_31.2.trans (by rw [show thF 1 0 0 0 = 1 from by decide])⟩
    have hP : va_P (dC, dI) vwCl (wM o cI cZ cL v 1 ch cd) H := hP
    have hD : va_D A (wM o cI cZ cL v 1 ch cd) := hD
    refine lv_if_eq (tgt := 134) hx hb z_m_make_129 (by decide) (fun c9 => absurd c9 (by decide)) (fun _ => ?_)
    refine lv_iconst (v := 0) hx hb z_m_make_132 (by decide) ?_
    exact W.iret (v := 0) hx hb hr (fun t ht hW => ⟨⟨0, (v, 1, ch, cd), rfl, ⟨1, rfl, Or.inl ⟨rfl, rfl, fun ⟨k9, hk9, e9, _⟩ => h_2 ⟨k9, hk9, e9⟩⟩⟩, by rw [ht]; exact hP, va_K.moved hW.alike hK, hD⟩, hS.F ht⟩) hS.2.2 z_m_make_133

set_option maxHeartbeats 4000000 in
set_option maxRecDepth 100000 in
theorem c_m_verb (l : Launch) (dC : Nat → ClassId) (dI : Nat → Nat → Nat) (o : Nat → Nat) (cI cZ cL : ClassId) (v : St) (th ch : Int32) (cd : Int64) (sz : Nat) (x y z a b : Int32) : Met l y_m_verb (Cond.code y_m_verb b_m_verb 7 none :: CW) { frames := 2, cells := 0, slots := 0, locals := 45 } (va_Pc [.ref (o 0), .int x, .int y, .int z, .int a, .int b] (WrC (dC, dI) sz (wM o cI cZ cL v th ch cd) (tyM cI cZ cL))) (va_Qv (fun u : St × Int32 × Int32 × Int64 => ∃ c9 : Nat, u.2.1 = nI c9 ∧ spVerb v x y z a b c9 u.1) (fun u => WrB (dC, dI) (wM o cI cZ cL u.1 u.2.1 u.2.2.1 u.2.2.2) (tyM cI cZ cL) (va_A (wM o cI cZ cL v th ch cd) sz)) (va_A (wM o cI cZ cL v th ch cd) sz)) 0 0 (va_A (wM o cI cZ cL v th ch cd) sz) := by
  refine cx_met (by decide) (Nat.le_of_ble_eq_true rfl) ?_
  intro p e s m below meth c hx hb hr hml hts hown hlocks hnm hC ls hl
  obtain ⟨hsz, hP, hK, hD0, hN⟩ := hC
  subst hsz
  have hD := hD0.self (sz := s.heap.size)
  generalize hAe : va_A (wM o cI cZ cL v th ch cd) s.heap.size = A at hD ⊢
  have hA : ∀ q9 : Nat, s.heap.size ≤ q9 → A q9 := fun q9 h => by rw [← hAe]; exact Or.inr h
  have hS : va_S A s.heap s.heap [] := va_S.rf
  have hown : s.vm.findClass "ServiceDeskModel" = some m.cls := hown
  have hl : lv_has ls 7 [(0, .ref (o 0)), (1, .int x), (2, .int y), (3, .int z), (4, .int a), (5, .int b)] := hl
  refine lv_iload_n hx hb z_m_verb_0 rfl (lv_at hl 1 rfl) ?_
  refine rdSi (As := [.int x]) (rest := []) ⟨hx, hb, hml, hown, hts⟩ (c_m_isKind l x) mw_543 mw_541 mw_542 mw_6 yd_m_isKind ⟨⟨rfl, rfl⟩, Nat.le_of_ble_eq_true rfl, Nat.le_of_ble_eq_true rfl⟩ ⟨Nat.zero_le _, Nat.zero_le _⟩ (pre_pure) rfl hl.1 rfl (Nat.le_of_ble_eq_true rfl) z_m_verb_1 (fun r_1 h_2 => ?_)
  rcases h_2 with ⟨rfl, h_2⟩ | ⟨rfl, h_2⟩
  · obtain ⟨k, hk, rfl⟩ := h_2
    refine lv_if_eq (tgt := 27) hx hb z_m_verb_4 (by decide) (fun c9 => absurd c9 (by decide)) (fun _ => ?_)
    refine lv_iload_n hx hb z_m_verb_7 rfl (lv_at hl 2 rfl) ?_
    refine lv_iconst (v := 0) hx hb z_m_verb_8 (by decide) ?_
    refine lv_bipush (v := 7) hx hb z_m_verb_9 (by decide) ?_
    refine rdSi (As := [.int y, .int 0, .int 7]) (rest := []) ⟨hx, hb, hml, hown, hts⟩ (c_m_in l y 0 7) mw_546 mw_544 mw_545 mw_6 yd_m_in ⟨⟨rfl, rfl⟩, Nat.le_of_ble_eq_true rfl, Nat.le_of_ble_eq_true rfl⟩ ⟨Nat.zero_le _, Nat.zero_le _⟩ (pre_pure) rfl hl.1 rfl (Nat.le_of_ble_eq_true rfl) z_m_verb_11 (fun r_3 h_4 => ?_)
    rcases h_4 with ⟨rfl, h_4⟩ | ⟨rfl, h_4⟩
    · obtain ⟨n, hn, rfl⟩ := k7_iff.mp h_4
      refine lv_if_eq (tgt := 27) hx hb z_m_verb_14 (by decide) (fun c9 => absurd c9 (by decide)) (fun _ => ?_)
      refine lv_iload_n hx hb z_m_verb_17 rfl (lv_at hl 3 rfl) ?_
      refine lv_iconst (v := 0) hx hb z_m_verb_18 (by decide) ?_
      refine lv_bipush (v := 7) hx hb z_m_verb_19 (by decide) ?_
      refine rdSi (As := [.int z, .int 0, .int 7]) (rest := []) ⟨hx, hb, hml, hown, hts⟩ (c_m_in l z 0 7) mw_546 mw_544 mw_545 mw_6 yd_m_in ⟨⟨rfl, rfl⟩, Nat.le_of_ble_eq_true rfl, Nat.le_of_ble_eq_true rfl⟩ ⟨Nat.zero_le _, Nat.zero_le _⟩ (pre_pure) rfl hl.1 rfl (Nat.le_of_ble_eq_true rfl) z_m_verb_21 (fun r_5 h_6 => ?_)
      rcases h_6 with ⟨rfl, h_6⟩ | ⟨rfl, h_6⟩
      · refine lv_if_ne (tgt := 31) hx hb z_m_verb_24 (by decide) (fun _ => ?_) (fun c9 => absurd c9 (by decide))
        refine lv_iconst (v := 0) hx hb z_m_verb_31 (by decide) ?_
        refine lv_istore (lv' := [(6, .int 0), (0, .ref (o 0)), (1, .int (nI k)), (2, .int (nI n)), (3, .int z), (4, .int a), (5, .int b)]) hx hb z_m_verb_32 hl (by decide) rfl (fun ls hl => ?_)
        refine lv_aload_n hx hb z_m_verb_34 rfl (lv_at hl 1 rfl) ?_
        refine lv_iload hx hb z_m_verb_35 (lv_at hl 0 rfl) ?_
        refine lv_iload hx hb z_m_verb_37 (lv_at hl 5 rfl) ?_
        refine lv_sipush (v := (-1000)) hx hb z_m_verb_39 (by decide) ?_
        refine lv_sipush (v := 1000) hx hb z_m_verb_42 (by decide) ?_
        refine rdSi (As := [.int a, .int (-1000), .int 1000]) (rest := [.int 0, .ref (o 0)]) ⟨hx, hb, hml, hown, hts⟩ (c_m_in l a (-1000) 1000) mw_546 mw_544 mw_545 mw_6 yd_m_in ⟨⟨rfl, rfl⟩, Nat.le_of_ble_eq_true rfl, Nat.le_of_ble_eq_true rfl⟩ ⟨Nat.zero_le _, Nat.zero_le _⟩ (pre_pure) rfl hl.1 rfl (Nat.le_of_ble_eq_true rfl) z_m_verb_45 (fun r_7 h_8 => ?_)
        rcases h_8 with ⟨rfl, h_8⟩ | ⟨rfl, h_8⟩
        · refine lv_if_eq (tgt := 65) hx hb z_m_verb_48 (by decide) (fun c9 => absurd c9 (by decide)) (fun _ => ?_)
          refine lv_iload hx hb z_m_verb_51 (lv_at hl 6 rfl) ?_
          refine lv_sipush (v := (-1000)) hx hb z_m_verb_53 (by decide) ?_
          refine lv_sipush (v := 1000) hx hb z_m_verb_56 (by decide) ?_
          refine rdSi (As := [.int b, .int (-1000), .int 1000]) (rest := [.int 0, .ref (o 0)]) ⟨hx, hb, hml, hown, hts⟩ (c_m_in l b (-1000) 1000) mw_546 mw_544 mw_545 mw_6 yd_m_in ⟨⟨rfl, rfl⟩, Nat.le_of_ble_eq_true rfl, Nat.le_of_ble_eq_true rfl⟩ ⟨Nat.zero_le _, Nat.zero_le _⟩ (pre_pure) rfl hl.1 rfl (Nat.le_of_ble_eq_true rfl) z_m_verb_59 (fun r_9 h_10 => ?_)
          rcases h_10 with ⟨rfl, h_10⟩ | ⟨rfl, h_10⟩
          · refine lv_if_ne (tgt := 69) hx hb z_m_verb_62 (by decide) (fun _ => ?_) (fun c9 => absurd c9 (by decide))
            refine lv_iconst (v := 0) hx hb z_m_verb_69 (by decide) ?_
            refine lv_iconst (v := 0) hx hb z_m_verb_70 (by decide) ?_
            refine lv_iconst (v := 0) hx hb z_m_verb_71 (by decide) ?_
            refine wrVi (As := [.int 0, .int 0, .int 0, .int 0]) (rest := []) (wf := fun u : St × Int32 × Int32 × Int64 => wM o cI cZ cL u.1 u.2.1 u.2.2.1 u.2.2.2) ⟨hx, hb, hml, hown, hts⟩ (c_m_throwing l dC dI o cI cZ cL v th ch cd s.heap.size 0 0 0 0) mw_554 mw_551 mw_553 mp_27 mw_6 rfl yd_m_throwing ⟨⟨rfl, rfl⟩, Nat.le_of_ble_eq_true rfl, Nat.le_of_ble_eq_true rfl⟩ ⟨Nat.le_of_ble_eq_true rfl, Nat.le_of_ble_eq_true rfl⟩ (WrC.preV hP hK hD hN (ci := 4) (q0 := 0) rfl rfl) (wr_free hD hS hA) hS rfl hl.1 rfl (Nat.le_of_ble_eq_true rfl) z_m_verb_72 (fun r_11 u_12 H locs h_13 hP hD hS hz9 => ?_)
            obtain ⟨rfl, rfl⟩ : r_11 = 0 ∧ u_12 = (v, 0, ch, cd) := ⟨h_13.1.trans (by decide), h_13.2.trans (by rw [show thF 0 0 0 0 = 0 from by decide])⟩
            have hP : va_P (dC, dI) vwCl (wM o cI cZ cL v 0 ch cd) H := hP
            have hD : va_D A (wM o cI cZ cL v 0 ch cd) := hD
            refine lv_if_eq (tgt := 79) hx hb z_m_verb_75 (by decide) (fun _ => ?_) (fun c9 => absurd (by decide) c9)
            refine lv_aload_n hx hb z_m_verb_79 rfl (lv_at hl 1 rfl) ?_
            refine va_get (D := (dC, dI)) (ci := 4) (v := .ref (o 8)) (C := R4) (T := T4) (N := 17) hx hb hts (cw_sub iC4) hown hK hP 0 rfl rfl 8 (by decide) (hts _ (cw_in mw_488 rfl)) (fun _ h9 => h9) rfl z_m_verb_80 ?_
            refine lv_bipush (v := 8) hx hb z_m_verb_83 (by decide) ?_
            refine lv_iload_n hx hb z_m_verb_85 rfl (lv_at hl 2 rfl) ?_
            refine lv_imul hx hb z_m_verb_86 ?_
            refine lv_iload_n hx hb z_m_verb_87 rfl (lv_at hl 3 rfl) ?_
            refine lv_iadd hx hb z_m_verb_88 ?_
            rw [s8_nI]
            refine lv_iload_n hx hb z_m_verb_89 rfl (lv_at hl 4 rfl) ?_
            refine xs_i hx hb hK hP hD hS 8 0 rfl rfl (k := (k * 8 + n)) (by omega) (by decide) z_m_verb_90 (fun H locs hP hD hS => ?_)
            have hP : va_P (dC, dI) vwCl (wM o cI cZ cL (umd v (upd (zmd v) (k * 8 + n) z)) 0 ch cd) H := hP
            have hD : va_D A (wM o cI cZ cL (umd v (upd (zmd v) (k * 8 + n) z)) 0 ch cd) := hD
            refine lv_aload_n hx hb z_m_verb_91 rfl (lv_at hl 1 rfl) ?_
            refine va_get (D := (dC, dI)) (ci := 4) (v := .ref (o 9)) (C := R4) (T := T4) (N := 17) hx hb hts (cw_sub iC4) hown hK hP 0 rfl rfl 9 (by decide) (hts _ (cw_in mw_489 rfl)) (fun _ h9 => h9) rfl z_m_verb_92 ?_
            refine lv_bipush (v := 8) hx hb z_m_verb_95 (by decide) ?_
            refine lv_iload_n hx hb z_m_verb_97 rfl (lv_at hl 2 rfl) ?_
            refine lv_imul hx hb z_m_verb_98 ?_
            refine lv_iload_n hx hb z_m_verb_99 rfl (lv_at hl 3 rfl) ?_
            refine lv_iadd hx hb z_m_verb_100 ?_
            rw [s8_nI]
            refine lv_iload hx hb z_m_verb_101 (lv_at hl 5 rfl) ?_
            refine xs_i hx hb hK hP hD hS 9 0 rfl rfl (k := (k * 8 + n)) (by omega) (by decide) z_m_verb_103 (fun H locs hP hD hS => ?_)
            have hP : va_P (dC, dI) vwCl (wM o cI cZ cL (uas (umd v (upd (zmd v) (k * 8 + n) z)) (upd (zas v) (k * 8 + n) a)) 0 ch cd) H := hP
            have hD : va_D A (wM o cI cZ cL (uas (umd v (upd (zmd v) (k * 8 + n) z)) (upd (zas v) (k * 8 + n) a)) 0 ch cd) := hD
            refine lv_aload_n hx hb z_m_verb_104 rfl (lv_at hl 1 rfl) ?_
            refine va_get (D := (dC, dI)) (ci := 4) (v := .ref (o 10)) (C := R4) (T := T4) (N := 17) hx hb hts (cw_sub iC4) hown hK hP 0 rfl rfl 10 (by decide) (hts _ (cw_in mw_490 rfl)) (fun _ h9 => h9) rfl z_m_verb_105 ?_
            refine lv_bipush (v := 8) hx hb z_m_verb_108 (by decide) ?_
            refine lv_iload_n hx hb z_m_verb_110 rfl (lv_at hl 2 rfl) ?_
            refine lv_imul hx hb z_m_verb_111 ?_
            refine lv_iload_n hx hb z_m_verb_112 rfl (lv_at hl 3 rfl) ?_
            refine lv_iadd hx hb z_m_verb_113 ?_
            rw [s8_nI]
            refine lv_iload hx hb z_m_verb_114 (lv_at hl 6 rfl) ?_
            refine xs_i hx hb hK hP hD hS 10 0 rfl rfl (k := (k * 8 + n)) (by omega) (by decide) z_m_verb_116 (fun H locs hP hD hS => ?_)
            have hP : va_P (dC, dI) vwCl (wM o cI cZ cL (ubs (uas (umd v (upd (zmd v) (k * 8 + n) z)) (upd (zas v) (k * 8 + n) a)) (upd (zbs v) (k * 8 + n) b)) 0 ch cd) H := hP
            have hD : va_D A (wM o cI cZ cL (ubs (uas (umd v (upd (zmd v) (k * 8 + n) z)) (upd (zas v) (k * 8 + n) a)) (upd (zbs v) (k * 8 + n) b)) 0 ch cd) := hD
            exact W.vret hx hb hr (fun t ht hW => ⟨⟨(ubs (uas (umd v (upd (zmd v) (k * 8 + n) z)) (upd (zas v) (k * 8 + n) a)) (upd (zbs v) (k * 8 + n) b), 0, ch, cd), rfl, ⟨0, rfl, Or.inr (Or.inr ⟨rfl, ⟨h_8, h_10⟩, k, n, hk, hn, rfl, rfl, k7_iff.mp h_6, rfl⟩)⟩, by rw [ht]; exact hP, va_K.moved hW.alike hK, hD⟩, hS.F ht⟩) hS.2.2 z_m_verb_117
          · refine lv_if_ne (tgt := 69) hx hb z_m_verb_62 (by decide) (fun c9 => absurd rfl c9) (fun _ => ?_)
            refine lv_iconst (v := 1) hx hb z_m_verb_65 (by decide) ?_
            refine lv_goto (tgt := 70) hx hb z_m_verb_66 (by decide) ?_
            refine lv_iconst (v := 0) hx hb z_m_verb_70 (by decide) ?_
            refine lv_iconst (v := 0) hx hb z_m_verb_71 (by decide) ?_
            refine wrVi (As := [.int 0, .int 1, .int 0, .int 0]) (rest := []) (wf := fun u : St × Int32 × Int32 × Int64 => wM o cI cZ cL u.1 u.2.1 u.2.2.1 u.2.2.2) ⟨hx, hb, hml, hown, hts⟩ (c_m_throwing l dC dI o cI cZ cL v th ch cd s.heap.size 0 1 0 0) mw_554 mw_551 mw_553 mp_27 mw_6 rfl yd_m_throwing ⟨⟨rfl, rfl⟩, Nat.le_of_ble_eq_true rfl, Nat.le_of_ble_eq_true rfl⟩ ⟨Nat.le_of_ble_eq_true rfl, Nat.le_of_ble_eq_true rfl⟩ (WrC.preV hP hK hD hN (ci := 4) (q0 := 0) rfl rfl) (wr_free hD hS hA) hS rfl hl.1 rfl (Nat.le_of_ble_eq_true rfl) z_m_verb_72 (fun r_14 u_15 H locs h_16 hP hD hS hz9 => ?_)
            obtain ⟨rfl, rfl⟩ : r_14 = 1 ∧ u_15 = (v, 2, ch, cd) := ⟨h_16.1.trans (by decide), h_16.2.trans (by rw [show thF 0 1 0 0 = 2 from by decide])⟩
            have hP : va_P (dC, dI) vwCl (wM o cI cZ cL v 2 ch cd) H := hP
            have hD : va_D A (wM o cI cZ cL v 2 ch cd) := hD
            refine lv_if_eq (tgt := 79) hx hb z_m_verb_75 (by decide) (fun c9 => absurd c9 (by decide)) (fun _ => ?_)
            exact W.vret hx hb hr (fun t ht hW => ⟨⟨(v, 2, ch, cd), rfl, ⟨2, rfl, Or.inr (Or.inl ⟨rfl, rfl, ⟨⟨k, hk, rfl⟩, ⟨n, hn, rfl⟩, k7_iff.mp h_6⟩, fun h => h_10 h.2⟩)⟩, by rw [ht]; exact hP, va_K.moved hW.alike hK, hD⟩, hS.F ht⟩) hS.2.2 z_m_verb_78
        · refine lv_if_eq (tgt := 65) hx hb z_m_verb_48 (by decide) (fun _ => ?_) (fun c9 => absurd (by decide) c9)
          refine lv_iconst (v := 1) hx hb z_m_verb_65 (by decide) ?_
          refine lv_goto (tgt := 70) hx hb z_m_verb_66 (by decide) ?_
          refine lv_iconst (v := 0) hx hb z_m_verb_70 (by decide) ?_
          refine lv_iconst (v := 0) hx hb z_m_verb_71 (by decide) ?_
          refine wrVi (As := [.int 0, .int 1, .int 0, .int 0]) (rest := []) (wf := fun u : St × Int32 × Int32 × Int64 => wM o cI cZ cL u.1 u.2.1 u.2.2.1 u.2.2.2) ⟨hx, hb, hml, hown, hts⟩ (c_m_throwing l dC dI o cI cZ cL v th ch cd s.heap.size 0 1 0 0) mw_554 mw_551 mw_553 mp_27 mw_6 rfl yd_m_throwing ⟨⟨rfl, rfl⟩, Nat.le_of_ble_eq_true rfl, Nat.le_of_ble_eq_true rfl⟩ ⟨Nat.le_of_ble_eq_true rfl, Nat.le_of_ble_eq_true rfl⟩ (WrC.preV hP hK hD hN (ci := 4) (q0 := 0) rfl rfl) (wr_free hD hS hA) hS rfl hl.1 rfl (Nat.le_of_ble_eq_true rfl) z_m_verb_72 (fun r_17 u_18 H locs h_19 hP hD hS hz9 => ?_)
          obtain ⟨rfl, rfl⟩ : r_17 = 1 ∧ u_18 = (v, 2, ch, cd) := ⟨h_19.1.trans (by decide), h_19.2.trans (by rw [show thF 0 1 0 0 = 2 from by decide])⟩
          have hP : va_P (dC, dI) vwCl (wM o cI cZ cL v 2 ch cd) H := hP
          have hD : va_D A (wM o cI cZ cL v 2 ch cd) := hD
          refine lv_if_eq (tgt := 79) hx hb z_m_verb_75 (by decide) (fun c9 => absurd c9 (by decide)) (fun _ => ?_)
          exact W.vret hx hb hr (fun t ht hW => ⟨⟨(v, 2, ch, cd), rfl, ⟨2, rfl, Or.inr (Or.inl ⟨rfl, rfl, ⟨⟨k, hk, rfl⟩, ⟨n, hn, rfl⟩, k7_iff.mp h_6⟩, fun h => h_8 h.1⟩)⟩, by rw [ht]; exact hP, va_K.moved hW.alike hK, hD⟩, hS.F ht⟩) hS.2.2 z_m_verb_78
      · refine lv_if_ne (tgt := 31) hx hb z_m_verb_24 (by decide) (fun c9 => absurd rfl c9) (fun _ => ?_)
        refine lv_iconst (v := 1) hx hb z_m_verb_27 (by decide) ?_
        refine lv_goto (tgt := 32) hx hb z_m_verb_28 (by decide) ?_
        refine lv_istore (lv' := [(6, .int 1), (0, .ref (o 0)), (1, .int (nI k)), (2, .int (nI n)), (3, .int z), (4, .int a), (5, .int b)]) hx hb z_m_verb_32 hl (by decide) rfl (fun ls hl => ?_)
        refine lv_aload_n hx hb z_m_verb_34 rfl (lv_at hl 1 rfl) ?_
        refine lv_iload hx hb z_m_verb_35 (lv_at hl 0 rfl) ?_
        refine lv_iload hx hb z_m_verb_37 (lv_at hl 5 rfl) ?_
        refine lv_sipush (v := (-1000)) hx hb z_m_verb_39 (by decide) ?_
        refine lv_sipush (v := 1000) hx hb z_m_verb_42 (by decide) ?_
        refine rdSi (As := [.int a, .int (-1000), .int 1000]) (rest := [.int 1, .ref (o 0)]) ⟨hx, hb, hml, hown, hts⟩ (c_m_in l a (-1000) 1000) mw_546 mw_544 mw_545 mw_6 yd_m_in ⟨⟨rfl, rfl⟩, Nat.le_of_ble_eq_true rfl, Nat.le_of_ble_eq_true rfl⟩ ⟨Nat.zero_le _, Nat.zero_le _⟩ (pre_pure) rfl hl.1 rfl (Nat.le_of_ble_eq_true rfl) z_m_verb_45 (fun r_20 h_21 => ?_)
        rcases h_21 with ⟨rfl, h_21⟩ | ⟨rfl, h_21⟩
        · refine lv_if_eq (tgt := 65) hx hb z_m_verb_48 (by decide) (fun c9 => absurd c9 (by decide)) (fun _ => ?_)
          refine lv_iload hx hb z_m_verb_51 (lv_at hl 6 rfl) ?_
          refine lv_sipush (v := (-1000)) hx hb z_m_verb_53 (by decide) ?_
          refine lv_sipush (v := 1000) hx hb z_m_verb_56 (by decide) ?_
          refine rdSi (As := [.int b, .int (-1000), .int 1000]) (rest := [.int 1, .ref (o 0)]) ⟨hx, hb, hml, hown, hts⟩ (c_m_in l b (-1000) 1000) mw_546 mw_544 mw_545 mw_6 yd_m_in ⟨⟨rfl, rfl⟩, Nat.le_of_ble_eq_true rfl, Nat.le_of_ble_eq_true rfl⟩ ⟨Nat.zero_le _, Nat.zero_le _⟩ (pre_pure) rfl hl.1 rfl (Nat.le_of_ble_eq_true rfl) z_m_verb_59 (fun r_22 h_23 => ?_)
          rcases h_23 with ⟨rfl, h_23⟩ | ⟨rfl, h_23⟩
          · refine lv_if_ne (tgt := 69) hx hb z_m_verb_62 (by decide) (fun _ => ?_) (fun c9 => absurd c9 (by decide))
            refine lv_iconst (v := 0) hx hb z_m_verb_69 (by decide) ?_
            refine lv_iconst (v := 0) hx hb z_m_verb_70 (by decide) ?_
            refine lv_iconst (v := 0) hx hb z_m_verb_71 (by decide) ?_
            refine wrVi (As := [.int 1, .int 0, .int 0, .int 0]) (rest := []) (wf := fun u : St × Int32 × Int32 × Int64 => wM o cI cZ cL u.1 u.2.1 u.2.2.1 u.2.2.2) ⟨hx, hb, hml, hown, hts⟩ (c_m_throwing l dC dI o cI cZ cL v th ch cd s.heap.size 1 0 0 0) mw_554 mw_551 mw_553 mp_27 mw_6 rfl yd_m_throwing ⟨⟨rfl, rfl⟩, Nat.le_of_ble_eq_true rfl, Nat.le_of_ble_eq_true rfl⟩ ⟨Nat.le_of_ble_eq_true rfl, Nat.le_of_ble_eq_true rfl⟩ (WrC.preV hP hK hD hN (ci := 4) (q0 := 0) rfl rfl) (wr_free hD hS hA) hS rfl hl.1 rfl (Nat.le_of_ble_eq_true rfl) z_m_verb_72 (fun r_24 u_25 H locs h_26 hP hD hS hz9 => ?_)
            obtain ⟨rfl, rfl⟩ : r_24 = 1 ∧ u_25 = (v, 1, ch, cd) := ⟨h_26.1.trans (by decide), h_26.2.trans (by rw [show thF 1 0 0 0 = 1 from by decide])⟩
            have hP : va_P (dC, dI) vwCl (wM o cI cZ cL v 1 ch cd) H := hP
            have hD : va_D A (wM o cI cZ cL v 1 ch cd) := hD
            refine lv_if_eq (tgt := 79) hx hb z_m_verb_75 (by decide) (fun c9 => absurd c9 (by decide)) (fun _ => ?_)
            exact W.vret hx hb hr (fun t ht hW => ⟨⟨(v, 1, ch, cd), rfl, ⟨1, rfl, Or.inl ⟨rfl, rfl, fun h => h_6 (k7_iff.mpr h.2.2)⟩⟩, by rw [ht]; exact hP, va_K.moved hW.alike hK, hD⟩, hS.F ht⟩) hS.2.2 z_m_verb_78
          · refine lv_if_ne (tgt := 69) hx hb z_m_verb_62 (by decide) (fun c9 => absurd rfl c9) (fun _ => ?_)
            refine lv_iconst (v := 1) hx hb z_m_verb_65 (by decide) ?_
            refine lv_goto (tgt := 70) hx hb z_m_verb_66 (by decide) ?_
            refine lv_iconst (v := 0) hx hb z_m_verb_70 (by decide) ?_
            refine lv_iconst (v := 0) hx hb z_m_verb_71 (by decide) ?_
            refine wrVi (As := [.int 1, .int 1, .int 0, .int 0]) (rest := []) (wf := fun u : St × Int32 × Int32 × Int64 => wM o cI cZ cL u.1 u.2.1 u.2.2.1 u.2.2.2) ⟨hx, hb, hml, hown, hts⟩ (c_m_throwing l dC dI o cI cZ cL v th ch cd s.heap.size 1 1 0 0) mw_554 mw_551 mw_553 mp_27 mw_6 rfl yd_m_throwing ⟨⟨rfl, rfl⟩, Nat.le_of_ble_eq_true rfl, Nat.le_of_ble_eq_true rfl⟩ ⟨Nat.le_of_ble_eq_true rfl, Nat.le_of_ble_eq_true rfl⟩ (WrC.preV hP hK hD hN (ci := 4) (q0 := 0) rfl rfl) (wr_free hD hS hA) hS rfl hl.1 rfl (Nat.le_of_ble_eq_true rfl) z_m_verb_72 (fun r_27 u_28 H locs h_29 hP hD hS hz9 => ?_)
            obtain ⟨rfl, rfl⟩ : r_27 = 1 ∧ u_28 = (v, 1, ch, cd) := ⟨h_29.1.trans (by decide), h_29.2.trans (by rw [show thF 1 1 0 0 = 1 from by decide])⟩
            have hP : va_P (dC, dI) vwCl (wM o cI cZ cL v 1 ch cd) H := hP
            have hD : va_D A (wM o cI cZ cL v 1 ch cd) := hD
            refine lv_if_eq (tgt := 79) hx hb z_m_verb_75 (by decide) (fun c9 => absurd c9 (by decide)) (fun _ => ?_)
            exact W.vret hx hb hr (fun t ht hW => ⟨⟨(v, 1, ch, cd), rfl, ⟨1, rfl, Or.inl ⟨rfl, rfl, fun h => h_6 (k7_iff.mpr h.2.2)⟩⟩, by rw [ht]; exact hP, va_K.moved hW.alike hK, hD⟩, hS.F ht⟩) hS.2.2 z_m_verb_78
        · refine lv_if_eq (tgt := 65) hx hb z_m_verb_48 (by decide) (fun _ => ?_) (fun c9 => absurd (by decide) c9)
          refine lv_iconst (v := 1) hx hb z_m_verb_65 (by decide) ?_
          refine lv_goto (tgt := 70) hx hb z_m_verb_66 (by decide) ?_
          refine lv_iconst (v := 0) hx hb z_m_verb_70 (by decide) ?_
          refine lv_iconst (v := 0) hx hb z_m_verb_71 (by decide) ?_
          refine wrVi (As := [.int 1, .int 1, .int 0, .int 0]) (rest := []) (wf := fun u : St × Int32 × Int32 × Int64 => wM o cI cZ cL u.1 u.2.1 u.2.2.1 u.2.2.2) ⟨hx, hb, hml, hown, hts⟩ (c_m_throwing l dC dI o cI cZ cL v th ch cd s.heap.size 1 1 0 0) mw_554 mw_551 mw_553 mp_27 mw_6 rfl yd_m_throwing ⟨⟨rfl, rfl⟩, Nat.le_of_ble_eq_true rfl, Nat.le_of_ble_eq_true rfl⟩ ⟨Nat.le_of_ble_eq_true rfl, Nat.le_of_ble_eq_true rfl⟩ (WrC.preV hP hK hD hN (ci := 4) (q0 := 0) rfl rfl) (wr_free hD hS hA) hS rfl hl.1 rfl (Nat.le_of_ble_eq_true rfl) z_m_verb_72 (fun r_30 u_31 H locs h_32 hP hD hS hz9 => ?_)
          obtain ⟨rfl, rfl⟩ : r_30 = 1 ∧ u_31 = (v, 1, ch, cd) := ⟨h_32.1.trans (by decide), h_32.2.trans (by rw [show thF 1 1 0 0 = 1 from by decide])⟩
          have hP : va_P (dC, dI) vwCl (wM o cI cZ cL v 1 ch cd) H := hP
          have hD : va_D A (wM o cI cZ cL v 1 ch cd) := hD
          refine lv_if_eq (tgt := 79) hx hb z_m_verb_75 (by decide) (fun c9 => absurd c9 (by decide)) (fun _ => ?_)
          exact W.vret hx hb hr (fun t ht hW => ⟨⟨(v, 1, ch, cd), rfl, ⟨1, rfl, Or.inl ⟨rfl, rfl, fun h => h_6 (k7_iff.mpr h.2.2)⟩⟩, by rw [ht]; exact hP, va_K.moved hW.alike hK, hD⟩, hS.F ht⟩) hS.2.2 z_m_verb_78
    · refine lv_if_eq (tgt := 27) hx hb z_m_verb_14 (by decide) (fun _ => ?_) (fun c9 => absurd (by decide) c9)
      refine lv_iconst (v := 1) hx hb z_m_verb_27 (by decide) ?_
      refine lv_goto (tgt := 32) hx hb z_m_verb_28 (by decide) ?_
      refine lv_istore (lv' := [(6, .int 1), (0, .ref (o 0)), (1, .int (nI k)), (2, .int y), (3, .int z), (4, .int a), (5, .int b)]) hx hb z_m_verb_32 hl (by decide) rfl (fun ls hl => ?_)
      refine lv_aload_n hx hb z_m_verb_34 rfl (lv_at hl 1 rfl) ?_
      refine lv_iload hx hb z_m_verb_35 (lv_at hl 0 rfl) ?_
      refine lv_iload hx hb z_m_verb_37 (lv_at hl 5 rfl) ?_
      refine lv_sipush (v := (-1000)) hx hb z_m_verb_39 (by decide) ?_
      refine lv_sipush (v := 1000) hx hb z_m_verb_42 (by decide) ?_
      refine rdSi (As := [.int a, .int (-1000), .int 1000]) (rest := [.int 1, .ref (o 0)]) ⟨hx, hb, hml, hown, hts⟩ (c_m_in l a (-1000) 1000) mw_546 mw_544 mw_545 mw_6 yd_m_in ⟨⟨rfl, rfl⟩, Nat.le_of_ble_eq_true rfl, Nat.le_of_ble_eq_true rfl⟩ ⟨Nat.zero_le _, Nat.zero_le _⟩ (pre_pure) rfl hl.1 rfl (Nat.le_of_ble_eq_true rfl) z_m_verb_45 (fun r_33 h_34 => ?_)
      rcases h_34 with ⟨rfl, h_34⟩ | ⟨rfl, h_34⟩
      · refine lv_if_eq (tgt := 65) hx hb z_m_verb_48 (by decide) (fun c9 => absurd c9 (by decide)) (fun _ => ?_)
        refine lv_iload hx hb z_m_verb_51 (lv_at hl 6 rfl) ?_
        refine lv_sipush (v := (-1000)) hx hb z_m_verb_53 (by decide) ?_
        refine lv_sipush (v := 1000) hx hb z_m_verb_56 (by decide) ?_
        refine rdSi (As := [.int b, .int (-1000), .int 1000]) (rest := [.int 1, .ref (o 0)]) ⟨hx, hb, hml, hown, hts⟩ (c_m_in l b (-1000) 1000) mw_546 mw_544 mw_545 mw_6 yd_m_in ⟨⟨rfl, rfl⟩, Nat.le_of_ble_eq_true rfl, Nat.le_of_ble_eq_true rfl⟩ ⟨Nat.zero_le _, Nat.zero_le _⟩ (pre_pure) rfl hl.1 rfl (Nat.le_of_ble_eq_true rfl) z_m_verb_59 (fun r_35 h_36 => ?_)
        rcases h_36 with ⟨rfl, h_36⟩ | ⟨rfl, h_36⟩
        · refine lv_if_ne (tgt := 69) hx hb z_m_verb_62 (by decide) (fun _ => ?_) (fun c9 => absurd c9 (by decide))
          refine lv_iconst (v := 0) hx hb z_m_verb_69 (by decide) ?_
          refine lv_iconst (v := 0) hx hb z_m_verb_70 (by decide) ?_
          refine lv_iconst (v := 0) hx hb z_m_verb_71 (by decide) ?_
          refine wrVi (As := [.int 1, .int 0, .int 0, .int 0]) (rest := []) (wf := fun u : St × Int32 × Int32 × Int64 => wM o cI cZ cL u.1 u.2.1 u.2.2.1 u.2.2.2) ⟨hx, hb, hml, hown, hts⟩ (c_m_throwing l dC dI o cI cZ cL v th ch cd s.heap.size 1 0 0 0) mw_554 mw_551 mw_553 mp_27 mw_6 rfl yd_m_throwing ⟨⟨rfl, rfl⟩, Nat.le_of_ble_eq_true rfl, Nat.le_of_ble_eq_true rfl⟩ ⟨Nat.le_of_ble_eq_true rfl, Nat.le_of_ble_eq_true rfl⟩ (WrC.preV hP hK hD hN (ci := 4) (q0 := 0) rfl rfl) (wr_free hD hS hA) hS rfl hl.1 rfl (Nat.le_of_ble_eq_true rfl) z_m_verb_72 (fun r_37 u_38 H locs h_39 hP hD hS hz9 => ?_)
          obtain ⟨rfl, rfl⟩ : r_37 = 1 ∧ u_38 = (v, 1, ch, cd) := ⟨h_39.1.trans (by decide), h_39.2.trans (by rw [show thF 1 0 0 0 = 1 from by decide])⟩
          have hP : va_P (dC, dI) vwCl (wM o cI cZ cL v 1 ch cd) H := hP
          have hD : va_D A (wM o cI cZ cL v 1 ch cd) := hD
          refine lv_if_eq (tgt := 79) hx hb z_m_verb_75 (by decide) (fun c9 => absurd c9 (by decide)) (fun _ => ?_)
          exact W.vret hx hb hr (fun t ht hW => ⟨⟨(v, 1, ch, cd), rfl, ⟨1, rfl, Or.inl ⟨rfl, rfl, fun h => h_4 (k7_iff.mpr h.2.1)⟩⟩, by rw [ht]; exact hP, va_K.moved hW.alike hK, hD⟩, hS.F ht⟩) hS.2.2 z_m_verb_78
        · refine lv_if_ne (tgt := 69) hx hb z_m_verb_62 (by decide) (fun c9 => absurd rfl c9) (fun _ => ?_)
          refine lv_iconst (v := 1) hx hb z_m_verb_65 (by decide) ?_
          refine lv_goto (tgt := 70) hx hb z_m_verb_66 (by decide) ?_
          refine lv_iconst (v := 0) hx hb z_m_verb_70 (by decide) ?_
          refine lv_iconst (v := 0) hx hb z_m_verb_71 (by decide) ?_
          refine wrVi (As := [.int 1, .int 1, .int 0, .int 0]) (rest := []) (wf := fun u : St × Int32 × Int32 × Int64 => wM o cI cZ cL u.1 u.2.1 u.2.2.1 u.2.2.2) ⟨hx, hb, hml, hown, hts⟩ (c_m_throwing l dC dI o cI cZ cL v th ch cd s.heap.size 1 1 0 0) mw_554 mw_551 mw_553 mp_27 mw_6 rfl yd_m_throwing ⟨⟨rfl, rfl⟩, Nat.le_of_ble_eq_true rfl, Nat.le_of_ble_eq_true rfl⟩ ⟨Nat.le_of_ble_eq_true rfl, Nat.le_of_ble_eq_true rfl⟩ (WrC.preV hP hK hD hN (ci := 4) (q0 := 0) rfl rfl) (wr_free hD hS hA) hS rfl hl.1 rfl (Nat.le_of_ble_eq_true rfl) z_m_verb_72 (fun r_40 u_41 H locs h_42 hP hD hS hz9 => ?_)
          obtain ⟨rfl, rfl⟩ : r_40 = 1 ∧ u_41 = (v, 1, ch, cd) := ⟨h_42.1.trans (by decide), h_42.2.trans (by rw [show thF 1 1 0 0 = 1 from by decide])⟩
          have hP : va_P (dC, dI) vwCl (wM o cI cZ cL v 1 ch cd) H := hP
          have hD : va_D A (wM o cI cZ cL v 1 ch cd) := hD
          refine lv_if_eq (tgt := 79) hx hb z_m_verb_75 (by decide) (fun c9 => absurd c9 (by decide)) (fun _ => ?_)
          exact W.vret hx hb hr (fun t ht hW => ⟨⟨(v, 1, ch, cd), rfl, ⟨1, rfl, Or.inl ⟨rfl, rfl, fun h => h_4 (k7_iff.mpr h.2.1)⟩⟩, by rw [ht]; exact hP, va_K.moved hW.alike hK, hD⟩, hS.F ht⟩) hS.2.2 z_m_verb_78
      · refine lv_if_eq (tgt := 65) hx hb z_m_verb_48 (by decide) (fun _ => ?_) (fun c9 => absurd (by decide) c9)
        refine lv_iconst (v := 1) hx hb z_m_verb_65 (by decide) ?_
        refine lv_goto (tgt := 70) hx hb z_m_verb_66 (by decide) ?_
        refine lv_iconst (v := 0) hx hb z_m_verb_70 (by decide) ?_
        refine lv_iconst (v := 0) hx hb z_m_verb_71 (by decide) ?_
        refine wrVi (As := [.int 1, .int 1, .int 0, .int 0]) (rest := []) (wf := fun u : St × Int32 × Int32 × Int64 => wM o cI cZ cL u.1 u.2.1 u.2.2.1 u.2.2.2) ⟨hx, hb, hml, hown, hts⟩ (c_m_throwing l dC dI o cI cZ cL v th ch cd s.heap.size 1 1 0 0) mw_554 mw_551 mw_553 mp_27 mw_6 rfl yd_m_throwing ⟨⟨rfl, rfl⟩, Nat.le_of_ble_eq_true rfl, Nat.le_of_ble_eq_true rfl⟩ ⟨Nat.le_of_ble_eq_true rfl, Nat.le_of_ble_eq_true rfl⟩ (WrC.preV hP hK hD hN (ci := 4) (q0 := 0) rfl rfl) (wr_free hD hS hA) hS rfl hl.1 rfl (Nat.le_of_ble_eq_true rfl) z_m_verb_72 (fun r_43 u_44 H locs h_45 hP hD hS hz9 => ?_)
        obtain ⟨rfl, rfl⟩ : r_43 = 1 ∧ u_44 = (v, 1, ch, cd) := ⟨h_45.1.trans (by decide), h_45.2.trans (by rw [show thF 1 1 0 0 = 1 from by decide])⟩
        have hP : va_P (dC, dI) vwCl (wM o cI cZ cL v 1 ch cd) H := hP
        have hD : va_D A (wM o cI cZ cL v 1 ch cd) := hD
        refine lv_if_eq (tgt := 79) hx hb z_m_verb_75 (by decide) (fun c9 => absurd c9 (by decide)) (fun _ => ?_)
        exact W.vret hx hb hr (fun t ht hW => ⟨⟨(v, 1, ch, cd), rfl, ⟨1, rfl, Or.inl ⟨rfl, rfl, fun h => h_4 (k7_iff.mpr h.2.1)⟩⟩, by rw [ht]; exact hP, va_K.moved hW.alike hK, hD⟩, hS.F ht⟩) hS.2.2 z_m_verb_78
  · refine lv_if_eq (tgt := 27) hx hb z_m_verb_4 (by decide) (fun _ => ?_) (fun c9 => absurd (by decide) c9)
    refine lv_iconst (v := 1) hx hb z_m_verb_27 (by decide) ?_
    refine lv_goto (tgt := 32) hx hb z_m_verb_28 (by decide) ?_
    refine lv_istore (lv' := [(6, .int 1), (0, .ref (o 0)), (1, .int x), (2, .int y), (3, .int z), (4, .int a), (5, .int b)]) hx hb z_m_verb_32 hl (by decide) rfl (fun ls hl => ?_)
    refine lv_aload_n hx hb z_m_verb_34 rfl (lv_at hl 1 rfl) ?_
    refine lv_iload hx hb z_m_verb_35 (lv_at hl 0 rfl) ?_
    refine lv_iload hx hb z_m_verb_37 (lv_at hl 5 rfl) ?_
    refine lv_sipush (v := (-1000)) hx hb z_m_verb_39 (by decide) ?_
    refine lv_sipush (v := 1000) hx hb z_m_verb_42 (by decide) ?_
    refine rdSi (As := [.int a, .int (-1000), .int 1000]) (rest := [.int 1, .ref (o 0)]) ⟨hx, hb, hml, hown, hts⟩ (c_m_in l a (-1000) 1000) mw_546 mw_544 mw_545 mw_6 yd_m_in ⟨⟨rfl, rfl⟩, Nat.le_of_ble_eq_true rfl, Nat.le_of_ble_eq_true rfl⟩ ⟨Nat.zero_le _, Nat.zero_le _⟩ (pre_pure) rfl hl.1 rfl (Nat.le_of_ble_eq_true rfl) z_m_verb_45 (fun r_46 h_47 => ?_)
    rcases h_47 with ⟨rfl, h_47⟩ | ⟨rfl, h_47⟩
    · refine lv_if_eq (tgt := 65) hx hb z_m_verb_48 (by decide) (fun c9 => absurd c9 (by decide)) (fun _ => ?_)
      refine lv_iload hx hb z_m_verb_51 (lv_at hl 6 rfl) ?_
      refine lv_sipush (v := (-1000)) hx hb z_m_verb_53 (by decide) ?_
      refine lv_sipush (v := 1000) hx hb z_m_verb_56 (by decide) ?_
      refine rdSi (As := [.int b, .int (-1000), .int 1000]) (rest := [.int 1, .ref (o 0)]) ⟨hx, hb, hml, hown, hts⟩ (c_m_in l b (-1000) 1000) mw_546 mw_544 mw_545 mw_6 yd_m_in ⟨⟨rfl, rfl⟩, Nat.le_of_ble_eq_true rfl, Nat.le_of_ble_eq_true rfl⟩ ⟨Nat.zero_le _, Nat.zero_le _⟩ (pre_pure) rfl hl.1 rfl (Nat.le_of_ble_eq_true rfl) z_m_verb_59 (fun r_48 h_49 => ?_)
      rcases h_49 with ⟨rfl, h_49⟩ | ⟨rfl, h_49⟩
      · refine lv_if_ne (tgt := 69) hx hb z_m_verb_62 (by decide) (fun _ => ?_) (fun c9 => absurd c9 (by decide))
        refine lv_iconst (v := 0) hx hb z_m_verb_69 (by decide) ?_
        refine lv_iconst (v := 0) hx hb z_m_verb_70 (by decide) ?_
        refine lv_iconst (v := 0) hx hb z_m_verb_71 (by decide) ?_
        refine wrVi (As := [.int 1, .int 0, .int 0, .int 0]) (rest := []) (wf := fun u : St × Int32 × Int32 × Int64 => wM o cI cZ cL u.1 u.2.1 u.2.2.1 u.2.2.2) ⟨hx, hb, hml, hown, hts⟩ (c_m_throwing l dC dI o cI cZ cL v th ch cd s.heap.size 1 0 0 0) mw_554 mw_551 mw_553 mp_27 mw_6 rfl yd_m_throwing ⟨⟨rfl, rfl⟩, Nat.le_of_ble_eq_true rfl, Nat.le_of_ble_eq_true rfl⟩ ⟨Nat.le_of_ble_eq_true rfl, Nat.le_of_ble_eq_true rfl⟩ (WrC.preV hP hK hD hN (ci := 4) (q0 := 0) rfl rfl) (wr_free hD hS hA) hS rfl hl.1 rfl (Nat.le_of_ble_eq_true rfl) z_m_verb_72 (fun r_50 u_51 H locs h_52 hP hD hS hz9 => ?_)
        obtain ⟨rfl, rfl⟩ : r_50 = 1 ∧ u_51 = (v, 1, ch, cd) := ⟨h_52.1.trans (by decide), h_52.2.trans (by rw [show thF 1 0 0 0 = 1 from by decide])⟩
        have hP : va_P (dC, dI) vwCl (wM o cI cZ cL v 1 ch cd) H := hP
        have hD : va_D A (wM o cI cZ cL v 1 ch cd) := hD
        refine lv_if_eq (tgt := 79) hx hb z_m_verb_75 (by decide) (fun c9 => absurd c9 (by decide)) (fun _ => ?_)
        exact W.vret hx hb hr (fun t ht hW => ⟨⟨(v, 1, ch, cd), rfl, ⟨1, rfl, Or.inl ⟨rfl, rfl, fun h => h_2 h.1⟩⟩, by rw [ht]; exact hP, va_K.moved hW.alike hK, hD⟩, hS.F ht⟩) hS.2.2 z_m_verb_78
      · refine lv_if_ne (tgt := 69) hx hb z_m_verb_62 (by decide) (fun c9 => absurd rfl c9) (fun _ => ?_)
        refine lv_iconst (v := 1) hx hb z_m_verb_65 (by decide) ?_
        refine lv_goto (tgt := 70) hx hb z_m_verb_66 (by decide) ?_
        refine lv_iconst (v := 0) hx hb z_m_verb_70 (by decide) ?_
        refine lv_iconst (v := 0) hx hb z_m_verb_71 (by decide) ?_
        refine wrVi (As := [.int 1, .int 1, .int 0, .int 0]) (rest := []) (wf := fun u : St × Int32 × Int32 × Int64 => wM o cI cZ cL u.1 u.2.1 u.2.2.1 u.2.2.2) ⟨hx, hb, hml, hown, hts⟩ (c_m_throwing l dC dI o cI cZ cL v th ch cd s.heap.size 1 1 0 0) mw_554 mw_551 mw_553 mp_27 mw_6 rfl yd_m_throwing ⟨⟨rfl, rfl⟩, Nat.le_of_ble_eq_true rfl, Nat.le_of_ble_eq_true rfl⟩ ⟨Nat.le_of_ble_eq_true rfl, Nat.le_of_ble_eq_true rfl⟩ (WrC.preV hP hK hD hN (ci := 4) (q0 := 0) rfl rfl) (wr_free hD hS hA) hS rfl hl.1 rfl (Nat.le_of_ble_eq_true rfl) z_m_verb_72 (fun r_53 u_54 H locs h_55 hP hD hS hz9 => ?_)
        obtain ⟨rfl, rfl⟩ : r_53 = 1 ∧ u_54 = (v, 1, ch, cd) := ⟨h_55.1.trans (by decide), h_55.2.trans (by rw [show thF 1 1 0 0 = 1 from by decide])⟩
        have hP : va_P (dC, dI) vwCl (wM o cI cZ cL v 1 ch cd) H := hP
        have hD : va_D A (wM o cI cZ cL v 1 ch cd) := hD
        refine lv_if_eq (tgt := 79) hx hb z_m_verb_75 (by decide) (fun c9 => absurd c9 (by decide)) (fun _ => ?_)
        exact W.vret hx hb hr (fun t ht hW => ⟨⟨(v, 1, ch, cd), rfl, ⟨1, rfl, Or.inl ⟨rfl, rfl, fun h => h_2 h.1⟩⟩, by rw [ht]; exact hP, va_K.moved hW.alike hK, hD⟩, hS.F ht⟩) hS.2.2 z_m_verb_78
    · refine lv_if_eq (tgt := 65) hx hb z_m_verb_48 (by decide) (fun _ => ?_) (fun c9 => absurd (by decide) c9)
      refine lv_iconst (v := 1) hx hb z_m_verb_65 (by decide) ?_
      refine lv_goto (tgt := 70) hx hb z_m_verb_66 (by decide) ?_
      refine lv_iconst (v := 0) hx hb z_m_verb_70 (by decide) ?_
      refine lv_iconst (v := 0) hx hb z_m_verb_71 (by decide) ?_
      refine wrVi (As := [.int 1, .int 1, .int 0, .int 0]) (rest := []) (wf := fun u : St × Int32 × Int32 × Int64 => wM o cI cZ cL u.1 u.2.1 u.2.2.1 u.2.2.2) ⟨hx, hb, hml, hown, hts⟩ (c_m_throwing l dC dI o cI cZ cL v th ch cd s.heap.size 1 1 0 0) mw_554 mw_551 mw_553 mp_27 mw_6 rfl yd_m_throwing ⟨⟨rfl, rfl⟩, Nat.le_of_ble_eq_true rfl, Nat.le_of_ble_eq_true rfl⟩ ⟨Nat.le_of_ble_eq_true rfl, Nat.le_of_ble_eq_true rfl⟩ (WrC.preV hP hK hD hN (ci := 4) (q0 := 0) rfl rfl) (wr_free hD hS hA) hS rfl hl.1 rfl (Nat.le_of_ble_eq_true rfl) z_m_verb_72 (fun r_56 u_57 H locs h_58 hP hD hS hz9 => ?_)
      obtain ⟨rfl, rfl⟩ : r_56 = 1 ∧ u_57 = (v, 1, ch, cd) := ⟨h_58.1.trans (by decide), h_58.2.trans (by rw [show thF 1 1 0 0 = 1 from by decide])⟩
      have hP : va_P (dC, dI) vwCl (wM o cI cZ cL v 1 ch cd) H := hP
      have hD : va_D A (wM o cI cZ cL v 1 ch cd) := hD
      refine lv_if_eq (tgt := 79) hx hb z_m_verb_75 (by decide) (fun c9 => absurd c9 (by decide)) (fun _ => ?_)
      exact W.vret hx hb hr (fun t ht hW => ⟨⟨(v, 1, ch, cd), rfl, ⟨1, rfl, Or.inl ⟨rfl, rfl, fun h => h_2 h.1⟩⟩, by rw [ht]; exact hP, va_K.moved hW.alike hK, hD⟩, hS.F ht⟩) hS.2.2 z_m_verb_78

set_option maxHeartbeats 4000000 in
set_option maxRecDepth 100000 in
theorem c_m_change (l : Launch) (dC : Nat → ClassId) (dI : Nat → Nat → Nat) (o : Nat → Nat) (cI cZ cL : ClassId) (v : St) (th ch : Int32) (cd : Int64) (sz : Nat) (x0 : Int32) (x : Int64) : Met l y_m_change (Cond.code y_m_change b_m_change 4 (some .long) :: CW) { frames := 1, cells := 0, slots := 0, locals := 21 } (va_Pc [.ref (o 0), .int x0, .long x] (WrC (dC, dI) sz (wM o cI cZ cL v th ch cd) (tyM cI cZ cL))) (va_Ql (fun (r : Int64) (u : St × Int32 × Int32 × Int64) => ((-1000000000 ≤ x ∧ x ≤ 1000000000) ∧ r = x ∧ u = (v, th, x0, x)) ∨ (¬ (-1000000000 ≤ x ∧ x ≤ 1000000000) ∧ r = -9000000000009 ∧ u = (v, th, ch, cd))) (fun u => WrB (dC, dI) (wM o cI cZ cL u.1 u.2.1 u.2.2.1 u.2.2.2) (tyM cI cZ cL) (va_A (wM o cI cZ cL v th ch cd) sz)) (va_A (wM o cI cZ cL v th ch cd) sz)) 0 0 (va_A (wM o cI cZ cL v th ch cd) sz) := by
  refine cx_met (by decide) (Nat.le_of_ble_eq_true rfl) ?_
  intro p e s m below meth c hx hb hr hml hts hown hlocks hnm hC ls hl
  obtain ⟨hsz, hP, hK, hD0, hN⟩ := hC
  subst hsz
  have hD := hD0.self (sz := s.heap.size)
  generalize hAe : va_A (wM o cI cZ cL v th ch cd) s.heap.size = A at hD ⊢
  have hA : ∀ q9 : Nat, s.heap.size ≤ q9 → A q9 := fun q9 h => by rw [← hAe]; exact Or.inr h
  have hS : va_S A s.heap s.heap [] := va_S.rf
  have hown : s.vm.findClass "ServiceDeskModel" = some m.cls := hown
  have hl : lv_has ls 4 [(0, .ref (o 0)), (1, .int x0), (2, .long x)] := hl
  refine lv_lload_n hx hb z_m_change_0 rfl (lv_at hl 2 rfl) ?_
  refine rdSi (As := [.long x]) (rest := []) ⟨hx, hb, hml, hown, hts⟩ (c_m_isSum l x) mw_591 mw_589 mw_590 mw_6 yd_m_isSum ⟨⟨rfl, rfl⟩, Nat.le_of_ble_eq_true rfl, Nat.le_of_ble_eq_true rfl⟩ ⟨Nat.zero_le _, Nat.zero_le _⟩ (pre_pure) rfl hl.1 rfl (Nat.le_of_ble_eq_true rfl) z_m_change_1 (fun r_1 h_2 => ?_)
  rcases h_2 with ⟨rfl, h_2⟩ | ⟨rfl, h_2⟩
  · refine lv_if_ne (tgt := 11) hx hb z_m_change_4 (by decide) (fun _ => ?_) (fun c9 => absurd c9 (by decide))
    refine lv_aload_n hx hb z_m_change_11 rfl (lv_at hl 0 rfl) ?_
    refine lv_iload_n hx hb z_m_change_12 rfl (lv_at hl 1 rfl) ?_
    refine va_put (D := (dC, dI)) (ci := 4) (v := .int x0) (ty := .int) (C := R4) (T := T4) (N := 17) hx hb hts (cw_sub iC4) ty4 tyok4 nm4 hown hK hP hD hS 0 rfl rfl 15 (by decide) (hts _ (cw_in mw_495 rfl)) (fun _ h9 => h9) rfl (by decide +kernel) rfl rfl (Nat.le_of_ble_eq_true rfl) z_m_change_13 (fun H locs hP hD hS => ?_)
    have hP : va_P (dC, dI) vwCl (wM o cI cZ cL v th x0 cd) H := hP
    have hD : va_D A (wM o cI cZ cL v th x0 cd) := hD
    refine lv_aload_n hx hb z_m_change_16 rfl (lv_at hl 0 rfl) ?_
    refine lv_lload_n hx hb z_m_change_17 rfl (lv_at hl 2 rfl) ?_
    refine va_put (D := (dC, dI)) (ci := 4) (v := .long x) (ty := .long) (C := R4) (T := T4) (N := 17) hx hb hts (cw_sub iC4) ty4 tyok4 nm4 hown hK hP hD hS 0 rfl rfl 16 (by decide) (hts _ (cw_in mw_496 rfl)) (fun _ h9 => h9) rfl (by decide +kernel) rfl rfl (Nat.le_of_ble_eq_true rfl) z_m_change_18 (fun H locs hP hD hS => ?_)
    have hP : va_P (dC, dI) vwCl (wM o cI cZ cL v th x0 x) H := hP
    have hD : va_D A (wM o cI cZ cL v th x0 x) := hD
    refine lv_lload_n hx hb z_m_change_21 rfl (lv_at hl 2 rfl) ?_
    exact W.lret (v := x) hx hb hr (fun t ht hW => ⟨⟨x, (v, th, x0, x), rfl, Or.inl ⟨h_2, rfl, rfl⟩, by rw [ht]; exact hP, va_K.moved hW.alike hK, hD⟩, hS.F ht⟩) hS.2.2 z_m_change_22
  · refine lv_if_ne (tgt := 11) hx hb z_m_change_4 (by decide) (fun c9 => absurd rfl c9) (fun _ => ?_)
    refine lv_ldc2 (v := (-9000000000009)) hx hb hown (hts _ (cw_in mw_594 rfl)) z_m_change_7 ?_
    exact W.lret (v := (-9000000000009)) hx hb hr (fun t ht hW => ⟨⟨(-9000000000009), (v, th, ch, cd), rfl, Or.inr ⟨h_2, rfl, rfl⟩, by rw [ht]; exact hP, va_K.moved hW.alike hK, hD⟩, hS.F ht⟩) hS.2.2 z_m_change_10

set_option maxHeartbeats 4000000 in
set_option maxRecDepth 100000 in
theorem c_m_workOut (l : Launch) (dC : Nat → ClassId) (dI : Nat → Nat → Nat) (o : Nat → Nat) (cI cZ cL : ClassId) (v : St) (th ch : Int32) (cd : Int64) (sz : Nat) (hi : Inv v) (k j n : Nat) (hk : k < 8) (hj : j < mN v k) (hn : n < 8) (a : Int32) : Met l y_m_workOut (Cond.code y_m_workOut b_m_workOut 10 (some .long) :: CW) { frames := 2, cells := 0, slots := 0, locals := 46 } (va_Pc [.ref (o 0), .int (nI k), .int (nI j), .int (nI n), .int a] (WrC (dC, dI) sz (wM o cI cZ cL v th ch cd) (tyM cI cZ cL))) (va_Ql (fun (r : Int64) (u : St × Int32 × Int32 × Int64) => ∃ ch2 cd2, u = (v, th, ch2, cd2) ∧ r = anF v k j n a ∧ notd v k j n a ch2 cd2) (fun u => WrB (dC, dI) (wM o cI cZ cL u.1 u.2.1 u.2.2.1 u.2.2.2) (tyM cI cZ cL) (va_A (wM o cI cZ cL v th ch cd) sz)) (va_A (wM o cI cZ cL v th ch cd) sz)) 0 0 (va_A (wM o cI cZ cL v th ch cd) sz) := by
  refine cx_met (by decide) (Nat.le_of_ble_eq_true rfl) ?_
  intro p e s m below meth c hx hb hr hml hts hown hlocks hnm hC ls hl
  obtain ⟨hsz, hP, hK, hD0, hN⟩ := hC
  subst hsz
  have hD := hD0.self (sz := s.heap.size)
  generalize hAe : va_A (wM o cI cZ cL v th ch cd) s.heap.size = A at hD ⊢
  have hA : ∀ q9 : Nat, s.heap.size ≤ q9 → A q9 := fun q9 h => by rw [← hAe]; exact Or.inr h
  have hS : va_S A s.heap s.heap [] := va_S.rf
  have hown : s.vm.findClass "ServiceDeskModel" = some m.cls := hown
  have hl : lv_has ls 10 [(0, .ref (o 0)), (1, .int (nI k)), (2, .int (nI j)), (3, .int (nI n)), (4, .int a)] := hl
  have hM := (hi.mk k hk).1
  refine lv_bipush (v := 30) hx hb z_m_workOut_0 (by decide) ?_
  refine lv_iload_n hx hb z_m_workOut_2 rfl (lv_at hl 1 rfl) ?_
  refine lv_imul hx hb z_m_workOut_3 ?_
  refine lv_iload_n hx hb z_m_workOut_4 rfl (lv_at hl 2 rfl) ?_
  refine lv_iadd hx hb z_m_workOut_5 ?_
  rw [s30_nI]
  refine lv_istore (lv' := [(5, .int (nI (k * 30 + j))), (0, .ref (o 0)), (1, .int (nI k)), (2, .int (nI j)), (3, .int (nI n)), (4, .int a)]) hx hb z_m_workOut_6 hl (by decide) rfl (fun ls hl => ?_)
  refine lv_aload_n hx hb z_m_workOut_8 rfl (lv_at hl 1 rfl) ?_
  refine va_get (D := (dC, dI)) (ci := 4) (v := .ref (o 9)) (C := R4) (T := T4) (N := 17) hx hb hts (cw_sub iC4) hown hK hP 0 rfl rfl 9 (by decide) (hts _ (cw_in mw_489 rfl)) (fun _ h9 => h9) rfl z_m_workOut_9 ?_
  refine lv_bipush (v := 8) hx hb z_m_workOut_12 (by decide) ?_
  refine lv_iload_n hx hb z_m_workOut_14 rfl (lv_at hl 2 rfl) ?_
  refine lv_imul hx hb z_m_workOut_15 ?_
  refine lv_iload_n hx hb z_m_workOut_16 rfl (lv_at hl 4 rfl) ?_
  refine lv_iadd hx hb z_m_workOut_17 ?_
  rw [s8_nI]
  refine xa_i hx hb hK hP 9 0 rfl rfl (k := (k * 8 + n)) (y := zas v (k * 8 + n)) (by omega) (by decide) (rfl) z_m_workOut_18 ?_
  refine lv_i2l hx hb z_m_workOut_19 rfl ?_
  refine lv_lstore (lv' := [(6, .long ((zas v (k * 8 + n)).toInt64)), (5, .int (nI (k * 30 + j))), (0, .ref (o 0)), (1, .int (nI k)), (2, .int (nI j)), (3, .int (nI n)), (4, .int a)]) hx hb z_m_workOut_20 hl (by decide) rfl (fun ls hl => ?_)
  refine lv_aload_n hx hb z_m_workOut_22 rfl (lv_at hl 2 rfl) ?_
  refine va_get (D := (dC, dI)) (ci := 4) (v := .ref (o 10)) (C := R4) (T := T4) (N := 17) hx hb hts (cw_sub iC4) hown hK hP 0 rfl rfl 10 (by decide) (hts _ (cw_in mw_490 rfl)) (fun _ h9 => h9) rfl z_m_workOut_23 ?_
  refine lv_bipush (v := 8) hx hb z_m_workOut_26 (by decide) ?_
  refine lv_iload_n hx hb z_m_workOut_28 rfl (lv_at hl 3 rfl) ?_
  refine lv_imul hx hb z_m_workOut_29 ?_
  refine lv_iload_n hx hb z_m_workOut_30 rfl (lv_at hl 5 rfl) ?_
  refine lv_iadd hx hb z_m_workOut_31 ?_
  rw [s8_nI]
  refine xa_i hx hb hK hP 10 0 rfl rfl (k := (k * 8 + n)) (y := zbs v (k * 8 + n)) (by omega) (by decide) (rfl) z_m_workOut_32 ?_
  refine lv_i2l hx hb z_m_workOut_33 rfl ?_
  refine lv_lstore (lv' := [(8, .long ((zbs v (k * 8 + n)).toInt64)), (6, .long ((zas v (k * 8 + n)).toInt64)), (5, .int (nI (k * 30 + j))), (0, .ref (o 0)), (1, .int (nI k)), (2, .int (nI j)), (3, .int (nI n)), (4, .int a)]) hx hb z_m_workOut_34 hl (by decide) rfl (fun ls hl => ?_)
  refine lv_aload_n hx hb z_m_workOut_36 rfl (lv_at hl 3 rfl) ?_
  refine lv_iconst (v := (-1)) hx hb z_m_workOut_37 (by decide) ?_
  refine va_put (D := (dC, dI)) (ci := 4) (v := .int (-1)) (ty := .int) (C := R4) (T := T4) (N := 17) hx hb hts (cw_sub iC4) ty4 tyok4 nm4 hown hK hP hD hS 0 rfl rfl 15 (by decide) (hts _ (cw_in mw_495 rfl)) (fun _ h9 => h9) rfl (by decide +kernel) rfl rfl (Nat.le_of_ble_eq_true rfl) z_m_workOut_38 (fun H locs hP hD hS => ?_)
  have hP : va_P (dC, dI) vwCl (wM o cI cZ cL v th (-1) cd) H := hP
  have hD : va_D A (wM o cI cZ cL v th (-1) cd) := hD
  refine lv_aload_n hx hb z_m_workOut_41 rfl (lv_at hl 3 rfl) ?_
  refine va_get (D := (dC, dI)) (ci := 4) (v := .ref (o 8)) (C := R4) (T := T4) (N := 17) hx hb hts (cw_sub iC4) hown hK hP 0 rfl rfl 8 (by decide) (hts _ (cw_in mw_488 rfl)) (fun _ h9 => h9) rfl z_m_workOut_42 ?_
  refine lv_bipush (v := 8) hx hb z_m_workOut_45 (by decide) ?_
  refine lv_iload_n hx hb z_m_workOut_47 rfl (lv_at hl 4 rfl) ?_
  refine lv_imul hx hb z_m_workOut_48 ?_
  refine lv_iload_n hx hb z_m_workOut_49 rfl (lv_at hl 6 rfl) ?_
  refine lv_iadd hx hb z_m_workOut_50 ?_
  rw [s8_nI]
  refine xa_i hx hb hK hP 8 0 rfl rfl (k := (k * 8 + n)) (y := zmd v (k * 8 + n)) (by omega) (by decide) (rfl) z_m_workOut_51 ?_
  rcases md8 hi (show k * 8 + n < 64 by omega) with e9 | e9 | e9 | e9 | e9 | e9 | e9 | e9
  · rw [e9]
    refine lv_tableOut (tgt := 243) hx hb z_m_workOut_52 (by decide) (by decide) ?_
    refine lv_aload_n hx hb z_m_workOut_243 rfl (lv_at hl 3 rfl) ?_
    refine lv_iload_n hx hb z_m_workOut_244 rfl (lv_at hl 4 rfl) ?_
    refine lv_iload_n hx hb z_m_workOut_245 rfl (lv_at hl 5 rfl) ?_
    refine rdVi (As := [.int (nI k), .int (nI j)]) (rest := []) ⟨hx, hb, hml, hown, hts⟩ (c_m_openUnder l dC dI o cI cZ cL v th (-1) cd hi (nI k) (nI j)) mw_602 mw_599 mw_601 mp_33 mw_6 rfl yd_m_openUnder ⟨⟨rfl, rfl⟩, Nat.le_of_ble_eq_true rfl, Nat.le_of_ble_eq_true rfl⟩ ⟨Nat.zero_le _, Nat.zero_le _⟩ (RdC.preV hP hK hN (ci := 4) (q0 := 0) rfl rfl) rfl hl.1 rfl (Nat.le_of_ble_eq_true rfl) z_m_workOut_246 (fun r_1 h_2 => ?_)
    subst h_2
    refine lv_if_le (tgt := 258) hx hb z_m_workOut_249 (by decide) (fun c_249 => ?_) (fun c_249 => ?_)
    · refine lv_aload_n hx hb z_m_workOut_258 rfl (lv_at hl 3 rfl) ?_
      refine lv_iload_n hx hb z_m_workOut_259 rfl (lv_at hl 4 rfl) ?_
      refine rdVi (As := [.int (nI k)]) (rest := []) ⟨hx, hb, hml, hown, hts⟩ (c_m_openOf l dC dI o cI cZ cL v th (-1) cd hi k hk) mw_607 mw_604 mw_606 mp_34 mw_6 rfl yd_m_openOf ⟨⟨rfl, rfl⟩, Nat.le_of_ble_eq_true rfl, Nat.le_of_ble_eq_true rfl⟩ ⟨Nat.zero_le _, Nat.zero_le _⟩ (RdC.preV hP hK hN (ci := 4) (q0 := 0) rfl rfl) rfl hl.1 rfl (Nat.le_of_ble_eq_true rfl) z_m_workOut_260 (fun r_3 h_4 => ?_)
      subst h_4
      refine lv_iconst (v := 1) hx hb z_m_workOut_263 (by decide) ?_
      refine lv_isub hx hb z_m_workOut_264 ?_
      refine lv_i2l hx hb z_m_workOut_265 rfl ?_
      exact W.lret (v := ((nI (opC v k (mN v k))) - 1).toInt64) hx hb hr (fun t ht hW => ⟨⟨((nI (opC v k (mN v k))) - 1).toInt64, (v, th, (-1), cd), rfl, ⟨(-1), cd, rfl, by rw [anF_7 (Or.inl e9), if_neg (npos_of_le (by have := onC_le (v := v) (x := nI k) (a := nI j) hi 8 (by omega); omega) c_249)], nd_o e9 (by decide) (by decide)⟩, by rw [ht]; exact hP, va_K.moved hW.alike hK, hD⟩, hS.F ht⟩) hS.2.2 z_m_workOut_266
    · refine lv_ldc2 (v := (-9000000000012)) hx hb hown (hts _ (cw_in mw_603 rfl)) z_m_workOut_252 ?_
      refine lv_goto (tgt := 266) hx hb z_m_workOut_255 (by decide) ?_
      exact W.lret (v := (-9000000000012)) hx hb hr (fun t ht hW => ⟨⟨(-9000000000012), (v, th, (-1), cd), rfl, ⟨(-1), cd, rfl, by rw [anF_7 (Or.inl e9), if_pos (pos_of_nle c_249)], nd_o e9 (by decide) (by decide)⟩, by rw [ht]; exact hP, va_K.moved hW.alike hK, hD⟩, hS.F ht⟩) hS.2.2 z_m_workOut_266
  · rw [e9]
    refine lv_tableIn (tgt := 92) hx hb z_m_workOut_52 (by decide) (by decide) rfl (by decide) ?_
    refine lv_lload hx hb z_m_workOut_92 (lv_at hl 1 rfl) ?_
    refine lv_iload_n hx hb z_m_workOut_94 rfl (lv_at hl 5 rfl) ?_
    refine lv_i2l hx hb z_m_workOut_95 rfl ?_
    refine lv_lmul hx hb z_m_workOut_96 ?_
    refine lv_lload hx hb z_m_workOut_97 (lv_at hl 0 rfl) ?_
    refine lv_ladd hx hb z_m_workOut_99 ?_
    exact W.lret (v := (((zas v (k * 8 + n)).toInt64) * ((nI j).toInt64)) + ((zbs v (k * 8 + n)).toInt64)) hx hb hr (fun t ht hW => ⟨⟨(((zas v (k * 8 + n)).toInt64) * ((nI j).toInt64)) + ((zbs v (k * 8 + n)).toInt64), (v, th, (-1), cd), rfl, ⟨(-1), cd, rfl, (anF_1 e9).symm, nd_o e9 (by decide) (by decide)⟩, by rw [ht]; exact hP, va_K.moved hW.alike hK, hD⟩, hS.F ht⟩) hS.2.2 z_m_workOut_100
  · rw [e9]
    refine lv_tableIn (tgt := 101) hx hb z_m_workOut_52 (by decide) (by decide) rfl (by decide) ?_
    refine lv_aload_n hx hb z_m_workOut_101 rfl (lv_at hl 3 rfl) ?_
    refine lv_iload hx hb z_m_workOut_102 (lv_at hl 2 rfl) ?_
    refine lv_aload_n hx hb z_m_workOut_104 rfl (lv_at hl 3 rfl) ?_
    refine va_get (D := (dC, dI)) (ci := 4) (v := .ref (o 5)) (C := R4) (T := T4) (N := 17) hx hb hts (cw_sub iC4) hown hK hP 0 rfl rfl 5 (by decide) (hts _ (cw_in mw_485 rfl)) (fun _ h9 => h9) rfl z_m_workOut_105 ?_
    refine lv_iload hx hb z_m_workOut_108 (lv_at hl 2 rfl) ?_
    refine xa_l hx hb hK hP 5 2 rfl rfl (k := (k * 30 + j)) (y := (zsm v (k * 30 + j)).toInt64) (by omega) (by decide) (rfl) z_m_workOut_110 ?_
    refine lv_iload hx hb z_m_workOut_111 (lv_at hl 7 rfl) ?_
    refine lv_i2l hx hb z_m_workOut_113 rfl ?_
    refine lv_lload hx hb z_m_workOut_114 (lv_at hl 1 rfl) ?_
    refine lv_lmul hx hb z_m_workOut_116 ?_
    refine lv_ladd hx hb z_m_workOut_117 ?_
    refine lv_lload hx hb z_m_workOut_118 (lv_at hl 0 rfl) ?_
    refine lv_ladd hx hb z_m_workOut_120 ?_
    refine wrVl (As := [.int (nI (k * 30 + j)), .long ((((zsm v (k * 30 + j)).toInt64) + (a.toInt64 * ((zas v (k * 8 + n)).toInt64))) + ((zbs v (k * 8 + n)).toInt64))]) (rest := []) (wf := fun u : St × Int32 × Int32 × Int64 => wM o cI cZ cL u.1 u.2.1 u.2.2.1 u.2.2.2) ⟨hx, hb, hml, hown, hts⟩ (c_m_change l dC dI o cI cZ cL v th (-1) cd H.size (nI (k * 30 + j)) ((((zsm v (k * 30 + j)).toInt64) + (a.toInt64 * ((zas v (k * 8 + n)).toInt64))) + ((zbs v (k * 8 + n)).toInt64))) mw_588 mw_585 mw_587 mp_32 mw_6 rfl yd_m_change ⟨⟨rfl, rfl⟩, Nat.le_of_ble_eq_true rfl, Nat.le_of_ble_eq_true rfl⟩ ⟨Nat.le_of_ble_eq_true rfl, Nat.le_of_ble_eq_true rfl⟩ (WrC.preV hP hK hD hN (ci := 4) (q0 := 0) rfl rfl) (wr_free hD hS hA) hS rfl hl.1 rfl (Nat.le_of_ble_eq_true rfl) z_m_workOut_121 (fun r_5 u_6 H locs h_7 hP hD hS hz9 => ?_)
    rcases h_7 with ⟨h8, rfl, rfl⟩ | ⟨h8, rfl, rfl⟩
    · have hP : va_P (dC, dI) vwCl (wM o cI cZ cL v th (nI (k * 30 + j)) ((((zsm v (k * 30 + j)).toInt64) + (a.toInt64 * ((zas v (k * 8 + n)).toInt64))) + ((zbs v (k * 8 + n)).toInt64))) H := hP
      have hD : va_D A (wM o cI cZ cL v th (nI (k * 30 + j)) ((((zsm v (k * 30 + j)).toInt64) + (a.toInt64 * ((zas v (k * 8 + n)).toInt64))) + ((zbs v (k * 8 + n)).toInt64))) := hD
      exact W.lret (v := (((zsm v (k * 30 + j)).toInt64) + (a.toInt64 * ((zas v (k * 8 + n)).toInt64))) + ((zbs v (k * 8 + n)).toInt64)) hx hb hr (fun t ht hW => ⟨⟨(((zsm v (k * 30 + j)).toInt64) + (a.toInt64 * ((zas v (k * 8 + n)).toInt64))) + ((zbs v (k * 8 + n)).toInt64), (v, th, nI (k * 30 + j), (((zsm v (k * 30 + j)).toInt64) + (a.toInt64 * ((zas v (k * 8 + n)).toInt64))) + ((zbs v (k * 8 + n)).toInt64)), rfl, ⟨nI (k * 30 + j), (((zsm v (k * 30 + j)).toInt64) + (a.toInt64 * ((zas v (k * 8 + n)).toInt64))) + ((zbs v (k * 8 + n)).toInt64), rfl, by rw [anF_2 e9, su_yes h8], Or.inr ⟨k * 30 + j, by omega, rfl, by rw [anF_2 e9, su_yes h8], by rw [anF_2 e9, su_yes h8]; exact h8, Or.inl ⟨e9, rfl⟩⟩⟩, by rw [ht]; exact hP, va_K.moved hW.alike hK, hD⟩, hS.F ht⟩) hS.2.2 z_m_workOut_124
    · have hP : va_P (dC, dI) vwCl (wM o cI cZ cL v th (-1) cd) H := hP
      have hD : va_D A (wM o cI cZ cL v th (-1) cd) := hD
      exact W.lret (v := (-9000000000009)) hx hb hr (fun t ht hW => ⟨⟨(-9000000000009), (v, th, (-1), cd), rfl, ⟨(-1), cd, rfl, by rw [anF_2 e9, su_no h8], Or.inl ⟨rfl, Or.inr (by rw [anF_2 e9, su_no h8]; decide)⟩⟩, by rw [ht]; exact hP, va_K.moved hW.alike hK, hD⟩, hS.F ht⟩) hS.2.2 z_m_workOut_124
  · rw [e9]
    refine lv_tableIn (tgt := 125) hx hb z_m_workOut_52 (by decide) (by decide) rfl (by decide) ?_
    refine lv_aload_n hx hb z_m_workOut_125 rfl (lv_at hl 3 rfl) ?_
    refine va_get (D := (dC, dI)) (ci := 4) (v := .ref (o 5)) (C := R4) (T := T4) (N := 17) hx hb hts (cw_sub iC4) hown hK hP 0 rfl rfl 5 (by decide) (hts _ (cw_in mw_485 rfl)) (fun _ h9 => h9) rfl z_m_workOut_126 ?_
    refine lv_iload hx hb z_m_workOut_129 (lv_at hl 2 rfl) ?_
    refine xa_l hx hb hK hP 5 2 rfl rfl (k := (k * 30 + j)) (y := (zsm v (k * 30 + j)).toInt64) (by omega) (by decide) (rfl) z_m_workOut_131 ?_
    refine lv_lload hx hb z_m_workOut_132 (lv_at hl 1 rfl) ?_
    refine lv_lmul hx hb z_m_workOut_134 ?_
    refine lv_lload hx hb z_m_workOut_135 (lv_at hl 0 rfl) ?_
    refine lv_ladd hx hb z_m_workOut_137 ?_
    refine lv_iload hx hb z_m_workOut_138 (lv_at hl 7 rfl) ?_
    refine lv_i2l hx hb z_m_workOut_140 rfl ?_
    refine lv_ladd hx hb z_m_workOut_141 ?_
    exact W.lret (v := ((((zsm v (k * 30 + j)).toInt64) * ((zas v (k * 8 + n)).toInt64)) + ((zbs v (k * 8 + n)).toInt64)) + a.toInt64) hx hb hr (fun t ht hW => ⟨⟨((((zsm v (k * 30 + j)).toInt64) * ((zas v (k * 8 + n)).toInt64)) + ((zbs v (k * 8 + n)).toInt64)) + a.toInt64, (v, th, (-1), cd), rfl, ⟨(-1), cd, rfl, (anF_3 e9).symm, nd_o e9 (by decide) (by decide)⟩, by rw [ht]; exact hP, va_K.moved hW.alike hK, hD⟩, hS.F ht⟩) hS.2.2 z_m_workOut_142
  · rw [e9]
    refine lv_tableIn (tgt := 143) hx hb z_m_workOut_52 (by decide) (by decide) rfl (by decide) ?_
    refine lv_ldc2 (v := (-9000000000001)) hx hb hown (hts _ (cw_in mw_595 rfl)) z_m_workOut_143 ?_
    refine lv_lload hx hb z_m_workOut_146 (lv_at hl 1 rfl) ?_
    refine lv_ldc2 (v := 7) hx hb hown (hts _ (cw_in mw_596 rfl)) z_m_workOut_148 ?_
    refine lv_land hx hb z_m_workOut_151 ?_
    refine lv_lsub hx hb z_m_workOut_152 ?_
    exact W.lret (v := (-9000000000001) - (((zas v (k * 8 + n)).toInt64) &&& 7)) hx hb hr (fun t ht hW => ⟨⟨(-9000000000001) - (((zas v (k * 8 + n)).toInt64) &&& 7), (v, th, (-1), cd), rfl, ⟨(-1), cd, rfl, by rw [anF_4 e9]; exact an4 _, nd_o e9 (by decide) (by decide)⟩, by rw [ht]; exact hP, va_K.moved hW.alike hK, hD⟩, hS.F ht⟩) hS.2.2 z_m_workOut_153
  · rw [e9]
    refine lv_tableIn (tgt := 154) hx hb z_m_workOut_52 (by decide) (by decide) rfl (by decide) ?_
    refine lv_iload hx hb z_m_workOut_154 (lv_at hl 7 rfl) ?_
    refine lv_if_ne (tgt := 165) hx hb z_m_workOut_156 (by decide) (fun c_156 => ?_) (fun c_156 => ?_)
    · refine lv_aload_n hx hb z_m_workOut_165 rfl (lv_at hl 3 rfl) ?_
      refine va_get (D := (dC, dI)) (ci := 4) (v := .ref (o 5)) (C := R4) (T := T4) (N := 17) hx hb hts (cw_sub iC4) hown hK hP 0 rfl rfl 5 (by decide) (hts _ (cw_in mw_485 rfl)) (fun _ h9 => h9) rfl z_m_workOut_166 ?_
      refine lv_iload hx hb z_m_workOut_169 (lv_at hl 2 rfl) ?_
      refine xa_l hx hb hK hP 5 2 rfl rfl (k := (k * 30 + j)) (y := (zsm v (k * 30 + j)).toInt64) (by omega) (by decide) (rfl) z_m_workOut_171 ?_
      refine lv_iload hx hb z_m_workOut_172 (lv_at hl 7 rfl) ?_
      refine lv_i2l hx hb z_m_workOut_174 rfl ?_
      refine lv_ldiv hx hb z_m_workOut_175 (i64_ne0 c_156) ?_
      refine lv_lload hx hb z_m_workOut_176 (lv_at hl 0 rfl) ?_
      refine lv_ladd hx hb z_m_workOut_178 ?_
      exact W.lret (v := (((zsm v (k * 30 + j)).toInt64) / a.toInt64) + ((zbs v (k * 8 + n)).toInt64)) hx hb hr (fun t ht hW => ⟨⟨(((zsm v (k * 30 + j)).toInt64) / a.toInt64) + ((zbs v (k * 8 + n)).toInt64), (v, th, (-1), cd), rfl, ⟨(-1), cd, rfl, by rw [anF_5 e9, if_neg c_156], nd_o e9 (by decide) (by decide)⟩, by rw [ht]; exact hP, va_K.moved hW.alike hK, hD⟩, hS.F ht⟩) hS.2.2 z_m_workOut_179
    · refine lv_ldc2 (v := (-9000000000010)) hx hb hown (hts _ (cw_in mw_597 rfl)) z_m_workOut_159 ?_
      refine lv_goto (tgt := 179) hx hb z_m_workOut_162 (by decide) ?_
      exact W.lret (v := (-9000000000010)) hx hb hr (fun t ht hW => ⟨⟨(-9000000000010), (v, th, (-1), cd), rfl, ⟨(-1), cd, rfl, by rw [anF_5 e9, if_pos c_156], nd_o e9 (by decide) (by decide)⟩, by rw [ht]; exact hP, va_K.moved hW.alike hK, hD⟩, hS.F ht⟩) hS.2.2 z_m_workOut_179
  · rw [e9]
    refine lv_tableIn (tgt := 180) hx hb z_m_workOut_52 (by decide) (by decide) rfl (by decide) ?_
    refine lv_aload_n hx hb z_m_workOut_180 rfl (lv_at hl 3 rfl) ?_
    refine va_get (D := (dC, dI)) (ci := 4) (v := .ref (o 1)) (C := R4) (T := T4) (N := 17) hx hb hts (cw_sub iC4) hown hK hP 0 rfl rfl 1 (by decide) (hts _ (cw_in mw_481 rfl)) (fun _ h9 => h9) rfl z_m_workOut_181 ?_
    refine lv_iload_n hx hb z_m_workOut_184 rfl (lv_at hl 4 rfl) ?_
    refine xa_i hx hb hK hP 1 0 rfl rfl (k := k) (y := zka v k) (hk) (by decide) (rfl) z_m_workOut_185 ?_
    refine lv_if_ge (tgt := 195) hx hb z_m_workOut_186 (by decide) (fun c_186 => ?_) (fun c_186 => ?_)
    · obtain ⟨k2, j2, hk2, hj2, e2, e3⟩ := (hi.ab k j hk hj).resolve_left (fun z => nneg_1 (Int32.not_lt.mpr c_186) z.1)
      have hM2 := (hi.mk k2 hk2).1
      obtain ⟨g1, g2, g3⟩ := an6_r (a := a) hi e9 hk2 hj2 e2 e3
      refine lv_aload_n hx hb z_m_workOut_195 rfl (lv_at hl 3 rfl) ?_
      refine lv_bipush (v := 30) hx hb z_m_workOut_196 (by decide) ?_
      refine lv_aload_n hx hb z_m_workOut_198 rfl (lv_at hl 3 rfl) ?_
      refine va_get (D := (dC, dI)) (ci := 4) (v := .ref (o 1)) (C := R4) (T := T4) (N := 17) hx hb hts (cw_sub iC4) hown hK hP 0 rfl rfl 1 (by decide) (hts _ (cw_in mw_481 rfl)) (fun _ h9 => h9) rfl z_m_workOut_199 ?_
      refine lv_iload_n hx hb z_m_workOut_202 rfl (lv_at hl 4 rfl) ?_
      refine xa_i hx hb hK hP 1 0 rfl rfl (k := k) (y := zka v k) (hk) (by decide) (rfl) z_m_workOut_203 ?_
      refine lv_imul hx hb z_m_workOut_204 ?_
      refine lv_aload_n hx hb z_m_workOut_205 rfl (lv_at hl 3 rfl) ?_
      refine va_get (D := (dC, dI)) (ci := 4) (v := .ref (o 3)) (C := R4) (T := T4) (N := 17) hx hb hts (cw_sub iC4) hown hK hP 0 rfl rfl 3 (by decide) (hts _ (cw_in mw_483 rfl)) (fun _ h9 => h9) rfl z_m_workOut_206 ?_
      refine lv_iload hx hb z_m_workOut_209 (lv_at hl 2 rfl) ?_
      refine xa_i hx hb hK hP 3 0 rfl rfl (k := (k * 30 + j)) (y := zab v (k * 30 + j)) (by omega) (by decide) (rfl) z_m_workOut_211 ?_
      refine lv_iadd hx hb z_m_workOut_212 ?_
      rw [show 30 * zka v k + zab v (k * 30 + j) = nI (k2 * 30 + j2) by rw [e2, e3, s30_nI]]
      refine lv_aload_n hx hb z_m_workOut_213 rfl (lv_at hl 3 rfl) ?_
      refine va_get (D := (dC, dI)) (ci := 4) (v := .ref (o 5)) (C := R4) (T := T4) (N := 17) hx hb hts (cw_sub iC4) hown hK hP 0 rfl rfl 5 (by decide) (hts _ (cw_in mw_485 rfl)) (fun _ h9 => h9) rfl z_m_workOut_214 ?_
      refine lv_bipush (v := 30) hx hb z_m_workOut_217 (by decide) ?_
      refine lv_aload_n hx hb z_m_workOut_219 rfl (lv_at hl 3 rfl) ?_
      refine va_get (D := (dC, dI)) (ci := 4) (v := .ref (o 1)) (C := R4) (T := T4) (N := 17) hx hb hts (cw_sub iC4) hown hK hP 0 rfl rfl 1 (by decide) (hts _ (cw_in mw_481 rfl)) (fun _ h9 => h9) rfl z_m_workOut_220 ?_
      refine lv_iload_n hx hb z_m_workOut_223 rfl (lv_at hl 4 rfl) ?_
      refine xa_i hx hb hK hP 1 0 rfl rfl (k := k) (y := zka v k) (hk) (by decide) (rfl) z_m_workOut_224 ?_
      refine lv_imul hx hb z_m_workOut_225 ?_
      refine lv_aload_n hx hb z_m_workOut_226 rfl (lv_at hl 3 rfl) ?_
      refine va_get (D := (dC, dI)) (ci := 4) (v := .ref (o 3)) (C := R4) (T := T4) (N := 17) hx hb hts (cw_sub iC4) hown hK hP 0 rfl rfl 3 (by decide) (hts _ (cw_in mw_483 rfl)) (fun _ h9 => h9) rfl z_m_workOut_227 ?_
      refine lv_iload hx hb z_m_workOut_230 (lv_at hl 2 rfl) ?_
      refine xa_i hx hb hK hP 3 0 rfl rfl (k := (k * 30 + j)) (y := zab v (k * 30 + j)) (by omega) (by decide) (rfl) z_m_workOut_232 ?_
      refine lv_iadd hx hb z_m_workOut_233 ?_
      rw [show 30 * zka v k + zab v (k * 30 + j) = nI (k2 * 30 + j2) by rw [e2, e3, s30_nI]]
      refine xa_l hx hb hK hP 5 2 rfl rfl (k := (k2 * 30 + j2)) (y := (zsm v (k2 * 30 + j2)).toInt64) (by omega) (by decide) (rfl) z_m_workOut_234 ?_
      refine lv_iload hx hb z_m_workOut_235 (lv_at hl 7 rfl) ?_
      refine lv_i2l hx hb z_m_workOut_237 rfl ?_
      refine lv_ladd hx hb z_m_workOut_238 ?_
      refine wrVl (As := [.int (nI (k2 * 30 + j2)), .long (((zsm v (k2 * 30 + j2)).toInt64) + a.toInt64)]) (rest := []) (wf := fun u : St × Int32 × Int32 × Int64 => wM o cI cZ cL u.1 u.2.1 u.2.2.1 u.2.2.2) ⟨hx, hb, hml, hown, hts⟩ (c_m_change l dC dI o cI cZ cL v th (-1) cd H.size (nI (k2 * 30 + j2)) (((zsm v (k2 * 30 + j2)).toInt64) + a.toInt64)) mw_588 mw_585 mw_587 mp_32 mw_6 rfl yd_m_change ⟨⟨rfl, rfl⟩, Nat.le_of_ble_eq_true rfl, Nat.le_of_ble_eq_true rfl⟩ ⟨Nat.le_of_ble_eq_true rfl, Nat.le_of_ble_eq_true rfl⟩ (WrC.preV hP hK hD hN (ci := 4) (q0 := 0) rfl rfl) (wr_free hD hS hA) hS rfl hl.1 rfl (Nat.le_of_ble_eq_true rfl) z_m_workOut_239 (fun r_8 u_9 H locs h_10 hP hD hS hz9 => ?_)
      rcases h_10 with ⟨h8, rfl, rfl⟩ | ⟨h8, rfl, rfl⟩
      · have hP : va_P (dC, dI) vwCl (wM o cI cZ cL v th (nI (k2 * 30 + j2)) (((zsm v (k2 * 30 + j2)).toInt64) + a.toInt64)) H := hP
        have hD : va_D A (wM o cI cZ cL v th (nI (k2 * 30 + j2)) (((zsm v (k2 * 30 + j2)).toInt64) + a.toInt64)) := hD
        exact W.lret (v := ((zsm v (k2 * 30 + j2)).toInt64) + a.toInt64) hx hb hr (fun t ht hW => ⟨⟨((zsm v (k2 * 30 + j2)).toInt64) + a.toInt64, (v, th, nI (k2 * 30 + j2), ((zsm v (k2 * 30 + j2)).toInt64) + a.toInt64), rfl, ⟨nI (k2 * 30 + j2), ((zsm v (k2 * 30 + j2)).toInt64) + a.toInt64, rfl, by rw [g1, su_yes h8], Or.inr ⟨k2 * 30 + j2, by omega, rfl, by rw [g1, su_yes h8], by rw [g1, su_yes h8]; exact h8, Or.inr ⟨e9, g3, g2.symm⟩⟩⟩, by rw [ht]; exact hP, va_K.moved hW.alike hK, hD⟩, hS.F ht⟩) hS.2.2 z_m_workOut_242
      · have hP : va_P (dC, dI) vwCl (wM o cI cZ cL v th (-1) cd) H := hP
        have hD : va_D A (wM o cI cZ cL v th (-1) cd) := hD
        exact W.lret (v := (-9000000000009)) hx hb hr (fun t ht hW => ⟨⟨(-9000000000009), (v, th, (-1), cd), rfl, ⟨(-1), cd, rfl, by rw [g1, su_no h8], Or.inl ⟨rfl, Or.inr (by rw [g1, su_no h8]; decide)⟩⟩, by rw [ht]; exact hP, va_K.moved hW.alike hK, hD⟩, hS.F ht⟩) hS.2.2 z_m_workOut_242
    · refine lv_ldc2 (v := (-9000000000011)) hx hb hown (hts _ (cw_in mw_598 rfl)) z_m_workOut_189 ?_
      refine lv_goto (tgt := 242) hx hb z_m_workOut_192 (by decide) ?_
      exact W.lret (v := (-9000000000011)) hx hb hr (fun t ht hW => ⟨⟨(-9000000000011), (v, th, (-1), cd), rfl, ⟨(-1), cd, rfl, by rw [anF_6 e9, if_pos (ka_neg hi hk (Int32.not_le.mp c_186))], Or.inl ⟨rfl, Or.inr (by rw [anF_6 e9, if_pos (ka_neg hi hk (Int32.not_le.mp c_186))]; decide)⟩⟩, by rw [ht]; exact hP, va_K.moved hW.alike hK, hD⟩, hS.F ht⟩) hS.2.2 z_m_workOut_242
  · rw [e9]
    refine lv_tableOut (tgt := 243) hx hb z_m_workOut_52 (by decide) (by decide) ?_
    refine lv_aload_n hx hb z_m_workOut_243 rfl (lv_at hl 3 rfl) ?_
    refine lv_iload_n hx hb z_m_workOut_244 rfl (lv_at hl 4 rfl) ?_
    refine lv_iload_n hx hb z_m_workOut_245 rfl (lv_at hl 5 rfl) ?_
    refine rdVi (As := [.int (nI k), .int (nI j)]) (rest := []) ⟨hx, hb, hml, hown, hts⟩ (c_m_openUnder l dC dI o cI cZ cL v th (-1) cd hi (nI k) (nI j)) mw_602 mw_599 mw_601 mp_33 mw_6 rfl yd_m_openUnder ⟨⟨rfl, rfl⟩, Nat.le_of_ble_eq_true rfl, Nat.le_of_ble_eq_true rfl⟩ ⟨Nat.zero_le _, Nat.zero_le _⟩ (RdC.preV hP hK hN (ci := 4) (q0 := 0) rfl rfl) rfl hl.1 rfl (Nat.le_of_ble_eq_true rfl) z_m_workOut_246 (fun r_11 h_12 => ?_)
    subst h_12
    refine lv_if_le (tgt := 258) hx hb z_m_workOut_249 (by decide) (fun c_249 => ?_) (fun c_249 => ?_)
    · refine lv_aload_n hx hb z_m_workOut_258 rfl (lv_at hl 3 rfl) ?_
      refine lv_iload_n hx hb z_m_workOut_259 rfl (lv_at hl 4 rfl) ?_
      refine rdVi (As := [.int (nI k)]) (rest := []) ⟨hx, hb, hml, hown, hts⟩ (c_m_openOf l dC dI o cI cZ cL v th (-1) cd hi k hk) mw_607 mw_604 mw_606 mp_34 mw_6 rfl yd_m_openOf ⟨⟨rfl, rfl⟩, Nat.le_of_ble_eq_true rfl, Nat.le_of_ble_eq_true rfl⟩ ⟨Nat.zero_le _, Nat.zero_le _⟩ (RdC.preV hP hK hN (ci := 4) (q0 := 0) rfl rfl) rfl hl.1 rfl (Nat.le_of_ble_eq_true rfl) z_m_workOut_260 (fun r_13 h_14 => ?_)
      subst h_14
      refine lv_iconst (v := 1) hx hb z_m_workOut_263 (by decide) ?_
      refine lv_isub hx hb z_m_workOut_264 ?_
      refine lv_i2l hx hb z_m_workOut_265 rfl ?_
      exact W.lret (v := ((nI (opC v k (mN v k))) - 1).toInt64) hx hb hr (fun t ht hW => ⟨⟨((nI (opC v k (mN v k))) - 1).toInt64, (v, th, (-1), cd), rfl, ⟨(-1), cd, rfl, by rw [anF_7 (Or.inr e9), if_neg (npos_of_le (by have := onC_le (v := v) (x := nI k) (a := nI j) hi 8 (by omega); omega) c_249)], nd_o e9 (by decide) (by decide)⟩, by rw [ht]; exact hP, va_K.moved hW.alike hK, hD⟩, hS.F ht⟩) hS.2.2 z_m_workOut_266
    · refine lv_ldc2 (v := (-9000000000012)) hx hb hown (hts _ (cw_in mw_603 rfl)) z_m_workOut_252 ?_
      refine lv_goto (tgt := 266) hx hb z_m_workOut_255 (by decide) ?_
      exact W.lret (v := (-9000000000012)) hx hb hr (fun t ht hW => ⟨⟨(-9000000000012), (v, th, (-1), cd), rfl, ⟨(-1), cd, rfl, by rw [anF_7 (Or.inr e9), if_pos (pos_of_nle c_249)], nd_o e9 (by decide) (by decide)⟩, by rw [ht]; exact hP, va_K.moved hW.alike hK, hD⟩, hS.F ht⟩) hS.2.2 z_m_workOut_266

set_option maxHeartbeats 4000000 in
set_option maxRecDepth 100000 in
theorem c_m_tell (l : Launch) (dC : Nat → ClassId) (dI : Nat → Nat → Nat) (o : Nat → Nat) (cI cZ cL : ClassId) (v : St) (th ch : Int32) (cd : Int64) (sz : Nat) (hi : Inv v) (x y z f : Int32) : Met l y_m_tell (Cond.code y_m_tell b_m_tell 5 none :: CW) { frames := 0, cells := 0, slots := 0, locals := 0 } (va_Pc [.ref (o 0), .int x, .int y, .int z, .int f] (WrC (dC, dI) sz (wM o cI cZ cL v th ch cd) (tyM cI cZ cL))) (va_Qv (fun u : St × Int32 × Int32 × Int64 => u = ((if f = 0 then trn v else telS (trn v) (ztn v + 1) x y z f), th, ch, cd)) (fun u => WrB (dC, dI) (wM o cI cZ cL u.1 u.2.1 u.2.2.1 u.2.2.2) (tyM cI cZ cL) (va_A (wM o cI cZ cL v th ch cd) sz)) (va_A (wM o cI cZ cL v th ch cd) sz)) 0 0 (va_A (wM o cI cZ cL v th ch cd) sz) := by
  refine cx_met (by decide) (Nat.le_of_ble_eq_true rfl) ?_
  intro p e s m below meth c hx hb hr hml hts hown hlocks hnm hC ls hl
  obtain ⟨hsz, hP, hK, hD0, hN⟩ := hC
  subst hsz
  have hD := hD0.self (sz := s.heap.size)
  generalize hAe : va_A (wM o cI cZ cL v th ch cd) s.heap.size = A at hD ⊢
  have hA : ∀ q9 : Nat, s.heap.size ≤ q9 → A q9 := fun q9 h => by rw [← hAe]; exact Or.inr h
  have hS : va_S A s.heap s.heap [] := va_S.rf
  have hown : s.vm.findClass "ServiceDeskModel" = some m.cls := hown
  have hl : lv_has ls 5 [(0, .ref (o 0)), (1, .int x), (2, .int y), (3, .int z), (4, .int f)] := hl
  have hL := hi.kp.1
  refine lv_aload_n hx hb z_m_tell_0 rfl (lv_at hl 0 rfl) ?_
  refine lv_dup hx hb z_m_tell_1 rfl ?_
  refine va_get (D := (dC, dI)) (ci := 4) (v := .int (ztn v)) (C := R4) (T := T4) (N := 17) hx hb hts (cw_sub iC4) hown hK hP 0 rfl rfl 11 (by decide) (hts _ (cw_in mw_491 rfl)) (fun _ h9 => h9) rfl z_m_tell_2 ?_
  refine lv_iconst (v := 1) hx hb z_m_tell_5 (by decide) ?_
  refine lv_iadd hx hb z_m_tell_6 ?_
  refine va_put (D := (dC, dI)) (ci := 4) (v := .int ((ztn v) + 1)) (ty := .int) (C := R4) (T := T4) (N := 17) hx hb hts (cw_sub iC4) ty4 tyok4 nm4 hown hK hP hD hS 0 rfl rfl 11 (by decide) (hts _ (cw_in mw_491 rfl)) (fun _ h9 => h9) rfl (by decide +kernel) rfl rfl (Nat.le_of_ble_eq_true rfl) z_m_tell_7 (fun H locs hP hD hS => ?_)
  have hP : va_P (dC, dI) vwCl (wM o cI cZ cL (utn v ((ztn v) + 1)) th ch cd) H := hP
  have hD : va_D A (wM o cI cZ cL (utn v ((ztn v) + 1)) th ch cd) := hD
  refine lv_iload hx hb z_m_tell_10 (lv_at hl 4 rfl) ?_
  refine lv_if_eq (tgt := 24) hx hb z_m_tell_12 (by decide) (fun c_12 => ?_) (fun c_12 => ?_)
  · exact W.vret hx hb hr (fun t ht hW => ⟨⟨(utn v ((ztn v) + 1), th, ch, cd), rfl, by rw [if_pos c_12], by rw [ht]; exact hP, va_K.moved hW.alike hK, hD⟩, hS.F ht⟩) hS.2.2 z_m_tell_24
  · refine lv_aload_n hx hb z_m_tell_15 rfl (lv_at hl 0 rfl) ?_
    refine va_get (D := (dC, dI)) (ci := 4) (v := .int (zkp v)) (C := R4) (T := T4) (N := 17) hx hb hts (cw_sub iC4) hown hK hP 0 rfl rfl 13 (by decide) (hts _ (cw_in mw_493 rfl)) (fun _ h9 => h9) rfl z_m_tell_16 ?_
    rw [hi.kp.2]
    refine lv_bipush (v := 80) hx hb z_m_tell_19 (by decide) ?_
    refine lv_icmp_ne (tgt := 25) hx hb z_m_tell_21 (by decide) (fun c_21 => ?_) (fun c_21 => ?_)
    · have hL2 : kN v < 80 := Nat.lt_of_le_of_ne hL (fun e => c_21 (by rw [e]; rfl))
      refine lv_aload_n hx hb z_m_tell_25 rfl (lv_at hl 0 rfl) ?_
      refine va_get (D := (dC, dI)) (ci := 4) (v := .ref (o 11)) (C := R4) (T := T4) (N := 17) hx hb hts (cw_sub iC4) hown hK hP 0 rfl rfl 14 (by decide) (hts _ (cw_in mw_494 rfl)) (fun _ h9 => h9) rfl z_m_tell_26 ?_
      refine lv_iconst (v := 5) hx hb z_m_tell_29 (by decide) ?_
      refine lv_aload_n hx hb z_m_tell_30 rfl (lv_at hl 0 rfl) ?_
      refine va_get (D := (dC, dI)) (ci := 4) (v := .int (zkp v)) (C := R4) (T := T4) (N := 17) hx hb hts (cw_sub iC4) hown hK hP 0 rfl rfl 13 (by decide) (hts _ (cw_in mw_493 rfl)) (fun _ h9 => h9) rfl z_m_tell_31 ?_
      rw [hi.kp.2]
      refine lv_imul hx hb z_m_tell_34 ?_
      rw [s5_0]
      refine lv_aload_n hx hb z_m_tell_35 rfl (lv_at hl 0 rfl) ?_
      refine va_get (D := (dC, dI)) (ci := 4) (v := .int ((ztn v) + 1)) (C := R4) (T := T4) (N := 17) hx hb hts (cw_sub iC4) hown hK hP 0 rfl rfl 11 (by decide) (hts _ (cw_in mw_491 rfl)) (fun _ h9 => h9) rfl z_m_tell_36 ?_
      refine xs_i hx hb hK hP hD hS 11 0 rfl rfl (k := (kN v * 5)) (by omega) (by decide) z_m_tell_39 (fun H locs hP hD hS => ?_)
      have hP : va_P (dC, dI) vwCl (wM o cI cZ cL (unu (utn v ((ztn v) + 1)) (upd (znu v) (kN v * 5) ((ztn v) + 1))) th ch cd) H := hP
      have hD : va_D A (wM o cI cZ cL (unu (utn v ((ztn v) + 1)) (upd (znu v) (kN v * 5) ((ztn v) + 1))) th ch cd) := hD
      refine lv_aload_n hx hb z_m_tell_40 rfl (lv_at hl 0 rfl) ?_
      refine va_get (D := (dC, dI)) (ci := 4) (v := .ref (o 11)) (C := R4) (T := T4) (N := 17) hx hb hts (cw_sub iC4) hown hK hP 0 rfl rfl 14 (by decide) (hts _ (cw_in mw_494 rfl)) (fun _ h9 => h9) rfl z_m_tell_41 ?_
      refine lv_iconst (v := 5) hx hb z_m_tell_44 (by decide) ?_
      refine lv_aload_n hx hb z_m_tell_45 rfl (lv_at hl 0 rfl) ?_
      refine va_get (D := (dC, dI)) (ci := 4) (v := .int (zkp v)) (C := R4) (T := T4) (N := 17) hx hb hts (cw_sub iC4) hown hK hP 0 rfl rfl 13 (by decide) (hts _ (cw_in mw_493 rfl)) (fun _ h9 => h9) rfl z_m_tell_46 ?_
      rw [hi.kp.2]
      refine lv_imul hx hb z_m_tell_49 ?_
      rw [s5_0]
      refine lv_iconst (v := 1) hx hb z_m_tell_50 (by decide) ?_
      refine lv_iadd hx hb z_m_tell_51 ?_
      rw [show nI (kN v * 5) + 1 = nI (kN v * 5 + 1) from nI_add _ 1]
      refine lv_iload_n hx hb z_m_tell_52 rfl (lv_at hl 1 rfl) ?_
      refine xs_i hx hb hK hP hD hS 11 0 rfl rfl (k := (kN v * 5 + 1)) (by omega) (by decide) z_m_tell_53 (fun H locs hP hD hS => ?_)
      have hP : va_P (dC, dI) vwCl (wM o cI cZ cL (unu (unu (utn v ((ztn v) + 1)) (upd (znu v) (kN v * 5) ((ztn v) + 1))) (upd (upd (znu v) (kN v * 5) ((ztn v) + 1)) (kN v * 5 + 1) x)) th ch cd) H := hP
      have hD : va_D A (wM o cI cZ cL (unu (unu (utn v ((ztn v) + 1)) (upd (znu v) (kN v * 5) ((ztn v) + 1))) (upd (upd (znu v) (kN v * 5) ((ztn v) + 1)) (kN v * 5 + 1) x)) th ch cd) := hD
      refine lv_aload_n hx hb z_m_tell_54 rfl (lv_at hl 0 rfl) ?_
      refine va_get (D := (dC, dI)) (ci := 4) (v := .ref (o 11)) (C := R4) (T := T4) (N := 17) hx hb hts (cw_sub iC4) hown hK hP 0 rfl rfl 14 (by decide) (hts _ (cw_in mw_494 rfl)) (fun _ h9 => h9) rfl z_m_tell_55 ?_
      refine lv_iconst (v := 5) hx hb z_m_tell_58 (by decide) ?_
      refine lv_aload_n hx hb z_m_tell_59 rfl (lv_at hl 0 rfl) ?_
      refine va_get (D := (dC, dI)) (ci := 4) (v := .int (zkp v)) (C := R4) (T := T4) (N := 17) hx hb hts (cw_sub iC4) hown hK hP 0 rfl rfl 13 (by decide) (hts _ (cw_in mw_493 rfl)) (fun _ h9 => h9) rfl z_m_tell_60 ?_
      rw [hi.kp.2]
      refine lv_imul hx hb z_m_tell_63 ?_
      rw [s5_0]
      refine lv_iconst (v := 2) hx hb z_m_tell_64 (by decide) ?_
      refine lv_iadd hx hb z_m_tell_65 ?_
      rw [show nI (kN v * 5) + 2 = nI (kN v * 5 + 2) from nI_add _ 2]
      refine lv_iload_n hx hb z_m_tell_66 rfl (lv_at hl 2 rfl) ?_
      refine xs_i hx hb hK hP hD hS 11 0 rfl rfl (k := (kN v * 5 + 2)) (by omega) (by decide) z_m_tell_67 (fun H locs hP hD hS => ?_)
      have hP : va_P (dC, dI) vwCl (wM o cI cZ cL (unu (unu (unu (utn v ((ztn v) + 1)) (upd (znu v) (kN v * 5) ((ztn v) + 1))) (upd (upd (znu v) (kN v * 5) ((ztn v) + 1)) (kN v * 5 + 1) x)) (upd (upd (upd (znu v) (kN v * 5) ((ztn v) + 1)) (kN v * 5 + 1) x) (kN v * 5 + 2) y)) th ch cd) H := hP
      have hD : va_D A (wM o cI cZ cL (unu (unu (unu (utn v ((ztn v) + 1)) (upd (znu v) (kN v * 5) ((ztn v) + 1))) (upd (upd (znu v) (kN v * 5) ((ztn v) + 1)) (kN v * 5 + 1) x)) (upd (upd (upd (znu v) (kN v * 5) ((ztn v) + 1)) (kN v * 5 + 1) x) (kN v * 5 + 2) y)) th ch cd) := hD
      refine lv_aload_n hx hb z_m_tell_68 rfl (lv_at hl 0 rfl) ?_
      refine va_get (D := (dC, dI)) (ci := 4) (v := .ref (o 11)) (C := R4) (T := T4) (N := 17) hx hb hts (cw_sub iC4) hown hK hP 0 rfl rfl 14 (by decide) (hts _ (cw_in mw_494 rfl)) (fun _ h9 => h9) rfl z_m_tell_69 ?_
      refine lv_iconst (v := 5) hx hb z_m_tell_72 (by decide) ?_
      refine lv_aload_n hx hb z_m_tell_73 rfl (lv_at hl 0 rfl) ?_
      refine va_get (D := (dC, dI)) (ci := 4) (v := .int (zkp v)) (C := R4) (T := T4) (N := 17) hx hb hts (cw_sub iC4) hown hK hP 0 rfl rfl 13 (by decide) (hts _ (cw_in mw_493 rfl)) (fun _ h9 => h9) rfl z_m_tell_74 ?_
      rw [hi.kp.2]
      refine lv_imul hx hb z_m_tell_77 ?_
      rw [s5_0]
      refine lv_iconst (v := 3) hx hb z_m_tell_78 (by decide) ?_
      refine lv_iadd hx hb z_m_tell_79 ?_
      rw [show nI (kN v * 5) + 3 = nI (kN v * 5 + 3) from nI_add _ 3]
      refine lv_iload_n hx hb z_m_tell_80 rfl (lv_at hl 3 rfl) ?_
      refine xs_i hx hb hK hP hD hS 11 0 rfl rfl (k := (kN v * 5 + 3)) (by omega) (by decide) z_m_tell_81 (fun H locs hP hD hS => ?_)
      have hP : va_P (dC, dI) vwCl (wM o cI cZ cL (unu (unu (unu (unu (utn v ((ztn v) + 1)) (upd (znu v) (kN v * 5) ((ztn v) + 1))) (upd (upd (znu v) (kN v * 5) ((ztn v) + 1)) (kN v * 5 + 1) x)) (upd (upd (upd (znu v) (kN v * 5) ((ztn v) + 1)) (kN v * 5 + 1) x) (kN v * 5 + 2) y)) (upd (upd (upd (upd (znu v) (kN v * 5) ((ztn v) + 1)) (kN v * 5 + 1) x) (kN v * 5 + 2) y) (kN v * 5 + 3) z)) th ch cd) H := hP
      have hD : va_D A (wM o cI cZ cL (unu (unu (unu (unu (utn v ((ztn v) + 1)) (upd (znu v) (kN v * 5) ((ztn v) + 1))) (upd (upd (znu v) (kN v * 5) ((ztn v) + 1)) (kN v * 5 + 1) x)) (upd (upd (upd (znu v) (kN v * 5) ((ztn v) + 1)) (kN v * 5 + 1) x) (kN v * 5 + 2) y)) (upd (upd (upd (upd (znu v) (kN v * 5) ((ztn v) + 1)) (kN v * 5 + 1) x) (kN v * 5 + 2) y) (kN v * 5 + 3) z)) th ch cd) := hD
      refine lv_aload_n hx hb z_m_tell_82 rfl (lv_at hl 0 rfl) ?_
      refine va_get (D := (dC, dI)) (ci := 4) (v := .ref (o 11)) (C := R4) (T := T4) (N := 17) hx hb hts (cw_sub iC4) hown hK hP 0 rfl rfl 14 (by decide) (hts _ (cw_in mw_494 rfl)) (fun _ h9 => h9) rfl z_m_tell_83 ?_
      refine lv_iconst (v := 5) hx hb z_m_tell_86 (by decide) ?_
      refine lv_aload_n hx hb z_m_tell_87 rfl (lv_at hl 0 rfl) ?_
      refine va_get (D := (dC, dI)) (ci := 4) (v := .int (zkp v)) (C := R4) (T := T4) (N := 17) hx hb hts (cw_sub iC4) hown hK hP 0 rfl rfl 13 (by decide) (hts _ (cw_in mw_493 rfl)) (fun _ h9 => h9) rfl z_m_tell_88 ?_
      rw [hi.kp.2]
      refine lv_imul hx hb z_m_tell_91 ?_
      rw [s5_0]
      refine lv_iconst (v := 4) hx hb z_m_tell_92 (by decide) ?_
      refine lv_iadd hx hb z_m_tell_93 ?_
      rw [show nI (kN v * 5) + 4 = nI (kN v * 5 + 4) from nI_add _ 4]
      refine lv_iload hx hb z_m_tell_94 (lv_at hl 4 rfl) ?_
      refine xs_i hx hb hK hP hD hS 11 0 rfl rfl (k := (kN v * 5 + 4)) (by omega) (by decide) z_m_tell_96 (fun H locs hP hD hS => ?_)
      have hP : va_P (dC, dI) vwCl (wM o cI cZ cL (unu (unu (unu (unu (unu (utn v ((ztn v) + 1)) (upd (znu v) (kN v * 5) ((ztn v) + 1))) (upd (upd (znu v) (kN v * 5) ((ztn v) + 1)) (kN v * 5 + 1) x)) (upd (upd (upd (znu v) (kN v * 5) ((ztn v) + 1)) (kN v * 5 + 1) x) (kN v * 5 + 2) y)) (upd (upd (upd (upd (znu v) (kN v * 5) ((ztn v) + 1)) (kN v * 5 + 1) x) (kN v * 5 + 2) y) (kN v * 5 + 3) z)) (upd (upd (upd (upd (upd (znu v) (kN v * 5) ((ztn v) + 1)) (kN v * 5 + 1) x) (kN v * 5 + 2) y) (kN v * 5 + 3) z) (kN v * 5 + 4) f)) th ch cd) H := hP
      have hD : va_D A (wM o cI cZ cL (unu (unu (unu (unu (unu (utn v ((ztn v) + 1)) (upd (znu v) (kN v * 5) ((ztn v) + 1))) (upd (upd (znu v) (kN v * 5) ((ztn v) + 1)) (kN v * 5 + 1) x)) (upd (upd (upd (znu v) (kN v * 5) ((ztn v) + 1)) (kN v * 5 + 1) x) (kN v * 5 + 2) y)) (upd (upd (upd (upd (znu v) (kN v * 5) ((ztn v) + 1)) (kN v * 5 + 1) x) (kN v * 5 + 2) y) (kN v * 5 + 3) z)) (upd (upd (upd (upd (upd (znu v) (kN v * 5) ((ztn v) + 1)) (kN v * 5 + 1) x) (kN v * 5 + 2) y) (kN v * 5 + 3) z) (kN v * 5 + 4) f)) th ch cd) := hD
      refine lv_aload_n hx hb z_m_tell_97 rfl (lv_at hl 0 rfl) ?_
      refine lv_dup hx hb z_m_tell_98 rfl ?_
      refine va_get (D := (dC, dI)) (ci := 4) (v := .int (zkp v)) (C := R4) (T := T4) (N := 17) hx hb hts (cw_sub iC4) hown hK hP 0 rfl rfl 13 (by decide) (hts _ (cw_in mw_493 rfl)) (fun _ h9 => h9) rfl z_m_tell_99 ?_
      rw [hi.kp.2]
      refine lv_iconst (v := 1) hx hb z_m_tell_102 (by decide) ?_
      refine lv_iadd hx hb z_m_tell_103 ?_
      rw [nI_1]
      refine va_put (D := (dC, dI)) (ci := 4) (v := .int (nI (kN v + 1))) (ty := .int) (C := R4) (T := T4) (N := 17) hx hb hts (cw_sub iC4) ty4 tyok4 nm4 hown hK hP hD hS 0 rfl rfl 13 (by decide) (hts _ (cw_in mw_493 rfl)) (fun _ h9 => h9) rfl (by decide +kernel) rfl rfl (Nat.le_of_ble_eq_true rfl) z_m_tell_104 (fun H locs hP hD hS => ?_)
      have hP : va_P (dC, dI) vwCl (wM o cI cZ cL (ukp (unu (unu (unu (unu (unu (utn v ((ztn v) + 1)) (upd (znu v) (kN v * 5) ((ztn v) + 1))) (upd (upd (znu v) (kN v * 5) ((ztn v) + 1)) (kN v * 5 + 1) x)) (upd (upd (upd (znu v) (kN v * 5) ((ztn v) + 1)) (kN v * 5 + 1) x) (kN v * 5 + 2) y)) (upd (upd (upd (upd (znu v) (kN v * 5) ((ztn v) + 1)) (kN v * 5 + 1) x) (kN v * 5 + 2) y) (kN v * 5 + 3) z)) (upd (upd (upd (upd (upd (znu v) (kN v * 5) ((ztn v) + 1)) (kN v * 5 + 1) x) (kN v * 5 + 2) y) (kN v * 5 + 3) z) (kN v * 5 + 4) f)) (nI (kN v + 1))) th ch cd) H := hP
      have hD : va_D A (wM o cI cZ cL (ukp (unu (unu (unu (unu (unu (utn v ((ztn v) + 1)) (upd (znu v) (kN v * 5) ((ztn v) + 1))) (upd (upd (znu v) (kN v * 5) ((ztn v) + 1)) (kN v * 5 + 1) x)) (upd (upd (upd (znu v) (kN v * 5) ((ztn v) + 1)) (kN v * 5 + 1) x) (kN v * 5 + 2) y)) (upd (upd (upd (upd (znu v) (kN v * 5) ((ztn v) + 1)) (kN v * 5 + 1) x) (kN v * 5 + 2) y) (kN v * 5 + 3) z)) (upd (upd (upd (upd (upd (znu v) (kN v * 5) ((ztn v) + 1)) (kN v * 5 + 1) x) (kN v * 5 + 2) y) (kN v * 5 + 3) z) (kN v * 5 + 4) f)) (nI (kN v + 1))) th ch cd) := hD
      have hP : va_P (dC, dI) vwCl (wM o cI cZ cL (ukp (unu (trn v) (telN (znu v) (kN v * 5) (ztn v + 1) x y z f)) (nI (kN v + 1))) th ch cd) H := hP
      have hD : va_D A (wM o cI cZ cL (ukp (unu (trn v) (telN (znu v) (kN v * 5) (ztn v + 1) x y z f)) (nI (kN v + 1))) th ch cd) := hD
      exact W.vret hx hb hr (fun t ht hW => ⟨⟨(ukp (unu (trn v) (telN (znu v) (kN v * 5) (ztn v + 1) x y z f)) (nI (kN v + 1)), th, ch, cd), rfl, by rw [← tl_2 c_12 (by omega)], by rw [ht]; exact hP, va_K.moved hW.alike hK, hD⟩, hS.F ht⟩) hS.2.2 z_m_tell_107
    · exact W.vret hx hb hr (fun t ht hW => ⟨⟨(utn v ((ztn v) + 1), th, ch, cd), rfl, by rw [← tl_1 c_12 (Nat.le_of_eq ((nI_eq (by omega) (by decide)).mp (show nI (kN v) = nI 80 from c_21)).symm)], by rw [ht]; exact hP, va_K.moved hW.alike hK, hD⟩, hS.F ht⟩) hS.2.2 z_m_tell_24

set_option maxHeartbeats 4000000 in
set_option maxRecDepth 100000 in
theorem c_m_refuses (l : Launch) (dC : Nat → ClassId) (dI : Nat → Nat → Nat) (o : Nat → Nat) (cI cZ cL : ClassId) (v : St) (th ch : Int32) (cd : Int64) (sz : Nat) (hi : Inv v) (x y z a : Int32) : Met l y_m_refuses (Cond.code y_m_refuses b_m_refuses 6 (some .boolean) :: CW) { frames := 3, cells := 0, slots := 0, locals := 64 } (va_Pc [.ref (o 0), .int x, .int y, .int z, .int a] (WrC (dC, dI) sz (wM o cI cZ cL v th ch cd) (tyM cI cZ cL))) (va_Qi (fun (r : Int32) (u : St × Int32 × Int32 × Int64) => ∃ c9 : Nat, u = (v, nI c9, ch, cd) ∧ ((c9 = 1 ∧ r = 1 ∧ ¬ okC v x y z) ∨ (c9 = 2 ∧ r = 1 ∧ okC v x y z ∧ ¬ aOk a) ∨ ∃ k j n, k < 8 ∧ j < mN v k ∧ n < 8 ∧ x = nI k ∧ y = nI j ∧ z = nI n ∧ zmd v (k * 8 + n) ≠ 0 ∧ aOk a ∧ ((c9 = 3 ∧ r = 1 ∧ zop v (k * 30 + j) = 0) ∨ (c9 = 0 ∧ r = 0 ∧ zop v (k * 30 + j) ≠ 0)))) (fun u => WrB (dC, dI) (wM o cI cZ cL u.1 u.2.1 u.2.2.1 u.2.2.2) (tyM cI cZ cL) (va_A (wM o cI cZ cL v th ch cd) sz)) (va_A (wM o cI cZ cL v th ch cd) sz)) 0 0 (va_A (wM o cI cZ cL v th ch cd) sz) := by
  refine cx_met (by decide) (Nat.le_of_ble_eq_true rfl) ?_
  intro p e s m below meth c hx hb hr hml hts hown hlocks hnm hC ls hl
  obtain ⟨hsz, hP, hK, hD0, hN⟩ := hC
  subst hsz
  have hD := hD0.self (sz := s.heap.size)
  generalize hAe : va_A (wM o cI cZ cL v th ch cd) s.heap.size = A at hD ⊢
  have hA : ∀ q9 : Nat, s.heap.size ≤ q9 → A q9 := fun q9 h => by rw [← hAe]; exact Or.inr h
  have hS : va_S A s.heap s.heap [] := va_S.rf
  have hown : s.vm.findClass "ServiceDeskModel" = some m.cls := hown
  have hl : lv_has ls 6 [(0, .ref (o 0)), (1, .int x), (2, .int y), (3, .int z), (4, .int a)] := hl
  refine lv_aload_n hx hb z_m_refuses_0 rfl (lv_at hl 0 rfl) ?_
  refine lv_iload_n hx hb z_m_refuses_1 rfl (lv_at hl 1 rfl) ?_
  refine lv_iload_n hx hb z_m_refuses_2 rfl (lv_at hl 2 rfl) ?_
  refine rdVi (As := [.int x, .int y]) (rest := []) ⟨hx, hb, hml, hown, hts⟩ (c_m_isSubject l dC dI o cI cZ cL v th ch cd hi x y) mw_562 mw_559 mw_561 mp_28 mw_6 rfl yd_m_isSubject ⟨⟨rfl, rfl⟩, Nat.le_of_ble_eq_true rfl, Nat.le_of_ble_eq_true rfl⟩ ⟨Nat.zero_le _, Nat.zero_le _⟩ (RdC.preV hP hK hN (ci := 4) (q0 := 0) rfl rfl) rfl hl.1 rfl (Nat.le_of_ble_eq_true rfl) z_m_refuses_3 (fun r_1 h_2 => ?_)
  rcases h_2 with ⟨rfl, h_2⟩ | ⟨rfl, h_2⟩
  · obtain ⟨k, j, hk, hj, rfl, rfl⟩ := h_2
    have hM := (hi.mk k hk).1
    refine lv_if_eq (tgt := 19) hx hb z_m_refuses_6 (by decide) (fun c9 => absurd c9 (by decide)) (fun _ => ?_)
    refine lv_iload_n hx hb z_m_refuses_9 rfl (lv_at hl 3 rfl) ?_
    refine lv_iconst (v := 0) hx hb z_m_refuses_10 (by decide) ?_
    refine lv_bipush (v := 7) hx hb z_m_refuses_11 (by decide) ?_
    refine rdSi (As := [.int z, .int 0, .int 7]) (rest := []) ⟨hx, hb, hml, hown, hts⟩ (c_m_in l z 0 7) mw_546 mw_544 mw_545 mw_6 yd_m_in ⟨⟨rfl, rfl⟩, Nat.le_of_ble_eq_true rfl, Nat.le_of_ble_eq_true rfl⟩ ⟨Nat.zero_le _, Nat.zero_le _⟩ (pre_pure) rfl hl.1 rfl (Nat.le_of_ble_eq_true rfl) z_m_refuses_13 (fun r_3 h_4 => ?_)
    rcases h_4 with ⟨rfl, h_4⟩ | ⟨rfl, h_4⟩
    · obtain ⟨n, hn, rfl⟩ := k7_iff.mp h_4
      refine lv_if_ne (tgt := 23) hx hb z_m_refuses_16 (by decide) (fun _ => ?_) (fun c9 => absurd c9 (by decide))
      refine lv_iconst (v := 0) hx hb z_m_refuses_23 (by decide) ?_
      refine lv_istore (lv' := [(5, .int 0), (0, .ref (o 0)), (1, .int (nI k)), (2, .int (nI j)), (3, .int (nI n)), (4, .int a)]) hx hb z_m_refuses_24 hl (by decide) rfl (fun ls hl => ?_)
      refine lv_iload hx hb z_m_refuses_26 (lv_at hl 0 rfl) ?_
      refine lv_if_ne (tgt := 45) hx hb z_m_refuses_28 (by decide) (fun c9 => absurd rfl c9) (fun _ => ?_)
      refine lv_aload_n hx hb z_m_refuses_31 rfl (lv_at hl 1 rfl) ?_
      refine va_get (D := (dC, dI)) (ci := 4) (v := .ref (o 8)) (C := R4) (T := T4) (N := 17) hx hb hts (cw_sub iC4) hown hK hP 0 rfl rfl 8 (by decide) (hts _ (cw_in mw_488 rfl)) (fun _ h9 => h9) rfl z_m_refuses_32 ?_
      refine lv_bipush (v := 8) hx hb z_m_refuses_35 (by decide) ?_
      refine lv_iload_n hx hb z_m_refuses_37 rfl (lv_at hl 2 rfl) ?_
      refine lv_imul hx hb z_m_refuses_38 ?_
      refine lv_iload_n hx hb z_m_refuses_39 rfl (lv_at hl 4 rfl) ?_
      refine lv_iadd hx hb z_m_refuses_40 ?_
      rw [s8_nI]
      refine xa_i hx hb hK hP 8 0 rfl rfl (k := (k * 8 + n)) (y := zmd v (k * 8 + n)) (by omega) (by decide) (rfl) z_m_refuses_41 ?_
      refine lv_if_ne (tgt := 49) hx hb z_m_refuses_42 (by decide) (fun c_42 => ?_) (fun c_42 => ?_)
      · refine lv_iconst (v := 0) hx hb z_m_refuses_49 (by decide) ?_
        refine lv_istore (lv' := [(5, .int 0), (0, .ref (o 0)), (1, .int (nI k)), (2, .int (nI j)), (3, .int (nI n)), (4, .int a)]) hx hb z_m_refuses_50 hl (by decide) rfl (fun ls hl => ?_)
        refine lv_aload_n hx hb z_m_refuses_52 rfl (lv_at hl 1 rfl) ?_
        refine lv_iload hx hb z_m_refuses_53 (lv_at hl 0 rfl) ?_
        refine lv_iload hx hb z_m_refuses_55 (lv_at hl 5 rfl) ?_
        refine lv_ldc (v := (-1000000)) hx hb hown (hts _ (cw_in mw_575 rfl)) z_m_refuses_57 ?_
        refine lv_ldc (v := 1000000) hx hb hown (hts _ (cw_in mw_576 rfl)) z_m_refuses_59 ?_
        refine rdSi (As := [.int a, .int (-1000000), .int 1000000]) (rest := [.int 0, .ref (o 0)]) ⟨hx, hb, hml, hown, hts⟩ (c_m_in l a (-1000000) 1000000) mw_546 mw_544 mw_545 mw_6 yd_m_in ⟨⟨rfl, rfl⟩, Nat.le_of_ble_eq_true rfl, Nat.le_of_ble_eq_true rfl⟩ ⟨Nat.zero_le _, Nat.zero_le _⟩ (pre_pure) rfl hl.1 rfl (Nat.le_of_ble_eq_true rfl) z_m_refuses_61 (fun r_5 h_6 => ?_)
        rcases h_6 with ⟨rfl, h_6⟩ | ⟨rfl, h_6⟩
        · refine lv_if_ne (tgt := 71) hx hb z_m_refuses_64 (by decide) (fun _ => ?_) (fun c9 => absurd c9 (by decide))
          refine lv_iconst (v := 0) hx hb z_m_refuses_71 (by decide) ?_
          refine lv_iload hx hb z_m_refuses_72 (lv_at hl 0 rfl) ?_
          refine lv_if_ne (tgt := 104) hx hb z_m_refuses_74 (by decide) (fun c9 => absurd rfl c9) (fun _ => ?_)
          refine lv_aload_n hx hb z_m_refuses_77 rfl (lv_at hl 1 rfl) ?_
          refine va_get (D := (dC, dI)) (ci := 4) (v := .ref (o 4)) (C := R4) (T := T4) (N := 17) hx hb hts (cw_sub iC4) hown hK hP 0 rfl rfl 4 (by decide) (hts _ (cw_in mw_484 rfl)) (fun _ h9 => h9) rfl z_m_refuses_78 ?_
          refine lv_iload hx hb z_m_refuses_81 (lv_at hl 0 rfl) ?_
          refine lv_if_eq (tgt := 90) hx hb z_m_refuses_83 (by decide) (fun _ => ?_) (fun c9 => absurd (by decide) c9)
          refine lv_bipush (v := 30) hx hb z_m_refuses_90 (by decide) ?_
          refine lv_iload_n hx hb z_m_refuses_92 rfl (lv_at hl 2 rfl) ?_
          refine lv_imul hx hb z_m_refuses_93 ?_
          refine lv_iload_n hx hb z_m_refuses_94 rfl (lv_at hl 3 rfl) ?_
          refine lv_iadd hx hb z_m_refuses_95 ?_
          rw [s30_nI]
          refine xa_z hx hb hK hP 4 1 rfl rfl (k := (k * 30 + j)) (y := zop v (k * 30 + j)) (by omega) (by decide) (rfl) z_m_refuses_96 ?_
          refine lv_if_ne (tgt := 104) hx hb z_m_refuses_97 (by decide) (fun c_97 => ?_) (fun c_97 => ?_)
          · refine lv_iconst (v := 0) hx hb z_m_refuses_104 (by decide) ?_
            refine lv_iconst (v := 0) hx hb z_m_refuses_105 (by decide) ?_
            refine wrVi (As := [.int 0, .int 0, .int 0, .int 0]) (rest := []) (wf := fun u : St × Int32 × Int32 × Int64 => wM o cI cZ cL u.1 u.2.1 u.2.2.1 u.2.2.2) ⟨hx, hb, hml, hown, hts⟩ (c_m_throwing l dC dI o cI cZ cL v th ch cd s.heap.size 0 0 0 0) mw_554 mw_551 mw_553 mp_27 mw_6 rfl yd_m_throwing ⟨⟨rfl, rfl⟩, Nat.le_of_ble_eq_true rfl, Nat.le_of_ble_eq_true rfl⟩ ⟨Nat.le_of_ble_eq_true rfl, Nat.le_of_ble_eq_true rfl⟩ (WrC.preV hP hK hD hN (ci := 4) (q0 := 0) rfl rfl) (wr_free hD hS hA) hS rfl hl.1 rfl (Nat.le_of_ble_eq_true rfl) z_m_refuses_106 (fun r_7 u_8 H locs h_9 hP hD hS hz9 => ?_)
            obtain ⟨rfl, rfl⟩ : r_7 = 0 ∧ u_8 = (v, 0, ch, cd) := ⟨h_9.1.trans (by decide), h_9.2.trans (by rw [show thF 0 0 0 0 = 0 from by decide])⟩
            have hP : va_P (dC, dI) vwCl (wM o cI cZ cL v 0 ch cd) H := hP
            have hD : va_D A (wM o cI cZ cL v 0 ch cd) := hD
            exact W.zret (v := 0) hx hb hr rfl (fun t ht hW => ⟨⟨0, (v, 0, ch, cd), rfl, ⟨0, rfl, Or.inr (Or.inr ⟨k, j, n, hk, hj, hn, rfl, rfl, rfl, c_42, h_6, Or.inr ⟨rfl, rfl, c_97⟩⟩)⟩, by rw [ht]; exact hP, va_K.moved hW.alike hK, hD⟩, hS.F ht⟩) hS.2.2 z_m_refuses_109
          · refine lv_iconst (v := 1) hx hb z_m_refuses_100 (by decide) ?_
            refine lv_goto (tgt := 105) hx hb z_m_refuses_101 (by decide) ?_
            refine lv_iconst (v := 0) hx hb z_m_refuses_105 (by decide) ?_
            refine wrVi (As := [.int 0, .int 0, .int 1, .int 0]) (rest := []) (wf := fun u : St × Int32 × Int32 × Int64 => wM o cI cZ cL u.1 u.2.1 u.2.2.1 u.2.2.2) ⟨hx, hb, hml, hown, hts⟩ (c_m_throwing l dC dI o cI cZ cL v th ch cd s.heap.size 0 0 1 0) mw_554 mw_551 mw_553 mp_27 mw_6 rfl yd_m_throwing ⟨⟨rfl, rfl⟩, Nat.le_of_ble_eq_true rfl, Nat.le_of_ble_eq_true rfl⟩ ⟨Nat.le_of_ble_eq_true rfl, Nat.le_of_ble_eq_true rfl⟩ (WrC.preV hP hK hD hN (ci := 4) (q0 := 0) rfl rfl) (wr_free hD hS hA) hS rfl hl.1 rfl (Nat.le_of_ble_eq_true rfl) z_m_refuses_106 (fun r_10 u_11 H locs h_12 hP hD hS hz9 => ?_)
            obtain ⟨rfl, rfl⟩ : r_10 = 1 ∧ u_11 = (v, 3, ch, cd) := ⟨h_12.1.trans (by decide), h_12.2.trans (by rw [show thF 0 0 1 0 = 3 from by decide])⟩
            have hP : va_P (dC, dI) vwCl (wM o cI cZ cL v 3 ch cd) H := hP
            have hD : va_D A (wM o cI cZ cL v 3 ch cd) := hD
            exact W.zret (v := 1) hx hb hr rfl (fun t ht hW => ⟨⟨1, (v, 3, ch, cd), rfl, ⟨3, rfl, Or.inr (Or.inr ⟨k, j, n, hk, hj, hn, rfl, rfl, rfl, c_42, h_6, Or.inl ⟨rfl, rfl, c_97⟩⟩)⟩, by rw [ht]; exact hP, va_K.moved hW.alike hK, hD⟩, hS.F ht⟩) hS.2.2 z_m_refuses_109
        · refine lv_if_ne (tgt := 71) hx hb z_m_refuses_64 (by decide) (fun c9 => absurd rfl c9) (fun _ => ?_)
          refine lv_iconst (v := 1) hx hb z_m_refuses_67 (by decide) ?_
          refine lv_goto (tgt := 72) hx hb z_m_refuses_68 (by decide) ?_
          refine lv_iload hx hb z_m_refuses_72 (lv_at hl 0 rfl) ?_
          refine lv_if_ne (tgt := 104) hx hb z_m_refuses_74 (by decide) (fun c9 => absurd rfl c9) (fun _ => ?_)
          refine lv_aload_n hx hb z_m_refuses_77 rfl (lv_at hl 1 rfl) ?_
          refine va_get (D := (dC, dI)) (ci := 4) (v := .ref (o 4)) (C := R4) (T := T4) (N := 17) hx hb hts (cw_sub iC4) hown hK hP 0 rfl rfl 4 (by decide) (hts _ (cw_in mw_484 rfl)) (fun _ h9 => h9) rfl z_m_refuses_78 ?_
          refine lv_iload hx hb z_m_refuses_81 (lv_at hl 0 rfl) ?_
          refine lv_if_eq (tgt := 90) hx hb z_m_refuses_83 (by decide) (fun _ => ?_) (fun c9 => absurd (by decide) c9)
          refine lv_bipush (v := 30) hx hb z_m_refuses_90 (by decide) ?_
          refine lv_iload_n hx hb z_m_refuses_92 rfl (lv_at hl 2 rfl) ?_
          refine lv_imul hx hb z_m_refuses_93 ?_
          refine lv_iload_n hx hb z_m_refuses_94 rfl (lv_at hl 3 rfl) ?_
          refine lv_iadd hx hb z_m_refuses_95 ?_
          rw [s30_nI]
          refine xa_z hx hb hK hP 4 1 rfl rfl (k := (k * 30 + j)) (y := zop v (k * 30 + j)) (by omega) (by decide) (rfl) z_m_refuses_96 ?_
          refine lv_if_ne (tgt := 104) hx hb z_m_refuses_97 (by decide) (fun c_97 => ?_) (fun c_97 => ?_)
          · refine lv_iconst (v := 0) hx hb z_m_refuses_104 (by decide) ?_
            refine lv_iconst (v := 0) hx hb z_m_refuses_105 (by decide) ?_
            refine wrVi (As := [.int 0, .int 1, .int 0, .int 0]) (rest := []) (wf := fun u : St × Int32 × Int32 × Int64 => wM o cI cZ cL u.1 u.2.1 u.2.2.1 u.2.2.2) ⟨hx, hb, hml, hown, hts⟩ (c_m_throwing l dC dI o cI cZ cL v th ch cd s.heap.size 0 1 0 0) mw_554 mw_551 mw_553 mp_27 mw_6 rfl yd_m_throwing ⟨⟨rfl, rfl⟩, Nat.le_of_ble_eq_true rfl, Nat.le_of_ble_eq_true rfl⟩ ⟨Nat.le_of_ble_eq_true rfl, Nat.le_of_ble_eq_true rfl⟩ (WrC.preV hP hK hD hN (ci := 4) (q0 := 0) rfl rfl) (wr_free hD hS hA) hS rfl hl.1 rfl (Nat.le_of_ble_eq_true rfl) z_m_refuses_106 (fun r_13 u_14 H locs h_15 hP hD hS hz9 => ?_)
            obtain ⟨rfl, rfl⟩ : r_13 = 1 ∧ u_14 = (v, 2, ch, cd) := ⟨h_15.1.trans (by decide), h_15.2.trans (by rw [show thF 0 1 0 0 = 2 from by decide])⟩
            have hP : va_P (dC, dI) vwCl (wM o cI cZ cL v 2 ch cd) H := hP
            have hD : va_D A (wM o cI cZ cL v 2 ch cd) := hD
            exact W.zret (v := 1) hx hb hr rfl (fun t ht hW => ⟨⟨1, (v, 2, ch, cd), rfl, ⟨2, rfl, Or.inr (Or.inl ⟨rfl, rfl, ⟨k, j, n, hk, hj, hn, rfl, rfl, rfl, c_42⟩, h_6⟩)⟩, by rw [ht]; exact hP, va_K.moved hW.alike hK, hD⟩, hS.F ht⟩) hS.2.2 z_m_refuses_109
          · refine lv_iconst (v := 1) hx hb z_m_refuses_100 (by decide) ?_
            refine lv_goto (tgt := 105) hx hb z_m_refuses_101 (by decide) ?_
            refine lv_iconst (v := 0) hx hb z_m_refuses_105 (by decide) ?_
            refine wrVi (As := [.int 0, .int 1, .int 1, .int 0]) (rest := []) (wf := fun u : St × Int32 × Int32 × Int64 => wM o cI cZ cL u.1 u.2.1 u.2.2.1 u.2.2.2) ⟨hx, hb, hml, hown, hts⟩ (c_m_throwing l dC dI o cI cZ cL v th ch cd s.heap.size 0 1 1 0) mw_554 mw_551 mw_553 mp_27 mw_6 rfl yd_m_throwing ⟨⟨rfl, rfl⟩, Nat.le_of_ble_eq_true rfl, Nat.le_of_ble_eq_true rfl⟩ ⟨Nat.le_of_ble_eq_true rfl, Nat.le_of_ble_eq_true rfl⟩ (WrC.preV hP hK hD hN (ci := 4) (q0 := 0) rfl rfl) (wr_free hD hS hA) hS rfl hl.1 rfl (Nat.le_of_ble_eq_true rfl) z_m_refuses_106 (fun r_16 u_17 H locs h_18 hP hD hS hz9 => ?_)
            obtain ⟨rfl, rfl⟩ : r_16 = 1 ∧ u_17 = (v, 2, ch, cd) := ⟨h_18.1.trans (by decide), h_18.2.trans (by rw [show thF 0 1 1 0 = 2 from by decide])⟩
            have hP : va_P (dC, dI) vwCl (wM o cI cZ cL v 2 ch cd) H := hP
            have hD : va_D A (wM o cI cZ cL v 2 ch cd) := hD
            exact W.zret (v := 1) hx hb hr rfl (fun t ht hW => ⟨⟨1, (v, 2, ch, cd), rfl, ⟨2, rfl, Or.inr (Or.inl ⟨rfl, rfl, ⟨k, j, n, hk, hj, hn, rfl, rfl, rfl, c_42⟩, h_6⟩)⟩, by rw [ht]; exact hP, va_K.moved hW.alike hK, hD⟩, hS.F ht⟩) hS.2.2 z_m_refuses_109
      · refine lv_iconst (v := 1) hx hb z_m_refuses_45 (by decide) ?_
        refine lv_goto (tgt := 50) hx hb z_m_refuses_46 (by decide) ?_
        refine lv_istore (lv' := [(5, .int 1), (0, .ref (o 0)), (1, .int (nI k)), (2, .int (nI j)), (3, .int (nI n)), (4, .int a)]) hx hb z_m_refuses_50 hl (by decide) rfl (fun ls hl => ?_)
        refine lv_aload_n hx hb z_m_refuses_52 rfl (lv_at hl 1 rfl) ?_
        refine lv_iload hx hb z_m_refuses_53 (lv_at hl 0 rfl) ?_
        refine lv_iload hx hb z_m_refuses_55 (lv_at hl 5 rfl) ?_
        refine lv_ldc (v := (-1000000)) hx hb hown (hts _ (cw_in mw_575 rfl)) z_m_refuses_57 ?_
        refine lv_ldc (v := 1000000) hx hb hown (hts _ (cw_in mw_576 rfl)) z_m_refuses_59 ?_
        refine rdSi (As := [.int a, .int (-1000000), .int 1000000]) (rest := [.int 1, .ref (o 0)]) ⟨hx, hb, hml, hown, hts⟩ (c_m_in l a (-1000000) 1000000) mw_546 mw_544 mw_545 mw_6 yd_m_in ⟨⟨rfl, rfl⟩, Nat.le_of_ble_eq_true rfl, Nat.le_of_ble_eq_true rfl⟩ ⟨Nat.zero_le _, Nat.zero_le _⟩ (pre_pure) rfl hl.1 rfl (Nat.le_of_ble_eq_true rfl) z_m_refuses_61 (fun r_19 h_20 => ?_)
        rcases h_20 with ⟨rfl, h_20⟩ | ⟨rfl, h_20⟩
        · refine lv_if_ne (tgt := 71) hx hb z_m_refuses_64 (by decide) (fun _ => ?_) (fun c9 => absurd c9 (by decide))
          refine lv_iconst (v := 0) hx hb z_m_refuses_71 (by decide) ?_
          refine lv_iload hx hb z_m_refuses_72 (lv_at hl 0 rfl) ?_
          refine lv_if_ne (tgt := 104) hx hb z_m_refuses_74 (by decide) (fun _ => ?_) (fun c9 => absurd c9 (by decide))
          refine lv_iconst (v := 0) hx hb z_m_refuses_104 (by decide) ?_
          refine lv_iconst (v := 0) hx hb z_m_refuses_105 (by decide) ?_
          refine wrVi (As := [.int 1, .int 0, .int 0, .int 0]) (rest := []) (wf := fun u : St × Int32 × Int32 × Int64 => wM o cI cZ cL u.1 u.2.1 u.2.2.1 u.2.2.2) ⟨hx, hb, hml, hown, hts⟩ (c_m_throwing l dC dI o cI cZ cL v th ch cd s.heap.size 1 0 0 0) mw_554 mw_551 mw_553 mp_27 mw_6 rfl yd_m_throwing ⟨⟨rfl, rfl⟩, Nat.le_of_ble_eq_true rfl, Nat.le_of_ble_eq_true rfl⟩ ⟨Nat.le_of_ble_eq_true rfl, Nat.le_of_ble_eq_true rfl⟩ (WrC.preV hP hK hD hN (ci := 4) (q0 := 0) rfl rfl) (wr_free hD hS hA) hS rfl hl.1 rfl (Nat.le_of_ble_eq_true rfl) z_m_refuses_106 (fun r_21 u_22 H locs h_23 hP hD hS hz9 => ?_)
          obtain ⟨rfl, rfl⟩ : r_21 = 1 ∧ u_22 = (v, 1, ch, cd) := ⟨h_23.1.trans (by decide), h_23.2.trans (by rw [show thF 1 0 0 0 = 1 from by decide])⟩
          have hP : va_P (dC, dI) vwCl (wM o cI cZ cL v 1 ch cd) H := hP
          have hD : va_D A (wM o cI cZ cL v 1 ch cd) := hD
          exact W.zret (v := 1) hx hb hr rfl (fun t ht hW => ⟨⟨1, (v, 1, ch, cd), rfl, ⟨1, rfl, Or.inl ⟨rfl, rfl, okC_no3 hk hn c_42⟩⟩, by rw [ht]; exact hP, va_K.moved hW.alike hK, hD⟩, hS.F ht⟩) hS.2.2 z_m_refuses_109
        · refine lv_if_ne (tgt := 71) hx hb z_m_refuses_64 (by decide) (fun c9 => absurd rfl c9) (fun _ => ?_)
          refine lv_iconst (v := 1) hx hb z_m_refuses_67 (by decide) ?_
          refine lv_goto (tgt := 72) hx hb z_m_refuses_68 (by decide) ?_
          refine lv_iload hx hb z_m_refuses_72 (lv_at hl 0 rfl) ?_
          refine lv_if_ne (tgt := 104) hx hb z_m_refuses_74 (by decide) (fun _ => ?_) (fun c9 => absurd c9 (by decide))
          refine lv_iconst (v := 0) hx hb z_m_refuses_104 (by decide) ?_
          refine lv_iconst (v := 0) hx hb z_m_refuses_105 (by decide) ?_
          refine wrVi (As := [.int 1, .int 1, .int 0, .int 0]) (rest := []) (wf := fun u : St × Int32 × Int32 × Int64 => wM o cI cZ cL u.1 u.2.1 u.2.2.1 u.2.2.2) ⟨hx, hb, hml, hown, hts⟩ (c_m_throwing l dC dI o cI cZ cL v th ch cd s.heap.size 1 1 0 0) mw_554 mw_551 mw_553 mp_27 mw_6 rfl yd_m_throwing ⟨⟨rfl, rfl⟩, Nat.le_of_ble_eq_true rfl, Nat.le_of_ble_eq_true rfl⟩ ⟨Nat.le_of_ble_eq_true rfl, Nat.le_of_ble_eq_true rfl⟩ (WrC.preV hP hK hD hN (ci := 4) (q0 := 0) rfl rfl) (wr_free hD hS hA) hS rfl hl.1 rfl (Nat.le_of_ble_eq_true rfl) z_m_refuses_106 (fun r_24 u_25 H locs h_26 hP hD hS hz9 => ?_)
          obtain ⟨rfl, rfl⟩ : r_24 = 1 ∧ u_25 = (v, 1, ch, cd) := ⟨h_26.1.trans (by decide), h_26.2.trans (by rw [show thF 1 1 0 0 = 1 from by decide])⟩
          have hP : va_P (dC, dI) vwCl (wM o cI cZ cL v 1 ch cd) H := hP
          have hD : va_D A (wM o cI cZ cL v 1 ch cd) := hD
          exact W.zret (v := 1) hx hb hr rfl (fun t ht hW => ⟨⟨1, (v, 1, ch, cd), rfl, ⟨1, rfl, Or.inl ⟨rfl, rfl, okC_no3 hk hn c_42⟩⟩, by rw [ht]; exact hP, va_K.moved hW.alike hK, hD⟩, hS.F ht⟩) hS.2.2 z_m_refuses_109
    · refine lv_if_ne (tgt := 23) hx hb z_m_refuses_16 (by decide) (fun c9 => absurd rfl c9) (fun _ => ?_)
      refine lv_iconst (v := 1) hx hb z_m_refuses_19 (by decide) ?_
      refine lv_goto (tgt := 24) hx hb z_m_refuses_20 (by decide) ?_
      refine lv_istore (lv' := [(5, .int 1), (0, .ref (o 0)), (1, .int (nI k)), (2, .int (nI j)), (3, .int z), (4, .int a)]) hx hb z_m_refuses_24 hl (by decide) rfl (fun ls hl => ?_)
      refine lv_iload hx hb z_m_refuses_26 (lv_at hl 0 rfl) ?_
      refine lv_if_ne (tgt := 45) hx hb z_m_refuses_28 (by decide) (fun _ => ?_) (fun c9 => absurd c9 (by decide))
      refine lv_iconst (v := 1) hx hb z_m_refuses_45 (by decide) ?_
      refine lv_goto (tgt := 50) hx hb z_m_refuses_46 (by decide) ?_
      refine lv_istore (lv' := [(5, .int 1), (0, .ref (o 0)), (1, .int (nI k)), (2, .int (nI j)), (3, .int z), (4, .int a)]) hx hb z_m_refuses_50 hl (by decide) rfl (fun ls hl => ?_)
      refine lv_aload_n hx hb z_m_refuses_52 rfl (lv_at hl 1 rfl) ?_
      refine lv_iload hx hb z_m_refuses_53 (lv_at hl 0 rfl) ?_
      refine lv_iload hx hb z_m_refuses_55 (lv_at hl 5 rfl) ?_
      refine lv_ldc (v := (-1000000)) hx hb hown (hts _ (cw_in mw_575 rfl)) z_m_refuses_57 ?_
      refine lv_ldc (v := 1000000) hx hb hown (hts _ (cw_in mw_576 rfl)) z_m_refuses_59 ?_
      refine rdSi (As := [.int a, .int (-1000000), .int 1000000]) (rest := [.int 1, .ref (o 0)]) ⟨hx, hb, hml, hown, hts⟩ (c_m_in l a (-1000000) 1000000) mw_546 mw_544 mw_545 mw_6 yd_m_in ⟨⟨rfl, rfl⟩, Nat.le_of_ble_eq_true rfl, Nat.le_of_ble_eq_true rfl⟩ ⟨Nat.zero_le _, Nat.zero_le _⟩ (pre_pure) rfl hl.1 rfl (Nat.le_of_ble_eq_true rfl) z_m_refuses_61 (fun r_27 h_28 => ?_)
      rcases h_28 with ⟨rfl, h_28⟩ | ⟨rfl, h_28⟩
      · refine lv_if_ne (tgt := 71) hx hb z_m_refuses_64 (by decide) (fun _ => ?_) (fun c9 => absurd c9 (by decide))
        refine lv_iconst (v := 0) hx hb z_m_refuses_71 (by decide) ?_
        refine lv_iload hx hb z_m_refuses_72 (lv_at hl 0 rfl) ?_
        refine lv_if_ne (tgt := 104) hx hb z_m_refuses_74 (by decide) (fun _ => ?_) (fun c9 => absurd c9 (by decide))
        refine lv_iconst (v := 0) hx hb z_m_refuses_104 (by decide) ?_
        refine lv_iconst (v := 0) hx hb z_m_refuses_105 (by decide) ?_
        refine wrVi (As := [.int 1, .int 0, .int 0, .int 0]) (rest := []) (wf := fun u : St × Int32 × Int32 × Int64 => wM o cI cZ cL u.1 u.2.1 u.2.2.1 u.2.2.2) ⟨hx, hb, hml, hown, hts⟩ (c_m_throwing l dC dI o cI cZ cL v th ch cd s.heap.size 1 0 0 0) mw_554 mw_551 mw_553 mp_27 mw_6 rfl yd_m_throwing ⟨⟨rfl, rfl⟩, Nat.le_of_ble_eq_true rfl, Nat.le_of_ble_eq_true rfl⟩ ⟨Nat.le_of_ble_eq_true rfl, Nat.le_of_ble_eq_true rfl⟩ (WrC.preV hP hK hD hN (ci := 4) (q0 := 0) rfl rfl) (wr_free hD hS hA) hS rfl hl.1 rfl (Nat.le_of_ble_eq_true rfl) z_m_refuses_106 (fun r_29 u_30 H locs h_31 hP hD hS hz9 => ?_)
        obtain ⟨rfl, rfl⟩ : r_29 = 1 ∧ u_30 = (v, 1, ch, cd) := ⟨h_31.1.trans (by decide), h_31.2.trans (by rw [show thF 1 0 0 0 = 1 from by decide])⟩
        have hP : va_P (dC, dI) vwCl (wM o cI cZ cL v 1 ch cd) H := hP
        have hD : va_D A (wM o cI cZ cL v 1 ch cd) := hD
        exact W.zret (v := 1) hx hb hr rfl (fun t ht hW => ⟨⟨1, (v, 1, ch, cd), rfl, ⟨1, rfl, Or.inl ⟨rfl, rfl, okC_no2 (fun h => h_4 (k7_iff.mpr h))⟩⟩, by rw [ht]; exact hP, va_K.moved hW.alike hK, hD⟩, hS.F ht⟩) hS.2.2 z_m_refuses_109
      · refine lv_if_ne (tgt := 71) hx hb z_m_refuses_64 (by decide) (fun c9 => absurd rfl c9) (fun _ => ?_)
        refine lv_iconst (v := 1) hx hb z_m_refuses_67 (by decide) ?_
        refine lv_goto (tgt := 72) hx hb z_m_refuses_68 (by decide) ?_
        refine lv_iload hx hb z_m_refuses_72 (lv_at hl 0 rfl) ?_
        refine lv_if_ne (tgt := 104) hx hb z_m_refuses_74 (by decide) (fun _ => ?_) (fun c9 => absurd c9 (by decide))
        refine lv_iconst (v := 0) hx hb z_m_refuses_104 (by decide) ?_
        refine lv_iconst (v := 0) hx hb z_m_refuses_105 (by decide) ?_
        refine wrVi (As := [.int 1, .int 1, .int 0, .int 0]) (rest := []) (wf := fun u : St × Int32 × Int32 × Int64 => wM o cI cZ cL u.1 u.2.1 u.2.2.1 u.2.2.2) ⟨hx, hb, hml, hown, hts⟩ (c_m_throwing l dC dI o cI cZ cL v th ch cd s.heap.size 1 1 0 0) mw_554 mw_551 mw_553 mp_27 mw_6 rfl yd_m_throwing ⟨⟨rfl, rfl⟩, Nat.le_of_ble_eq_true rfl, Nat.le_of_ble_eq_true rfl⟩ ⟨Nat.le_of_ble_eq_true rfl, Nat.le_of_ble_eq_true rfl⟩ (WrC.preV hP hK hD hN (ci := 4) (q0 := 0) rfl rfl) (wr_free hD hS hA) hS rfl hl.1 rfl (Nat.le_of_ble_eq_true rfl) z_m_refuses_106 (fun r_32 u_33 H locs h_34 hP hD hS hz9 => ?_)
        obtain ⟨rfl, rfl⟩ : r_32 = 1 ∧ u_33 = (v, 1, ch, cd) := ⟨h_34.1.trans (by decide), h_34.2.trans (by rw [show thF 1 1 0 0 = 1 from by decide])⟩
        have hP : va_P (dC, dI) vwCl (wM o cI cZ cL v 1 ch cd) H := hP
        have hD : va_D A (wM o cI cZ cL v 1 ch cd) := hD
        exact W.zret (v := 1) hx hb hr rfl (fun t ht hW => ⟨⟨1, (v, 1, ch, cd), rfl, ⟨1, rfl, Or.inl ⟨rfl, rfl, okC_no2 (fun h => h_4 (k7_iff.mpr h))⟩⟩, by rw [ht]; exact hP, va_K.moved hW.alike hK, hD⟩, hS.F ht⟩) hS.2.2 z_m_refuses_109
  · refine lv_if_eq (tgt := 19) hx hb z_m_refuses_6 (by decide) (fun _ => ?_) (fun c9 => absurd (by decide) c9)
    refine lv_iconst (v := 1) hx hb z_m_refuses_19 (by decide) ?_
    refine lv_goto (tgt := 24) hx hb z_m_refuses_20 (by decide) ?_
    refine lv_istore (lv' := [(5, .int 1), (0, .ref (o 0)), (1, .int x), (2, .int y), (3, .int z), (4, .int a)]) hx hb z_m_refuses_24 hl (by decide) rfl (fun ls hl => ?_)
    refine lv_iload hx hb z_m_refuses_26 (lv_at hl 0 rfl) ?_
    refine lv_if_ne (tgt := 45) hx hb z_m_refuses_28 (by decide) (fun _ => ?_) (fun c9 => absurd c9 (by decide))
    refine lv_iconst (v := 1) hx hb z_m_refuses_45 (by decide) ?_
    refine lv_goto (tgt := 50) hx hb z_m_refuses_46 (by decide) ?_
    refine lv_istore (lv' := [(5, .int 1), (0, .ref (o 0)), (1, .int x), (2, .int y), (3, .int z), (4, .int a)]) hx hb z_m_refuses_50 hl (by decide) rfl (fun ls hl => ?_)
    refine lv_aload_n hx hb z_m_refuses_52 rfl (lv_at hl 1 rfl) ?_
    refine lv_iload hx hb z_m_refuses_53 (lv_at hl 0 rfl) ?_
    refine lv_iload hx hb z_m_refuses_55 (lv_at hl 5 rfl) ?_
    refine lv_ldc (v := (-1000000)) hx hb hown (hts _ (cw_in mw_575 rfl)) z_m_refuses_57 ?_
    refine lv_ldc (v := 1000000) hx hb hown (hts _ (cw_in mw_576 rfl)) z_m_refuses_59 ?_
    refine rdSi (As := [.int a, .int (-1000000), .int 1000000]) (rest := [.int 1, .ref (o 0)]) ⟨hx, hb, hml, hown, hts⟩ (c_m_in l a (-1000000) 1000000) mw_546 mw_544 mw_545 mw_6 yd_m_in ⟨⟨rfl, rfl⟩, Nat.le_of_ble_eq_true rfl, Nat.le_of_ble_eq_true rfl⟩ ⟨Nat.zero_le _, Nat.zero_le _⟩ (pre_pure) rfl hl.1 rfl (Nat.le_of_ble_eq_true rfl) z_m_refuses_61 (fun r_35 h_36 => ?_)
    rcases h_36 with ⟨rfl, h_36⟩ | ⟨rfl, h_36⟩
    · refine lv_if_ne (tgt := 71) hx hb z_m_refuses_64 (by decide) (fun _ => ?_) (fun c9 => absurd c9 (by decide))
      refine lv_iconst (v := 0) hx hb z_m_refuses_71 (by decide) ?_
      refine lv_iload hx hb z_m_refuses_72 (lv_at hl 0 rfl) ?_
      refine lv_if_ne (tgt := 104) hx hb z_m_refuses_74 (by decide) (fun _ => ?_) (fun c9 => absurd c9 (by decide))
      refine lv_iconst (v := 0) hx hb z_m_refuses_104 (by decide) ?_
      refine lv_iconst (v := 0) hx hb z_m_refuses_105 (by decide) ?_
      refine wrVi (As := [.int 1, .int 0, .int 0, .int 0]) (rest := []) (wf := fun u : St × Int32 × Int32 × Int64 => wM o cI cZ cL u.1 u.2.1 u.2.2.1 u.2.2.2) ⟨hx, hb, hml, hown, hts⟩ (c_m_throwing l dC dI o cI cZ cL v th ch cd s.heap.size 1 0 0 0) mw_554 mw_551 mw_553 mp_27 mw_6 rfl yd_m_throwing ⟨⟨rfl, rfl⟩, Nat.le_of_ble_eq_true rfl, Nat.le_of_ble_eq_true rfl⟩ ⟨Nat.le_of_ble_eq_true rfl, Nat.le_of_ble_eq_true rfl⟩ (WrC.preV hP hK hD hN (ci := 4) (q0 := 0) rfl rfl) (wr_free hD hS hA) hS rfl hl.1 rfl (Nat.le_of_ble_eq_true rfl) z_m_refuses_106 (fun r_37 u_38 H locs h_39 hP hD hS hz9 => ?_)
      obtain ⟨rfl, rfl⟩ : r_37 = 1 ∧ u_38 = (v, 1, ch, cd) := ⟨h_39.1.trans (by decide), h_39.2.trans (by rw [show thF 1 0 0 0 = 1 from by decide])⟩
      have hP : va_P (dC, dI) vwCl (wM o cI cZ cL v 1 ch cd) H := hP
      have hD : va_D A (wM o cI cZ cL v 1 ch cd) := hD
      exact W.zret (v := 1) hx hb hr rfl (fun t ht hW => ⟨⟨1, (v, 1, ch, cd), rfl, ⟨1, rfl, Or.inl ⟨rfl, rfl, okC_no1 h_2⟩⟩, by rw [ht]; exact hP, va_K.moved hW.alike hK, hD⟩, hS.F ht⟩) hS.2.2 z_m_refuses_109
    · refine lv_if_ne (tgt := 71) hx hb z_m_refuses_64 (by decide) (fun c9 => absurd rfl c9) (fun _ => ?_)
      refine lv_iconst (v := 1) hx hb z_m_refuses_67 (by decide) ?_
      refine lv_goto (tgt := 72) hx hb z_m_refuses_68 (by decide) ?_
      refine lv_iload hx hb z_m_refuses_72 (lv_at hl 0 rfl) ?_
      refine lv_if_ne (tgt := 104) hx hb z_m_refuses_74 (by decide) (fun _ => ?_) (fun c9 => absurd c9 (by decide))
      refine lv_iconst (v := 0) hx hb z_m_refuses_104 (by decide) ?_
      refine lv_iconst (v := 0) hx hb z_m_refuses_105 (by decide) ?_
      refine wrVi (As := [.int 1, .int 1, .int 0, .int 0]) (rest := []) (wf := fun u : St × Int32 × Int32 × Int64 => wM o cI cZ cL u.1 u.2.1 u.2.2.1 u.2.2.2) ⟨hx, hb, hml, hown, hts⟩ (c_m_throwing l dC dI o cI cZ cL v th ch cd s.heap.size 1 1 0 0) mw_554 mw_551 mw_553 mp_27 mw_6 rfl yd_m_throwing ⟨⟨rfl, rfl⟩, Nat.le_of_ble_eq_true rfl, Nat.le_of_ble_eq_true rfl⟩ ⟨Nat.le_of_ble_eq_true rfl, Nat.le_of_ble_eq_true rfl⟩ (WrC.preV hP hK hD hN (ci := 4) (q0 := 0) rfl rfl) (wr_free hD hS hA) hS rfl hl.1 rfl (Nat.le_of_ble_eq_true rfl) z_m_refuses_106 (fun r_40 u_41 H locs h_42 hP hD hS hz9 => ?_)
      obtain ⟨rfl, rfl⟩ : r_40 = 1 ∧ u_41 = (v, 1, ch, cd) := ⟨h_42.1.trans (by decide), h_42.2.trans (by rw [show thF 1 1 0 0 = 1 from by decide])⟩
      have hP : va_P (dC, dI) vwCl (wM o cI cZ cL v 1 ch cd) H := hP
      have hD : va_D A (wM o cI cZ cL v 1 ch cd) := hD
      exact W.zret (v := 1) hx hb hr rfl (fun t ht hW => ⟨⟨1, (v, 1, ch, cd), rfl, ⟨1, rfl, Or.inl ⟨rfl, rfl, okC_no1 h_2⟩⟩, by rw [ht]; exact hP, va_K.moved hW.alike hK, hD⟩, hS.F ht⟩) hS.2.2 z_m_refuses_109
