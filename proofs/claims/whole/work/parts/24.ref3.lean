theorem in03 {w : Int32} : (0 ≤ w ∧ w ≤ 3) ↔ ok03 w := by
  constructor
  · rintro ⟨h1, h2⟩
    exact ok03_of (Int32.not_lt.mpr h1) h2
  · rintro (rfl | rfl | rfl | rfl) <;> decide
theorem ok3 {w : Int32} (h : ok03 w) (h0 : ¬ w = 0) (h1 : ¬ w = 1) (h2 : ¬ w = 2) : w = 3 := h.elim (fun e => absurd e h0) (fun h => h.elim (fun e => absurd e h1) (fun h => h.elim (fun e => absurd e h2) id))
theorem in4 {w : Int32} : (0 ≤ w ∧ w ≤ 4) ↔ ∃ z, z < 5 ∧ w = nI z := by
  constructor
  · rintro ⟨h1, h2⟩
    obtain ⟨z, hz, rfl⟩ := nI_of (Int32.not_lt.mpr h1)
    exact ⟨z, Nat.lt_succ_of_le ((nI_leI hz (by decide)).mp (show nI z ≤ nI 4 from h2)), rfl⟩
  · rintro ⟨z, hz, rfl⟩
    exact ⟨nI_pos' (by omega), nI_le (b := 4) (by omega) (by decide)⟩
theorem in08 {n : Int32} : (0 ≤ n ∧ n ≤ 8) ↔ ok08 n := by
  constructor
  · rintro ⟨h1, h2⟩
    exact ok08_of (Int32.not_lt.mpr h1) h2
  · rintro ⟨w, hw, rfl⟩
    exact ⟨nI_pos' (by omega), nI_le (b := 8) hw (by decide)⟩
theorem in18 {n : Int32} : (1 ≤ n ∧ n ≤ 8) ↔ okN n := by
  constructor
  · rintro ⟨h1, h2⟩
    exact okN_of (Int32.not_lt.mpr h1) h2
  · rintro ⟨w, h1, h2, rfl⟩
    exact ⟨nI_le (a := 1) h1 (by omega), nI_le (b := 8) h2 (by decide)⟩
theorem tk_ok {v : St} {n : Int32} (hi : Inv v) (h1 : 1 ≤ n ∧ n ≤ 100000) (h2 : zck v + n ≤ 1000000000) : okT v n := by
  obtain ⟨c1, c2⟩ := hi.ck
  obtain ⟨h1, h3⟩ := h1
  rw [Int32.le_iff_toInt_le] at h1 h3
  have e1 : (1 : Int32).toInt = 1 := rfl
  have e2 : (100000 : Int32).toInt = 100000 := rfl
  have e3 : (1000000000 : Int32).toInt = 1000000000 := rfl
  rw [e1] at h1; rw [e2] at h3
  rw [Int32.le_iff_toInt_le, Int32.toInt_add, e3, Int.bmod_eq_of_le (by omega) (by omega)] at h2
  exact ⟨h1, h3, h2⟩
theorem tk_no1 {v : St} {n : Int32} (h : ¬ (1 ≤ n ∧ n ≤ 100000)) : ¬ okT v n := by
  rintro ⟨h1, h2, -⟩
  apply h
  rw [Int32.le_iff_toInt_le, Int32.le_iff_toInt_le]
  exact ⟨h1, h2⟩
theorem tk_no2 {v : St} {n : Int32} (hi : Inv v) (h1 : 1 ≤ n ∧ n ≤ 100000) (h : ¬ zck v + n ≤ 1000000000) : ¬ okT v n := by
  obtain ⟨c1, c2⟩ := hi.ck
  obtain ⟨h1, h3⟩ := h1
  rw [Int32.le_iff_toInt_le] at h1 h3
  have e1 : (1 : Int32).toInt = 1 := rfl
  have e2 : (100000 : Int32).toInt = 100000 := rfl
  have e3 : (1000000000 : Int32).toInt = 1000000000 := rfl
  rw [e1] at h1; rw [e2] at h3
  rw [Int32.le_iff_toInt_le, Int32.toInt_add, e3, Int.bmod_eq_of_le (by omega) (by omega)] at h
  rintro ⟨-, -, h4⟩
  exact h h4
set_option maxHeartbeats 4000000 in
set_option maxRecDepth 100000 in
theorem c_m_simulate (l : Launch) (dC : Nat → ClassId) (dI : Nat → Nat → Nat) (o : Nat → Nat) (cI cZ cL : ClassId) (v : St) (th ch : Int32) (cd : Int64) (sz : Nat) (hi : Inv v) (x y z a : Int32) : Met l y_m_simulate (Cond.code y_m_simulate b_m_simulate 5 (some .long) :: CW) { frames := 4, cells := 0, slots := 0, locals := 90 } (va_Pc [.ref (o 0), .int x, .int y, .int z, .int a] (WrC (dC, dI) sz (wM o cI cZ cL v th ch cd) (tyM cI cZ cL))) (va_Ql (fun (r : Int64) (u : St × Int32 × Int32 × Int64) => ∃ c9 : Nat, u.2.1 = nI c9 ∧ spSim v x y z a c9 r u.1) (fun u => WrB (dC, dI) (wM o cI cZ cL u.1 u.2.1 u.2.2.1 u.2.2.2) (tyM cI cZ cL) (va_A (wM o cI cZ cL v th ch cd) sz)) (va_A (wM o cI cZ cL v th ch cd) sz)) 0 0 (va_A (wM o cI cZ cL v th ch cd) sz) := by
  refine cx_met (by decide) (Nat.le_of_ble_eq_true rfl) ?_
  intro p e s m below meth c hx hb hr hml hts hown hlocks hnm hC ls hl
  obtain ⟨hsz, hP, hK, hD0, hN⟩ := hC
  subst hsz
  have hD := hD0.self (sz := s.heap.size)
  generalize hAe : va_A (wM o cI cZ cL v th ch cd) s.heap.size = A at hD ⊢
  have hA : ∀ q9 : Nat, s.heap.size ≤ q9 → A q9 := fun q9 h => by rw [← hAe]; exact Or.inr h
  have hS : va_S A s.heap s.heap [] := va_S.rf
  have hown : s.vm.findClass "ServiceDeskModel" = some m.cls := hown
  have hl : lv_has ls 5 [(0, .ref (o 0)), (1, .int x), (2, .int y), (3, .int z), (4, .int a)] := hl
  refine lv_aload_n hx hb z_m_simulate_0 rfl (lv_at hl 0 rfl) ?_
  refine lv_iload_n hx hb z_m_simulate_1 rfl (lv_at hl 1 rfl) ?_
  refine lv_iload_n hx hb z_m_simulate_2 rfl (lv_at hl 2 rfl) ?_
  refine lv_iload_n hx hb z_m_simulate_3 rfl (lv_at hl 3 rfl) ?_
  refine lv_iload hx hb z_m_simulate_4 (lv_at hl 4 rfl) ?_
  refine wrVi (As := [.int x, .int y, .int z, .int a]) (rest := []) (wf := fun u : St × Int32 × Int32 × Int64 => wM o cI cZ cL u.1 u.2.1 u.2.2.1 u.2.2.2) ⟨hx, hb, hml, hown, hts⟩ (c_m_refuses l dC dI o cI cZ cL v th ch cd s.heap.size hi x y z a) mw_574 mw_571 mw_573 mp_29 mw_6 rfl yd_m_refuses ⟨⟨rfl, rfl⟩, Nat.le_of_ble_eq_true rfl, Nat.le_of_ble_eq_true rfl⟩ ⟨Nat.le_of_ble_eq_true rfl, Nat.le_of_ble_eq_true rfl⟩ (WrC.preV hP hK hD hN (ci := 4) (q0 := 0) rfl rfl) (wr_free hD hS hA) hS rfl hl.1 rfl (Nat.le_of_ble_eq_true rfl) z_m_simulate_6 (fun r_1 u_2 H locs h_3 hP hD hS hz9 => ?_)
  obtain ⟨c9, rfl, h_3⟩ := h_3
  rcases h_3 with ⟨rfl, rfl, hn9⟩ | ⟨rfl, rfl, ho9, hn9⟩ | ⟨k, j, n, hk, hj, hn, rfl, rfl, rfl, hm9, ha9, ⟨rfl, rfl, hc9⟩ | ⟨rfl, rfl, hc9⟩⟩
  · have hP : va_P (dC, dI) vwCl (wM o cI cZ cL v 1 ch cd) H := hP
    have hD : va_D A (wM o cI cZ cL v 1 ch cd) := hD
    refine lv_if_eq (tgt := 14) hx hb z_m_simulate_9 (by decide) (fun c9 => absurd c9 (by decide)) (fun _ => ?_)
    refine lv_lconst (v := 0) hx hb z_m_simulate_12 (by decide) ?_
    exact W.lret (v := 0) hx hb hr (fun t ht hW => ⟨⟨0, (v, 1, ch, cd), rfl, ⟨1, rfl, rfl, Or.inl ⟨rfl, hn9⟩⟩, by rw [ht]; exact hP, va_K.moved hW.alike hK, hD⟩, hS.F ht⟩) hS.2.2 z_m_simulate_13
  · have hP : va_P (dC, dI) vwCl (wM o cI cZ cL v 2 ch cd) H := hP
    have hD : va_D A (wM o cI cZ cL v 2 ch cd) := hD
    refine lv_if_eq (tgt := 14) hx hb z_m_simulate_9 (by decide) (fun c9 => absurd c9 (by decide)) (fun _ => ?_)
    refine lv_lconst (v := 0) hx hb z_m_simulate_12 (by decide) ?_
    exact W.lret (v := 0) hx hb hr (fun t ht hW => ⟨⟨0, (v, 2, ch, cd), rfl, ⟨2, rfl, rfl, Or.inr (Or.inl ⟨rfl, ho9, hn9⟩)⟩, by rw [ht]; exact hP, va_K.moved hW.alike hK, hD⟩, hS.F ht⟩) hS.2.2 z_m_simulate_13
  · have hP : va_P (dC, dI) vwCl (wM o cI cZ cL v 3 ch cd) H := hP
    have hD : va_D A (wM o cI cZ cL v 3 ch cd) := hD
    refine lv_if_eq (tgt := 14) hx hb z_m_simulate_9 (by decide) (fun c9 => absurd c9 (by decide)) (fun _ => ?_)
    refine lv_lconst (v := 0) hx hb z_m_simulate_12 (by decide) ?_
    exact W.lret (v := 0) hx hb hr (fun t ht hW => ⟨⟨0, (v, 3, ch, cd), rfl, ⟨3, rfl, rfl, Or.inr (Or.inr ⟨k, j, n, hk, hj, hn, rfl, rfl, rfl, hm9, ha9, Or.inl ⟨rfl, hc9⟩⟩)⟩, by rw [ht]; exact hP, va_K.moved hW.alike hK, hD⟩, hS.F ht⟩) hS.2.2 z_m_simulate_13
  · have hP : va_P (dC, dI) vwCl (wM o cI cZ cL v 0 ch cd) H := hP
    have hD : va_D A (wM o cI cZ cL v 0 ch cd) := hD
    refine lv_if_eq (tgt := 14) hx hb z_m_simulate_9 (by decide) (fun _ => ?_) (fun c9 => absurd (by decide) c9)
    refine lv_aload_n hx hb z_m_simulate_14 rfl (lv_at hl 0 rfl) ?_
    refine lv_iload_n hx hb z_m_simulate_15 rfl (lv_at hl 1 rfl) ?_
    refine lv_iload_n hx hb z_m_simulate_16 rfl (lv_at hl 2 rfl) ?_
    refine lv_iload_n hx hb z_m_simulate_17 rfl (lv_at hl 3 rfl) ?_
    refine lv_iload hx hb z_m_simulate_18 (lv_at hl 4 rfl) ?_
    refine wrVl (As := [.int (nI k), .int (nI j), .int (nI n), .int a]) (rest := []) (wf := fun u : St × Int32 × Int32 × Int64 => wM o cI cZ cL u.1 u.2.1 u.2.2.1 u.2.2.2) ⟨hx, hb, hml, hown, hts⟩ (c_m_workOut l dC dI o cI cZ cL v 0 ch cd H.size hi k j n hk hj hn a) mw_584 mw_581 mw_583 mp_31 mw_6 rfl yd_m_workOut ⟨⟨rfl, rfl⟩, Nat.le_of_ble_eq_true rfl, Nat.le_of_ble_eq_true rfl⟩ ⟨Nat.le_of_ble_eq_true rfl, Nat.le_of_ble_eq_true rfl⟩ (WrC.preV hP hK hD hN (ci := 4) (q0 := 0) rfl rfl) (wr_free hD hS hA) hS rfl hl.1 rfl (Nat.le_of_ble_eq_true rfl) z_m_simulate_20 (fun r_4 u_5 H locs h_6 hP hD hS hz9 => ?_)
    obtain ⟨ch2, cd2, rfl, rfl, hnd⟩ := h_6
    have hP : va_P (dC, dI) vwCl (wM o cI cZ cL v 0 ch2 cd2) H := hP
    have hD : va_D A (wM o cI cZ cL v 0 ch2 cd2) := hD
    exact W.lret (v := anF v k j n a) hx hb hr (fun t ht hW => ⟨⟨anF v k j n a, (v, 0, ch2, cd2), rfl, ⟨0, rfl, rfl, Or.inr (Or.inr ⟨k, j, n, hk, hj, hn, rfl, rfl, rfl, hm9, ha9, Or.inr ⟨rfl, hc9, rfl⟩⟩)⟩, by rw [ht]; exact hP, va_K.moved hW.alike hK, hD⟩, hS.F ht⟩) hS.2.2 z_m_simulate_23

set_option maxHeartbeats 4000000 in
set_option maxRecDepth 100000 in
theorem c_m_call (l : Launch) (dC : Nat → ClassId) (dI : Nat → Nat → Nat) (o : Nat → Nat) (cI cZ cL : ClassId) (v : St) (th ch : Int32) (cd : Int64) (sz : Nat) (hi : Inv v) (x y z a : Int32) : Met l y_m_call (Cond.code y_m_call b_m_call 8 (some .long) :: CW) { frames := 4, cells := 0, slots := 0, locals := 90 } (va_Pc [.ref (o 0), .int x, .int y, .int z, .int a] (WrC (dC, dI) sz (wM o cI cZ cL v th ch cd) (tyM cI cZ cL))) (va_Ql (fun (r : Int64) (u : St × Int32 × Int32 × Int64) => ∃ c9 : Nat, u.2.1 = nI c9 ∧ spCall v x y z a c9 r u.1) (fun u => WrB (dC, dI) (wM o cI cZ cL u.1 u.2.1 u.2.2.1 u.2.2.2) (tyM cI cZ cL) (va_A (wM o cI cZ cL v th ch cd) sz)) (va_A (wM o cI cZ cL v th ch cd) sz)) 0 0 (va_A (wM o cI cZ cL v th ch cd) sz) := by
  refine cx_met (by decide) (Nat.le_of_ble_eq_true rfl) ?_
  intro p e s m below meth c hx hb hr hml hts hown hlocks hnm hC ls hl
  obtain ⟨hsz, hP, hK, hD0, hN⟩ := hC
  subst hsz
  have hD := hD0.self (sz := s.heap.size)
  generalize hAe : va_A (wM o cI cZ cL v th ch cd) s.heap.size = A at hD ⊢
  have hA : ∀ q9 : Nat, s.heap.size ≤ q9 → A q9 := fun q9 h => by rw [← hAe]; exact Or.inr h
  have hS : va_S A s.heap s.heap [] := va_S.rf
  have hown : s.vm.findClass "ServiceDeskModel" = some m.cls := hown
  have hl : lv_has ls 8 [(0, .ref (o 0)), (1, .int x), (2, .int y), (3, .int z), (4, .int a)] := hl
  refine lv_aload_n hx hb z_m_call_0 rfl (lv_at hl 0 rfl) ?_
  refine lv_iload_n hx hb z_m_call_1 rfl (lv_at hl 1 rfl) ?_
  refine lv_iload_n hx hb z_m_call_2 rfl (lv_at hl 2 rfl) ?_
  refine lv_iload_n hx hb z_m_call_3 rfl (lv_at hl 3 rfl) ?_
  refine lv_iload hx hb z_m_call_4 (lv_at hl 4 rfl) ?_
  refine wrVi (As := [.int x, .int y, .int z, .int a]) (rest := []) (wf := fun u : St × Int32 × Int32 × Int64 => wM o cI cZ cL u.1 u.2.1 u.2.2.1 u.2.2.2) ⟨hx, hb, hml, hown, hts⟩ (c_m_refuses l dC dI o cI cZ cL v th ch cd s.heap.size hi x y z a) mw_574 mw_571 mw_573 mp_29 mw_6 rfl yd_m_refuses ⟨⟨rfl, rfl⟩, Nat.le_of_ble_eq_true rfl, Nat.le_of_ble_eq_true rfl⟩ ⟨Nat.le_of_ble_eq_true rfl, Nat.le_of_ble_eq_true rfl⟩ (WrC.preV hP hK hD hN (ci := 4) (q0 := 0) rfl rfl) (wr_free hD hS hA) hS rfl hl.1 rfl (Nat.le_of_ble_eq_true rfl) z_m_call_6 (fun r_1 u_2 H locs h_3 hP hD hS hz9 => ?_)
  obtain ⟨c9, rfl, h_3⟩ := h_3
  rcases h_3 with ⟨rfl, rfl, hn9⟩ | ⟨rfl, rfl, ho9, hn9⟩ | ⟨k, j, n, hk, hj, hn, rfl, rfl, rfl, hm9, ha9, ⟨rfl, rfl, hc9⟩ | ⟨rfl, rfl, hc9⟩⟩
  · have hP : va_P (dC, dI) vwCl (wM o cI cZ cL v 1 ch cd) H := hP
    have hD : va_D A (wM o cI cZ cL v 1 ch cd) := hD
    refine lv_if_eq (tgt := 28) hx hb z_m_call_9 (by decide) (fun c9 => absurd c9 (by decide)) (fun _ => ?_)
    refine lv_aload_n hx hb z_m_call_12 rfl (lv_at hl 0 rfl) ?_
    refine lv_iload_n hx hb z_m_call_13 rfl (lv_at hl 1 rfl) ?_
    refine lv_iload_n hx hb z_m_call_14 rfl (lv_at hl 2 rfl) ?_
    refine lv_iload_n hx hb z_m_call_15 rfl (lv_at hl 3 rfl) ?_
    refine lv_bipush (v := 12) hx hb z_m_call_16 (by decide) ?_
    refine lv_aload_n hx hb z_m_call_18 rfl (lv_at hl 0 rfl) ?_
    refine va_get (D := (dC, dI)) (ci := 4) (v := .int 1) (C := R4) (T := T4) (N := 17) hx hb hts (cw_sub iC4) hown hK hP 0 rfl rfl 0 (by decide) (hts _ (cw_in mw_480 rfl)) (fun _ h9 => h9) rfl z_m_call_19 ?_
    refine lv_iadd hx hb z_m_call_22 ?_
    rw [show (12 : Int32) + 1 = 13 from by decide]
    refine wrVv (As := [.int x, .int y, .int z, .int 13]) (rest := []) (wf := fun u : St × Int32 × Int32 × Int64 => wM o cI cZ cL u.1 u.2.1 u.2.2.1 u.2.2.2) ⟨hx, hb, hml, hown, hts⟩ (c_m_tell l dC dI o cI cZ cL v 1 ch cd H.size hi x y z 13) mw_580 mw_577 mw_579 mp_30 mw_6 rfl yd_m_tell ⟨⟨rfl, rfl⟩, Nat.le_of_ble_eq_true rfl, Nat.le_of_ble_eq_true rfl⟩ ⟨Nat.le_of_ble_eq_true rfl, Nat.le_of_ble_eq_true rfl⟩ (WrC.preV hP hK hD hN (ci := 4) (q0 := 0) rfl rfl) (wr_free hD hS hA) hS rfl hl.1 rfl (Nat.le_of_ble_eq_true rfl) z_m_call_23 (fun u_5 H locs h_6 hP hD hS hz9 => ?_)
    obtain rfl : u_5 = (telS (trn v) (ztn v + 1) x y z 13, 1, ch, cd) := h_6.trans (by rw [if_neg (by decide)])
    have hP : va_P (dC, dI) vwCl (wM o cI cZ cL (telS (trn v) (ztn v + 1) x y z 13) 1 ch cd) H := hP
    have hD : va_D A (wM o cI cZ cL (telS (trn v) (ztn v + 1) x y z 13) 1 ch cd) := hD
    refine lv_lconst (v := 0) hx hb z_m_call_26 (by decide) ?_
    exact W.lret (v := 0) hx hb hr (fun t ht hW => ⟨⟨0, (telS (trn v) (ztn v + 1) x y z 13, 1, ch, cd), rfl, ⟨1, rfl, Or.inl ⟨rfl, hn9, rfl⟩⟩, by rw [ht]; exact hP, va_K.moved hW.alike hK, hD⟩, hS.F ht⟩) hS.2.2 z_m_call_27
  · have hP : va_P (dC, dI) vwCl (wM o cI cZ cL v 2 ch cd) H := hP
    have hD : va_D A (wM o cI cZ cL v 2 ch cd) := hD
    refine lv_if_eq (tgt := 28) hx hb z_m_call_9 (by decide) (fun c9 => absurd c9 (by decide)) (fun _ => ?_)
    refine lv_aload_n hx hb z_m_call_12 rfl (lv_at hl 0 rfl) ?_
    refine lv_iload_n hx hb z_m_call_13 rfl (lv_at hl 1 rfl) ?_
    refine lv_iload_n hx hb z_m_call_14 rfl (lv_at hl 2 rfl) ?_
    refine lv_iload_n hx hb z_m_call_15 rfl (lv_at hl 3 rfl) ?_
    refine lv_bipush (v := 12) hx hb z_m_call_16 (by decide) ?_
    refine lv_aload_n hx hb z_m_call_18 rfl (lv_at hl 0 rfl) ?_
    refine va_get (D := (dC, dI)) (ci := 4) (v := .int 2) (C := R4) (T := T4) (N := 17) hx hb hts (cw_sub iC4) hown hK hP 0 rfl rfl 0 (by decide) (hts _ (cw_in mw_480 rfl)) (fun _ h9 => h9) rfl z_m_call_19 ?_
    refine lv_iadd hx hb z_m_call_22 ?_
    rw [show (12 : Int32) + 2 = 14 from by decide]
    refine wrVv (As := [.int x, .int y, .int z, .int 14]) (rest := []) (wf := fun u : St × Int32 × Int32 × Int64 => wM o cI cZ cL u.1 u.2.1 u.2.2.1 u.2.2.2) ⟨hx, hb, hml, hown, hts⟩ (c_m_tell l dC dI o cI cZ cL v 2 ch cd H.size hi x y z 14) mw_580 mw_577 mw_579 mp_30 mw_6 rfl yd_m_tell ⟨⟨rfl, rfl⟩, Nat.le_of_ble_eq_true rfl, Nat.le_of_ble_eq_true rfl⟩ ⟨Nat.le_of_ble_eq_true rfl, Nat.le_of_ble_eq_true rfl⟩ (WrC.preV hP hK hD hN (ci := 4) (q0 := 0) rfl rfl) (wr_free hD hS hA) hS rfl hl.1 rfl (Nat.le_of_ble_eq_true rfl) z_m_call_23 (fun u_8 H locs h_9 hP hD hS hz9 => ?_)
    obtain rfl : u_8 = (telS (trn v) (ztn v + 1) x y z 14, 2, ch, cd) := h_9.trans (by rw [if_neg (by decide)])
    have hP : va_P (dC, dI) vwCl (wM o cI cZ cL (telS (trn v) (ztn v + 1) x y z 14) 2 ch cd) H := hP
    have hD : va_D A (wM o cI cZ cL (telS (trn v) (ztn v + 1) x y z 14) 2 ch cd) := hD
    refine lv_lconst (v := 0) hx hb z_m_call_26 (by decide) ?_
    exact W.lret (v := 0) hx hb hr (fun t ht hW => ⟨⟨0, (telS (trn v) (ztn v + 1) x y z 14, 2, ch, cd), rfl, ⟨2, rfl, Or.inr (Or.inl ⟨rfl, ho9, hn9, rfl⟩)⟩, by rw [ht]; exact hP, va_K.moved hW.alike hK, hD⟩, hS.F ht⟩) hS.2.2 z_m_call_27
  · have hP : va_P (dC, dI) vwCl (wM o cI cZ cL v 3 ch cd) H := hP
    have hD : va_D A (wM o cI cZ cL v 3 ch cd) := hD
    refine lv_if_eq (tgt := 28) hx hb z_m_call_9 (by decide) (fun c9 => absurd c9 (by decide)) (fun _ => ?_)
    refine lv_aload_n hx hb z_m_call_12 rfl (lv_at hl 0 rfl) ?_
    refine lv_iload_n hx hb z_m_call_13 rfl (lv_at hl 1 rfl) ?_
    refine lv_iload_n hx hb z_m_call_14 rfl (lv_at hl 2 rfl) ?_
    refine lv_iload_n hx hb z_m_call_15 rfl (lv_at hl 3 rfl) ?_
    refine lv_bipush (v := 12) hx hb z_m_call_16 (by decide) ?_
    refine lv_aload_n hx hb z_m_call_18 rfl (lv_at hl 0 rfl) ?_
    refine va_get (D := (dC, dI)) (ci := 4) (v := .int 3) (C := R4) (T := T4) (N := 17) hx hb hts (cw_sub iC4) hown hK hP 0 rfl rfl 0 (by decide) (hts _ (cw_in mw_480 rfl)) (fun _ h9 => h9) rfl z_m_call_19 ?_
    refine lv_iadd hx hb z_m_call_22 ?_
    rw [show (12 : Int32) + 3 = 15 from by decide]
    refine wrVv (As := [.int (nI k), .int (nI j), .int (nI n), .int 15]) (rest := []) (wf := fun u : St × Int32 × Int32 × Int64 => wM o cI cZ cL u.1 u.2.1 u.2.2.1 u.2.2.2) ⟨hx, hb, hml, hown, hts⟩ (c_m_tell l dC dI o cI cZ cL v 3 ch cd H.size hi (nI k) (nI j) (nI n) 15) mw_580 mw_577 mw_579 mp_30 mw_6 rfl yd_m_tell ⟨⟨rfl, rfl⟩, Nat.le_of_ble_eq_true rfl, Nat.le_of_ble_eq_true rfl⟩ ⟨Nat.le_of_ble_eq_true rfl, Nat.le_of_ble_eq_true rfl⟩ (WrC.preV hP hK hD hN (ci := 4) (q0 := 0) rfl rfl) (wr_free hD hS hA) hS rfl hl.1 rfl (Nat.le_of_ble_eq_true rfl) z_m_call_23 (fun u_11 H locs h_12 hP hD hS hz9 => ?_)
    obtain rfl : u_11 = (telS (trn v) (ztn v + 1) (nI k) (nI j) (nI n) 15, 3, ch, cd) := h_12.trans (by rw [if_neg (by decide)])
    have hP : va_P (dC, dI) vwCl (wM o cI cZ cL (telS (trn v) (ztn v + 1) (nI k) (nI j) (nI n) 15) 3 ch cd) H := hP
    have hD : va_D A (wM o cI cZ cL (telS (trn v) (ztn v + 1) (nI k) (nI j) (nI n) 15) 3 ch cd) := hD
    refine lv_lconst (v := 0) hx hb z_m_call_26 (by decide) ?_
    exact W.lret (v := 0) hx hb hr (fun t ht hW => ⟨⟨0, (telS (trn v) (ztn v + 1) (nI k) (nI j) (nI n) 15, 3, ch, cd), rfl, ⟨3, rfl, Or.inr (Or.inr ⟨k, j, n, hk, hj, hn, rfl, rfl, rfl, hm9, ha9, Or.inl ⟨rfl, hc9, rfl⟩⟩)⟩, by rw [ht]; exact hP, va_K.moved hW.alike hK, hD⟩, hS.F ht⟩) hS.2.2 z_m_call_27
  · have hP : va_P (dC, dI) vwCl (wM o cI cZ cL v 0 ch cd) H := hP
    have hD : va_D A (wM o cI cZ cL v 0 ch cd) := hD
    refine lv_if_eq (tgt := 28) hx hb z_m_call_9 (by decide) (fun _ => ?_) (fun c9 => absurd (by decide) c9)
    have hM := (hi.mk k hk).1
    refine lv_aload_n hx hb z_m_call_28 rfl (lv_at hl 0 rfl) ?_
    refine lv_iload_n hx hb z_m_call_29 rfl (lv_at hl 1 rfl) ?_
    refine lv_iload_n hx hb z_m_call_30 rfl (lv_at hl 2 rfl) ?_
    refine lv_iload_n hx hb z_m_call_31 rfl (lv_at hl 3 rfl) ?_
    refine lv_iload hx hb z_m_call_32 (lv_at hl 4 rfl) ?_
    refine wrVl (As := [.int (nI k), .int (nI j), .int (nI n), .int a]) (rest := []) (wf := fun u : St × Int32 × Int32 × Int64 => wM o cI cZ cL u.1 u.2.1 u.2.2.1 u.2.2.2) ⟨hx, hb, hml, hown, hts⟩ (c_m_workOut l dC dI o cI cZ cL v 0 ch cd H.size hi k j n hk hj hn a) mw_584 mw_581 mw_583 mp_31 mw_6 rfl yd_m_workOut ⟨⟨rfl, rfl⟩, Nat.le_of_ble_eq_true rfl, Nat.le_of_ble_eq_true rfl⟩ ⟨Nat.le_of_ble_eq_true rfl, Nat.le_of_ble_eq_true rfl⟩ (WrC.preV hP hK hD hN (ci := 4) (q0 := 0) rfl rfl) (wr_free hD hS hA) hS rfl hl.1 rfl (Nat.le_of_ble_eq_true rfl) z_m_call_34 (fun r_13 u_14 H locs h_15 hP hD hS hz9 => ?_)
    obtain ⟨ch2, cd2, rfl, rfl, hnd⟩ := h_15
    have hP : va_P (dC, dI) vwCl (wM o cI cZ cL v 0 ch2 cd2) H := hP
    have hD : va_D A (wM o cI cZ cL v 0 ch2 cd2) := hD
    refine lv_lstore (lv' := [(5, .long (anF v k j n a)), (0, .ref (o 0)), (1, .int (nI k)), (2, .int (nI j)), (3, .int (nI n)), (4, .int a)]) hx hb z_m_call_37 hl (by decide) rfl (fun ls hl => ?_)
    refine lv_lload hx hb z_m_call_39 (lv_at hl 0 rfl) ?_
    refine lv_ldc2 (v := (-9000000000000)) hx hb hown (hts _ (cw_in mw_608 rfl)) z_m_call_41 ?_
    refine W.lcmp hx hb z_m_call_44 ?_
    refine lv_if_gt (tgt := 52) hx hb z_m_call_45 (by decide) (fun c_45 => ?_) (fun c_45 => ?_)
    · refine lv_iconst (v := 0) hx hb z_m_call_52 (by decide) ?_
      refine lv_istore (lv' := [(7, .int 0), (5, .long (anF v k j n a)), (0, .ref (o 0)), (1, .int (nI k)), (2, .int (nI j)), (3, .int (nI n)), (4, .int a)]) hx hb z_m_call_53 hl (by decide) rfl (fun ls hl => ?_)
      refine lv_aload_n hx hb z_m_call_55 rfl (lv_at hl 2 rfl) ?_
      refine lv_iload_n hx hb z_m_call_56 rfl (lv_at hl 3 rfl) ?_
      refine lv_iload_n hx hb z_m_call_57 rfl (lv_at hl 4 rfl) ?_
      refine lv_iload_n hx hb z_m_call_58 rfl (lv_at hl 5 rfl) ?_
      refine lv_iload hx hb z_m_call_59 (lv_at hl 0 rfl) ?_
      refine lv_if_eq (tgt := 74) hx hb z_m_call_61 (by decide) (fun _ => ?_) (fun c9 => absurd (by decide) c9)
      refine lv_iconst (v := 0) hx hb z_m_call_74 (by decide) ?_
      refine wrVv (As := [.int (nI k), .int (nI j), .int (nI n), .int 0]) (rest := []) (wf := fun u : St × Int32 × Int32 × Int64 => wM o cI cZ cL u.1 u.2.1 u.2.2.1 u.2.2.2) ⟨hx, hb, hml, hown, hts⟩ (c_m_tell l dC dI o cI cZ cL v 0 ch2 cd2 H.size hi (nI k) (nI j) (nI n) 0) mw_580 mw_577 mw_579 mp_30 mw_6 rfl yd_m_tell ⟨⟨rfl, rfl⟩, Nat.le_of_ble_eq_true rfl, Nat.le_of_ble_eq_true rfl⟩ ⟨Nat.le_of_ble_eq_true rfl, Nat.le_of_ble_eq_true rfl⟩ (WrC.preV hP hK hD hN (ci := 4) (q0 := 0) rfl rfl) (wr_free hD hS hA) hS rfl hl.1 rfl (Nat.le_of_ble_eq_true rfl) z_m_call_75 (fun u_17 H locs h_18 hP hD hS hz9 => ?_)
      obtain rfl : u_17 = (trn v, 0, ch2, cd2) := h_18.trans (by rw [if_pos rfl])
      have hP : va_P (dC, dI) vwCl (wM o cI cZ cL (trn v) 0 ch2 cd2) H := hP
      have hD : va_D A (wM o cI cZ cL (trn v) 0 ch2 cd2) := hD
      refine lv_iload hx hb z_m_call_78 (lv_at hl 0 rfl) ?_
      refine lv_if_ne (tgt := 103) hx hb z_m_call_80 (by decide) (fun c9 => absurd rfl c9) (fun _ => ?_)
      have hge : ¬ anF v k j n a < -9000000000000 := fun q9 => Int64.lt_asymm q9 (lcmp_gt.mp c_45)
      rcases hnd with ⟨rfl, hnd⟩ | ⟨g, hg, rfl, rfl, hrg, hnd⟩
      · have hnd := hnd.resolve_right hge
        refine lv_aload_n hx hb z_m_call_83 rfl (lv_at hl 2 rfl) ?_
        refine va_get (D := (dC, dI)) (ci := 4) (v := .int (-1)) (C := R4) (T := T4) (N := 17) hx hb hts (cw_sub iC4) hown hK hP 0 rfl rfl 15 (by decide) (hts _ (cw_in mw_495 rfl)) (fun _ h9 => h9) rfl z_m_call_84 ?_
        refine lv_if_lt (tgt := 103) hx hb z_m_call_87 (by decide) (fun _ => ?_) (fun c9 => absurd (by decide) c9)
        refine lv_iload hx hb z_m_call_103 (lv_at hl 0 rfl) ?_
        refine lv_if_ne (tgt := 136) hx hb z_m_call_105 (by decide) (fun c9 => absurd rfl c9) (fun _ => ?_)
        refine lv_aload_n hx hb z_m_call_108 rfl (lv_at hl 2 rfl) ?_
        refine va_get (D := (dC, dI)) (ci := 4) (v := .ref (o 8)) (C := R4) (T := T4) (N := 17) hx hb hts (cw_sub iC4) hown hK hP 0 rfl rfl 8 (by decide) (hts _ (cw_in mw_488 rfl)) (fun _ h9 => h9) rfl z_m_call_109 ?_
        refine lv_bipush (v := 8) hx hb z_m_call_112 (by decide) ?_
        refine lv_iload_n hx hb z_m_call_114 rfl (lv_at hl 3 rfl) ?_
        refine lv_imul hx hb z_m_call_115 ?_
        refine lv_iload_n hx hb z_m_call_116 rfl (lv_at hl 5 rfl) ?_
        refine lv_iadd hx hb z_m_call_117 ?_
        rw [s8_nI]
        refine xa_i hx hb hK hP 8 0 rfl rfl (k := (k * 8 + n)) (y := zmd v (k * 8 + n)) (by omega) (by decide) (rfl) z_m_call_118 ?_
        refine lv_bipush (v := 7) hx hb z_m_call_119 (by decide) ?_
        refine lv_icmp_ne (tgt := 136) hx hb z_m_call_121 (by decide) (fun c_121 => ?_) (fun c_121 => ?_)
        · refine lv_lload hx hb z_m_call_136 (lv_at hl 1 rfl) ?_
          exact W.lret (v := anF v k j n a) hx hb hr (fun t ht hW => ⟨⟨anF v k j n a, (trn v, 0, (-1), cd2), rfl, ⟨0, rfl, Or.inr (Or.inr ⟨k, j, n, hk, hj, hn, rfl, rfl, rfl, hm9, ha9, Or.inr ⟨rfl, hc9, rfl, Or.inr ⟨hge, carF_o (v := trn v) hnd.1 hnd.2 c_121⟩⟩⟩)⟩, by rw [ht]; exact hP, va_K.moved hW.alike hK, hD⟩, hS.F ht⟩) hS.2.2 z_m_call_138
        · refine lv_aload_n hx hb z_m_call_124 rfl (lv_at hl 2 rfl) ?_
          refine va_get (D := (dC, dI)) (ci := 4) (v := .ref (o 4)) (C := R4) (T := T4) (N := 17) hx hb hts (cw_sub iC4) hown hK hP 0 rfl rfl 4 (by decide) (hts _ (cw_in mw_484 rfl)) (fun _ h9 => h9) rfl z_m_call_125 ?_
          refine lv_bipush (v := 30) hx hb z_m_call_128 (by decide) ?_
          refine lv_iload_n hx hb z_m_call_130 rfl (lv_at hl 3 rfl) ?_
          refine lv_imul hx hb z_m_call_131 ?_
          refine lv_iload_n hx hb z_m_call_132 rfl (lv_at hl 4 rfl) ?_
          refine lv_iadd hx hb z_m_call_133 ?_
          rw [s30_nI]
          refine lv_iconst (v := 0) hx hb z_m_call_134 (by decide) ?_
          refine xs_z hx hb hK hP hD hS 4 1 rfl rfl (k := (k * 30 + j)) (y := 0) (by omega) (by decide) (rfl) z_m_call_135 (fun H locs hP hD hS => ?_)
          have hP : va_P (dC, dI) vwCl (wM o cI cZ cL (uop (trn v) (upd (zop (trn v)) (k * 30 + j) 0)) 0 (-1) cd2) H := hP
          have hD : va_D A (wM o cI cZ cL (uop (trn v) (upd (zop (trn v)) (k * 30 + j) 0)) 0 (-1) cd2) := hD
          refine lv_lload hx hb z_m_call_136 (lv_at hl 1 rfl) ?_
          exact W.lret (v := anF v k j n a) hx hb hr (fun t ht hW => ⟨⟨anF v k j n a, (uop (trn v) (upd (zop (trn v)) (k * 30 + j) 0), 0, (-1), cd2), rfl, ⟨0, rfl, Or.inr (Or.inr ⟨k, j, n, hk, hj, hn, rfl, rfl, rfl, hm9, ha9, Or.inr ⟨rfl, hc9, rfl, Or.inr ⟨hge, carF_7 (v := trn v) c_121⟩⟩⟩)⟩, by rw [ht]; exact hP, va_K.moved hW.alike hK, hD⟩, hS.F ht⟩) hS.2.2 z_m_call_138
      · refine lv_aload_n hx hb z_m_call_83 rfl (lv_at hl 2 rfl) ?_
        refine va_get (D := (dC, dI)) (ci := 4) (v := .int (nI g)) (C := R4) (T := T4) (N := 17) hx hb hts (cw_sub iC4) hown hK hP 0 rfl rfl 15 (by decide) (hts _ (cw_in mw_495 rfl)) (fun _ h9 => h9) rfl z_m_call_84 ?_
        refine lv_if_lt (tgt := 103) hx hb z_m_call_87 (by decide) (fun c_87 => False.elim (nI_pos (n := g) (by omega) c_87)) (fun c_87 => ?_)
        refine lv_aload_n hx hb z_m_call_90 rfl (lv_at hl 2 rfl) ?_
        refine va_get (D := (dC, dI)) (ci := 4) (v := .ref (o 5)) (C := R4) (T := T4) (N := 17) hx hb hts (cw_sub iC4) hown hK hP 0 rfl rfl 5 (by decide) (hts _ (cw_in mw_485 rfl)) (fun _ h9 => h9) rfl z_m_call_91 ?_
        refine lv_aload_n hx hb z_m_call_94 rfl (lv_at hl 2 rfl) ?_
        refine va_get (D := (dC, dI)) (ci := 4) (v := .int (nI g)) (C := R4) (T := T4) (N := 17) hx hb hts (cw_sub iC4) hown hK hP 0 rfl rfl 15 (by decide) (hts _ (cw_in mw_495 rfl)) (fun _ h9 => h9) rfl z_m_call_95 ?_
        refine lv_aload_n hx hb z_m_call_98 rfl (lv_at hl 2 rfl) ?_
        refine va_get (D := (dC, dI)) (ci := 4) (v := .long (anF v k j n a)) (C := R4) (T := T4) (N := 17) hx hb hts (cw_sub iC4) hown hK hP 0 rfl rfl 16 (by decide) (hts _ (cw_in mw_496 rfl)) (fun _ h9 => h9) rfl z_m_call_99 ?_
        refine xs_l hx hb hK hP hD hS 5 2 rfl rfl (k := g) hg (by decide) z_m_call_102 (fun H locs hP hD hS => ?_)
        have e7 := sumW (v := v) (g := g) hrg
        have hP : va_P (dC, dI) vwCl (wM o cI cZ cL (usm (trn v) (upd (zsm v) g (anF v k j n a).toInt32)) 0 (nI g) (anF v k j n a)) H := by have hP9 := hP; rw [show (vp_updL (fun i => (zsm (trn v) i).toInt64) g (anF v k j n a)) = fun i => (upd (zsm v) g (anF v k j n a).toInt32 i).toInt64 from e7] at hP9; exact hP9
        have hD : va_D A (wM o cI cZ cL (usm (trn v) (upd (zsm v) g (anF v k j n a).toInt32)) 0 (nI g) (anF v k j n a)) := by have hD9 := hD; rw [show (vp_updL (fun i => (zsm (trn v) i).toInt64) g (anF v k j n a)) = fun i => (upd (zsm v) g (anF v k j n a).toInt32 i).toInt64 from e7] at hD9; exact hD9
        refine lv_iload hx hb z_m_call_103 (lv_at hl 0 rfl) ?_
        refine lv_if_ne (tgt := 136) hx hb z_m_call_105 (by decide) (fun c9 => absurd rfl c9) (fun _ => ?_)
        refine lv_aload_n hx hb z_m_call_108 rfl (lv_at hl 2 rfl) ?_
        refine va_get (D := (dC, dI)) (ci := 4) (v := .ref (o 8)) (C := R4) (T := T4) (N := 17) hx hb hts (cw_sub iC4) hown hK hP 0 rfl rfl 8 (by decide) (hts _ (cw_in mw_488 rfl)) (fun _ h9 => h9) rfl z_m_call_109 ?_
        refine lv_bipush (v := 8) hx hb z_m_call_112 (by decide) ?_
        refine lv_iload_n hx hb z_m_call_114 rfl (lv_at hl 3 rfl) ?_
        refine lv_imul hx hb z_m_call_115 ?_
        refine lv_iload_n hx hb z_m_call_116 rfl (lv_at hl 5 rfl) ?_
        refine lv_iadd hx hb z_m_call_117 ?_
        rw [s8_nI]
        refine xa_i hx hb hK hP 8 0 rfl rfl (k := (k * 8 + n)) (y := zmd v (k * 8 + n)) (by omega) (by decide) (rfl) z_m_call_118 ?_
        refine lv_bipush (v := 7) hx hb z_m_call_119 (by decide) ?_
        refine lv_icmp_ne (tgt := 136) hx hb z_m_call_121 (by decide) (fun c_121 => ?_) (fun c_121 => False.elim (by rcases hnd with h9 | h9 <;> (have h8 := h9.1; rw [c_121] at h8; exact absurd h8 (by decide))))
        refine lv_lload hx hb z_m_call_136 (lv_at hl 1 rfl) ?_
        exact W.lret (v := anF v k j n a) hx hb hr (fun t ht hW => ⟨⟨anF v k j n a, (usm (trn v) (upd (zsm v) g (anF v k j n a).toInt32), 0, nI g, anF v k j n a), rfl, ⟨0, rfl, Or.inr (Or.inr ⟨k, j, n, hk, hj, hn, rfl, rfl, rfl, hm9, ha9, Or.inr ⟨rfl, hc9, rfl, Or.inr ⟨hge, by rcases hnd with ⟨h9, rfl⟩ | ⟨h9, h8, rfl⟩; exact carF_2 (v := trn v) h9; rw [carF, if_neg (show ¬ zmd (trn v) (k * 8 + n) = 2 by show ¬ zmd v (k * 8 + n) = 2; rw [h9]; decide), if_pos (show zmd (trn v) (k * 8 + n) = 6 from h9), if_neg (show ¬ zka (trn v) k = -1 from h8)]; rfl⟩⟩⟩)⟩, by rw [ht]; exact hP, va_K.moved hW.alike hK, hD⟩, hS.F ht⟩) hS.2.2 z_m_call_138
    · refine lv_iconst (v := 1) hx hb z_m_call_48 (by decide) ?_
      refine lv_goto (tgt := 53) hx hb z_m_call_49 (by decide) ?_
      refine lv_istore (lv' := [(7, .int 1), (5, .long (anF v k j n a)), (0, .ref (o 0)), (1, .int (nI k)), (2, .int (nI j)), (3, .int (nI n)), (4, .int a)]) hx hb z_m_call_53 hl (by decide) rfl (fun ls hl => ?_)
      refine lv_aload_n hx hb z_m_call_55 rfl (lv_at hl 2 rfl) ?_
      refine lv_iload_n hx hb z_m_call_56 rfl (lv_at hl 3 rfl) ?_
      refine lv_iload_n hx hb z_m_call_57 rfl (lv_at hl 4 rfl) ?_
      refine lv_iload_n hx hb z_m_call_58 rfl (lv_at hl 5 rfl) ?_
      refine lv_iload hx hb z_m_call_59 (lv_at hl 0 rfl) ?_
      refine lv_if_eq (tgt := 74) hx hb z_m_call_61 (by decide) (fun c9 => absurd c9 (by decide)) (fun _ => ?_)
      refine lv_ldc2 (v := (-9000000000000)) hx hb hown (hts _ (cw_in mw_608 rfl)) z_m_call_64 ?_
      refine lv_lload hx hb z_m_call_67 (lv_at hl 1 rfl) ?_
      refine lv_lsub hx hb z_m_call_69 ?_
      refine lv_l2i hx hb z_m_call_70 rfl ?_
      refine lv_goto (tgt := 75) hx hb z_m_call_71 (by decide) ?_
      refine wrVv (As := [.int (nI k), .int (nI j), .int (nI n), .int (((-9000000000000) - (anF v k j n a)).toInt32)]) (rest := []) (wf := fun u : St × Int32 × Int32 × Int64 => wM o cI cZ cL u.1 u.2.1 u.2.2.1 u.2.2.2) ⟨hx, hb, hml, hown, hts⟩ (c_m_tell l dC dI o cI cZ cL v 0 ch2 cd2 H.size hi (nI k) (nI j) (nI n) (((-9000000000000) - (anF v k j n a)).toInt32)) mw_580 mw_577 mw_579 mp_30 mw_6 rfl yd_m_tell ⟨⟨rfl, rfl⟩, Nat.le_of_ble_eq_true rfl, Nat.le_of_ble_eq_true rfl⟩ ⟨Nat.le_of_ble_eq_true rfl, Nat.le_of_ble_eq_true rfl⟩ (WrC.preV hP hK hD hN (ci := 4) (q0 := 0) rfl rfl) (wr_free hD hS hA) hS rfl hl.1 rfl (Nat.le_of_ble_eq_true rfl) z_m_call_75 (fun u_20 H locs h_21 hP hD hS hz9 => ?_)
      obtain rfl : u_20 = (telS (trn v) (ztn v + 1) (nI k) (nI j) (nI n) ((-9000000000000 - anF v k j n a).toInt32), 0, ch2, cd2) := h_21.trans (by rw [if_neg (anF_le hi hk hj hn ha9 (fun q9 => c_45 (lcmp_gt.mpr q9))).2])
      have hP : va_P (dC, dI) vwCl (wM o cI cZ cL (telS (trn v) (ztn v + 1) (nI k) (nI j) (nI n) ((-9000000000000 - anF v k j n a).toInt32)) 0 ch2 cd2) H := hP
      have hD : va_D A (wM o cI cZ cL (telS (trn v) (ztn v + 1) (nI k) (nI j) (nI n) ((-9000000000000 - anF v k j n a).toInt32)) 0 ch2 cd2) := hD
      refine lv_iload hx hb z_m_call_78 (lv_at hl 0 rfl) ?_
      refine lv_if_ne (tgt := 103) hx hb z_m_call_80 (by decide) (fun _ => ?_) (fun c9 => absurd c9 (by decide))
      refine lv_iload hx hb z_m_call_103 (lv_at hl 0 rfl) ?_
      refine lv_if_ne (tgt := 136) hx hb z_m_call_105 (by decide) (fun _ => ?_) (fun c9 => absurd c9 (by decide))
      refine lv_lload hx hb z_m_call_136 (lv_at hl 1 rfl) ?_
      exact W.lret (v := anF v k j n a) hx hb hr (fun t ht hW => ⟨⟨anF v k j n a, (telS (trn v) (ztn v + 1) (nI k) (nI j) (nI n) ((-9000000000000 - anF v k j n a).toInt32), 0, ch2, cd2), rfl, ⟨0, rfl, Or.inr (Or.inr ⟨k, j, n, hk, hj, hn, rfl, rfl, rfl, hm9, ha9, Or.inr ⟨rfl, hc9, rfl, Or.inl ⟨(anF_le hi hk hj hn ha9 (fun q9 => c_45 (lcmp_gt.mpr q9))).1, rfl⟩⟩⟩)⟩, by rw [ht]; exact hP, va_K.moved hW.alike hK, hD⟩, hS.F ht⟩) hS.2.2 z_m_call_138

set_option maxHeartbeats 4000000 in
set_option maxRecDepth 100000 in
theorem c_m_textAt (l : Launch) (dC : Nat → ClassId) (dI : Nat → Nat → Nat) (o : Nat → Nat) (cI cZ cL : ClassId) (v : St) (th ch : Int32) (cd : Int64) (sz : Nat) (hi : Inv v) (x y i0 : Int32) : Met l y_m_textAt (Cond.code y_m_textAt b_m_textAt 5 (some .int) :: CW) { frames := 3, cells := 0, slots := 0, locals := 64 } (va_Pc [.ref (o 0), .int x, .int y, .int i0] (WrC (dC, dI) sz (wM o cI cZ cL v th ch cd) (tyM cI cZ cL))) (va_Qi (fun (r : Int32) (u : St × Int32 × Int32 × Int64) => ∃ c9 : Nat, u.2.1 = nI c9 ∧ spTextAt v x y i0 c9 r u.1) (fun u => WrB (dC, dI) (wM o cI cZ cL u.1 u.2.1 u.2.2.1 u.2.2.2) (tyM cI cZ cL) (va_A (wM o cI cZ cL v th ch cd) sz)) (va_A (wM o cI cZ cL v th ch cd) sz)) 0 0 (va_A (wM o cI cZ cL v th ch cd) sz) := by
  refine cx_met (by decide) (Nat.le_of_ble_eq_true rfl) ?_
  intro p e s m below meth c hx hb hr hml hts hown hlocks hnm hC ls hl
  obtain ⟨hsz, hP, hK, hD0, hN⟩ := hC
  subst hsz
  have hD := hD0.self (sz := s.heap.size)
  generalize hAe : va_A (wM o cI cZ cL v th ch cd) s.heap.size = A at hD ⊢
  have hA : ∀ q9 : Nat, s.heap.size ≤ q9 → A q9 := fun q9 h => by rw [← hAe]; exact Or.inr h
  have hS : va_S A s.heap s.heap [] := va_S.rf
  have hown : s.vm.findClass "ServiceDeskModel" = some m.cls := hown
  have hl : lv_has ls 5 [(0, .ref (o 0)), (1, .int x), (2, .int y), (3, .int i0)] := hl
  refine lv_aload_n hx hb z_m_textAt_0 rfl (lv_at hl 0 rfl) ?_
  refine lv_aload_n hx hb z_m_textAt_1 rfl (lv_at hl 0 rfl) ?_
  refine lv_iload_n hx hb z_m_textAt_2 rfl (lv_at hl 1 rfl) ?_
  refine lv_iload_n hx hb z_m_textAt_3 rfl (lv_at hl 2 rfl) ?_
  refine rdVi (As := [.int x, .int y]) (rest := [.ref (o 0)]) ⟨hx, hb, hml, hown, hts⟩ (c_m_isSubject l dC dI o cI cZ cL v th ch cd hi x y) mw_562 mw_559 mw_561 mp_28 mw_6 rfl yd_m_isSubject ⟨⟨rfl, rfl⟩, Nat.le_of_ble_eq_true rfl, Nat.le_of_ble_eq_true rfl⟩ ⟨Nat.zero_le _, Nat.zero_le _⟩ (RdC.preV hP hK hN (ci := 4) (q0 := 0) rfl rfl) rfl hl.1 rfl (Nat.le_of_ble_eq_true rfl) z_m_textAt_4 (fun r_1 h_2 => ?_)
  rcases h_2 with ⟨rfl, h_2⟩ | ⟨rfl, h_2⟩
  · obtain ⟨k, j, hk, hj, rfl, rfl⟩ := h_2
    have hM := (hi.mk k hk).1
    refine lv_if_ne (tgt := 14) hx hb z_m_textAt_7 (by decide) (fun _ => ?_) (fun c9 => absurd c9 (by decide))
    refine lv_iconst (v := 0) hx hb z_m_textAt_14 (by decide) ?_
    refine lv_iload_n hx hb z_m_textAt_15 rfl (lv_at hl 3 rfl) ?_
    refine lv_if_ge (tgt := 23) hx hb z_m_textAt_16 (by decide) (fun c_16 => ?_) (fun c_16 => ?_)
    · refine lv_iconst (v := 0) hx hb z_m_textAt_23 (by decide) ?_
      refine lv_iconst (v := 0) hx hb z_m_textAt_24 (by decide) ?_
      refine lv_iconst (v := 0) hx hb z_m_textAt_25 (by decide) ?_
      refine wrVi (As := [.int 0, .int 0, .int 0, .int 0]) (rest := []) (wf := fun u : St × Int32 × Int32 × Int64 => wM o cI cZ cL u.1 u.2.1 u.2.2.1 u.2.2.2) ⟨hx, hb, hml, hown, hts⟩ (c_m_throwing l dC dI o cI cZ cL v th ch cd s.heap.size 0 0 0 0) mw_554 mw_551 mw_553 mp_27 mw_6 rfl yd_m_throwing ⟨⟨rfl, rfl⟩, Nat.le_of_ble_eq_true rfl, Nat.le_of_ble_eq_true rfl⟩ ⟨Nat.le_of_ble_eq_true rfl, Nat.le_of_ble_eq_true rfl⟩ (WrC.preV hP hK hD hN (ci := 4) (q0 := 0) rfl rfl) (wr_free hD hS hA) hS rfl hl.1 rfl (Nat.le_of_ble_eq_true rfl) z_m_textAt_26 (fun r_3 u_4 H locs h_5 hP hD hS hz9 => ?_)
      obtain ⟨rfl, rfl⟩ : r_3 = 0 ∧ u_4 = (v, 0, ch, cd) := ⟨h_5.1.trans (by decide), h_5.2.trans (by rw [show thF 0 0 0 0 = 0 from by decide])⟩
      have hP : va_P (dC, dI) vwCl (wM o cI cZ cL v 0 ch cd) H := hP
      have hD : va_D A (wM o cI cZ cL v 0 ch cd) := hD
      refine lv_if_eq (tgt := 34) hx hb z_m_textAt_29 (by decide) (fun _ => ?_) (fun c9 => absurd (by decide) c9)
      obtain ⟨t0, ht0, rfl⟩ := nI_of (Int32.not_lt.mpr c_16)
      have hL := (hi.ln (k * 30 + j) (by omega)).1
      refine lv_bipush (v := 30) hx hb z_m_textAt_34 (by decide) ?_
      refine lv_iload_n hx hb z_m_textAt_36 rfl (lv_at hl 1 rfl) ?_
      refine lv_imul hx hb z_m_textAt_37 ?_
      refine lv_iload_n hx hb z_m_textAt_38 rfl (lv_at hl 2 rfl) ?_
      refine lv_iadd hx hb z_m_textAt_39 ?_
      rw [s30_nI]
      refine lv_istore (lv' := [(4, .int (nI (k * 30 + j))), (0, .ref (o 0)), (1, .int (nI k)), (2, .int (nI j)), (3, .int (nI t0))]) hx hb z_m_textAt_40 hl (by decide) rfl (fun ls hl => ?_)
      refine lv_iload_n hx hb z_m_textAt_42 rfl (lv_at hl 4 rfl) ?_
      refine lv_aload_n hx hb z_m_textAt_43 rfl (lv_at hl 1 rfl) ?_
      refine va_get (D := (dC, dI)) (ci := 4) (v := .ref (o 6)) (C := R4) (T := T4) (N := 17) hx hb hts (cw_sub iC4) hown hK hP 0 rfl rfl 6 (by decide) (hts _ (cw_in mw_486 rfl)) (fun _ h9 => h9) rfl z_m_textAt_44 ?_
      refine lv_iload hx hb z_m_textAt_47 (lv_at hl 0 rfl) ?_
      refine xa_i hx hb hK hP 6 0 rfl rfl (k := (k * 30 + j)) (y := nI (lN9 v (k * 30 + j))) (by omega) (by decide) ((hi.ln (k * 30 + j) (by omega)).2) z_m_textAt_49 ?_
      refine lv_icmp_ge (tgt := 68) hx hb z_m_textAt_50 (by decide) (fun c_50 => ?_) (fun c_50 => ?_)
      · refine lv_iconst (v := (-1)) hx hb z_m_textAt_68 (by decide) ?_
        exact W.iret (v := (-1)) hx hb hr (fun t ht hW => ⟨⟨(-1), (v, 0, ch, cd), rfl, ⟨0, rfl, rfl, Or.inr (Or.inr ⟨rfl, k, j, t0, hk, hj, rfl, rfl, ht0, rfl, Or.inr ⟨Nat.not_lt.mpr ((nI_leI (by omega) ht0).mp c_50), rfl⟩⟩)⟩, by rw [ht]; exact hP, va_K.moved hW.alike hK, hD⟩, hS.F ht⟩) hS.2.2 z_m_textAt_69
      · have hlt : t0 < lN9 v (k * 30 + j) := nlt_of ht0 c_50
        refine lv_aload_n hx hb z_m_textAt_53 rfl (lv_at hl 1 rfl) ?_
        refine va_get (D := (dC, dI)) (ci := 4) (v := .ref (o 7)) (C := R4) (T := T4) (N := 17) hx hb hts (cw_sub iC4) hown hK hP 0 rfl rfl 7 (by decide) (hts _ (cw_in mw_487 rfl)) (fun _ h9 => h9) rfl z_m_textAt_54 ?_
        refine lv_bipush (v := 16) hx hb z_m_textAt_57 (by decide) ?_
        refine lv_iload hx hb z_m_textAt_59 (lv_at hl 0 rfl) ?_
        refine lv_imul hx hb z_m_textAt_61 ?_
        refine lv_iload_n hx hb z_m_textAt_62 rfl (lv_at hl 4 rfl) ?_
        refine lv_iadd hx hb z_m_textAt_63 ?_
        rw [s16_nI]
        refine xa_i hx hb hK hP 7 0 rfl rfl (k := ((k * 30 + j) * 16 + t0)) (y := ztx v ((k * 30 + j) * 16 + t0) &&& 255) (by omega) (by decide) (rfl) z_m_textAt_64 ?_
        refine lv_goto (tgt := 69) hx hb z_m_textAt_65 (by decide) ?_
        exact W.iret (v := ztx v ((k * 30 + j) * 16 + t0) &&& 255) hx hb hr (fun t ht hW => ⟨⟨ztx v ((k * 30 + j) * 16 + t0) &&& 255, (v, 0, ch, cd), rfl, ⟨0, rfl, rfl, Or.inr (Or.inr ⟨rfl, k, j, t0, hk, hj, rfl, rfl, ht0, rfl, Or.inl ⟨hlt, rfl⟩⟩)⟩, by rw [ht]; exact hP, va_K.moved hW.alike hK, hD⟩, hS.F ht⟩) hS.2.2 z_m_textAt_69
    · refine lv_iconst (v := 1) hx hb z_m_textAt_19 (by decide) ?_
      refine lv_goto (tgt := 24) hx hb z_m_textAt_20 (by decide) ?_
      refine lv_iconst (v := 0) hx hb z_m_textAt_24 (by decide) ?_
      refine lv_iconst (v := 0) hx hb z_m_textAt_25 (by decide) ?_
      refine wrVi (As := [.int 0, .int 1, .int 0, .int 0]) (rest := []) (wf := fun u : St × Int32 × Int32 × Int64 => wM o cI cZ cL u.1 u.2.1 u.2.2.1 u.2.2.2) ⟨hx, hb, hml, hown, hts⟩ (c_m_throwing l dC dI o cI cZ cL v th ch cd s.heap.size 0 1 0 0) mw_554 mw_551 mw_553 mp_27 mw_6 rfl yd_m_throwing ⟨⟨rfl, rfl⟩, Nat.le_of_ble_eq_true rfl, Nat.le_of_ble_eq_true rfl⟩ ⟨Nat.le_of_ble_eq_true rfl, Nat.le_of_ble_eq_true rfl⟩ (WrC.preV hP hK hD hN (ci := 4) (q0 := 0) rfl rfl) (wr_free hD hS hA) hS rfl hl.1 rfl (Nat.le_of_ble_eq_true rfl) z_m_textAt_26 (fun r_6 u_7 H locs h_8 hP hD hS hz9 => ?_)
      obtain ⟨rfl, rfl⟩ : r_6 = 1 ∧ u_7 = (v, 2, ch, cd) := ⟨h_8.1.trans (by decide), h_8.2.trans (by rw [show thF 0 1 0 0 = 2 from by decide])⟩
      have hP : va_P (dC, dI) vwCl (wM o cI cZ cL v 2 ch cd) H := hP
      have hD : va_D A (wM o cI cZ cL v 2 ch cd) := hD
      refine lv_if_eq (tgt := 34) hx hb z_m_textAt_29 (by decide) (fun c9 => absurd c9 (by decide)) (fun _ => ?_)
      refine lv_iconst (v := 0) hx hb z_m_textAt_32 (by decide) ?_
      exact W.iret (v := 0) hx hb hr (fun t ht hW => ⟨⟨0, (v, 2, ch, cd), rfl, ⟨2, rfl, rfl, Or.inr (Or.inl ⟨rfl, ⟨k, j, hk, hj, rfl, rfl⟩, Int32.not_le.mp c_16⟩)⟩, by rw [ht]; exact hP, va_K.moved hW.alike hK, hD⟩, hS.F ht⟩) hS.2.2 z_m_textAt_33
  · refine lv_if_ne (tgt := 14) hx hb z_m_textAt_7 (by decide) (fun c9 => absurd rfl c9) (fun _ => ?_)
    refine lv_iconst (v := 1) hx hb z_m_textAt_10 (by decide) ?_
    refine lv_goto (tgt := 15) hx hb z_m_textAt_11 (by decide) ?_
    refine lv_iload_n hx hb z_m_textAt_15 rfl (lv_at hl 3 rfl) ?_
    refine lv_if_ge (tgt := 23) hx hb z_m_textAt_16 (by decide) (fun c_16 => ?_) (fun c_16 => ?_)
    · refine lv_iconst (v := 0) hx hb z_m_textAt_23 (by decide) ?_
      refine lv_iconst (v := 0) hx hb z_m_textAt_24 (by decide) ?_
      refine lv_iconst (v := 0) hx hb z_m_textAt_25 (by decide) ?_
      refine wrVi (As := [.int 1, .int 0, .int 0, .int 0]) (rest := []) (wf := fun u : St × Int32 × Int32 × Int64 => wM o cI cZ cL u.1 u.2.1 u.2.2.1 u.2.2.2) ⟨hx, hb, hml, hown, hts⟩ (c_m_throwing l dC dI o cI cZ cL v th ch cd s.heap.size 1 0 0 0) mw_554 mw_551 mw_553 mp_27 mw_6 rfl yd_m_throwing ⟨⟨rfl, rfl⟩, Nat.le_of_ble_eq_true rfl, Nat.le_of_ble_eq_true rfl⟩ ⟨Nat.le_of_ble_eq_true rfl, Nat.le_of_ble_eq_true rfl⟩ (WrC.preV hP hK hD hN (ci := 4) (q0 := 0) rfl rfl) (wr_free hD hS hA) hS rfl hl.1 rfl (Nat.le_of_ble_eq_true rfl) z_m_textAt_26 (fun r_9 u_10 H locs h_11 hP hD hS hz9 => ?_)
      obtain ⟨rfl, rfl⟩ : r_9 = 1 ∧ u_10 = (v, 1, ch, cd) := ⟨h_11.1.trans (by decide), h_11.2.trans (by rw [show thF 1 0 0 0 = 1 from by decide])⟩
      have hP : va_P (dC, dI) vwCl (wM o cI cZ cL v 1 ch cd) H := hP
      have hD : va_D A (wM o cI cZ cL v 1 ch cd) := hD
      refine lv_if_eq (tgt := 34) hx hb z_m_textAt_29 (by decide) (fun c9 => absurd c9 (by decide)) (fun _ => ?_)
      refine lv_iconst (v := 0) hx hb z_m_textAt_32 (by decide) ?_
      exact W.iret (v := 0) hx hb hr (fun t ht hW => ⟨⟨0, (v, 1, ch, cd), rfl, ⟨1, rfl, rfl, Or.inl ⟨rfl, h_2⟩⟩, by rw [ht]; exact hP, va_K.moved hW.alike hK, hD⟩, hS.F ht⟩) hS.2.2 z_m_textAt_33
    · refine lv_iconst (v := 1) hx hb z_m_textAt_19 (by decide) ?_
      refine lv_goto (tgt := 24) hx hb z_m_textAt_20 (by decide) ?_
      refine lv_iconst (v := 0) hx hb z_m_textAt_24 (by decide) ?_
      refine lv_iconst (v := 0) hx hb z_m_textAt_25 (by decide) ?_
      refine wrVi (As := [.int 1, .int 1, .int 0, .int 0]) (rest := []) (wf := fun u : St × Int32 × Int32 × Int64 => wM o cI cZ cL u.1 u.2.1 u.2.2.1 u.2.2.2) ⟨hx, hb, hml, hown, hts⟩ (c_m_throwing l dC dI o cI cZ cL v th ch cd s.heap.size 1 1 0 0) mw_554 mw_551 mw_553 mp_27 mw_6 rfl yd_m_throwing ⟨⟨rfl, rfl⟩, Nat.le_of_ble_eq_true rfl, Nat.le_of_ble_eq_true rfl⟩ ⟨Nat.le_of_ble_eq_true rfl, Nat.le_of_ble_eq_true rfl⟩ (WrC.preV hP hK hD hN (ci := 4) (q0 := 0) rfl rfl) (wr_free hD hS hA) hS rfl hl.1 rfl (Nat.le_of_ble_eq_true rfl) z_m_textAt_26 (fun r_12 u_13 H locs h_14 hP hD hS hz9 => ?_)
      obtain ⟨rfl, rfl⟩ : r_12 = 1 ∧ u_13 = (v, 1, ch, cd) := ⟨h_14.1.trans (by decide), h_14.2.trans (by rw [show thF 1 1 0 0 = 1 from by decide])⟩
      have hP : va_P (dC, dI) vwCl (wM o cI cZ cL v 1 ch cd) H := hP
      have hD : va_D A (wM o cI cZ cL v 1 ch cd) := hD
      refine lv_if_eq (tgt := 34) hx hb z_m_textAt_29 (by decide) (fun c9 => absurd c9 (by decide)) (fun _ => ?_)
      refine lv_iconst (v := 0) hx hb z_m_textAt_32 (by decide) ?_
      exact W.iret (v := 0) hx hb hr (fun t ht hW => ⟨⟨0, (v, 1, ch, cd), rfl, ⟨1, rfl, rfl, Or.inl ⟨rfl, h_2⟩⟩, by rw [ht]; exact hP, va_K.moved hW.alike hK, hD⟩, hS.F ht⟩) hS.2.2 z_m_textAt_33

set_option maxHeartbeats 4000000 in
set_option maxRecDepth 100000 in
theorem c_m_subject (l : Launch) (dC : Nat → ClassId) (dI : Nat → Nat → Nat) (o : Nat → Nat) (cI cZ cL : ClassId) (v : St) (th ch : Int32) (cd : Int64) (sz : Nat) (hi : Inv v) (x y w0 : Int32) : Met l y_m_subject (Cond.code y_m_subject b_m_subject 5 (some .int) :: CW) { frames := 3, cells := 0, slots := 0, locals := 64 } (va_Pc [.ref (o 0), .int x, .int y, .int w0] (WrC (dC, dI) sz (wM o cI cZ cL v th ch cd) (tyM cI cZ cL))) (va_Qi (fun (r : Int32) (u : St × Int32 × Int32 × Int64) => ∃ c9 : Nat, u.2.1 = nI c9 ∧ spSubj v x y w0 c9 r u.1) (fun u => WrB (dC, dI) (wM o cI cZ cL u.1 u.2.1 u.2.2.1 u.2.2.2) (tyM cI cZ cL) (va_A (wM o cI cZ cL v th ch cd) sz)) (va_A (wM o cI cZ cL v th ch cd) sz)) 0 0 (va_A (wM o cI cZ cL v th ch cd) sz) := by
  refine cx_met (by decide) (Nat.le_of_ble_eq_true rfl) ?_
  intro p e s m below meth c hx hb hr hml hts hown hlocks hnm hC ls hl
  obtain ⟨hsz, hP, hK, hD0, hN⟩ := hC
  subst hsz
  have hD := hD0.self (sz := s.heap.size)
  generalize hAe : va_A (wM o cI cZ cL v th ch cd) s.heap.size = A at hD ⊢
  have hA : ∀ q9 : Nat, s.heap.size ≤ q9 → A q9 := fun q9 h => by rw [← hAe]; exact Or.inr h
  have hS : va_S A s.heap s.heap [] := va_S.rf
  have hown : s.vm.findClass "ServiceDeskModel" = some m.cls := hown
  have hl : lv_has ls 5 [(0, .ref (o 0)), (1, .int x), (2, .int y), (3, .int w0)] := hl
  refine lv_aload_n hx hb z_m_subject_0 rfl (lv_at hl 0 rfl) ?_
  refine lv_aload_n hx hb z_m_subject_1 rfl (lv_at hl 0 rfl) ?_
  refine lv_iload_n hx hb z_m_subject_2 rfl (lv_at hl 1 rfl) ?_
  refine lv_iload_n hx hb z_m_subject_3 rfl (lv_at hl 2 rfl) ?_
  refine rdVi (As := [.int x, .int y]) (rest := [.ref (o 0)]) ⟨hx, hb, hml, hown, hts⟩ (c_m_isSubject l dC dI o cI cZ cL v th ch cd hi x y) mw_562 mw_559 mw_561 mp_28 mw_6 rfl yd_m_isSubject ⟨⟨rfl, rfl⟩, Nat.le_of_ble_eq_true rfl, Nat.le_of_ble_eq_true rfl⟩ ⟨Nat.zero_le _, Nat.zero_le _⟩ (RdC.preV hP hK hN (ci := 4) (q0 := 0) rfl rfl) rfl hl.1 rfl (Nat.le_of_ble_eq_true rfl) z_m_subject_4 (fun r_1 h_2 => ?_)
  rcases h_2 with ⟨rfl, h_2⟩ | ⟨rfl, h_2⟩
  · obtain ⟨k, j, hk, hj, rfl, rfl⟩ := h_2
    have hM := (hi.mk k hk).1
    refine lv_if_eq (tgt := 19) hx hb z_m_subject_7 (by decide) (fun c9 => absurd c9 (by decide)) (fun _ => ?_)
    refine lv_iload_n hx hb z_m_subject_10 rfl (lv_at hl 3 rfl) ?_
    refine lv_iconst (v := 0) hx hb z_m_subject_11 (by decide) ?_
    refine lv_iconst (v := 3) hx hb z_m_subject_12 (by decide) ?_
    refine rdSi (As := [.int w0, .int 0, .int 3]) (rest := [.ref (o 0)]) ⟨hx, hb, hml, hown, hts⟩ (c_m_in l w0 0 3) mw_546 mw_544 mw_545 mw_6 yd_m_in ⟨⟨rfl, rfl⟩, Nat.le_of_ble_eq_true rfl, Nat.le_of_ble_eq_true rfl⟩ ⟨Nat.zero_le _, Nat.zero_le _⟩ (pre_pure) rfl hl.1 rfl (Nat.le_of_ble_eq_true rfl) z_m_subject_13 (fun r_3 h_4 => ?_)
    rcases h_4 with ⟨rfl, h_4⟩ | ⟨rfl, h_4⟩
    · refine lv_if_ne (tgt := 23) hx hb z_m_subject_16 (by decide) (fun _ => ?_) (fun c9 => absurd c9 (by decide))
      refine lv_iconst (v := 0) hx hb z_m_subject_23 (by decide) ?_
      refine lv_iconst (v := 0) hx hb z_m_subject_24 (by decide) ?_
      refine lv_iconst (v := 0) hx hb z_m_subject_25 (by decide) ?_
      refine lv_iconst (v := 0) hx hb z_m_subject_26 (by decide) ?_
      refine wrVi (As := [.int 0, .int 0, .int 0, .int 0]) (rest := []) (wf := fun u : St × Int32 × Int32 × Int64 => wM o cI cZ cL u.1 u.2.1 u.2.2.1 u.2.2.2) ⟨hx, hb, hml, hown, hts⟩ (c_m_throwing l dC dI o cI cZ cL v th ch cd s.heap.size 0 0 0 0) mw_554 mw_551 mw_553 mp_27 mw_6 rfl yd_m_throwing ⟨⟨rfl, rfl⟩, Nat.le_of_ble_eq_true rfl, Nat.le_of_ble_eq_true rfl⟩ ⟨Nat.le_of_ble_eq_true rfl, Nat.le_of_ble_eq_true rfl⟩ (WrC.preV hP hK hD hN (ci := 4) (q0 := 0) rfl rfl) (wr_free hD hS hA) hS rfl hl.1 rfl (Nat.le_of_ble_eq_true rfl) z_m_subject_27 (fun r_5 u_6 H locs h_7 hP hD hS hz9 => ?_)
      obtain ⟨rfl, rfl⟩ : r_5 = 0 ∧ u_6 = (v, 0, ch, cd) := ⟨h_7.1.trans (by decide), h_7.2.trans (by rw [show thF 0 0 0 0 = 0 from by decide])⟩
      have hP : va_P (dC, dI) vwCl (wM o cI cZ cL v 0 ch cd) H := hP
      have hD : va_D A (wM o cI cZ cL v 0 ch cd) := hD
      refine lv_if_eq (tgt := 35) hx hb z_m_subject_30 (by decide) (fun _ => ?_) (fun c9 => absurd (by decide) c9)
      refine lv_bipush (v := 30) hx hb z_m_subject_35 (by decide) ?_
      refine lv_iload_n hx hb z_m_subject_37 rfl (lv_at hl 1 rfl) ?_
      refine lv_imul hx hb z_m_subject_38 ?_
      refine lv_iload_n hx hb z_m_subject_39 rfl (lv_at hl 2 rfl) ?_
      refine lv_iadd hx hb z_m_subject_40 ?_
      rw [s30_nI]
      refine lv_istore (lv' := [(4, .int (nI (k * 30 + j))), (0, .ref (o 0)), (1, .int (nI k)), (2, .int (nI j)), (3, .int w0)]) hx hb z_m_subject_41 hl (by decide) rfl (fun ls hl => ?_)
      refine lv_iload_n hx hb z_m_subject_43 rfl (lv_at hl 4 rfl) ?_
      refine lv_if_ne (tgt := 57) hx hb z_m_subject_44 (by decide) (fun c_44 => ?_) (fun c_44 => ?_)
      · refine lv_iload_n hx hb z_m_subject_57 rfl (lv_at hl 4 rfl) ?_
        refine lv_iconst (v := 1) hx hb z_m_subject_58 (by decide) ?_
        refine lv_icmp_ne (tgt := 80) hx hb z_m_subject_59 (by decide) (fun c_59 => ?_) (fun c_59 => ?_)
        · refine lv_iload_n hx hb z_m_subject_80 rfl (lv_at hl 4 rfl) ?_
          refine lv_iconst (v := 2) hx hb z_m_subject_81 (by decide) ?_
          refine lv_icmp_ne (tgt := 96) hx hb z_m_subject_82 (by decide) (fun c_82 => ?_) (fun c_82 => ?_)
          · refine lv_aload_n hx hb z_m_subject_96 rfl (lv_at hl 1 rfl) ?_
            refine lv_iload_n hx hb z_m_subject_97 rfl (lv_at hl 2 rfl) ?_
            refine lv_iload_n hx hb z_m_subject_98 rfl (lv_at hl 3 rfl) ?_
            refine rdVi (As := [.int (nI k), .int (nI j)]) (rest := []) ⟨hx, hb, hml, hown, hts⟩ (c_m_openUnder l dC dI o cI cZ cL v 0 ch cd hi (nI k) (nI j)) mw_602 mw_599 mw_601 mp_33 mw_6 rfl yd_m_openUnder ⟨⟨rfl, rfl⟩, Nat.le_of_ble_eq_true rfl, Nat.le_of_ble_eq_true rfl⟩ ⟨Nat.zero_le _, Nat.zero_le _⟩ (RdC.preV hP hK hN (ci := 4) (q0 := 0) rfl rfl) rfl hl.1 rfl (Nat.le_of_ble_eq_true rfl) z_m_subject_99 (fun r_8 h_9 => ?_)
            subst h_9
            exact W.iret (v := nI (onC v (nI k) (nI j) 8)) hx hb hr (fun t ht hW => ⟨⟨nI (onC v (nI k) (nI j) 8), (v, 0, ch, cd), rfl, ⟨0, rfl, rfl, Or.inr ⟨rfl, k, j, hk, hj, rfl, rfl, Or.inr (Or.inr (Or.inr ⟨ok3 (in03.mp h_4) c_44 c_59 c_82, rfl⟩))⟩⟩, by rw [ht]; exact hP, va_K.moved hW.alike hK, hD⟩, hS.F ht⟩) hS.2.2 z_m_subject_102
          · refine lv_aload_n hx hb z_m_subject_85 rfl (lv_at hl 1 rfl) ?_
            refine va_get (D := (dC, dI)) (ci := 4) (v := .ref (o 5)) (C := R4) (T := T4) (N := 17) hx hb hts (cw_sub iC4) hown hK hP 0 rfl rfl 5 (by decide) (hts _ (cw_in mw_485 rfl)) (fun _ h9 => h9) rfl z_m_subject_86 ?_
            refine lv_iload hx hb z_m_subject_89 (lv_at hl 0 rfl) ?_
            refine xa_l hx hb hK hP 5 2 rfl rfl (k := (k * 30 + j)) (y := (zsm v (k * 30 + j)).toInt64) (by omega) (by decide) (rfl) z_m_subject_91 ?_
            refine lv_l2i hx hb z_m_subject_92 rfl ?_
            refine lv_goto (tgt := 102) hx hb z_m_subject_93 (by decide) ?_
            exact W.iret (v := ((zsm v (k * 30 + j)).toInt64).toInt32) hx hb hr (fun t ht hW => ⟨⟨((zsm v (k * 30 + j)).toInt64).toInt32, (v, 0, ch, cd), rfl, ⟨0, rfl, rfl, Or.inr ⟨rfl, k, j, hk, hj, rfl, rfl, Or.inr (Or.inr (Or.inl ⟨c_82, i32_64 _⟩))⟩⟩, by rw [ht]; exact hP, va_K.moved hW.alike hK, hD⟩, hS.F ht⟩) hS.2.2 z_m_subject_102
        · refine lv_aload_n hx hb z_m_subject_62 rfl (lv_at hl 1 rfl) ?_
          refine va_get (D := (dC, dI)) (ci := 4) (v := .ref (o 4)) (C := R4) (T := T4) (N := 17) hx hb hts (cw_sub iC4) hown hK hP 0 rfl rfl 4 (by decide) (hts _ (cw_in mw_484 rfl)) (fun _ h9 => h9) rfl z_m_subject_63 ?_
          refine lv_iload hx hb z_m_subject_66 (lv_at hl 0 rfl) ?_
          refine xa_z hx hb hK hP 4 1 rfl rfl (k := (k * 30 + j)) (y := zop v (k * 30 + j)) (by omega) (by decide) (rfl) z_m_subject_68 ?_
          refine lv_if_eq (tgt := 76) hx hb z_m_subject_69 (by decide) (fun c_69 => ?_) (fun c_69 => ?_)
          · refine lv_iconst (v := 0) hx hb z_m_subject_76 (by decide) ?_
            refine lv_goto (tgt := 102) hx hb z_m_subject_77 (by decide) ?_
            exact W.iret (v := 0) hx hb hr (fun t ht hW => ⟨⟨0, (v, 0, ch, cd), rfl, ⟨0, rfl, rfl, Or.inr ⟨rfl, k, j, hk, hj, rfl, rfl, Or.inr (Or.inl ⟨c_59, by rw [if_pos c_69]⟩)⟩⟩, by rw [ht]; exact hP, va_K.moved hW.alike hK, hD⟩, hS.F ht⟩) hS.2.2 z_m_subject_102
          · refine lv_iconst (v := 1) hx hb z_m_subject_72 (by decide) ?_
            refine lv_goto (tgt := 102) hx hb z_m_subject_73 (by decide) ?_
            exact W.iret (v := 1) hx hb hr (fun t ht hW => ⟨⟨1, (v, 0, ch, cd), rfl, ⟨0, rfl, rfl, Or.inr ⟨rfl, k, j, hk, hj, rfl, rfl, Or.inr (Or.inl ⟨c_59, by rw [if_neg c_69]⟩)⟩⟩, by rw [ht]; exact hP, va_K.moved hW.alike hK, hD⟩, hS.F ht⟩) hS.2.2 z_m_subject_102
      · refine lv_aload_n hx hb z_m_subject_47 rfl (lv_at hl 1 rfl) ?_
        refine va_get (D := (dC, dI)) (ci := 4) (v := .ref (o 3)) (C := R4) (T := T4) (N := 17) hx hb hts (cw_sub iC4) hown hK hP 0 rfl rfl 3 (by decide) (hts _ (cw_in mw_483 rfl)) (fun _ h9 => h9) rfl z_m_subject_48 ?_
        refine lv_iload hx hb z_m_subject_51 (lv_at hl 0 rfl) ?_
        refine xa_i hx hb hK hP 3 0 rfl rfl (k := (k * 30 + j)) (y := zab v (k * 30 + j)) (by omega) (by decide) (rfl) z_m_subject_53 ?_
        refine lv_goto (tgt := 102) hx hb z_m_subject_54 (by decide) ?_
        exact W.iret (v := zab v (k * 30 + j)) hx hb hr (fun t ht hW => ⟨⟨zab v (k * 30 + j), (v, 0, ch, cd), rfl, ⟨0, rfl, rfl, Or.inr ⟨rfl, k, j, hk, hj, rfl, rfl, Or.inl ⟨c_44, rfl⟩⟩⟩, by rw [ht]; exact hP, va_K.moved hW.alike hK, hD⟩, hS.F ht⟩) hS.2.2 z_m_subject_102
    · refine lv_if_ne (tgt := 23) hx hb z_m_subject_16 (by decide) (fun c9 => absurd rfl c9) (fun _ => ?_)
      refine lv_iconst (v := 1) hx hb z_m_subject_19 (by decide) ?_
      refine lv_goto (tgt := 24) hx hb z_m_subject_20 (by decide) ?_
      refine lv_iconst (v := 0) hx hb z_m_subject_24 (by decide) ?_
      refine lv_iconst (v := 0) hx hb z_m_subject_25 (by decide) ?_
      refine lv_iconst (v := 0) hx hb z_m_subject_26 (by decide) ?_
      refine wrVi (As := [.int 1, .int 0, .int 0, .int 0]) (rest := []) (wf := fun u : St × Int32 × Int32 × Int64 => wM o cI cZ cL u.1 u.2.1 u.2.2.1 u.2.2.2) ⟨hx, hb, hml, hown, hts⟩ (c_m_throwing l dC dI o cI cZ cL v th ch cd s.heap.size 1 0 0 0) mw_554 mw_551 mw_553 mp_27 mw_6 rfl yd_m_throwing ⟨⟨rfl, rfl⟩, Nat.le_of_ble_eq_true rfl, Nat.le_of_ble_eq_true rfl⟩ ⟨Nat.le_of_ble_eq_true rfl, Nat.le_of_ble_eq_true rfl⟩ (WrC.preV hP hK hD hN (ci := 4) (q0 := 0) rfl rfl) (wr_free hD hS hA) hS rfl hl.1 rfl (Nat.le_of_ble_eq_true rfl) z_m_subject_27 (fun r_10 u_11 H locs h_12 hP hD hS hz9 => ?_)
      obtain ⟨rfl, rfl⟩ : r_10 = 1 ∧ u_11 = (v, 1, ch, cd) := ⟨h_12.1.trans (by decide), h_12.2.trans (by rw [show thF 1 0 0 0 = 1 from by decide])⟩
      have hP : va_P (dC, dI) vwCl (wM o cI cZ cL v 1 ch cd) H := hP
      have hD : va_D A (wM o cI cZ cL v 1 ch cd) := hD
      refine lv_if_eq (tgt := 35) hx hb z_m_subject_30 (by decide) (fun c9 => absurd c9 (by decide)) (fun _ => ?_)
      refine lv_iconst (v := 0) hx hb z_m_subject_33 (by decide) ?_
      exact W.iret (v := 0) hx hb hr (fun t ht hW => ⟨⟨0, (v, 1, ch, cd), rfl, ⟨1, rfl, rfl, Or.inl ⟨rfl, fun h => h_4 (in03.mpr h.2)⟩⟩, by rw [ht]; exact hP, va_K.moved hW.alike hK, hD⟩, hS.F ht⟩) hS.2.2 z_m_subject_34
  · refine lv_if_eq (tgt := 19) hx hb z_m_subject_7 (by decide) (fun _ => ?_) (fun c9 => absurd (by decide) c9)
    refine lv_iconst (v := 1) hx hb z_m_subject_19 (by decide) ?_
    refine lv_goto (tgt := 24) hx hb z_m_subject_20 (by decide) ?_
    refine lv_iconst (v := 0) hx hb z_m_subject_24 (by decide) ?_
    refine lv_iconst (v := 0) hx hb z_m_subject_25 (by decide) ?_
    refine lv_iconst (v := 0) hx hb z_m_subject_26 (by decide) ?_
    refine wrVi (As := [.int 1, .int 0, .int 0, .int 0]) (rest := []) (wf := fun u : St × Int32 × Int32 × Int64 => wM o cI cZ cL u.1 u.2.1 u.2.2.1 u.2.2.2) ⟨hx, hb, hml, hown, hts⟩ (c_m_throwing l dC dI o cI cZ cL v th ch cd s.heap.size 1 0 0 0) mw_554 mw_551 mw_553 mp_27 mw_6 rfl yd_m_throwing ⟨⟨rfl, rfl⟩, Nat.le_of_ble_eq_true rfl, Nat.le_of_ble_eq_true rfl⟩ ⟨Nat.le_of_ble_eq_true rfl, Nat.le_of_ble_eq_true rfl⟩ (WrC.preV hP hK hD hN (ci := 4) (q0 := 0) rfl rfl) (wr_free hD hS hA) hS rfl hl.1 rfl (Nat.le_of_ble_eq_true rfl) z_m_subject_27 (fun r_13 u_14 H locs h_15 hP hD hS hz9 => ?_)
    obtain ⟨rfl, rfl⟩ : r_13 = 1 ∧ u_14 = (v, 1, ch, cd) := ⟨h_15.1.trans (by decide), h_15.2.trans (by rw [show thF 1 0 0 0 = 1 from by decide])⟩
    have hP : va_P (dC, dI) vwCl (wM o cI cZ cL v 1 ch cd) H := hP
    have hD : va_D A (wM o cI cZ cL v 1 ch cd) := hD
    refine lv_if_eq (tgt := 35) hx hb z_m_subject_30 (by decide) (fun c9 => absurd c9 (by decide)) (fun _ => ?_)
    refine lv_iconst (v := 0) hx hb z_m_subject_33 (by decide) ?_
    exact W.iret (v := 0) hx hb hr (fun t ht hW => ⟨⟨0, (v, 1, ch, cd), rfl, ⟨1, rfl, rfl, Or.inl ⟨rfl, fun h => h_2 h.1⟩⟩, by rw [ht]; exact hP, va_K.moved hW.alike hK, hD⟩, hS.F ht⟩) hS.2.2 z_m_subject_34

set_option maxHeartbeats 4000000 in
set_option maxRecDepth 100000 in
theorem c_m_row (l : Launch) (dC : Nat → ClassId) (dI : Nat → Nat → Nat) (o : Nat → Nat) (cI cZ cL : ClassId) (v : St) (th ch : Int32) (cd : Int64) (sz : Nat) (hi : Inv v) (i0 w0 : Int32) : Met l y_m_row (Cond.code y_m_row b_m_row 3 (some .int) :: CW) { frames := 2, cells := 0, slots := 0, locals := 45 } (va_Pc [.ref (o 0), .int i0, .int w0] (WrC (dC, dI) sz (wM o cI cZ cL v th ch cd) (tyM cI cZ cL))) (va_Qi (fun (r : Int32) (u : St × Int32 × Int32 × Int64) => ∃ c9 : Nat, u.2.1 = nI c9 ∧ spRow v i0 w0 c9 r u.1) (fun u => WrB (dC, dI) (wM o cI cZ cL u.1 u.2.1 u.2.2.1 u.2.2.2) (tyM cI cZ cL) (va_A (wM o cI cZ cL v th ch cd) sz)) (va_A (wM o cI cZ cL v th ch cd) sz)) 0 0 (va_A (wM o cI cZ cL v th ch cd) sz) := by
  refine cx_met (by decide) (Nat.le_of_ble_eq_true rfl) ?_
  intro p e s m below meth c hx hb hr hml hts hown hlocks hnm hC ls hl
  obtain ⟨hsz, hP, hK, hD0, hN⟩ := hC
  subst hsz
  have hD := hD0.self (sz := s.heap.size)
  generalize hAe : va_A (wM o cI cZ cL v th ch cd) s.heap.size = A at hD ⊢
  have hA : ∀ q9 : Nat, s.heap.size ≤ q9 → A q9 := fun q9 h => by rw [← hAe]; exact Or.inr h
  have hS : va_S A s.heap s.heap [] := va_S.rf
  have hown : s.vm.findClass "ServiceDeskModel" = some m.cls := hown
  have hl : lv_has ls 3 [(0, .ref (o 0)), (1, .int i0), (2, .int w0)] := hl
  have hL := hi.kp.1
  refine lv_aload_n hx hb z_m_row_0 rfl (lv_at hl 0 rfl) ?_
  refine lv_iload_n hx hb z_m_row_1 rfl (lv_at hl 1 rfl) ?_
  refine lv_iconst (v := 0) hx hb z_m_row_2 (by decide) ?_
  refine lv_aload_n hx hb z_m_row_3 rfl (lv_at hl 0 rfl) ?_
  refine va_get (D := (dC, dI)) (ci := 4) (v := .int (zkp v)) (C := R4) (T := T4) (N := 17) hx hb hts (cw_sub iC4) hown hK hP 0 rfl rfl 13 (by decide) (hts _ (cw_in mw_493 rfl)) (fun _ h9 => h9) rfl z_m_row_4 ?_
  rw [hi.kp.2]
  refine lv_iconst (v := 1) hx hb z_m_row_7 (by decide) ?_
  refine lv_isub hx hb z_m_row_8 ?_
  refine rdSi (As := [.int i0, .int 0, .int ((nI (kN v)) - 1)]) (rest := [.ref (o 0)]) ⟨hx, hb, hml, hown, hts⟩ (c_m_in l i0 0 (nI (kN v) - 1)) mw_546 mw_544 mw_545 mw_6 yd_m_in ⟨⟨rfl, rfl⟩, Nat.le_of_ble_eq_true rfl, Nat.le_of_ble_eq_true rfl⟩ ⟨Nat.zero_le _, Nat.zero_le _⟩ (pre_pure) rfl hl.1 rfl (Nat.le_of_ble_eq_true rfl) z_m_row_9 (fun r_1 h_2 => ?_)
  rcases h_2 with ⟨rfl, h_2⟩ | ⟨rfl, h_2⟩
  · refine lv_if_eq (tgt := 24) hx hb z_m_row_12 (by decide) (fun c9 => absurd c9 (by decide)) (fun _ => ?_)
    refine lv_iload_n hx hb z_m_row_15 rfl (lv_at hl 2 rfl) ?_
    refine lv_iconst (v := 0) hx hb z_m_row_16 (by decide) ?_
    refine lv_iconst (v := 4) hx hb z_m_row_17 (by decide) ?_
    refine rdSi (As := [.int w0, .int 0, .int 4]) (rest := [.ref (o 0)]) ⟨hx, hb, hml, hown, hts⟩ (c_m_in l w0 0 4) mw_546 mw_544 mw_545 mw_6 yd_m_in ⟨⟨rfl, rfl⟩, Nat.le_of_ble_eq_true rfl, Nat.le_of_ble_eq_true rfl⟩ ⟨Nat.zero_le _, Nat.zero_le _⟩ (pre_pure) rfl hl.1 rfl (Nat.le_of_ble_eq_true rfl) z_m_row_18 (fun r_3 h_4 => ?_)
    rcases h_4 with ⟨rfl, h_4⟩ | ⟨rfl, h_4⟩
    · refine lv_if_ne (tgt := 28) hx hb z_m_row_21 (by decide) (fun _ => ?_) (fun c9 => absurd c9 (by decide))
      refine lv_iconst (v := 0) hx hb z_m_row_28 (by decide) ?_
      refine lv_iconst (v := 0) hx hb z_m_row_29 (by decide) ?_
      refine lv_iconst (v := 0) hx hb z_m_row_30 (by decide) ?_
      refine lv_iconst (v := 0) hx hb z_m_row_31 (by decide) ?_
      refine wrVi (As := [.int 0, .int 0, .int 0, .int 0]) (rest := []) (wf := fun u : St × Int32 × Int32 × Int64 => wM o cI cZ cL u.1 u.2.1 u.2.2.1 u.2.2.2) ⟨hx, hb, hml, hown, hts⟩ (c_m_throwing l dC dI o cI cZ cL v th ch cd s.heap.size 0 0 0 0) mw_554 mw_551 mw_553 mp_27 mw_6 rfl yd_m_throwing ⟨⟨rfl, rfl⟩, Nat.le_of_ble_eq_true rfl, Nat.le_of_ble_eq_true rfl⟩ ⟨Nat.le_of_ble_eq_true rfl, Nat.le_of_ble_eq_true rfl⟩ (WrC.preV hP hK hD hN (ci := 4) (q0 := 0) rfl rfl) (wr_free hD hS hA) hS rfl hl.1 rfl (Nat.le_of_ble_eq_true rfl) z_m_row_32 (fun r_5 u_6 H locs h_7 hP hD hS hz9 => ?_)
      obtain ⟨rfl, rfl⟩ : r_5 = 0 ∧ u_6 = (v, 0, ch, cd) := ⟨h_7.1.trans (by decide), h_7.2.trans (by rw [show thF 0 0 0 0 = 0 from by decide])⟩
      have hP : va_P (dC, dI) vwCl (wM o cI cZ cL v 0 ch cd) H := hP
      have hD : va_D A (wM o cI cZ cL v 0 ch cd) := hD
      refine lv_if_eq (tgt := 40) hx hb z_m_row_35 (by decide) (fun _ => ?_) (fun c9 => absurd (by decide) c9)
      obtain ⟨t0, ht0, rfl⟩ := (inN_iff (by omega)).mp h_2
      obtain ⟨z0, hz0, rfl⟩ := in4.mp h_4
      refine lv_aload_n hx hb z_m_row_40 rfl (lv_at hl 0 rfl) ?_
      refine va_get (D := (dC, dI)) (ci := 4) (v := .ref (o 11)) (C := R4) (T := T4) (N := 17) hx hb hts (cw_sub iC4) hown hK hP 0 rfl rfl 14 (by decide) (hts _ (cw_in mw_494 rfl)) (fun _ h9 => h9) rfl z_m_row_41 ?_
      refine lv_iconst (v := 5) hx hb z_m_row_44 (by decide) ?_
      refine lv_iload_n hx hb z_m_row_45 rfl (lv_at hl 1 rfl) ?_
      refine lv_imul hx hb z_m_row_46 ?_
      refine lv_iload_n hx hb z_m_row_47 rfl (lv_at hl 2 rfl) ?_
      refine lv_iadd hx hb z_m_row_48 ?_
      rw [s5_nI]
      refine xa_i hx hb hK hP 11 0 rfl rfl (k := (t0 * 5 + z0)) (y := znu v (t0 * 5 + z0)) (by omega) (by decide) (rfl) z_m_row_49 ?_
      exact W.iret (v := znu v (t0 * 5 + z0)) hx hb hr (fun t ht hW => ⟨⟨znu v (t0 * 5 + z0), (v, 0, ch, cd), rfl, ⟨0, rfl, rfl, Or.inr ⟨rfl, t0, z0, ht0, hz0, rfl, rfl, rfl⟩⟩, by rw [ht]; exact hP, va_K.moved hW.alike hK, hD⟩, hS.F ht⟩) hS.2.2 z_m_row_50
    · refine lv_if_ne (tgt := 28) hx hb z_m_row_21 (by decide) (fun c9 => absurd rfl c9) (fun _ => ?_)
      refine lv_iconst (v := 1) hx hb z_m_row_24 (by decide) ?_
      refine lv_goto (tgt := 29) hx hb z_m_row_25 (by decide) ?_
      refine lv_iconst (v := 0) hx hb z_m_row_29 (by decide) ?_
      refine lv_iconst (v := 0) hx hb z_m_row_30 (by decide) ?_
      refine lv_iconst (v := 0) hx hb z_m_row_31 (by decide) ?_
      refine wrVi (As := [.int 1, .int 0, .int 0, .int 0]) (rest := []) (wf := fun u : St × Int32 × Int32 × Int64 => wM o cI cZ cL u.1 u.2.1 u.2.2.1 u.2.2.2) ⟨hx, hb, hml, hown, hts⟩ (c_m_throwing l dC dI o cI cZ cL v th ch cd s.heap.size 1 0 0 0) mw_554 mw_551 mw_553 mp_27 mw_6 rfl yd_m_throwing ⟨⟨rfl, rfl⟩, Nat.le_of_ble_eq_true rfl, Nat.le_of_ble_eq_true rfl⟩ ⟨Nat.le_of_ble_eq_true rfl, Nat.le_of_ble_eq_true rfl⟩ (WrC.preV hP hK hD hN (ci := 4) (q0 := 0) rfl rfl) (wr_free hD hS hA) hS rfl hl.1 rfl (Nat.le_of_ble_eq_true rfl) z_m_row_32 (fun r_8 u_9 H locs h_10 hP hD hS hz9 => ?_)
      obtain ⟨rfl, rfl⟩ : r_8 = 1 ∧ u_9 = (v, 1, ch, cd) := ⟨h_10.1.trans (by decide), h_10.2.trans (by rw [show thF 1 0 0 0 = 1 from by decide])⟩
      have hP : va_P (dC, dI) vwCl (wM o cI cZ cL v 1 ch cd) H := hP
      have hD : va_D A (wM o cI cZ cL v 1 ch cd) := hD
      refine lv_if_eq (tgt := 40) hx hb z_m_row_35 (by decide) (fun c9 => absurd c9 (by decide)) (fun _ => ?_)
      refine lv_iconst (v := 0) hx hb z_m_row_38 (by decide) ?_
      exact W.iret (v := 0) hx hb hr (fun t ht hW => ⟨⟨0, (v, 1, ch, cd), rfl, ⟨1, rfl, rfl, Or.inl ⟨rfl, fun ⟨t9, z9, h1, h2, h3, h4⟩ => h_4 (in4.mpr ⟨z9, h2, h4⟩)⟩⟩, by rw [ht]; exact hP, va_K.moved hW.alike hK, hD⟩, hS.F ht⟩) hS.2.2 z_m_row_39
  · refine lv_if_eq (tgt := 24) hx hb z_m_row_12 (by decide) (fun _ => ?_) (fun c9 => absurd (by decide) c9)
    refine lv_iconst (v := 1) hx hb z_m_row_24 (by decide) ?_
    refine lv_goto (tgt := 29) hx hb z_m_row_25 (by decide) ?_
    refine lv_iconst (v := 0) hx hb z_m_row_29 (by decide) ?_
    refine lv_iconst (v := 0) hx hb z_m_row_30 (by decide) ?_
    refine lv_iconst (v := 0) hx hb z_m_row_31 (by decide) ?_
    refine wrVi (As := [.int 1, .int 0, .int 0, .int 0]) (rest := []) (wf := fun u : St × Int32 × Int32 × Int64 => wM o cI cZ cL u.1 u.2.1 u.2.2.1 u.2.2.2) ⟨hx, hb, hml, hown, hts⟩ (c_m_throwing l dC dI o cI cZ cL v th ch cd s.heap.size 1 0 0 0) mw_554 mw_551 mw_553 mp_27 mw_6 rfl yd_m_throwing ⟨⟨rfl, rfl⟩, Nat.le_of_ble_eq_true rfl, Nat.le_of_ble_eq_true rfl⟩ ⟨Nat.le_of_ble_eq_true rfl, Nat.le_of_ble_eq_true rfl⟩ (WrC.preV hP hK hD hN (ci := 4) (q0 := 0) rfl rfl) (wr_free hD hS hA) hS rfl hl.1 rfl (Nat.le_of_ble_eq_true rfl) z_m_row_32 (fun r_11 u_12 H locs h_13 hP hD hS hz9 => ?_)
    obtain ⟨rfl, rfl⟩ : r_11 = 1 ∧ u_12 = (v, 1, ch, cd) := ⟨h_13.1.trans (by decide), h_13.2.trans (by rw [show thF 1 0 0 0 = 1 from by decide])⟩
    have hP : va_P (dC, dI) vwCl (wM o cI cZ cL v 1 ch cd) H := hP
    have hD : va_D A (wM o cI cZ cL v 1 ch cd) := hD
    refine lv_if_eq (tgt := 40) hx hb z_m_row_35 (by decide) (fun c9 => absurd c9 (by decide)) (fun _ => ?_)
    refine lv_iconst (v := 0) hx hb z_m_row_38 (by decide) ?_
    exact W.iret (v := 0) hx hb hr (fun t ht hW => ⟨⟨0, (v, 1, ch, cd), rfl, ⟨1, rfl, rfl, Or.inl ⟨rfl, fun ⟨t9, z9, h1, h2, h3, h4⟩ => h_2 ((inN_iff (by omega)).mpr ⟨t9, h1, h3⟩)⟩⟩, by rw [ht]; exact hP, va_K.moved hW.alike hK, hD⟩, hS.F ht⟩) hS.2.2 z_m_row_39

set_option maxHeartbeats 4000000 in
set_option maxRecDepth 100000 in
theorem c_m_tick (l : Launch) (dC : Nat → ClassId) (dI : Nat → Nat → Nat) (o : Nat → Nat) (cI cZ cL : ClassId) (v : St) (th ch : Int32) (cd : Int64) (sz : Nat) (hi : Inv v) (n0 : Int32) : Met l y_m_tick (Cond.code y_m_tick b_m_tick 2 (some .int) :: CW) { frames := 2, cells := 0, slots := 0, locals := 45 } (va_Pc [.ref (o 0), .int n0] (WrC (dC, dI) sz (wM o cI cZ cL v th ch cd) (tyM cI cZ cL))) (va_Qi (fun (r : Int32) (u : St × Int32 × Int32 × Int64) => ∃ c9 : Nat, u.2.1 = nI c9 ∧ spTick v n0 c9 r u.1) (fun u => WrB (dC, dI) (wM o cI cZ cL u.1 u.2.1 u.2.2.1 u.2.2.2) (tyM cI cZ cL) (va_A (wM o cI cZ cL v th ch cd) sz)) (va_A (wM o cI cZ cL v th ch cd) sz)) 0 0 (va_A (wM o cI cZ cL v th ch cd) sz) := by
  refine cx_met (by decide) (Nat.le_of_ble_eq_true rfl) ?_
  intro p e s m below meth c hx hb hr hml hts hown hlocks hnm hC ls hl
  obtain ⟨hsz, hP, hK, hD0, hN⟩ := hC
  subst hsz
  have hD := hD0.self (sz := s.heap.size)
  generalize hAe : va_A (wM o cI cZ cL v th ch cd) s.heap.size = A at hD ⊢
  have hA : ∀ q9 : Nat, s.heap.size ≤ q9 → A q9 := fun q9 h => by rw [← hAe]; exact Or.inr h
  have hS : va_S A s.heap s.heap [] := va_S.rf
  have hown : s.vm.findClass "ServiceDeskModel" = some m.cls := hown
  have hl : lv_has ls 2 [(0, .ref (o 0)), (1, .int n0)] := hl
  refine lv_aload_n hx hb z_m_tick_0 rfl (lv_at hl 0 rfl) ?_
  refine lv_iload_n hx hb z_m_tick_1 rfl (lv_at hl 1 rfl) ?_
  refine lv_iconst (v := 1) hx hb z_m_tick_2 (by decide) ?_
  refine lv_ldc (v := 100000) hx hb hown (hts _ (cw_in mw_637 rfl)) z_m_tick_3 ?_
  refine rdSi (As := [.int n0, .int 1, .int 100000]) (rest := [.ref (o 0)]) ⟨hx, hb, hml, hown, hts⟩ (c_m_in l n0 1 100000) mw_546 mw_544 mw_545 mw_6 yd_m_in ⟨⟨rfl, rfl⟩, Nat.le_of_ble_eq_true rfl, Nat.le_of_ble_eq_true rfl⟩ ⟨Nat.zero_le _, Nat.zero_le _⟩ (pre_pure) rfl hl.1 rfl (Nat.le_of_ble_eq_true rfl) z_m_tick_5 (fun r_1 h_2 => ?_)
  rcases h_2 with ⟨rfl, h_2⟩ | ⟨rfl, h_2⟩
  · refine lv_if_eq (tgt := 22) hx hb z_m_tick_8 (by decide) (fun c9 => absurd c9 (by decide)) (fun _ => ?_)
    refine lv_aload_n hx hb z_m_tick_11 rfl (lv_at hl 0 rfl) ?_
    refine va_get (D := (dC, dI)) (ci := 4) (v := .int (zck v)) (C := R4) (T := T4) (N := 17) hx hb hts (cw_sub iC4) hown hK hP 0 rfl rfl 12 (by decide) (hts _ (cw_in mw_492 rfl)) (fun _ h9 => h9) rfl z_m_tick_12 ?_
    refine lv_iload_n hx hb z_m_tick_15 rfl (lv_at hl 1 rfl) ?_
    refine lv_iadd hx hb z_m_tick_16 ?_
    refine lv_ldc (v := 1000000000) hx hb hown (hts _ (cw_in mw_638 rfl)) z_m_tick_17 ?_
    refine lv_icmp_le (tgt := 26) hx hb z_m_tick_19 (by decide) (fun c_19 => ?_) (fun c_19 => ?_)
    · refine lv_iconst (v := 0) hx hb z_m_tick_26 (by decide) ?_
      refine lv_iconst (v := 0) hx hb z_m_tick_27 (by decide) ?_
      refine lv_iconst (v := 0) hx hb z_m_tick_28 (by decide) ?_
      refine lv_iconst (v := 0) hx hb z_m_tick_29 (by decide) ?_
      refine wrVi (As := [.int 0, .int 0, .int 0, .int 0]) (rest := []) (wf := fun u : St × Int32 × Int32 × Int64 => wM o cI cZ cL u.1 u.2.1 u.2.2.1 u.2.2.2) ⟨hx, hb, hml, hown, hts⟩ (c_m_throwing l dC dI o cI cZ cL v th ch cd s.heap.size 0 0 0 0) mw_554 mw_551 mw_553 mp_27 mw_6 rfl yd_m_throwing ⟨⟨rfl, rfl⟩, Nat.le_of_ble_eq_true rfl, Nat.le_of_ble_eq_true rfl⟩ ⟨Nat.le_of_ble_eq_true rfl, Nat.le_of_ble_eq_true rfl⟩ (WrC.preV hP hK hD hN (ci := 4) (q0 := 0) rfl rfl) (wr_free hD hS hA) hS rfl hl.1 rfl (Nat.le_of_ble_eq_true rfl) z_m_tick_30 (fun r_3 u_4 H locs h_5 hP hD hS hz9 => ?_)
      obtain ⟨rfl, rfl⟩ : r_3 = 0 ∧ u_4 = (v, 0, ch, cd) := ⟨h_5.1.trans (by decide), h_5.2.trans (by rw [show thF 0 0 0 0 = 0 from by decide])⟩
      have hP : va_P (dC, dI) vwCl (wM o cI cZ cL v 0 ch cd) H := hP
      have hD : va_D A (wM o cI cZ cL v 0 ch cd) := hD
      refine lv_if_eq (tgt := 38) hx hb z_m_tick_33 (by decide) (fun _ => ?_) (fun c9 => absurd (by decide) c9)
      refine lv_aload_n hx hb z_m_tick_38 rfl (lv_at hl 0 rfl) ?_
      refine lv_dup hx hb z_m_tick_39 rfl ?_
      refine va_get (D := (dC, dI)) (ci := 4) (v := .int (zck v)) (C := R4) (T := T4) (N := 17) hx hb hts (cw_sub iC4) hown hK hP 0 rfl rfl 12 (by decide) (hts _ (cw_in mw_492 rfl)) (fun _ h9 => h9) rfl z_m_tick_40 ?_
      refine lv_iload_n hx hb z_m_tick_43 rfl (lv_at hl 1 rfl) ?_
      refine lv_iadd hx hb z_m_tick_44 ?_
      refine va_put (D := (dC, dI)) (ci := 4) (v := .int ((zck v) + n0)) (ty := .int) (C := R4) (T := T4) (N := 17) hx hb hts (cw_sub iC4) ty4 tyok4 nm4 hown hK hP hD hS 0 rfl rfl 12 (by decide) (hts _ (cw_in mw_492 rfl)) (fun _ h9 => h9) rfl (by decide +kernel) rfl rfl (Nat.le_of_ble_eq_true rfl) z_m_tick_45 (fun H locs hP hD hS => ?_)
      have hP : va_P (dC, dI) vwCl (wM o cI cZ cL (uck v ((zck v) + n0)) 0 ch cd) H := hP
      have hD : va_D A (wM o cI cZ cL (uck v ((zck v) + n0)) 0 ch cd) := hD
      refine lv_aload_n hx hb z_m_tick_48 rfl (lv_at hl 0 rfl) ?_
      refine va_get (D := (dC, dI)) (ci := 4) (v := .int ((zck v) + n0)) (C := R4) (T := T4) (N := 17) hx hb hts (cw_sub iC4) hown hK hP 0 rfl rfl 12 (by decide) (hts _ (cw_in mw_492 rfl)) (fun _ h9 => h9) rfl z_m_tick_49 ?_
      exact W.iret (v := (zck v) + n0) hx hb hr (fun t ht hW => ⟨⟨(zck v) + n0, (uck v ((zck v) + n0), 0, ch, cd), rfl, ⟨0, rfl, Or.inr ⟨rfl, tk_ok hi h_2 c_19, rfl, rfl⟩⟩, by rw [ht]; exact hP, va_K.moved hW.alike hK, hD⟩, hS.F ht⟩) hS.2.2 z_m_tick_52
    · refine lv_iconst (v := 1) hx hb z_m_tick_22 (by decide) ?_
      refine lv_goto (tgt := 27) hx hb z_m_tick_23 (by decide) ?_
      refine lv_iconst (v := 0) hx hb z_m_tick_27 (by decide) ?_
      refine lv_iconst (v := 0) hx hb z_m_tick_28 (by decide) ?_
      refine lv_iconst (v := 0) hx hb z_m_tick_29 (by decide) ?_
      refine wrVi (As := [.int 1, .int 0, .int 0, .int 0]) (rest := []) (wf := fun u : St × Int32 × Int32 × Int64 => wM o cI cZ cL u.1 u.2.1 u.2.2.1 u.2.2.2) ⟨hx, hb, hml, hown, hts⟩ (c_m_throwing l dC dI o cI cZ cL v th ch cd s.heap.size 1 0 0 0) mw_554 mw_551 mw_553 mp_27 mw_6 rfl yd_m_throwing ⟨⟨rfl, rfl⟩, Nat.le_of_ble_eq_true rfl, Nat.le_of_ble_eq_true rfl⟩ ⟨Nat.le_of_ble_eq_true rfl, Nat.le_of_ble_eq_true rfl⟩ (WrC.preV hP hK hD hN (ci := 4) (q0 := 0) rfl rfl) (wr_free hD hS hA) hS rfl hl.1 rfl (Nat.le_of_ble_eq_true rfl) z_m_tick_30 (fun r_6 u_7 H locs h_8 hP hD hS hz9 => ?_)
      obtain ⟨rfl, rfl⟩ : r_6 = 1 ∧ u_7 = (v, 1, ch, cd) := ⟨h_8.1.trans (by decide), h_8.2.trans (by rw [show thF 1 0 0 0 = 1 from by decide])⟩
      have hP : va_P (dC, dI) vwCl (wM o cI cZ cL v 1 ch cd) H := hP
      have hD : va_D A (wM o cI cZ cL v 1 ch cd) := hD
      refine lv_if_eq (tgt := 38) hx hb z_m_tick_33 (by decide) (fun c9 => absurd c9 (by decide)) (fun _ => ?_)
      refine lv_iconst (v := 0) hx hb z_m_tick_36 (by decide) ?_
      exact W.iret (v := 0) hx hb hr (fun t ht hW => ⟨⟨0, (v, 1, ch, cd), rfl, ⟨1, rfl, Or.inl ⟨rfl, rfl, tk_no2 hi h_2 c_19⟩⟩, by rw [ht]; exact hP, va_K.moved hW.alike hK, hD⟩, hS.F ht⟩) hS.2.2 z_m_tick_37
  · refine lv_if_eq (tgt := 22) hx hb z_m_tick_8 (by decide) (fun _ => ?_) (fun c9 => absurd (by decide) c9)
    refine lv_iconst (v := 1) hx hb z_m_tick_22 (by decide) ?_
    refine lv_goto (tgt := 27) hx hb z_m_tick_23 (by decide) ?_
    refine lv_iconst (v := 0) hx hb z_m_tick_27 (by decide) ?_
    refine lv_iconst (v := 0) hx hb z_m_tick_28 (by decide) ?_
    refine lv_iconst (v := 0) hx hb z_m_tick_29 (by decide) ?_
    refine wrVi (As := [.int 1, .int 0, .int 0, .int 0]) (rest := []) (wf := fun u : St × Int32 × Int32 × Int64 => wM o cI cZ cL u.1 u.2.1 u.2.2.1 u.2.2.2) ⟨hx, hb, hml, hown, hts⟩ (c_m_throwing l dC dI o cI cZ cL v th ch cd s.heap.size 1 0 0 0) mw_554 mw_551 mw_553 mp_27 mw_6 rfl yd_m_throwing ⟨⟨rfl, rfl⟩, Nat.le_of_ble_eq_true rfl, Nat.le_of_ble_eq_true rfl⟩ ⟨Nat.le_of_ble_eq_true rfl, Nat.le_of_ble_eq_true rfl⟩ (WrC.preV hP hK hD hN (ci := 4) (q0 := 0) rfl rfl) (wr_free hD hS hA) hS rfl hl.1 rfl (Nat.le_of_ble_eq_true rfl) z_m_tick_30 (fun r_9 u_10 H locs h_11 hP hD hS hz9 => ?_)
    obtain ⟨rfl, rfl⟩ : r_9 = 1 ∧ u_10 = (v, 1, ch, cd) := ⟨h_11.1.trans (by decide), h_11.2.trans (by rw [show thF 1 0 0 0 = 1 from by decide])⟩
    have hP : va_P (dC, dI) vwCl (wM o cI cZ cL v 1 ch cd) H := hP
    have hD : va_D A (wM o cI cZ cL v 1 ch cd) := hD
    refine lv_if_eq (tgt := 38) hx hb z_m_tick_33 (by decide) (fun c9 => absurd c9 (by decide)) (fun _ => ?_)
    refine lv_iconst (v := 0) hx hb z_m_tick_36 (by decide) ?_
    exact W.iret (v := 0) hx hb hr (fun t ht hW => ⟨⟨0, (v, 1, ch, cd), rfl, ⟨1, rfl, Or.inl ⟨rfl, rfl, tk_no1 h_2⟩⟩, by rw [ht]; exact hP, va_K.moved hW.alike hK, hD⟩, hS.F ht⟩) hS.2.2 z_m_tick_37

set_option maxHeartbeats 4000000 in
set_option maxRecDepth 100000 in
theorem c_m_count (l : Launch) (dC : Nat → ClassId) (dI : Nat → Nat → Nat) (o : Nat → Nat) (cI cZ cL : ClassId) (v : St) (th ch : Int32) (cd : Int64) (sz : Nat) (hi : Inv v) (w0 : Int32) : Met l y_m_count (Cond.code y_m_count b_m_count 5 (some .int) :: CW) { frames := 2, cells := 0, slots := 0, locals := 45 } (va_Pc [.ref (o 0), .int w0] (WrC (dC, dI) sz (wM o cI cZ cL v th ch cd) (tyM cI cZ cL))) (va_Qi (fun (r : Int32) (u : St × Int32 × Int32 × Int64) => ∃ c9 : Nat, u.2.1 = nI c9 ∧ spCount v w0 c9 r u.1) (fun u => WrB (dC, dI) (wM o cI cZ cL u.1 u.2.1 u.2.2.1 u.2.2.2) (tyM cI cZ cL) (va_A (wM o cI cZ cL v th ch cd) sz)) (va_A (wM o cI cZ cL v th ch cd) sz)) 0 0 (va_A (wM o cI cZ cL v th ch cd) sz) := by
  refine cx_met (by decide) (Nat.le_of_ble_eq_true rfl) ?_
  intro p e s m below meth c hx hb hr hml hts hown hlocks hnm hC ls hl
  obtain ⟨hsz, hP, hK, hD0, hN⟩ := hC
  subst hsz
  have hD := hD0.self (sz := s.heap.size)
  generalize hAe : va_A (wM o cI cZ cL v th ch cd) s.heap.size = A at hD ⊢
  have hA : ∀ q9 : Nat, s.heap.size ≤ q9 → A q9 := fun q9 h => by rw [← hAe]; exact Or.inr h
  have hS : va_S A s.heap s.heap [] := va_S.rf
  have hown : s.vm.findClass "ServiceDeskModel" = some m.cls := hown
  have hl : lv_has ls 5 [(0, .ref (o 0)), (1, .int w0)] := hl
  refine lv_aload_n hx hb z_m_count_0 rfl (lv_at hl 0 rfl) ?_
  refine lv_iload_n hx hb z_m_count_1 rfl (lv_at hl 1 rfl) ?_
  refine lv_iconst (v := 0) hx hb z_m_count_2 (by decide) ?_
  refine lv_iconst (v := 3) hx hb z_m_count_3 (by decide) ?_
  refine rdSi (As := [.int w0, .int 0, .int 3]) (rest := [.ref (o 0)]) ⟨hx, hb, hml, hown, hts⟩ (c_m_in l w0 0 3) mw_546 mw_544 mw_545 mw_6 yd_m_in ⟨⟨rfl, rfl⟩, Nat.le_of_ble_eq_true rfl, Nat.le_of_ble_eq_true rfl⟩ ⟨Nat.zero_le _, Nat.zero_le _⟩ (pre_pure) rfl hl.1 rfl (Nat.le_of_ble_eq_true rfl) z_m_count_4 (fun r_1 h_2 => ?_)
  rcases h_2 with ⟨rfl, h_2⟩ | ⟨rfl, h_2⟩
  · refine lv_if_ne (tgt := 14) hx hb z_m_count_7 (by decide) (fun _ => ?_) (fun c9 => absurd c9 (by decide))
    refine lv_iconst (v := 0) hx hb z_m_count_14 (by decide) ?_
    refine lv_iconst (v := 0) hx hb z_m_count_15 (by decide) ?_
    refine lv_iconst (v := 0) hx hb z_m_count_16 (by decide) ?_
    refine lv_iconst (v := 0) hx hb z_m_count_17 (by decide) ?_
    refine wrVi (As := [.int 0, .int 0, .int 0, .int 0]) (rest := []) (wf := fun u : St × Int32 × Int32 × Int64 => wM o cI cZ cL u.1 u.2.1 u.2.2.1 u.2.2.2) ⟨hx, hb, hml, hown, hts⟩ (c_m_throwing l dC dI o cI cZ cL v th ch cd s.heap.size 0 0 0 0) mw_554 mw_551 mw_553 mp_27 mw_6 rfl yd_m_throwing ⟨⟨rfl, rfl⟩, Nat.le_of_ble_eq_true rfl, Nat.le_of_ble_eq_true rfl⟩ ⟨Nat.le_of_ble_eq_true rfl, Nat.le_of_ble_eq_true rfl⟩ (WrC.preV hP hK hD hN (ci := 4) (q0 := 0) rfl rfl) (wr_free hD hS hA) hS rfl hl.1 rfl (Nat.le_of_ble_eq_true rfl) z_m_count_18 (fun r_3 u_4 H locs h_5 hP hD hS hz9 => ?_)
    obtain ⟨rfl, rfl⟩ : r_3 = 0 ∧ u_4 = (v, 0, ch, cd) := ⟨h_5.1.trans (by decide), h_5.2.trans (by rw [show thF 0 0 0 0 = 0 from by decide])⟩
    have hP : va_P (dC, dI) vwCl (wM o cI cZ cL v 0 ch cd) H := hP
    have hD : va_D A (wM o cI cZ cL v 0 ch cd) := hD
    refine lv_if_eq (tgt := 26) hx hb z_m_count_21 (by decide) (fun _ => ?_) (fun c9 => absurd (by decide) c9)
    refine lv_iconst (v := 0) hx hb z_m_count_26 (by decide) ?_
    refine lv_istore_n (lv' := [(2, .int 0), (0, .ref (o 0)), (1, .int w0)]) hx hb z_m_count_27 rfl hl (by decide) rfl (fun ls hl => ?_)
    refine lv_iconst (v := 0) hx hb z_m_count_28 (by decide) ?_
    refine lv_istore_n (lv' := [(3, .int 0), (2, .int 0), (0, .ref (o 0)), (1, .int w0)]) hx hb z_m_count_29 rfl hl (by decide) rfl (fun ls hl => ?_)
    refine lv_iconst (v := 0) hx hb z_m_count_30 (by decide) ?_
    refine lv_istore (lv' := [(4, .int 0), (3, .int 0), (2, .int 0), (0, .ref (o 0)), (1, .int w0)]) hx hb z_m_count_31 hl (by decide) rfl (fun ls hl => ?_)
    refine rd_loopI (nL := 5) (8) (fun _ => True) (fun i => [(0, .ref (o 0)), (1, .int w0), (2, .int (nI (mkS v i))), (3, .int (nI (opS v i))), (4, .int (nI i))]) ?_ ls trivial (lv_sub hl [3, 4, 2, 1, 0] rfl)
    intro i ls hle hI hl ih
    have hl : lv_has ls 5 [(0, .ref (o 0)), (1, .int w0), (2, .int (nI (mkS v i))), (3, .int (nI (opS v i))), (4, .int (nI i))] := hl
    refine lv_iload hx hb z_m_count_33 (lv_at hl 4 rfl) ?_
    refine lv_bipush (v := 8) hx hb z_m_count_35 (by decide) ?_
    refine lv_icmp_ge (tgt := 65) hx hb z_m_count_37 (by decide) (fun c_37 => ?_) (fun c_37 => ?_)
    · obtain rfl : i = 8 := eq_of_nle hle (by decide) c_37
      refine lv_iload_n hx hb z_m_count_65 rfl (lv_at hl 1 rfl) ?_
      refine lv_if_ne (tgt := 76) hx hb z_m_count_66 (by decide) (fun c_66 => ?_) (fun c_66 => ?_)
      · refine lv_iload_n hx hb z_m_count_76 rfl (lv_at hl 1 rfl) ?_
        refine lv_iconst (v := 1) hx hb z_m_count_77 (by decide) ?_
        refine lv_icmp_ne (tgt := 88) hx hb z_m_count_78 (by decide) (fun c_78 => ?_) (fun c_78 => ?_)
        · refine lv_iload_n hx hb z_m_count_88 rfl (lv_at hl 1 rfl) ?_
          refine lv_iconst (v := 2) hx hb z_m_count_89 (by decide) ?_
          refine lv_icmp_ne (tgt := 97) hx hb z_m_count_90 (by decide) (fun c_90 => ?_) (fun c_90 => ?_)
          · refine lv_iload_n hx hb z_m_count_97 rfl (lv_at hl 3 rfl) ?_
            exact W.iret (v := nI (opS v 8)) hx hb hr (fun t ht hW => ⟨⟨nI (opS v 8), (v, 0, ch, cd), rfl, ⟨0, rfl, rfl, Or.inr ⟨rfl, Or.inr (Or.inr (Or.inr ⟨ok3 (in03.mp h_2) c_66 c_78 c_90, rfl⟩))⟩⟩, by rw [ht]; exact hP, va_K.moved hW.alike hK, hD⟩, hS.F ht⟩) hS.2.2 z_m_count_98
          · refine lv_iload_n hx hb z_m_count_93 rfl (lv_at hl 2 rfl) ?_
            refine lv_goto (tgt := 98) hx hb z_m_count_94 (by decide) ?_
            exact W.iret (v := nI (mkS v 8)) hx hb hr (fun t ht hW => ⟨⟨nI (mkS v 8), (v, 0, ch, cd), rfl, ⟨0, rfl, rfl, Or.inr ⟨rfl, Or.inr (Or.inr (Or.inl ⟨c_90, rfl⟩))⟩⟩, by rw [ht]; exact hP, va_K.moved hW.alike hK, hD⟩, hS.F ht⟩) hS.2.2 z_m_count_98
        · refine lv_aload_n hx hb z_m_count_81 rfl (lv_at hl 0 rfl) ?_
          refine va_get (D := (dC, dI)) (ci := 4) (v := .int (zkp v)) (C := R4) (T := T4) (N := 17) hx hb hts (cw_sub iC4) hown hK hP 0 rfl rfl 13 (by decide) (hts _ (cw_in mw_493 rfl)) (fun _ h9 => h9) rfl z_m_count_82 ?_
          refine lv_goto (tgt := 98) hx hb z_m_count_85 (by decide) ?_
          exact W.iret (v := zkp v) hx hb hr (fun t ht hW => ⟨⟨zkp v, (v, 0, ch, cd), rfl, ⟨0, rfl, rfl, Or.inr ⟨rfl, Or.inr (Or.inl ⟨c_78, rfl⟩)⟩⟩, by rw [ht]; exact hP, va_K.moved hW.alike hK, hD⟩, hS.F ht⟩) hS.2.2 z_m_count_98
      · refine lv_aload_n hx hb z_m_count_69 rfl (lv_at hl 0 rfl) ?_
        refine va_get (D := (dC, dI)) (ci := 4) (v := .int (ztn v)) (C := R4) (T := T4) (N := 17) hx hb hts (cw_sub iC4) hown hK hP 0 rfl rfl 11 (by decide) (hts _ (cw_in mw_491 rfl)) (fun _ h9 => h9) rfl z_m_count_70 ?_
        refine lv_goto (tgt := 98) hx hb z_m_count_73 (by decide) ?_
        exact W.iret (v := ztn v) hx hb hr (fun t ht hW => ⟨⟨ztn v, (v, 0, ch, cd), rfl, ⟨0, rfl, rfl, Or.inr ⟨rfl, Or.inl ⟨c_66, rfl⟩⟩⟩, by rw [ht]; exact hP, va_K.moved hW.alike hK, hD⟩, hS.F ht⟩) hS.2.2 z_m_count_98
    · have hlt : i < 8 := nlt_of (b := 8) (by omega) c_37
      refine lv_iload_n hx hb z_m_count_40 rfl (lv_at hl 2 rfl) ?_
      refine lv_aload_n hx hb z_m_count_41 rfl (lv_at hl 0 rfl) ?_
      refine va_get (D := (dC, dI)) (ci := 4) (v := .ref (o 2)) (C := R4) (T := T4) (N := 17) hx hb hts (cw_sub iC4) hown hK hP 0 rfl rfl 2 (by decide) (hts _ (cw_in mw_482 rfl)) (fun _ h9 => h9) rfl z_m_count_42 ?_
      refine lv_iload hx hb z_m_count_45 (lv_at hl 4 rfl) ?_
      refine xa_i hx hb hK hP 2 0 rfl rfl (k := i) (y := nI (mN v i)) (hlt) (by decide) ((hi.mk i hlt).2) z_m_count_47 ?_
      refine lv_iadd hx hb z_m_count_48 ?_
      rw [nI_add]
      refine lv_istore_n (lv' := [(2, .int (nI (mkS v i + mN v i))), (0, .ref (o 0)), (1, .int w0), (3, .int (nI (opS v i))), (4, .int (nI i))]) hx hb z_m_count_49 rfl hl (by decide) rfl (fun ls hl => ?_)
      refine lv_iload_n hx hb z_m_count_50 rfl (lv_at hl 3 rfl) ?_
      refine lv_aload_n hx hb z_m_count_51 rfl (lv_at hl 1 rfl) ?_
      refine lv_iload hx hb z_m_count_52 (lv_at hl 4 rfl) ?_
      refine rdVi (As := [.int (nI i)]) (rest := [.int (nI (opS v i))]) ⟨hx, hb, hml, hown, hts⟩ (c_m_openOf l dC dI o cI cZ cL v 0 ch cd hi i hlt) mw_607 mw_604 mw_606 mp_34 mw_6 rfl yd_m_openOf ⟨⟨rfl, rfl⟩, Nat.le_of_ble_eq_true rfl, Nat.le_of_ble_eq_true rfl⟩ ⟨Nat.zero_le _, Nat.zero_le _⟩ (RdC.preV hP hK hN (ci := 4) (q0 := 0) rfl rfl) rfl hl.1 rfl (Nat.le_of_ble_eq_true rfl) z_m_count_54 (fun r_6 h_7 => ?_)
      subst h_7
      refine lv_iadd hx hb z_m_count_57 ?_
      rw [nI_add]
      refine lv_istore_n (lv' := [(3, .int (nI (opS v i + opC v i (mN v i)))), (2, .int (nI (mkS v i + mN v i))), (0, .ref (o 0)), (1, .int w0), (4, .int (nI i))]) hx hb z_m_count_58 rfl hl (by decide) rfl (fun ls hl => ?_)
      refine lv_iinc (v := nI (i + 1)) (lv' := [(4, .int (nI (i + 1))), (3, .int (nI (opS v i + opC v i (mN v i)))), (2, .int (nI (mkS v i + mN v i))), (0, .ref (o 0)), (1, .int w0)]) hx hb z_m_count_59 hl (k := 4) rfl (by exact nI_1 i) (by decide) rfl (fun ls hl => ?_)
      refine lv_goto (tgt := 33) hx hb z_m_count_62 (by decide) ?_
      exact ih ls hlt trivial (by show lv_has ls 5 [(0, .ref (o 0)), (1, .int w0), (2, .int (nI (mkS v (i + 1)))), (3, .int (nI (opS v (i + 1)))), (4, .int (nI (i + 1)))]; rw [mkS, opS]; exact lv_sub hl [3, 4, 2, 1, 0] rfl)
  · refine lv_if_ne (tgt := 14) hx hb z_m_count_7 (by decide) (fun c9 => absurd rfl c9) (fun _ => ?_)
    refine lv_iconst (v := 1) hx hb z_m_count_10 (by decide) ?_
    refine lv_goto (tgt := 15) hx hb z_m_count_11 (by decide) ?_
    refine lv_iconst (v := 0) hx hb z_m_count_15 (by decide) ?_
    refine lv_iconst (v := 0) hx hb z_m_count_16 (by decide) ?_
    refine lv_iconst (v := 0) hx hb z_m_count_17 (by decide) ?_
    refine wrVi (As := [.int 1, .int 0, .int 0, .int 0]) (rest := []) (wf := fun u : St × Int32 × Int32 × Int64 => wM o cI cZ cL u.1 u.2.1 u.2.2.1 u.2.2.2) ⟨hx, hb, hml, hown, hts⟩ (c_m_throwing l dC dI o cI cZ cL v th ch cd s.heap.size 1 0 0 0) mw_554 mw_551 mw_553 mp_27 mw_6 rfl yd_m_throwing ⟨⟨rfl, rfl⟩, Nat.le_of_ble_eq_true rfl, Nat.le_of_ble_eq_true rfl⟩ ⟨Nat.le_of_ble_eq_true rfl, Nat.le_of_ble_eq_true rfl⟩ (WrC.preV hP hK hD hN (ci := 4) (q0 := 0) rfl rfl) (wr_free hD hS hA) hS rfl hl.1 rfl (Nat.le_of_ble_eq_true rfl) z_m_count_18 (fun r_8 u_9 H locs h_10 hP hD hS hz9 => ?_)
    obtain ⟨rfl, rfl⟩ : r_8 = 1 ∧ u_9 = (v, 1, ch, cd) := ⟨h_10.1.trans (by decide), h_10.2.trans (by rw [show thF 1 0 0 0 = 1 from by decide])⟩
    have hP : va_P (dC, dI) vwCl (wM o cI cZ cL v 1 ch cd) H := hP
    have hD : va_D A (wM o cI cZ cL v 1 ch cd) := hD
    refine lv_if_eq (tgt := 26) hx hb z_m_count_21 (by decide) (fun c9 => absurd c9 (by decide)) (fun _ => ?_)
    refine lv_iconst (v := 0) hx hb z_m_count_24 (by decide) ?_
    exact W.iret (v := 0) hx hb hr (fun t ht hW => ⟨⟨0, (v, 1, ch, cd), rfl, ⟨1, rfl, rfl, Or.inl ⟨rfl, fun h => h_2 (in03.mpr h)⟩⟩, by rw [ht]; exact hP, va_K.moved hW.alike hK, hD⟩, hS.F ht⟩) hS.2.2 z_m_count_25

set_option maxHeartbeats 4000000 in
set_option maxRecDepth 100000 in
theorem c_m_with (l : Launch) (s0 v0 : Int32) : Met l y_m_with (Cond.code y_m_with b_m_with 3 (some .int) :: CW) { frames := 0, cells := 0, slots := 0, locals := 0 } (va_Pc [.int s0, .int v0] (fun _ => True)) (vp_Si (fun r : Int32 => r = stirF s0 v0)) 0 0 (fun _ => False) := by
  refine cx_met (by decide) (Nat.le_of_ble_eq_true rfl) ?_
  intro p e s m below meth c hx hb hr hml hts hown hlocks hnm hC ls hl
  have hown : s.vm.findClass "ServiceDeskModel" = some m.cls := hown
  have hl : lv_has ls 3 [(0, .int s0), (1, .int v0)] := hl
  refine lv_iload_n hx hb z_m_with_0 rfl (lv_at hl 0 rfl) ?_
  refine lv_iload_n hx hb z_m_with_1 rfl (lv_at hl 1 rfl) ?_
  refine lv_ixor hx hb z_m_with_2 ?_
  refine lv_istore_n (lv' := [(2, .int (s0 ^^^ v0)), (0, .int s0), (1, .int v0)]) hx hb z_m_with_3 rfl hl (by decide) rfl (fun ls hl => ?_)
  refine lv_iload_n hx hb z_m_with_4 rfl (lv_at hl 0 rfl) ?_
  refine lv_iconst (v := 5) hx hb z_m_with_5 (by decide) ?_
  refine lv_ishl hx hb z_m_with_6 ?_
  refine lv_iload_n hx hb z_m_with_7 rfl (lv_at hl 0 rfl) ?_
  refine lv_bipush (v := 27) hx hb z_m_with_8 (by decide) ?_
  refine lv_iushr hx hb z_m_with_10 rfl ?_
  refine lv_ior hx hb z_m_with_11 ?_
  refine lv_ldc (v := (-2048144789)) hx hb hown (hts _ (cw_in mw_650 rfl)) z_m_with_12 ?_
  refine lv_imul hx hb z_m_with_14 ?_
  exact W.iret (v := (((s0 ^^^ v0) <<< (5 &&& 31)) ||| (((s0 ^^^ v0).toUInt32 >>> ((27 : Int32).toUInt32 &&& Int32.toUInt32 31)).toInt32)) * (-2048144789)) hx hb hr (fun t ht _ => ⟨(((s0 ^^^ v0) <<< (5 &&& 31)) ||| (((s0 ^^^ v0).toUInt32 >>> ((27 : Int32).toUInt32 &&& Int32.toUInt32 31)).toInt32)) * (-2048144789), rfl, rfl, ht⟩) t_nil z_m_with_15
