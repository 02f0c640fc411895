set_option maxHeartbeats 4000000 in
set_option maxRecDepth 100000 in
theorem c_w_set (l : Launch) (dC : Nat → ClassId) (dI : Nat → Nat → Nat) (q : Nat → Nat) (cI cZ cB : ClassId) (v : St) (sz : Nat) (i : Nat) (hi9 : i < 64) (m0 a b : Int32) : Met l y_w_set (Cond.code y_w_set b_w_set 5 none :: CW) { frames := 0, cells := 0, slots := 0, locals := 0 } (va_Pc [.ref (q 2), .int (nI i), .int m0, .int a, .int b] (WrC (dC, dI) sz (wC q cI cZ cB v) (tyC cI cZ cB))) (va_Qv (fun u : St => u = setV v i m0 a b) (fun u => WrB (dC, dI) (wC q cI cZ cB u) (tyC cI cZ cB) (va_A (wC q cI cZ cB v) sz)) (va_A (wC q cI cZ cB v) sz)) 0 0 (va_A (wC q cI cZ cB v) sz) := by
  refine cx_met (by decide) (Nat.le_of_ble_eq_true rfl) ?_
  intro p e s m below meth c hx hb hr hml hts hown hlocks hnm hC ls hl
  obtain ⟨hsz, hP, hK, hD0, hN⟩ := hC
  subst hsz
  have hD := hD0.self (sz := s.heap.size)
  generalize hAe : va_A (wC q cI cZ cB v) s.heap.size = A at hD ⊢
  have hA : ∀ q9 : Nat, s.heap.size ≤ q9 → A q9 := fun q9 h => by rw [← hAe]; exact Or.inr h
  have hS : va_S A s.heap s.heap [] := va_S.rf
  have hown : s.vm.findClass "ServiceDesk$Verbs" = some m.cls := hown
  have hl : lv_has ls 5 [(0, .ref (q 2)), (1, .int (nI i)), (2, .int m0), (3, .int a), (4, .int b)] := hl
  refine lv_aload_n hx hb z_w_set_0 rfl (lv_at hl 0 rfl) ?_
  refine va_get (D := (dC, dI)) (ci := 2) (v := .ref (q 3)) (C := R2) (T := T2) (N := 3) hx hb hts (cw_sub iC2) hown hK hP 2 rfl rfl 0 (by decide) (hts _ (cw_in mw_28 rfl)) (fun _ h9 => h9) rfl z_w_set_1 ?_
  refine lv_iload_n hx hb z_w_set_4 rfl (lv_at hl 1 rfl) ?_
  refine lv_iload_n hx hb z_w_set_5 rfl (lv_at hl 2 rfl) ?_
  refine xs_i hx hb hK hP hD hS 3 0 rfl rfl (k := i) (hi9) (by decide) z_w_set_6 (fun H locs hP hD hS => ?_)
  have hP : va_P (dC, dI) vwCl (wC q cI cZ cB (umd v (upd (zmd v) i m0))) H := hP
  have hD : va_D A (wC q cI cZ cB (umd v (upd (zmd v) i m0))) := hD
  refine lv_aload_n hx hb z_w_set_7 rfl (lv_at hl 0 rfl) ?_
  refine va_get (D := (dC, dI)) (ci := 2) (v := .ref (q 4)) (C := R2) (T := T2) (N := 3) hx hb hts (cw_sub iC2) hown hK hP 2 rfl rfl 1 (by decide) (hts _ (cw_in mw_30 rfl)) (fun _ h9 => h9) rfl z_w_set_8 ?_
  refine lv_iload_n hx hb z_w_set_11 rfl (lv_at hl 1 rfl) ?_
  refine lv_iload_n hx hb z_w_set_12 rfl (lv_at hl 3 rfl) ?_
  refine xs_i hx hb hK hP hD hS 4 0 rfl rfl (k := i) (hi9) (by decide) z_w_set_13 (fun H locs hP hD hS => ?_)
  have hP : va_P (dC, dI) vwCl (wC q cI cZ cB (uas (umd v (upd (zmd v) i m0)) (upd (zas v) i a))) H := hP
  have hD : va_D A (wC q cI cZ cB (uas (umd v (upd (zmd v) i m0)) (upd (zas v) i a))) := hD
  refine lv_aload_n hx hb z_w_set_14 rfl (lv_at hl 0 rfl) ?_
  refine va_get (D := (dC, dI)) (ci := 2) (v := .ref (q 5)) (C := R2) (T := T2) (N := 3) hx hb hts (cw_sub iC2) hown hK hP 2 rfl rfl 2 (by decide) (hts _ (cw_in mw_32 rfl)) (fun _ h9 => h9) rfl z_w_set_15 ?_
  refine lv_iload_n hx hb z_w_set_18 rfl (lv_at hl 1 rfl) ?_
  refine lv_iload hx hb z_w_set_19 (lv_at hl 4 rfl) ?_
  refine xs_i hx hb hK hP hD hS 5 0 rfl rfl (k := i) (hi9) (by decide) z_w_set_21 (fun H locs hP hD hS => ?_)
  have hP : va_P (dC, dI) vwCl (wC q cI cZ cB (ubs (uas (umd v (upd (zmd v) i m0)) (upd (zas v) i a)) (upd (zbs v) i b))) H := hP
  have hD : va_D A (wC q cI cZ cB (ubs (uas (umd v (upd (zmd v) i m0)) (upd (zas v) i a)) (upd (zbs v) i b))) := hD
  exact W.vret hx hb hr (fun t ht hW => ⟨⟨ubs (uas (umd v (upd (zmd v) i m0)) (upd (zas v) i a)) (upd (zbs v) i b), rfl, rfl, by rw [ht]; exact hP, va_K.moved hW.alike hK, hD⟩, hS.F ht⟩) hS.2.2 z_w_set_22

set_option maxHeartbeats 4000000 in
set_option maxRecDepth 100000 in
theorem c_s_add (l : Launch) (dC : Nat → ClassId) (dI : Nat → Nat → Nat) (q : Nat → Nat) (cI cZ cB : ClassId) (v : St) (sz : Nat) (hi : Inv v) (k : Nat) (hk : k < 8) (hM : mN v k < 30) (a : Int32) : Met l y_s_add (Cond.code y_s_add b_s_add 5 (some .int) :: CW) { frames := 1, cells := 0, slots := 0, locals := 21 } (va_Pc [.ref (q 6), .int (nI k), .int a] (WrC (dC, dI) sz (wC q cI cZ cB v) (tyC cI cZ cB))) (va_Qi (fun (r : Int32) (u : St) => r = nI (mN v k) ∧ u = addS v k a) (fun u => WrB (dC, dI) (wC q cI cZ cB u) (tyC cI cZ cB) (va_A (wC q cI cZ cB v) sz)) (va_A (wC q cI cZ cB v) sz)) 0 0 (va_A (wC q cI cZ cB v) sz) := by
  refine cx_met (by decide) (Nat.le_of_ble_eq_true rfl) ?_
  intro p e s m below meth c hx hb hr hml hts hown hlocks hnm hC ls hl
  obtain ⟨hsz, hP, hK, hD0, hN⟩ := hC
  subst hsz
  have hD := hD0.self (sz := s.heap.size)
  generalize hAe : va_A (wC q cI cZ cB v) s.heap.size = A at hD ⊢
  have hA : ∀ q9 : Nat, s.heap.size ≤ q9 → A q9 := fun q9 h => by rw [← hAe]; exact Or.inr h
  have hS : va_S A s.heap s.heap [] := va_S.rf
  have hown : s.vm.findClass "ServiceDesk$Subjects" = some m.cls := hown
  have hl : lv_has ls 5 [(0, .ref (q 6)), (1, .int (nI k)), (2, .int a)] := hl
  refine lv_aload_n hx hb z_s_add_0 rfl (lv_at hl 0 rfl) ?_
  refine va_get (D := (dC, dI)) (ci := 1) (v := .ref (q 7)) (C := R1) (T := T1) (N := 6) hx hb hts (cw_sub iC1) hown hK hP 6 rfl rfl 0 (by decide) (hts _ (cw_in mw_48 rfl)) (fun _ h9 => h9) rfl z_s_add_1 ?_
  refine lv_iload_n hx hb z_s_add_4 rfl (lv_at hl 1 rfl) ?_
  refine xa_i hx hb hK hP 7 0 rfl rfl (k := k) (y := nI (mN v k)) (hk) (by decide) ((hi.mk k hk).2) z_s_add_5 ?_
  refine lv_istore_n (lv' := [(3, .int (nI (mN v k))), (0, .ref (q 6)), (1, .int (nI k)), (2, .int a)]) hx hb z_s_add_6 rfl hl (by decide) rfl (fun ls hl => ?_)
  refine lv_iload_n hx hb z_s_add_7 rfl (lv_at hl 2 rfl) ?_
  refine lv_iload_n hx hb z_s_add_8 rfl (lv_at hl 0 rfl) ?_
  refine rdSNi (As := [.int (nI k), .int (nI (mN v k))]) (rest := []) ⟨hx, hb, hml, hown, hts⟩ (c_d_slotOf l k (mN v k)) mw_125 (hN _ nw_14) mw_124 mw_1 yd_d_slotOf ⟨⟨rfl, rfl⟩, Nat.le_of_ble_eq_true rfl, Nat.le_of_ble_eq_true rfl⟩ ⟨Nat.zero_le _, Nat.zero_le _⟩ (pre_pure) rfl hl.1 rfl (Nat.le_of_ble_eq_true rfl) z_s_add_9 (fun r_1 h_2 => ?_)
  subst h_2
  refine lv_istore (lv' := [(4, .int (nI (k * 30 + (mN v k)))), (3, .int (nI (mN v k))), (0, .ref (q 6)), (1, .int (nI k)), (2, .int a)]) hx hb z_s_add_12 hl (by decide) rfl (fun ls hl => ?_)
  refine lv_aload_n hx hb z_s_add_14 rfl (lv_at hl 2 rfl) ?_
  refine va_get (D := (dC, dI)) (ci := 1) (v := .ref (q 8)) (C := R1) (T := T1) (N := 6) hx hb hts (cw_sub iC1) hown hK hP 6 rfl rfl 1 (by decide) (hts _ (cw_in mw_50 rfl)) (fun _ h9 => h9) rfl z_s_add_15 ?_
  refine lv_iload hx hb z_s_add_18 (lv_at hl 0 rfl) ?_
  refine lv_iload_n hx hb z_s_add_20 rfl (lv_at hl 4 rfl) ?_
  refine xs_i hx hb hK hP hD hS 8 0 rfl rfl (k := (k * 30 + (mN v k))) (by omega) (by decide) z_s_add_21 (fun H locs hP hD hS => ?_)
  have hP : va_P (dC, dI) vwCl (wC q cI cZ cB (uab v (upd (zab v) (k * 30 + (mN v k)) a))) H := hP
  have hD : va_D A (wC q cI cZ cB (uab v (upd (zab v) (k * 30 + (mN v k)) a))) := hD
  refine lv_aload_n hx hb z_s_add_22 rfl (lv_at hl 2 rfl) ?_
  refine va_get (D := (dC, dI)) (ci := 1) (v := .ref (q 9)) (C := R1) (T := T1) (N := 6) hx hb hts (cw_sub iC1) hown hK hP 6 rfl rfl 2 (by decide) (hts _ (cw_in mw_52 rfl)) (fun _ h9 => h9) rfl z_s_add_23 ?_
  refine lv_iload hx hb z_s_add_26 (lv_at hl 0 rfl) ?_
  refine lv_iconst (v := 1) hx hb z_s_add_28 (by decide) ?_
  refine xs_z hx hb hK hP hD hS 9 1 rfl rfl (k := (k * 30 + (mN v k))) (y := 1) (by omega) (by decide) (rfl) z_s_add_29 (fun H locs hP hD hS => ?_)
  have hP : va_P (dC, dI) vwCl (wC q cI cZ cB (uop (uab v (upd (zab v) (k * 30 + (mN v k)) a)) (upd (zop v) (k * 30 + (mN v k)) 1))) H := hP
  have hD : va_D A (wC q cI cZ cB (uop (uab v (upd (zab v) (k * 30 + (mN v k)) a)) (upd (zop v) (k * 30 + (mN v k)) 1))) := hD
  refine lv_aload_n hx hb z_s_add_30 rfl (lv_at hl 2 rfl) ?_
  refine va_get (D := (dC, dI)) (ci := 1) (v := .ref (q 7)) (C := R1) (T := T1) (N := 6) hx hb hts (cw_sub iC1) hown hK hP 6 rfl rfl 0 (by decide) (hts _ (cw_in mw_48 rfl)) (fun _ h9 => h9) rfl z_s_add_31 ?_
  refine lv_iload_n hx hb z_s_add_34 rfl (lv_at hl 3 rfl) ?_
  refine lv_iload_n hx hb z_s_add_35 rfl (lv_at hl 1 rfl) ?_
  refine lv_iconst (v := 1) hx hb z_s_add_36 (by decide) ?_
  refine lv_iadd hx hb z_s_add_37 ?_
  rw [nI_1]
  refine xs_i hx hb hK hP hD hS 7 0 rfl rfl (k := k) (hk) (by decide) z_s_add_38 (fun H locs hP hD hS => ?_)
  have hP : va_P (dC, dI) vwCl (wC q cI cZ cB (umk (uop (uab v (upd (zab v) (k * 30 + (mN v k)) a)) (upd (zop v) (k * 30 + (mN v k)) 1)) (upd (zmk v) k (nI (mN v k + 1))))) H := hP
  have hD : va_D A (wC q cI cZ cB (umk (uop (uab v (upd (zab v) (k * 30 + (mN v k)) a)) (upd (zop v) (k * 30 + (mN v k)) 1)) (upd (zmk v) k (nI (mN v k + 1))))) := hD
  refine lv_iload_n hx hb z_s_add_39 rfl (lv_at hl 1 rfl) ?_
  exact W.iret (v := nI (mN v k)) hx hb hr (fun t ht hW => ⟨⟨nI (mN v k), umk (uop (uab v (upd (zab v) (k * 30 + (mN v k)) a)) (upd (zop v) (k * 30 + (mN v k)) 1)) (upd (zmk v) k (nI (mN v k + 1))), rfl, ⟨rfl, rfl⟩, by rw [ht]; exact hP, va_K.moved hW.alike hK, hD⟩, hS.F ht⟩) hS.2.2 z_s_add_40

set_option maxHeartbeats 4000000 in
set_option maxRecDepth 100000 in
theorem c_r_tell (l : Launch) (dC : Nat → ClassId) (dI : Nat → Nat → Nat) (q : Nat → Nat) (cI cZ cB : ClassId) (v : St) (sz : Nat) (hi : Inv v) (t0 x y z w : Int32) : Met l y_r_tell (Cond.code y_r_tell b_r_tell 7 none :: CW) { frames := 0, cells := 0, slots := 0, locals := 0 } (va_Pc [.ref (q 13), .int t0, .int x, .int y, .int z, .int w] (WrC (dC, dI) sz (wC q cI cZ cB v) (tyC cI cZ cB))) (va_Qv (fun u : St => u = telS v t0 x y z w) (fun u => WrB (dC, dI) (wC q cI cZ cB u) (tyC cI cZ cB) (va_A (wC q cI cZ cB v) sz)) (va_A (wC q cI cZ cB v) sz)) 0 0 (va_A (wC q cI cZ cB v) sz) := by
  refine cx_met (by decide) (Nat.le_of_ble_eq_true rfl) ?_
  intro p e s m below meth c hx hb hr hml hts hown hlocks hnm hC ls hl
  obtain ⟨hsz, hP, hK, hD0, hN⟩ := hC
  subst hsz
  have hD := hD0.self (sz := s.heap.size)
  generalize hAe : va_A (wC q cI cZ cB v) s.heap.size = A at hD ⊢
  have hA : ∀ q9 : Nat, s.heap.size ≤ q9 → A q9 := fun q9 h => by rw [← hAe]; exact Or.inr h
  have hS : va_S A s.heap s.heap [] := va_S.rf
  have hown : s.vm.findClass "ServiceDesk$Rows" = some m.cls := hown
  have hl : lv_has ls 7 [(0, .ref (q 13)), (1, .int t0), (2, .int x), (3, .int y), (4, .int z), (5, .int w)] := hl
  have hL := hi.kp.1
  refine lv_aload_n hx hb z_r_tell_0 rfl (lv_at hl 0 rfl) ?_
  refine va_get (D := (dC, dI)) (ci := 0) (v := .int (zkp v)) (C := R0) (T := T0) (N := 2) hx hb hts (cw_sub iC0) hown hK hP 13 rfl rfl 1 (by decide) (hts _ (cw_in mw_82 rfl)) (fun _ h9 => h9) rfl z_r_tell_1 ?_
  rw [hi.kp.2]
  refine lv_bipush (v := 80) hx hb z_r_tell_4 (by decide) ?_
  refine lv_icmp_lt (tgt := 10) hx hb z_r_tell_6 (by decide) (fun c_6 => ?_) (fun c_6 => ?_)
  · have hL2 : kN v < 80 := (nI_ltI (by omega) (by decide)).mp c_6
    refine lv_aload_n hx hb z_r_tell_10 rfl (lv_at hl 0 rfl) ?_
    refine va_get (D := (dC, dI)) (ci := 0) (v := .int (zkp v)) (C := R0) (T := T0) (N := 2) hx hb hts (cw_sub iC0) hown hK hP 13 rfl rfl 1 (by decide) (hts _ (cw_in mw_82 rfl)) (fun _ h9 => h9) rfl z_r_tell_11 ?_
    rw [hi.kp.2]
    refine lv_iconst (v := 5) hx hb z_r_tell_14 (by decide) ?_
    refine lv_imul hx hb z_r_tell_15 ?_
    rw [mul5_nI]
    refine lv_istore (lv' := [(6, .int (nI (kN v * 5))), (0, .ref (q 13)), (1, .int t0), (2, .int x), (3, .int y), (4, .int z), (5, .int w)]) hx hb z_r_tell_16 hl (by decide) rfl (fun ls hl => ?_)
    refine lv_aload_n hx hb z_r_tell_18 rfl (lv_at hl 1 rfl) ?_
    refine va_get (D := (dC, dI)) (ci := 0) (v := .ref (q 14)) (C := R0) (T := T0) (N := 2) hx hb hts (cw_sub iC0) hown hK hP 13 rfl rfl 0 (by decide) (hts _ (cw_in mw_80 rfl)) (fun _ h9 => h9) rfl z_r_tell_19 ?_
    refine lv_iload hx hb z_r_tell_22 (lv_at hl 0 rfl) ?_
    refine lv_iload_n hx hb z_r_tell_24 rfl (lv_at hl 2 rfl) ?_
    refine xs_i hx hb hK hP hD hS 14 0 rfl rfl (k := (kN v * 5)) (by omega) (by decide) z_r_tell_25 (fun H locs hP hD hS => ?_)
    have hP : va_P (dC, dI) vwCl (wC q cI cZ cB (unu v (upd (znu v) (kN v * 5) t0))) H := hP
    have hD : va_D A (wC q cI cZ cB (unu v (upd (znu v) (kN v * 5) t0))) := hD
    refine lv_aload_n hx hb z_r_tell_26 rfl (lv_at hl 1 rfl) ?_
    refine va_get (D := (dC, dI)) (ci := 0) (v := .ref (q 14)) (C := R0) (T := T0) (N := 2) hx hb hts (cw_sub iC0) hown hK hP 13 rfl rfl 0 (by decide) (hts _ (cw_in mw_80 rfl)) (fun _ h9 => h9) rfl z_r_tell_27 ?_
    refine lv_iload hx hb z_r_tell_30 (lv_at hl 0 rfl) ?_
    refine lv_iconst (v := 1) hx hb z_r_tell_32 (by decide) ?_
    refine lv_iadd hx hb z_r_tell_33 ?_
    rw [show nI (kN v * 5) + 1 = nI (kN v * 5 + 1) from nI_add _ 1]
    refine lv_iload_n hx hb z_r_tell_34 rfl (lv_at hl 3 rfl) ?_
    refine xs_i hx hb hK hP hD hS 14 0 rfl rfl (k := (kN v * 5 + 1)) (by omega) (by decide) z_r_tell_35 (fun H locs hP hD hS => ?_)
    have hP : va_P (dC, dI) vwCl (wC q cI cZ cB (unu (unu v (upd (znu v) (kN v * 5) t0)) (upd (upd (znu v) (kN v * 5) t0) (kN v * 5 + 1) x))) H := hP
    have hD : va_D A (wC q cI cZ cB (unu (unu v (upd (znu v) (kN v * 5) t0)) (upd (upd (znu v) (kN v * 5) t0) (kN v * 5 + 1) x))) := hD
    refine lv_aload_n hx hb z_r_tell_36 rfl (lv_at hl 1 rfl) ?_
    refine va_get (D := (dC, dI)) (ci := 0) (v := .ref (q 14)) (C := R0) (T := T0) (N := 2) hx hb hts (cw_sub iC0) hown hK hP 13 rfl rfl 0 (by decide) (hts _ (cw_in mw_80 rfl)) (fun _ h9 => h9) rfl z_r_tell_37 ?_
    refine lv_iload hx hb z_r_tell_40 (lv_at hl 0 rfl) ?_
    refine lv_iconst (v := 2) hx hb z_r_tell_42 (by decide) ?_
    refine lv_iadd hx hb z_r_tell_43 ?_
    rw [show nI (kN v * 5) + 2 = nI (kN v * 5 + 2) from nI_add _ 2]
    refine lv_iload_n hx hb z_r_tell_44 rfl (lv_at hl 4 rfl) ?_
    refine xs_i hx hb hK hP hD hS 14 0 rfl rfl (k := (kN v * 5 + 2)) (by omega) (by decide) z_r_tell_45 (fun H locs hP hD hS => ?_)
    have hP : va_P (dC, dI) vwCl (wC q cI cZ cB (unu (unu (unu v (upd (znu v) (kN v * 5) t0)) (upd (upd (znu v) (kN v * 5) t0) (kN v * 5 + 1) x)) (upd (upd (upd (znu v) (kN v * 5) t0) (kN v * 5 + 1) x) (kN v * 5 + 2) y))) H := hP
    have hD : va_D A (wC q cI cZ cB (unu (unu (unu v (upd (znu v) (kN v * 5) t0)) (upd (upd (znu v) (kN v * 5) t0) (kN v * 5 + 1) x)) (upd (upd (upd (znu v) (kN v * 5) t0) (kN v * 5 + 1) x) (kN v * 5 + 2) y))) := hD
    refine lv_aload_n hx hb z_r_tell_46 rfl (lv_at hl 1 rfl) ?_
    refine va_get (D := (dC, dI)) (ci := 0) (v := .ref (q 14)) (C := R0) (T := T0) (N := 2) hx hb hts (cw_sub iC0) hown hK hP 13 rfl rfl 0 (by decide) (hts _ (cw_in mw_80 rfl)) (fun _ h9 => h9) rfl z_r_tell_47 ?_
    refine lv_iload hx hb z_r_tell_50 (lv_at hl 0 rfl) ?_
    refine lv_iconst (v := 3) hx hb z_r_tell_52 (by decide) ?_
    refine lv_iadd hx hb z_r_tell_53 ?_
    rw [show nI (kN v * 5) + 3 = nI (kN v * 5 + 3) from nI_add _ 3]
    refine lv_iload hx hb z_r_tell_54 (lv_at hl 5 rfl) ?_
    refine xs_i hx hb hK hP hD hS 14 0 rfl rfl (k := (kN v * 5 + 3)) (by omega) (by decide) z_r_tell_56 (fun H locs hP hD hS => ?_)
    have hP : va_P (dC, dI) vwCl (wC q cI cZ cB (unu (unu (unu (unu v (upd (znu v) (kN v * 5) t0)) (upd (upd (znu v) (kN v * 5) t0) (kN v * 5 + 1) x)) (upd (upd (upd (znu v) (kN v * 5) t0) (kN v * 5 + 1) x) (kN v * 5 + 2) y)) (upd (upd (upd (upd (znu v) (kN v * 5) t0) (kN v * 5 + 1) x) (kN v * 5 + 2) y) (kN v * 5 + 3) z))) H := hP
    have hD : va_D A (wC q cI cZ cB (unu (unu (unu (unu v (upd (znu v) (kN v * 5) t0)) (upd (upd (znu v) (kN v * 5) t0) (kN v * 5 + 1) x)) (upd (upd (upd (znu v) (kN v * 5) t0) (kN v * 5 + 1) x) (kN v * 5 + 2) y)) (upd (upd (upd (upd (znu v) (kN v * 5) t0) (kN v * 5 + 1) x) (kN v * 5 + 2) y) (kN v * 5 + 3) z))) := hD
    refine lv_aload_n hx hb z_r_tell_57 rfl (lv_at hl 1 rfl) ?_
    refine va_get (D := (dC, dI)) (ci := 0) (v := .ref (q 14)) (C := R0) (T := T0) (N := 2) hx hb hts (cw_sub iC0) hown hK hP 13 rfl rfl 0 (by decide) (hts _ (cw_in mw_80 rfl)) (fun _ h9 => h9) rfl z_r_tell_58 ?_
    refine lv_iload hx hb z_r_tell_61 (lv_at hl 0 rfl) ?_
    refine lv_iconst (v := 4) hx hb z_r_tell_63 (by decide) ?_
    refine lv_iadd hx hb z_r_tell_64 ?_
    rw [show nI (kN v * 5) + 4 = nI (kN v * 5 + 4) from nI_add _ 4]
    refine lv_iload hx hb z_r_tell_65 (lv_at hl 6 rfl) ?_
    refine xs_i hx hb hK hP hD hS 14 0 rfl rfl (k := (kN v * 5 + 4)) (by omega) (by decide) z_r_tell_67 (fun H locs hP hD hS => ?_)
    have hP : va_P (dC, dI) vwCl (wC q cI cZ cB (unu (unu (unu (unu (unu v (upd (znu v) (kN v * 5) t0)) (upd (upd (znu v) (kN v * 5) t0) (kN v * 5 + 1) x)) (upd (upd (upd (znu v) (kN v * 5) t0) (kN v * 5 + 1) x) (kN v * 5 + 2) y)) (upd (upd (upd (upd (znu v) (kN v * 5) t0) (kN v * 5 + 1) x) (kN v * 5 + 2) y) (kN v * 5 + 3) z)) (upd (upd (upd (upd (upd (znu v) (kN v * 5) t0) (kN v * 5 + 1) x) (kN v * 5 + 2) y) (kN v * 5 + 3) z) (kN v * 5 + 4) w))) H := hP
    have hD : va_D A (wC q cI cZ cB (unu (unu (unu (unu (unu v (upd (znu v) (kN v * 5) t0)) (upd (upd (znu v) (kN v * 5) t0) (kN v * 5 + 1) x)) (upd (upd (upd (znu v) (kN v * 5) t0) (kN v * 5 + 1) x) (kN v * 5 + 2) y)) (upd (upd (upd (upd (znu v) (kN v * 5) t0) (kN v * 5 + 1) x) (kN v * 5 + 2) y) (kN v * 5 + 3) z)) (upd (upd (upd (upd (upd (znu v) (kN v * 5) t0) (kN v * 5 + 1) x) (kN v * 5 + 2) y) (kN v * 5 + 3) z) (kN v * 5 + 4) w))) := hD
    refine lv_aload_n hx hb z_r_tell_68 rfl (lv_at hl 1 rfl) ?_
    refine lv_dup hx hb z_r_tell_69 rfl ?_
    refine va_get (D := (dC, dI)) (ci := 0) (v := .int (zkp v)) (C := R0) (T := T0) (N := 2) hx hb hts (cw_sub iC0) hown hK hP 13 rfl rfl 1 (by decide) (hts _ (cw_in mw_82 rfl)) (fun _ h9 => h9) rfl z_r_tell_70 ?_
    rw [hi.kp.2]
    refine lv_iconst (v := 1) hx hb z_r_tell_73 (by decide) ?_
    refine lv_iadd hx hb z_r_tell_74 ?_
    rw [nI_1]
    refine va_put (D := (dC, dI)) (ci := 0) (v := .int (nI (kN v + 1))) (ty := .int) (C := R0) (T := T0) (N := 2) hx hb hts (cw_sub iC0) ty0 tyok0 nm0 hown hK hP hD hS 13 rfl rfl 1 (by decide) (hts _ (cw_in mw_82 rfl)) (fun _ h9 => h9) rfl (by decide +kernel) rfl rfl (Nat.le_of_ble_eq_true rfl) z_r_tell_75 (fun H locs hP hD hS => ?_)
    have hP : va_P (dC, dI) vwCl (wC q cI cZ cB (ukp (unu (unu (unu (unu (unu v (upd (znu v) (kN v * 5) t0)) (upd (upd (znu v) (kN v * 5) t0) (kN v * 5 + 1) x)) (upd (upd (upd (znu v) (kN v * 5) t0) (kN v * 5 + 1) x) (kN v * 5 + 2) y)) (upd (upd (upd (upd (znu v) (kN v * 5) t0) (kN v * 5 + 1) x) (kN v * 5 + 2) y) (kN v * 5 + 3) z)) (upd (upd (upd (upd (upd (znu v) (kN v * 5) t0) (kN v * 5 + 1) x) (kN v * 5 + 2) y) (kN v * 5 + 3) z) (kN v * 5 + 4) w)) (nI (kN v + 1)))) H := hP
    have hD : va_D A (wC q cI cZ cB (ukp (unu (unu (unu (unu (unu v (upd (znu v) (kN v * 5) t0)) (upd (upd (znu v) (kN v * 5) t0) (kN v * 5 + 1) x)) (upd (upd (upd (znu v) (kN v * 5) t0) (kN v * 5 + 1) x) (kN v * 5 + 2) y)) (upd (upd (upd (upd (znu v) (kN v * 5) t0) (kN v * 5 + 1) x) (kN v * 5 + 2) y) (kN v * 5 + 3) z)) (upd (upd (upd (upd (upd (znu v) (kN v * 5) t0) (kN v * 5 + 1) x) (kN v * 5 + 2) y) (kN v * 5 + 3) z) (kN v * 5 + 4) w)) (nI (kN v + 1)))) := hD
    exact W.vret hx hb hr (fun t ht hW => ⟨⟨ukp (unu (unu (unu (unu (unu v (upd (znu v) (kN v * 5) t0)) (upd (upd (znu v) (kN v * 5) t0) (kN v * 5 + 1) x)) (upd (upd (upd (znu v) (kN v * 5) t0) (kN v * 5 + 1) x) (kN v * 5 + 2) y)) (upd (upd (upd (upd (znu v) (kN v * 5) t0) (kN v * 5 + 1) x) (kN v * 5 + 2) y) (kN v * 5 + 3) z)) (upd (upd (upd (upd (upd (znu v) (kN v * 5) t0) (kN v * 5 + 1) x) (kN v * 5 + 2) y) (kN v * 5 + 3) z) (kN v * 5 + 4) w)) (nI (kN v + 1)), rfl, by rw [telS, if_neg (by omega)], by rw [ht]; exact hP, va_K.moved hW.alike hK, hD⟩, hS.F ht⟩) hS.2.2 z_r_tell_78
  · exact W.vret hx hb hr (fun t ht hW => ⟨⟨v, rfl, by rw [telS, if_pos (Nat.not_lt.mp (fun h => c_6 (nI_lt (b := 80) h (by decide))))], by rw [ht]; exact hP, va_K.moved hW.alike hK, hD⟩, hS.F ht⟩) hS.2.2 z_r_tell_9

set_option maxHeartbeats 4000000 in
set_option maxRecDepth 100000 in
theorem c_d_setSum (l : Launch) (dC : Nat → ClassId) (dI : Nat → Nat → Nat) (q : Nat → Nat) (cI cZ cB : ClassId) (v : St) (sz : Nat) (y : Int32) (x : Int64) (h9 : y = -1 ∨ ∃ g, g < 240 ∧ y = nI g) : Met l y_d_setSum (Cond.code y_d_setSum b_d_setSum 4 none :: CW) { frames := 0, cells := 0, slots := 0, locals := 0 } (va_Pc [.ref (q 0), .int y, .long x] (WrC (dC, dI) sz (wC q cI cZ cB v) (tyC cI cZ cB))) (va_Qv (fun u : St => (y = -1 ∧ u = v) ∨ ∃ g, g < 240 ∧ y = nI g ∧ u = usm v (upd (zsm v) g x.toInt32)) (fun u => WrB (dC, dI) (wC q cI cZ cB u) (tyC cI cZ cB) (va_A (wC q cI cZ cB v) sz)) (va_A (wC q cI cZ cB v) sz)) 0 0 (va_A (wC q cI cZ cB v) sz) := by
  refine cx_met (by decide) (Nat.le_of_ble_eq_true rfl) ?_
  intro p e s m below meth c hx hb hr hml hts hown hlocks hnm hC ls hl
  obtain ⟨hsz, hP, hK, hD0, hN⟩ := hC
  subst hsz
  have hD := hD0.self (sz := s.heap.size)
  generalize hAe : va_A (wC q cI cZ cB v) s.heap.size = A at hD ⊢
  have hA : ∀ q9 : Nat, s.heap.size ≤ q9 → A q9 := fun q9 h => by rw [← hAe]; exact Or.inr h
  have hS : va_S A s.heap s.heap [] := va_S.rf
  have hown : s.vm.findClass "ServiceDesk" = some m.cls := hown
  have hl : lv_has ls 4 [(0, .ref (q 0)), (1, .int y), (2, .long x)] := hl
  refine lv_iload_n hx hb z_d_setSum_0 rfl (lv_at hl 1 rfl) ?_
  refine lv_iconst (v := (-1)) hx hb z_d_setSum_1 (by decide) ?_
  refine lv_icmp_eq (tgt := 16) hx hb z_d_setSum_2 (by decide) (fun c_2 => ?_) (fun c_2 => ?_)
  · exact W.vret hx hb hr (fun t ht hW => ⟨⟨v, rfl, Or.inl ⟨c_2, rfl⟩, by rw [ht]; exact hP, va_K.moved hW.alike hK, hD⟩, hS.F ht⟩) hS.2.2 z_d_setSum_16
  · obtain ⟨g, hg, rfl⟩ := h9.resolve_left c_2
    refine lv_aload_n hx hb z_d_setSum_5 rfl (lv_at hl 0 rfl) ?_
    refine va_get (D := (dC, dI)) (ci := 3) (v := .ref (q 6)) (C := R3) (T := T3) (N := 6) hx hb hts (cw_sub iC3) hown hK hP 0 rfl rfl 2 (by decide) (hts _ (cw_in mw_94 rfl)) (fun _ h9 => h9) rfl z_d_setSum_6 ?_
    refine va_getN (D := (dC, dI)) (ci := 1) (v := .ref (q 10)) (C := R1) (T := T1) (N := 6) hx hb hts (cw_sub iC1) hown hK hP 6 rfl rfl 3 (by decide) (va_Nw.use rfl (hN _ nw_8)) (fun _ h9 => h9) rfl z_d_setSum_9 ?_
    refine lv_iload_n hx hb z_d_setSum_12 rfl (lv_at hl 1 rfl) ?_
    refine lv_lload_n hx hb z_d_setSum_13 rfl (lv_at hl 2 rfl) ?_
    refine lv_l2i hx hb z_d_setSum_14 rfl ?_
    refine xs_i hx hb hK hP hD hS 10 0 rfl rfl (k := g) (hg) (by decide) z_d_setSum_15 (fun H locs hP hD hS => ?_)
    have hP : va_P (dC, dI) vwCl (wC q cI cZ cB (usm v (upd (zsm v) g x.toInt32))) H := hP
    have hD : va_D A (wC q cI cZ cB (usm v (upd (zsm v) g x.toInt32))) := hD
    exact W.vret hx hb hr (fun t ht hW => ⟨⟨usm v (upd (zsm v) g x.toInt32), rfl, Or.inr ⟨g, hg, rfl, rfl⟩, by rw [ht]; exact hP, va_K.moved hW.alike hK, hD⟩, hS.F ht⟩) hS.2.2 z_d_setSum_16

set_option maxHeartbeats 4000000 in
set_option maxRecDepth 100000 in
theorem c_d_carryOut (l : Launch) (dC : Nat → ClassId) (dI : Nat → Nat → Nat) (q : Nat → Nat) (cI cZ cB : ClassId) (v : St) (sz : Nat) (hi : Inv v) (k j n : Nat) (hk : k < 8) (hj : j < mN v k) (hn : n < 8) (x : Int64) : Met l y_d_carryOut (Cond.code y_d_carryOut b_d_carryOut 6 none :: CW) { frames := 4, cells := 0, slots := 0, locals := 92 } (va_Pc [.ref (q 0), .int (nI k), .int (nI j), .int (nI n), .long x] (WrC (dC, dI) sz (wC q cI cZ cB v) (tyC cI cZ cB))) (va_Qv (fun u : St => u = carF v k j n x) (fun u => WrB (dC, dI) (wC q cI cZ cB u) (tyC cI cZ cB) (va_A (wC q cI cZ cB v) sz)) (va_A (wC q cI cZ cB v) sz)) 0 0 (va_A (wC q cI cZ cB v) sz) := by
  refine cx_met (by decide) (Nat.le_of_ble_eq_true rfl) ?_
  intro p e s m below meth c hx hb hr hml hts hown hlocks hnm hC ls hl
  obtain ⟨hsz, hP, hK, hD0, hN⟩ := hC
  subst hsz
  have hD := hD0.self (sz := s.heap.size)
  generalize hAe : va_A (wC q cI cZ cB v) s.heap.size = A at hD ⊢
  have hA : ∀ q9 : Nat, s.heap.size ≤ q9 → A q9 := fun q9 h => by rw [← hAe]; exact Or.inr h
  have hS : va_S A s.heap s.heap [] := va_S.rf
  have hown : s.vm.findClass "ServiceDesk" = some m.cls := hown
  have hl : lv_has ls 6 [(0, .ref (q 0)), (1, .int (nI k)), (2, .int (nI j)), (3, .int (nI n)), (4, .long x)] := hl
  have hM := (hi.mk k hk).1
  refine lv_aload_n hx hb z_d_carryOut_0 rfl (lv_at hl 0 rfl) ?_
  refine va_get (D := (dC, dI)) (ci := 3) (v := .ref (q 2)) (C := R3) (T := T3) (N := 6) hx hb hts (cw_sub iC3) hown hK hP 0 rfl rfl 1 (by decide) (hts _ (cw_in mw_93 rfl)) (fun _ h9 => h9) rfl z_d_carryOut_1 ?_
  refine va_getN (D := (dC, dI)) (ci := 2) (v := .ref (q 3)) (C := R2) (T := T2) (N := 3) hx hb hts (cw_sub iC2) hown hK hP 2 rfl rfl 0 (by decide) (va_Nw.use rfl (hN _ nw_1)) (fun _ h9 => h9) rfl z_d_carryOut_4 ?_
  refine lv_iload_n hx hb z_d_carryOut_7 rfl (lv_at hl 1 rfl) ?_
  refine lv_bipush (v := 8) hx hb z_d_carryOut_8 (by decide) ?_
  refine lv_imul hx hb z_d_carryOut_10 ?_
  refine lv_iload_n hx hb z_d_carryOut_11 rfl (lv_at hl 3 rfl) ?_
  refine lv_iadd hx hb z_d_carryOut_12 ?_
  rw [mul8_nI]
  refine xa_i hx hb hK hP 3 0 rfl rfl (k := (k * 8 + n)) (y := zmd v (k * 8 + n)) (by omega) (by decide) (rfl) z_d_carryOut_13 ?_
  rcases md8 hi (show k * 8 + n < 64 by omega) with e9 | e9 | e9 | e9 | e9 | e9 | e9 | e9
  · rw [e9]
    refine lv_lookup (off := 80) (tgt := 94) hx hb z_d_carryOut_14 (by decide) (by decide) (by decide) ?_
    exact W.vret hx hb hr (fun t ht hW => ⟨⟨v, rfl, carF_o (by rw [e9]; decide) (by rw [e9]; decide) (by rw [e9]; decide), by rw [ht]; exact hP, va_K.moved hW.alike hK, hD⟩, hS.F ht⟩) hS.2.2 z_d_carryOut_94
  · rw [e9]
    refine lv_lookup (off := 80) (tgt := 94) hx hb z_d_carryOut_14 (by decide) (by decide) (by decide) ?_
    exact W.vret hx hb hr (fun t ht hW => ⟨⟨v, rfl, carF_o (by rw [e9]; decide) (by rw [e9]; decide) (by rw [e9]; decide), by rw [ht]; exact hP, va_K.moved hW.alike hK, hD⟩, hS.F ht⟩) hS.2.2 z_d_carryOut_94
  · rw [e9]
    refine lv_lookup (off := 34) (tgt := 48) hx hb z_d_carryOut_14 (by decide) (by decide) (by decide) ?_
    refine lv_aload_n hx hb z_d_carryOut_48 rfl (lv_at hl 0 rfl) ?_
    refine lv_iload_n hx hb z_d_carryOut_49 rfl (lv_at hl 1 rfl) ?_
    refine lv_iload_n hx hb z_d_carryOut_50 rfl (lv_at hl 2 rfl) ?_
    refine rdSi (As := [.int (nI k), .int (nI j)]) (rest := [.ref (q 0)]) ⟨hx, hb, hml, hown, hts⟩ (c_d_slotOf l k j) mw_125 mw_261 mw_124 mw_1 yd_d_slotOf ⟨⟨rfl, rfl⟩, Nat.le_of_ble_eq_true rfl, Nat.le_of_ble_eq_true rfl⟩ ⟨Nat.zero_le _, Nat.zero_le _⟩ (pre_pure) rfl hl.1 rfl (Nat.le_of_ble_eq_true rfl) z_d_carryOut_51 (fun r_1 h_2 => ?_)
    subst h_2
    refine lv_lload hx hb z_d_carryOut_54 (lv_at hl 4 rfl) ?_
    refine wrVv (As := [.int (nI (k * 30 + j)), .long x]) (rest := []) (wf := fun u => wC q cI cZ cB u) ⟨hx, hb, hml, hown, hts⟩ (c_d_setSum l dC dI q cI cZ cB v s.heap.size (nI (k * 30 + j)) x (Or.inr ⟨k * 30 + j, by omega, rfl⟩)) mw_386 mw_383 mw_385 mp_21 mw_1 rfl yd_d_setSum ⟨⟨rfl, rfl⟩, Nat.le_of_ble_eq_true rfl, Nat.le_of_ble_eq_true rfl⟩ ⟨Nat.le_of_ble_eq_true rfl, Nat.le_of_ble_eq_true rfl⟩ (WrC.preV hP hK hD hN (ci := 3) (q0 := 0) rfl rfl) (wr_free hD hS hA) hS rfl hl.1 rfl (Nat.le_of_ble_eq_true rfl) z_d_carryOut_56 (fun u_4 H locs h_5 hP hD hS hz9 => ?_)
    refine lv_goto (tgt := 94) hx hb z_d_carryOut_59 (by decide) ?_
    exact W.vret hx hb hr (fun t ht hW => ⟨⟨u_4, rfl, (by rcases h_5 with ⟨h8, -⟩ | ⟨g, _, h8, h7⟩; exact absurd (show nI (k * 30 + j) < 0 by rw [h8]; decide) (nI_pos (by omega)); rw [h7, ← (nI_eq (by omega) (by omega)).mp h8]; exact carF_2 e9), by rw [ht]; exact hP, va_K.moved hW.alike hK, hD⟩, hS.F ht⟩) hS.2.2 z_d_carryOut_94
  · rw [e9]
    refine lv_lookup (off := 80) (tgt := 94) hx hb z_d_carryOut_14 (by decide) (by decide) (by decide) ?_
    exact W.vret hx hb hr (fun t ht hW => ⟨⟨v, rfl, carF_o (by rw [e9]; decide) (by rw [e9]; decide) (by rw [e9]; decide), by rw [ht]; exact hP, va_K.moved hW.alike hK, hD⟩, hS.F ht⟩) hS.2.2 z_d_carryOut_94
  · rw [e9]
    refine lv_lookup (off := 80) (tgt := 94) hx hb z_d_carryOut_14 (by decide) (by decide) (by decide) ?_
    exact W.vret hx hb hr (fun t ht hW => ⟨⟨v, rfl, carF_o (by rw [e9]; decide) (by rw [e9]; decide) (by rw [e9]; decide), by rw [ht]; exact hP, va_K.moved hW.alike hK, hD⟩, hS.F ht⟩) hS.2.2 z_d_carryOut_94
  · rw [e9]
    refine lv_lookup (off := 80) (tgt := 94) hx hb z_d_carryOut_14 (by decide) (by decide) (by decide) ?_
    exact W.vret hx hb hr (fun t ht hW => ⟨⟨v, rfl, carF_o (by rw [e9]; decide) (by rw [e9]; decide) (by rw [e9]; decide), by rw [ht]; exact hP, va_K.moved hW.alike hK, hD⟩, hS.F ht⟩) hS.2.2 z_d_carryOut_94
  · rw [e9]
    refine lv_lookup (off := 48) (tgt := 62) hx hb z_d_carryOut_14 (by decide) (by decide) (by decide) ?_
    refine lv_aload_n hx hb z_d_carryOut_62 rfl (lv_at hl 0 rfl) ?_
    refine lv_aload_n hx hb z_d_carryOut_63 rfl (lv_at hl 0 rfl) ?_
    refine lv_iload_n hx hb z_d_carryOut_64 rfl (lv_at hl 1 rfl) ?_
    refine lv_iload_n hx hb z_d_carryOut_65 rfl (lv_at hl 2 rfl) ?_
    refine rdVi (As := [.int (nI k), .int (nI j)]) (rest := [.ref (q 0)]) ⟨hx, hb, hml, hown, hts⟩ (c_d_slotAbove l dC dI q cI cZ cB v hi k j hk hj) mw_356 mw_353 mw_355 mp_14 mw_1 rfl yd_d_slotAbove ⟨⟨rfl, rfl⟩, Nat.le_of_ble_eq_true rfl, Nat.le_of_ble_eq_true rfl⟩ ⟨Nat.zero_le _, Nat.zero_le _⟩ (RdC.preV hP hK hN (ci := 3) (q0 := 0) rfl rfl) rfl hl.1 rfl (Nat.le_of_ble_eq_true rfl) z_d_carryOut_66 (fun r_6 h_7 => ?_)
    refine lv_lload hx hb z_d_carryOut_69 (lv_at hl 4 rfl) ?_
    refine wrVv (As := [.int r_6, .long x]) (rest := []) (wf := fun u => wC q cI cZ cB u) ⟨hx, hb, hml, hown, hts⟩ (c_d_setSum l dC dI q cI cZ cB v s.heap.size r_6 x (an6_arg hi h_7)) mw_386 mw_383 mw_385 mp_21 mw_1 rfl yd_d_setSum ⟨⟨rfl, rfl⟩, Nat.le_of_ble_eq_true rfl, Nat.le_of_ble_eq_true rfl⟩ ⟨Nat.le_of_ble_eq_true rfl, Nat.le_of_ble_eq_true rfl⟩ (WrC.preV hP hK hD hN (ci := 3) (q0 := 0) rfl rfl) (wr_free hD hS hA) hS rfl hl.1 rfl (Nat.le_of_ble_eq_true rfl) z_d_carryOut_71 (fun u_9 H locs h_10 hP hD hS hz9 => ?_)
    refine lv_goto (tgt := 94) hx hb z_d_carryOut_74 (by decide) ?_
    exact W.vret hx hb hr (fun t ht hW => ⟨⟨u_9, rfl, carF_6 hi e9 h_7 h_10, by rw [ht]; exact hP, va_K.moved hW.alike hK, hD⟩, hS.F ht⟩) hS.2.2 z_d_carryOut_94
  · rw [e9]
    refine lv_lookup (off := 63) (tgt := 77) hx hb z_d_carryOut_14 (by decide) (by decide) (by decide) ?_
    refine lv_aload_n hx hb z_d_carryOut_77 rfl (lv_at hl 0 rfl) ?_
    refine va_get (D := (dC, dI)) (ci := 3) (v := .ref (q 6)) (C := R3) (T := T3) (N := 6) hx hb hts (cw_sub iC3) hown hK hP 0 rfl rfl 2 (by decide) (hts _ (cw_in mw_94 rfl)) (fun _ h9 => h9) rfl z_d_carryOut_78 ?_
    refine va_getN (D := (dC, dI)) (ci := 1) (v := .ref (q 9)) (C := R1) (T := T1) (N := 6) hx hb hts (cw_sub iC1) hown hK hP 6 rfl rfl 2 (by decide) (va_Nw.use rfl (hN _ nw_7)) (fun _ h9 => h9) rfl z_d_carryOut_81 ?_
    refine lv_iload_n hx hb z_d_carryOut_84 rfl (lv_at hl 1 rfl) ?_
    refine lv_iload_n hx hb z_d_carryOut_85 rfl (lv_at hl 2 rfl) ?_
    refine rdSi (As := [.int (nI k), .int (nI j)]) (rest := [.ref (q 9)]) ⟨hx, hb, hml, hown, hts⟩ (c_d_slotOf l k j) mw_125 mw_261 mw_124 mw_1 yd_d_slotOf ⟨⟨rfl, rfl⟩, Nat.le_of_ble_eq_true rfl, Nat.le_of_ble_eq_true rfl⟩ ⟨Nat.zero_le _, Nat.zero_le _⟩ (pre_pure) rfl hl.1 rfl (Nat.le_of_ble_eq_true rfl) z_d_carryOut_86 (fun r_11 h_12 => ?_)
    subst h_12
    refine lv_iconst (v := 0) hx hb z_d_carryOut_89 (by decide) ?_
    refine xs_z hx hb hK hP hD hS 9 1 rfl rfl (k := (k * 30 + j)) (y := 0) (by omega) (by decide) (rfl) z_d_carryOut_90 (fun H locs hP hD hS => ?_)
    have hP : va_P (dC, dI) vwCl (wC q cI cZ cB (uop v (upd (zop v) (k * 30 + j) 0))) H := hP
    have hD : va_D A (wC q cI cZ cB (uop v (upd (zop v) (k * 30 + j) 0))) := hD
    refine lv_goto (tgt := 94) hx hb z_d_carryOut_91 (by decide) ?_
    exact W.vret hx hb hr (fun t ht hW => ⟨⟨uop v (upd (zop v) (k * 30 + j) 0), rfl, carF_7 e9, by rw [ht]; exact hP, va_K.moved hW.alike hK, hD⟩, hS.F ht⟩) hS.2.2 z_d_carryOut_94

set_option maxHeartbeats 4000000 in
set_option maxRecDepth 100000 in
theorem c_s_lengthen (l : Launch) (dC : Nat → ClassId) (dI : Nat → Nat → Nat) (q : Nat → Nat) (cI cZ cB : ClassId) (v : St) (sz : Nat) (hi : Inv v) (g : Nat) (hg : g < 240) (p0 : Int64) (n : Nat) (hn : lN9 v g + n ≤ 16) : Met l y_s_lengthen (Cond.code y_s_lengthen b_s_lengthen 7 (some .int) :: CW) { frames := 1, cells := 0, slots := 0, locals := 23 } (va_Pc [.ref (q 6), .int (nI g), .long p0, .int (nI n)] (WrC (dC, dI) sz (wC q cI cZ cB v) (tyC cI cZ cB))) (va_Qi (fun (r : Int32) (u : St) => r = nI (lN9 v g + n) ∧ u = lenS v g p0 n) (fun u => WrB (dC, dI) (wC q cI cZ cB u) (tyC cI cZ cB) (va_A (wC q cI cZ cB v) sz)) (va_A (wC q cI cZ cB v) sz)) 0 0 (va_A (wC q cI cZ cB v) sz) := by
  refine cx_met (by decide) (Nat.le_of_ble_eq_true rfl) ?_
  intro p e s m below meth c hx hb hr hml hts hown hlocks hnm hC ls hl
  obtain ⟨hsz, hP, hK, hD0, hN⟩ := hC
  subst hsz
  have hD := hD0.self (sz := s.heap.size)
  generalize hAe : va_A (wC q cI cZ cB v) s.heap.size = A at hD ⊢
  have hA : ∀ q9 : Nat, s.heap.size ≤ q9 → A q9 := fun q9 h => by rw [← hAe]; exact Or.inr h
  have hS : va_S A s.heap s.heap [] := va_S.rf
  have hown : s.vm.findClass "ServiceDesk$Subjects" = some m.cls := hown
  have hl : lv_has ls 7 [(0, .ref (q 6)), (1, .int (nI g)), (2, .long p0), (4, .int (nI n))] := hl
  refine lv_iload_n hx hb z_s_lengthen_0 rfl (lv_at hl 1 rfl) ?_
  refine lv_bipush (v := 16) hx hb z_s_lengthen_1 (by decide) ?_
  refine lv_imul hx hb z_s_lengthen_3 ?_
  refine lv_aload_n hx hb z_s_lengthen_4 rfl (lv_at hl 0 rfl) ?_
  refine va_get (D := (dC, dI)) (ci := 1) (v := .ref (q 11)) (C := R1) (T := T1) (N := 6) hx hb hts (cw_sub iC1) hown hK hP 6 rfl rfl 4 (by decide) (hts _ (cw_in mw_56 rfl)) (fun _ h9 => h9) rfl z_s_lengthen_5 ?_
  refine lv_iload_n hx hb z_s_lengthen_8 rfl (lv_at hl 1 rfl) ?_
  refine xa_i hx hb hK hP 11 0 rfl rfl (k := g) (y := nI (lN9 v g)) (hg) (by decide) ((hi.ln g hg).2) z_s_lengthen_9 ?_
  refine lv_iadd hx hb z_s_lengthen_10 ?_
  rw [mul16_nI]
  refine lv_istore (lv' := [(5, .int (nI (g * 16 + lN9 v g))), (0, .ref (q 6)), (1, .int (nI g)), (2, .long p0), (4, .int (nI n))]) hx hb z_s_lengthen_11 hl (by decide) rfl (fun ls hl => ?_)
  refine lv_iconst (v := 0) hx hb z_s_lengthen_13 (by decide) ?_
  refine lv_istore (lv' := [(6, .int 0), (5, .int (nI (g * 16 + lN9 v g))), (0, .ref (q 6)), (1, .int (nI g)), (2, .long p0), (4, .int (nI n))]) hx hb z_s_lengthen_14 hl (by decide) rfl (fun ls hl => ?_)
  refine wr_loop (nL := 7) n (fun i => wC q cI cZ cB (utx v (lenT (ztx v) (g * 16 + lN9 v g) p0 n i))) (fun i => [(0, .ref (q 6)), (1, .int (nI g)), (2, .long p0), (4, .int (nI n)), (5, .int (nI (g * 16 + lN9 v g))), (6, .int (nI i))]) ?_ _ _ ls hP hD hS (lv_sub hl [2, 3, 4, 5, 1, 0] rfl)
  intro i H locs ls hle hP hD hS hl ih
  have hl : lv_has ls 7 [(0, .ref (q 6)), (1, .int (nI g)), (2, .long p0), (4, .int (nI n)), (5, .int (nI (g * 16 + lN9 v g))), (6, .int (nI i))] := hl
  have hP : va_P (dC, dI) vwCl (wC q cI cZ cB (utx v (lenT (ztx v) (g * 16 + lN9 v g) p0 n i))) H := hP
  have hD : va_D A (wC q cI cZ cB (utx v (lenT (ztx v) (g * 16 + lN9 v g) p0 n i))) := hD
  refine lv_iload hx hb z_s_lengthen_16 (lv_at hl 5 rfl) ?_
  refine lv_iload hx hb z_s_lengthen_18 (lv_at hl 3 rfl) ?_
  refine lv_icmp_ge (tgt := 48) hx hb z_s_lengthen_20 (by decide) (fun c_20 => ?_) (fun c_20 => ?_)
  · obtain rfl : n = i := (eq_of_nle hle (by omega) c_20).symm
    refine lv_aload_n hx hb z_s_lengthen_48 rfl (lv_at hl 0 rfl) ?_
    refine va_get (D := (dC, dI)) (ci := 1) (v := .ref (q 11)) (C := R1) (T := T1) (N := 6) hx hb hts (cw_sub iC1) hown hK hP 6 rfl rfl 4 (by decide) (hts _ (cw_in mw_56 rfl)) (fun _ h9 => h9) rfl z_s_lengthen_49 ?_
    refine lv_iload_n hx hb z_s_lengthen_52 rfl (lv_at hl 1 rfl) ?_
    refine lv_dup2_11 hx hb z_s_lengthen_53 rfl rfl ?_
    refine xa_i hx hb hK hP 11 0 rfl rfl (k := g) (y := nI (lN9 v g)) (hg) (by decide) ((hi.ln g hg).2) z_s_lengthen_54 ?_
    refine lv_iload hx hb z_s_lengthen_55 (lv_at hl 3 rfl) ?_
    refine lv_iadd hx hb z_s_lengthen_57 ?_
    rw [nI_add]
    refine xs_i hx hb hK hP hD hS 11 0 rfl rfl (k := g) (hg) (by decide) z_s_lengthen_58 (fun H locs hP hD hS => ?_)
    have hP : va_P (dC, dI) vwCl (wC q cI cZ cB (uln (utx v (lenT (ztx v) (g * 16 + lN9 v g) p0 n n)) (upd (zln v) g (nI (lN9 v g + n))))) H := hP
    have hD : va_D A (wC q cI cZ cB (uln (utx v (lenT (ztx v) (g * 16 + lN9 v g) p0 n n)) (upd (zln v) g (nI (lN9 v g + n))))) := hD
    refine lv_aload_n hx hb z_s_lengthen_59 rfl (lv_at hl 0 rfl) ?_
    refine va_get (D := (dC, dI)) (ci := 1) (v := .ref (q 11)) (C := R1) (T := T1) (N := 6) hx hb hts (cw_sub iC1) hown hK hP 6 rfl rfl 4 (by decide) (hts _ (cw_in mw_56 rfl)) (fun _ h9 => h9) rfl z_s_lengthen_60 ?_
    refine lv_iload_n hx hb z_s_lengthen_63 rfl (lv_at hl 1 rfl) ?_
    refine xa_i hx hb hK hP 11 0 rfl rfl (k := g) (y := nI (lN9 v g + n)) (hg) (by decide) (pk_us) z_s_lengthen_64 ?_
    exact W.iret (v := nI (lN9 v g + n)) hx hb hr (fun t ht hW => ⟨⟨nI (lN9 v g + n), uln (utx v (lenT (ztx v) (g * 16 + lN9 v g) p0 n n)) (upd (zln v) g (nI (lN9 v g + n))), rfl, ⟨rfl, rfl⟩, by rw [ht]; exact hP, va_K.moved hW.alike hK, hD⟩, hS.F ht⟩) hS.2.2 z_s_lengthen_65
  · have hlt : i < n := nlt_of (by omega) c_20
    refine lv_aload_n hx hb z_s_lengthen_23 rfl (lv_at hl 0 rfl) ?_
    refine va_get (D := (dC, dI)) (ci := 1) (v := .ref (q 12)) (C := R1) (T := T1) (N := 6) hx hb hts (cw_sub iC1) hown hK hP 6 rfl rfl 5 (by decide) (hts _ (cw_in mw_58 rfl)) (fun _ h9 => h9) rfl z_s_lengthen_24 ?_
    refine lv_iload hx hb z_s_lengthen_27 (lv_at hl 4 rfl) ?_
    refine lv_iload hx hb z_s_lengthen_29 (lv_at hl 5 rfl) ?_
    refine lv_iadd hx hb z_s_lengthen_31 ?_
    rw [nI_add]
    refine lv_lload_n hx hb z_s_lengthen_32 rfl (lv_at hl 2 rfl) ?_
    refine lv_iload hx hb z_s_lengthen_33 (lv_at hl 3 rfl) ?_
    refine lv_iload hx hb z_s_lengthen_35 (lv_at hl 5 rfl) ?_
    refine rdSi (As := [.long p0, .int (nI n), .int (nI i)]) (rest := [.int (nI (g * 16 + lN9 v g + i)), .ref (q 12)]) ⟨hx, hb, hml, hown, hts⟩ (c_s_byteOf l p0 (nI n) (nI i)) mw_410 mw_408 mw_409 mw_3 yd_s_byteOf ⟨⟨rfl, rfl⟩, Nat.le_of_ble_eq_true rfl, Nat.le_of_ble_eq_true rfl⟩ ⟨Nat.zero_le _, Nat.zero_le _⟩ (pre_pure) rfl hl.1 rfl (Nat.le_of_ble_eq_true rfl) z_s_lengthen_37 (fun r_1 h_2 => ?_)
    subst h_2
    refine lv_i2b hx hb z_s_lengthen_40 rfl ?_
    refine xs_b hx hb hK hP hD hS 12 2 rfl rfl (k := (g * 16 + lN9 v g + i)) (y := (byteF p0 (nI n) (nI i)).toInt8.toInt32) (by omega) (by decide) (pk_vb _) z_s_lengthen_41 (fun H locs hP hD hS => ?_)
    have hP : va_P (dC, dI) vwCl (wC q cI cZ cB (utx (utx v (lenT (ztx v) (g * 16 + lN9 v g) p0 n i)) (upd (lenT (ztx v) (g * 16 + lN9 v g) p0 n i) (g * 16 + lN9 v g + i) ((byteF p0 (nI n) (nI i)).toInt8.toInt32)))) H := hP
    have hD : va_D A (wC q cI cZ cB (utx (utx v (lenT (ztx v) (g * 16 + lN9 v g) p0 n i)) (upd (lenT (ztx v) (g * 16 + lN9 v g) p0 n i) (g * 16 + lN9 v g + i) ((byteF p0 (nI n) (nI i)).toInt8.toInt32)))) := hD
    refine lv_iinc (v := nI (i + 1)) (lv' := [(6, .int (nI (i + 1))), (0, .ref (q 6)), (1, .int (nI g)), (2, .long p0), (4, .int (nI n)), (5, .int (nI (g * 16 + lN9 v g)))]) hx hb z_s_lengthen_42 hl (k := 5) rfl (by exact nI_1 i) (by decide) rfl (fun ls hl => ?_)
    refine lv_goto (tgt := 16) hx hb z_s_lengthen_45 (by decide) ?_
    exact ih _ _ ls hlt hP hD hS (lv_sub hl [1, 2, 3, 4, 5, 0] rfl)
