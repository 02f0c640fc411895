set_option maxHeartbeats 4000000 in
set_option maxRecDepth 100000 in
theorem c_d_refuse (l : Launch) (sz : Nat) (hl0 : l.stackTraces = false) (x : Int32) : vx_Met l y_d_refuse (Cond.code y_d_refuse b_d_refuse 1 none :: CW) { frames := 6, cells := 1, slots := 6, locals := 82 } (va_Pc [.int x] (fun U => U.heap.size = sz ∧ XcC (fun q => sz ≤ q) U U.heap)) (va_Qv (fun _ : Unit => ¬ x = 13 ∧ ¬ x = 14 ∧ ¬ x = 15) (fun _ _ => True) (fun q => sz ≤ q)) (vx_X (fun _ : Unit => True) (fun E _ _ => rfE x E) (fun q => sz ≤ q)) 1 6 (fun _ => False) := by
  refine tx_met (by decide) (Nat.le_of_ble_eq_true rfl) ?_
  intro p e s m below meth c hx hb hr hml hts hown hlocks hEx hC ls hl
  obtain ⟨hsz, hX⟩ := hC
  subst hsz
  have hS : va_S (fun q9 : Nat => s.heap.size ≤ q9) s.heap s.heap [] := va_S.rf
  have hown : s.vm.findClass "ServiceDesk" = some m.cls := hown
  have hl : lv_has ls 1 [(0, .int x)] := hl
  refine lv_iload_n hx hb z_d_refuse_0 rfl (lv_at hl 0 rfl) ?_
  refine lv_bipush (v := 13) hx hb z_d_refuse_1 (by decide) ?_
  refine lv_icmp_ne (tgt := 16) hx hb z_d_refuse_3 (by decide) (fun c_3 => ?_) (fun c_3 => ?_)
  · refine lv_iload_n hx hb z_d_refuse_16 rfl (lv_at hl 0 rfl) ?_
    refine lv_bipush (v := 14) hx hb z_d_refuse_17 (by decide) ?_
    refine lv_icmp_ne (tgt := 32) hx hb z_d_refuse_19 (by decide) (fun c_19 => ?_) (fun c_19 => ?_)
    · refine lv_iload_n hx hb z_d_refuse_32 rfl (lv_at hl 0 rfl) ?_
      refine lv_bipush (v := 15) hx hb z_d_refuse_33 (by decide) ?_
      refine lv_icmp_ne (tgt := 48) hx hb z_d_refuse_35 (by decide) (fun c_35 => ?_) (fun c_35 => ?_)
      · refine W.widen (k := 1) (n := 6) (Nat.le_of_ble_eq_true rfl) (Nat.le_of_ble_eq_true rfl) ?_
        exact vx_ret (W.vret hx hb hr (fun t ht hW => ⟨⟨(), rfl, ⟨c_3, c_19, c_35⟩, trivial⟩, hS.F ht⟩) (fun _ h9 => by cases h9) z_d_refuse_48)
      · obtain ⟨sa, hsa⟩ := hX.2.2.2 _ sr_142
        exact vx_throwS (own := "ServiceDesk") (cls := "java/lang/IllegalStateException") (names := ["java/lang/RuntimeException", "java/lang/Exception"]) hx hb hl0 hown (by decide +kernel) (by decide +kernel) (hts _ (cw_in mw_224 rfl)) (hts _ (cw_in mw_11 rfl)) hsa (xw_2 hts hX.2.2.1) (List.forall_mem_cons.mpr ⟨rfl, List.forall_mem_cons.mpr ⟨rfl, xo_2⟩⟩) hX.1 hX.2.1 hS (hl.1.trans hml.symm) z_d_refuse_38 z_d_refuse_41 z_d_refuse_42 z_d_refuse_44 z_d_refuse_47 (fun x9 h9 => (hEx x9 h9).elim) (Nat.le_of_ble_eq_true rfl) (Nat.le_of_ble_eq_true rfl) (Nat.le_of_ble_eq_true rfl) (Nat.le_of_ble_eq_true rfl) hlocks (fun t hA0 hZ0 hK0 => ⟨(), trivial, Or.inr (Or.inr ⟨c_35, rfl⟩), hZ0, fun q9 h1 _ => hK0 q9 h1⟩) (fun _ h9 => by cases h9) (Nat.le_of_ble_eq_true rfl) (Nat.le_of_ble_eq_true rfl)
    · obtain ⟨sa, hsa⟩ := hX.2.2.2 _ sr_215
      exact vx_throwS (own := "ServiceDesk") (cls := "java/lang/IndexOutOfBoundsException") (names := ["java/lang/RuntimeException", "java/lang/Exception"]) hx hb hl0 hown (by decide +kernel) (by decide +kernel) (hts _ (cw_in mw_299 rfl)) (hts _ (cw_in mw_13 rfl)) hsa (xw_1 hts hX.2.2.1) (List.forall_mem_cons.mpr ⟨rfl, List.forall_mem_cons.mpr ⟨rfl, xo_1⟩⟩) hX.1 hX.2.1 hS (hl.1.trans hml.symm) z_d_refuse_22 z_d_refuse_25 z_d_refuse_26 z_d_refuse_28 z_d_refuse_31 (fun x9 h9 => (hEx x9 h9).elim) (Nat.le_of_ble_eq_true rfl) (Nat.le_of_ble_eq_true rfl) (Nat.le_of_ble_eq_true rfl) (Nat.le_of_ble_eq_true rfl) hlocks (fun t hA0 hZ0 hK0 => ⟨(), trivial, Or.inr (Or.inl ⟨c_19, rfl⟩), hZ0, fun q9 h1 _ => hK0 q9 h1⟩) (fun _ h9 => by cases h9) (Nat.le_of_ble_eq_true rfl) (Nat.le_of_ble_eq_true rfl)
  · obtain ⟨sa, hsa⟩ := hX.2.2.2 _ sr_213
    exact vx_throwS (own := "ServiceDesk") (cls := "java/lang/IllegalArgumentException") (names := ["java/lang/RuntimeException", "java/lang/Exception"]) hx hb hl0 hown (by decide +kernel) (by decide +kernel) (hts _ (cw_in mw_152 rfl)) (hts _ (cw_in mw_10 rfl)) hsa (xw_0 hts hX.2.2.1) (List.forall_mem_cons.mpr ⟨rfl, List.forall_mem_cons.mpr ⟨rfl, xo_0⟩⟩) hX.1 hX.2.1 hS (hl.1.trans hml.symm) z_d_refuse_6 z_d_refuse_9 z_d_refuse_10 z_d_refuse_12 z_d_refuse_15 (fun x9 h9 => (hEx x9 h9).elim) (Nat.le_of_ble_eq_true rfl) (Nat.le_of_ble_eq_true rfl) (Nat.le_of_ble_eq_true rfl) (Nat.le_of_ble_eq_true rfl) hlocks (fun t hA0 hZ0 hK0 => ⟨(), trivial, Or.inl ⟨c_3, rfl⟩, hZ0, fun q9 h1 _ => hK0 q9 h1⟩) (fun _ h9 => by cases h9) (Nat.le_of_ble_eq_true rfl) (Nat.le_of_ble_eq_true rfl)

set_option maxHeartbeats 4000000 in
set_option maxRecDepth 100000 in
theorem c_d_under (l : Launch) (dC : Nat → ClassId) (dI : Nat → Nat → Nat) (q : Nat → Nat) (cI cZ cB : ClassId) (v : St) (sz : Nat) (hl0 : l.stackTraces = false) (hi : Inv v) (x y : Int32) : vx_Met l y_d_under (Cond.code y_d_under b_d_under 3 none :: CW) { frames := 6, cells := 1, slots := 6, locals := 82 } (va_Pc [.ref (q 0), .int x, .int y] (TxC (dC, dI) sz (wC q cI cZ cB v) (tyC cI cZ cB))) (va_Qv (fun u : St => spUnder v x y 0 u) (fun u => WrB (dC, dI) (wC q cI cZ cB u) (tyC cI cZ cB) (va_A (wC q cI cZ cB v) sz)) (va_A (wC q cI cZ cB v) sz)) (vx_X (fun z9 : Nat × St => spUnder v x y z9.1 z9.2) (fun E z9 t => (E, z9.1) ∈ ([("java/lang/IllegalArgumentException", 1), ("java/lang/IllegalStateException", 2)] : List (String × Nat)) ∧ WrB (dC, dI) (wC q cI cZ cB z9.2) (tyC cI cZ cB) (va_A (wC q cI cZ cB v) sz) t) (va_A (wC q cI cZ cB v) sz)) 1 6 (va_A (wC q cI cZ cB v) sz) := by
  refine tx_met (by decide) (Nat.le_of_ble_eq_true rfl) ?_
  intro p e s m below meth c hx hb hr hml hts hown hlocks hEx hC ls hl
  obtain ⟨⟨hsz, hP, hK, hD0, hN⟩, hX⟩ := hC
  subst hsz
  have hD := hD0.self (sz := s.heap.size)
  generalize hAe : va_A (wC q cI cZ cB v) s.heap.size = A at hD hX ⊢
  have hA : ∀ q9 : Nat, s.heap.size ≤ q9 → A q9 := fun q9 h => by rw [← hAe]; exact Or.inr h
  have hS : va_S A s.heap s.heap [] := va_S.rf
  have hown : s.vm.findClass "ServiceDesk" = some m.cls := hown
  have hl : lv_has ls 3 [(0, .ref (q 0)), (1, .int x), (2, .int y)] := hl
  refine lv_iload_n hx hb z_d_under_0 rfl (lv_at hl 1 rfl) ?_
  refine rdSi (As := [.int x]) (rest := []) ⟨hx, hb, hml, hown, hts⟩ (c_d_isKind l x) mw_151 mw_149 mw_150 mw_1 yd_d_isKind ⟨⟨rfl, rfl⟩, Nat.le_of_ble_eq_true rfl, Nat.le_of_ble_eq_true rfl⟩ ⟨Nat.le_of_ble_eq_true rfl, Nat.le_of_ble_eq_true rfl⟩ (pre_pure) rfl hl.1 rfl (Nat.le_of_ble_eq_true rfl) z_d_under_1 (fun r_1 h_2 => ?_)
  rcases h_2 with ⟨rfl, h_2⟩ | ⟨rfl, h_2⟩
  · obtain ⟨k, hk, rfl⟩ := h_2
    refine lv_if_eq (tgt := 19) hx hb z_d_under_4 (by decide) (fun c9 => absurd c9 (by decide)) (fun _ => ?_)
    refine lv_iload_n hx hb z_d_under_7 rfl (lv_at hl 2 rfl) ?_
    refine lv_iconst (v := (-1)) hx hb z_d_under_8 (by decide) ?_
    refine lv_icmp_eq (tgt := 29) hx hb z_d_under_9 (by decide) (fun c_9 => ?_) (fun c_9 => ?_)
    · refine lv_aload_n hx hb z_d_under_29 rfl (lv_at hl 0 rfl) ?_
      refine va_get (D := (dC, dI)) (ci := 3) (v := .ref (q 6)) (C := R3) (T := T3) (N := 6) hx hb hts (cw_sub iC3) hown hK hP 0 rfl rfl 2 (by decide) (hts _ (cw_in mw_94 rfl)) (fun _ h9 => h9) rfl z_d_under_30 ?_
      refine va_getN (D := (dC, dI)) (ci := 1) (v := .ref (q 7)) (C := R1) (T := T1) (N := 6) hx hb hts (cw_sub iC1) hown hK hP 6 rfl rfl 0 (by decide) (va_Nw.use rfl (hN _ nw_5)) (fun _ h9 => h9) rfl z_d_under_33 ?_
      refine lv_iload_n hx hb z_d_under_36 rfl (lv_at hl 1 rfl) ?_
      refine xa_i hx hb hK hP 7 0 rfl rfl (k := k) (y := nI (mN v k)) (hk) (by decide) ((hi.mk k hk).2) z_d_under_37 ?_
      refine lv_if_gt (tgt := 50) hx hb z_d_under_38 (by decide) (fun c_38 => ?_) (fun c_38 => ?_)
      · obtain ⟨sa_3, hsa_3⟩ := hX.2.2.2 _ sr_60
        exact vx_throwS (own := "ServiceDesk") (cls := "java/lang/IllegalStateException") (names := ["java/lang/RuntimeException", "java/lang/Exception"]) hx hb hl0 hown (by decide +kernel) (by decide +kernel) (hts _ (cw_in mw_224 rfl)) (hts _ (cw_in mw_11 rfl)) hsa_3 (xw_2 hts hX.2.2.1) (List.forall_mem_cons.mpr ⟨rfl, List.forall_mem_cons.mpr ⟨rfl, xo_2⟩⟩) hX.1 hX.2.1 hS (hl.1.trans hml.symm) z_d_under_50 z_d_under_53 z_d_under_54 z_d_under_56 z_d_under_59 (fun x9 h9 => (hEx x9 h9).elim) (Nat.le_of_ble_eq_true rfl) (Nat.le_of_ble_eq_true rfl) (Nat.le_of_ble_eq_true rfl) (Nat.le_of_ble_eq_true rfl) hlocks (fun t hA0 hZ0 hK0 => ⟨(2, v), Or.inr (Or.inl ⟨rfl, rfl, k, hk, rfl, Or.inl c_9, Or.inl (pos_of_lt c_38)⟩), ⟨List.mem_of_getElem? (i := 1) rfl, hP.kept (fun k9 q9 hq9 => hK0 q9.1 (hP k9 q9 hq9).lt), va_K.moved hA0 hK, hD⟩, Nat.le_trans hS.1 hZ0, fun q9 h1 h2 => (hK0 q9 (Nat.lt_of_lt_of_le h1 hS.1)).trans (hS.2.1 q9 h1 h2)⟩) hS.2.2 (Nat.le_of_ble_eq_true rfl) (Nat.le_of_ble_eq_true rfl)
      · refine lv_aload_n hx hb z_d_under_41 rfl (lv_at hl 0 rfl) ?_
        refine lv_iload_n hx hb z_d_under_42 rfl (lv_at hl 2 rfl) ?_
        refine lv_iload_n hx hb z_d_under_43 rfl (lv_at hl 1 rfl) ?_
        refine rdVi (As := [.int y, .int (nI k)]) (rest := []) ⟨hx, hb, hml, hown, hts⟩ (c_d_isAtOrUnder l dC dI q cI cZ cB v hi y (Or.inl c_9) k hk) mw_223 mw_220 mw_222 mp_5 mw_1 rfl yd_d_isAtOrUnder ⟨⟨rfl, rfl⟩, Nat.le_of_ble_eq_true rfl, Nat.le_of_ble_eq_true rfl⟩ ⟨Nat.le_of_ble_eq_true rfl, Nat.le_of_ble_eq_true rfl⟩ (RdC.preV hP hK hN (ci := 3) (q0 := 0) rfl rfl) rfl hl.1 rfl (Nat.le_of_ble_eq_true rfl) z_d_under_44 (fun r_4 h_5 => ?_)
        rcases h_5 with ⟨rfl, h_5⟩ | ⟨rfl, h_5⟩
        · refine lv_if_eq (tgt := 60) hx hb z_d_under_47 (by decide) (fun c9 => absurd c9 (by decide)) (fun _ => ?_)
          obtain ⟨sa_6, hsa_6⟩ := hX.2.2.2 _ sr_60
          exact vx_throwS (own := "ServiceDesk") (cls := "java/lang/IllegalStateException") (names := ["java/lang/RuntimeException", "java/lang/Exception"]) hx hb hl0 hown (by decide +kernel) (by decide +kernel) (hts _ (cw_in mw_224 rfl)) (hts _ (cw_in mw_11 rfl)) hsa_6 (xw_2 hts hX.2.2.1) (List.forall_mem_cons.mpr ⟨rfl, List.forall_mem_cons.mpr ⟨rfl, xo_2⟩⟩) hX.1 hX.2.1 hS (hl.1.trans hml.symm) z_d_under_50 z_d_under_53 z_d_under_54 z_d_under_56 z_d_under_59 (fun x9 h9 => (hEx x9 h9).elim) (Nat.le_of_ble_eq_true rfl) (Nat.le_of_ble_eq_true rfl) (Nat.le_of_ble_eq_true rfl) (Nat.le_of_ble_eq_true rfl) hlocks (fun t hA0 hZ0 hK0 => ⟨(2, v), Or.inr (Or.inl ⟨rfl, rfl, k, hk, rfl, Or.inl c_9, Or.inr h_5⟩), ⟨List.mem_of_getElem? (i := 1) rfl, hP.kept (fun k9 q9 hq9 => hK0 q9.1 (hP k9 q9 hq9).lt), va_K.moved hA0 hK, hD⟩, Nat.le_trans hS.1 hZ0, fun q9 h1 h2 => (hK0 q9 (Nat.lt_of_lt_of_le h1 hS.1)).trans (hS.2.1 q9 h1 h2)⟩) hS.2.2 (Nat.le_of_ble_eq_true rfl) (Nat.le_of_ble_eq_true rfl)
        · refine lv_if_eq (tgt := 60) hx hb z_d_under_47 (by decide) (fun _ => ?_) (fun c9 => absurd (by decide) c9)
          refine lv_aload_n hx hb z_d_under_60 rfl (lv_at hl 0 rfl) ?_
          refine va_get (D := (dC, dI)) (ci := 3) (v := .ref (q 1)) (C := R3) (T := T3) (N := 6) hx hb hts (cw_sub iC3) hown hK hP 0 rfl rfl 0 (by decide) (hts _ (cw_in mw_92 rfl)) (fun _ h9 => h9) rfl z_d_under_61 ?_
          refine lv_iload_n hx hb z_d_under_64 rfl (lv_at hl 1 rfl) ?_
          refine lv_iload_n hx hb z_d_under_65 rfl (lv_at hl 2 rfl) ?_
          refine xs_i hx hb hK hP hD hS 1 0 rfl rfl (k := k) (hk) (by decide) z_d_under_66 (fun H locs hP hD hS => ?_)
          have hP : va_P (dC, dI) vwCl (wC q cI cZ cB (uka v (upd (zka v) k y))) H := hP
          have hD : va_D A (wC q cI cZ cB (uka v (upd (zka v) k y))) := hD
          refine W.widen (k := 1) (n := 6) (Nat.le_of_ble_eq_true rfl) (Nat.le_of_ble_eq_true rfl) ?_
          exact vx_ret (W.vret hx hb hr (fun t ht hW => ⟨⟨uka v (upd (zka v) k y), rfl, Or.inr (Or.inr ⟨rfl, k, hk, rfl, Or.inl c_9, fun h => h.elim (npos_of_nlt (mN_lt hi hk) c_38) h_5, rfl⟩), by rw [ht]; exact hP, va_K.moved hW.alike hK, hD⟩, hS.F ht⟩) hS.2.2 z_d_under_67)
    · refine lv_iload_n hx hb z_d_under_12 rfl (lv_at hl 2 rfl) ?_
      refine rdSi (As := [.int y]) (rest := []) ⟨hx, hb, hml, hown, hts⟩ (c_d_isKind l y) mw_151 mw_149 mw_150 mw_1 yd_d_isKind ⟨⟨rfl, rfl⟩, Nat.le_of_ble_eq_true rfl, Nat.le_of_ble_eq_true rfl⟩ ⟨Nat.le_of_ble_eq_true rfl, Nat.le_of_ble_eq_true rfl⟩ (pre_pure) rfl hl.1 rfl (Nat.le_of_ble_eq_true rfl) z_d_under_13 (fun r_7 h_8 => ?_)
      rcases h_8 with ⟨rfl, h_8⟩ | ⟨rfl, h_8⟩
      · refine lv_if_ne (tgt := 29) hx hb z_d_under_16 (by decide) (fun _ => ?_) (fun c9 => absurd c9 (by decide))
        refine lv_aload_n hx hb z_d_under_29 rfl (lv_at hl 0 rfl) ?_
        refine va_get (D := (dC, dI)) (ci := 3) (v := .ref (q 6)) (C := R3) (T := T3) (N := 6) hx hb hts (cw_sub iC3) hown hK hP 0 rfl rfl 2 (by decide) (hts _ (cw_in mw_94 rfl)) (fun _ h9 => h9) rfl z_d_under_30 ?_
        refine va_getN (D := (dC, dI)) (ci := 1) (v := .ref (q 7)) (C := R1) (T := T1) (N := 6) hx hb hts (cw_sub iC1) hown hK hP 6 rfl rfl 0 (by decide) (va_Nw.use rfl (hN _ nw_5)) (fun _ h9 => h9) rfl z_d_under_33 ?_
        refine lv_iload_n hx hb z_d_under_36 rfl (lv_at hl 1 rfl) ?_
        refine xa_i hx hb hK hP 7 0 rfl rfl (k := k) (y := nI (mN v k)) (hk) (by decide) ((hi.mk k hk).2) z_d_under_37 ?_
        refine lv_if_gt (tgt := 50) hx hb z_d_under_38 (by decide) (fun c_38 => ?_) (fun c_38 => ?_)
        · obtain ⟨sa_9, hsa_9⟩ := hX.2.2.2 _ sr_60
          exact vx_throwS (own := "ServiceDesk") (cls := "java/lang/IllegalStateException") (names := ["java/lang/RuntimeException", "java/lang/Exception"]) hx hb hl0 hown (by decide +kernel) (by decide +kernel) (hts _ (cw_in mw_224 rfl)) (hts _ (cw_in mw_11 rfl)) hsa_9 (xw_2 hts hX.2.2.1) (List.forall_mem_cons.mpr ⟨rfl, List.forall_mem_cons.mpr ⟨rfl, xo_2⟩⟩) hX.1 hX.2.1 hS (hl.1.trans hml.symm) z_d_under_50 z_d_under_53 z_d_under_54 z_d_under_56 z_d_under_59 (fun x9 h9 => (hEx x9 h9).elim) (Nat.le_of_ble_eq_true rfl) (Nat.le_of_ble_eq_true rfl) (Nat.le_of_ble_eq_true rfl) (Nat.le_of_ble_eq_true rfl) hlocks (fun t hA0 hZ0 hK0 => ⟨(2, v), Or.inr (Or.inl ⟨rfl, rfl, k, hk, rfl, Or.inr h_8, Or.inl (pos_of_lt c_38)⟩), ⟨List.mem_of_getElem? (i := 1) rfl, hP.kept (fun k9 q9 hq9 => hK0 q9.1 (hP k9 q9 hq9).lt), va_K.moved hA0 hK, hD⟩, Nat.le_trans hS.1 hZ0, fun q9 h1 h2 => (hK0 q9 (Nat.lt_of_lt_of_le h1 hS.1)).trans (hS.2.1 q9 h1 h2)⟩) hS.2.2 (Nat.le_of_ble_eq_true rfl) (Nat.le_of_ble_eq_true rfl)
        · refine lv_aload_n hx hb z_d_under_41 rfl (lv_at hl 0 rfl) ?_
          refine lv_iload_n hx hb z_d_under_42 rfl (lv_at hl 2 rfl) ?_
          refine lv_iload_n hx hb z_d_under_43 rfl (lv_at hl 1 rfl) ?_
          refine rdVi (As := [.int y, .int (nI k)]) (rest := []) ⟨hx, hb, hml, hown, hts⟩ (c_d_isAtOrUnder l dC dI q cI cZ cB v hi y (Or.inr h_8) k hk) mw_223 mw_220 mw_222 mp_5 mw_1 rfl yd_d_isAtOrUnder ⟨⟨rfl, rfl⟩, Nat.le_of_ble_eq_true rfl, Nat.le_of_ble_eq_true rfl⟩ ⟨Nat.le_of_ble_eq_true rfl, Nat.le_of_ble_eq_true rfl⟩ (RdC.preV hP hK hN (ci := 3) (q0 := 0) rfl rfl) rfl hl.1 rfl (Nat.le_of_ble_eq_true rfl) z_d_under_44 (fun r_10 h_11 => ?_)
          rcases h_11 with ⟨rfl, h_11⟩ | ⟨rfl, h_11⟩
          · refine lv_if_eq (tgt := 60) hx hb z_d_under_47 (by decide) (fun c9 => absurd c9 (by decide)) (fun _ => ?_)
            obtain ⟨sa_12, hsa_12⟩ := hX.2.2.2 _ sr_60
            exact vx_throwS (own := "ServiceDesk") (cls := "java/lang/IllegalStateException") (names := ["java/lang/RuntimeException", "java/lang/Exception"]) hx hb hl0 hown (by decide +kernel) (by decide +kernel) (hts _ (cw_in mw_224 rfl)) (hts _ (cw_in mw_11 rfl)) hsa_12 (xw_2 hts hX.2.2.1) (List.forall_mem_cons.mpr ⟨rfl, List.forall_mem_cons.mpr ⟨rfl, xo_2⟩⟩) hX.1 hX.2.1 hS (hl.1.trans hml.symm) z_d_under_50 z_d_under_53 z_d_under_54 z_d_under_56 z_d_under_59 (fun x9 h9 => (hEx x9 h9).elim) (Nat.le_of_ble_eq_true rfl) (Nat.le_of_ble_eq_true rfl) (Nat.le_of_ble_eq_true rfl) (Nat.le_of_ble_eq_true rfl) hlocks (fun t hA0 hZ0 hK0 => ⟨(2, v), Or.inr (Or.inl ⟨rfl, rfl, k, hk, rfl, Or.inr h_8, Or.inr h_11⟩), ⟨List.mem_of_getElem? (i := 1) rfl, hP.kept (fun k9 q9 hq9 => hK0 q9.1 (hP k9 q9 hq9).lt), va_K.moved hA0 hK, hD⟩, Nat.le_trans hS.1 hZ0, fun q9 h1 h2 => (hK0 q9 (Nat.lt_of_lt_of_le h1 hS.1)).trans (hS.2.1 q9 h1 h2)⟩) hS.2.2 (Nat.le_of_ble_eq_true rfl) (Nat.le_of_ble_eq_true rfl)
          · refine lv_if_eq (tgt := 60) hx hb z_d_under_47 (by decide) (fun _ => ?_) (fun c9 => absurd (by decide) c9)
            refine lv_aload_n hx hb z_d_under_60 rfl (lv_at hl 0 rfl) ?_
            refine va_get (D := (dC, dI)) (ci := 3) (v := .ref (q 1)) (C := R3) (T := T3) (N := 6) hx hb hts (cw_sub iC3) hown hK hP 0 rfl rfl 0 (by decide) (hts _ (cw_in mw_92 rfl)) (fun _ h9 => h9) rfl z_d_under_61 ?_
            refine lv_iload_n hx hb z_d_under_64 rfl (lv_at hl 1 rfl) ?_
            refine lv_iload_n hx hb z_d_under_65 rfl (lv_at hl 2 rfl) ?_
            refine xs_i hx hb hK hP hD hS 1 0 rfl rfl (k := k) (hk) (by decide) z_d_under_66 (fun H locs hP hD hS => ?_)
            have hP : va_P (dC, dI) vwCl (wC q cI cZ cB (uka v (upd (zka v) k y))) H := hP
            have hD : va_D A (wC q cI cZ cB (uka v (upd (zka v) k y))) := hD
            refine W.widen (k := 1) (n := 6) (Nat.le_of_ble_eq_true rfl) (Nat.le_of_ble_eq_true rfl) ?_
            exact vx_ret (W.vret hx hb hr (fun t ht hW => ⟨⟨uka v (upd (zka v) k y), rfl, Or.inr (Or.inr ⟨rfl, k, hk, rfl, Or.inr h_8, fun h => h.elim (npos_of_nlt (mN_lt hi hk) c_38) h_11, rfl⟩), by rw [ht]; exact hP, va_K.moved hW.alike hK, hD⟩, hS.F ht⟩) hS.2.2 z_d_under_67)
      · refine lv_if_ne (tgt := 29) hx hb z_d_under_16 (by decide) (fun c9 => absurd rfl c9) (fun _ => ?_)
        obtain ⟨sa_13, hsa_13⟩ := hX.2.2.2 _ sr_46
        exact vx_throwS (own := "ServiceDesk") (cls := "java/lang/IllegalArgumentException") (names := ["java/lang/RuntimeException", "java/lang/Exception"]) hx hb hl0 hown (by decide +kernel) (by decide +kernel) (hts _ (cw_in mw_152 rfl)) (hts _ (cw_in mw_10 rfl)) hsa_13 (xw_0 hts hX.2.2.1) (List.forall_mem_cons.mpr ⟨rfl, List.forall_mem_cons.mpr ⟨rfl, xo_0⟩⟩) hX.1 hX.2.1 hS (hl.1.trans hml.symm) z_d_under_19 z_d_under_22 z_d_under_23 z_d_under_25 z_d_under_28 (fun x9 h9 => (hEx x9 h9).elim) (Nat.le_of_ble_eq_true rfl) (Nat.le_of_ble_eq_true rfl) (Nat.le_of_ble_eq_true rfl) (Nat.le_of_ble_eq_true rfl) hlocks (fun t hA0 hZ0 hK0 => ⟨(1, v), Or.inl ⟨rfl, rfl, fun h => h.2.elim c_9 h_8⟩, ⟨List.mem_of_getElem? (i := 0) rfl, hP.kept (fun k9 q9 hq9 => hK0 q9.1 (hP k9 q9 hq9).lt), va_K.moved hA0 hK, hD⟩, Nat.le_trans hS.1 hZ0, fun q9 h1 h2 => (hK0 q9 (Nat.lt_of_lt_of_le h1 hS.1)).trans (hS.2.1 q9 h1 h2)⟩) hS.2.2 (Nat.le_of_ble_eq_true rfl) (Nat.le_of_ble_eq_true rfl)
  · refine lv_if_eq (tgt := 19) hx hb z_d_under_4 (by decide) (fun _ => ?_) (fun c9 => absurd (by decide) c9)
    obtain ⟨sa_14, hsa_14⟩ := hX.2.2.2 _ sr_46
    exact vx_throwS (own := "ServiceDesk") (cls := "java/lang/IllegalArgumentException") (names := ["java/lang/RuntimeException", "java/lang/Exception"]) hx hb hl0 hown (by decide +kernel) (by decide +kernel) (hts _ (cw_in mw_152 rfl)) (hts _ (cw_in mw_10 rfl)) hsa_14 (xw_0 hts hX.2.2.1) (List.forall_mem_cons.mpr ⟨rfl, List.forall_mem_cons.mpr ⟨rfl, xo_0⟩⟩) hX.1 hX.2.1 hS (hl.1.trans hml.symm) z_d_under_19 z_d_under_22 z_d_under_23 z_d_under_25 z_d_under_28 (fun x9 h9 => (hEx x9 h9).elim) (Nat.le_of_ble_eq_true rfl) (Nat.le_of_ble_eq_true rfl) (Nat.le_of_ble_eq_true rfl) (Nat.le_of_ble_eq_true rfl) hlocks (fun t hA0 hZ0 hK0 => ⟨(1, v), Or.inl ⟨rfl, rfl, fun h => h_2 h.1⟩, ⟨List.mem_of_getElem? (i := 0) rfl, hP.kept (fun k9 q9 hq9 => hK0 q9.1 (hP k9 q9 hq9).lt), va_K.moved hA0 hK, hD⟩, Nat.le_trans hS.1 hZ0, fun q9 h1 h2 => (hK0 q9 (Nat.lt_of_lt_of_le h1 hS.1)).trans (hS.2.1 q9 h1 h2)⟩) hS.2.2 (Nat.le_of_ble_eq_true rfl) (Nat.le_of_ble_eq_true rfl)

set_option maxHeartbeats 4000000 in
set_option maxRecDepth 100000 in
theorem c_d_make (l : Launch) (dC : Nat → ClassId) (dI : Nat → Nat → Nat) (q : Nat → Nat) (cI cZ cB : ClassId) (v : St) (sz : Nat) (hl0 : l.stackTraces = false) (hi : Inv v) (x y : Int32) : vx_Met l y_d_make (Cond.code y_d_make b_d_make 4 (some .int) :: CW) { frames := 6, cells := 1, slots := 6, locals := 82 } (va_Pc [.ref (q 0), .int x, .int y] (TxC (dC, dI) sz (wC q cI cZ cB v) (tyC cI cZ cB))) (va_Qi (fun (r : Int32) (u : St) => spMake v x y 0 r u) (fun u => WrB (dC, dI) (wC q cI cZ cB u) (tyC cI cZ cB) (va_A (wC q cI cZ cB v) sz)) (va_A (wC q cI cZ cB v) sz)) (vx_X (fun z9 : Nat × St => spMake v x y z9.1 0 z9.2) (fun E z9 t => (E, z9.1) ∈ ([("java/lang/IllegalArgumentException", 1), ("java/lang/IllegalStateException", 2), ("java/lang/UnsupportedOperationException", 3)] : List (String × Nat)) ∧ WrB (dC, dI) (wC q cI cZ cB z9.2) (tyC cI cZ cB) (va_A (wC q cI cZ cB v) sz) t) (va_A (wC q cI cZ cB v) sz)) 1 6 (va_A (wC q cI cZ cB v) sz) := by
  refine tx_met (by decide) (Nat.le_of_ble_eq_true rfl) ?_
  intro p e s m below meth c hx hb hr hml hts hown hlocks hEx hC ls hl
  obtain ⟨⟨hsz, hP, hK, hD0, hN⟩, hX⟩ := hC
  subst hsz
  have hD := hD0.self (sz := s.heap.size)
  generalize hAe : va_A (wC q cI cZ cB v) s.heap.size = A at hD hX ⊢
  have hA : ∀ q9 : Nat, s.heap.size ≤ q9 → A q9 := fun q9 h => by rw [← hAe]; exact Or.inr h
  have hS : va_S A s.heap s.heap [] := va_S.rf
  have hown : s.vm.findClass "ServiceDesk" = some m.cls := hown
  have hl : lv_has ls 4 [(0, .ref (q 0)), (1, .int x), (2, .int y)] := hl
  refine lv_iload_n hx hb z_d_make_0 rfl (lv_at hl 1 rfl) ?_
  refine rdSi (As := [.int x]) (rest := []) ⟨hx, hb, hml, hown, hts⟩ (c_d_isKind l x) mw_151 mw_149 mw_150 mw_1 yd_d_isKind ⟨⟨rfl, rfl⟩, Nat.le_of_ble_eq_true rfl, Nat.le_of_ble_eq_true rfl⟩ ⟨Nat.le_of_ble_eq_true rfl, Nat.le_of_ble_eq_true rfl⟩ (pre_pure) rfl hl.1 rfl (Nat.le_of_ble_eq_true rfl) z_d_make_1 (fun r_1 h_2 => ?_)
  rcases h_2 with ⟨rfl, h_2⟩ | ⟨rfl, h_2⟩
  · obtain ⟨k, hk, rfl⟩ := h_2
    refine lv_if_eq (tgt := 16) hx hb z_d_make_4 (by decide) (fun c9 => absurd c9 (by decide)) (fun _ => ?_)
    refine lv_aload_n hx hb z_d_make_7 rfl (lv_at hl 0 rfl) ?_
    refine lv_iload_n hx hb z_d_make_8 rfl (lv_at hl 1 rfl) ?_
    refine lv_iload_n hx hb z_d_make_9 rfl (lv_at hl 2 rfl) ?_
    refine rdVi (As := [.int (nI k), .int y]) (rest := []) ⟨hx, hb, hml, hown, hts⟩ (c_d_canBeAbove l dC dI q cI cZ cB v hi k hk y) mw_251 mw_248 mw_250 mp_6 mw_1 rfl yd_d_canBeAbove ⟨⟨rfl, rfl⟩, Nat.le_of_ble_eq_true rfl, Nat.le_of_ble_eq_true rfl⟩ ⟨Nat.le_of_ble_eq_true rfl, Nat.le_of_ble_eq_true rfl⟩ (RdC.preV hP hK hN (ci := 3) (q0 := 0) rfl rfl) rfl hl.1 rfl (Nat.le_of_ble_eq_true rfl) z_d_make_10 (fun r_3 h_4 => ?_)
    rcases h_4 with ⟨rfl, h_4⟩ | ⟨rfl, h_4⟩
    · refine lv_if_ne (tgt := 26) hx hb z_d_make_13 (by decide) (fun _ => ?_) (fun c9 => absurd c9 (by decide))
      refine lv_aload_n hx hb z_d_make_26 rfl (lv_at hl 0 rfl) ?_
      refine lv_aload_n hx hb z_d_make_27 rfl (lv_at hl 0 rfl) ?_
      refine va_get (D := (dC, dI)) (ci := 3) (v := .ref (q 1)) (C := R3) (T := T3) (N := 6) hx hb hts (cw_sub iC3) hown hK hP 0 rfl rfl 0 (by decide) (hts _ (cw_in mw_92 rfl)) (fun _ h9 => h9) rfl z_d_make_28 ?_
      refine lv_iload_n hx hb z_d_make_31 rfl (lv_at hl 1 rfl) ?_
      refine xa_i hx hb hK hP 1 0 rfl rfl (k := k) (y := zka v k) (hk) (by decide) (rfl) z_d_make_32 ?_
      refine lv_iload_n hx hb z_d_make_33 rfl (lv_at hl 2 rfl) ?_
      refine rdVi (As := [.int (zka v k), .int y]) (rest := []) ⟨hx, hb, hml, hown, hts⟩ (c_d_slotOrNone l dC dI q cI cZ cB v hi (zka v k) y) mw_260 mw_257 mw_259 mp_8 mw_1 rfl yd_d_slotOrNone ⟨⟨rfl, rfl⟩, Nat.le_of_ble_eq_true rfl, Nat.le_of_ble_eq_true rfl⟩ ⟨Nat.le_of_ble_eq_true rfl, Nat.le_of_ble_eq_true rfl⟩ (RdC.preV hP hK hN (ci := 3) (q0 := 0) rfl rfl) rfl hl.1 rfl (Nat.le_of_ble_eq_true rfl) z_d_make_34 (fun r_5 h_6 => ?_)
      rcases h_6 with ⟨rfl, h_6⟩ | ⟨k2, j2, hk2, hj2, e2, e3, rfl⟩
      · refine lv_istore_n (lv' := [(3, .int (-1)), (0, .ref (q 0)), (1, .int (nI k)), (2, .int y)]) hx hb z_d_make_37 rfl hl (by decide) rfl (fun ls hl => ?_)
        refine lv_iload_n hx hb z_d_make_38 rfl (lv_at hl 0 rfl) ?_
        refine lv_iconst (v := (-1)) hx hb z_d_make_39 (by decide) ?_
        refine lv_icmp_eq (tgt := 65) hx hb z_d_make_40 (by decide) (fun _ => ?_) (fun c9 => absurd (by decide) c9)
        refine lv_aload_n hx hb z_d_make_65 rfl (lv_at hl 1 rfl) ?_
        refine va_get (D := (dC, dI)) (ci := 3) (v := .ref (q 6)) (C := R3) (T := T3) (N := 6) hx hb hts (cw_sub iC3) hown hK hP 0 rfl rfl 2 (by decide) (hts _ (cw_in mw_94 rfl)) (fun _ h9 => h9) rfl z_d_make_66 ?_
        refine va_getN (D := (dC, dI)) (ci := 1) (v := .ref (q 7)) (C := R1) (T := T1) (N := 6) hx hb hts (cw_sub iC1) hown hK hP 6 rfl rfl 0 (by decide) (va_Nw.use rfl (hN _ nw_5)) (fun _ h9 => h9) rfl z_d_make_69 ?_
        refine lv_iload_n hx hb z_d_make_72 rfl (lv_at hl 2 rfl) ?_
        refine xa_i hx hb hK hP 7 0 rfl rfl (k := k) (y := nI (mN v k)) (hk) (by decide) ((hi.mk k hk).2) z_d_make_73 ?_
        refine lv_bipush (v := 30) hx hb z_d_make_74 (by decide) ?_
        refine lv_icmp_lt (tgt := 89) hx hb z_d_make_76 (by decide) (fun c_76 => ?_) (fun c_76 => ?_)
        · refine lv_aload_n hx hb z_d_make_89 rfl (lv_at hl 1 rfl) ?_
          refine va_get (D := (dC, dI)) (ci := 3) (v := .ref (q 6)) (C := R3) (T := T3) (N := 6) hx hb hts (cw_sub iC3) hown hK hP 0 rfl rfl 2 (by decide) (hts _ (cw_in mw_94 rfl)) (fun _ h9 => h9) rfl z_d_make_90 ?_
          refine lv_iload_n hx hb z_d_make_93 rfl (lv_at hl 2 rfl) ?_
          refine lv_iload_n hx hb z_d_make_94 rfl (lv_at hl 3 rfl) ?_
          refine wrVNi (As := [.int (nI k), .int y]) (rest := []) (wf := fun u => wC q cI cZ cB u) ⟨hx, hb, hml, hown, hts⟩ (c_s_add l dC dI q cI cZ cB v s.heap.size hi k hk ((nI_ltI (mN_lt hi hk) (by decide)).mp (show nI (mN v k) < nI 30 from c_76)) y) mw_282 (hN _ nw_18) mw_281 mp_9 mw_3 yd_s_add ⟨⟨rfl, rfl⟩, Nat.le_of_ble_eq_true rfl, Nat.le_of_ble_eq_true rfl⟩ ⟨Nat.le_of_ble_eq_true rfl, Nat.le_of_ble_eq_true rfl⟩ (WrC.preV hP hK hD hN (ci := 1) (q0 := 6) rfl rfl) (wr_free hD hS hA) hS rfl hl.1 rfl (Nat.le_of_ble_eq_true rfl) z_d_make_95 (fun r_7 u_8 H locs h_9 hP hD hS hz9 => ?_)
          obtain ⟨rfl, rfl⟩ := h_9
          refine W.widen (k := 1) (n := 6) (Nat.le_of_ble_eq_true rfl) (Nat.le_of_ble_eq_true rfl) ?_
          exact vx_ret (W.iret (v := nI (mN v k)) hx hb hr (fun t ht hW => ⟨⟨nI (mN v k), addS v k y, rfl, Or.inr (Or.inr (Or.inr ⟨rfl, k, hk, rfl, h_4, okAb_no h_6, (nI_ltI (mN_lt hi hk) (by decide)).mp (show nI (mN v k) < nI 30 from c_76), rfl, rfl⟩)), by rw [ht]; exact hP, va_K.moved hW.alike hK, hD⟩, hS.F ht⟩) hS.2.2 z_d_make_98)
        · obtain ⟨sa_10, hsa_10⟩ := hX.2.2.2 _ sr_80
          exact vx_throwS (own := "ServiceDesk") (cls := "java/lang/UnsupportedOperationException") (names := ["java/lang/RuntimeException", "java/lang/Exception"]) hx hb hl0 hown (by decide +kernel) (by decide +kernel) (hts _ (cw_in mw_263 rfl)) (hts _ (cw_in mw_12 rfl)) hsa_10 (xw_3 hts hX.2.2.1) (List.forall_mem_cons.mpr ⟨rfl, List.forall_mem_cons.mpr ⟨rfl, xo_3⟩⟩) hX.1 hX.2.1 hS (hl.1.trans hml.symm) z_d_make_79 z_d_make_82 z_d_make_83 z_d_make_85 z_d_make_88 (fun x9 h9 => (hEx x9 h9).elim) (Nat.le_of_ble_eq_true rfl) (Nat.le_of_ble_eq_true rfl) (Nat.le_of_ble_eq_true rfl) (Nat.le_of_ble_eq_true rfl) hlocks (fun t hA0 hZ0 hK0 => ⟨(3, v), Or.inr (Or.inr (Or.inl ⟨rfl, rfl, k, hk, rfl, h_4, okAb_no h_6, fun h => c_76 (nI_lt (b := 30) h (by decide))⟩)), ⟨List.mem_of_getElem? (i := 2) rfl, hP.kept (fun k9 q9 hq9 => hK0 q9.1 (hP k9 q9 hq9).lt), va_K.moved hA0 hK, hD⟩, Nat.le_trans hS.1 hZ0, fun q9 h1 h2 => (hK0 q9 (Nat.lt_of_lt_of_le h1 hS.1)).trans (hS.2.1 q9 h1 h2)⟩) hS.2.2 (Nat.le_of_ble_eq_true rfl) (Nat.le_of_ble_eq_true rfl)
      · have hM2 := (hi.mk k2 hk2).1
        refine lv_istore_n (lv' := [(3, .int (nI (k2 * 30 + j2))), (0, .ref (q 0)), (1, .int (nI k)), (2, .int y)]) hx hb z_d_make_37 rfl hl (by decide) rfl (fun ls hl => ?_)
        refine lv_iload_n hx hb z_d_make_38 rfl (lv_at hl 0 rfl) ?_
        refine lv_iconst (v := (-1)) hx hb z_d_make_39 (by decide) ?_
        refine lv_icmp_eq (tgt := 65) hx hb z_d_make_40 (by decide) (fun c_40 => False.elim (absurd (show nI (k2 * 30 + j2) < 0 by rw [c_40]; decide) (nI_pos (by omega)))) (fun c_40 => ?_)
        refine lv_aload_n hx hb z_d_make_43 rfl (lv_at hl 1 rfl) ?_
        refine va_get (D := (dC, dI)) (ci := 3) (v := .ref (q 6)) (C := R3) (T := T3) (N := 6) hx hb hts (cw_sub iC3) hown hK hP 0 rfl rfl 2 (by decide) (hts _ (cw_in mw_94 rfl)) (fun _ h9 => h9) rfl z_d_make_44 ?_
        refine va_getN (D := (dC, dI)) (ci := 1) (v := .ref (q 9)) (C := R1) (T := T1) (N := 6) hx hb hts (cw_sub iC1) hown hK hP 6 rfl rfl 2 (by decide) (va_Nw.use rfl (hN _ nw_7)) (fun _ h9 => h9) rfl z_d_make_47 ?_
        refine lv_iload_n hx hb z_d_make_50 rfl (lv_at hl 0 rfl) ?_
        refine xa_z hx hb hK hP 9 1 rfl rfl (k := (k2 * 30 + j2)) (y := zop v (k2 * 30 + j2)) (by omega) (by decide) (rfl) z_d_make_51 ?_
        refine lv_if_ne (tgt := 65) hx hb z_d_make_52 (by decide) (fun c_52 => ?_) (fun c_52 => ?_)
        · refine lv_aload_n hx hb z_d_make_65 rfl (lv_at hl 1 rfl) ?_
          refine va_get (D := (dC, dI)) (ci := 3) (v := .ref (q 6)) (C := R3) (T := T3) (N := 6) hx hb hts (cw_sub iC3) hown hK hP 0 rfl rfl 2 (by decide) (hts _ (cw_in mw_94 rfl)) (fun _ h9 => h9) rfl z_d_make_66 ?_
          refine va_getN (D := (dC, dI)) (ci := 1) (v := .ref (q 7)) (C := R1) (T := T1) (N := 6) hx hb hts (cw_sub iC1) hown hK hP 6 rfl rfl 0 (by decide) (va_Nw.use rfl (hN _ nw_5)) (fun _ h9 => h9) rfl z_d_make_69 ?_
          refine lv_iload_n hx hb z_d_make_72 rfl (lv_at hl 2 rfl) ?_
          refine xa_i hx hb hK hP 7 0 rfl rfl (k := k) (y := nI (mN v k)) (hk) (by decide) ((hi.mk k hk).2) z_d_make_73 ?_
          refine lv_bipush (v := 30) hx hb z_d_make_74 (by decide) ?_
          refine lv_icmp_lt (tgt := 89) hx hb z_d_make_76 (by decide) (fun c_76 => ?_) (fun c_76 => ?_)
          · refine lv_aload_n hx hb z_d_make_89 rfl (lv_at hl 1 rfl) ?_
            refine va_get (D := (dC, dI)) (ci := 3) (v := .ref (q 6)) (C := R3) (T := T3) (N := 6) hx hb hts (cw_sub iC3) hown hK hP 0 rfl rfl 2 (by decide) (hts _ (cw_in mw_94 rfl)) (fun _ h9 => h9) rfl z_d_make_90 ?_
            refine lv_iload_n hx hb z_d_make_93 rfl (lv_at hl 2 rfl) ?_
            refine lv_iload_n hx hb z_d_make_94 rfl (lv_at hl 3 rfl) ?_
            refine wrVNi (As := [.int (nI k), .int y]) (rest := []) (wf := fun u => wC q cI cZ cB u) ⟨hx, hb, hml, hown, hts⟩ (c_s_add l dC dI q cI cZ cB v s.heap.size hi k hk ((nI_ltI (mN_lt hi hk) (by decide)).mp (show nI (mN v k) < nI 30 from c_76)) y) mw_282 (hN _ nw_18) mw_281 mp_9 mw_3 yd_s_add ⟨⟨rfl, rfl⟩, Nat.le_of_ble_eq_true rfl, Nat.le_of_ble_eq_true rfl⟩ ⟨Nat.le_of_ble_eq_true rfl, Nat.le_of_ble_eq_true rfl⟩ (WrC.preV hP hK hD hN (ci := 1) (q0 := 6) rfl rfl) (wr_free hD hS hA) hS rfl hl.1 rfl (Nat.le_of_ble_eq_true rfl) z_d_make_95 (fun r_11 u_12 H locs h_13 hP hD hS hz9 => ?_)
            obtain ⟨rfl, rfl⟩ := h_13
            refine W.widen (k := 1) (n := 6) (Nat.le_of_ble_eq_true rfl) (Nat.le_of_ble_eq_true rfl) ?_
            exact vx_ret (W.iret (v := nI (mN v k)) hx hb hr (fun t ht hW => ⟨⟨nI (mN v k), addS v k y, rfl, Or.inr (Or.inr (Or.inr ⟨rfl, k, hk, rfl, h_4, okAb_of hi hk2 hj2 e2 e3 c_52, (nI_ltI (mN_lt hi hk) (by decide)).mp (show nI (mN v k) < nI 30 from c_76), rfl, rfl⟩)), by rw [ht]; exact hP, va_K.moved hW.alike hK, hD⟩, hS.F ht⟩) hS.2.2 z_d_make_98)
          · obtain ⟨sa_14, hsa_14⟩ := hX.2.2.2 _ sr_80
            exact vx_throwS (own := "ServiceDesk") (cls := "java/lang/UnsupportedOperationException") (names := ["java/lang/RuntimeException", "java/lang/Exception"]) hx hb hl0 hown (by decide +kernel) (by decide +kernel) (hts _ (cw_in mw_263 rfl)) (hts _ (cw_in mw_12 rfl)) hsa_14 (xw_3 hts hX.2.2.1) (List.forall_mem_cons.mpr ⟨rfl, List.forall_mem_cons.mpr ⟨rfl, xo_3⟩⟩) hX.1 hX.2.1 hS (hl.1.trans hml.symm) z_d_make_79 z_d_make_82 z_d_make_83 z_d_make_85 z_d_make_88 (fun x9 h9 => (hEx x9 h9).elim) (Nat.le_of_ble_eq_true rfl) (Nat.le_of_ble_eq_true rfl) (Nat.le_of_ble_eq_true rfl) (Nat.le_of_ble_eq_true rfl) hlocks (fun t hA0 hZ0 hK0 => ⟨(3, v), Or.inr (Or.inr (Or.inl ⟨rfl, rfl, k, hk, rfl, h_4, okAb_of hi hk2 hj2 e2 e3 c_52, fun h => c_76 (nI_lt (b := 30) h (by decide))⟩)), ⟨List.mem_of_getElem? (i := 2) rfl, hP.kept (fun k9 q9 hq9 => hK0 q9.1 (hP k9 q9 hq9).lt), va_K.moved hA0 hK, hD⟩, Nat.le_trans hS.1 hZ0, fun q9 h1 h2 => (hK0 q9 (Nat.lt_of_lt_of_le h1 hS.1)).trans (hS.2.1 q9 h1 h2)⟩) hS.2.2 (Nat.le_of_ble_eq_true rfl) (Nat.le_of_ble_eq_true rfl)
        · obtain ⟨sa_15, hsa_15⟩ := hX.2.2.2 _ sr_76
          exact vx_throwS (own := "ServiceDesk") (cls := "java/lang/IllegalStateException") (names := ["java/lang/RuntimeException", "java/lang/Exception"]) hx hb hl0 hown (by decide +kernel) (by decide +kernel) (hts _ (cw_in mw_224 rfl)) (hts _ (cw_in mw_11 rfl)) hsa_15 (xw_2 hts hX.2.2.1) (List.forall_mem_cons.mpr ⟨rfl, List.forall_mem_cons.mpr ⟨rfl, xo_2⟩⟩) hX.1 hX.2.1 hS (hl.1.trans hml.symm) z_d_make_55 z_d_make_58 z_d_make_59 z_d_make_61 z_d_make_64 (fun x9 h9 => (hEx x9 h9).elim) (Nat.le_of_ble_eq_true rfl) (Nat.le_of_ble_eq_true rfl) (Nat.le_of_ble_eq_true rfl) (Nat.le_of_ble_eq_true rfl) hlocks (fun t hA0 hZ0 hK0 => ⟨(2, v), Or.inr (Or.inl ⟨rfl, rfl, k, hk, rfl, h_4, fun h => h k2 j2 hk2 hj2 e2 e3 c_52⟩), ⟨List.mem_of_getElem? (i := 1) rfl, hP.kept (fun k9 q9 hq9 => hK0 q9.1 (hP k9 q9 hq9).lt), va_K.moved hA0 hK, hD⟩, Nat.le_trans hS.1 hZ0, fun q9 h1 h2 => (hK0 q9 (Nat.lt_of_lt_of_le h1 hS.1)).trans (hS.2.1 q9 h1 h2)⟩) hS.2.2 (Nat.le_of_ble_eq_true rfl) (Nat.le_of_ble_eq_true rfl)
    · refine lv_if_ne (tgt := 26) hx hb z_d_make_13 (by decide) (fun c9 => absurd rfl c9) (fun _ => ?_)
      obtain ⟨sa_16, hsa_16⟩ := hX.2.2.2 _ sr_66
      exact vx_throwS (own := "ServiceDesk") (cls := "java/lang/IllegalArgumentException") (names := ["java/lang/RuntimeException", "java/lang/Exception"]) hx hb hl0 hown (by decide +kernel) (by decide +kernel) (hts _ (cw_in mw_152 rfl)) (hts _ (cw_in mw_10 rfl)) hsa_16 (xw_0 hts hX.2.2.1) (List.forall_mem_cons.mpr ⟨rfl, List.forall_mem_cons.mpr ⟨rfl, xo_0⟩⟩) hX.1 hX.2.1 hS (hl.1.trans hml.symm) z_d_make_16 z_d_make_19 z_d_make_20 z_d_make_22 z_d_make_25 (fun x9 h9 => (hEx x9 h9).elim) (Nat.le_of_ble_eq_true rfl) (Nat.le_of_ble_eq_true rfl) (Nat.le_of_ble_eq_true rfl) (Nat.le_of_ble_eq_true rfl) hlocks (fun t hA0 hZ0 hK0 => ⟨(1, v), Or.inl ⟨rfl, rfl, mk_no hk h_4⟩, ⟨List.mem_of_getElem? (i := 0) rfl, hP.kept (fun k9 q9 hq9 => hK0 q9.1 (hP k9 q9 hq9).lt), va_K.moved hA0 hK, hD⟩, Nat.le_trans hS.1 hZ0, fun q9 h1 h2 => (hK0 q9 (Nat.lt_of_lt_of_le h1 hS.1)).trans (hS.2.1 q9 h1 h2)⟩) hS.2.2 (Nat.le_of_ble_eq_true rfl) (Nat.le_of_ble_eq_true rfl)
  · refine lv_if_eq (tgt := 16) hx hb z_d_make_4 (by decide) (fun _ => ?_) (fun c9 => absurd (by decide) c9)
    obtain ⟨sa_17, hsa_17⟩ := hX.2.2.2 _ sr_66
    exact vx_throwS (own := "ServiceDesk") (cls := "java/lang/IllegalArgumentException") (names := ["java/lang/RuntimeException", "java/lang/Exception"]) hx hb hl0 hown (by decide +kernel) (by decide +kernel) (hts _ (cw_in mw_152 rfl)) (hts _ (cw_in mw_10 rfl)) hsa_17 (xw_0 hts hX.2.2.1) (List.forall_mem_cons.mpr ⟨rfl, List.forall_mem_cons.mpr ⟨rfl, xo_0⟩⟩) hX.1 hX.2.1 hS (hl.1.trans hml.symm) z_d_make_16 z_d_make_19 z_d_make_20 z_d_make_22 z_d_make_25 (fun x9 h9 => (hEx x9 h9).elim) (Nat.le_of_ble_eq_true rfl) (Nat.le_of_ble_eq_true rfl) (Nat.le_of_ble_eq_true rfl) (Nat.le_of_ble_eq_true rfl) hlocks (fun t hA0 hZ0 hK0 => ⟨(1, v), Or.inl ⟨rfl, rfl, fun ⟨k9, hk9, e9, _⟩ => h_2 ⟨k9, hk9, e9⟩⟩, ⟨List.mem_of_getElem? (i := 0) rfl, hP.kept (fun k9 q9 hq9 => hK0 q9.1 (hP k9 q9 hq9).lt), va_K.moved hA0 hK, hD⟩, Nat.le_trans hS.1 hZ0, fun q9 h1 h2 => (hK0 q9 (Nat.lt_of_lt_of_le h1 hS.1)).trans (hS.2.1 q9 h1 h2)⟩) hS.2.2 (Nat.le_of_ble_eq_true rfl) (Nat.le_of_ble_eq_true rfl)

set_option maxHeartbeats 4000000 in
set_option maxRecDepth 100000 in
theorem c_d_verb (l : Launch) (dC : Nat → ClassId) (dI : Nat → Nat → Nat) (q : Nat → Nat) (cI cZ cB : ClassId) (v : St) (sz : Nat) (hl0 : l.stackTraces = false) (x y z a b : Int32) : vx_Met l y_d_verb (Cond.code y_d_verb b_d_verb 6 none :: CW) { frames := 6, cells := 1, slots := 6, locals := 82 } (va_Pc [.ref (q 0), .int x, .int y, .int z, .int a, .int b] (TxC (dC, dI) sz (wC q cI cZ cB v) (tyC cI cZ cB))) (va_Qv (fun u : St => spVerb v x y z a b 0 u) (fun u => WrB (dC, dI) (wC q cI cZ cB u) (tyC cI cZ cB) (va_A (wC q cI cZ cB v) sz)) (va_A (wC q cI cZ cB v) sz)) (vx_X (fun z9 : Nat × St => spVerb v x y z a b z9.1 z9.2) (fun E z9 t => (E, z9.1) ∈ ([("java/lang/IllegalArgumentException", 1), ("java/lang/IndexOutOfBoundsException", 2)] : List (String × Nat)) ∧ WrB (dC, dI) (wC q cI cZ cB z9.2) (tyC cI cZ cB) (va_A (wC q cI cZ cB v) sz) t) (va_A (wC q cI cZ cB v) sz)) 1 6 (va_A (wC q cI cZ cB v) sz) := by
  refine tx_met (by decide) (Nat.le_of_ble_eq_true rfl) ?_
  intro p e s m below meth c hx hb hr hml hts hown hlocks hEx hC ls hl
  obtain ⟨⟨hsz, hP, hK, hD0, hN⟩, hX⟩ := hC
  subst hsz
  have hD := hD0.self (sz := s.heap.size)
  generalize hAe : va_A (wC q cI cZ cB v) s.heap.size = A at hD hX ⊢
  have hA : ∀ q9 : Nat, s.heap.size ≤ q9 → A q9 := fun q9 h => by rw [← hAe]; exact Or.inr h
  have hS : va_S A s.heap s.heap [] := va_S.rf
  have hown : s.vm.findClass "ServiceDesk" = some m.cls := hown
  have hl : lv_has ls 6 [(0, .ref (q 0)), (1, .int x), (2, .int y), (3, .int z), (4, .int a), (5, .int b)] := hl
  refine lv_iload_n hx hb z_d_verb_0 rfl (lv_at hl 1 rfl) ?_
  refine rdSi (As := [.int x]) (rest := []) ⟨hx, hb, hml, hown, hts⟩ (c_d_isKind l x) mw_151 mw_149 mw_150 mw_1 yd_d_isKind ⟨⟨rfl, rfl⟩, Nat.le_of_ble_eq_true rfl, Nat.le_of_ble_eq_true rfl⟩ ⟨Nat.le_of_ble_eq_true rfl, Nat.le_of_ble_eq_true rfl⟩ (pre_pure) rfl hl.1 rfl (Nat.le_of_ble_eq_true rfl) z_d_verb_1 (fun r_1 h_2 => ?_)
  rcases h_2 with ⟨rfl, h_2⟩ | ⟨rfl, h_2⟩
  · obtain ⟨k, hk, rfl⟩ := h_2
    refine lv_if_eq (tgt := 24) hx hb z_d_verb_4 (by decide) (fun c9 => absurd c9 (by decide)) (fun _ => ?_)
    refine lv_iload_n hx hb z_d_verb_7 rfl (lv_at hl 2 rfl) ?_
    refine rdSi (As := [.int y]) (rest := []) ⟨hx, hb, hml, hown, hts⟩ (c_d_isVerb l y) mw_293 mw_291 mw_292 mw_1 yd_d_isVerb ⟨⟨rfl, rfl⟩, Nat.le_of_ble_eq_true rfl, Nat.le_of_ble_eq_true rfl⟩ ⟨Nat.le_of_ble_eq_true rfl, Nat.le_of_ble_eq_true rfl⟩ (pre_pure) rfl hl.1 rfl (Nat.le_of_ble_eq_true rfl) z_d_verb_8 (fun r_3 h_4 => ?_)
    rcases h_4 with ⟨rfl, h_4⟩ | ⟨rfl, h_4⟩
    · obtain ⟨n, hn, rfl⟩ := h_4
      refine lv_if_eq (tgt := 24) hx hb z_d_verb_11 (by decide) (fun c9 => absurd c9 (by decide)) (fun _ => ?_)
      refine lv_iload_n hx hb z_d_verb_14 rfl (lv_at hl 3 rfl) ?_
      refine lv_if_lt (tgt := 24) hx hb z_d_verb_15 (by decide) (fun c_15 => ?_) (fun c_15 => ?_)
      · obtain ⟨sa_5, hsa_5⟩ := hX.2.2.2 _ sr_89
        exact vx_throwS (own := "ServiceDesk") (cls := "java/lang/IllegalArgumentException") (names := ["java/lang/RuntimeException", "java/lang/Exception"]) hx hb hl0 hown (by decide +kernel) (by decide +kernel) (hts _ (cw_in mw_152 rfl)) (hts _ (cw_in mw_10 rfl)) hsa_5 (xw_0 hts hX.2.2.1) (List.forall_mem_cons.mpr ⟨rfl, List.forall_mem_cons.mpr ⟨rfl, xo_0⟩⟩) hX.1 hX.2.1 hS (hl.1.trans hml.symm) z_d_verb_24 z_d_verb_27 z_d_verb_28 z_d_verb_30 z_d_verb_33 (fun x9 h9 => (hEx x9 h9).elim) (Nat.le_of_ble_eq_true rfl) (Nat.le_of_ble_eq_true rfl) (Nat.le_of_ble_eq_true rfl) (Nat.le_of_ble_eq_true rfl) hlocks (fun t hA0 hZ0 hK0 => ⟨(1, v), Or.inl ⟨rfl, rfl, fun h => k8_neg c_15 h.2.2⟩, ⟨List.mem_of_getElem? (i := 0) rfl, hP.kept (fun k9 q9 hq9 => hK0 q9.1 (hP k9 q9 hq9).lt), va_K.moved hA0 hK, hD⟩, Nat.le_trans hS.1 hZ0, fun q9 h1 h2 => (hK0 q9 (Nat.lt_of_lt_of_le h1 hS.1)).trans (hS.2.1 q9 h1 h2)⟩) hS.2.2 (Nat.le_of_ble_eq_true rfl) (Nat.le_of_ble_eq_true rfl)
      · refine lv_iload_n hx hb z_d_verb_18 rfl (lv_at hl 3 rfl) ?_
        refine lv_bipush (v := 8) hx hb z_d_verb_19 (by decide) ?_
        refine lv_icmp_lt (tgt := 34) hx hb z_d_verb_21 (by decide) (fun c_21 => ?_) (fun c_21 => ?_)
        · refine lv_iload hx hb z_d_verb_34 (lv_at hl 4 rfl) ?_
          refine lv_i2l hx hb z_d_verb_36 rfl ?_
          refine lv_ldc2 (v := 1000) hx hb hown (hts _ (cw_in mw_295 rfl)) z_d_verb_37 ?_
          refine rdSi (As := [.long a.toInt64, .long 1000]) (rest := []) ⟨hx, hb, hml, hown, hts⟩ (c_d_isWithin l a.toInt64 1000) mw_298 mw_296 mw_297 mw_1 yd_d_isWithin ⟨⟨rfl, rfl⟩, Nat.le_of_ble_eq_true rfl, Nat.le_of_ble_eq_true rfl⟩ ⟨Nat.le_of_ble_eq_true rfl, Nat.le_of_ble_eq_true rfl⟩ (pre_pure) rfl hl.1 rfl (Nat.le_of_ble_eq_true rfl) z_d_verb_40 (fun r_6 h_7 => ?_)
          rcases h_7 with ⟨rfl, h_7⟩ | ⟨rfl, h_7⟩
          · refine lv_if_eq (tgt := 58) hx hb z_d_verb_43 (by decide) (fun c9 => absurd c9 (by decide)) (fun _ => ?_)
            refine lv_iload hx hb z_d_verb_46 (lv_at hl 5 rfl) ?_
            refine lv_i2l hx hb z_d_verb_48 rfl ?_
            refine lv_ldc2 (v := 1000) hx hb hown (hts _ (cw_in mw_295 rfl)) z_d_verb_49 ?_
            refine rdSi (As := [.long b.toInt64, .long 1000]) (rest := []) ⟨hx, hb, hml, hown, hts⟩ (c_d_isWithin l b.toInt64 1000) mw_298 mw_296 mw_297 mw_1 yd_d_isWithin ⟨⟨rfl, rfl⟩, Nat.le_of_ble_eq_true rfl, Nat.le_of_ble_eq_true rfl⟩ ⟨Nat.le_of_ble_eq_true rfl, Nat.le_of_ble_eq_true rfl⟩ (pre_pure) rfl hl.1 rfl (Nat.le_of_ble_eq_true rfl) z_d_verb_52 (fun r_8 h_9 => ?_)
            rcases h_9 with ⟨rfl, h_9⟩ | ⟨rfl, h_9⟩
            · refine lv_if_ne (tgt := 68) hx hb z_d_verb_55 (by decide) (fun _ => ?_) (fun c9 => absurd c9 (by decide))
              refine lv_aload_n hx hb z_d_verb_68 rfl (lv_at hl 0 rfl) ?_
              refine va_get (D := (dC, dI)) (ci := 3) (v := .ref (q 2)) (C := R3) (T := T3) (N := 6) hx hb hts (cw_sub iC3) hown hK hP 0 rfl rfl 1 (by decide) (hts _ (cw_in mw_93 rfl)) (fun _ h9 => h9) rfl z_d_verb_69 ?_
              refine lv_iload_n hx hb z_d_verb_72 rfl (lv_at hl 1 rfl) ?_
              refine lv_bipush (v := 8) hx hb z_d_verb_73 (by decide) ?_
              refine lv_imul hx hb z_d_verb_75 ?_
              refine lv_iload_n hx hb z_d_verb_76 rfl (lv_at hl 2 rfl) ?_
              refine lv_iadd hx hb z_d_verb_77 ?_
              rw [mul8_nI]
              refine lv_iload_n hx hb z_d_verb_78 rfl (lv_at hl 3 rfl) ?_
              refine lv_iload hx hb z_d_verb_79 (lv_at hl 4 rfl) ?_
              refine lv_iload hx hb z_d_verb_81 (lv_at hl 5 rfl) ?_
              refine wrVNv (As := [.int (nI (k * 8 + n)), .int z, .int a, .int b]) (rest := []) (wf := fun u => wC q cI cZ cB u) ⟨hx, hb, hml, hown, hts⟩ (c_w_set l dC dI q cI cZ cB v s.heap.size (k * 8 + n) (by omega) z a b) mw_318 (hN _ nw_19) mw_317 mp_10 mw_2 yd_w_set ⟨⟨rfl, rfl⟩, Nat.le_of_ble_eq_true rfl, Nat.le_of_ble_eq_true rfl⟩ ⟨Nat.le_of_ble_eq_true rfl, Nat.le_of_ble_eq_true rfl⟩ (WrC.preV hP hK hD hN (ci := 2) (q0 := 2) rfl rfl) (wr_free hD hS hA) hS rfl hl.1 rfl (Nat.le_of_ble_eq_true rfl) z_d_verb_83 (fun u_11 H locs h_12 hP hD hS hz9 => ?_)
              obtain rfl := h_12
              refine W.widen (k := 1) (n := 6) (Nat.le_of_ble_eq_true rfl) (Nat.le_of_ble_eq_true rfl) ?_
              exact vx_ret (W.vret hx hb hr (fun t ht hW => ⟨⟨setV v (k * 8 + n) z a b, rfl, Or.inr (Or.inr ⟨rfl, ⟨wi3_iff.mp h_7, wi3_iff.mp h_9⟩, k, n, hk, hn, rfl, rfl, k8_lt c_15 c_21, rfl⟩), by rw [ht]; exact hP, va_K.moved hW.alike hK, hD⟩, hS.F ht⟩) hS.2.2 z_d_verb_86)
            · refine lv_if_ne (tgt := 68) hx hb z_d_verb_55 (by decide) (fun c9 => absurd rfl c9) (fun _ => ?_)
              obtain ⟨sa_13, hsa_13⟩ := hX.2.2.2 _ sr_99
              exact vx_throwS (own := "ServiceDesk") (cls := "java/lang/IndexOutOfBoundsException") (names := ["java/lang/RuntimeException", "java/lang/Exception"]) hx hb hl0 hown (by decide +kernel) (by decide +kernel) (hts _ (cw_in mw_299 rfl)) (hts _ (cw_in mw_13 rfl)) hsa_13 (xw_1 hts hX.2.2.1) (List.forall_mem_cons.mpr ⟨rfl, List.forall_mem_cons.mpr ⟨rfl, xo_1⟩⟩) hX.1 hX.2.1 hS (hl.1.trans hml.symm) z_d_verb_58 z_d_verb_61 z_d_verb_62 z_d_verb_64 z_d_verb_67 (fun x9 h9 => (hEx x9 h9).elim) (Nat.le_of_ble_eq_true rfl) (Nat.le_of_ble_eq_true rfl) (Nat.le_of_ble_eq_true rfl) (Nat.le_of_ble_eq_true rfl) hlocks (fun t hA0 hZ0 hK0 => ⟨(2, v), Or.inr (Or.inl ⟨rfl, rfl, ⟨⟨k, hk, rfl⟩, ⟨n, hn, rfl⟩, k8_lt c_15 c_21⟩, fun h => h_9 (wi3_iff.mpr h.2)⟩), ⟨List.mem_of_getElem? (i := 1) rfl, hP.kept (fun k9 q9 hq9 => hK0 q9.1 (hP k9 q9 hq9).lt), va_K.moved hA0 hK, hD⟩, Nat.le_trans hS.1 hZ0, fun q9 h1 h2 => (hK0 q9 (Nat.lt_of_lt_of_le h1 hS.1)).trans (hS.2.1 q9 h1 h2)⟩) hS.2.2 (Nat.le_of_ble_eq_true rfl) (Nat.le_of_ble_eq_true rfl)
          · refine lv_if_eq (tgt := 58) hx hb z_d_verb_43 (by decide) (fun _ => ?_) (fun c9 => absurd (by decide) c9)
            obtain ⟨sa_14, hsa_14⟩ := hX.2.2.2 _ sr_99
            exact vx_throwS (own := "ServiceDesk") (cls := "java/lang/IndexOutOfBoundsException") (names := ["java/lang/RuntimeException", "java/lang/Exception"]) hx hb hl0 hown (by decide +kernel) (by decide +kernel) (hts _ (cw_in mw_299 rfl)) (hts _ (cw_in mw_13 rfl)) hsa_14 (xw_1 hts hX.2.2.1) (List.forall_mem_cons.mpr ⟨rfl, List.forall_mem_cons.mpr ⟨rfl, xo_1⟩⟩) hX.1 hX.2.1 hS (hl.1.trans hml.symm) z_d_verb_58 z_d_verb_61 z_d_verb_62 z_d_verb_64 z_d_verb_67 (fun x9 h9 => (hEx x9 h9).elim) (Nat.le_of_ble_eq_true rfl) (Nat.le_of_ble_eq_true rfl) (Nat.le_of_ble_eq_true rfl) (Nat.le_of_ble_eq_true rfl) hlocks (fun t hA0 hZ0 hK0 => ⟨(2, v), Or.inr (Or.inl ⟨rfl, rfl, ⟨⟨k, hk, rfl⟩, ⟨n, hn, rfl⟩, k8_lt c_15 c_21⟩, fun h => h_7 (wi3_iff.mpr h.1)⟩), ⟨List.mem_of_getElem? (i := 1) rfl, hP.kept (fun k9 q9 hq9 => hK0 q9.1 (hP k9 q9 hq9).lt), va_K.moved hA0 hK, hD⟩, Nat.le_trans hS.1 hZ0, fun q9 h1 h2 => (hK0 q9 (Nat.lt_of_lt_of_le h1 hS.1)).trans (hS.2.1 q9 h1 h2)⟩) hS.2.2 (Nat.le_of_ble_eq_true rfl) (Nat.le_of_ble_eq_true rfl)
        · obtain ⟨sa_15, hsa_15⟩ := hX.2.2.2 _ sr_89
          exact vx_throwS (own := "ServiceDesk") (cls := "java/lang/IllegalArgumentException") (names := ["java/lang/RuntimeException", "java/lang/Exception"]) hx hb hl0 hown (by decide +kernel) (by decide +kernel) (hts _ (cw_in mw_152 rfl)) (hts _ (cw_in mw_10 rfl)) hsa_15 (xw_0 hts hX.2.2.1) (List.forall_mem_cons.mpr ⟨rfl, List.forall_mem_cons.mpr ⟨rfl, xo_0⟩⟩) hX.1 hX.2.1 hS (hl.1.trans hml.symm) z_d_verb_24 z_d_verb_27 z_d_verb_28 z_d_verb_30 z_d_verb_33 (fun x9 h9 => (hEx x9 h9).elim) (Nat.le_of_ble_eq_true rfl) (Nat.le_of_ble_eq_true rfl) (Nat.le_of_ble_eq_true rfl) (Nat.le_of_ble_eq_true rfl) hlocks (fun t hA0 hZ0 hK0 => ⟨(1, v), Or.inl ⟨rfl, rfl, fun h => k8_nlt c_21 h.2.2⟩, ⟨List.mem_of_getElem? (i := 0) rfl, hP.kept (fun k9 q9 hq9 => hK0 q9.1 (hP k9 q9 hq9).lt), va_K.moved hA0 hK, hD⟩, Nat.le_trans hS.1 hZ0, fun q9 h1 h2 => (hK0 q9 (Nat.lt_of_lt_of_le h1 hS.1)).trans (hS.2.1 q9 h1 h2)⟩) hS.2.2 (Nat.le_of_ble_eq_true rfl) (Nat.le_of_ble_eq_true rfl)
    · refine lv_if_eq (tgt := 24) hx hb z_d_verb_11 (by decide) (fun _ => ?_) (fun c9 => absurd (by decide) c9)
      obtain ⟨sa_16, hsa_16⟩ := hX.2.2.2 _ sr_89
      exact vx_throwS (own := "ServiceDesk") (cls := "java/lang/IllegalArgumentException") (names := ["java/lang/RuntimeException", "java/lang/Exception"]) hx hb hl0 hown (by decide +kernel) (by decide +kernel) (hts _ (cw_in mw_152 rfl)) (hts _ (cw_in mw_10 rfl)) hsa_16 (xw_0 hts hX.2.2.1) (List.forall_mem_cons.mpr ⟨rfl, List.forall_mem_cons.mpr ⟨rfl, xo_0⟩⟩) hX.1 hX.2.1 hS (hl.1.trans hml.symm) z_d_verb_24 z_d_verb_27 z_d_verb_28 z_d_verb_30 z_d_verb_33 (fun x9 h9 => (hEx x9 h9).elim) (Nat.le_of_ble_eq_true rfl) (Nat.le_of_ble_eq_true rfl) (Nat.le_of_ble_eq_true rfl) (Nat.le_of_ble_eq_true rfl) hlocks (fun t hA0 hZ0 hK0 => ⟨(1, v), Or.inl ⟨rfl, rfl, fun h => h_4 h.2.1⟩, ⟨List.mem_of_getElem? (i := 0) rfl, hP.kept (fun k9 q9 hq9 => hK0 q9.1 (hP k9 q9 hq9).lt), va_K.moved hA0 hK, hD⟩, Nat.le_trans hS.1 hZ0, fun q9 h1 h2 => (hK0 q9 (Nat.lt_of_lt_of_le h1 hS.1)).trans (hS.2.1 q9 h1 h2)⟩) hS.2.2 (Nat.le_of_ble_eq_true rfl) (Nat.le_of_ble_eq_true rfl)
  · refine lv_if_eq (tgt := 24) hx hb z_d_verb_4 (by decide) (fun _ => ?_) (fun c9 => absurd (by decide) c9)
    obtain ⟨sa_17, hsa_17⟩ := hX.2.2.2 _ sr_89
    exact vx_throwS (own := "ServiceDesk") (cls := "java/lang/IllegalArgumentException") (names := ["java/lang/RuntimeException", "java/lang/Exception"]) hx hb hl0 hown (by decide +kernel) (by decide +kernel) (hts _ (cw_in mw_152 rfl)) (hts _ (cw_in mw_10 rfl)) hsa_17 (xw_0 hts hX.2.2.1) (List.forall_mem_cons.mpr ⟨rfl, List.forall_mem_cons.mpr ⟨rfl, xo_0⟩⟩) hX.1 hX.2.1 hS (hl.1.trans hml.symm) z_d_verb_24 z_d_verb_27 z_d_verb_28 z_d_verb_30 z_d_verb_33 (fun x9 h9 => (hEx x9 h9).elim) (Nat.le_of_ble_eq_true rfl) (Nat.le_of_ble_eq_true rfl) (Nat.le_of_ble_eq_true rfl) (Nat.le_of_ble_eq_true rfl) hlocks (fun t hA0 hZ0 hK0 => ⟨(1, v), Or.inl ⟨rfl, rfl, fun h => h_2 h.1⟩, ⟨List.mem_of_getElem? (i := 0) rfl, hP.kept (fun k9 q9 hq9 => hK0 q9.1 (hP k9 q9 hq9).lt), va_K.moved hA0 hK, hD⟩, Nat.le_trans hS.1 hZ0, fun q9 h1 h2 => (hK0 q9 (Nat.lt_of_lt_of_le h1 hS.1)).trans (hS.2.1 q9 h1 h2)⟩) hS.2.2 (Nat.le_of_ble_eq_true rfl) (Nat.le_of_ble_eq_true rfl)

set_option maxHeartbeats 4000000 in
set_option maxRecDepth 100000 in
theorem c_d_simulate (l : Launch) (dC : Nat → ClassId) (dI : Nat → Nat → Nat) (q : Nat → Nat) (cI cZ cB : ClassId) (v : St) (sz : Nat) (hl0 : l.stackTraces = false) (hi : Inv v) (x y z a : Int32) : vx_Met l y_d_simulate (Cond.code y_d_simulate b_d_simulate 5 (some .long) :: CW) { frames := 7, cells := 1, slots := 6, locals := 129 } (va_Pc [.ref (q 0), .int x, .int y, .int z, .int a] (TxC (dC, dI) sz (wC q cI cZ cB v) (tyC cI cZ cB))) (va_Ql (fun (r : Int64) (u : St) => spSim v x y z a 0 r u) (fun u => WrB (dC, dI) (wC q cI cZ cB u) (tyC cI cZ cB) (va_A (wC q cI cZ cB v) sz)) (va_A (wC q cI cZ cB v) sz)) (vx_X (fun z9 : Nat × St => spSim v x y z a z9.1 0 z9.2) (fun E z9 t => (E, z9.1) ∈ ([("java/lang/IllegalArgumentException", 1), ("java/lang/IndexOutOfBoundsException", 2), ("java/lang/IllegalStateException", 3)] : List (String × Nat)) ∧ WrB (dC, dI) (wC q cI cZ cB z9.2) (tyC cI cZ cB) (va_A (wC q cI cZ cB v) sz) t) (va_A (wC q cI cZ cB v) sz)) 1 6 (va_A (wC q cI cZ cB v) sz) := by
  refine tx_met (by decide) (Nat.le_of_ble_eq_true rfl) ?_
  intro p e s m below meth c hx hb hr hml hts hown hlocks hEx hC ls hl
  obtain ⟨⟨hsz, hP, hK, hD0, hN⟩, hX⟩ := hC
  subst hsz
  have hD := hD0.self (sz := s.heap.size)
  generalize hAe : va_A (wC q cI cZ cB v) s.heap.size = A at hD hX ⊢
  have hA : ∀ q9 : Nat, s.heap.size ≤ q9 → A q9 := fun q9 h => by rw [← hAe]; exact Or.inr h
  have hS : va_S A s.heap s.heap [] := va_S.rf
  have hown : s.vm.findClass "ServiceDesk" = some m.cls := hown
  have hl : lv_has ls 5 [(0, .ref (q 0)), (1, .int x), (2, .int y), (3, .int z), (4, .int a)] := hl
  refine lv_aload_n hx hb z_d_simulate_0 rfl (lv_at hl 0 rfl) ?_
  refine lv_iload_n hx hb z_d_simulate_1 rfl (lv_at hl 1 rfl) ?_
  refine lv_iload_n hx hb z_d_simulate_2 rfl (lv_at hl 2 rfl) ?_
  refine lv_iload_n hx hb z_d_simulate_3 rfl (lv_at hl 3 rfl) ?_
  refine lv_iload hx hb z_d_simulate_4 (lv_at hl 4 rfl) ?_
  refine rdVi (As := [.int x, .int y, .int z, .int a]) (rest := []) ⟨hx, hb, hml, hown, hts⟩ (c_d_refusalOf l dC dI q cI cZ cB v hi x y z a) mw_329 mw_326 mw_328 mp_11 mw_1 rfl yd_d_refusalOf ⟨⟨rfl, rfl⟩, Nat.le_of_ble_eq_true rfl, Nat.le_of_ble_eq_true rfl⟩ ⟨Nat.le_of_ble_eq_true rfl, Nat.le_of_ble_eq_true rfl⟩ (RdC.preV hP hK hN (ci := 3) (q0 := 0) rfl rfl) rfl hl.1 rfl (Nat.le_of_ble_eq_true rfl) z_d_simulate_6 (fun r_1 h_2 => ?_)
  rcases h_2 with ⟨rfl, hn9⟩ | ⟨rfl, ho9, hn9⟩ | ⟨k, j, n, hk, hj, hn, rfl, rfl, rfl, hm9, ha9, ⟨rfl, hc9⟩ | ⟨rfl, hc9⟩⟩
  · refine txS_rf (x := 13) (rest := []) (D := (dC, dI)) (ws := wC q cI cZ cB v) ⟨hx, hb, hml, hown, hts⟩ (c_d_refuse l s.heap.size hl0 13) mw_337 mw_335 mw_336 mw_1 yd_d_refuse ⟨⟨rfl, rfl⟩, Nat.le_of_ble_eq_true rfl, Nat.le_of_ble_eq_true rfl⟩ ⟨Nat.le_of_ble_eq_true rfl, Nat.le_of_ble_eq_true rfl⟩ hP hS hA hX hl.1 rfl (Nat.le_of_ble_eq_true rfl) z_d_simulate_9 (fun E ce q9 H locs hE hP hS hce hcv hcl => ?_) (fun H locs h9 => absurd rfl h9.1)
    obtain rfl : E = "java/lang/IllegalArgumentException" := by rcases hE with ⟨h, e9⟩ | ⟨h, e9⟩ | ⟨h, e9⟩ <;> first | exact e9 | exact absurd h (by decide)
    exact vx_out (fun x9 h9 => (hEx x9 h9).elim) hlocks hce hcv hcl (fun t hT0 hA0 => ⟨(1, v), ⟨rfl, Or.inl ⟨rfl, hn9⟩⟩, ⟨List.mem_of_getElem? (i := 0) rfl, by rw [hT0]; exact hP, va_K.moved hA0 hK, hD⟩, hS.F hT0⟩) hS.2.2 (Nat.le_of_ble_eq_true rfl) (Nat.le_of_ble_eq_true rfl)
  · refine txS_rf (x := 14) (rest := []) (D := (dC, dI)) (ws := wC q cI cZ cB v) ⟨hx, hb, hml, hown, hts⟩ (c_d_refuse l s.heap.size hl0 14) mw_337 mw_335 mw_336 mw_1 yd_d_refuse ⟨⟨rfl, rfl⟩, Nat.le_of_ble_eq_true rfl, Nat.le_of_ble_eq_true rfl⟩ ⟨Nat.le_of_ble_eq_true rfl, Nat.le_of_ble_eq_true rfl⟩ hP hS hA hX hl.1 rfl (Nat.le_of_ble_eq_true rfl) z_d_simulate_9 (fun E ce q9 H locs hE hP hS hce hcv hcl => ?_) (fun H locs h9 => absurd rfl h9.2.1)
    obtain rfl : E = "java/lang/IndexOutOfBoundsException" := by rcases hE with ⟨h, e9⟩ | ⟨h, e9⟩ | ⟨h, e9⟩ <;> first | exact e9 | exact absurd h (by decide)
    exact vx_out (fun x9 h9 => (hEx x9 h9).elim) hlocks hce hcv hcl (fun t hT0 hA0 => ⟨(2, v), ⟨rfl, Or.inr (Or.inl ⟨rfl, ho9, hn9⟩)⟩, ⟨List.mem_of_getElem? (i := 1) rfl, by rw [hT0]; exact hP, va_K.moved hA0 hK, hD⟩, hS.F hT0⟩) hS.2.2 (Nat.le_of_ble_eq_true rfl) (Nat.le_of_ble_eq_true rfl)
  · refine txS_rf (x := 15) (rest := []) (D := (dC, dI)) (ws := wC q cI cZ cB v) ⟨hx, hb, hml, hown, hts⟩ (c_d_refuse l s.heap.size hl0 15) mw_337 mw_335 mw_336 mw_1 yd_d_refuse ⟨⟨rfl, rfl⟩, Nat.le_of_ble_eq_true rfl, Nat.le_of_ble_eq_true rfl⟩ ⟨Nat.le_of_ble_eq_true rfl, Nat.le_of_ble_eq_true rfl⟩ hP hS hA hX hl.1 rfl (Nat.le_of_ble_eq_true rfl) z_d_simulate_9 (fun E ce q9 H locs hE hP hS hce hcv hcl => ?_) (fun H locs h9 => absurd rfl h9.2.2)
    obtain rfl : E = "java/lang/IllegalStateException" := by rcases hE with ⟨h, e9⟩ | ⟨h, e9⟩ | ⟨h, e9⟩ <;> first | exact e9 | exact absurd h (by decide)
    exact vx_out (fun x9 h9 => (hEx x9 h9).elim) hlocks hce hcv hcl (fun t hT0 hA0 => ⟨(3, v), ⟨rfl, Or.inr (Or.inr ⟨k, j, n, hk, hj, hn, rfl, rfl, rfl, hm9, ha9, Or.inl ⟨rfl, hc9⟩⟩)⟩, ⟨List.mem_of_getElem? (i := 2) rfl, by rw [hT0]; exact hP, va_K.moved hA0 hK, hD⟩, hS.F hT0⟩) hS.2.2 (Nat.le_of_ble_eq_true rfl) (Nat.le_of_ble_eq_true rfl)
  · refine txS_rf (x := 0) (rest := []) (D := (dC, dI)) (ws := wC q cI cZ cB v) ⟨hx, hb, hml, hown, hts⟩ (c_d_refuse l s.heap.size hl0 0) mw_337 mw_335 mw_336 mw_1 yd_d_refuse ⟨⟨rfl, rfl⟩, Nat.le_of_ble_eq_true rfl, Nat.le_of_ble_eq_true rfl⟩ ⟨Nat.le_of_ble_eq_true rfl, Nat.le_of_ble_eq_true rfl⟩ hP hS hA hX hl.1 rfl (Nat.le_of_ble_eq_true rfl) z_d_simulate_9 (fun E ce q9 H locs hE => absurd hE (by rintro (⟨h, -⟩ | ⟨h, -⟩ | ⟨h, -⟩) <;> revert h <;> decide)) (fun H locs _ hP hS => ?_)
    refine lv_aload_n hx hb z_d_simulate_12 rfl (lv_at hl 0 rfl) ?_
    refine lv_iload_n hx hb z_d_simulate_13 rfl (lv_at hl 1 rfl) ?_
    refine lv_iload_n hx hb z_d_simulate_14 rfl (lv_at hl 2 rfl) ?_
    refine lv_iload_n hx hb z_d_simulate_15 rfl (lv_at hl 3 rfl) ?_
    refine lv_iload hx hb z_d_simulate_16 (lv_at hl 4 rfl) ?_
    refine rdVl (As := [.int (nI k), .int (nI j), .int (nI n), .int a]) (rest := []) ⟨hx, hb, hml, hown, hts⟩ (c_d_answerTo l dC dI q cI cZ cB v hi k j n hk hj hn a) mw_344 mw_341 mw_343 mp_13 mw_1 rfl yd_d_answerTo ⟨⟨rfl, rfl⟩, Nat.le_of_ble_eq_true rfl, Nat.le_of_ble_eq_true rfl⟩ ⟨Nat.le_of_ble_eq_true rfl, Nat.le_of_ble_eq_true rfl⟩ (RdC.preV hP hK hN (ci := 3) (q0 := 0) rfl rfl) rfl hl.1 rfl (Nat.le_of_ble_eq_true rfl) z_d_simulate_18 (fun r_3 h_4 => ?_)
    subst h_4
    exact vx_ret (W.lret (v := anF v k j n a) hx hb hr (fun t ht hW => ⟨⟨anF v k j n a, v, rfl, ⟨rfl, Or.inr (Or.inr ⟨k, j, n, hk, hj, hn, rfl, rfl, rfl, hm9, ha9, Or.inr ⟨rfl, hc9, rfl⟩⟩)⟩, by rw [ht]; exact hP, va_K.moved hW.alike hK, hD⟩, hS.F ht⟩) hS.2.2 z_d_simulate_21)

set_option maxHeartbeats 4000000 in
set_option maxRecDepth 100000 in
theorem c_d_call (l : Launch) (dC : Nat → ClassId) (dI : Nat → Nat → Nat) (q : Nat → Nat) (cI cZ cB : ClassId) (v : St) (sz : Nat) (hl0 : l.stackTraces = false) (hi : Inv v) (x y z a : Int32) : vx_Met l y_d_call (Cond.code y_d_call b_d_call 8 (some .long) :: CW) { frames := 7, cells := 1, slots := 6, locals := 129 } (va_Pc [.ref (q 0), .int x, .int y, .int z, .int a] (TxC (dC, dI) sz (wC q cI cZ cB v) (tyC cI cZ cB))) (va_Ql (fun (r : Int64) (u : St) => spCall v x y z a 0 r u) (fun u => WrB (dC, dI) (wC q cI cZ cB u) (tyC cI cZ cB) (va_A (wC q cI cZ cB v) sz)) (va_A (wC q cI cZ cB v) sz)) (vx_X (fun z9 : Nat × St => spCall v x y z a z9.1 0 z9.2) (fun E z9 t => (E, z9.1) ∈ ([("java/lang/IllegalArgumentException", 1), ("java/lang/IndexOutOfBoundsException", 2), ("java/lang/IllegalStateException", 3)] : List (String × Nat)) ∧ WrB (dC, dI) (wC q cI cZ cB z9.2) (tyC cI cZ cB) (va_A (wC q cI cZ cB v) sz) t) (va_A (wC q cI cZ cB v) sz)) 1 6 (va_A (wC q cI cZ cB v) sz) := by
  refine tx_met (by decide) (Nat.le_of_ble_eq_true rfl) ?_
  intro p e s m below meth c hx hb hr hml hts hown hlocks hEx hC ls hl
  obtain ⟨⟨hsz, hP, hK, hD0, hN⟩, hX⟩ := hC
  subst hsz
  have hD := hD0.self (sz := s.heap.size)
  generalize hAe : va_A (wC q cI cZ cB v) s.heap.size = A at hD hX ⊢
  have hA : ∀ q9 : Nat, s.heap.size ≤ q9 → A q9 := fun q9 h => by rw [← hAe]; exact Or.inr h
  have hS : va_S A s.heap s.heap [] := va_S.rf
  have hown : s.vm.findClass "ServiceDesk" = some m.cls := hown
  have hl : lv_has ls 8 [(0, .ref (q 0)), (1, .int x), (2, .int y), (3, .int z), (4, .int a)] := hl
  refine lv_aload_n hx hb z_d_call_0 rfl (lv_at hl 0 rfl) ?_
  refine lv_dup hx hb z_d_call_1 rfl ?_
  refine va_get (D := (dC, dI)) (ci := 3) (v := .int (ztn v)) (C := R3) (T := T3) (N := 6) hx hb hts (cw_sub iC3) hown hK hP 0 rfl rfl 5 (by decide) (hts _ (cw_in mw_97 rfl)) (fun _ h9 => h9) rfl z_d_call_2 ?_
  refine lv_iconst (v := 1) hx hb z_d_call_5 (by decide) ?_
  refine lv_iadd hx hb z_d_call_6 ?_
  refine va_put (D := (dC, dI)) (ci := 3) (v := .int ((ztn v) + 1)) (ty := .int) (C := R3) (T := T3) (N := 6) hx hb hts (cw_sub iC3) ty3 tyok3 nm3 hown hK hP hD hS 0 rfl rfl 5 (by decide) (hts _ (cw_in mw_97 rfl)) (fun _ h9 => h9) rfl (by decide +kernel) rfl rfl (Nat.le_of_ble_eq_true rfl) z_d_call_7 (fun H locs hP hD hS => ?_)
  have hP : va_P (dC, dI) vwCl (wC q cI cZ cB (utn v ((ztn v) + 1))) H := hP
  have hD : va_D A (wC q cI cZ cB (utn v ((ztn v) + 1))) := hD
  have hi : Inv (trn v) := hi
  refine lv_aload_n hx hb z_d_call_10 rfl (lv_at hl 0 rfl) ?_
  refine lv_iload_n hx hb z_d_call_11 rfl (lv_at hl 1 rfl) ?_
  refine lv_iload_n hx hb z_d_call_12 rfl (lv_at hl 2 rfl) ?_
  refine lv_iload_n hx hb z_d_call_13 rfl (lv_at hl 3 rfl) ?_
  refine lv_iload hx hb z_d_call_14 (lv_at hl 4 rfl) ?_
  refine rdVi (As := [.int x, .int y, .int z, .int a]) (rest := []) ⟨hx, hb, hml, hown, hts⟩ (c_d_refusalOf l dC dI q cI cZ cB (trn v) hi x y z a) mw_329 mw_326 mw_328 mp_11 mw_1 rfl yd_d_refusalOf ⟨⟨rfl, rfl⟩, Nat.le_of_ble_eq_true rfl, Nat.le_of_ble_eq_true rfl⟩ ⟨Nat.le_of_ble_eq_true rfl, Nat.le_of_ble_eq_true rfl⟩ (RdC.preV hP hK hN (ci := 3) (q0 := 0) rfl rfl) rfl hl.1 rfl (Nat.le_of_ble_eq_true rfl) z_d_call_16 (fun r_1 h_2 => ?_)
  rcases h_2 with ⟨rfl, hn9⟩ | ⟨rfl, ho9, hn9⟩ | ⟨k, j, n, hk, hj, hn, rfl, rfl, rfl, hm9, ha9, ⟨rfl, hc9⟩ | ⟨rfl, hc9⟩⟩
  · refine lv_istore (lv' := [(5, .int 13), (0, .ref (q 0)), (1, .int x), (2, .int y), (3, .int z), (4, .int a)]) hx hb z_d_call_19 hl (by decide) rfl (fun ls hl => ?_)
    refine lv_iload hx hb z_d_call_21 (lv_at hl 0 rfl) ?_
    refine lv_if_eq (tgt := 42) hx hb z_d_call_23 (by decide) (fun c9 => absurd c9 (by decide)) (fun _ => ?_)
    refine lv_aload_n hx hb z_d_call_26 rfl (lv_at hl 1 rfl) ?_
    refine va_get (D := (dC, dI)) (ci := 3) (v := .ref (q 13)) (C := R3) (T := T3) (N := 6) hx hb hts (cw_sub iC3) hown hK hP 0 rfl rfl 3 (by decide) (hts _ (cw_in mw_95 rfl)) (fun _ h9 => h9) rfl z_d_call_27 ?_
    refine lv_aload_n hx hb z_d_call_30 rfl (lv_at hl 1 rfl) ?_
    refine va_get (D := (dC, dI)) (ci := 3) (v := .int (ztn v + 1)) (C := R3) (T := T3) (N := 6) hx hb hts (cw_sub iC3) hown hK hP 0 rfl rfl 5 (by decide) (hts _ (cw_in mw_97 rfl)) (fun _ h9 => h9) rfl z_d_call_31 ?_
    refine lv_iload_n hx hb z_d_call_34 rfl (lv_at hl 2 rfl) ?_
    refine lv_iload_n hx hb z_d_call_35 rfl (lv_at hl 3 rfl) ?_
    refine lv_iload_n hx hb z_d_call_36 rfl (lv_at hl 4 rfl) ?_
    refine lv_iload hx hb z_d_call_37 (lv_at hl 0 rfl) ?_
    refine wrVNv (As := [.int (ztn v + 1), .int x, .int y, .int z, .int 13]) (rest := []) (wf := fun u => wC q cI cZ cB u) ⟨hx, hb, hml, hown, hts⟩ (c_r_tell l dC dI q cI cZ cB (trn v) H.size hi (ztn v + 1) x y z 13) mw_334 (hN _ nw_20) mw_333 mp_12 mw_4 yd_r_tell ⟨⟨rfl, rfl⟩, Nat.le_of_ble_eq_true rfl, Nat.le_of_ble_eq_true rfl⟩ ⟨Nat.le_of_ble_eq_true rfl, Nat.le_of_ble_eq_true rfl⟩ (WrC.preV hP hK hD hN (ci := 0) (q0 := 13) rfl rfl) (wr_free hD hS hA) hS rfl hl.1 rfl (Nat.le_of_ble_eq_true rfl) z_d_call_39 (fun u_4 H locs h_5 hP hD hS hz9 => ?_)
    obtain rfl := h_5
    refine lv_iload hx hb z_d_call_42 (lv_at hl 0 rfl) ?_
    refine txS_rf (x := 13) (rest := []) (D := (dC, dI)) (ws := wC q cI cZ cB (telS (trn v) (ztn v + 1) x y z 13)) ⟨hx, hb, hml, hown, hts⟩ (c_d_refuse l H.size hl0 13) mw_337 mw_335 mw_336 mw_1 yd_d_refuse ⟨⟨rfl, rfl⟩, Nat.le_of_ble_eq_true rfl, Nat.le_of_ble_eq_true rfl⟩ ⟨Nat.le_of_ble_eq_true rfl, Nat.le_of_ble_eq_true rfl⟩ hP hS hA hX hl.1 rfl (Nat.le_of_ble_eq_true rfl) z_d_call_44 (fun E ce q9 H locs hE hP hS hce hcv hcl => ?_) (fun H locs h9 => absurd rfl h9.1)
    obtain rfl : E = "java/lang/IllegalArgumentException" := by rcases hE with ⟨h, e9⟩ | ⟨h, e9⟩ | ⟨h, e9⟩ <;> first | exact e9 | exact absurd h (by decide)
    exact vx_out (fun x9 h9 => (hEx x9 h9).elim) hlocks hce hcv hcl (fun t hT0 hA0 => ⟨(1, telS (trn v) (ztn v + 1) x y z 13), Or.inl ⟨rfl, hn9, rfl⟩, ⟨List.mem_of_getElem? (i := 0) rfl, by rw [hT0]; exact hP, va_K.moved hA0 hK, hD⟩, hS.F hT0⟩) hS.2.2 (Nat.le_of_ble_eq_true rfl) (Nat.le_of_ble_eq_true rfl)
  · refine lv_istore (lv' := [(5, .int 14), (0, .ref (q 0)), (1, .int x), (2, .int y), (3, .int z), (4, .int a)]) hx hb z_d_call_19 hl (by decide) rfl (fun ls hl => ?_)
    refine lv_iload hx hb z_d_call_21 (lv_at hl 0 rfl) ?_
    refine lv_if_eq (tgt := 42) hx hb z_d_call_23 (by decide) (fun c9 => absurd c9 (by decide)) (fun _ => ?_)
    refine lv_aload_n hx hb z_d_call_26 rfl (lv_at hl 1 rfl) ?_
    refine va_get (D := (dC, dI)) (ci := 3) (v := .ref (q 13)) (C := R3) (T := T3) (N := 6) hx hb hts (cw_sub iC3) hown hK hP 0 rfl rfl 3 (by decide) (hts _ (cw_in mw_95 rfl)) (fun _ h9 => h9) rfl z_d_call_27 ?_
    refine lv_aload_n hx hb z_d_call_30 rfl (lv_at hl 1 rfl) ?_
    refine va_get (D := (dC, dI)) (ci := 3) (v := .int (ztn v + 1)) (C := R3) (T := T3) (N := 6) hx hb hts (cw_sub iC3) hown hK hP 0 rfl rfl 5 (by decide) (hts _ (cw_in mw_97 rfl)) (fun _ h9 => h9) rfl z_d_call_31 ?_
    refine lv_iload_n hx hb z_d_call_34 rfl (lv_at hl 2 rfl) ?_
    refine lv_iload_n hx hb z_d_call_35 rfl (lv_at hl 3 rfl) ?_
    refine lv_iload_n hx hb z_d_call_36 rfl (lv_at hl 4 rfl) ?_
    refine lv_iload hx hb z_d_call_37 (lv_at hl 0 rfl) ?_
    refine wrVNv (As := [.int (ztn v + 1), .int x, .int y, .int z, .int 14]) (rest := []) (wf := fun u => wC q cI cZ cB u) ⟨hx, hb, hml, hown, hts⟩ (c_r_tell l dC dI q cI cZ cB (trn v) H.size hi (ztn v + 1) x y z 14) mw_334 (hN _ nw_20) mw_333 mp_12 mw_4 yd_r_tell ⟨⟨rfl, rfl⟩, Nat.le_of_ble_eq_true rfl, Nat.le_of_ble_eq_true rfl⟩ ⟨Nat.le_of_ble_eq_true rfl, Nat.le_of_ble_eq_true rfl⟩ (WrC.preV hP hK hD hN (ci := 0) (q0 := 13) rfl rfl) (wr_free hD hS hA) hS rfl hl.1 rfl (Nat.le_of_ble_eq_true rfl) z_d_call_39 (fun u_7 H locs h_8 hP hD hS hz9 => ?_)
    obtain rfl := h_8
    refine lv_iload hx hb z_d_call_42 (lv_at hl 0 rfl) ?_
    refine txS_rf (x := 14) (rest := []) (D := (dC, dI)) (ws := wC q cI cZ cB (telS (trn v) (ztn v + 1) x y z 14)) ⟨hx, hb, hml, hown, hts⟩ (c_d_refuse l H.size hl0 14) mw_337 mw_335 mw_336 mw_1 yd_d_refuse ⟨⟨rfl, rfl⟩, Nat.le_of_ble_eq_true rfl, Nat.le_of_ble_eq_true rfl⟩ ⟨Nat.le_of_ble_eq_true rfl, Nat.le_of_ble_eq_true rfl⟩ hP hS hA hX hl.1 rfl (Nat.le_of_ble_eq_true rfl) z_d_call_44 (fun E ce q9 H locs hE hP hS hce hcv hcl => ?_) (fun H locs h9 => absurd rfl h9.2.1)
    obtain rfl : E = "java/lang/IndexOutOfBoundsException" := by rcases hE with ⟨h, e9⟩ | ⟨h, e9⟩ | ⟨h, e9⟩ <;> first | exact e9 | exact absurd h (by decide)
    exact vx_out (fun x9 h9 => (hEx x9 h9).elim) hlocks hce hcv hcl (fun t hT0 hA0 => ⟨(2, telS (trn v) (ztn v + 1) x y z 14), Or.inr (Or.inl ⟨rfl, ho9, hn9, rfl⟩), ⟨List.mem_of_getElem? (i := 1) rfl, by rw [hT0]; exact hP, va_K.moved hA0 hK, hD⟩, hS.F hT0⟩) hS.2.2 (Nat.le_of_ble_eq_true rfl) (Nat.le_of_ble_eq_true rfl)
  · refine lv_istore (lv' := [(5, .int 15), (0, .ref (q 0)), (1, .int (nI k)), (2, .int (nI j)), (3, .int (nI n)), (4, .int a)]) hx hb z_d_call_19 hl (by decide) rfl (fun ls hl => ?_)
    refine lv_iload hx hb z_d_call_21 (lv_at hl 0 rfl) ?_
    refine lv_if_eq (tgt := 42) hx hb z_d_call_23 (by decide) (fun c9 => absurd c9 (by decide)) (fun _ => ?_)
    refine lv_aload_n hx hb z_d_call_26 rfl (lv_at hl 1 rfl) ?_
    refine va_get (D := (dC, dI)) (ci := 3) (v := .ref (q 13)) (C := R3) (T := T3) (N := 6) hx hb hts (cw_sub iC3) hown hK hP 0 rfl rfl 3 (by decide) (hts _ (cw_in mw_95 rfl)) (fun _ h9 => h9) rfl z_d_call_27 ?_
    refine lv_aload_n hx hb z_d_call_30 rfl (lv_at hl 1 rfl) ?_
    refine va_get (D := (dC, dI)) (ci := 3) (v := .int (ztn v + 1)) (C := R3) (T := T3) (N := 6) hx hb hts (cw_sub iC3) hown hK hP 0 rfl rfl 5 (by decide) (hts _ (cw_in mw_97 rfl)) (fun _ h9 => h9) rfl z_d_call_31 ?_
    refine lv_iload_n hx hb z_d_call_34 rfl (lv_at hl 2 rfl) ?_
    refine lv_iload_n hx hb z_d_call_35 rfl (lv_at hl 3 rfl) ?_
    refine lv_iload_n hx hb z_d_call_36 rfl (lv_at hl 4 rfl) ?_
    refine lv_iload hx hb z_d_call_37 (lv_at hl 0 rfl) ?_
    refine wrVNv (As := [.int (ztn v + 1), .int (nI k), .int (nI j), .int (nI n), .int 15]) (rest := []) (wf := fun u => wC q cI cZ cB u) ⟨hx, hb, hml, hown, hts⟩ (c_r_tell l dC dI q cI cZ cB (trn v) H.size hi (ztn v + 1) (nI k) (nI j) (nI n) 15) mw_334 (hN _ nw_20) mw_333 mp_12 mw_4 yd_r_tell ⟨⟨rfl, rfl⟩, Nat.le_of_ble_eq_true rfl, Nat.le_of_ble_eq_true rfl⟩ ⟨Nat.le_of_ble_eq_true rfl, Nat.le_of_ble_eq_true rfl⟩ (WrC.preV hP hK hD hN (ci := 0) (q0 := 13) rfl rfl) (wr_free hD hS hA) hS rfl hl.1 rfl (Nat.le_of_ble_eq_true rfl) z_d_call_39 (fun u_10 H locs h_11 hP hD hS hz9 => ?_)
    obtain rfl := h_11
    refine lv_iload hx hb z_d_call_42 (lv_at hl 0 rfl) ?_
    refine txS_rf (x := 15) (rest := []) (D := (dC, dI)) (ws := wC q cI cZ cB (telS (trn v) (ztn v + 1) (nI k) (nI j) (nI n) 15)) ⟨hx, hb, hml, hown, hts⟩ (c_d_refuse l H.size hl0 15) mw_337 mw_335 mw_336 mw_1 yd_d_refuse ⟨⟨rfl, rfl⟩, Nat.le_of_ble_eq_true rfl, Nat.le_of_ble_eq_true rfl⟩ ⟨Nat.le_of_ble_eq_true rfl, Nat.le_of_ble_eq_true rfl⟩ hP hS hA hX hl.1 rfl (Nat.le_of_ble_eq_true rfl) z_d_call_44 (fun E ce q9 H locs hE hP hS hce hcv hcl => ?_) (fun H locs h9 => absurd rfl h9.2.2)
    obtain rfl : E = "java/lang/IllegalStateException" := by rcases hE with ⟨h, e9⟩ | ⟨h, e9⟩ | ⟨h, e9⟩ <;> first | exact e9 | exact absurd h (by decide)
    exact vx_out (fun x9 h9 => (hEx x9 h9).elim) hlocks hce hcv hcl (fun t hT0 hA0 => ⟨(3, telS (trn v) (ztn v + 1) (nI k) (nI j) (nI n) 15), Or.inr (Or.inr ⟨k, j, n, hk, hj, hn, rfl, rfl, rfl, hm9, ha9, Or.inl ⟨rfl, hc9, rfl⟩⟩), ⟨List.mem_of_getElem? (i := 2) rfl, by rw [hT0]; exact hP, va_K.moved hA0 hK, hD⟩, hS.F hT0⟩) hS.2.2 (Nat.le_of_ble_eq_true rfl) (Nat.le_of_ble_eq_true rfl)
  · refine lv_istore (lv' := [(5, .int 0), (0, .ref (q 0)), (1, .int (nI k)), (2, .int (nI j)), (3, .int (nI n)), (4, .int a)]) hx hb z_d_call_19 hl (by decide) rfl (fun ls hl => ?_)
    refine lv_iload hx hb z_d_call_21 (lv_at hl 0 rfl) ?_
    refine lv_if_eq (tgt := 42) hx hb z_d_call_23 (by decide) (fun _ => ?_) (fun c9 => absurd (by decide) c9)
    refine lv_iload hx hb z_d_call_42 (lv_at hl 0 rfl) ?_
    refine txS_rf (x := 0) (rest := []) (D := (dC, dI)) (ws := wC q cI cZ cB (trn v)) ⟨hx, hb, hml, hown, hts⟩ (c_d_refuse l H.size hl0 0) mw_337 mw_335 mw_336 mw_1 yd_d_refuse ⟨⟨rfl, rfl⟩, Nat.le_of_ble_eq_true rfl, Nat.le_of_ble_eq_true rfl⟩ ⟨Nat.le_of_ble_eq_true rfl, Nat.le_of_ble_eq_true rfl⟩ hP hS hA hX hl.1 rfl (Nat.le_of_ble_eq_true rfl) z_d_call_44 (fun E ce q9 H locs hE => absurd hE (by rintro (⟨h, -⟩ | ⟨h, -⟩ | ⟨h, -⟩) <;> revert h <;> decide)) (fun H locs _ hP hS => ?_)
    refine lv_aload_n hx hb z_d_call_47 rfl (lv_at hl 1 rfl) ?_
    refine lv_iload_n hx hb z_d_call_48 rfl (lv_at hl 2 rfl) ?_
    refine lv_iload_n hx hb z_d_call_49 rfl (lv_at hl 3 rfl) ?_
    refine lv_iload_n hx hb z_d_call_50 rfl (lv_at hl 4 rfl) ?_
    refine lv_iload hx hb z_d_call_51 (lv_at hl 5 rfl) ?_
    refine rdVl (As := [.int (nI k), .int (nI j), .int (nI n), .int a]) (rest := []) ⟨hx, hb, hml, hown, hts⟩ (c_d_answerTo l dC dI q cI cZ cB (trn v) hi k j n hk hj hn a) mw_344 mw_341 mw_343 mp_13 mw_1 rfl yd_d_answerTo ⟨⟨rfl, rfl⟩, Nat.le_of_ble_eq_true rfl, Nat.le_of_ble_eq_true rfl⟩ ⟨Nat.le_of_ble_eq_true rfl, Nat.le_of_ble_eq_true rfl⟩ (RdC.preV hP hK hN (ci := 3) (q0 := 0) rfl rfl) rfl hl.1 rfl (Nat.le_of_ble_eq_true rfl) z_d_call_53 (fun r_12 h_13 => ?_)
    rw [anF_trn] at h_13
    subst h_13
    refine lv_lstore (lv' := [(6, .long (anF v k j n a)), (5, .int 0), (0, .ref (q 0)), (1, .int (nI k)), (2, .int (nI j)), (3, .int (nI n)), (4, .int a)]) hx hb z_d_call_56 hl (by decide) rfl (fun ls hl => ?_)
    refine lv_lload hx hb z_d_call_58 (lv_at hl 0 rfl) ?_
    refine lv_ldc2 (v := (-9000000000000)) hx hb hown (hts _ (cw_in mw_350 rfl)) z_d_call_60 ?_
    refine W.lcmp hx hb z_d_call_63 ?_
    refine lv_if_ge (tgt := 91) hx hb z_d_call_64 (by decide) (fun c_64 => ?_) (fun c_64 => ?_)
    · refine lv_aload_n hx hb z_d_call_91 rfl (lv_at hl 2 rfl) ?_
      refine lv_iload_n hx hb z_d_call_92 rfl (lv_at hl 3 rfl) ?_
      refine lv_iload_n hx hb z_d_call_93 rfl (lv_at hl 4 rfl) ?_
      refine lv_iload_n hx hb z_d_call_94 rfl (lv_at hl 5 rfl) ?_
      refine lv_lload hx hb z_d_call_95 (lv_at hl 0 rfl) ?_
      refine wrVv (As := [.int (nI k), .int (nI j), .int (nI n), .long (anF v k j n a)]) (rest := []) (wf := fun u => wC q cI cZ cB u) ⟨hx, hb, hml, hown, hts⟩ (c_d_carryOut l dC dI q cI cZ cB (trn v) H.size hi k j n hk hj hn (anF v k j n a)) mw_382 mw_379 mw_381 mp_20 mw_1 rfl yd_d_carryOut ⟨⟨rfl, rfl⟩, Nat.le_of_ble_eq_true rfl, Nat.le_of_ble_eq_true rfl⟩ ⟨Nat.le_of_ble_eq_true rfl, Nat.le_of_ble_eq_true rfl⟩ (WrC.preV hP hK hD hN (ci := 3) (q0 := 0) rfl rfl) (wr_free hD hS hA) hS rfl hl.1 rfl (Nat.le_of_ble_eq_true rfl) z_d_call_97 (fun u_15 H locs h_16 hP hD hS hz9 => ?_)
      obtain rfl := h_16
      refine lv_lload hx hb z_d_call_100 (lv_at hl 0 rfl) ?_
      exact vx_ret (W.lret (v := anF v k j n a) hx hb hr (fun t ht hW => ⟨⟨anF v k j n a, carF (trn v) k j n (anF v k j n a), rfl, Or.inr (Or.inr ⟨k, j, n, hk, hj, hn, rfl, rfl, rfl, hm9, ha9, Or.inr ⟨rfl, hc9, rfl, Or.inr ⟨fun h => absurd (lcmp_lt.mpr h) (Int32.not_lt.mpr c_64), rfl⟩⟩⟩), by rw [ht]; exact hP, va_K.moved hW.alike hK, hD⟩, hS.F ht⟩) hS.2.2 z_d_call_102)
    · refine lv_aload_n hx hb z_d_call_67 rfl (lv_at hl 2 rfl) ?_
      refine va_get (D := (dC, dI)) (ci := 3) (v := .ref (q 13)) (C := R3) (T := T3) (N := 6) hx hb hts (cw_sub iC3) hown hK hP 0 rfl rfl 3 (by decide) (hts _ (cw_in mw_95 rfl)) (fun _ h9 => h9) rfl z_d_call_68 ?_
      refine lv_aload_n hx hb z_d_call_71 rfl (lv_at hl 2 rfl) ?_
      refine va_get (D := (dC, dI)) (ci := 3) (v := .int (ztn v + 1)) (C := R3) (T := T3) (N := 6) hx hb hts (cw_sub iC3) hown hK hP 0 rfl rfl 5 (by decide) (hts _ (cw_in mw_97 rfl)) (fun _ h9 => h9) rfl z_d_call_72 ?_
      refine lv_iload_n hx hb z_d_call_75 rfl (lv_at hl 3 rfl) ?_
      refine lv_iload_n hx hb z_d_call_76 rfl (lv_at hl 4 rfl) ?_
      refine lv_iload_n hx hb z_d_call_77 rfl (lv_at hl 5 rfl) ?_
      refine lv_ldc2 (v := (-9000000000000)) hx hb hown (hts _ (cw_in mw_350 rfl)) z_d_call_78 ?_
      refine lv_lload hx hb z_d_call_81 (lv_at hl 0 rfl) ?_
      refine lv_lsub hx hb z_d_call_83 ?_
      refine lv_l2i hx hb z_d_call_84 rfl ?_
      refine wrVNv (As := [.int (ztn v + 1), .int (nI k), .int (nI j), .int (nI n), .int (((-9000000000000) - (anF v k j n a)).toInt32)]) (rest := []) (wf := fun u => wC q cI cZ cB u) ⟨hx, hb, hml, hown, hts⟩ (c_r_tell l dC dI q cI cZ cB (trn v) H.size hi (ztn v + 1) (nI k) (nI j) (nI n) (((-9000000000000) - (anF v k j n a)).toInt32)) mw_334 (hN _ nw_20) mw_333 mp_12 mw_4 yd_r_tell ⟨⟨rfl, rfl⟩, Nat.le_of_ble_eq_true rfl, Nat.le_of_ble_eq_true rfl⟩ ⟨Nat.le_of_ble_eq_true rfl, Nat.le_of_ble_eq_true rfl⟩ (WrC.preV hP hK hD hN (ci := 0) (q0 := 13) rfl rfl) (wr_free hD hS hA) hS rfl hl.1 rfl (Nat.le_of_ble_eq_true rfl) z_d_call_85 (fun u_18 H locs h_19 hP hD hS hz9 => ?_)
      obtain rfl := h_19
      refine lv_goto (tgt := 100) hx hb z_d_call_88 (by decide) ?_
      refine lv_lload hx hb z_d_call_100 (lv_at hl 0 rfl) ?_
      exact vx_ret (W.lret (v := anF v k j n a) hx hb hr (fun t ht hW => ⟨⟨anF v k j n a, telS (trn v) (ztn v + 1) (nI k) (nI j) (nI n) (((-9000000000000) - (anF v k j n a)).toInt32), rfl, Or.inr (Or.inr ⟨k, j, n, hk, hj, hn, rfl, rfl, rfl, hm9, ha9, Or.inr ⟨rfl, hc9, rfl, Or.inl ⟨lcmp_lt.mp (Int32.not_le.mp c_64), rfl⟩⟩⟩), by rw [ht]; exact hP, va_K.moved hW.alike hK, hD⟩, hS.F ht⟩) hS.2.2 z_d_call_102)
