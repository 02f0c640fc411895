theorem okR_no1 {v : St} {i w : Int32} (hi : Inv v) (h : i < 0) : ¬ okR v i w := by
  rintro ⟨t, z, h1, -, rfl, -⟩
  have := hi.kp.1
  exact nI_pos (by omega) h
theorem okR_no2 {v : St} {i w : Int32} (hi : Inv v) (h : nI (kN v) ≤ i) : ¬ okR v i w := by
  rintro ⟨t, z, h1, -, rfl, -⟩
  have := hi.kp.1
  exact nI_ge h1 (by omega) h
theorem okR_no3 {v : St} {i w : Int32} (h : w < 0) : ¬ okR v i w := by
  rintro ⟨t, z, -, h1, -, rfl⟩
  exact nI_pos (by omega) h
theorem okR_no4 {v : St} {i w : Int32} (h : ¬ w < 5) : ¬ okR v i w := by
  rintro ⟨t, z, -, h1, -, rfl⟩
  exact h (nI_lt (b := 5) h1 (by decide))
set_option maxHeartbeats 4000000 in
set_option maxRecDepth 100000 in
theorem c_d_text (l : Launch) (dC : Nat → ClassId) (dI : Nat → Nat → Nat) (q : Nat → Nat) (cI cZ cB : ClassId) (v : St) (sz : Nat) (hl0 : l.stackTraces = false) (hi : Inv v) (x y : Int32) (p0 : Int64) (n0 : Int32) : vx_Met l y_d_text (Cond.code y_d_text b_d_text 7 (some .int) :: CW) { frames := 6, cells := 1, slots := 6, locals := 82 } (va_Pc [.ref (q 0), .int x, .int y, .long p0, .int n0] (TxC (dC, dI) sz (wC q cI cZ cB v) (tyC cI cZ cB))) (va_Qi (fun (r : Int32) (u : St) => spText v x y p0 n0 0 r u) (fun u => WrB (dC, dI) (wC q cI cZ cB u) (tyC cI cZ cB) (va_A (wC q cI cZ cB v) sz)) (va_A (wC q cI cZ cB v) sz)) (vx_X (fun z9 : Nat × St => spText v x y p0 n0 z9.1 0 z9.2) (fun E z9 t => (E, z9.1) ∈ ([("java/lang/IllegalArgumentException", 1), ("java/lang/IndexOutOfBoundsException", 2), ("java/lang/IllegalStateException", 3), ("java/lang/UnsupportedOperationException", 4)] : List (String × Nat)) ∧ WrB (dC, dI) (wC q cI cZ cB z9.2) (tyC cI cZ cB) (va_A (wC q cI cZ cB v) sz) t) (va_A (wC q cI cZ cB v) sz)) 1 6 (va_A (wC q cI cZ cB v) sz) := by
  refine tx_met (by decide) (Nat.le_of_ble_eq_true rfl) ?_
  intro p e s m below meth c hx hb hr hml hts hown hlocks hEx hC ls hl
  obtain ⟨⟨hsz, hP, hK, hD0, hN⟩, hX⟩ := hC
  subst hsz
  have hD := hD0.self (sz := s.heap.size)
  generalize hAe : va_A (wC q cI cZ cB v) s.heap.size = A at hD hX ⊢
  have hA : ∀ q9 : Nat, s.heap.size ≤ q9 → A q9 := fun q9 h => by rw [← hAe]; exact Or.inr h
  have hS : va_S A s.heap s.heap [] := va_S.rf
  have hown : s.vm.findClass "ServiceDesk" = some m.cls := hown
  have hl : lv_has ls 7 [(0, .ref (q 0)), (1, .int x), (2, .int y), (3, .long p0), (5, .int n0)] := hl
  refine lv_aload_n hx hb z_d_text_0 rfl (lv_at hl 0 rfl) ?_
  refine lv_iload_n hx hb z_d_text_1 rfl (lv_at hl 1 rfl) ?_
  refine lv_iload_n hx hb z_d_text_2 rfl (lv_at hl 2 rfl) ?_
  refine rdVi (As := [.int x, .int y]) (rest := []) ⟨hx, hb, hml, hown, hts⟩ (c_d_isSubject l dC dI q cI cZ cB v hi x y) mw_255 mw_252 mw_254 mp_7 mw_1 rfl yd_d_isSubject ⟨⟨rfl, rfl⟩, Nat.le_of_ble_eq_true rfl, Nat.le_of_ble_eq_true rfl⟩ ⟨Nat.le_of_ble_eq_true rfl, Nat.le_of_ble_eq_true rfl⟩ (RdC.preV hP hK hN (ci := 3) (q0 := 0) rfl rfl) rfl hl.1 rfl (Nat.le_of_ble_eq_true rfl) z_d_text_3 (fun r_1 h_2 => ?_)
  rcases h_2 with ⟨rfl, h_2⟩ | ⟨rfl, h_2⟩
  · obtain ⟨k, j, hk, hj, rfl, rfl⟩ := h_2
    have hM := (hi.mk k hk).1
    refine lv_if_ne (tgt := 19) hx hb z_d_text_6 (by decide) (fun _ => ?_) (fun c9 => absurd c9 (by decide))
    refine lv_iload hx hb z_d_text_19 (lv_at hl 4 rfl) ?_
    refine lv_iconst (v := 1) hx hb z_d_text_21 (by decide) ?_
    refine lv_icmp_lt (tgt := 32) hx hb z_d_text_22 (by decide) (fun c_22 => ?_) (fun c_22 => ?_)
    · obtain ⟨sa_3, hsa_3⟩ := hX.2.2.2 _ sr_137
      exact vx_throwS (own := "ServiceDesk") (cls := "java/lang/IndexOutOfBoundsException") (names := ["java/lang/RuntimeException", "java/lang/Exception"]) hx hb hl0 hown (by decide +kernel) (by decide +kernel) (hts _ (cw_in mw_299 rfl)) (hts _ (cw_in mw_13 rfl)) hsa_3 (xw_1 hts hX.2.2.1) (List.forall_mem_cons.mpr ⟨rfl, List.forall_mem_cons.mpr ⟨rfl, xo_1⟩⟩) hX.1 hX.2.1 hS (hl.1.trans hml.symm) z_d_text_32 z_d_text_35 z_d_text_36 z_d_text_38 z_d_text_41 (fun x9 h9 => (hEx x9 h9).elim) (Nat.le_of_ble_eq_true rfl) (Nat.le_of_ble_eq_true rfl) (Nat.le_of_ble_eq_true rfl) (Nat.le_of_ble_eq_true rfl) hlocks (fun t hA0 hZ0 hK0 => ⟨(2, v), Or.inr (Or.inl ⟨rfl, rfl, ⟨k, j, hk, hj, rfl, rfl⟩, okN_no1 c_22⟩), ⟨List.mem_of_getElem? (i := 1) rfl, hP.kept (fun k9 q9 hq9 => hK0 q9.1 (hP k9 q9 hq9).lt), va_K.moved hA0 hK, hD⟩, Nat.le_trans hS.1 hZ0, fun q9 h1 h2 => (hK0 q9 (Nat.lt_of_lt_of_le h1 hS.1)).trans (hS.2.1 q9 h1 h2)⟩) hS.2.2 (Nat.le_of_ble_eq_true rfl) (Nat.le_of_ble_eq_true rfl)
    · refine lv_iload hx hb z_d_text_25 (lv_at hl 4 rfl) ?_
      refine lv_bipush (v := 8) hx hb z_d_text_27 (by decide) ?_
      refine lv_icmp_le (tgt := 42) hx hb z_d_text_29 (by decide) (fun c_29 => ?_) (fun c_29 => ?_)
      · obtain ⟨w0, hw1, hw2, rfl⟩ := okN_of c_22 c_29
        refine lv_iload_n hx hb z_d_text_42 rfl (lv_at hl 1 rfl) ?_
        refine lv_iload_n hx hb z_d_text_43 rfl (lv_at hl 2 rfl) ?_
        refine rdSi (As := [.int (nI k), .int (nI j)]) (rest := []) ⟨hx, hb, hml, hown, hts⟩ (c_d_slotOf l k j) mw_125 mw_261 mw_124 mw_1 yd_d_slotOf ⟨⟨rfl, rfl⟩, Nat.le_of_ble_eq_true rfl, Nat.le_of_ble_eq_true rfl⟩ ⟨Nat.le_of_ble_eq_true rfl, Nat.le_of_ble_eq_true rfl⟩ (pre_pure) rfl hl.1 rfl (Nat.le_of_ble_eq_true rfl) z_d_text_44 (fun r_4 h_5 => ?_)
        subst h_5
        refine lv_istore (lv' := [(6, .int (nI (k * 30 + j))), (0, .ref (q 0)), (1, .int (nI k)), (2, .int (nI j)), (3, .long p0), (5, .int (nI w0))]) hx hb z_d_text_47 hl (by decide) rfl (fun ls hl => ?_)
        have hL := (hi.ln (k * 30 + j) (by omega)).1
        refine lv_aload_n hx hb z_d_text_49 rfl (lv_at hl 1 rfl) ?_
        refine va_get (D := (dC, dI)) (ci := 3) (v := .ref (q 6)) (C := R3) (T := T3) (N := 6) hx hb hts (cw_sub iC3) hown hK hP 0 rfl rfl 2 (by decide) (hts _ (cw_in mw_94 rfl)) (fun _ h9 => h9) rfl z_d_text_50 ?_
        refine va_getN (D := (dC, dI)) (ci := 1) (v := .ref (q 9)) (C := R1) (T := T1) (N := 6) hx hb hts (cw_sub iC1) hown hK hP 6 rfl rfl 2 (by decide) (va_Nw.use rfl (hN _ nw_7)) (fun _ h9 => h9) rfl z_d_text_53 ?_
        refine lv_iload hx hb z_d_text_56 (lv_at hl 0 rfl) ?_
        refine xa_z hx hb hK hP 9 1 rfl rfl (k := (k * 30 + j)) (y := zop v (k * 30 + j)) (by omega) (by decide) (rfl) z_d_text_58 ?_
        refine lv_if_ne (tgt := 72) hx hb z_d_text_59 (by decide) (fun c_59 => ?_) (fun c_59 => ?_)
        · refine lv_aload_n hx hb z_d_text_72 rfl (lv_at hl 1 rfl) ?_
          refine va_get (D := (dC, dI)) (ci := 3) (v := .ref (q 6)) (C := R3) (T := T3) (N := 6) hx hb hts (cw_sub iC3) hown hK hP 0 rfl rfl 2 (by decide) (hts _ (cw_in mw_94 rfl)) (fun _ h9 => h9) rfl z_d_text_73 ?_
          refine va_getN (D := (dC, dI)) (ci := 1) (v := .ref (q 11)) (C := R1) (T := T1) (N := 6) hx hb hts (cw_sub iC1) hown hK hP 6 rfl rfl 4 (by decide) (va_Nw.use rfl (hN _ nw_9)) (fun _ h9 => h9) rfl z_d_text_76 ?_
          refine lv_iload hx hb z_d_text_79 (lv_at hl 0 rfl) ?_
          refine xa_i hx hb hK hP 11 0 rfl rfl (k := (k * 30 + j)) (y := nI (lN9 v (k * 30 + j))) (by omega) (by decide) ((hi.ln (k * 30 + j) (by omega)).2) z_d_text_81 ?_
          refine lv_iload hx hb z_d_text_82 (lv_at hl 5 rfl) ?_
          refine lv_iadd hx hb z_d_text_84 ?_
          rw [nI_add]
          refine lv_bipush (v := 16) hx hb z_d_text_85 (by decide) ?_
          refine lv_icmp_le (tgt := 100) hx hb z_d_text_87 (by decide) (fun c_87 => ?_) (fun c_87 => ?_)
          · refine lv_aload_n hx hb z_d_text_100 rfl (lv_at hl 1 rfl) ?_
            refine va_get (D := (dC, dI)) (ci := 3) (v := .ref (q 6)) (C := R3) (T := T3) (N := 6) hx hb hts (cw_sub iC3) hown hK hP 0 rfl rfl 2 (by decide) (hts _ (cw_in mw_94 rfl)) (fun _ h9 => h9) rfl z_d_text_101 ?_
            refine lv_iload hx hb z_d_text_104 (lv_at hl 0 rfl) ?_
            refine lv_lload_n hx hb z_d_text_106 rfl (lv_at hl 4 rfl) ?_
            refine lv_iload hx hb z_d_text_107 (lv_at hl 5 rfl) ?_
            refine wrVNi (As := [.int (nI (k * 30 + j)), .long p0, .int (nI w0)]) (rest := []) (wf := fun u => wC q cI cZ cB u) ⟨hx, hb, hml, hown, hts⟩ (c_s_lengthen l dC dI q cI cZ cB v s.heap.size hi (k * 30 + j) (by omega) p0 w0 ((nI_leI (by omega) (by decide)).mp (show nI (lN9 v (k * 30 + j) + w0) ≤ nI 16 from c_87))) mw_407 (hN _ nw_23) mw_406 mp_22 mw_3 yd_s_lengthen ⟨⟨rfl, rfl⟩, Nat.le_of_ble_eq_true rfl, Nat.le_of_ble_eq_true rfl⟩ ⟨Nat.le_of_ble_eq_true rfl, Nat.le_of_ble_eq_true rfl⟩ (WrC.preV hP hK hD hN (ci := 1) (q0 := 6) rfl rfl) (wr_free hD hS hA) hS rfl hl.1 rfl (Nat.le_of_ble_eq_true rfl) z_d_text_109 (fun r_6 u_7 H locs h_8 hP hD hS hz9 => ?_)
            obtain ⟨rfl, rfl⟩ := h_8
            refine W.widen (k := 1) (n := 6) (Nat.le_of_ble_eq_true rfl) (Nat.le_of_ble_eq_true rfl) ?_
            exact vx_ret (W.iret (v := nI (lN9 v (k * 30 + j) + w0)) hx hb hr (fun t ht hW => ⟨⟨nI (lN9 v (k * 30 + j) + w0), lenS v (k * 30 + j) p0 w0, rfl, Or.inr (Or.inr ⟨k, j, w0, hk, hj, rfl, rfl, ⟨hw1, hw2⟩, rfl, Or.inr (Or.inr ⟨rfl, c_59, (nI_leI (by omega) (by decide)).mp (show nI (lN9 v (k * 30 + j) + w0) ≤ nI 16 from c_87), rfl, rfl⟩)⟩), by rw [ht]; exact hP, va_K.moved hW.alike hK, hD⟩, hS.F ht⟩) hS.2.2 z_d_text_112)
          · obtain ⟨sa_9, hsa_9⟩ := hX.2.2.2 _ sr_147
            exact vx_throwS (own := "ServiceDesk") (cls := "java/lang/UnsupportedOperationException") (names := ["java/lang/RuntimeException", "java/lang/Exception"]) hx hb hl0 hown (by decide +kernel) (by decide +kernel) (hts _ (cw_in mw_263 rfl)) (hts _ (cw_in mw_12 rfl)) hsa_9 (xw_3 hts hX.2.2.1) (List.forall_mem_cons.mpr ⟨rfl, List.forall_mem_cons.mpr ⟨rfl, xo_3⟩⟩) hX.1 hX.2.1 hS (hl.1.trans hml.symm) z_d_text_90 z_d_text_93 z_d_text_94 z_d_text_96 z_d_text_99 (fun x9 h9 => (hEx x9 h9).elim) (Nat.le_of_ble_eq_true rfl) (Nat.le_of_ble_eq_true rfl) (Nat.le_of_ble_eq_true rfl) (Nat.le_of_ble_eq_true rfl) hlocks (fun t hA0 hZ0 hK0 => ⟨(4, v), Or.inr (Or.inr ⟨k, j, w0, hk, hj, rfl, rfl, ⟨hw1, hw2⟩, rfl, Or.inr (Or.inl ⟨rfl, rfl, c_59, fun h => c_87 (nI_le (b := 16) h (by decide))⟩)⟩), ⟨List.mem_of_getElem? (i := 3) rfl, hP.kept (fun k9 q9 hq9 => hK0 q9.1 (hP k9 q9 hq9).lt), va_K.moved hA0 hK, hD⟩, Nat.le_trans hS.1 hZ0, fun q9 h1 h2 => (hK0 q9 (Nat.lt_of_lt_of_le h1 hS.1)).trans (hS.2.1 q9 h1 h2)⟩) hS.2.2 (Nat.le_of_ble_eq_true rfl) (Nat.le_of_ble_eq_true rfl)
        · obtain ⟨sa_10, hsa_10⟩ := hX.2.2.2 _ sr_142
          exact vx_throwS (own := "ServiceDesk") (cls := "java/lang/IllegalStateException") (names := ["java/lang/RuntimeException", "java/lang/Exception"]) hx hb hl0 hown (by decide +kernel) (by decide +kernel) (hts _ (cw_in mw_224 rfl)) (hts _ (cw_in mw_11 rfl)) hsa_10 (xw_2 hts hX.2.2.1) (List.forall_mem_cons.mpr ⟨rfl, List.forall_mem_cons.mpr ⟨rfl, xo_2⟩⟩) hX.1 hX.2.1 hS (hl.1.trans hml.symm) z_d_text_62 z_d_text_65 z_d_text_66 z_d_text_68 z_d_text_71 (fun x9 h9 => (hEx x9 h9).elim) (Nat.le_of_ble_eq_true rfl) (Nat.le_of_ble_eq_true rfl) (Nat.le_of_ble_eq_true rfl) (Nat.le_of_ble_eq_true rfl) hlocks (fun t hA0 hZ0 hK0 => ⟨(3, v), Or.inr (Or.inr ⟨k, j, w0, hk, hj, rfl, rfl, ⟨hw1, hw2⟩, rfl, Or.inl ⟨rfl, rfl, c_59⟩⟩), ⟨List.mem_of_getElem? (i := 2) rfl, hP.kept (fun k9 q9 hq9 => hK0 q9.1 (hP k9 q9 hq9).lt), va_K.moved hA0 hK, hD⟩, Nat.le_trans hS.1 hZ0, fun q9 h1 h2 => (hK0 q9 (Nat.lt_of_lt_of_le h1 hS.1)).trans (hS.2.1 q9 h1 h2)⟩) hS.2.2 (Nat.le_of_ble_eq_true rfl) (Nat.le_of_ble_eq_true rfl)
      · obtain ⟨sa_11, hsa_11⟩ := hX.2.2.2 _ sr_137
        exact vx_throwS (own := "ServiceDesk") (cls := "java/lang/IndexOutOfBoundsException") (names := ["java/lang/RuntimeException", "java/lang/Exception"]) hx hb hl0 hown (by decide +kernel) (by decide +kernel) (hts _ (cw_in mw_299 rfl)) (hts _ (cw_in mw_13 rfl)) hsa_11 (xw_1 hts hX.2.2.1) (List.forall_mem_cons.mpr ⟨rfl, List.forall_mem_cons.mpr ⟨rfl, xo_1⟩⟩) hX.1 hX.2.1 hS (hl.1.trans hml.symm) z_d_text_32 z_d_text_35 z_d_text_36 z_d_text_38 z_d_text_41 (fun x9 h9 => (hEx x9 h9).elim) (Nat.le_of_ble_eq_true rfl) (Nat.le_of_ble_eq_true rfl) (Nat.le_of_ble_eq_true rfl) (Nat.le_of_ble_eq_true rfl) hlocks (fun t hA0 hZ0 hK0 => ⟨(2, v), Or.inr (Or.inl ⟨rfl, rfl, ⟨k, j, hk, hj, rfl, rfl⟩, okN_no2 c_29⟩), ⟨List.mem_of_getElem? (i := 1) rfl, hP.kept (fun k9 q9 hq9 => hK0 q9.1 (hP k9 q9 hq9).lt), va_K.moved hA0 hK, hD⟩, Nat.le_trans hS.1 hZ0, fun q9 h1 h2 => (hK0 q9 (Nat.lt_of_lt_of_le h1 hS.1)).trans (hS.2.1 q9 h1 h2)⟩) hS.2.2 (Nat.le_of_ble_eq_true rfl) (Nat.le_of_ble_eq_true rfl)
  · refine lv_if_ne (tgt := 19) hx hb z_d_text_6 (by decide) (fun c9 => absurd rfl c9) (fun _ => ?_)
    obtain ⟨sa_12, hsa_12⟩ := hX.2.2.2 _ sr_135
    exact vx_throwS (own := "ServiceDesk") (cls := "java/lang/IllegalArgumentException") (names := ["java/lang/RuntimeException", "java/lang/Exception"]) hx hb hl0 hown (by decide +kernel) (by decide +kernel) (hts _ (cw_in mw_152 rfl)) (hts _ (cw_in mw_10 rfl)) hsa_12 (xw_0 hts hX.2.2.1) (List.forall_mem_cons.mpr ⟨rfl, List.forall_mem_cons.mpr ⟨rfl, xo_0⟩⟩) hX.1 hX.2.1 hS (hl.1.trans hml.symm) z_d_text_9 z_d_text_12 z_d_text_13 z_d_text_15 z_d_text_18 (fun x9 h9 => (hEx x9 h9).elim) (Nat.le_of_ble_eq_true rfl) (Nat.le_of_ble_eq_true rfl) (Nat.le_of_ble_eq_true rfl) (Nat.le_of_ble_eq_true rfl) hlocks (fun t hA0 hZ0 hK0 => ⟨(1, v), Or.inl ⟨rfl, rfl, h_2⟩, ⟨List.mem_of_getElem? (i := 0) rfl, hP.kept (fun k9 q9 hq9 => hK0 q9.1 (hP k9 q9 hq9).lt), va_K.moved hA0 hK, hD⟩, Nat.le_trans hS.1 hZ0, fun q9 h1 h2 => (hK0 q9 (Nat.lt_of_lt_of_le h1 hS.1)).trans (hS.2.1 q9 h1 h2)⟩) hS.2.2 (Nat.le_of_ble_eq_true rfl) (Nat.le_of_ble_eq_true rfl)

set_option maxHeartbeats 4000000 in
set_option maxRecDepth 100000 in
theorem c_d_textAt (l : Launch) (dC : Nat → ClassId) (dI : Nat → Nat → Nat) (q : Nat → Nat) (cI cZ cB : ClassId) (v : St) (sz : Nat) (hl0 : l.stackTraces = false) (hi : Inv v) (x y i0 : Int32) : vx_Met l y_d_textAt (Cond.code y_d_textAt b_d_textAt 5 (some .int) :: CW) { frames := 6, cells := 1, slots := 6, locals := 82 } (va_Pc [.ref (q 0), .int x, .int y, .int i0] (TxC (dC, dI) sz (wC q cI cZ cB v) (tyC cI cZ cB))) (va_Qi (fun (r : Int32) (u : St) => spTextAt v x y i0 0 r u) (fun u => WrB (dC, dI) (wC q cI cZ cB u) (tyC cI cZ cB) (va_A (wC q cI cZ cB v) sz)) (va_A (wC q cI cZ cB v) sz)) (vx_X (fun z9 : Nat × St => spTextAt v x y i0 z9.1 0 z9.2) (fun E z9 t => (E, z9.1) ∈ ([("java/lang/IllegalArgumentException", 1), ("java/lang/IndexOutOfBoundsException", 2)] : List (String × Nat)) ∧ WrB (dC, dI) (wC q cI cZ cB z9.2) (tyC cI cZ cB) (va_A (wC q cI cZ cB v) sz) t) (va_A (wC q cI cZ cB v) sz)) 1 6 (va_A (wC q cI cZ cB v) sz) := by
  refine tx_met (by decide) (Nat.le_of_ble_eq_true rfl) ?_
  intro p e s m below meth c hx hb hr hml hts hown hlocks hEx hC ls hl
  obtain ⟨⟨hsz, hP, hK, hD0, hN⟩, hX⟩ := hC
  subst hsz
  have hD := hD0.self (sz := s.heap.size)
  generalize hAe : va_A (wC q cI cZ cB v) s.heap.size = A at hD hX ⊢
  have hA : ∀ q9 : Nat, s.heap.size ≤ q9 → A q9 := fun q9 h => by rw [← hAe]; exact Or.inr h
  have hS : va_S A s.heap s.heap [] := va_S.rf
  have hown : s.vm.findClass "ServiceDesk" = some m.cls := hown
  have hl : lv_has ls 5 [(0, .ref (q 0)), (1, .int x), (2, .int y), (3, .int i0)] := hl
  refine lv_aload_n hx hb z_d_textAt_0 rfl (lv_at hl 0 rfl) ?_
  refine lv_iload_n hx hb z_d_textAt_1 rfl (lv_at hl 1 rfl) ?_
  refine lv_iload_n hx hb z_d_textAt_2 rfl (lv_at hl 2 rfl) ?_
  refine rdVi (As := [.int x, .int y]) (rest := []) ⟨hx, hb, hml, hown, hts⟩ (c_d_isSubject l dC dI q cI cZ cB v hi x y) mw_255 mw_252 mw_254 mp_7 mw_1 rfl yd_d_isSubject ⟨⟨rfl, rfl⟩, Nat.le_of_ble_eq_true rfl, Nat.le_of_ble_eq_true rfl⟩ ⟨Nat.le_of_ble_eq_true rfl, Nat.le_of_ble_eq_true rfl⟩ (RdC.preV hP hK hN (ci := 3) (q0 := 0) rfl rfl) rfl hl.1 rfl (Nat.le_of_ble_eq_true rfl) z_d_textAt_3 (fun r_1 h_2 => ?_)
  rcases h_2 with ⟨rfl, h_2⟩ | ⟨rfl, h_2⟩
  · obtain ⟨k, j, hk, hj, rfl, rfl⟩ := h_2
    have hM := (hi.mk k hk).1
    refine lv_if_ne (tgt := 19) hx hb z_d_textAt_6 (by decide) (fun _ => ?_) (fun c9 => absurd c9 (by decide))
    refine lv_iload_n hx hb z_d_textAt_19 rfl (lv_at hl 3 rfl) ?_
    refine lv_if_ge (tgt := 33) hx hb z_d_textAt_20 (by decide) (fun c_20 => ?_) (fun c_20 => ?_)
    · obtain ⟨t0, ht0, rfl⟩ := nI_of (Int32.not_lt.mpr c_20)
      have hL := (hi.ln (k * 30 + j) (by omega)).1
      refine lv_iload_n hx hb z_d_textAt_33 rfl (lv_at hl 1 rfl) ?_
      refine lv_iload_n hx hb z_d_textAt_34 rfl (lv_at hl 2 rfl) ?_
      refine rdSi (As := [.int (nI k), .int (nI j)]) (rest := []) ⟨hx, hb, hml, hown, hts⟩ (c_d_slotOf l k j) mw_125 mw_261 mw_124 mw_1 yd_d_slotOf ⟨⟨rfl, rfl⟩, Nat.le_of_ble_eq_true rfl, Nat.le_of_ble_eq_true rfl⟩ ⟨Nat.le_of_ble_eq_true rfl, Nat.le_of_ble_eq_true rfl⟩ (pre_pure) rfl hl.1 rfl (Nat.le_of_ble_eq_true rfl) z_d_textAt_35 (fun r_3 h_4 => ?_)
      subst h_4
      refine lv_istore (lv' := [(4, .int (nI (k * 30 + j))), (0, .ref (q 0)), (1, .int (nI k)), (2, .int (nI j)), (3, .int (nI t0))]) hx hb z_d_textAt_38 hl (by decide) rfl (fun ls hl => ?_)
      refine lv_iload_n hx hb z_d_textAt_40 rfl (lv_at hl 4 rfl) ?_
      refine lv_aload_n hx hb z_d_textAt_41 rfl (lv_at hl 1 rfl) ?_
      refine va_get (D := (dC, dI)) (ci := 3) (v := .ref (q 6)) (C := R3) (T := T3) (N := 6) hx hb hts (cw_sub iC3) hown hK hP 0 rfl rfl 2 (by decide) (hts _ (cw_in mw_94 rfl)) (fun _ h9 => h9) rfl z_d_textAt_42 ?_
      refine va_getN (D := (dC, dI)) (ci := 1) (v := .ref (q 11)) (C := R1) (T := T1) (N := 6) hx hb hts (cw_sub iC1) hown hK hP 6 rfl rfl 4 (by decide) (va_Nw.use rfl (hN _ nw_9)) (fun _ h9 => h9) rfl z_d_textAt_45 ?_
      refine lv_iload hx hb z_d_textAt_48 (lv_at hl 0 rfl) ?_
      refine xa_i hx hb hK hP 11 0 rfl rfl (k := (k * 30 + j)) (y := nI (lN9 v (k * 30 + j))) (by omega) (by decide) ((hi.ln (k * 30 + j) (by omega)).2) z_d_textAt_50 ?_
      refine lv_icmp_ge (tgt := 67) hx hb z_d_textAt_51 (by decide) (fun c_51 => ?_) (fun c_51 => ?_)
      · refine lv_iconst (v := (-1)) hx hb z_d_textAt_67 (by decide) ?_
        refine W.widen (k := 1) (n := 6) (Nat.le_of_ble_eq_true rfl) (Nat.le_of_ble_eq_true rfl) ?_
        exact vx_ret (W.iret (v := (-1)) hx hb hr (fun t ht hW => ⟨⟨(-1), v, rfl, ⟨rfl, Or.inr (Or.inr ⟨rfl, k, j, t0, hk, hj, rfl, rfl, ht0, rfl, Or.inr ⟨Nat.not_lt.mpr ((nI_leI (by omega) ht0).mp c_51), rfl⟩⟩)⟩, by rw [ht]; exact hP, va_K.moved hW.alike hK, hD⟩, hS.F ht⟩) hS.2.2 z_d_textAt_68)
      · have hlt : t0 < lN9 v (k * 30 + j) := nlt_of ht0 c_51
        refine lv_aload_n hx hb z_d_textAt_54 rfl (lv_at hl 1 rfl) ?_
        refine va_get (D := (dC, dI)) (ci := 3) (v := .ref (q 6)) (C := R3) (T := T3) (N := 6) hx hb hts (cw_sub iC3) hown hK hP 0 rfl rfl 2 (by decide) (hts _ (cw_in mw_94 rfl)) (fun _ h9 => h9) rfl z_d_textAt_55 ?_
        refine lv_iload hx hb z_d_textAt_58 (lv_at hl 0 rfl) ?_
        refine lv_iload_n hx hb z_d_textAt_60 rfl (lv_at hl 4 rfl) ?_
        refine rdVNi (As := [.int (nI (k * 30 + j)), .int (nI t0)]) (rest := []) ⟨hx, hb, hml, hown, hts⟩ (c_s_byteAt l dC dI q cI cZ cB v (k * 30 + j) t0 (by omega)) mw_134 (hN _ nw_24) mw_133 mp_2 mw_3 yd_s_byteAt ⟨⟨rfl, rfl⟩, Nat.le_of_ble_eq_true rfl, Nat.le_of_ble_eq_true rfl⟩ ⟨Nat.le_of_ble_eq_true rfl, Nat.le_of_ble_eq_true rfl⟩ (RdC.preV hP hK hN (ci := 1) (q0 := 6) rfl rfl) rfl hl.1 rfl (Nat.le_of_ble_eq_true rfl) z_d_textAt_61 (fun r_5 h_6 => ?_)
        subst h_6
        refine lv_goto (tgt := 68) hx hb z_d_textAt_64 (by decide) ?_
        refine W.widen (k := 1) (n := 6) (Nat.le_of_ble_eq_true rfl) (Nat.le_of_ble_eq_true rfl) ?_
        exact vx_ret (W.iret (v := ztx v ((k * 30 + j) * 16 + t0) &&& 255) hx hb hr (fun t ht hW => ⟨⟨ztx v ((k * 30 + j) * 16 + t0) &&& 255, v, rfl, ⟨rfl, Or.inr (Or.inr ⟨rfl, k, j, t0, hk, hj, rfl, rfl, ht0, rfl, Or.inl ⟨hlt, rfl⟩⟩)⟩, by rw [ht]; exact hP, va_K.moved hW.alike hK, hD⟩, hS.F ht⟩) hS.2.2 z_d_textAt_68)
    · obtain ⟨sa_7, hsa_7⟩ := hX.2.2.2 _ sr_153
      exact vx_throwS (own := "ServiceDesk") (cls := "java/lang/IndexOutOfBoundsException") (names := ["java/lang/RuntimeException", "java/lang/Exception"]) hx hb hl0 hown (by decide +kernel) (by decide +kernel) (hts _ (cw_in mw_299 rfl)) (hts _ (cw_in mw_13 rfl)) hsa_7 (xw_1 hts hX.2.2.1) (List.forall_mem_cons.mpr ⟨rfl, List.forall_mem_cons.mpr ⟨rfl, xo_1⟩⟩) hX.1 hX.2.1 hS (hl.1.trans hml.symm) z_d_textAt_23 z_d_textAt_26 z_d_textAt_27 z_d_textAt_29 z_d_textAt_32 (fun x9 h9 => (hEx x9 h9).elim) (Nat.le_of_ble_eq_true rfl) (Nat.le_of_ble_eq_true rfl) (Nat.le_of_ble_eq_true rfl) (Nat.le_of_ble_eq_true rfl) hlocks (fun t hA0 hZ0 hK0 => ⟨(2, v), ⟨rfl, Or.inr (Or.inl ⟨rfl, ⟨k, j, hk, hj, rfl, rfl⟩, Int32.not_le.mp c_20⟩)⟩, ⟨List.mem_of_getElem? (i := 1) rfl, hP.kept (fun k9 q9 hq9 => hK0 q9.1 (hP k9 q9 hq9).lt), va_K.moved hA0 hK, hD⟩, Nat.le_trans hS.1 hZ0, fun q9 h1 h2 => (hK0 q9 (Nat.lt_of_lt_of_le h1 hS.1)).trans (hS.2.1 q9 h1 h2)⟩) hS.2.2 (Nat.le_of_ble_eq_true rfl) (Nat.le_of_ble_eq_true rfl)
  · refine lv_if_ne (tgt := 19) hx hb z_d_textAt_6 (by decide) (fun c9 => absurd rfl c9) (fun _ => ?_)
    obtain ⟨sa_8, hsa_8⟩ := hX.2.2.2 _ sr_135
    exact vx_throwS (own := "ServiceDesk") (cls := "java/lang/IllegalArgumentException") (names := ["java/lang/RuntimeException", "java/lang/Exception"]) hx hb hl0 hown (by decide +kernel) (by decide +kernel) (hts _ (cw_in mw_152 rfl)) (hts _ (cw_in mw_10 rfl)) hsa_8 (xw_0 hts hX.2.2.1) (List.forall_mem_cons.mpr ⟨rfl, List.forall_mem_cons.mpr ⟨rfl, xo_0⟩⟩) hX.1 hX.2.1 hS (hl.1.trans hml.symm) z_d_textAt_9 z_d_textAt_12 z_d_textAt_13 z_d_textAt_15 z_d_textAt_18 (fun x9 h9 => (hEx x9 h9).elim) (Nat.le_of_ble_eq_true rfl) (Nat.le_of_ble_eq_true rfl) (Nat.le_of_ble_eq_true rfl) (Nat.le_of_ble_eq_true rfl) hlocks (fun t hA0 hZ0 hK0 => ⟨(1, v), ⟨rfl, Or.inl ⟨rfl, h_2⟩⟩, ⟨List.mem_of_getElem? (i := 0) rfl, hP.kept (fun k9 q9 hq9 => hK0 q9.1 (hP k9 q9 hq9).lt), va_K.moved hA0 hK, hD⟩, Nat.le_trans hS.1 hZ0, fun q9 h1 h2 => (hK0 q9 (Nat.lt_of_lt_of_le h1 hS.1)).trans (hS.2.1 q9 h1 h2)⟩) hS.2.2 (Nat.le_of_ble_eq_true rfl) (Nat.le_of_ble_eq_true rfl)

set_option maxHeartbeats 4000000 in
set_option maxRecDepth 100000 in
theorem c_d_find (l : Launch) (dC : Nat → ClassId) (dI : Nat → Nat → Nat) (q : Nat → Nat) (cI cZ cB : ClassId) (v : St) (sz : Nat) (hl0 : l.stackTraces = false) (hi : Inv v) (x : Int32) (p0 : Int64) (n0 : Int32) : vx_Met l y_d_find (Cond.code y_d_find b_d_find 7 (some .int) :: CW) { frames := 6, cells := 1, slots := 6, locals := 82 } (va_Pc [.ref (q 0), .int x, .long p0, .int n0] (TxC (dC, dI) sz (wC q cI cZ cB v) (tyC cI cZ cB))) (va_Qi (fun (r : Int32) (u : St) => spFind v x p0 n0 0 r u) (fun u => WrB (dC, dI) (wC q cI cZ cB u) (tyC cI cZ cB) (va_A (wC q cI cZ cB v) sz)) (va_A (wC q cI cZ cB v) sz)) (vx_X (fun z9 : Nat × St => spFind v x p0 n0 z9.1 0 z9.2) (fun E z9 t => (E, z9.1) ∈ ([("java/lang/IllegalArgumentException", 1), ("java/lang/IndexOutOfBoundsException", 2)] : List (String × Nat)) ∧ WrB (dC, dI) (wC q cI cZ cB z9.2) (tyC cI cZ cB) (va_A (wC q cI cZ cB v) sz) t) (va_A (wC q cI cZ cB v) sz)) 1 6 (va_A (wC q cI cZ cB v) sz) := by
  refine tx_met (by decide) (Nat.le_of_ble_eq_true rfl) ?_
  intro p e s m below meth c hx hb hr hml hts hown hlocks hEx hC ls hl
  obtain ⟨⟨hsz, hP, hK, hD0, hN⟩, hX⟩ := hC
  subst hsz
  have hD := hD0.self (sz := s.heap.size)
  generalize hAe : va_A (wC q cI cZ cB v) s.heap.size = A at hD hX ⊢
  have hA : ∀ q9 : Nat, s.heap.size ≤ q9 → A q9 := fun q9 h => by rw [← hAe]; exact Or.inr h
  have hS : va_S A s.heap s.heap [] := va_S.rf
  have hown : s.vm.findClass "ServiceDesk" = some m.cls := hown
  have hl : lv_has ls 7 [(0, .ref (q 0)), (1, .int x), (2, .long p0), (4, .int n0)] := hl
  refine lv_iload_n hx hb z_d_find_0 rfl (lv_at hl 1 rfl) ?_
  refine rdSi (As := [.int x]) (rest := []) ⟨hx, hb, hml, hown, hts⟩ (c_d_isKind l x) mw_151 mw_149 mw_150 mw_1 yd_d_isKind ⟨⟨rfl, rfl⟩, Nat.le_of_ble_eq_true rfl, Nat.le_of_ble_eq_true rfl⟩ ⟨Nat.le_of_ble_eq_true rfl, Nat.le_of_ble_eq_true rfl⟩ (pre_pure) rfl hl.1 rfl (Nat.le_of_ble_eq_true rfl) z_d_find_1 (fun r_1 h_2 => ?_)
  rcases h_2 with ⟨rfl, h_2⟩ | ⟨rfl, h_2⟩
  · obtain ⟨k, hk, rfl⟩ := h_2
    refine lv_if_ne (tgt := 17) hx hb z_d_find_4 (by decide) (fun _ => ?_) (fun c9 => absurd c9 (by decide))
    refine lv_iload hx hb z_d_find_17 (lv_at hl 3 rfl) ?_
    refine lv_if_lt (tgt := 29) hx hb z_d_find_19 (by decide) (fun c_19 => ?_) (fun c_19 => ?_)
    · obtain ⟨sa_3, hsa_3⟩ := hX.2.2.2 _ sr_137
      exact vx_throwS (own := "ServiceDesk") (cls := "java/lang/IndexOutOfBoundsException") (names := ["java/lang/RuntimeException", "java/lang/Exception"]) hx hb hl0 hown (by decide +kernel) (by decide +kernel) (hts _ (cw_in mw_299 rfl)) (hts _ (cw_in mw_13 rfl)) hsa_3 (xw_1 hts hX.2.2.1) (List.forall_mem_cons.mpr ⟨rfl, List.forall_mem_cons.mpr ⟨rfl, xo_1⟩⟩) hX.1 hX.2.1 hS (hl.1.trans hml.symm) z_d_find_29 z_d_find_32 z_d_find_33 z_d_find_35 z_d_find_38 (fun x9 h9 => (hEx x9 h9).elim) (Nat.le_of_ble_eq_true rfl) (Nat.le_of_ble_eq_true rfl) (Nat.le_of_ble_eq_true rfl) (Nat.le_of_ble_eq_true rfl) hlocks (fun t hA0 hZ0 hK0 => ⟨(2, v), ⟨rfl, Or.inr (Or.inl ⟨rfl, ⟨k, hk, rfl⟩, ok08_no1 c_19⟩)⟩, ⟨List.mem_of_getElem? (i := 1) rfl, hP.kept (fun k9 q9 hq9 => hK0 q9.1 (hP k9 q9 hq9).lt), va_K.moved hA0 hK, hD⟩, Nat.le_trans hS.1 hZ0, fun q9 h1 h2 => (hK0 q9 (Nat.lt_of_lt_of_le h1 hS.1)).trans (hS.2.1 q9 h1 h2)⟩) hS.2.2 (Nat.le_of_ble_eq_true rfl) (Nat.le_of_ble_eq_true rfl)
    · refine lv_iload hx hb z_d_find_22 (lv_at hl 3 rfl) ?_
      refine lv_bipush (v := 8) hx hb z_d_find_24 (by decide) ?_
      refine lv_icmp_le (tgt := 39) hx hb z_d_find_26 (by decide) (fun c_26 => ?_) (fun c_26 => ?_)
      · obtain ⟨w0, hw, rfl⟩ := ok08_of c_19 c_26
        have hM := (hi.mk k hk).1
        refine lv_iconst (v := 0) hx hb z_d_find_39 (by decide) ?_
        refine lv_istore (lv' := [(5, .int 0), (0, .ref (q 0)), (1, .int (nI k)), (2, .long p0), (4, .int (nI w0))]) hx hb z_d_find_40 hl (by decide) rfl (fun ls hl => ?_)
        refine rd_loopI (nL := 7) (mN v k) (fun i => ∀ j, j < i → ¬ fOK v k p0 w0 j) (fun i => [(0, .ref (q 0)), (1, .int (nI k)), (2, .long p0), (4, .int (nI w0)), (5, .int (nI i))]) ?_ ls (fun j h => absurd h (Nat.not_lt_zero j)) (lv_sub hl [1, 2, 3, 4, 0] rfl)
        intro i ls hle hI hl ih
        have hl : lv_has ls 7 [(0, .ref (q 0)), (1, .int (nI k)), (2, .long p0), (4, .int (nI w0)), (5, .int (nI i))] := hl
        refine lv_iload hx hb z_d_find_42 (lv_at hl 4 rfl) ?_
        refine lv_aload_n hx hb z_d_find_44 rfl (lv_at hl 0 rfl) ?_
        refine va_get (D := (dC, dI)) (ci := 3) (v := .ref (q 6)) (C := R3) (T := T3) (N := 6) hx hb hts (cw_sub iC3) hown hK hP 0 rfl rfl 2 (by decide) (hts _ (cw_in mw_94 rfl)) (fun _ h9 => h9) rfl z_d_find_45 ?_
        refine va_getN (D := (dC, dI)) (ci := 1) (v := .ref (q 7)) (C := R1) (T := T1) (N := 6) hx hb hts (cw_sub iC1) hown hK hP 6 rfl rfl 0 (by decide) (va_Nw.use rfl (hN _ nw_5)) (fun _ h9 => h9) rfl z_d_find_48 ?_
        refine lv_iload_n hx hb z_d_find_51 rfl (lv_at hl 1 rfl) ?_
        refine xa_i hx hb hK hP 7 0 rfl rfl (k := k) (y := nI (mN v k)) (hk) (by decide) ((hi.mk k hk).2) z_d_find_52 ?_
        refine lv_icmp_ge (tgt := 101) hx hb z_d_find_53 (by decide) (fun c_53 => ?_) (fun c_53 => ?_)
        · refine lv_iconst (v := (-1)) hx hb z_d_find_101 (by decide) ?_
          refine W.widen (k := 1) (n := 6) (Nat.le_of_ble_eq_true rfl) (Nat.le_of_ble_eq_true rfl) ?_
          exact vx_ret (W.iret (v := (-1)) hx hb hr (fun t ht hW => ⟨⟨(-1), v, rfl, ⟨rfl, Or.inr (Or.inr ⟨rfl, k, w0, hk, rfl, hw, rfl, Or.inr ⟨fun j hj => hI j (by rw [eq_of_nle hle (by omega) c_53]; exact hj), rfl⟩⟩)⟩, by rw [ht]; exact hP, va_K.moved hW.alike hK, hD⟩, hS.F ht⟩) hS.2.2 z_d_find_102)
        · have hlt : i < mN v k := nlt_of (by omega) c_53
          refine lv_iload_n hx hb z_d_find_56 rfl (lv_at hl 1 rfl) ?_
          refine lv_iload hx hb z_d_find_57 (lv_at hl 4 rfl) ?_
          refine rdSi (As := [.int (nI k), .int (nI i)]) (rest := []) ⟨hx, hb, hml, hown, hts⟩ (c_d_slotOf l k i) mw_125 mw_261 mw_124 mw_1 yd_d_slotOf ⟨⟨rfl, rfl⟩, Nat.le_of_ble_eq_true rfl, Nat.le_of_ble_eq_true rfl⟩ ⟨Nat.le_of_ble_eq_true rfl, Nat.le_of_ble_eq_true rfl⟩ (pre_pure) rfl hl.1 rfl (Nat.le_of_ble_eq_true rfl) z_d_find_59 (fun r_4 h_5 => ?_)
          subst h_5
          refine lv_istore (lv' := [(6, .int (nI (k * 30 + i))), (0, .ref (q 0)), (1, .int (nI k)), (2, .long p0), (4, .int (nI w0)), (5, .int (nI i))]) hx hb z_d_find_62 hl (by decide) rfl (fun ls hl => ?_)
          refine lv_aload_n hx hb z_d_find_64 rfl (lv_at hl 1 rfl) ?_
          refine va_get (D := (dC, dI)) (ci := 3) (v := .ref (q 6)) (C := R3) (T := T3) (N := 6) hx hb hts (cw_sub iC3) hown hK hP 0 rfl rfl 2 (by decide) (hts _ (cw_in mw_94 rfl)) (fun _ h9 => h9) rfl z_d_find_65 ?_
          refine va_getN (D := (dC, dI)) (ci := 1) (v := .ref (q 9)) (C := R1) (T := T1) (N := 6) hx hb hts (cw_sub iC1) hown hK hP 6 rfl rfl 2 (by decide) (va_Nw.use rfl (hN _ nw_7)) (fun _ h9 => h9) rfl z_d_find_68 ?_
          refine lv_iload hx hb z_d_find_71 (lv_at hl 0 rfl) ?_
          refine xa_z hx hb hK hP 9 1 rfl rfl (k := (k * 30 + i)) (y := zop v (k * 30 + i)) (by omega) (by decide) (rfl) z_d_find_73 ?_
          refine lv_if_eq (tgt := 95) hx hb z_d_find_74 (by decide) (fun c_74 => ?_) (fun c_74 => ?_)
          · refine lv_iinc (v := nI (i + 1)) (lv' := [(5, .int (nI (i + 1))), (6, .int (nI (k * 30 + i))), (0, .ref (q 0)), (1, .int (nI k)), (2, .long p0), (4, .int (nI w0))]) hx hb z_d_find_95 hl (k := 5) rfl (by exact nI_1 i) (by decide) rfl (fun ls hl => ?_)
            refine lv_goto (tgt := 42) hx hb z_d_find_98 (by decide) ?_
            exact ih ls hlt (fun j hj => (Nat.lt_succ_iff_lt_or_eq.mp hj).elim (fun h => hI j h) (fun h => by rw [h]; exact fun z => z.1 c_74)) (lv_sub hl [2, 3, 4, 5, 0] rfl)
          · refine lv_aload_n hx hb z_d_find_77 rfl (lv_at hl 1 rfl) ?_
            refine va_get (D := (dC, dI)) (ci := 3) (v := .ref (q 6)) (C := R3) (T := T3) (N := 6) hx hb hts (cw_sub iC3) hown hK hP 0 rfl rfl 2 (by decide) (hts _ (cw_in mw_94 rfl)) (fun _ h9 => h9) rfl z_d_find_78 ?_
            refine lv_iload hx hb z_d_find_81 (lv_at hl 0 rfl) ?_
            refine lv_lload_n hx hb z_d_find_83 rfl (lv_at hl 3 rfl) ?_
            refine lv_iload hx hb z_d_find_84 (lv_at hl 4 rfl) ?_
            refine rdVNi (As := [.int (nI (k * 30 + i)), .long p0, .int (nI w0)]) (rest := []) ⟨hx, hb, hml, hown, hts⟩ (c_s_hasJust l dC dI q cI cZ cB v (k * 30 + i) (by omega) p0 w0 hw) mw_430 (hN _ nw_25) mw_429 mp_23 mw_3 yd_s_hasJust ⟨⟨rfl, rfl⟩, Nat.le_of_ble_eq_true rfl, Nat.le_of_ble_eq_true rfl⟩ ⟨Nat.le_of_ble_eq_true rfl, Nat.le_of_ble_eq_true rfl⟩ (RdC.preV hP hK hN (ci := 1) (q0 := 6) rfl rfl) rfl hl.1 rfl (Nat.le_of_ble_eq_true rfl) z_d_find_86 (fun r_6 h_7 => ?_)
            rcases h_7 with ⟨rfl, h_7⟩ | ⟨rfl, h_7⟩
            · refine lv_if_eq (tgt := 95) hx hb z_d_find_89 (by decide) (fun c9 => absurd c9 (by decide)) (fun _ => ?_)
              refine lv_iload hx hb z_d_find_92 (lv_at hl 5 rfl) ?_
              refine W.widen (k := 1) (n := 6) (Nat.le_of_ble_eq_true rfl) (Nat.le_of_ble_eq_true rfl) ?_
              exact vx_ret (W.iret (v := nI i) hx hb hr (fun t ht hW => ⟨⟨nI i, v, rfl, ⟨rfl, Or.inr (Or.inr ⟨rfl, k, w0, hk, rfl, hw, rfl, Or.inl ⟨i, hlt, ⟨c_74, h_7⟩, hI, rfl⟩⟩)⟩, by rw [ht]; exact hP, va_K.moved hW.alike hK, hD⟩, hS.F ht⟩) hS.2.2 z_d_find_94)
            · refine lv_if_eq (tgt := 95) hx hb z_d_find_89 (by decide) (fun _ => ?_) (fun c9 => absurd (by decide) c9)
              refine lv_iinc (v := nI (i + 1)) (lv' := [(5, .int (nI (i + 1))), (6, .int (nI (k * 30 + i))), (0, .ref (q 0)), (1, .int (nI k)), (2, .long p0), (4, .int (nI w0))]) hx hb z_d_find_95 hl (k := 5) rfl (by exact nI_1 i) (by decide) rfl (fun ls hl => ?_)
              refine lv_goto (tgt := 42) hx hb z_d_find_98 (by decide) ?_
              exact ih ls hlt (fun j hj => (Nat.lt_succ_iff_lt_or_eq.mp hj).elim (fun h => hI j h) (fun h => by rw [h]; exact fun z => h_7 z.2)) (lv_sub hl [2, 3, 4, 5, 0] rfl)
      · obtain ⟨sa_8, hsa_8⟩ := hX.2.2.2 _ sr_137
        exact vx_throwS (own := "ServiceDesk") (cls := "java/lang/IndexOutOfBoundsException") (names := ["java/lang/RuntimeException", "java/lang/Exception"]) hx hb hl0 hown (by decide +kernel) (by decide +kernel) (hts _ (cw_in mw_299 rfl)) (hts _ (cw_in mw_13 rfl)) hsa_8 (xw_1 hts hX.2.2.1) (List.forall_mem_cons.mpr ⟨rfl, List.forall_mem_cons.mpr ⟨rfl, xo_1⟩⟩) hX.1 hX.2.1 hS (hl.1.trans hml.symm) z_d_find_29 z_d_find_32 z_d_find_33 z_d_find_35 z_d_find_38 (fun x9 h9 => (hEx x9 h9).elim) (Nat.le_of_ble_eq_true rfl) (Nat.le_of_ble_eq_true rfl) (Nat.le_of_ble_eq_true rfl) (Nat.le_of_ble_eq_true rfl) hlocks (fun t hA0 hZ0 hK0 => ⟨(2, v), ⟨rfl, Or.inr (Or.inl ⟨rfl, ⟨k, hk, rfl⟩, ok08_no2 c_26⟩)⟩, ⟨List.mem_of_getElem? (i := 1) rfl, hP.kept (fun k9 q9 hq9 => hK0 q9.1 (hP k9 q9 hq9).lt), va_K.moved hA0 hK, hD⟩, Nat.le_trans hS.1 hZ0, fun q9 h1 h2 => (hK0 q9 (Nat.lt_of_lt_of_le h1 hS.1)).trans (hS.2.1 q9 h1 h2)⟩) hS.2.2 (Nat.le_of_ble_eq_true rfl) (Nat.le_of_ble_eq_true rfl)
  · refine lv_if_ne (tgt := 17) hx hb z_d_find_4 (by decide) (fun c9 => absurd rfl c9) (fun _ => ?_)
    obtain ⟨sa_9, hsa_9⟩ := hX.2.2.2 _ sr_46
    exact vx_throwS (own := "ServiceDesk") (cls := "java/lang/IllegalArgumentException") (names := ["java/lang/RuntimeException", "java/lang/Exception"]) hx hb hl0 hown (by decide +kernel) (by decide +kernel) (hts _ (cw_in mw_152 rfl)) (hts _ (cw_in mw_10 rfl)) hsa_9 (xw_0 hts hX.2.2.1) (List.forall_mem_cons.mpr ⟨rfl, List.forall_mem_cons.mpr ⟨rfl, xo_0⟩⟩) hX.1 hX.2.1 hS (hl.1.trans hml.symm) z_d_find_7 z_d_find_10 z_d_find_11 z_d_find_13 z_d_find_16 (fun x9 h9 => (hEx x9 h9).elim) (Nat.le_of_ble_eq_true rfl) (Nat.le_of_ble_eq_true rfl) (Nat.le_of_ble_eq_true rfl) (Nat.le_of_ble_eq_true rfl) hlocks (fun t hA0 hZ0 hK0 => ⟨(1, v), ⟨rfl, Or.inl ⟨rfl, h_2⟩⟩, ⟨List.mem_of_getElem? (i := 0) rfl, hP.kept (fun k9 q9 hq9 => hK0 q9.1 (hP k9 q9 hq9).lt), va_K.moved hA0 hK, hD⟩, Nat.le_trans hS.1 hZ0, fun q9 h1 h2 => (hK0 q9 (Nat.lt_of_lt_of_le h1 hS.1)).trans (hS.2.1 q9 h1 h2)⟩) hS.2.2 (Nat.le_of_ble_eq_true rfl) (Nat.le_of_ble_eq_true rfl)

set_option maxHeartbeats 4000000 in
set_option maxRecDepth 100000 in
theorem c_d_subject (l : Launch) (dC : Nat → ClassId) (dI : Nat → Nat → Nat) (q : Nat → Nat) (cI cZ cB : ClassId) (v : St) (sz : Nat) (hl0 : l.stackTraces = false) (hi : Inv v) (x y w0 : Int32) : vx_Met l y_d_subject (Cond.code y_d_subject b_d_subject 5 (some .int) :: CW) { frames := 6, cells := 1, slots := 6, locals := 82 } (va_Pc [.ref (q 0), .int x, .int y, .int w0] (TxC (dC, dI) sz (wC q cI cZ cB v) (tyC cI cZ cB))) (va_Qi (fun (r : Int32) (u : St) => spSubj v x y w0 0 r u) (fun u => WrB (dC, dI) (wC q cI cZ cB u) (tyC cI cZ cB) (va_A (wC q cI cZ cB v) sz)) (va_A (wC q cI cZ cB v) sz)) (vx_X (fun z9 : Nat × St => spSubj v x y w0 z9.1 0 z9.2) (fun E z9 t => (E, z9.1) ∈ ([("java/lang/IllegalArgumentException", 1)] : List (String × Nat)) ∧ WrB (dC, dI) (wC q cI cZ cB z9.2) (tyC cI cZ cB) (va_A (wC q cI cZ cB v) sz) t) (va_A (wC q cI cZ cB v) sz)) 1 6 (va_A (wC q cI cZ cB v) sz) := by
  refine tx_met (by decide) (Nat.le_of_ble_eq_true rfl) ?_
  intro p e s m below meth c hx hb hr hml hts hown hlocks hEx hC ls hl
  obtain ⟨⟨hsz, hP, hK, hD0, hN⟩, hX⟩ := hC
  subst hsz
  have hD := hD0.self (sz := s.heap.size)
  generalize hAe : va_A (wC q cI cZ cB v) s.heap.size = A at hD hX ⊢
  have hA : ∀ q9 : Nat, s.heap.size ≤ q9 → A q9 := fun q9 h => by rw [← hAe]; exact Or.inr h
  have hS : va_S A s.heap s.heap [] := va_S.rf
  have hown : s.vm.findClass "ServiceDesk" = some m.cls := hown
  have hl : lv_has ls 5 [(0, .ref (q 0)), (1, .int x), (2, .int y), (3, .int w0)] := hl
  refine lv_aload_n hx hb z_d_subject_0 rfl (lv_at hl 0 rfl) ?_
  refine lv_iload_n hx hb z_d_subject_1 rfl (lv_at hl 1 rfl) ?_
  refine lv_iload_n hx hb z_d_subject_2 rfl (lv_at hl 2 rfl) ?_
  refine rdVi (As := [.int x, .int y]) (rest := []) ⟨hx, hb, hml, hown, hts⟩ (c_d_isSubject l dC dI q cI cZ cB v hi x y) mw_255 mw_252 mw_254 mp_7 mw_1 rfl yd_d_isSubject ⟨⟨rfl, rfl⟩, Nat.le_of_ble_eq_true rfl, Nat.le_of_ble_eq_true rfl⟩ ⟨Nat.le_of_ble_eq_true rfl, Nat.le_of_ble_eq_true rfl⟩ (RdC.preV hP hK hN (ci := 3) (q0 := 0) rfl rfl) rfl hl.1 rfl (Nat.le_of_ble_eq_true rfl) z_d_subject_3 (fun r_1 h_2 => ?_)
  rcases h_2 with ⟨rfl, h_2⟩ | ⟨rfl, h_2⟩
  · obtain ⟨k, j, hk, hj, rfl, rfl⟩ := h_2
    have hM := (hi.mk k hk).1
    refine lv_if_eq (tgt := 18) hx hb z_d_subject_6 (by decide) (fun c9 => absurd c9 (by decide)) (fun _ => ?_)
    refine lv_iload_n hx hb z_d_subject_9 rfl (lv_at hl 3 rfl) ?_
    refine lv_if_lt (tgt := 18) hx hb z_d_subject_10 (by decide) (fun c_10 => ?_) (fun c_10 => ?_)
    · obtain ⟨sa_3, hsa_3⟩ := hX.2.2.2 _ sr_162
      exact vx_throwS (own := "ServiceDesk") (cls := "java/lang/IllegalArgumentException") (names := ["java/lang/RuntimeException", "java/lang/Exception"]) hx hb hl0 hown (by decide +kernel) (by decide +kernel) (hts _ (cw_in mw_152 rfl)) (hts _ (cw_in mw_10 rfl)) hsa_3 (xw_0 hts hX.2.2.1) (List.forall_mem_cons.mpr ⟨rfl, List.forall_mem_cons.mpr ⟨rfl, xo_0⟩⟩) hX.1 hX.2.1 hS (hl.1.trans hml.symm) z_d_subject_18 z_d_subject_21 z_d_subject_22 z_d_subject_24 z_d_subject_27 (fun x9 h9 => (hEx x9 h9).elim) (Nat.le_of_ble_eq_true rfl) (Nat.le_of_ble_eq_true rfl) (Nat.le_of_ble_eq_true rfl) (Nat.le_of_ble_eq_true rfl) hlocks (fun t hA0 hZ0 hK0 => ⟨(1, v), ⟨rfl, Or.inl ⟨rfl, fun h => ok03_no1 c_10 h.2⟩⟩, ⟨List.mem_of_getElem? (i := 0) rfl, hP.kept (fun k9 q9 hq9 => hK0 q9.1 (hP k9 q9 hq9).lt), va_K.moved hA0 hK, hD⟩, Nat.le_trans hS.1 hZ0, fun q9 h1 h2 => (hK0 q9 (Nat.lt_of_lt_of_le h1 hS.1)).trans (hS.2.1 q9 h1 h2)⟩) hS.2.2 (Nat.le_of_ble_eq_true rfl) (Nat.le_of_ble_eq_true rfl)
    · refine lv_iload_n hx hb z_d_subject_13 rfl (lv_at hl 3 rfl) ?_
      refine lv_iconst (v := 3) hx hb z_d_subject_14 (by decide) ?_
      refine lv_icmp_le (tgt := 28) hx hb z_d_subject_15 (by decide) (fun c_15 => ?_) (fun c_15 => ?_)
      · refine lv_iload_n hx hb z_d_subject_28 rfl (lv_at hl 1 rfl) ?_
        refine lv_iload_n hx hb z_d_subject_29 rfl (lv_at hl 2 rfl) ?_
        refine rdSi (As := [.int (nI k), .int (nI j)]) (rest := []) ⟨hx, hb, hml, hown, hts⟩ (c_d_slotOf l k j) mw_125 mw_261 mw_124 mw_1 yd_d_slotOf ⟨⟨rfl, rfl⟩, Nat.le_of_ble_eq_true rfl, Nat.le_of_ble_eq_true rfl⟩ ⟨Nat.le_of_ble_eq_true rfl, Nat.le_of_ble_eq_true rfl⟩ (pre_pure) rfl hl.1 rfl (Nat.le_of_ble_eq_true rfl) z_d_subject_30 (fun r_4 h_5 => ?_)
        subst h_5
        refine lv_istore (lv' := [(4, .int (nI (k * 30 + j))), (0, .ref (q 0)), (1, .int (nI k)), (2, .int (nI j)), (3, .int w0)]) hx hb z_d_subject_33 hl (by decide) rfl (fun ls hl => ?_)
        refine lv_iload_n hx hb z_d_subject_35 rfl (lv_at hl 4 rfl) ?_
        rcases ok03_of c_10 c_15 with rfl | rfl | rfl | rfl
        · refine lv_tableIn (tgt := 64) hx hb z_d_subject_36 (by decide) (by decide) rfl (by decide) ?_
          refine lv_aload_n hx hb z_d_subject_64 rfl (lv_at hl 1 rfl) ?_
          refine va_get (D := (dC, dI)) (ci := 3) (v := .ref (q 6)) (C := R3) (T := T3) (N := 6) hx hb hts (cw_sub iC3) hown hK hP 0 rfl rfl 2 (by decide) (hts _ (cw_in mw_94 rfl)) (fun _ h9 => h9) rfl z_d_subject_65 ?_
          refine va_getN (D := (dC, dI)) (ci := 1) (v := .ref (q 8)) (C := R1) (T := T1) (N := 6) hx hb hts (cw_sub iC1) hown hK hP 6 rfl rfl 1 (by decide) (va_Nw.use rfl (hN _ nw_6)) (fun _ h9 => h9) rfl z_d_subject_68 ?_
          refine lv_iload hx hb z_d_subject_71 (lv_at hl 0 rfl) ?_
          refine xa_i hx hb hK hP 8 0 rfl rfl (k := (k * 30 + j)) (y := zab v (k * 30 + j)) (by omega) (by decide) (rfl) z_d_subject_73 ?_
          refine W.widen (k := 1) (n := 6) (Nat.le_of_ble_eq_true rfl) (Nat.le_of_ble_eq_true rfl) ?_
          exact vx_ret (W.iret (v := zab v (k * 30 + j)) hx hb hr (fun t ht hW => ⟨⟨zab v (k * 30 + j), v, rfl, ⟨rfl, Or.inr ⟨rfl, k, j, hk, hj, rfl, rfl, Or.inl ⟨rfl, rfl⟩⟩⟩, by rw [ht]; exact hP, va_K.moved hW.alike hK, hD⟩, hS.F ht⟩) hS.2.2 z_d_subject_74)
        · refine lv_tableIn (tgt := 75) hx hb z_d_subject_36 (by decide) (by decide) rfl (by decide) ?_
          refine lv_aload_n hx hb z_d_subject_75 rfl (lv_at hl 1 rfl) ?_
          refine va_get (D := (dC, dI)) (ci := 3) (v := .ref (q 6)) (C := R3) (T := T3) (N := 6) hx hb hts (cw_sub iC3) hown hK hP 0 rfl rfl 2 (by decide) (hts _ (cw_in mw_94 rfl)) (fun _ h9 => h9) rfl z_d_subject_76 ?_
          refine va_getN (D := (dC, dI)) (ci := 1) (v := .ref (q 9)) (C := R1) (T := T1) (N := 6) hx hb hts (cw_sub iC1) hown hK hP 6 rfl rfl 2 (by decide) (va_Nw.use rfl (hN _ nw_7)) (fun _ h9 => h9) rfl z_d_subject_79 ?_
          refine lv_iload hx hb z_d_subject_82 (lv_at hl 0 rfl) ?_
          refine xa_z hx hb hK hP 9 1 rfl rfl (k := (k * 30 + j)) (y := zop v (k * 30 + j)) (by omega) (by decide) (rfl) z_d_subject_84 ?_
          refine lv_if_eq (tgt := 92) hx hb z_d_subject_85 (by decide) (fun c_85 => ?_) (fun c_85 => ?_)
          · refine lv_iconst (v := 0) hx hb z_d_subject_92 (by decide) ?_
            refine W.widen (k := 1) (n := 6) (Nat.le_of_ble_eq_true rfl) (Nat.le_of_ble_eq_true rfl) ?_
            exact vx_ret (W.iret (v := 0) hx hb hr (fun t ht hW => ⟨⟨0, v, rfl, ⟨rfl, Or.inr ⟨rfl, k, j, hk, hj, rfl, rfl, Or.inr (Or.inl ⟨rfl, by rw [if_pos c_85]⟩)⟩⟩, by rw [ht]; exact hP, va_K.moved hW.alike hK, hD⟩, hS.F ht⟩) hS.2.2 z_d_subject_93)
          · refine lv_iconst (v := 1) hx hb z_d_subject_88 (by decide) ?_
            refine lv_goto (tgt := 93) hx hb z_d_subject_89 (by decide) ?_
            refine W.widen (k := 1) (n := 6) (Nat.le_of_ble_eq_true rfl) (Nat.le_of_ble_eq_true rfl) ?_
            exact vx_ret (W.iret (v := 1) hx hb hr (fun t ht hW => ⟨⟨1, v, rfl, ⟨rfl, Or.inr ⟨rfl, k, j, hk, hj, rfl, rfl, Or.inr (Or.inl ⟨rfl, by rw [if_neg c_85]⟩)⟩⟩, by rw [ht]; exact hP, va_K.moved hW.alike hK, hD⟩, hS.F ht⟩) hS.2.2 z_d_subject_93)
        · refine lv_tableIn (tgt := 94) hx hb z_d_subject_36 (by decide) (by decide) rfl (by decide) ?_
          refine lv_aload_n hx hb z_d_subject_94 rfl (lv_at hl 1 rfl) ?_
          refine va_get (D := (dC, dI)) (ci := 3) (v := .ref (q 6)) (C := R3) (T := T3) (N := 6) hx hb hts (cw_sub iC3) hown hK hP 0 rfl rfl 2 (by decide) (hts _ (cw_in mw_94 rfl)) (fun _ h9 => h9) rfl z_d_subject_95 ?_
          refine va_getN (D := (dC, dI)) (ci := 1) (v := .ref (q 10)) (C := R1) (T := T1) (N := 6) hx hb hts (cw_sub iC1) hown hK hP 6 rfl rfl 3 (by decide) (va_Nw.use rfl (hN _ nw_8)) (fun _ h9 => h9) rfl z_d_subject_98 ?_
          refine lv_iload hx hb z_d_subject_101 (lv_at hl 0 rfl) ?_
          refine xa_i hx hb hK hP 10 0 rfl rfl (k := (k * 30 + j)) (y := zsm v (k * 30 + j)) (by omega) (by decide) (rfl) z_d_subject_103 ?_
          refine W.widen (k := 1) (n := 6) (Nat.le_of_ble_eq_true rfl) (Nat.le_of_ble_eq_true rfl) ?_
          exact vx_ret (W.iret (v := zsm v (k * 30 + j)) hx hb hr (fun t ht hW => ⟨⟨zsm v (k * 30 + j), v, rfl, ⟨rfl, Or.inr ⟨rfl, k, j, hk, hj, rfl, rfl, Or.inr (Or.inr (Or.inl ⟨rfl, rfl⟩))⟩⟩, by rw [ht]; exact hP, va_K.moved hW.alike hK, hD⟩, hS.F ht⟩) hS.2.2 z_d_subject_104)
        · refine lv_tableOut (tgt := 105) hx hb z_d_subject_36 (by decide) (by decide) ?_
          refine lv_aload_n hx hb z_d_subject_105 rfl (lv_at hl 1 rfl) ?_
          refine lv_iload_n hx hb z_d_subject_106 rfl (lv_at hl 2 rfl) ?_
          refine lv_iload_n hx hb z_d_subject_107 rfl (lv_at hl 3 rfl) ?_
          refine rdVi (As := [.int (nI k), .int (nI j)]) (rest := []) ⟨hx, hb, hml, hown, hts⟩ (c_d_openOnesUnder l dC dI q cI cZ cB v hi (nI k) (nI j)) mw_369 mw_366 mw_368 mp_17 mw_1 rfl yd_d_openOnesUnder ⟨⟨rfl, rfl⟩, Nat.le_of_ble_eq_true rfl, Nat.le_of_ble_eq_true rfl⟩ ⟨Nat.le_of_ble_eq_true rfl, Nat.le_of_ble_eq_true rfl⟩ (RdC.preV hP hK hN (ci := 3) (q0 := 0) rfl rfl) rfl hl.1 rfl (Nat.le_of_ble_eq_true rfl) z_d_subject_108 (fun r_6 h_7 => ?_)
          subst h_7
          refine W.widen (k := 1) (n := 6) (Nat.le_of_ble_eq_true rfl) (Nat.le_of_ble_eq_true rfl) ?_
          exact vx_ret (W.iret (v := nI (onC v (nI k) (nI j) 8)) hx hb hr (fun t ht hW => ⟨⟨nI (onC v (nI k) (nI j) 8), v, rfl, ⟨rfl, Or.inr ⟨rfl, k, j, hk, hj, rfl, rfl, Or.inr (Or.inr (Or.inr ⟨rfl, rfl⟩))⟩⟩, by rw [ht]; exact hP, va_K.moved hW.alike hK, hD⟩, hS.F ht⟩) hS.2.2 z_d_subject_111)
      · obtain ⟨sa_8, hsa_8⟩ := hX.2.2.2 _ sr_162
        exact vx_throwS (own := "ServiceDesk") (cls := "java/lang/IllegalArgumentException") (names := ["java/lang/RuntimeException", "java/lang/Exception"]) hx hb hl0 hown (by decide +kernel) (by decide +kernel) (hts _ (cw_in mw_152 rfl)) (hts _ (cw_in mw_10 rfl)) hsa_8 (xw_0 hts hX.2.2.1) (List.forall_mem_cons.mpr ⟨rfl, List.forall_mem_cons.mpr ⟨rfl, xo_0⟩⟩) hX.1 hX.2.1 hS (hl.1.trans hml.symm) z_d_subject_18 z_d_subject_21 z_d_subject_22 z_d_subject_24 z_d_subject_27 (fun x9 h9 => (hEx x9 h9).elim) (Nat.le_of_ble_eq_true rfl) (Nat.le_of_ble_eq_true rfl) (Nat.le_of_ble_eq_true rfl) (Nat.le_of_ble_eq_true rfl) hlocks (fun t hA0 hZ0 hK0 => ⟨(1, v), ⟨rfl, Or.inl ⟨rfl, fun h => ok03_no2 c_15 h.2⟩⟩, ⟨List.mem_of_getElem? (i := 0) rfl, hP.kept (fun k9 q9 hq9 => hK0 q9.1 (hP k9 q9 hq9).lt), va_K.moved hA0 hK, hD⟩, Nat.le_trans hS.1 hZ0, fun q9 h1 h2 => (hK0 q9 (Nat.lt_of_lt_of_le h1 hS.1)).trans (hS.2.1 q9 h1 h2)⟩) hS.2.2 (Nat.le_of_ble_eq_true rfl) (Nat.le_of_ble_eq_true rfl)
  · refine lv_if_eq (tgt := 18) hx hb z_d_subject_6 (by decide) (fun _ => ?_) (fun c9 => absurd (by decide) c9)
    obtain ⟨sa_9, hsa_9⟩ := hX.2.2.2 _ sr_162
    exact vx_throwS (own := "ServiceDesk") (cls := "java/lang/IllegalArgumentException") (names := ["java/lang/RuntimeException", "java/lang/Exception"]) hx hb hl0 hown (by decide +kernel) (by decide +kernel) (hts _ (cw_in mw_152 rfl)) (hts _ (cw_in mw_10 rfl)) hsa_9 (xw_0 hts hX.2.2.1) (List.forall_mem_cons.mpr ⟨rfl, List.forall_mem_cons.mpr ⟨rfl, xo_0⟩⟩) hX.1 hX.2.1 hS (hl.1.trans hml.symm) z_d_subject_18 z_d_subject_21 z_d_subject_22 z_d_subject_24 z_d_subject_27 (fun x9 h9 => (hEx x9 h9).elim) (Nat.le_of_ble_eq_true rfl) (Nat.le_of_ble_eq_true rfl) (Nat.le_of_ble_eq_true rfl) (Nat.le_of_ble_eq_true rfl) hlocks (fun t hA0 hZ0 hK0 => ⟨(1, v), ⟨rfl, Or.inl ⟨rfl, fun h => h_2 h.1⟩⟩, ⟨List.mem_of_getElem? (i := 0) rfl, hP.kept (fun k9 q9 hq9 => hK0 q9.1 (hP k9 q9 hq9).lt), va_K.moved hA0 hK, hD⟩, Nat.le_trans hS.1 hZ0, fun q9 h1 h2 => (hK0 q9 (Nat.lt_of_lt_of_le h1 hS.1)).trans (hS.2.1 q9 h1 h2)⟩) hS.2.2 (Nat.le_of_ble_eq_true rfl) (Nat.le_of_ble_eq_true rfl)

set_option maxHeartbeats 4000000 in
set_option maxRecDepth 100000 in
theorem c_d_row (l : Launch) (dC : Nat → ClassId) (dI : Nat → Nat → Nat) (q : Nat → Nat) (cI cZ cB : ClassId) (v : St) (sz : Nat) (hl0 : l.stackTraces = false) (hi : Inv v) (i0 w0 : Int32) : vx_Met l y_d_row (Cond.code y_d_row b_d_row 3 (some .int) :: CW) { frames := 6, cells := 1, slots := 6, locals := 82 } (va_Pc [.ref (q 0), .int i0, .int w0] (TxC (dC, dI) sz (wC q cI cZ cB v) (tyC cI cZ cB))) (va_Qi (fun (r : Int32) (u : St) => spRow v i0 w0 0 r u) (fun u => WrB (dC, dI) (wC q cI cZ cB u) (tyC cI cZ cB) (va_A (wC q cI cZ cB v) sz)) (va_A (wC q cI cZ cB v) sz)) (vx_X (fun z9 : Nat × St => spRow v i0 w0 z9.1 0 z9.2) (fun E z9 t => (E, z9.1) ∈ ([("java/lang/IllegalArgumentException", 1)] : List (String × Nat)) ∧ WrB (dC, dI) (wC q cI cZ cB z9.2) (tyC cI cZ cB) (va_A (wC q cI cZ cB v) sz) t) (va_A (wC q cI cZ cB v) sz)) 1 6 (va_A (wC q cI cZ cB v) sz) := by
  refine tx_met (by decide) (Nat.le_of_ble_eq_true rfl) ?_
  intro p e s m below meth c hx hb hr hml hts hown hlocks hEx hC ls hl
  obtain ⟨⟨hsz, hP, hK, hD0, hN⟩, hX⟩ := hC
  subst hsz
  have hD := hD0.self (sz := s.heap.size)
  generalize hAe : va_A (wC q cI cZ cB v) s.heap.size = A at hD hX ⊢
  have hA : ∀ q9 : Nat, s.heap.size ≤ q9 → A q9 := fun q9 h => by rw [← hAe]; exact Or.inr h
  have hS : va_S A s.heap s.heap [] := va_S.rf
  have hown : s.vm.findClass "ServiceDesk" = some m.cls := hown
  have hl : lv_has ls 3 [(0, .ref (q 0)), (1, .int i0), (2, .int w0)] := hl
  refine lv_iload_n hx hb z_d_row_0 rfl (lv_at hl 1 rfl) ?_
  refine lv_if_lt (tgt := 24) hx hb z_d_row_1 (by decide) (fun c_1 => ?_) (fun c_1 => ?_)
  · obtain ⟨sa_1, hsa_1⟩ := hX.2.2.2 _ sr_176
    exact vx_throwS (own := "ServiceDesk") (cls := "java/lang/IllegalArgumentException") (names := ["java/lang/RuntimeException", "java/lang/Exception"]) hx hb hl0 hown (by decide +kernel) (by decide +kernel) (hts _ (cw_in mw_152 rfl)) (hts _ (cw_in mw_10 rfl)) hsa_1 (xw_0 hts hX.2.2.1) (List.forall_mem_cons.mpr ⟨rfl, List.forall_mem_cons.mpr ⟨rfl, xo_0⟩⟩) hX.1 hX.2.1 hS (hl.1.trans hml.symm) z_d_row_24 z_d_row_27 z_d_row_28 z_d_row_30 z_d_row_33 (fun x9 h9 => (hEx x9 h9).elim) (Nat.le_of_ble_eq_true rfl) (Nat.le_of_ble_eq_true rfl) (Nat.le_of_ble_eq_true rfl) (Nat.le_of_ble_eq_true rfl) hlocks (fun t hA0 hZ0 hK0 => ⟨(1, v), ⟨rfl, Or.inl ⟨rfl, okR_no1 hi c_1⟩⟩, ⟨List.mem_of_getElem? (i := 0) rfl, hP.kept (fun k9 q9 hq9 => hK0 q9.1 (hP k9 q9 hq9).lt), va_K.moved hA0 hK, hD⟩, Nat.le_trans hS.1 hZ0, fun q9 h1 h2 => (hK0 q9 (Nat.lt_of_lt_of_le h1 hS.1)).trans (hS.2.1 q9 h1 h2)⟩) hS.2.2 (Nat.le_of_ble_eq_true rfl) (Nat.le_of_ble_eq_true rfl)
  · refine lv_iload_n hx hb z_d_row_4 rfl (lv_at hl 1 rfl) ?_
    refine lv_aload_n hx hb z_d_row_5 rfl (lv_at hl 0 rfl) ?_
    refine va_get (D := (dC, dI)) (ci := 3) (v := .ref (q 13)) (C := R3) (T := T3) (N := 6) hx hb hts (cw_sub iC3) hown hK hP 0 rfl rfl 3 (by decide) (hts _ (cw_in mw_95 rfl)) (fun _ h9 => h9) rfl z_d_row_6 ?_
    refine va_getN (D := (dC, dI)) (ci := 0) (v := .int (zkp v)) (C := R0) (T := T0) (N := 2) hx hb hts (cw_sub iC0) hown hK hP 13 rfl rfl 1 (by decide) (va_Nw.use rfl (hN _ nw_12)) (fun _ h9 => h9) rfl z_d_row_9 ?_
    rw [hi.kp.2]
    refine lv_icmp_ge (tgt := 24) hx hb z_d_row_12 (by decide) (fun c_12 => ?_) (fun c_12 => ?_)
    · obtain ⟨sa_2, hsa_2⟩ := hX.2.2.2 _ sr_176
      exact vx_throwS (own := "ServiceDesk") (cls := "java/lang/IllegalArgumentException") (names := ["java/lang/RuntimeException", "java/lang/Exception"]) hx hb hl0 hown (by decide +kernel) (by decide +kernel) (hts _ (cw_in mw_152 rfl)) (hts _ (cw_in mw_10 rfl)) hsa_2 (xw_0 hts hX.2.2.1) (List.forall_mem_cons.mpr ⟨rfl, List.forall_mem_cons.mpr ⟨rfl, xo_0⟩⟩) hX.1 hX.2.1 hS (hl.1.trans hml.symm) z_d_row_24 z_d_row_27 z_d_row_28 z_d_row_30 z_d_row_33 (fun x9 h9 => (hEx x9 h9).elim) (Nat.le_of_ble_eq_true rfl) (Nat.le_of_ble_eq_true rfl) (Nat.le_of_ble_eq_true rfl) (Nat.le_of_ble_eq_true rfl) hlocks (fun t hA0 hZ0 hK0 => ⟨(1, v), ⟨rfl, Or.inl ⟨rfl, okR_no2 hi c_12⟩⟩, ⟨List.mem_of_getElem? (i := 0) rfl, hP.kept (fun k9 q9 hq9 => hK0 q9.1 (hP k9 q9 hq9).lt), va_K.moved hA0 hK, hD⟩, Nat.le_trans hS.1 hZ0, fun q9 h1 h2 => (hK0 q9 (Nat.lt_of_lt_of_le h1 hS.1)).trans (hS.2.1 q9 h1 h2)⟩) hS.2.2 (Nat.le_of_ble_eq_true rfl) (Nat.le_of_ble_eq_true rfl)
    · refine lv_iload_n hx hb z_d_row_15 rfl (lv_at hl 2 rfl) ?_
      refine lv_if_lt (tgt := 24) hx hb z_d_row_16 (by decide) (fun c_16 => ?_) (fun c_16 => ?_)
      · obtain ⟨sa_3, hsa_3⟩ := hX.2.2.2 _ sr_176
        exact vx_throwS (own := "ServiceDesk") (cls := "java/lang/IllegalArgumentException") (names := ["java/lang/RuntimeException", "java/lang/Exception"]) hx hb hl0 hown (by decide +kernel) (by decide +kernel) (hts _ (cw_in mw_152 rfl)) (hts _ (cw_in mw_10 rfl)) hsa_3 (xw_0 hts hX.2.2.1) (List.forall_mem_cons.mpr ⟨rfl, List.forall_mem_cons.mpr ⟨rfl, xo_0⟩⟩) hX.1 hX.2.1 hS (hl.1.trans hml.symm) z_d_row_24 z_d_row_27 z_d_row_28 z_d_row_30 z_d_row_33 (fun x9 h9 => (hEx x9 h9).elim) (Nat.le_of_ble_eq_true rfl) (Nat.le_of_ble_eq_true rfl) (Nat.le_of_ble_eq_true rfl) (Nat.le_of_ble_eq_true rfl) hlocks (fun t hA0 hZ0 hK0 => ⟨(1, v), ⟨rfl, Or.inl ⟨rfl, okR_no3 c_16⟩⟩, ⟨List.mem_of_getElem? (i := 0) rfl, hP.kept (fun k9 q9 hq9 => hK0 q9.1 (hP k9 q9 hq9).lt), va_K.moved hA0 hK, hD⟩, Nat.le_trans hS.1 hZ0, fun q9 h1 h2 => (hK0 q9 (Nat.lt_of_lt_of_le h1 hS.1)).trans (hS.2.1 q9 h1 h2)⟩) hS.2.2 (Nat.le_of_ble_eq_true rfl) (Nat.le_of_ble_eq_true rfl)
      · refine lv_iload_n hx hb z_d_row_19 rfl (lv_at hl 2 rfl) ?_
        refine lv_iconst (v := 5) hx hb z_d_row_20 (by decide) ?_
        refine lv_icmp_lt (tgt := 34) hx hb z_d_row_21 (by decide) (fun c_21 => ?_) (fun c_21 => ?_)
        · obtain ⟨t0, ht0, rfl⟩ := ix_of c_1 c_12
          obtain ⟨z0, hz0, rfl⟩ := ix5_of c_16 c_21
          have hL := hi.kp.1
          refine lv_aload_n hx hb z_d_row_34 rfl (lv_at hl 0 rfl) ?_
          refine va_get (D := (dC, dI)) (ci := 3) (v := .ref (q 13)) (C := R3) (T := T3) (N := 6) hx hb hts (cw_sub iC3) hown hK hP 0 rfl rfl 3 (by decide) (hts _ (cw_in mw_95 rfl)) (fun _ h9 => h9) rfl z_d_row_35 ?_
          refine va_getN (D := (dC, dI)) (ci := 0) (v := .ref (q 14)) (C := R0) (T := T0) (N := 2) hx hb hts (cw_sub iC0) hown hK hP 13 rfl rfl 0 (by decide) (va_Nw.use rfl (hN _ nw_11)) (fun _ h9 => h9) rfl z_d_row_38 ?_
          refine lv_iload_n hx hb z_d_row_41 rfl (lv_at hl 1 rfl) ?_
          refine lv_iconst (v := 5) hx hb z_d_row_42 (by decide) ?_
          refine lv_imul hx hb z_d_row_43 ?_
          refine lv_iload_n hx hb z_d_row_44 rfl (lv_at hl 2 rfl) ?_
          refine lv_iadd hx hb z_d_row_45 ?_
          rw [mul5a_nI]
          refine xa_i hx hb hK hP 14 0 rfl rfl (k := (t0 * 5 + z0)) (y := znu v (t0 * 5 + z0)) (by omega) (by decide) (rfl) z_d_row_46 ?_
          refine W.widen (k := 1) (n := 6) (Nat.le_of_ble_eq_true rfl) (Nat.le_of_ble_eq_true rfl) ?_
          exact vx_ret (W.iret (v := znu v (t0 * 5 + z0)) hx hb hr (fun t ht hW => ⟨⟨znu v (t0 * 5 + z0), v, rfl, ⟨rfl, Or.inr ⟨rfl, t0, z0, ht0, hz0, rfl, rfl, rfl⟩⟩, by rw [ht]; exact hP, va_K.moved hW.alike hK, hD⟩, hS.F ht⟩) hS.2.2 z_d_row_47)
        · obtain ⟨sa_4, hsa_4⟩ := hX.2.2.2 _ sr_176
          exact vx_throwS (own := "ServiceDesk") (cls := "java/lang/IllegalArgumentException") (names := ["java/lang/RuntimeException", "java/lang/Exception"]) hx hb hl0 hown (by decide +kernel) (by decide +kernel) (hts _ (cw_in mw_152 rfl)) (hts _ (cw_in mw_10 rfl)) hsa_4 (xw_0 hts hX.2.2.1) (List.forall_mem_cons.mpr ⟨rfl, List.forall_mem_cons.mpr ⟨rfl, xo_0⟩⟩) hX.1 hX.2.1 hS (hl.1.trans hml.symm) z_d_row_24 z_d_row_27 z_d_row_28 z_d_row_30 z_d_row_33 (fun x9 h9 => (hEx x9 h9).elim) (Nat.le_of_ble_eq_true rfl) (Nat.le_of_ble_eq_true rfl) (Nat.le_of_ble_eq_true rfl) (Nat.le_of_ble_eq_true rfl) hlocks (fun t hA0 hZ0 hK0 => ⟨(1, v), ⟨rfl, Or.inl ⟨rfl, okR_no4 c_21⟩⟩, ⟨List.mem_of_getElem? (i := 0) rfl, hP.kept (fun k9 q9 hq9 => hK0 q9.1 (hP k9 q9 hq9).lt), va_K.moved hA0 hK, hD⟩, Nat.le_trans hS.1 hZ0, fun q9 h1 h2 => (hK0 q9 (Nat.lt_of_lt_of_le h1 hS.1)).trans (hS.2.1 q9 h1 h2)⟩) hS.2.2 (Nat.le_of_ble_eq_true rfl) (Nat.le_of_ble_eq_true rfl)

set_option maxHeartbeats 4000000 in
set_option maxRecDepth 100000 in
theorem c_d_tick (l : Launch) (dC : Nat → ClassId) (dI : Nat → Nat → Nat) (q : Nat → Nat) (cI cZ cB : ClassId) (v : St) (sz : Nat) (hl0 : l.stackTraces = false) (hi : Inv v) (n0 : Int32) : vx_Met l y_d_tick (Cond.code y_d_tick b_d_tick 2 (some .int) :: CW) { frames := 6, cells := 1, slots := 6, locals := 82 } (va_Pc [.ref (q 0), .int n0] (TxC (dC, dI) sz (wC q cI cZ cB v) (tyC cI cZ cB))) (va_Qi (fun (r : Int32) (u : St) => spTick v n0 0 r u) (fun u => WrB (dC, dI) (wC q cI cZ cB u) (tyC cI cZ cB) (va_A (wC q cI cZ cB v) sz)) (va_A (wC q cI cZ cB v) sz)) (vx_X (fun z9 : Nat × St => spTick v n0 z9.1 0 z9.2) (fun E z9 t => (E, z9.1) ∈ ([("java/lang/IndexOutOfBoundsException", 1)] : List (String × Nat)) ∧ WrB (dC, dI) (wC q cI cZ cB z9.2) (tyC cI cZ cB) (va_A (wC q cI cZ cB v) sz) t) (va_A (wC q cI cZ cB v) sz)) 1 6 (va_A (wC q cI cZ cB v) sz) := by
  refine tx_met (by decide) (Nat.le_of_ble_eq_true rfl) ?_
  intro p e s m below meth c hx hb hr hml hts hown hlocks hEx hC ls hl
  obtain ⟨⟨hsz, hP, hK, hD0, hN⟩, hX⟩ := hC
  subst hsz
  have hD := hD0.self (sz := s.heap.size)
  generalize hAe : va_A (wC q cI cZ cB v) s.heap.size = A at hD hX ⊢
  have hA : ∀ q9 : Nat, s.heap.size ≤ q9 → A q9 := fun q9 h => by rw [← hAe]; exact Or.inr h
  have hS : va_S A s.heap s.heap [] := va_S.rf
  have hown : s.vm.findClass "ServiceDesk" = some m.cls := hown
  have hl : lv_has ls 2 [(0, .ref (q 0)), (1, .int n0)] := hl
  refine lv_iload_n hx hb z_d_tick_0 rfl (lv_at hl 1 rfl) ?_
  refine lv_iconst (v := 1) hx hb z_d_tick_1 (by decide) ?_
  refine lv_icmp_lt (tgt := 22) hx hb z_d_tick_2 (by decide) (fun c_2 => ?_) (fun c_2 => ?_)
  · obtain ⟨sa_1, hsa_1⟩ := hX.2.2.2 _ sr_186
    exact vx_throwS (own := "ServiceDesk") (cls := "java/lang/IndexOutOfBoundsException") (names := ["java/lang/RuntimeException", "java/lang/Exception"]) hx hb hl0 hown (by decide +kernel) (by decide +kernel) (hts _ (cw_in mw_299 rfl)) (hts _ (cw_in mw_13 rfl)) hsa_1 (xw_1 hts hX.2.2.1) (List.forall_mem_cons.mpr ⟨rfl, List.forall_mem_cons.mpr ⟨rfl, xo_1⟩⟩) hX.1 hX.2.1 hS (hl.1.trans hml.symm) z_d_tick_22 z_d_tick_25 z_d_tick_26 z_d_tick_28 z_d_tick_31 (fun x9 h9 => (hEx x9 h9).elim) (Nat.le_of_ble_eq_true rfl) (Nat.le_of_ble_eq_true rfl) (Nat.le_of_ble_eq_true rfl) (Nat.le_of_ble_eq_true rfl) hlocks (fun t hA0 hZ0 hK0 => ⟨(1, v), Or.inl ⟨rfl, rfl, okT_no1 c_2⟩, ⟨List.mem_of_getElem? (i := 0) rfl, hP.kept (fun k9 q9 hq9 => hK0 q9.1 (hP k9 q9 hq9).lt), va_K.moved hA0 hK, hD⟩, Nat.le_trans hS.1 hZ0, fun q9 h1 h2 => (hK0 q9 (Nat.lt_of_lt_of_le h1 hS.1)).trans (hS.2.1 q9 h1 h2)⟩) hS.2.2 (Nat.le_of_ble_eq_true rfl) (Nat.le_of_ble_eq_true rfl)
  · refine lv_iload_n hx hb z_d_tick_5 rfl (lv_at hl 1 rfl) ?_
    refine lv_ldc (v := 100000) hx hb hown (hts _ (cw_in mw_454 rfl)) z_d_tick_6 ?_
    refine lv_icmp_gt (tgt := 22) hx hb z_d_tick_8 (by decide) (fun c_8 => ?_) (fun c_8 => ?_)
    · obtain ⟨sa_2, hsa_2⟩ := hX.2.2.2 _ sr_186
      exact vx_throwS (own := "ServiceDesk") (cls := "java/lang/IndexOutOfBoundsException") (names := ["java/lang/RuntimeException", "java/lang/Exception"]) hx hb hl0 hown (by decide +kernel) (by decide +kernel) (hts _ (cw_in mw_299 rfl)) (hts _ (cw_in mw_13 rfl)) hsa_2 (xw_1 hts hX.2.2.1) (List.forall_mem_cons.mpr ⟨rfl, List.forall_mem_cons.mpr ⟨rfl, xo_1⟩⟩) hX.1 hX.2.1 hS (hl.1.trans hml.symm) z_d_tick_22 z_d_tick_25 z_d_tick_26 z_d_tick_28 z_d_tick_31 (fun x9 h9 => (hEx x9 h9).elim) (Nat.le_of_ble_eq_true rfl) (Nat.le_of_ble_eq_true rfl) (Nat.le_of_ble_eq_true rfl) (Nat.le_of_ble_eq_true rfl) hlocks (fun t hA0 hZ0 hK0 => ⟨(1, v), Or.inl ⟨rfl, rfl, okT_no2 c_8⟩, ⟨List.mem_of_getElem? (i := 0) rfl, hP.kept (fun k9 q9 hq9 => hK0 q9.1 (hP k9 q9 hq9).lt), va_K.moved hA0 hK, hD⟩, Nat.le_trans hS.1 hZ0, fun q9 h1 h2 => (hK0 q9 (Nat.lt_of_lt_of_le h1 hS.1)).trans (hS.2.1 q9 h1 h2)⟩) hS.2.2 (Nat.le_of_ble_eq_true rfl) (Nat.le_of_ble_eq_true rfl)
    · refine lv_iload_n hx hb z_d_tick_11 rfl (lv_at hl 1 rfl) ?_
      refine lv_ldc (v := 1000000000) hx hb hown (hts _ (cw_in mw_455 rfl)) z_d_tick_12 ?_
      refine lv_aload_n hx hb z_d_tick_14 rfl (lv_at hl 0 rfl) ?_
      refine va_get (D := (dC, dI)) (ci := 3) (v := .int (zck v)) (C := R3) (T := T3) (N := 6) hx hb hts (cw_sub iC3) hown hK hP 0 rfl rfl 4 (by decide) (hts _ (cw_in mw_96 rfl)) (fun _ h9 => h9) rfl z_d_tick_15 ?_
      refine lv_isub hx hb z_d_tick_18 ?_
      refine lv_icmp_le (tgt := 32) hx hb z_d_tick_19 (by decide) (fun c_19 => ?_) (fun c_19 => ?_)
      · refine lv_aload_n hx hb z_d_tick_32 rfl (lv_at hl 0 rfl) ?_
        refine lv_dup hx hb z_d_tick_33 rfl ?_
        refine va_get (D := (dC, dI)) (ci := 3) (v := .int (zck v)) (C := R3) (T := T3) (N := 6) hx hb hts (cw_sub iC3) hown hK hP 0 rfl rfl 4 (by decide) (hts _ (cw_in mw_96 rfl)) (fun _ h9 => h9) rfl z_d_tick_34 ?_
        refine lv_iload_n hx hb z_d_tick_37 rfl (lv_at hl 1 rfl) ?_
        refine lv_iadd hx hb z_d_tick_38 ?_
        refine va_put (D := (dC, dI)) (ci := 3) (v := .int ((zck v) + n0)) (ty := .int) (C := R3) (T := T3) (N := 6) hx hb hts (cw_sub iC3) ty3 tyok3 nm3 hown hK hP hD hS 0 rfl rfl 4 (by decide) (hts _ (cw_in mw_96 rfl)) (fun _ h9 => h9) rfl (by decide +kernel) rfl rfl (Nat.le_of_ble_eq_true rfl) z_d_tick_39 (fun H locs hP hD hS => ?_)
        have hP : va_P (dC, dI) vwCl (wC q cI cZ cB (uck v ((zck v) + n0))) H := hP
        have hD : va_D A (wC q cI cZ cB (uck v ((zck v) + n0))) := hD
        refine lv_aload_n hx hb z_d_tick_42 rfl (lv_at hl 0 rfl) ?_
        refine va_get (D := (dC, dI)) (ci := 3) (v := .int ((zck v) + n0)) (C := R3) (T := T3) (N := 6) hx hb hts (cw_sub iC3) hown hK hP 0 rfl rfl 4 (by decide) (hts _ (cw_in mw_96 rfl)) (fun _ h9 => h9) rfl z_d_tick_43 ?_
        refine W.widen (k := 1) (n := 6) (Nat.le_of_ble_eq_true rfl) (Nat.le_of_ble_eq_true rfl) ?_
        exact vx_ret (W.iret (v := (zck v) + n0) hx hb hr (fun t ht hW => ⟨⟨(zck v) + n0, uck v ((zck v) + n0), rfl, Or.inr ⟨rfl, okT_of hi c_2 c_8 c_19, rfl, rfl⟩, by rw [ht]; exact hP, va_K.moved hW.alike hK, hD⟩, hS.F ht⟩) hS.2.2 z_d_tick_46)
      · obtain ⟨sa_3, hsa_3⟩ := hX.2.2.2 _ sr_186
        exact vx_throwS (own := "ServiceDesk") (cls := "java/lang/IndexOutOfBoundsException") (names := ["java/lang/RuntimeException", "java/lang/Exception"]) hx hb hl0 hown (by decide +kernel) (by decide +kernel) (hts _ (cw_in mw_299 rfl)) (hts _ (cw_in mw_13 rfl)) hsa_3 (xw_1 hts hX.2.2.1) (List.forall_mem_cons.mpr ⟨rfl, List.forall_mem_cons.mpr ⟨rfl, xo_1⟩⟩) hX.1 hX.2.1 hS (hl.1.trans hml.symm) z_d_tick_22 z_d_tick_25 z_d_tick_26 z_d_tick_28 z_d_tick_31 (fun x9 h9 => (hEx x9 h9).elim) (Nat.le_of_ble_eq_true rfl) (Nat.le_of_ble_eq_true rfl) (Nat.le_of_ble_eq_true rfl) (Nat.le_of_ble_eq_true rfl) hlocks (fun t hA0 hZ0 hK0 => ⟨(1, v), Or.inl ⟨rfl, rfl, okT_no3 hi c_19⟩, ⟨List.mem_of_getElem? (i := 0) rfl, hP.kept (fun k9 q9 hq9 => hK0 q9.1 (hP k9 q9 hq9).lt), va_K.moved hA0 hK, hD⟩, Nat.le_trans hS.1 hZ0, fun q9 h1 h2 => (hK0 q9 (Nat.lt_of_lt_of_le h1 hS.1)).trans (hS.2.1 q9 h1 h2)⟩) hS.2.2 (Nat.le_of_ble_eq_true rfl) (Nat.le_of_ble_eq_true rfl)

set_option maxHeartbeats 4000000 in
set_option maxRecDepth 100000 in
theorem c_d_count (l : Launch) (dC : Nat → ClassId) (dI : Nat → Nat → Nat) (q : Nat → Nat) (cI cZ cB : ClassId) (v : St) (sz : Nat) (hl0 : l.stackTraces = false) (hi : Inv v) (w0 : Int32) : vx_Met l y_d_count (Cond.code y_d_count b_d_count 2 (some .int) :: CW) { frames := 6, cells := 1, slots := 6, locals := 82 } (va_Pc [.ref (q 0), .int w0] (TxC (dC, dI) sz (wC q cI cZ cB v) (tyC cI cZ cB))) (va_Qi (fun (r : Int32) (u : St) => spCount v w0 0 r u) (fun u => WrB (dC, dI) (wC q cI cZ cB u) (tyC cI cZ cB) (va_A (wC q cI cZ cB v) sz)) (va_A (wC q cI cZ cB v) sz)) (vx_X (fun z9 : Nat × St => spCount v w0 z9.1 0 z9.2) (fun E z9 t => (E, z9.1) ∈ ([("java/lang/IllegalArgumentException", 1)] : List (String × Nat)) ∧ WrB (dC, dI) (wC q cI cZ cB z9.2) (tyC cI cZ cB) (va_A (wC q cI cZ cB v) sz) t) (va_A (wC q cI cZ cB v) sz)) 1 6 (va_A (wC q cI cZ cB v) sz) := by
  refine tx_met (by decide) (Nat.le_of_ble_eq_true rfl) ?_
  intro p e s m below meth c hx hb hr hml hts hown hlocks hEx hC ls hl
  obtain ⟨⟨hsz, hP, hK, hD0, hN⟩, hX⟩ := hC
  subst hsz
  have hD := hD0.self (sz := s.heap.size)
  generalize hAe : va_A (wC q cI cZ cB v) s.heap.size = A at hD hX ⊢
  have hA : ∀ q9 : Nat, s.heap.size ≤ q9 → A q9 := fun q9 h => by rw [← hAe]; exact Or.inr h
  have hS : va_S A s.heap s.heap [] := va_S.rf
  have hown : s.vm.findClass "ServiceDesk" = some m.cls := hown
  have hl : lv_has ls 2 [(0, .ref (q 0)), (1, .int w0)] := hl
  refine lv_iload_n hx hb z_d_count_0 rfl (lv_at hl 1 rfl) ?_
  rcases w03 w0 with rfl | rfl | rfl | rfl | ⟨h9, e9⟩
  · refine lv_tableIn (tgt := 32) hx hb z_d_count_1 (by decide) (by decide) rfl (by decide) ?_
    refine lv_aload_n hx hb z_d_count_32 rfl (lv_at hl 0 rfl) ?_
    refine va_get (D := (dC, dI)) (ci := 3) (v := .int (ztn v)) (C := R3) (T := T3) (N := 6) hx hb hts (cw_sub iC3) hown hK hP 0 rfl rfl 5 (by decide) (hts _ (cw_in mw_97 rfl)) (fun _ h9 => h9) rfl z_d_count_33 ?_
    refine W.widen (k := 1) (n := 6) (Nat.le_of_ble_eq_true rfl) (Nat.le_of_ble_eq_true rfl) ?_
    exact vx_ret (W.iret (v := ztn v) hx hb hr (fun t ht hW => ⟨⟨ztn v, v, rfl, ⟨rfl, Or.inr ⟨rfl, Or.inl ⟨rfl, rfl⟩⟩⟩, by rw [ht]; exact hP, va_K.moved hW.alike hK, hD⟩, hS.F ht⟩) hS.2.2 z_d_count_36)
  · refine lv_tableIn (tgt := 37) hx hb z_d_count_1 (by decide) (by decide) rfl (by decide) ?_
    refine lv_aload_n hx hb z_d_count_37 rfl (lv_at hl 0 rfl) ?_
    refine va_get (D := (dC, dI)) (ci := 3) (v := .ref (q 13)) (C := R3) (T := T3) (N := 6) hx hb hts (cw_sub iC3) hown hK hP 0 rfl rfl 3 (by decide) (hts _ (cw_in mw_95 rfl)) (fun _ h9 => h9) rfl z_d_count_38 ?_
    refine va_getN (D := (dC, dI)) (ci := 0) (v := .int (zkp v)) (C := R0) (T := T0) (N := 2) hx hb hts (cw_sub iC0) hown hK hP 13 rfl rfl 1 (by decide) (va_Nw.use rfl (hN _ nw_12)) (fun _ h9 => h9) rfl z_d_count_41 ?_
    refine W.widen (k := 1) (n := 6) (Nat.le_of_ble_eq_true rfl) (Nat.le_of_ble_eq_true rfl) ?_
    exact vx_ret (W.iret (v := zkp v) hx hb hr (fun t ht hW => ⟨⟨zkp v, v, rfl, ⟨rfl, Or.inr ⟨rfl, Or.inr (Or.inl ⟨rfl, rfl⟩)⟩⟩, by rw [ht]; exact hP, va_K.moved hW.alike hK, hD⟩, hS.F ht⟩) hS.2.2 z_d_count_44)
  · refine lv_tableIn (tgt := 45) hx hb z_d_count_1 (by decide) (by decide) rfl (by decide) ?_
    refine lv_aload_n hx hb z_d_count_45 rfl (lv_at hl 0 rfl) ?_
    refine va_get (D := (dC, dI)) (ci := 3) (v := .ref (q 6)) (C := R3) (T := T3) (N := 6) hx hb hts (cw_sub iC3) hown hK hP 0 rfl rfl 2 (by decide) (hts _ (cw_in mw_94 rfl)) (fun _ h9 => h9) rfl z_d_count_46 ?_
    refine rdVNi (As := []) (rest := []) ⟨hx, hb, hml, hown, hts⟩ (c_s_madeInAll l dC dI q cI cZ cB v hi) mw_467 (hN _ nw_26) mw_466 mp_24 mw_3 yd_s_madeInAll ⟨⟨rfl, rfl⟩, Nat.le_of_ble_eq_true rfl, Nat.le_of_ble_eq_true rfl⟩ ⟨Nat.le_of_ble_eq_true rfl, Nat.le_of_ble_eq_true rfl⟩ (RdC.preV hP hK hN (ci := 1) (q0 := 6) rfl rfl) rfl hl.1 rfl (Nat.le_of_ble_eq_true rfl) z_d_count_49 (fun r_1 h_2 => ?_)
    subst h_2
    refine W.widen (k := 1) (n := 6) (Nat.le_of_ble_eq_true rfl) (Nat.le_of_ble_eq_true rfl) ?_
    exact vx_ret (W.iret (v := nI (mkS v 8)) hx hb hr (fun t ht hW => ⟨⟨nI (mkS v 8), v, rfl, ⟨rfl, Or.inr ⟨rfl, Or.inr (Or.inr (Or.inl ⟨rfl, rfl⟩))⟩⟩, by rw [ht]; exact hP, va_K.moved hW.alike hK, hD⟩, hS.F ht⟩) hS.2.2 z_d_count_52)
  · refine lv_tableIn (tgt := 53) hx hb z_d_count_1 (by decide) (by decide) rfl (by decide) ?_
    refine lv_aload_n hx hb z_d_count_53 rfl (lv_at hl 0 rfl) ?_
    refine va_get (D := (dC, dI)) (ci := 3) (v := .ref (q 6)) (C := R3) (T := T3) (N := 6) hx hb hts (cw_sub iC3) hown hK hP 0 rfl rfl 2 (by decide) (hts _ (cw_in mw_94 rfl)) (fun _ h9 => h9) rfl z_d_count_54 ?_
    refine rdVNi (As := []) (rest := []) ⟨hx, hb, hml, hown, hts⟩ (c_s_openInAll l dC dI q cI cZ cB v hi) mw_471 (hN _ nw_27) mw_470 mp_25 mw_3 yd_s_openInAll ⟨⟨rfl, rfl⟩, Nat.le_of_ble_eq_true rfl, Nat.le_of_ble_eq_true rfl⟩ ⟨Nat.le_of_ble_eq_true rfl, Nat.le_of_ble_eq_true rfl⟩ (RdC.preV hP hK hN (ci := 1) (q0 := 6) rfl rfl) rfl hl.1 rfl (Nat.le_of_ble_eq_true rfl) z_d_count_57 (fun r_3 h_4 => ?_)
    subst h_4
    refine W.widen (k := 1) (n := 6) (Nat.le_of_ble_eq_true rfl) (Nat.le_of_ble_eq_true rfl) ?_
    exact vx_ret (W.iret (v := nI (opS v 8)) hx hb hr (fun t ht hW => ⟨⟨nI (opS v 8), v, rfl, ⟨rfl, Or.inr ⟨rfl, Or.inr (Or.inr (Or.inr ⟨rfl, rfl⟩))⟩⟩, by rw [ht]; exact hP, va_K.moved hW.alike hK, hD⟩, hS.F ht⟩) hS.2.2 z_d_count_60)
  · refine lv_tableOut (tgt := 61) hx hb z_d_count_1 e9 (by decide) ?_
    obtain ⟨sa_5, hsa_5⟩ := hX.2.2.2 _ sr_195
    exact vx_throwS (own := "ServiceDesk") (cls := "java/lang/IllegalArgumentException") (names := ["java/lang/RuntimeException", "java/lang/Exception"]) hx hb hl0 hown (by decide +kernel) (by decide +kernel) (hts _ (cw_in mw_152 rfl)) (hts _ (cw_in mw_10 rfl)) hsa_5 (xw_0 hts hX.2.2.1) (List.forall_mem_cons.mpr ⟨rfl, List.forall_mem_cons.mpr ⟨rfl, xo_0⟩⟩) hX.1 hX.2.1 hS (hl.1.trans hml.symm) z_d_count_61 z_d_count_64 z_d_count_65 z_d_count_67 z_d_count_70 (fun x9 h9 => (hEx x9 h9).elim) (Nat.le_of_ble_eq_true rfl) (Nat.le_of_ble_eq_true rfl) (Nat.le_of_ble_eq_true rfl) (Nat.le_of_ble_eq_true rfl) hlocks (fun t hA0 hZ0 hK0 => ⟨(1, v), ⟨rfl, Or.inl ⟨rfl, h9⟩⟩, ⟨List.mem_of_getElem? (i := 0) rfl, hP.kept (fun k9 q9 hq9 => hK0 q9.1 (hP k9 q9 hq9).lt), va_K.moved hA0 hK, hD⟩, Nat.le_trans hS.1 hZ0, fun q9 h1 h2 => (hK0 q9 (Nat.lt_of_lt_of_le h1 hS.1)).trans (hS.2.1 q9 h1 h2)⟩) hS.2.2 (Nat.le_of_ble_eq_true rfl) (Nat.le_of_ble_eq_true rfl)
