set_option maxHeartbeats 4000000 in
set_option maxRecDepth 100000 in
theorem law_book {p : Program} {l : Launch} {e : Env} {s : State} {m : MethodId} {below : List Frame} {meth : Method} {c : Code} {b L : Nat} {xs : Nat → Int32} {dC : Nat → ClassId} {dI : Nat → Nat → Nat} {cI cZ cB cL9 mI mZ mL : ClassId} {q o : Nat → Nat} {a9 : Nat} {H : Heap} {locs : List Loc} {cells slots : Nat} {ls : Array Slot} (G : LwG p l s m meth c b L xs dC dI cI cZ cB cL9 mI mZ mL) {i : Nat} {v : St} {f : Nat → Int64} {th ch : Int32} {cd : Int64} (hi : Inv v) (hP : va_P (dC, dI) vwCl (lwW q o a9 cI cZ cB cL9 mI mZ mL v f th ch cd) H) (hD : va_D (lwA s) (lwW q o a9 cI cZ cB cL9 mI mZ mL v f th ch cd)) (hS : va_S (lwA s) s.heap H locs) (hl : lv_has ls 8 [(0, .ref b), (1, .ref (q 0)), (2, .ref (o 0)), (3, .ref a9), (4, .int (nI i))]) (hcap : cells + 1 ≤ room_1.cells ∧ slots + 6 ≤ room_1.slots) (hend : ∀ (v1 : St) (f1 : Nat → Int64) (th1 ch1 : Int32) (cd1 : Int64) (H1 : Heap) (locs1 : List Loc) (ls1 : Array Slot), Inv v1 → va_P (dC, dI) vwCl (lwW q o a9 cI cZ cB cL9 mI mZ mL v1 f1 th1 ch1 cd1) H1 → va_D (lwA s) (lwW q o a9 cI cZ cB cL9 mI mZ mL v1 f1 th1 ch1 cd1) → va_S (lwA s) s.heap H1 locs1 → lv_has ls1 8 [(0, .ref b), (1, .ref (q 0)), (2, .ref (o 0)), (3, .ref a9), (4, .int (nI i))] → W p l e room_1 s m #[Value.ref b] below meth c H1 locs1 (cells + 1) (slots + 6) (lw_Z below #[Value.ref b] s) (F0 m 1079 ls1 [])) : W p l e room_1 s m #[Value.ref b] below meth c H locs cells slots (lw_Z below #[Value.ref b] s) (F0 m 1066 ls []) := by
  obtain ⟨⟨hx, hb, hr, hml, hown, hts, hlocks⟩, ⟨hXs, hbl, hL⟩, hK, hKm, hN, hX, hNC, hl0⟩ := id G
  have hA : ∀ q9 : Nat, s.heap.size ≤ q9 → lwA s q9 := fun _ h => h
  refine W.widen (k := cells + 1) (n := slots + 6) (Nat.le_add_right _ _) (Nat.le_add_right _ _) ?_
  refine lv_aload_n hx hb z_L_law_1066 rfl (lv_at hl 1 rfl) ?_
  refine rdVi (As := []) (rest := []) ⟨hx, hb, hml, hown, hts⟩ (c_d_book l dC dI q cI cZ cB v hi) mw_114 mw_111 mw_112 mw_113 mw_1 rfl yd_d_book ⟨⟨rfl, rfl⟩, Nat.le_of_ble_eq_true rfl, Nat.le_of_ble_eq_true rfl⟩ hcap (RdC.preV (sp_l (sp_l hP)) (va_K.sub hK [0, 1, 2] rfl) hN (ci := 3) (q0 := 0) rfl rfl) rfl hl.1 rfl (Nat.le_of_ble_eq_true rfl) z_L_law_1067 (fun r3 h3 => ?_)
  subst h3
  refine lv_aload_n hx hb z_L_law_1070 rfl (lv_at hl 2 rfl) ?_
  refine lwMi (As := []) (rest := [.int (bookF v)]) (wc := wC q cI cZ cB v ++ [(a9, .inl (cL9, 1, .inr (.inl f)))]) (wm := wM o mI mZ mL v th ch cd) (wf := fun u : St × Int32 × Int32 × Int64 => wM o mI mZ mL u.1 u.2.1 u.2.2.1 u.2.2.2) ⟨hx, hb, hml, hown, hts⟩ (c_m_book l dC dI o mI mZ mL v th ch cd H.size hi) mw_646 mw_643 mw_644 mw_645 mw_6 rfl yd_m_book ⟨⟨rfl, rfl⟩, Nat.le_of_ble_eq_true rfl, Nat.le_of_ble_eq_true rfl⟩ hcap (WrC.preV (sp_r hP) hKm (sd_r hD) hN (ci := 4) (q0 := 0) rfl rfl) hP hD hS hA rfl hl.1 rfl (Nat.le_of_ble_eq_true rfl) z_L_law_1071 (fun r2 u2 H locs h8 hP hD hS => ?_)
  obtain ⟨rfl, rfl⟩ := h8
  refine lv_icmp_eq (tgt := 1079) hx hb z_L_law_1074 (by decide) (fun c_1074 => ?_) (fun c_1074 => False.elim (c_1074 rfl))
  exact hend v f _ _ _ _ _ ls hi hP hD hS (lv_sub hl [0, 1, 2, 3, 4] rfl)

set_option maxHeartbeats 4000000 in
set_option maxRecDepth 100000 in
theorem law_loop {p : Program} {l : Launch} {e : Env} {s : State} {m : MethodId} {below : List Frame} {meth : Method} {c : Code} {b L : Nat} {xs : Nat → Int32} {dC : Nat → ClassId} {dI : Nat → Nat → Nat} {cI cZ cB cL9 mI mZ mL : ClassId} {q o : Nat → Nat} {a9 : Nat} (G : LwG p l s m meth c b L xs dC dI cI cZ cB cL9 mI mZ mL) : ∀ (n j : Nat), 6 * j ≤ L → L - 6 * j < n → ∀ (v : St) (f : Nat → Int64) (th ch : Int32) (cd : Int64) (H : Heap) (locs : List Loc) (ls : Array Slot), Inv v → va_P (dC, dI) vwCl (lwW q o a9 cI cZ cB cL9 mI mZ mL v f th ch cd) H → va_D (lwA s) (lwW q o a9 cI cZ cB cL9 mI mZ mL v f th ch cd) → va_S (lwA s) s.heap H locs → lv_has ls 8 [(0, .ref b), (1, .ref (q 0)), (2, .ref (o 0)), (3, .ref a9), (4, .int (nI (6 * j)))] → W p l e room_1 s m #[Value.ref b] below meth c H locs (28 + j) (10851 + 6 * j) (lw_Z below #[Value.ref b] s) (F0 m 23 ls []) := by
  obtain ⟨⟨hx, hb, hr, hml, hown, hts, hlocks⟩, ⟨hXs, hbl, hL⟩, hK, hKm, hN, hX, hNC, hl0⟩ := id G
  have hA : ∀ q9 : Nat, s.heap.size ≤ q9 → lwA s q9 := fun _ h => h
  intro n
  induction n with
  | zero => intro j _ h; exact absurd h (Nat.not_lt_zero _)
  | succ n ih =>
    intro j hj hn v f th ch cd H locs ls hi hP hD hS hl
    have hl : lv_has ls 8 [(0, .ref b), (1, .ref (q 0)), (2, .ref (o 0)), (3, .ref a9), (4, .int (nI (6 * j)))] := hl
    refine lv_iload hx hb z_L_law_23 (lv_at hl 4 rfl) ?_
    refine lv_aload_n hx hb z_L_law_25 rfl (lv_at hl 0 rfl) ?_
    refine va_slen hx hb hXs hbl (Nat.not_le.mpr hbl) hS z_L_law_26 ?_
    refine W.eq (g2 := F0 m 27 ls [.int (nI L), .int (nI (6 * j))]) rfl ?_
    refine lv_bipush (v := 6) hx hb z_L_law_27 (by decide) ?_
    refine lv_isub hx hb z_L_law_29 ?_
    refine lv_icmp_gt (tgt := 1085) hx hb z_L_law_30 (by decide) (fun c_30 => ?_) (fun c_30 => ?_)
    · refine va_forget hS.2.2 ?_
      refine W.widen (k := 1074) (n := 19175) (by omega) (by omega) ?_
      refine lv_iconst (v := 1) hx hb z_L_law_1085 (by decide) ?_
      exact lw_ret hx hb hr hlocks z_L_law_1086
    · have h6 : 6 * j + 6 ≤ L := lw_go (by omega) hL c_30
      refine lv_aload_n hx hb z_L_law_33 rfl (lv_at hl 0 rfl) ?_
      refine lv_iload hx hb z_L_law_34 (lv_at hl 4 rfl) ?_
      refine va_sld hx hb hXs hbl (Nat.not_le.mpr hbl) hS (vp_in_nI (by omega) (by omega)) z_L_law_36 ?_
      refine lv_bipush (v := 15) hx hb z_L_law_37 (by decide) ?_
      refine lv_iand hx hb z_L_law_39 ?_
      obtain ⟨k, hk, ek⟩ := and15 (xs (nI (6 * j)).toNatClampNeg)
      refine W.eq (g2 := F0 m 40 ls [.int (nI k)]) (by rw [ek]) ?_
      have hcap : (28 + j) + 1 ≤ room_1.cells ∧ (10851 + 6 * j) + 6 ≤ room_1.slots := by
        show (28 + j) + 1 ≤ 1074 ∧ (10851 + 6 * j) + 6 ≤ 19175
        omega
      have hend : ∀ (v1 : St) (f1 : Nat → Int64) (th1 ch1 : Int32) (cd1 : Int64) (H1 : Heap) (locs1 : List Loc) (ls1 : Array Slot), Inv v1 → va_P (dC, dI) vwCl (lwW q o a9 cI cZ cB cL9 mI mZ mL v1 f1 th1 ch1 cd1) H1 → va_D (lwA s) (lwW q o a9 cI cZ cB cL9 mI mZ mL v1 f1 th1 ch1 cd1) → va_S (lwA s) s.heap H1 locs1 → lv_has ls1 8 [(0, .ref b), (1, .ref (q 0)), (2, .ref (o 0)), (3, .ref a9), (4, .int (nI (6 * j)))] → W p l e room_1 s m #[Value.ref b] below meth c H1 locs1 ((28 + j) + 1) ((10851 + 6 * j) + 6) (lw_Z below #[Value.ref b] s) (F0 m 1079 ls1 []) := by
        intro v1 f1 th1 ch1 cd1 H1 locs1 ls hi1 hP1 hD1 hS1 hl
        refine lv_iinc (v := nI (6 * (j + 1))) (lv' := [(4, .int (nI (6 * (j + 1)))), (0, .ref b), (1, .ref (q 0)), (2, .ref (o 0)), (3, .ref a9)]) hx hb z_L_law_1079 hl (k := 4) rfl (show nI (6 * j) + 6 = nI (6 * (j + 1)) from nI_add (6 * j) 6) (by decide) rfl (fun ls hl => ?_)
        refine lv_goto (tgt := 23) hx hb z_L_law_1082 (by decide) ?_
        exact ih (j + 1) (by omega) (by omega) v1 f1 th1 ch1 cd1 H1 locs1 ls hi1 hP1 hD1 hS1 (lv_sub hl [1, 2, 3, 4, 0] rfl)
      by_cases h13 : 13 ≤ k
      · refine lv_tableOut (tgt := 1079) hx hb z_L_law_40 (Or.inr (by rw [nI_toInt (by omega)]; omega)) (by decide) ?_
        refine W.widen (k := (28 + j) + 1) (n := (10851 + 6 * j) + 6) (Nat.le_add_right _ _) (Nat.le_add_right _ _) ?_
        exact hend v f th ch cd H locs ls hi hP hD hS (lv_sub hl [0, 1, 2, 3, 4] rfl)
      · rcases (show k = 0 ∨ k = 1 ∨ k = 2 ∨ k = 3 ∨ k = 4 ∨ k = 5 ∨ k = 6 ∨ k = 7 ∨ k = 8 ∨ k = 9 ∨ k = 10 ∨ k = 11 ∨ k = 12 by omega) with rfl | rfl | rfl | rfl | rfl | rfl | rfl | rfl | rfl | rfl | rfl | rfl | rfl
        · refine lv_tableIn (tgt := 108) (off := 68) hx hb z_L_law_40 (by decide) (by decide) (by decide) (by decide) ?_
          exact law_under G h6 hi hP hD hS (lv_sub hl [0, 1, 2, 3, 4] rfl) hcap hend
        · refine lv_tableIn (tgt := 156) (off := 116) hx hb z_L_law_40 (by decide) (by decide) (by decide) (by decide) ?_
          exact law_make G h6 hi hP hD hS (lv_sub hl [0, 1, 2, 3, 4] rfl) hcap hend
        · refine lv_tableIn (tgt := 224) (off := 184) hx hb z_L_law_40 (by decide) (by decide) (by decide) (by decide) ?_
          exact law_verb G h6 hi hP hD hS (lv_sub hl [0, 1, 2, 3, 4] rfl) hcap hend
        · refine lv_tableIn (tgt := 308) (off := 268) hx hb z_L_law_40 (by decide) (by decide) (by decide) (by decide) ?_
          exact law_call G h6 hi hP hD hS (lv_sub hl [0, 1, 2, 3, 4] rfl) hcap hend
        · refine lv_tableIn (tgt := 399) (off := 359) hx hb z_L_law_40 (by decide) (by decide) (by decide) (by decide) ?_
          exact law_simulate G h6 hi hP hD hS (lv_sub hl [0, 1, 2, 3, 4] rfl) hcap hend
        · refine lv_tableIn (tgt := 490) (off := 450) hx hb z_L_law_40 (by decide) (by decide) (by decide) (by decide) ?_
          exact law_text G h6 hi hP hD hS (lv_sub hl [0, 1, 2, 3, 4] rfl) hcap hend
        · refine lv_tableIn (tgt := 614) (off := 574) hx hb z_L_law_40 (by decide) (by decide) (by decide) (by decide) ?_
          exact law_textAt G h6 hi hP hD hS (lv_sub hl [0, 1, 2, 3, 4] rfl) hcap hend
        · refine lv_tableIn (tgt := 694) (off := 654) hx hb z_L_law_40 (by decide) (by decide) (by decide) (by decide) ?_
          exact law_find G h6 hi hP hD hS (lv_sub hl [0, 1, 2, 3, 4] rfl) hcap hend
        · refine lv_tableIn (tgt := 806) (off := 766) hx hb z_L_law_40 (by decide) (by decide) (by decide) (by decide) ?_
          exact law_subject G h6 hi hP hD hS (lv_sub hl [0, 1, 2, 3, 4] rfl) hcap hend
        · refine lv_tableIn (tgt := 886) (off := 846) hx hb z_L_law_40 (by decide) (by decide) (by decide) (by decide) ?_
          exact law_row G h6 hi hP hD hS (lv_sub hl [0, 1, 2, 3, 4] rfl) hcap hend
        · refine lv_tableIn (tgt := 954) (off := 914) hx hb z_L_law_40 (by decide) (by decide) (by decide) (by decide) ?_
          exact law_tick G h6 hi hP hD hS (lv_sub hl [0, 1, 2, 3, 4] rfl) hcap hend
        · refine lv_tableIn (tgt := 1010) (off := 970) hx hb z_L_law_40 (by decide) (by decide) (by decide) (by decide) ?_
          exact law_count G h6 hi hP hD hS (lv_sub hl [0, 1, 2, 3, 4] rfl) hcap hend
        · refine lv_tableIn (tgt := 1066) (off := 1026) hx hb z_L_law_40 (by decide) (by decide) (by decide) (by decide) ?_
          exact law_book G (i := 6 * j) hi hP hD hS (lv_sub hl [0, 1, 2, 3, 4] rfl) hcap hend
