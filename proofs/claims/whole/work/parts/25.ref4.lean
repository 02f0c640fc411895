set_option maxHeartbeats 4000000 in
set_option maxRecDepth 100000 in
theorem c_m_book (l : Launch) (dC : Nat → ClassId) (dI : Nat → Nat → Nat) (o : Nat → Nat) (cI cZ cL : ClassId) (v : St) (th ch : Int32) (cd : Int64) (sz : Nat) (hi : Inv v) : Met l y_m_book (Cond.code y_m_book b_m_book 6 (some .int) :: CW) { frames := 1, cells := 0, slots := 0, locals := 22 } (va_Pc [.ref (o 0)] (WrC (dC, dI) sz (wM o cI cZ cL v th ch cd) (tyM cI cZ cL))) (va_Qi (fun (r : Int32) (u : St × Int32 × Int32 × Int64) => r = bookF v ∧ u = (v, 0, ch, cd)) (fun u => WrB (dC, dI) (wM o cI cZ cL u.1 u.2.1 u.2.2.1 u.2.2.2) (tyM cI cZ cL) (va_A (wM o cI cZ cL v th ch cd) sz)) (va_A (wM o cI cZ cL v th ch cd) sz)) 0 0 (va_A (wM o cI cZ cL v th ch cd) sz) := by
  refine cx_met (by decide) (Nat.le_of_ble_eq_true rfl) ?_
  intro p e s m below meth c hx hb hr hml hts hown hlocks hnm hC ls hl
  obtain ⟨hsz, hP, hK, hD0, hN⟩ := hC
  subst hsz
  have hD := hD0.self (sz := s.heap.size)
  generalize hAe : va_A (wM o cI cZ cL v th ch cd) s.heap.size = A at hD ⊢
  have hA : ∀ q9 : Nat, s.heap.size ≤ q9 → A q9 := fun q9 h => by rw [← hAe]; exact Or.inr h
  have hS : va_S A s.heap s.heap [] := va_S.rf
  have hown : s.vm.findClass "ServiceDeskModel" = some m.cls := hown
  have hl : lv_has ls 6 [(0, .ref (o 0))] := hl
  refine lv_aload_n hx hb z_m_book_0 rfl (lv_at hl 0 rfl) ?_
  refine lv_iconst (v := 0) hx hb z_m_book_1 (by decide) ?_
  refine va_put (D := (dC, dI)) (ci := 4) (v := .int 0) (ty := .int) (C := R4) (T := T4) (N := 17) hx hb hts (cw_sub iC4) ty4 tyok4 nm4 hown hK hP hD hS 0 rfl rfl 0 (by decide) (hts _ (cw_in mw_480 rfl)) (fun _ h9 => h9) rfl (by decide +kernel) rfl rfl (Nat.le_of_ble_eq_true rfl) z_m_book_2 (fun H locs hP hD hS => ?_)
  have hP : va_P (dC, dI) vwCl (wM o cI cZ cL v 0 ch cd) H := hP
  have hD : va_D A (wM o cI cZ cL v 0 ch cd) := hD
  refine lv_iconst (v := 0) hx hb z_m_book_5 (by decide) ?_
  refine lv_aload_n hx hb z_m_book_6 rfl (lv_at hl 0 rfl) ?_
  refine va_get (D := (dC, dI)) (ci := 4) (v := .int (zck v)) (C := R4) (T := T4) (N := 17) hx hb hts (cw_sub iC4) hown hK hP 0 rfl rfl 12 (by decide) (hts _ (cw_in mw_492 rfl)) (fun _ h9 => h9) rfl z_m_book_7 ?_
  refine rdSi (As := [.int 0, .int (zck v)]) (rest := []) ⟨hx, hb, hml, hown, hts⟩ (c_m_with l 0 (zck v)) mw_649 mw_647 mw_648 mw_6 yd_m_with ⟨⟨rfl, rfl⟩, Nat.le_of_ble_eq_true rfl, Nat.le_of_ble_eq_true rfl⟩ ⟨Nat.zero_le _, Nat.zero_le _⟩ (pre_pure) rfl hl.1 rfl (Nat.le_of_ble_eq_true rfl) z_m_book_10 (fun r_1 h_2 => ?_)
  subst h_2
  refine lv_aload_n hx hb z_m_book_13 rfl (lv_at hl 0 rfl) ?_
  refine va_get (D := (dC, dI)) (ci := 4) (v := .int (ztn v)) (C := R4) (T := T4) (N := 17) hx hb hts (cw_sub iC4) hown hK hP 0 rfl rfl 11 (by decide) (hts _ (cw_in mw_491 rfl)) (fun _ h9 => h9) rfl z_m_book_14 ?_
  refine rdSi (As := [.int (stirF 0 (zck v)), .int (ztn v)]) (rest := []) ⟨hx, hb, hml, hown, hts⟩ (c_m_with l (stirF 0 (zck v)) (ztn v)) mw_649 mw_647 mw_648 mw_6 yd_m_with ⟨⟨rfl, rfl⟩, Nat.le_of_ble_eq_true rfl, Nat.le_of_ble_eq_true rfl⟩ ⟨Nat.zero_le _, Nat.zero_le _⟩ (pre_pure) rfl hl.1 rfl (Nat.le_of_ble_eq_true rfl) z_m_book_17 (fun r_3 h_4 => ?_)
  subst h_4
  refine lv_istore_n (lv' := [(1, .int (stirF (stirF 0 (zck v)) (ztn v))), (0, .ref (o 0))]) hx hb z_m_book_20 rfl hl (by decide) rfl (fun ls hl => ?_)
  refine lv_iconst (v := 0) hx hb z_m_book_21 (by decide) ?_
  refine lv_istore_n (lv' := [(2, .int 0), (1, .int (stirF (stirF 0 (zck v)) (ztn v))), (0, .ref (o 0))]) hx hb z_m_book_22 rfl hl (by decide) rfl (fun ls hl => ?_)
  refine rd_loopI (nL := 6) (8) (fun _ => True) (fun i => [(0, .ref (o 0)), (1, .int (sBk v i)), (2, .int (nI i))]) ?_ ls trivial (lv_sub hl [2, 1, 0] rfl)
  intro i ls hle hI hl ih
  have hl : lv_has ls 6 [(0, .ref (o 0)), (1, .int (sBk v i)), (2, .int (nI i))] := hl
  refine lv_iload_n hx hb z_m_book_23 rfl (lv_at hl 2 rfl) ?_
  refine lv_bipush (v := 8) hx hb z_m_book_24 (by decide) ?_
  refine lv_icmp_ge (tgt := 152) hx hb z_m_book_26 (by decide) (fun c_26 => ?_) (fun c_26 => ?_)
  · obtain rfl : i = 8 := eq_of_nle hle (by decide) c_26
    refine lv_iconst (v := 0) hx hb z_m_book_152 (by decide) ?_
    refine lv_istore_n (lv' := [(2, .int 0), (0, .ref (o 0)), (1, .int (sBk v 8))]) hx hb z_m_book_153 rfl hl (by decide) rfl (fun ls hl => ?_)
    refine rd_loopI (nL := 6) (kN v * 5) (fun _ => True) (fun n => [(0, .ref (o 0)), (1, .int (sRo v (sBk v 8) n)), (2, .int (nI n))]) ?_ ls trivial (lv_sub hl [1, 2, 0] rfl)
    intro n ls hle4 hI4 hl ih4
    have hl : lv_has ls 6 [(0, .ref (o 0)), (1, .int (sRo v (sBk v 8) n)), (2, .int (nI n))] := hl
    refine lv_iload_n hx hb z_m_book_154 rfl (lv_at hl 2 rfl) ?_
    refine lv_iconst (v := 5) hx hb z_m_book_155 (by decide) ?_
    refine lv_aload_n hx hb z_m_book_156 rfl (lv_at hl 0 rfl) ?_
    refine va_get (D := (dC, dI)) (ci := 4) (v := .int (zkp v)) (C := R4) (T := T4) (N := 17) hx hb hts (cw_sub iC4) hown hK hP 0 rfl rfl 13 (by decide) (hts _ (cw_in mw_493 rfl)) (fun _ h9 => h9) rfl z_m_book_157 ?_
    rw [hi.kp.2]
    refine lv_imul hx hb z_m_book_160 ?_
    rw [s5_0]
    refine lv_icmp_ge (tgt := 181) hx hb z_m_book_161 (by decide) (fun c_161 => ?_) (fun c_161 => ?_)
    · refine lv_iload_n hx hb z_m_book_181 rfl (lv_at hl 1 rfl) ?_
      exact W.iret (v := sRo v (sBk v 8) n) hx hb hr (fun t ht hW => ⟨⟨sRo v (sBk v 8) n, (v, 0, ch, cd), rfl, ⟨by rw [eq_of_nle hle4 (by have := hi.kp.1; omega) c_161, bookF], rfl⟩, by rw [ht]; exact hP, va_K.moved hW.alike hK, hD⟩, hS.F ht⟩) hS.2.2 z_m_book_182
    · have hlt4 : n < kN v * 5 := nlt_of (by have := hi.kp.1; omega) c_161
      have hL9 := hi.kp.1
      refine lv_iload_n hx hb z_m_book_164 rfl (lv_at hl 1 rfl) ?_
      refine lv_aload_n hx hb z_m_book_165 rfl (lv_at hl 0 rfl) ?_
      refine va_get (D := (dC, dI)) (ci := 4) (v := .ref (o 11)) (C := R4) (T := T4) (N := 17) hx hb hts (cw_sub iC4) hown hK hP 0 rfl rfl 14 (by decide) (hts _ (cw_in mw_494 rfl)) (fun _ h9 => h9) rfl z_m_book_166 ?_
      refine lv_iload_n hx hb z_m_book_169 rfl (lv_at hl 2 rfl) ?_
      refine xa_i hx hb hK hP 11 0 rfl rfl (k := n) (y := znu v n) (by omega) (by decide) (rfl) z_m_book_170 ?_
      refine rdSi (As := [.int (sRo v (sBk v 8) n), .int (znu v n)]) (rest := []) ⟨hx, hb, hml, hown, hts⟩ (c_m_with l (sRo v (sBk v 8) n) (znu v n)) mw_649 mw_647 mw_648 mw_6 yd_m_with ⟨⟨rfl, rfl⟩, Nat.le_of_ble_eq_true rfl, Nat.le_of_ble_eq_true rfl⟩ ⟨Nat.zero_le _, Nat.zero_le _⟩ (pre_pure) rfl hl.1 rfl (Nat.le_of_ble_eq_true rfl) z_m_book_171 (fun r_5 h_6 => ?_)
      subst h_6
      refine lv_istore_n (lv' := [(1, .int (stirF (sRo v (sBk v 8) n) (znu v n))), (0, .ref (o 0)), (2, .int (nI n))]) hx hb z_m_book_174 rfl hl (by decide) rfl (fun ls hl => ?_)
      refine lv_iinc (v := nI (n + 1)) (lv' := [(2, .int (nI (n + 1))), (1, .int (stirF (sRo v (sBk v 8) n) (znu v n))), (0, .ref (o 0))]) hx hb z_m_book_175 hl (k := 2) rfl (by exact nI_1 n) (by decide) rfl (fun ls hl => ?_)
      refine lv_goto (tgt := 154) hx hb z_m_book_178 (by decide) ?_
      exact ih4 ls hlt4 trivial (by show lv_has ls 6 [(0, .ref (o 0)), (1, .int (sRo v (sBk v 8) (n + 1))), (2, .int (nI (n + 1)))]; rw [sRo]; exact lv_sub hl [2, 1, 0] rfl)
  · have hlt : i < 8 := nlt_of (b := 8) (by omega) c_26
    have hM := (hi.mk i hlt).1
    refine lv_iload_n hx hb z_m_book_29 rfl (lv_at hl 1 rfl) ?_
    refine lv_aload_n hx hb z_m_book_30 rfl (lv_at hl 0 rfl) ?_
    refine va_get (D := (dC, dI)) (ci := 4) (v := .ref (o 1)) (C := R4) (T := T4) (N := 17) hx hb hts (cw_sub iC4) hown hK hP 0 rfl rfl 1 (by decide) (hts _ (cw_in mw_481 rfl)) (fun _ h9 => h9) rfl z_m_book_31 ?_
    refine lv_iload_n hx hb z_m_book_34 rfl (lv_at hl 2 rfl) ?_
    refine xa_i hx hb hK hP 1 0 rfl rfl (k := i) (y := zka v i) (hlt) (by decide) (rfl) z_m_book_35 ?_
    refine rdSi (As := [.int (sBk v i), .int (zka v i)]) (rest := []) ⟨hx, hb, hml, hown, hts⟩ (c_m_with l (sBk v i) (zka v i)) mw_649 mw_647 mw_648 mw_6 yd_m_with ⟨⟨rfl, rfl⟩, Nat.le_of_ble_eq_true rfl, Nat.le_of_ble_eq_true rfl⟩ ⟨Nat.zero_le _, Nat.zero_le _⟩ (pre_pure) rfl hl.1 rfl (Nat.le_of_ble_eq_true rfl) z_m_book_36 (fun r_7 h_8 => ?_)
    subst h_8
    refine lv_istore_n (lv' := [(1, .int (stirF (sBk v i) (zka v i))), (0, .ref (o 0)), (2, .int (nI i))]) hx hb z_m_book_39 rfl hl (by decide) rfl (fun ls hl => ?_)
    refine lv_iconst (v := 0) hx hb z_m_book_40 (by decide) ?_
    refine lv_istore_n (lv' := [(3, .int 0), (1, .int (stirF (sBk v i) (zka v i))), (0, .ref (o 0)), (2, .int (nI i))]) hx hb z_m_book_41 rfl hl (by decide) rfl (fun ls hl => ?_)
    refine rd_loopI (nL := 6) (mN v i) (fun _ => True) (fun j => [(0, .ref (o 0)), (1, .int (sKi v (stirF (sBk v i) (zka v i)) i j)), (2, .int (nI i)), (3, .int (nI j))]) ?_ ls trivial (lv_sub hl [2, 1, 3, 0] rfl)
    intro j ls hle2 hI2 hl ih2
    have hl : lv_has ls 6 [(0, .ref (o 0)), (1, .int (sKi v (stirF (sBk v i) (zka v i)) i j)), (2, .int (nI i)), (3, .int (nI j))] := hl
    refine lv_iload_n hx hb z_m_book_42 rfl (lv_at hl 3 rfl) ?_
    refine lv_aload_n hx hb z_m_book_43 rfl (lv_at hl 0 rfl) ?_
    refine va_get (D := (dC, dI)) (ci := 4) (v := .ref (o 2)) (C := R4) (T := T4) (N := 17) hx hb hts (cw_sub iC4) hown hK hP 0 rfl rfl 2 (by decide) (hts _ (cw_in mw_482 rfl)) (fun _ h9 => h9) rfl z_m_book_44 ?_
    refine lv_iload_n hx hb z_m_book_47 rfl (lv_at hl 2 rfl) ?_
    refine xa_i hx hb hK hP 2 0 rfl rfl (k := i) (y := nI (mN v i)) (hlt) (by decide) ((hi.mk i hlt).2) z_m_book_48 ?_
    refine lv_icmp_ge (tgt := 146) hx hb z_m_book_49 (by decide) (fun c_49 => ?_) (fun c_49 => ?_)
    · obtain rfl : j = mN v i := eq_of_nle hle2 (by omega) c_49
      refine lv_iinc (v := nI (i + 1)) (lv' := [(2, .int (nI (i + 1))), (0, .ref (o 0)), (1, .int (sKi v (stirF (sBk v i) (zka v i)) i (mN v i))), (3, .int (nI (mN v i)))]) hx hb z_m_book_146 hl (k := 2) rfl (by exact nI_1 i) (by decide) rfl (fun ls hl => ?_)
      refine lv_goto (tgt := 23) hx hb z_m_book_149 (by decide) ?_
      exact ih ls hlt trivial (by show lv_has ls 6 [(0, .ref (o 0)), (1, .int (sBk v (i + 1))), (2, .int (nI (i + 1)))]; rw [sBk]; exact lv_sub hl [1, 2, 0] rfl)
    · have hlt2 : j < mN v i := nlt_of (by omega) c_49
      have hL := (hi.ln (i * 30 + j) (by omega)).1
      refine lv_bipush (v := 30) hx hb z_m_book_52 (by decide) ?_
      refine lv_iload_n hx hb z_m_book_54 rfl (lv_at hl 2 rfl) ?_
      refine lv_imul hx hb z_m_book_55 ?_
      refine lv_iload_n hx hb z_m_book_56 rfl (lv_at hl 3 rfl) ?_
      refine lv_iadd hx hb z_m_book_57 ?_
      rw [s30_nI]
      refine lv_istore (lv' := [(4, .int (nI (i * 30 + j))), (0, .ref (o 0)), (1, .int (sKi v (stirF (sBk v i) (zka v i)) i j)), (2, .int (nI i)), (3, .int (nI j))]) hx hb z_m_book_58 hl (by decide) rfl (fun ls hl => ?_)
      refine lv_iload_n hx hb z_m_book_60 rfl (lv_at hl 2 rfl) ?_
      refine lv_aload_n hx hb z_m_book_61 rfl (lv_at hl 1 rfl) ?_
      refine va_get (D := (dC, dI)) (ci := 4) (v := .ref (o 3)) (C := R4) (T := T4) (N := 17) hx hb hts (cw_sub iC4) hown hK hP 0 rfl rfl 3 (by decide) (hts _ (cw_in mw_483 rfl)) (fun _ h9 => h9) rfl z_m_book_62 ?_
      refine lv_iload hx hb z_m_book_65 (lv_at hl 0 rfl) ?_
      refine xa_i hx hb hK hP 3 0 rfl rfl (k := (i * 30 + j)) (y := zab v (i * 30 + j)) (by omega) (by decide) (rfl) z_m_book_67 ?_
      refine rdSi (As := [.int (sKi v (stirF (sBk v i) (zka v i)) i j), .int (zab v (i * 30 + j))]) (rest := []) ⟨hx, hb, hml, hown, hts⟩ (c_m_with l (sKi v (stirF (sBk v i) (zka v i)) i j) (zab v (i * 30 + j))) mw_649 mw_647 mw_648 mw_6 yd_m_with ⟨⟨rfl, rfl⟩, Nat.le_of_ble_eq_true rfl, Nat.le_of_ble_eq_true rfl⟩ ⟨Nat.zero_le _, Nat.zero_le _⟩ (pre_pure) rfl hl.1 rfl (Nat.le_of_ble_eq_true rfl) z_m_book_68 (fun r_9 h_10 => ?_)
      subst h_10
      refine lv_aload_n hx hb z_m_book_71 rfl (lv_at hl 1 rfl) ?_
      refine va_get (D := (dC, dI)) (ci := 4) (v := .ref (o 4)) (C := R4) (T := T4) (N := 17) hx hb hts (cw_sub iC4) hown hK hP 0 rfl rfl 4 (by decide) (hts _ (cw_in mw_484 rfl)) (fun _ h9 => h9) rfl z_m_book_72 ?_
      refine lv_iload hx hb z_m_book_75 (lv_at hl 0 rfl) ?_
      refine xa_z hx hb hK hP 4 1 rfl rfl (k := (i * 30 + j)) (y := zop v (i * 30 + j)) (by omega) (by decide) (rfl) z_m_book_77 ?_
      refine lv_if_eq (tgt := 85) hx hb z_m_book_78 (by decide) (fun c_78 => ?_) (fun c_78 => ?_)
      · refine lv_iconst (v := 0) hx hb z_m_book_85 (by decide) ?_
        refine rdSi (As := [.int (stirF (sKi v (stirF (sBk v i) (zka v i)) i j) (zab v (i * 30 + j))), .int 0]) (rest := []) ⟨hx, hb, hml, hown, hts⟩ (c_m_with l (stirF (sKi v (stirF (sBk v i) (zka v i)) i j) (zab v (i * 30 + j))) 0) mw_649 mw_647 mw_648 mw_6 yd_m_with ⟨⟨rfl, rfl⟩, Nat.le_of_ble_eq_true rfl, Nat.le_of_ble_eq_true rfl⟩ ⟨Nat.zero_le _, Nat.zero_le _⟩ (pre_pure) rfl hl.1 rfl (Nat.le_of_ble_eq_true rfl) z_m_book_86 (fun r_11 h_12 => ?_)
        subst h_12
        refine lv_aload_n hx hb z_m_book_89 rfl (lv_at hl 1 rfl) ?_
        refine va_get (D := (dC, dI)) (ci := 4) (v := .ref (o 5)) (C := R4) (T := T4) (N := 17) hx hb hts (cw_sub iC4) hown hK hP 0 rfl rfl 5 (by decide) (hts _ (cw_in mw_485 rfl)) (fun _ h9 => h9) rfl z_m_book_90 ?_
        refine lv_iload hx hb z_m_book_93 (lv_at hl 0 rfl) ?_
        refine xa_l hx hb hK hP 5 2 rfl rfl (k := (i * 30 + j)) (y := (zsm v (i * 30 + j)).toInt64) (by omega) (by decide) (rfl) z_m_book_95 ?_
        refine lv_l2i hx hb z_m_book_96 rfl ?_
        rw [i32_64]
        refine rdSi (As := [.int (stirF (stirF (sKi v (stirF (sBk v i) (zka v i)) i j) (zab v (i * 30 + j))) 0), .int (zsm v (i * 30 + j))]) (rest := []) ⟨hx, hb, hml, hown, hts⟩ (c_m_with l (stirF (stirF (sKi v (stirF (sBk v i) (zka v i)) i j) (zab v (i * 30 + j))) 0) (zsm v (i * 30 + j))) mw_649 mw_647 mw_648 mw_6 yd_m_with ⟨⟨rfl, rfl⟩, Nat.le_of_ble_eq_true rfl, Nat.le_of_ble_eq_true rfl⟩ ⟨Nat.zero_le _, Nat.zero_le _⟩ (pre_pure) rfl hl.1 rfl (Nat.le_of_ble_eq_true rfl) z_m_book_97 (fun r_13 h_14 => ?_)
        subst h_14
        refine lv_istore_n (lv' := [(1, .int (stirF (stirF (stirF (sKi v (stirF (sBk v i) (zka v i)) i j) (zab v (i * 30 + j))) 0) (zsm v (i * 30 + j)))), (4, .int (nI (i * 30 + j))), (0, .ref (o 0)), (2, .int (nI i)), (3, .int (nI j))]) hx hb z_m_book_100 rfl hl (by decide) rfl (fun ls hl => ?_)
        refine lv_iconst (v := 0) hx hb z_m_book_101 (by decide) ?_
        refine lv_istore (lv' := [(5, .int 0), (1, .int (stirF (stirF (stirF (sKi v (stirF (sBk v i) (zka v i)) i j) (zab v (i * 30 + j))) 0) (zsm v (i * 30 + j)))), (4, .int (nI (i * 30 + j))), (0, .ref (o 0)), (2, .int (nI i)), (3, .int (nI j))]) hx hb z_m_book_102 hl (by decide) rfl (fun ls hl => ?_)
        refine rd_loopI (nL := 6) (lN9 v (i * 30 + j)) (fun _ => True) (fun t => [(0, .ref (o 0)), (1, .int (txS v (i * 30 + j) (stirF (stirF (stirF (sKi v (stirF (sBk v i) (zka v i)) i j) (zab v (i * 30 + j))) 0) (zsm v (i * 30 + j))) t)), (2, .int (nI i)), (3, .int (nI j)), (4, .int (nI (i * 30 + j))), (5, .int (nI t))]) ?_ ls trivial (lv_sub hl [3, 1, 4, 5, 2, 0] rfl)
        intro t ls hle3 hI3 hl ih3
        have hl : lv_has ls 6 [(0, .ref (o 0)), (1, .int (txS v (i * 30 + j) (stirF (stirF (stirF (sKi v (stirF (sBk v i) (zka v i)) i j) (zab v (i * 30 + j))) 0) (zsm v (i * 30 + j))) t)), (2, .int (nI i)), (3, .int (nI j)), (4, .int (nI (i * 30 + j))), (5, .int (nI t))] := hl
        refine lv_iload hx hb z_m_book_104 (lv_at hl 5 rfl) ?_
        refine lv_aload_n hx hb z_m_book_106 rfl (lv_at hl 0 rfl) ?_
        refine va_get (D := (dC, dI)) (ci := 4) (v := .ref (o 6)) (C := R4) (T := T4) (N := 17) hx hb hts (cw_sub iC4) hown hK hP 0 rfl rfl 6 (by decide) (hts _ (cw_in mw_486 rfl)) (fun _ h9 => h9) rfl z_m_book_107 ?_
        refine lv_iload hx hb z_m_book_110 (lv_at hl 4 rfl) ?_
        refine xa_i hx hb hK hP 6 0 rfl rfl (k := (i * 30 + j)) (y := nI (lN9 v (i * 30 + j))) (by omega) (by decide) ((hi.ln (i * 30 + j) (by omega)).2) z_m_book_112 ?_
        refine lv_icmp_ge (tgt := 140) hx hb z_m_book_113 (by decide) (fun c_113 => ?_) (fun c_113 => ?_)
        · obtain rfl : t = lN9 v (i * 30 + j) := eq_of_nle hle3 (by omega) c_113
          refine lv_iinc (v := nI (j + 1)) (lv' := [(3, .int (nI (j + 1))), (0, .ref (o 0)), (1, .int (txS v (i * 30 + j) (stirF (stirF (stirF (sKi v (stirF (sBk v i) (zka v i)) i j) (zab v (i * 30 + j))) 0) (zsm v (i * 30 + j))) (lN9 v (i * 30 + j)))), (2, .int (nI i)), (4, .int (nI (i * 30 + j))), (5, .int (nI (lN9 v (i * 30 + j))))]) hx hb z_m_book_140 hl (k := 3) rfl (by exact nI_1 j) (by decide) rfl (fun ls hl => ?_)
          refine lv_goto (tgt := 42) hx hb z_m_book_143 (by decide) ?_
          exact ih2 ls hlt2 trivial (by show lv_has ls 6 [(0, .ref (o 0)), (1, .int (sKi v (stirF (sBk v i) (zka v i)) i (j + 1))), (2, .int (nI i)), (3, .int (nI (j + 1)))]; rw [sKi, sOne, if_pos c_78]; exact lv_sub hl [1, 2, 3, 0] rfl)
        · have hlt3 : t < lN9 v (i * 30 + j) := nlt_of (by omega) c_113
          refine lv_iload_n hx hb z_m_book_116 rfl (lv_at hl 1 rfl) ?_
          refine lv_aload_n hx hb z_m_book_117 rfl (lv_at hl 0 rfl) ?_
          refine va_get (D := (dC, dI)) (ci := 4) (v := .ref (o 7)) (C := R4) (T := T4) (N := 17) hx hb hts (cw_sub iC4) hown hK hP 0 rfl rfl 7 (by decide) (hts _ (cw_in mw_487 rfl)) (fun _ h9 => h9) rfl z_m_book_118 ?_
          refine lv_bipush (v := 16) hx hb z_m_book_121 (by decide) ?_
          refine lv_iload hx hb z_m_book_123 (lv_at hl 4 rfl) ?_
          refine lv_imul hx hb z_m_book_125 ?_
          refine lv_iload hx hb z_m_book_126 (lv_at hl 5 rfl) ?_
          refine lv_iadd hx hb z_m_book_128 ?_
          rw [s16_nI]
          refine xa_i hx hb hK hP 7 0 rfl rfl (k := ((i * 30 + j) * 16 + t)) (y := ztx v ((i * 30 + j) * 16 + t) &&& 255) (by omega) (by decide) (rfl) z_m_book_129 ?_
          refine rdSi (As := [.int (txS v (i * 30 + j) (stirF (stirF (stirF (sKi v (stirF (sBk v i) (zka v i)) i j) (zab v (i * 30 + j))) 0) (zsm v (i * 30 + j))) t), .int (ztx v ((i * 30 + j) * 16 + t) &&& 255)]) (rest := []) ⟨hx, hb, hml, hown, hts⟩ (c_m_with l (txS v (i * 30 + j) (stirF (stirF (stirF (sKi v (stirF (sBk v i) (zka v i)) i j) (zab v (i * 30 + j))) 0) (zsm v (i * 30 + j))) t) (ztx v ((i * 30 + j) * 16 + t) &&& 255)) mw_649 mw_647 mw_648 mw_6 yd_m_with ⟨⟨rfl, rfl⟩, Nat.le_of_ble_eq_true rfl, Nat.le_of_ble_eq_true rfl⟩ ⟨Nat.zero_le _, Nat.zero_le _⟩ (pre_pure) rfl hl.1 rfl (Nat.le_of_ble_eq_true rfl) z_m_book_130 (fun r_15 h_16 => ?_)
          subst h_16
          refine lv_istore_n (lv' := [(1, .int (stirF (txS v (i * 30 + j) (stirF (stirF (stirF (sKi v (stirF (sBk v i) (zka v i)) i j) (zab v (i * 30 + j))) 0) (zsm v (i * 30 + j))) t) (ztx v ((i * 30 + j) * 16 + t) &&& 255))), (0, .ref (o 0)), (2, .int (nI i)), (3, .int (nI j)), (4, .int (nI (i * 30 + j))), (5, .int (nI t))]) hx hb z_m_book_133 rfl hl (by decide) rfl (fun ls hl => ?_)
          refine lv_iinc (v := nI (t + 1)) (lv' := [(5, .int (nI (t + 1))), (1, .int (stirF (txS v (i * 30 + j) (stirF (stirF (stirF (sKi v (stirF (sBk v i) (zka v i)) i j) (zab v (i * 30 + j))) 0) (zsm v (i * 30 + j))) t) (ztx v ((i * 30 + j) * 16 + t) &&& 255))), (0, .ref (o 0)), (2, .int (nI i)), (3, .int (nI j)), (4, .int (nI (i * 30 + j)))]) hx hb z_m_book_134 hl (k := 5) rfl (by exact nI_1 t) (by decide) rfl (fun ls hl => ?_)
          refine lv_goto (tgt := 104) hx hb z_m_book_137 (by decide) ?_
          exact ih3 ls hlt3 trivial (by show lv_has ls 6 [(0, .ref (o 0)), (1, .int (txS v (i * 30 + j) (stirF (stirF (stirF (sKi v (stirF (sBk v i) (zka v i)) i j) (zab v (i * 30 + j))) 0) (zsm v (i * 30 + j))) (t + 1))), (2, .int (nI i)), (3, .int (nI j)), (4, .int (nI (i * 30 + j))), (5, .int (nI (t + 1)))]; rw [txS]; exact lv_sub hl [2, 1, 3, 4, 5, 0] rfl)
      · refine lv_iconst (v := 1) hx hb z_m_book_81 (by decide) ?_
        refine lv_goto (tgt := 86) hx hb z_m_book_82 (by decide) ?_
        refine rdSi (As := [.int (stirF (sKi v (stirF (sBk v i) (zka v i)) i j) (zab v (i * 30 + j))), .int 1]) (rest := []) ⟨hx, hb, hml, hown, hts⟩ (c_m_with l (stirF (sKi v (stirF (sBk v i) (zka v i)) i j) (zab v (i * 30 + j))) 1) mw_649 mw_647 mw_648 mw_6 yd_m_with ⟨⟨rfl, rfl⟩, Nat.le_of_ble_eq_true rfl, Nat.le_of_ble_eq_true rfl⟩ ⟨Nat.zero_le _, Nat.zero_le _⟩ (pre_pure) rfl hl.1 rfl (Nat.le_of_ble_eq_true rfl) z_m_book_86 (fun r_17 h_18 => ?_)
        subst h_18
        refine lv_aload_n hx hb z_m_book_89 rfl (lv_at hl 1 rfl) ?_
        refine va_get (D := (dC, dI)) (ci := 4) (v := .ref (o 5)) (C := R4) (T := T4) (N := 17) hx hb hts (cw_sub iC4) hown hK hP 0 rfl rfl 5 (by decide) (hts _ (cw_in mw_485 rfl)) (fun _ h9 => h9) rfl z_m_book_90 ?_
        refine lv_iload hx hb z_m_book_93 (lv_at hl 0 rfl) ?_
        refine xa_l hx hb hK hP 5 2 rfl rfl (k := (i * 30 + j)) (y := (zsm v (i * 30 + j)).toInt64) (by omega) (by decide) (rfl) z_m_book_95 ?_
        refine lv_l2i hx hb z_m_book_96 rfl ?_
        rw [i32_64]
        refine rdSi (As := [.int (stirF (stirF (sKi v (stirF (sBk v i) (zka v i)) i j) (zab v (i * 30 + j))) 1), .int (zsm v (i * 30 + j))]) (rest := []) ⟨hx, hb, hml, hown, hts⟩ (c_m_with l (stirF (stirF (sKi v (stirF (sBk v i) (zka v i)) i j) (zab v (i * 30 + j))) 1) (zsm v (i * 30 + j))) mw_649 mw_647 mw_648 mw_6 yd_m_with ⟨⟨rfl, rfl⟩, Nat.le_of_ble_eq_true rfl, Nat.le_of_ble_eq_true rfl⟩ ⟨Nat.zero_le _, Nat.zero_le _⟩ (pre_pure) rfl hl.1 rfl (Nat.le_of_ble_eq_true rfl) z_m_book_97 (fun r_19 h_20 => ?_)
        subst h_20
        refine lv_istore_n (lv' := [(1, .int (stirF (stirF (stirF (sKi v (stirF (sBk v i) (zka v i)) i j) (zab v (i * 30 + j))) 1) (zsm v (i * 30 + j)))), (4, .int (nI (i * 30 + j))), (0, .ref (o 0)), (2, .int (nI i)), (3, .int (nI j))]) hx hb z_m_book_100 rfl hl (by decide) rfl (fun ls hl => ?_)
        refine lv_iconst (v := 0) hx hb z_m_book_101 (by decide) ?_
        refine lv_istore (lv' := [(5, .int 0), (1, .int (stirF (stirF (stirF (sKi v (stirF (sBk v i) (zka v i)) i j) (zab v (i * 30 + j))) 1) (zsm v (i * 30 + j)))), (4, .int (nI (i * 30 + j))), (0, .ref (o 0)), (2, .int (nI i)), (3, .int (nI j))]) hx hb z_m_book_102 hl (by decide) rfl (fun ls hl => ?_)
        refine rd_loopI (nL := 6) (lN9 v (i * 30 + j)) (fun _ => True) (fun t => [(0, .ref (o 0)), (1, .int (txS v (i * 30 + j) (stirF (stirF (stirF (sKi v (stirF (sBk v i) (zka v i)) i j) (zab v (i * 30 + j))) 1) (zsm v (i * 30 + j))) t)), (2, .int (nI i)), (3, .int (nI j)), (4, .int (nI (i * 30 + j))), (5, .int (nI t))]) ?_ ls trivial (lv_sub hl [3, 1, 4, 5, 2, 0] rfl)
        intro t ls hle3 hI3 hl ih3
        have hl : lv_has ls 6 [(0, .ref (o 0)), (1, .int (txS v (i * 30 + j) (stirF (stirF (stirF (sKi v (stirF (sBk v i) (zka v i)) i j) (zab v (i * 30 + j))) 1) (zsm v (i * 30 + j))) t)), (2, .int (nI i)), (3, .int (nI j)), (4, .int (nI (i * 30 + j))), (5, .int (nI t))] := hl
        refine lv_iload hx hb z_m_book_104 (lv_at hl 5 rfl) ?_
        refine lv_aload_n hx hb z_m_book_106 rfl (lv_at hl 0 rfl) ?_
        refine va_get (D := (dC, dI)) (ci := 4) (v := .ref (o 6)) (C := R4) (T := T4) (N := 17) hx hb hts (cw_sub iC4) hown hK hP 0 rfl rfl 6 (by decide) (hts _ (cw_in mw_486 rfl)) (fun _ h9 => h9) rfl z_m_book_107 ?_
        refine lv_iload hx hb z_m_book_110 (lv_at hl 4 rfl) ?_
        refine xa_i hx hb hK hP 6 0 rfl rfl (k := (i * 30 + j)) (y := nI (lN9 v (i * 30 + j))) (by omega) (by decide) ((hi.ln (i * 30 + j) (by omega)).2) z_m_book_112 ?_
        refine lv_icmp_ge (tgt := 140) hx hb z_m_book_113 (by decide) (fun c_113 => ?_) (fun c_113 => ?_)
        · obtain rfl : t = lN9 v (i * 30 + j) := eq_of_nle hle3 (by omega) c_113
          refine lv_iinc (v := nI (j + 1)) (lv' := [(3, .int (nI (j + 1))), (0, .ref (o 0)), (1, .int (txS v (i * 30 + j) (stirF (stirF (stirF (sKi v (stirF (sBk v i) (zka v i)) i j) (zab v (i * 30 + j))) 1) (zsm v (i * 30 + j))) (lN9 v (i * 30 + j)))), (2, .int (nI i)), (4, .int (nI (i * 30 + j))), (5, .int (nI (lN9 v (i * 30 + j))))]) hx hb z_m_book_140 hl (k := 3) rfl (by exact nI_1 j) (by decide) rfl (fun ls hl => ?_)
          refine lv_goto (tgt := 42) hx hb z_m_book_143 (by decide) ?_
          exact ih2 ls hlt2 trivial (by show lv_has ls 6 [(0, .ref (o 0)), (1, .int (sKi v (stirF (sBk v i) (zka v i)) i (j + 1))), (2, .int (nI i)), (3, .int (nI (j + 1)))]; rw [sKi, sOne, if_neg c_78]; exact lv_sub hl [1, 2, 3, 0] rfl)
        · have hlt3 : t < lN9 v (i * 30 + j) := nlt_of (by omega) c_113
          refine lv_iload_n hx hb z_m_book_116 rfl (lv_at hl 1 rfl) ?_
          refine lv_aload_n hx hb z_m_book_117 rfl (lv_at hl 0 rfl) ?_
          refine va_get (D := (dC, dI)) (ci := 4) (v := .ref (o 7)) (C := R4) (T := T4) (N := 17) hx hb hts (cw_sub iC4) hown hK hP 0 rfl rfl 7 (by decide) (hts _ (cw_in mw_487 rfl)) (fun _ h9 => h9) rfl z_m_book_118 ?_
          refine lv_bipush (v := 16) hx hb z_m_book_121 (by decide) ?_
          refine lv_iload hx hb z_m_book_123 (lv_at hl 4 rfl) ?_
          refine lv_imul hx hb z_m_book_125 ?_
          refine lv_iload hx hb z_m_book_126 (lv_at hl 5 rfl) ?_
          refine lv_iadd hx hb z_m_book_128 ?_
          rw [s16_nI]
          refine xa_i hx hb hK hP 7 0 rfl rfl (k := ((i * 30 + j) * 16 + t)) (y := ztx v ((i * 30 + j) * 16 + t) &&& 255) (by omega) (by decide) (rfl) z_m_book_129 ?_
          refine rdSi (As := [.int (txS v (i * 30 + j) (stirF (stirF (stirF (sKi v (stirF (sBk v i) (zka v i)) i j) (zab v (i * 30 + j))) 1) (zsm v (i * 30 + j))) t), .int (ztx v ((i * 30 + j) * 16 + t) &&& 255)]) (rest := []) ⟨hx, hb, hml, hown, hts⟩ (c_m_with l (txS v (i * 30 + j) (stirF (stirF (stirF (sKi v (stirF (sBk v i) (zka v i)) i j) (zab v (i * 30 + j))) 1) (zsm v (i * 30 + j))) t) (ztx v ((i * 30 + j) * 16 + t) &&& 255)) mw_649 mw_647 mw_648 mw_6 yd_m_with ⟨⟨rfl, rfl⟩, Nat.le_of_ble_eq_true rfl, Nat.le_of_ble_eq_true rfl⟩ ⟨Nat.zero_le _, Nat.zero_le _⟩ (pre_pure) rfl hl.1 rfl (Nat.le_of_ble_eq_true rfl) z_m_book_130 (fun r_21 h_22 => ?_)
          subst h_22
          refine lv_istore_n (lv' := [(1, .int (stirF (txS v (i * 30 + j) (stirF (stirF (stirF (sKi v (stirF (sBk v i) (zka v i)) i j) (zab v (i * 30 + j))) 1) (zsm v (i * 30 + j))) t) (ztx v ((i * 30 + j) * 16 + t) &&& 255))), (0, .ref (o 0)), (2, .int (nI i)), (3, .int (nI j)), (4, .int (nI (i * 30 + j))), (5, .int (nI t))]) hx hb z_m_book_133 rfl hl (by decide) rfl (fun ls hl => ?_)
          refine lv_iinc (v := nI (t + 1)) (lv' := [(5, .int (nI (t + 1))), (1, .int (stirF (txS v (i * 30 + j) (stirF (stirF (stirF (sKi v (stirF (sBk v i) (zka v i)) i j) (zab v (i * 30 + j))) 1) (zsm v (i * 30 + j))) t) (ztx v ((i * 30 + j) * 16 + t) &&& 255))), (0, .ref (o 0)), (2, .int (nI i)), (3, .int (nI j)), (4, .int (nI (i * 30 + j)))]) hx hb z_m_book_134 hl (k := 5) rfl (by exact nI_1 t) (by decide) rfl (fun ls hl => ?_)
          refine lv_goto (tgt := 104) hx hb z_m_book_137 (by decide) ?_
          exact ih3 ls hlt3 trivial (by show lv_has ls 6 [(0, .ref (o 0)), (1, .int (txS v (i * 30 + j) (stirF (stirF (stirF (sKi v (stirF (sBk v i) (zka v i)) i j) (zab v (i * 30 + j))) 1) (zsm v (i * 30 + j))) (t + 1))), (2, .int (nI i)), (3, .int (nI j)), (4, .int (nI (i * 30 + j))), (5, .int (nI (t + 1)))]; rw [txS]; exact lv_sub hl [2, 1, 3, 4, 5, 0] rfl)

set_option maxHeartbeats 4000000 in
set_option maxRecDepth 100000 in
theorem c_m_find (l : Launch) (dC : Nat → ClassId) (dI : Nat → Nat → Nat) (o : Nat → Nat) (cI cZ cL : ClassId) (v : St) (th ch : Int32) (cd : Int64) (sz : Nat) (hi : Inv v) (x : Int32) (p0 : Int64) (n0 : Int32) : Met l y_m_find (Cond.code y_m_find b_m_find 9 (some .int) :: CW) { frames := 2, cells := 0, slots := 0, locals := 45 } (va_Pc [.ref (o 0), .int x, .long p0, .int n0] (WrC (dC, dI) sz (wM o cI cZ cL v th ch cd) (tyM cI cZ cL))) (va_Qi (fun (r : Int32) (u : St × Int32 × Int32 × Int64) => ∃ c9 : Nat, u.2.1 = nI c9 ∧ spFind v x p0 n0 c9 r u.1) (fun u => WrB (dC, dI) (wM o cI cZ cL u.1 u.2.1 u.2.2.1 u.2.2.2) (tyM cI cZ cL) (va_A (wM o cI cZ cL v th ch cd) sz)) (va_A (wM o cI cZ cL v th ch cd) sz)) 0 0 (va_A (wM o cI cZ cL v th ch cd) sz) := by
  refine cx_met (by decide) (Nat.le_of_ble_eq_true rfl) ?_
  intro p e s m below meth c hx hb hr hml hts hown hlocks hnm hC ls hl
  obtain ⟨hsz, hP, hK, hD0, hN⟩ := hC
  subst hsz
  have hD := hD0.self (sz := s.heap.size)
  generalize hAe : va_A (wM o cI cZ cL v th ch cd) s.heap.size = A at hD ⊢
  have hA : ∀ q9 : Nat, s.heap.size ≤ q9 → A q9 := fun q9 h => by rw [← hAe]; exact Or.inr h
  have hS : va_S A s.heap s.heap [] := va_S.rf
  have hown : s.vm.findClass "ServiceDeskModel" = some m.cls := hown
  have hl : lv_has ls 9 [(0, .ref (o 0)), (1, .int x), (2, .long p0), (4, .int n0)] := hl
  refine lv_aload_n hx hb z_m_find_0 rfl (lv_at hl 0 rfl) ?_
  refine lv_iload_n hx hb z_m_find_1 rfl (lv_at hl 1 rfl) ?_
  refine rdSi (As := [.int x]) (rest := [.ref (o 0)]) ⟨hx, hb, hml, hown, hts⟩ (c_m_isKind l x) mw_543 mw_541 mw_542 mw_6 yd_m_isKind ⟨⟨rfl, rfl⟩, Nat.le_of_ble_eq_true rfl, Nat.le_of_ble_eq_true rfl⟩ ⟨Nat.zero_le _, Nat.zero_le _⟩ (pre_pure) rfl hl.1 rfl (Nat.le_of_ble_eq_true rfl) z_m_find_2 (fun r_1 h_2 => ?_)
  rcases h_2 with ⟨rfl, h_2⟩ | ⟨rfl, h_2⟩
  · obtain ⟨k, hk, rfl⟩ := h_2
    refine lv_if_ne (tgt := 12) hx hb z_m_find_5 (by decide) (fun _ => ?_) (fun c9 => absurd c9 (by decide))
    refine lv_iconst (v := 0) hx hb z_m_find_12 (by decide) ?_
    refine lv_iload hx hb z_m_find_13 (lv_at hl 3 rfl) ?_
    refine lv_iconst (v := 0) hx hb z_m_find_15 (by decide) ?_
    refine lv_bipush (v := 8) hx hb z_m_find_16 (by decide) ?_
    refine rdSi (As := [.int n0, .int 0, .int 8]) (rest := [.int 0, .ref (o 0)]) ⟨hx, hb, hml, hown, hts⟩ (c_m_in l n0 0 8) mw_546 mw_544 mw_545 mw_6 yd_m_in ⟨⟨rfl, rfl⟩, Nat.le_of_ble_eq_true rfl, Nat.le_of_ble_eq_true rfl⟩ ⟨Nat.zero_le _, Nat.zero_le _⟩ (pre_pure) rfl hl.1 rfl (Nat.le_of_ble_eq_true rfl) z_m_find_18 (fun r_3 h_4 => ?_)
    rcases h_4 with ⟨rfl, h_4⟩ | ⟨rfl, h_4⟩
    · refine lv_if_ne (tgt := 28) hx hb z_m_find_21 (by decide) (fun _ => ?_) (fun c9 => absurd c9 (by decide))
      refine lv_iconst (v := 0) hx hb z_m_find_28 (by decide) ?_
      refine lv_iconst (v := 0) hx hb z_m_find_29 (by decide) ?_
      refine lv_iconst (v := 0) hx hb z_m_find_30 (by decide) ?_
      refine wrVi (As := [.int 0, .int 0, .int 0, .int 0]) (rest := []) (wf := fun u : St × Int32 × Int32 × Int64 => wM o cI cZ cL u.1 u.2.1 u.2.2.1 u.2.2.2) ⟨hx, hb, hml, hown, hts⟩ (c_m_throwing l dC dI o cI cZ cL v th ch cd s.heap.size 0 0 0 0) mw_554 mw_551 mw_553 mp_27 mw_6 rfl yd_m_throwing ⟨⟨rfl, rfl⟩, Nat.le_of_ble_eq_true rfl, Nat.le_of_ble_eq_true rfl⟩ ⟨Nat.le_of_ble_eq_true rfl, Nat.le_of_ble_eq_true rfl⟩ (WrC.preV hP hK hD hN (ci := 4) (q0 := 0) rfl rfl) (wr_free hD hS hA) hS rfl hl.1 rfl (Nat.le_of_ble_eq_true rfl) z_m_find_31 (fun r_5 u_6 H locs h_7 hP hD hS hz9 => ?_)
      obtain ⟨rfl, rfl⟩ : r_5 = 0 ∧ u_6 = (v, 0, ch, cd) := ⟨h_7.1.trans (by decide), h_7.2.trans (by rw [show thF 0 0 0 0 = 0 from by decide])⟩
      have hP : va_P (dC, dI) vwCl (wM o cI cZ cL v 0 ch cd) H := hP
      have hD : va_D A (wM o cI cZ cL v 0 ch cd) := hD
      refine lv_if_eq (tgt := 39) hx hb z_m_find_34 (by decide) (fun _ => ?_) (fun c9 => absurd (by decide) c9)
      obtain ⟨w0, hw, rfl⟩ := in08.mp h_4
      have hM := (hi.mk k hk).1
      refine lv_iconst (v := 0) hx hb z_m_find_39 (by decide) ?_
      refine lv_istore (lv' := [(5, .int 0), (0, .ref (o 0)), (1, .int (nI k)), (2, .long p0), (4, .int (nI w0))]) hx hb z_m_find_40 hl (by decide) rfl (fun ls hl => ?_)
      refine rd_loopI (nL := 9) (mN v k) (fun i => ∀ j, j < i → ¬ fOK v k p0 w0 j) (fun i => [(0, .ref (o 0)), (1, .int (nI k)), (2, .long p0), (4, .int (nI w0)), (5, .int (nI i))]) ?_ ls (fun j h => absurd h (Nat.not_lt_zero j)) (lv_sub hl [1, 2, 3, 4, 0] rfl)
      intro i ls hle hI hl ih
      have hl : lv_has ls 9 [(0, .ref (o 0)), (1, .int (nI k)), (2, .long p0), (4, .int (nI w0)), (5, .int (nI i))] := hl
      refine lv_iload hx hb z_m_find_42 (lv_at hl 4 rfl) ?_
      refine lv_aload_n hx hb z_m_find_44 rfl (lv_at hl 0 rfl) ?_
      refine va_get (D := (dC, dI)) (ci := 4) (v := .ref (o 2)) (C := R4) (T := T4) (N := 17) hx hb hts (cw_sub iC4) hown hK hP 0 rfl rfl 2 (by decide) (hts _ (cw_in mw_482 rfl)) (fun _ h9 => h9) rfl z_m_find_45 ?_
      refine lv_iload_n hx hb z_m_find_48 rfl (lv_at hl 1 rfl) ?_
      refine xa_i hx hb hK hP 2 0 rfl rfl (k := k) (y := nI (mN v k)) (hk) (by decide) ((hi.mk k hk).2) z_m_find_49 ?_
      refine lv_icmp_ge (tgt := 166) hx hb z_m_find_50 (by decide) (fun c_50 => ?_) (fun c_50 => ?_)
      · refine lv_iconst (v := (-1)) hx hb z_m_find_166 (by decide) ?_
        exact W.iret (v := (-1)) hx hb hr (fun t ht hW => ⟨⟨(-1), (v, 0, ch, cd), rfl, ⟨0, rfl, rfl, Or.inr (Or.inr ⟨rfl, k, w0, hk, rfl, hw, rfl, Or.inr ⟨fun j hj => hI j (by rw [eq_of_nle hle (by omega) c_50]; exact hj), rfl⟩⟩)⟩, by rw [ht]; exact hP, va_K.moved hW.alike hK, hD⟩, hS.F ht⟩) hS.2.2 z_m_find_167
      · have hlt : i < mN v k := nlt_of (by omega) c_50
        refine lv_bipush (v := 30) hx hb z_m_find_53 (by decide) ?_
        refine lv_iload_n hx hb z_m_find_55 rfl (lv_at hl 1 rfl) ?_
        refine lv_imul hx hb z_m_find_56 ?_
        refine lv_iload hx hb z_m_find_57 (lv_at hl 4 rfl) ?_
        refine lv_iadd hx hb z_m_find_59 ?_
        rw [s30_nI]
        refine lv_istore (lv' := [(6, .int (nI (k * 30 + i))), (0, .ref (o 0)), (1, .int (nI k)), (2, .long p0), (4, .int (nI w0)), (5, .int (nI i))]) hx hb z_m_find_60 hl (by decide) rfl (fun ls hl => ?_)
        refine lv_aload_n hx hb z_m_find_62 rfl (lv_at hl 1 rfl) ?_
        refine va_get (D := (dC, dI)) (ci := 4) (v := .ref (o 4)) (C := R4) (T := T4) (N := 17) hx hb hts (cw_sub iC4) hown hK hP 0 rfl rfl 4 (by decide) (hts _ (cw_in mw_484 rfl)) (fun _ h9 => h9) rfl z_m_find_63 ?_
        refine lv_iload hx hb z_m_find_66 (lv_at hl 0 rfl) ?_
        refine xa_z hx hb hK hP 4 1 rfl rfl (k := (k * 30 + i)) (y := zop v (k * 30 + i)) (by omega) (by decide) (rfl) z_m_find_68 ?_
        refine lv_if_eq (tgt := 88) hx hb z_m_find_69 (by decide) (fun c_69 => ?_) (fun c_69 => ?_)
        · refine lv_iconst (v := 0) hx hb z_m_find_88 (by decide) ?_
          refine lv_istore (lv' := [(7, .int 0), (6, .int (nI (k * 30 + i))), (0, .ref (o 0)), (1, .int (nI k)), (2, .long p0), (4, .int (nI w0)), (5, .int (nI i))]) hx hb z_m_find_89 hl (by decide) rfl (fun ls hl => ?_)
          refine lv_iconst (v := 0) hx hb z_m_find_91 (by decide) ?_
          refine lv_istore (lv' := [(8, .int 0), (7, .int 0), (6, .int (nI (k * 30 + i))), (0, .ref (o 0)), (1, .int (nI k)), (2, .long p0), (4, .int (nI w0)), (5, .int (nI i))]) hx hb z_m_find_92 hl (by decide) rfl (fun ls hl => ?_)
          refine lv_iload hx hb z_m_find_94 (lv_at hl 0 rfl) ?_
          refine lv_iload hx hb z_m_find_96 (lv_at hl 6 rfl) ?_
          refine lv_icmp_ge (tgt := 152) hx hb z_m_find_98 (by decide) (fun c_98 => ?_) (fun c_98 => ?_)
          · refine lv_iload hx hb z_m_find_152 (lv_at hl 1 rfl) ?_
            refine lv_if_eq (tgt := 160) hx hb z_m_find_154 (by decide) (fun _ => ?_) (fun c9 => absurd (by decide) c9)
            refine lv_iinc (v := nI (i + 1)) (lv' := [(5, .int (nI (i + 1))), (8, .int 0), (7, .int 0), (6, .int (nI (k * 30 + i))), (0, .ref (o 0)), (1, .int (nI k)), (2, .long p0), (4, .int (nI w0))]) hx hb z_m_find_160 hl (k := 7) rfl (by exact nI_1 i) (by decide) rfl (fun ls hl => ?_)
            refine lv_goto (tgt := 42) hx hb z_m_find_163 (by decide) ?_
            exact ih ls hlt (fun j hj => (Nat.lt_succ_iff_lt_or_eq.mp hj).elim (fun h => hI j h) (fun h => by rw [h]; exact fun z => z.1 c_69)) (lv_sub hl [4, 5, 6, 7, 0] rfl)
          · refine lv_iload hx hb z_m_find_101 (lv_at hl 1 rfl) ?_
            refine lv_if_eq (tgt := 152) hx hb z_m_find_103 (by decide) (fun _ => ?_) (fun c9 => absurd (by decide) c9)
            refine lv_iload hx hb z_m_find_152 (lv_at hl 1 rfl) ?_
            refine lv_if_eq (tgt := 160) hx hb z_m_find_154 (by decide) (fun _ => ?_) (fun c9 => absurd (by decide) c9)
            refine lv_iinc (v := nI (i + 1)) (lv' := [(5, .int (nI (i + 1))), (8, .int 0), (7, .int 0), (6, .int (nI (k * 30 + i))), (0, .ref (o 0)), (1, .int (nI k)), (2, .long p0), (4, .int (nI w0))]) hx hb z_m_find_160 hl (k := 7) rfl (by exact nI_1 i) (by decide) rfl (fun ls hl => ?_)
            refine lv_goto (tgt := 42) hx hb z_m_find_163 (by decide) ?_
            exact ih ls hlt (fun j hj => (Nat.lt_succ_iff_lt_or_eq.mp hj).elim (fun h => hI j h) (fun h => by rw [h]; exact fun z => z.1 c_69)) (lv_sub hl [4, 5, 6, 7, 0] rfl)
        · refine lv_aload_n hx hb z_m_find_72 rfl (lv_at hl 1 rfl) ?_
          refine va_get (D := (dC, dI)) (ci := 4) (v := .ref (o 6)) (C := R4) (T := T4) (N := 17) hx hb hts (cw_sub iC4) hown hK hP 0 rfl rfl 6 (by decide) (hts _ (cw_in mw_486 rfl)) (fun _ h9 => h9) rfl z_m_find_73 ?_
          refine lv_iload hx hb z_m_find_76 (lv_at hl 0 rfl) ?_
          refine xa_i hx hb hK hP 6 0 rfl rfl (k := (k * 30 + i)) (y := zln v (k * 30 + i)) (by omega) (by decide) (rfl) z_m_find_78 ?_
          refine lv_iload hx hb z_m_find_79 (lv_at hl 4 rfl) ?_
          refine lv_icmp_ne (tgt := 88) hx hb z_m_find_81 (by decide) (fun c_81 => ?_) (fun c_81 => ?_)
          · refine lv_iconst (v := 0) hx hb z_m_find_88 (by decide) ?_
            refine lv_istore (lv' := [(7, .int 0), (6, .int (nI (k * 30 + i))), (0, .ref (o 0)), (1, .int (nI k)), (2, .long p0), (4, .int (nI w0)), (5, .int (nI i))]) hx hb z_m_find_89 hl (by decide) rfl (fun ls hl => ?_)
            refine lv_iconst (v := 0) hx hb z_m_find_91 (by decide) ?_
            refine lv_istore (lv' := [(8, .int 0), (7, .int 0), (6, .int (nI (k * 30 + i))), (0, .ref (o 0)), (1, .int (nI k)), (2, .long p0), (4, .int (nI w0)), (5, .int (nI i))]) hx hb z_m_find_92 hl (by decide) rfl (fun ls hl => ?_)
            refine lv_iload hx hb z_m_find_94 (lv_at hl 0 rfl) ?_
            refine lv_iload hx hb z_m_find_96 (lv_at hl 6 rfl) ?_
            refine lv_icmp_ge (tgt := 152) hx hb z_m_find_98 (by decide) (fun c_98 => ?_) (fun c_98 => ?_)
            · refine lv_iload hx hb z_m_find_152 (lv_at hl 1 rfl) ?_
              refine lv_if_eq (tgt := 160) hx hb z_m_find_154 (by decide) (fun _ => ?_) (fun c9 => absurd (by decide) c9)
              refine lv_iinc (v := nI (i + 1)) (lv' := [(5, .int (nI (i + 1))), (8, .int 0), (7, .int 0), (6, .int (nI (k * 30 + i))), (0, .ref (o 0)), (1, .int (nI k)), (2, .long p0), (4, .int (nI w0))]) hx hb z_m_find_160 hl (k := 7) rfl (by exact nI_1 i) (by decide) rfl (fun ls hl => ?_)
              refine lv_goto (tgt := 42) hx hb z_m_find_163 (by decide) ?_
              exact ih ls hlt (fun j hj => (Nat.lt_succ_iff_lt_or_eq.mp hj).elim (fun h => hI j h) (fun h => by rw [h]; exact fun z => c_81 z.2.1)) (lv_sub hl [4, 5, 6, 7, 0] rfl)
            · refine lv_iload hx hb z_m_find_101 (lv_at hl 1 rfl) ?_
              refine lv_if_eq (tgt := 152) hx hb z_m_find_103 (by decide) (fun _ => ?_) (fun c9 => absurd (by decide) c9)
              refine lv_iload hx hb z_m_find_152 (lv_at hl 1 rfl) ?_
              refine lv_if_eq (tgt := 160) hx hb z_m_find_154 (by decide) (fun _ => ?_) (fun c9 => absurd (by decide) c9)
              refine lv_iinc (v := nI (i + 1)) (lv' := [(5, .int (nI (i + 1))), (8, .int 0), (7, .int 0), (6, .int (nI (k * 30 + i))), (0, .ref (o 0)), (1, .int (nI k)), (2, .long p0), (4, .int (nI w0))]) hx hb z_m_find_160 hl (k := 7) rfl (by exact nI_1 i) (by decide) rfl (fun ls hl => ?_)
              refine lv_goto (tgt := 42) hx hb z_m_find_163 (by decide) ?_
              exact ih ls hlt (fun j hj => (Nat.lt_succ_iff_lt_or_eq.mp hj).elim (fun h => hI j h) (fun h => by rw [h]; exact fun z => c_81 z.2.1)) (lv_sub hl [4, 5, 6, 7, 0] rfl)
          · refine lv_iconst (v := 1) hx hb z_m_find_84 (by decide) ?_
            refine lv_goto (tgt := 89) hx hb z_m_find_85 (by decide) ?_
            refine lv_istore (lv' := [(7, .int 1), (6, .int (nI (k * 30 + i))), (0, .ref (o 0)), (1, .int (nI k)), (2, .long p0), (4, .int (nI w0)), (5, .int (nI i))]) hx hb z_m_find_89 hl (by decide) rfl (fun ls hl => ?_)
            refine lv_iconst (v := 0) hx hb z_m_find_91 (by decide) ?_
            refine lv_istore (lv' := [(8, .int 0), (7, .int 1), (6, .int (nI (k * 30 + i))), (0, .ref (o 0)), (1, .int (nI k)), (2, .long p0), (4, .int (nI w0)), (5, .int (nI i))]) hx hb z_m_find_92 hl (by decide) rfl (fun ls hl => ?_)
            refine rd_loopI (nL := 9) (w0) (fun t => ∀ j, j < t → ztx v ((k * 30 + i) * 16 + j) &&& 255 = byteF p0 (nI w0) (nI j)) (fun t => [(0, .ref (o 0)), (1, .int (nI k)), (2, .long p0), (4, .int (nI w0)), (5, .int (nI i)), (6, .int (nI (k * 30 + i))), (7, .int 1), (8, .int (nI t))]) ?_ ls (fun j h => absurd h (Nat.not_lt_zero j)) (lv_sub hl [3, 4, 5, 6, 7, 2, 1, 0] rfl)
            intro t ls hle3 hI3 hl ih3
            have hl : lv_has ls 9 [(0, .ref (o 0)), (1, .int (nI k)), (2, .long p0), (4, .int (nI w0)), (5, .int (nI i)), (6, .int (nI (k * 30 + i))), (7, .int 1), (8, .int (nI t))] := hl
            refine lv_iload hx hb z_m_find_94 (lv_at hl 7 rfl) ?_
            refine lv_iload hx hb z_m_find_96 (lv_at hl 3 rfl) ?_
            refine lv_icmp_ge (tgt := 152) hx hb z_m_find_98 (by decide) (fun c_98 => ?_) (fun c_98 => ?_)
            · refine lv_iload hx hb z_m_find_152 (lv_at hl 6 rfl) ?_
              refine lv_if_eq (tgt := 160) hx hb z_m_find_154 (by decide) (fun c9 => absurd c9 (by decide)) (fun _ => ?_)
              refine lv_iload hx hb z_m_find_157 (lv_at hl 4 rfl) ?_
              exact W.iret (v := nI i) hx hb hr (fun t ht hW => ⟨⟨nI i, (v, 0, ch, cd), rfl, ⟨0, rfl, rfl, Or.inr (Or.inr ⟨rfl, k, w0, hk, rfl, hw, rfl, Or.inl ⟨i, hlt, ⟨c_69, c_81, fun j hj => hI3 j (by rw [eq_of_nle hle3 (by omega) c_98]; exact hj)⟩, hI, rfl⟩⟩)⟩, by rw [ht]; exact hP, va_K.moved hW.alike hK, hD⟩, hS.F ht⟩) hS.2.2 z_m_find_159
            · refine lv_iload hx hb z_m_find_101 (lv_at hl 6 rfl) ?_
              refine lv_if_eq (tgt := 152) hx hb z_m_find_103 (by decide) (fun c9 => absurd c9 (by decide)) (fun _ => ?_)
              have hlt3 : t < w0 := nlt_of (by omega) c_98
              refine lv_aload_n hx hb z_m_find_106 rfl (lv_at hl 0 rfl) ?_
              refine va_get (D := (dC, dI)) (ci := 4) (v := .ref (o 7)) (C := R4) (T := T4) (N := 17) hx hb hts (cw_sub iC4) hown hK hP 0 rfl rfl 7 (by decide) (hts _ (cw_in mw_487 rfl)) (fun _ h9 => h9) rfl z_m_find_107 ?_
              refine lv_bipush (v := 16) hx hb z_m_find_110 (by decide) ?_
              refine lv_iload hx hb z_m_find_112 (lv_at hl 5 rfl) ?_
              refine lv_imul hx hb z_m_find_114 ?_
              refine lv_iload hx hb z_m_find_115 (lv_at hl 7 rfl) ?_
              refine lv_iadd hx hb z_m_find_117 ?_
              rw [s16_nI]
              refine xa_i hx hb hK hP 7 0 rfl rfl (k := ((k * 30 + i) * 16 + t)) (y := ztx v ((k * 30 + i) * 16 + t) &&& 255) (by omega) (by decide) (rfl) z_m_find_118 ?_
              refine lv_lload_n hx hb z_m_find_119 rfl (lv_at hl 2 rfl) ?_
              refine lv_bipush (v := 8) hx hb z_m_find_120 (by decide) ?_
              refine lv_iload hx hb z_m_find_122 (lv_at hl 3 rfl) ?_
              refine lv_iconst (v := 1) hx hb z_m_find_124 (by decide) ?_
              refine lv_isub hx hb z_m_find_125 ?_
              refine lv_iload hx hb z_m_find_126 (lv_at hl 7 rfl) ?_
              refine lv_isub hx hb z_m_find_128 ?_
              refine lv_imul hx hb z_m_find_129 ?_
              refine lv_lshr hx hb z_m_find_130 rfl ?_
              refine lv_l2i hx hb z_m_find_131 rfl ?_
              refine lv_sipush (v := 255) hx hb z_m_find_132 (by decide) ?_
              refine lv_iand hx hb z_m_find_135 ?_
              rw [byteF_sar hlt3 hw]
              refine lv_icmp_ne (tgt := 143) hx hb z_m_find_136 (by decide) (fun c_136 => ?_) (fun c_136 => ?_)
              · refine lv_iconst (v := 0) hx hb z_m_find_143 (by decide) ?_
                refine lv_istore (lv' := [(7, .int 0), (0, .ref (o 0)), (1, .int (nI k)), (2, .long p0), (4, .int (nI w0)), (5, .int (nI i)), (6, .int (nI (k * 30 + i))), (8, .int (nI t))]) hx hb z_m_find_144 hl (by decide) rfl (fun ls hl => ?_)
                refine lv_iinc (v := nI (t + 1)) (lv' := [(8, .int (nI (t + 1))), (7, .int 0), (0, .ref (o 0)), (1, .int (nI k)), (2, .long p0), (4, .int (nI w0)), (5, .int (nI i)), (6, .int (nI (k * 30 + i)))]) hx hb z_m_find_146 hl (k := 7) rfl (by exact nI_1 t) (by decide) rfl (fun ls hl => ?_)
                refine lv_goto (tgt := 94) hx hb z_m_find_149 (by decide) ?_
                refine lv_iload hx hb z_m_find_94 (lv_at hl 0 rfl) ?_
                refine lv_iload hx hb z_m_find_96 (lv_at hl 5 rfl) ?_
                refine lv_icmp_ge (tgt := 152) hx hb z_m_find_98 (by decide) (fun c_98 => ?_) (fun c_98 => ?_)
                · refine lv_iload hx hb z_m_find_152 (lv_at hl 1 rfl) ?_
                  refine lv_if_eq (tgt := 160) hx hb z_m_find_154 (by decide) (fun _ => ?_) (fun c9 => absurd (by decide) c9)
                  refine lv_iinc (v := nI (i + 1)) (lv' := [(5, .int (nI (i + 1))), (8, .int (nI (t + 1))), (7, .int 0), (0, .ref (o 0)), (1, .int (nI k)), (2, .long p0), (4, .int (nI w0)), (6, .int (nI (k * 30 + i)))]) hx hb z_m_find_160 hl (k := 6) rfl (by exact nI_1 i) (by decide) rfl (fun ls hl => ?_)
                  refine lv_goto (tgt := 42) hx hb z_m_find_163 (by decide) ?_
                  exact ih ls hlt (fun j hj => (Nat.lt_succ_iff_lt_or_eq.mp hj).elim (fun h => hI j h) (fun h => by rw [h]; exact fun z => c_136 (z.2.2 t hlt3))) (lv_sub hl [3, 4, 5, 6, 0] rfl)
                · refine lv_iload hx hb z_m_find_101 (lv_at hl 1 rfl) ?_
                  refine lv_if_eq (tgt := 152) hx hb z_m_find_103 (by decide) (fun _ => ?_) (fun c9 => absurd (by decide) c9)
                  refine lv_iload hx hb z_m_find_152 (lv_at hl 1 rfl) ?_
                  refine lv_if_eq (tgt := 160) hx hb z_m_find_154 (by decide) (fun _ => ?_) (fun c9 => absurd (by decide) c9)
                  refine lv_iinc (v := nI (i + 1)) (lv' := [(5, .int (nI (i + 1))), (8, .int (nI (t + 1))), (7, .int 0), (0, .ref (o 0)), (1, .int (nI k)), (2, .long p0), (4, .int (nI w0)), (6, .int (nI (k * 30 + i)))]) hx hb z_m_find_160 hl (k := 6) rfl (by exact nI_1 i) (by decide) rfl (fun ls hl => ?_)
                  refine lv_goto (tgt := 42) hx hb z_m_find_163 (by decide) ?_
                  exact ih ls hlt (fun j hj => (Nat.lt_succ_iff_lt_or_eq.mp hj).elim (fun h => hI j h) (fun h => by rw [h]; exact fun z => c_136 (z.2.2 t hlt3))) (lv_sub hl [3, 4, 5, 6, 0] rfl)
              · refine lv_iconst (v := 1) hx hb z_m_find_139 (by decide) ?_
                refine lv_goto (tgt := 144) hx hb z_m_find_140 (by decide) ?_
                refine lv_istore (lv' := [(7, .int 1), (0, .ref (o 0)), (1, .int (nI k)), (2, .long p0), (4, .int (nI w0)), (5, .int (nI i)), (6, .int (nI (k * 30 + i))), (8, .int (nI t))]) hx hb z_m_find_144 hl (by decide) rfl (fun ls hl => ?_)
                refine lv_iinc (v := nI (t + 1)) (lv' := [(8, .int (nI (t + 1))), (7, .int 1), (0, .ref (o 0)), (1, .int (nI k)), (2, .long p0), (4, .int (nI w0)), (5, .int (nI i)), (6, .int (nI (k * 30 + i)))]) hx hb z_m_find_146 hl (k := 7) rfl (by exact nI_1 t) (by decide) rfl (fun ls hl => ?_)
                refine lv_goto (tgt := 94) hx hb z_m_find_149 (by decide) ?_
                exact ih3 ls hlt3 (fun j hj => (Nat.lt_succ_iff_lt_or_eq.mp hj).elim (fun h => hI3 j h) (fun h => by rw [h]; exact c_136)) (lv_sub hl [2, 3, 4, 5, 6, 7, 1, 0] rfl)
    · refine lv_if_ne (tgt := 28) hx hb z_m_find_21 (by decide) (fun c9 => absurd rfl c9) (fun _ => ?_)
      refine lv_iconst (v := 1) hx hb z_m_find_24 (by decide) ?_
      refine lv_goto (tgt := 29) hx hb z_m_find_25 (by decide) ?_
      refine lv_iconst (v := 0) hx hb z_m_find_29 (by decide) ?_
      refine lv_iconst (v := 0) hx hb z_m_find_30 (by decide) ?_
      refine wrVi (As := [.int 0, .int 1, .int 0, .int 0]) (rest := []) (wf := fun u : St × Int32 × Int32 × Int64 => wM o cI cZ cL u.1 u.2.1 u.2.2.1 u.2.2.2) ⟨hx, hb, hml, hown, hts⟩ (c_m_throwing l dC dI o cI cZ cL v th ch cd s.heap.size 0 1 0 0) mw_554 mw_551 mw_553 mp_27 mw_6 rfl yd_m_throwing ⟨⟨rfl, rfl⟩, Nat.le_of_ble_eq_true rfl, Nat.le_of_ble_eq_true rfl⟩ ⟨Nat.le_of_ble_eq_true rfl, Nat.le_of_ble_eq_true rfl⟩ (WrC.preV hP hK hD hN (ci := 4) (q0 := 0) rfl rfl) (wr_free hD hS hA) hS rfl hl.1 rfl (Nat.le_of_ble_eq_true rfl) z_m_find_31 (fun r_8 u_9 H locs h_10 hP hD hS hz9 => ?_)
      obtain ⟨rfl, rfl⟩ : r_8 = 1 ∧ u_9 = (v, 2, ch, cd) := ⟨h_10.1.trans (by decide), h_10.2.trans (by rw [show thF 0 1 0 0 = 2 from by decide])⟩
      have hP : va_P (dC, dI) vwCl (wM o cI cZ cL v 2 ch cd) H := hP
      have hD : va_D A (wM o cI cZ cL v 2 ch cd) := hD
      refine lv_if_eq (tgt := 39) hx hb z_m_find_34 (by decide) (fun c9 => absurd c9 (by decide)) (fun _ => ?_)
      refine lv_iconst (v := 0) hx hb z_m_find_37 (by decide) ?_
      exact W.iret (v := 0) hx hb hr (fun t ht hW => ⟨⟨0, (v, 2, ch, cd), rfl, ⟨2, rfl, rfl, Or.inr (Or.inl ⟨rfl, ⟨k, hk, rfl⟩, fun h => h_4 (in08.mpr h)⟩)⟩, by rw [ht]; exact hP, va_K.moved hW.alike hK, hD⟩, hS.F ht⟩) hS.2.2 z_m_find_38
  · refine lv_if_ne (tgt := 12) hx hb z_m_find_5 (by decide) (fun c9 => absurd rfl c9) (fun _ => ?_)
    refine lv_iconst (v := 1) hx hb z_m_find_8 (by decide) ?_
    refine lv_goto (tgt := 13) hx hb z_m_find_9 (by decide) ?_
    refine lv_iload hx hb z_m_find_13 (lv_at hl 3 rfl) ?_
    refine lv_iconst (v := 0) hx hb z_m_find_15 (by decide) ?_
    refine lv_bipush (v := 8) hx hb z_m_find_16 (by decide) ?_
    refine rdSi (As := [.int n0, .int 0, .int 8]) (rest := [.int 1, .ref (o 0)]) ⟨hx, hb, hml, hown, hts⟩ (c_m_in l n0 0 8) mw_546 mw_544 mw_545 mw_6 yd_m_in ⟨⟨rfl, rfl⟩, Nat.le_of_ble_eq_true rfl, Nat.le_of_ble_eq_true rfl⟩ ⟨Nat.zero_le _, Nat.zero_le _⟩ (pre_pure) rfl hl.1 rfl (Nat.le_of_ble_eq_true rfl) z_m_find_18 (fun r_11 h_12 => ?_)
    rcases h_12 with ⟨rfl, h_12⟩ | ⟨rfl, h_12⟩
    · refine lv_if_ne (tgt := 28) hx hb z_m_find_21 (by decide) (fun _ => ?_) (fun c9 => absurd c9 (by decide))
      refine lv_iconst (v := 0) hx hb z_m_find_28 (by decide) ?_
      refine lv_iconst (v := 0) hx hb z_m_find_29 (by decide) ?_
      refine lv_iconst (v := 0) hx hb z_m_find_30 (by decide) ?_
      refine wrVi (As := [.int 1, .int 0, .int 0, .int 0]) (rest := []) (wf := fun u : St × Int32 × Int32 × Int64 => wM o cI cZ cL u.1 u.2.1 u.2.2.1 u.2.2.2) ⟨hx, hb, hml, hown, hts⟩ (c_m_throwing l dC dI o cI cZ cL v th ch cd s.heap.size 1 0 0 0) mw_554 mw_551 mw_553 mp_27 mw_6 rfl yd_m_throwing ⟨⟨rfl, rfl⟩, Nat.le_of_ble_eq_true rfl, Nat.le_of_ble_eq_true rfl⟩ ⟨Nat.le_of_ble_eq_true rfl, Nat.le_of_ble_eq_true rfl⟩ (WrC.preV hP hK hD hN (ci := 4) (q0 := 0) rfl rfl) (wr_free hD hS hA) hS rfl hl.1 rfl (Nat.le_of_ble_eq_true rfl) z_m_find_31 (fun r_13 u_14 H locs h_15 hP hD hS hz9 => ?_)
      obtain ⟨rfl, rfl⟩ : r_13 = 1 ∧ u_14 = (v, 1, ch, cd) := ⟨h_15.1.trans (by decide), h_15.2.trans (by rw [show thF 1 0 0 0 = 1 from by decide])⟩
      have hP : va_P (dC, dI) vwCl (wM o cI cZ cL v 1 ch cd) H := hP
      have hD : va_D A (wM o cI cZ cL v 1 ch cd) := hD
      refine lv_if_eq (tgt := 39) hx hb z_m_find_34 (by decide) (fun c9 => absurd c9 (by decide)) (fun _ => ?_)
      refine lv_iconst (v := 0) hx hb z_m_find_37 (by decide) ?_
      exact W.iret (v := 0) hx hb hr (fun t ht hW => ⟨⟨0, (v, 1, ch, cd), rfl, ⟨1, rfl, rfl, Or.inl ⟨rfl, h_2⟩⟩, by rw [ht]; exact hP, va_K.moved hW.alike hK, hD⟩, hS.F ht⟩) hS.2.2 z_m_find_38
    · refine lv_if_ne (tgt := 28) hx hb z_m_find_21 (by decide) (fun c9 => absurd rfl c9) (fun _ => ?_)
      refine lv_iconst (v := 1) hx hb z_m_find_24 (by decide) ?_
      refine lv_goto (tgt := 29) hx hb z_m_find_25 (by decide) ?_
      refine lv_iconst (v := 0) hx hb z_m_find_29 (by decide) ?_
      refine lv_iconst (v := 0) hx hb z_m_find_30 (by decide) ?_
      refine wrVi (As := [.int 1, .int 1, .int 0, .int 0]) (rest := []) (wf := fun u : St × Int32 × Int32 × Int64 => wM o cI cZ cL u.1 u.2.1 u.2.2.1 u.2.2.2) ⟨hx, hb, hml, hown, hts⟩ (c_m_throwing l dC dI o cI cZ cL v th ch cd s.heap.size 1 1 0 0) mw_554 mw_551 mw_553 mp_27 mw_6 rfl yd_m_throwing ⟨⟨rfl, rfl⟩, Nat.le_of_ble_eq_true rfl, Nat.le_of_ble_eq_true rfl⟩ ⟨Nat.le_of_ble_eq_true rfl, Nat.le_of_ble_eq_true rfl⟩ (WrC.preV hP hK hD hN (ci := 4) (q0 := 0) rfl rfl) (wr_free hD hS hA) hS rfl hl.1 rfl (Nat.le_of_ble_eq_true rfl) z_m_find_31 (fun r_16 u_17 H locs h_18 hP hD hS hz9 => ?_)
      obtain ⟨rfl, rfl⟩ : r_16 = 1 ∧ u_17 = (v, 1, ch, cd) := ⟨h_18.1.trans (by decide), h_18.2.trans (by rw [show thF 1 1 0 0 = 1 from by decide])⟩
      have hP : va_P (dC, dI) vwCl (wM o cI cZ cL v 1 ch cd) H := hP
      have hD : va_D A (wM o cI cZ cL v 1 ch cd) := hD
      refine lv_if_eq (tgt := 39) hx hb z_m_find_34 (by decide) (fun c9 => absurd c9 (by decide)) (fun _ => ?_)
      refine lv_iconst (v := 0) hx hb z_m_find_37 (by decide) ?_
      exact W.iret (v := 0) hx hb hr (fun t ht hW => ⟨⟨0, (v, 1, ch, cd), rfl, ⟨1, rfl, rfl, Or.inl ⟨rfl, h_2⟩⟩, by rw [ht]; exact hP, va_K.moved hW.alike hK, hD⟩, hS.F ht⟩) hS.2.2 z_m_find_38

set_option maxHeartbeats 4000000 in
set_option maxRecDepth 100000 in
theorem c_m_text (l : Launch) (dC : Nat → ClassId) (dI : Nat → Nat → Nat) (o : Nat → Nat) (cI cZ cL : ClassId) (v : St) (th ch : Int32) (cd : Int64) (sz : Nat) (hi : Inv v) (x y : Int32) (p0 : Int64) (n0 : Int32) : Met l y_m_text (Cond.code y_m_text b_m_text 10 (some .int) :: CW) { frames := 3, cells := 0, slots := 0, locals := 64 } (va_Pc [.ref (o 0), .int x, .int y, .long p0, .int n0] (WrC (dC, dI) sz (wM o cI cZ cL v th ch cd) (tyM cI cZ cL))) (va_Qi (fun (r : Int32) (u : St × Int32 × Int32 × Int64) => ∃ c9 : Nat, u.2.1 = nI c9 ∧ spText v x y p0 n0 c9 r u.1) (fun u => WrB (dC, dI) (wM o cI cZ cL u.1 u.2.1 u.2.2.1 u.2.2.2) (tyM cI cZ cL) (va_A (wM o cI cZ cL v th ch cd) sz)) (va_A (wM o cI cZ cL v th ch cd) sz)) 0 0 (va_A (wM o cI cZ cL v th ch cd) sz) := by
  refine cx_met (by decide) (Nat.le_of_ble_eq_true rfl) ?_
  intro p e s m below meth c hx hb hr hml hts hown hlocks hnm hC ls hl
  obtain ⟨hsz, hP, hK, hD0, hN⟩ := hC
  subst hsz
  have hD := hD0.self (sz := s.heap.size)
  generalize hAe : va_A (wM o cI cZ cL v th ch cd) s.heap.size = A at hD ⊢
  have hA : ∀ q9 : Nat, s.heap.size ≤ q9 → A q9 := fun q9 h => by rw [← hAe]; exact Or.inr h
  have hS : va_S A s.heap s.heap [] := va_S.rf
  have hown : s.vm.findClass "ServiceDeskModel" = some m.cls := hown
  have hl : lv_has ls 10 [(0, .ref (o 0)), (1, .int x), (2, .int y), (3, .long p0), (5, .int n0)] := hl
  refine lv_aload_n hx hb z_m_text_0 rfl (lv_at hl 0 rfl) ?_
  refine lv_iload_n hx hb z_m_text_1 rfl (lv_at hl 1 rfl) ?_
  refine lv_iload_n hx hb z_m_text_2 rfl (lv_at hl 2 rfl) ?_
  refine rdVi (As := [.int x, .int y]) (rest := []) ⟨hx, hb, hml, hown, hts⟩ (c_m_isSubject l dC dI o cI cZ cL v th ch cd hi x y) mw_562 mw_559 mw_561 mp_28 mw_6 rfl yd_m_isSubject ⟨⟨rfl, rfl⟩, Nat.le_of_ble_eq_true rfl, Nat.le_of_ble_eq_true rfl⟩ ⟨Nat.zero_le _, Nat.zero_le _⟩ (RdC.preV hP hK hN (ci := 4) (q0 := 0) rfl rfl) rfl hl.1 rfl (Nat.le_of_ble_eq_true rfl) z_m_text_3 (fun r_1 h_2 => ?_)
  rcases h_2 with ⟨rfl, h_2⟩ | ⟨rfl, h_2⟩
  · obtain ⟨k, j, hk, hj, rfl, rfl⟩ := h_2
    have hM := (hi.mk k hk).1
    refine lv_if_ne (tgt := 13) hx hb z_m_text_6 (by decide) (fun _ => ?_) (fun c9 => absurd c9 (by decide))
    refine lv_iconst (v := 0) hx hb z_m_text_13 (by decide) ?_
    refine lv_istore (lv' := [(6, .int 0), (0, .ref (o 0)), (1, .int (nI k)), (2, .int (nI j)), (3, .long p0), (5, .int n0)]) hx hb z_m_text_14 hl (by decide) rfl (fun ls hl => ?_)
    refine lv_iload hx hb z_m_text_16 (lv_at hl 0 rfl) ?_
    refine lv_if_eq (tgt := 25) hx hb z_m_text_18 (by decide) (fun _ => ?_) (fun c9 => absurd (by decide) c9)
    refine lv_bipush (v := 30) hx hb z_m_text_25 (by decide) ?_
    refine lv_iload_n hx hb z_m_text_27 rfl (lv_at hl 2 rfl) ?_
    refine lv_imul hx hb z_m_text_28 ?_
    refine lv_iload_n hx hb z_m_text_29 rfl (lv_at hl 3 rfl) ?_
    refine lv_iadd hx hb z_m_text_30 ?_
    rw [s30_nI]
    refine lv_istore (lv' := [(7, .int (nI (k * 30 + j))), (6, .int 0), (0, .ref (o 0)), (1, .int (nI k)), (2, .int (nI j)), (3, .long p0), (5, .int n0)]) hx hb z_m_text_31 hl (by decide) rfl (fun ls hl => ?_)
    refine lv_iload hx hb z_m_text_33 (lv_at hl 6 rfl) ?_
    refine lv_iconst (v := 1) hx hb z_m_text_35 (by decide) ?_
    refine lv_bipush (v := 8) hx hb z_m_text_36 (by decide) ?_
    refine rdSi (As := [.int n0, .int 1, .int 8]) (rest := []) ⟨hx, hb, hml, hown, hts⟩ (c_m_in l n0 1 8) mw_546 mw_544 mw_545 mw_6 yd_m_in ⟨⟨rfl, rfl⟩, Nat.le_of_ble_eq_true rfl, Nat.le_of_ble_eq_true rfl⟩ ⟨Nat.zero_le _, Nat.zero_le _⟩ (pre_pure) rfl hl.1 rfl (Nat.le_of_ble_eq_true rfl) z_m_text_38 (fun r_3 h_4 => ?_)
    rcases h_4 with ⟨rfl, h_4⟩ | ⟨rfl, h_4⟩
    · refine lv_if_ne (tgt := 48) hx hb z_m_text_41 (by decide) (fun _ => ?_) (fun c9 => absurd c9 (by decide))
      refine lv_iconst (v := 0) hx hb z_m_text_48 (by decide) ?_
      refine lv_istore (lv' := [(8, .int 0), (7, .int (nI (k * 30 + j))), (6, .int 0), (0, .ref (o 0)), (1, .int (nI k)), (2, .int (nI j)), (3, .long p0), (5, .int n0)]) hx hb z_m_text_49 hl (by decide) rfl (fun ls hl => ?_)
      refine lv_aload_n hx hb z_m_text_51 rfl (lv_at hl 3 rfl) ?_
      refine lv_iload hx hb z_m_text_52 (lv_at hl 2 rfl) ?_
      refine lv_iload hx hb z_m_text_54 (lv_at hl 0 rfl) ?_
      refine lv_iload hx hb z_m_text_56 (lv_at hl 2 rfl) ?_
      refine lv_if_ne (tgt := 75) hx hb z_m_text_58 (by decide) (fun c9 => absurd rfl c9) (fun _ => ?_)
      refine lv_aload_n hx hb z_m_text_61 rfl (lv_at hl 3 rfl) ?_
      refine va_get (D := (dC, dI)) (ci := 4) (v := .ref (o 4)) (C := R4) (T := T4) (N := 17) hx hb hts (cw_sub iC4) hown hK hP 0 rfl rfl 4 (by decide) (hts _ (cw_in mw_484 rfl)) (fun _ h9 => h9) rfl z_m_text_62 ?_
      refine lv_iload hx hb z_m_text_65 (lv_at hl 1 rfl) ?_
      refine xa_z hx hb hK hP 4 1 rfl rfl (k := (k * 30 + j)) (y := zop v (k * 30 + j)) (by omega) (by decide) (rfl) z_m_text_67 ?_
      refine lv_if_ne (tgt := 75) hx hb z_m_text_68 (by decide) (fun c_68 => ?_) (fun c_68 => ?_)
      · refine lv_iconst (v := 0) hx hb z_m_text_75 (by decide) ?_
        refine lv_iload hx hb z_m_text_76 (lv_at hl 2 rfl) ?_
        refine lv_if_ne (tgt := 105) hx hb z_m_text_78 (by decide) (fun c9 => absurd rfl c9) (fun _ => ?_)
        refine lv_iload hx hb z_m_text_81 (lv_at hl 0 rfl) ?_
        refine lv_if_ne (tgt := 105) hx hb z_m_text_83 (by decide) (fun c9 => absurd rfl c9) (fun _ => ?_)
        obtain ⟨w0, hw1, hw2, rfl⟩ := in18.mp h_4
        have hL := (hi.ln (k * 30 + j) (by omega)).1
        refine lv_aload_n hx hb z_m_text_86 rfl (lv_at hl 3 rfl) ?_
        refine va_get (D := (dC, dI)) (ci := 4) (v := .ref (o 6)) (C := R4) (T := T4) (N := 17) hx hb hts (cw_sub iC4) hown hK hP 0 rfl rfl 6 (by decide) (hts _ (cw_in mw_486 rfl)) (fun _ h9 => h9) rfl z_m_text_87 ?_
        refine lv_iload hx hb z_m_text_90 (lv_at hl 1 rfl) ?_
        refine xa_i hx hb hK hP 6 0 rfl rfl (k := (k * 30 + j)) (y := nI (lN9 v (k * 30 + j))) (by omega) (by decide) ((hi.ln (k * 30 + j) (by omega)).2) z_m_text_92 ?_
        refine lv_iload hx hb z_m_text_93 (lv_at hl 7 rfl) ?_
        refine lv_iadd hx hb z_m_text_95 ?_
        rw [nI_add]
        refine lv_bipush (v := 16) hx hb z_m_text_96 (by decide) ?_
        refine lv_icmp_le (tgt := 105) hx hb z_m_text_98 (by decide) (fun c_98 => ?_) (fun c_98 => ?_)
        · refine lv_iconst (v := 0) hx hb z_m_text_105 (by decide) ?_
          refine wrVi (As := [.int 0, .int 0, .int 0, .int 0]) (rest := []) (wf := fun u : St × Int32 × Int32 × Int64 => wM o cI cZ cL u.1 u.2.1 u.2.2.1 u.2.2.2) ⟨hx, hb, hml, hown, hts⟩ (c_m_throwing l dC dI o cI cZ cL v th ch cd s.heap.size 0 0 0 0) mw_554 mw_551 mw_553 mp_27 mw_6 rfl yd_m_throwing ⟨⟨rfl, rfl⟩, Nat.le_of_ble_eq_true rfl, Nat.le_of_ble_eq_true rfl⟩ ⟨Nat.le_of_ble_eq_true rfl, Nat.le_of_ble_eq_true rfl⟩ (WrC.preV hP hK hD hN (ci := 4) (q0 := 0) rfl rfl) (wr_free hD hS hA) hS rfl hl.1 rfl (Nat.le_of_ble_eq_true rfl) z_m_text_106 (fun r_5 u_6 H locs h_7 hP hD hS hz9 => ?_)
          obtain ⟨rfl, rfl⟩ : r_5 = 0 ∧ u_6 = (v, 0, ch, cd) := ⟨h_7.1.trans (by decide), h_7.2.trans (by rw [show thF 0 0 0 0 = 0 from by decide])⟩
          have hP : va_P (dC, dI) vwCl (wM o cI cZ cL v 0 ch cd) H := hP
          have hD : va_D A (wM o cI cZ cL v 0 ch cd) := hD
          refine lv_if_eq (tgt := 114) hx hb z_m_text_109 (by decide) (fun _ => ?_) (fun c9 => absurd (by decide) c9)
          refine lv_iload hx hb z_m_text_114 (lv_at hl 7 rfl) ?_
          refine lv_iconst (v := 1) hx hb z_m_text_116 (by decide) ?_
          refine lv_isub hx hb z_m_text_117 ?_
          rw [dn_0 hw1]
          refine lv_istore (lv' := [(9, .int (dn w0 0)), (8, .int 0), (7, .int (nI (k * 30 + j))), (6, .int 0), (0, .ref (o 0)), (1, .int (nI k)), (2, .int (nI j)), (3, .long p0), (5, .int (nI w0))]) hx hb z_m_text_118 hl (by decide) rfl (fun ls hl => ?_)
          have hroom : lN9 v (k * 30 + j) + w0 ≤ 16 := (nI_leI (by omega) (by decide)).mp (show nI (lN9 v (k * 30 + j) + w0) ≤ nI 16 from c_98)
          have e0 : v = uln (utx v (lenT (ztx v) ((k * 30 + j) * 16 + lN9 v (k * 30 + j)) p0 w0 0)) (upd (zln v) (k * 30 + j) (nI (lN9 v (k * 30 + j) + 0))) := by show v = (v.1, v.2.1, v.2.2.1, v.2.2.2.1, v.2.2.2.2.1, v.2.2.2.2.2.1, v.2.2.2.2.2.2.1, v.2.2.2.2.2.2.2.1, upd (zln v) (k * 30 + j) (nI (lN9 v (k * 30 + j) + 0)), v.2.2.2.2.2.2.2.2.2); rw [Nat.add_zero, upd_same (hi.ln (k * 30 + j) (by omega)).2]
          have hP : va_P (dC, dI) vwCl (wM o cI cZ cL (uln (utx v (lenT (ztx v) ((k * 30 + j) * 16 + lN9 v (k * 30 + j)) p0 w0 0)) (upd (zln v) (k * 30 + j) (nI (lN9 v (k * 30 + j) + 0)))) 0 ch cd) H := by rw [← e0]; exact hP
          have hD : va_D A (wM o cI cZ cL (uln (utx v (lenT (ztx v) ((k * 30 + j) * 16 + lN9 v (k * 30 + j)) p0 w0 0)) (upd (zln v) (k * 30 + j) (nI (lN9 v (k * 30 + j) + 0)))) 0 ch cd) := by rw [← e0]; exact hD
          refine wr_loop (nL := 10) w0 (fun t => wM o cI cZ cL (uln (utx v (lenT (ztx v) ((k * 30 + j) * 16 + lN9 v (k * 30 + j)) p0 w0 t)) (upd (zln v) (k * 30 + j) (nI (lN9 v (k * 30 + j) + t)))) 0 ch cd) (fun t => [(0, .ref (o 0)), (3, .long p0), (7, .int (nI (k * 30 + j))), (9, .int (dn w0 t))]) ?_ _ _ ls hP hD hS (lv_sub hl [4, 7, 2, 0] rfl)
          intro t H locs ls hle hP hD hS hl ih
          have hl : lv_has ls 10 [(0, .ref (o 0)), (3, .long p0), (7, .int (nI (k * 30 + j))), (9, .int (dn w0 t))] := hl
          have hP : va_P (dC, dI) vwCl (wM o cI cZ cL (uln (utx v (lenT (ztx v) ((k * 30 + j) * 16 + lN9 v (k * 30 + j)) p0 w0 t)) (upd (zln v) (k * 30 + j) (nI (lN9 v (k * 30 + j) + t)))) 0 ch cd) H := hP
          have hD : va_D A (wM o cI cZ cL (uln (utx v (lenT (ztx v) ((k * 30 + j) * 16 + lN9 v (k * 30 + j)) p0 w0 t)) (upd (zln v) (k * 30 + j) (nI (lN9 v (k * 30 + j) + t)))) 0 ch cd) := hD
          refine lv_iload hx hb z_m_text_120 (lv_at hl 3 rfl) ?_
          refine lv_if_lt (tgt := 172) hx hb z_m_text_122 (by decide) (fun c_122 => ?_) (fun c_122 => ?_)
          · obtain rfl : w0 = t := by have := dn_neg hw2 c_122; omega
            refine lv_aload_n hx hb z_m_text_172 rfl (lv_at hl 0 rfl) ?_
            refine va_get (D := (dC, dI)) (ci := 4) (v := .ref (o 6)) (C := R4) (T := T4) (N := 17) hx hb hts (cw_sub iC4) hown hK hP 0 rfl rfl 6 (by decide) (hts _ (cw_in mw_486 rfl)) (fun _ h9 => h9) rfl z_m_text_173 ?_
            refine lv_iload hx hb z_m_text_176 (lv_at hl 2 rfl) ?_
            refine xa_i hx hb hK hP 6 0 rfl rfl (k := (k * 30 + j)) (y := nI (lN9 v (k * 30 + j) + w0)) (by omega) (by decide) (pk_us) z_m_text_178 ?_
            exact W.iret (v := nI (lN9 v (k * 30 + j) + w0)) hx hb hr (fun t ht hW => ⟨⟨nI (lN9 v (k * 30 + j) + w0), (uln (utx v (lenT (ztx v) ((k * 30 + j) * 16 + lN9 v (k * 30 + j)) p0 w0 w0)) (upd (zln v) (k * 30 + j) (nI (lN9 v (k * 30 + j) + w0))), 0, ch, cd), rfl, ⟨0, rfl, Or.inr (Or.inr ⟨k, j, w0, hk, hj, rfl, rfl, ⟨hw1, hw2⟩, rfl, Or.inr (Or.inr ⟨rfl, c_68, hroom, rfl, rfl⟩)⟩)⟩, by rw [ht]; exact hP, va_K.moved hW.alike hK, hD⟩, hS.F ht⟩) hS.2.2 z_m_text_179
          · have hlt : t < w0 := dn_pos c_122
            rw [dn_t hlt] at hl
            refine lv_aload_n hx hb z_m_text_125 rfl (lv_at hl 0 rfl) ?_
            refine va_get (D := (dC, dI)) (ci := 4) (v := .ref (o 7)) (C := R4) (T := T4) (N := 17) hx hb hts (cw_sub iC4) hown hK hP 0 rfl rfl 7 (by decide) (hts _ (cw_in mw_487 rfl)) (fun _ h9 => h9) rfl z_m_text_126 ?_
            refine lv_bipush (v := 16) hx hb z_m_text_129 (by decide) ?_
            refine lv_iload hx hb z_m_text_131 (lv_at hl 2 rfl) ?_
            refine lv_imul hx hb z_m_text_133 ?_
            refine lv_aload_n hx hb z_m_text_134 rfl (lv_at hl 0 rfl) ?_
            refine va_get (D := (dC, dI)) (ci := 4) (v := .ref (o 6)) (C := R4) (T := T4) (N := 17) hx hb hts (cw_sub iC4) hown hK hP 0 rfl rfl 6 (by decide) (hts _ (cw_in mw_486 rfl)) (fun _ h9 => h9) rfl z_m_text_135 ?_
            refine lv_iload hx hb z_m_text_138 (lv_at hl 2 rfl) ?_
            refine xa_i hx hb hK hP 6 0 rfl rfl (k := (k * 30 + j)) (y := nI (lN9 v (k * 30 + j) + t)) (by omega) (by decide) (pk_us) z_m_text_140 ?_
            refine lv_iadd hx hb z_m_text_141 ?_
            rw [s16_nI, ← Nat.add_assoc]
            refine lv_lload_n hx hb z_m_text_142 rfl (lv_at hl 1 rfl) ?_
            refine lv_bipush (v := 8) hx hb z_m_text_143 (by decide) ?_
            refine lv_iload hx hb z_m_text_145 (lv_at hl 3 rfl) ?_
            refine lv_imul hx hb z_m_text_147 ?_
            refine lv_lshr hx hb z_m_text_148 rfl ?_
            refine lv_l2i hx hb z_m_text_149 rfl ?_
            refine lv_sipush (v := 255) hx hb z_m_text_150 (by decide) ?_
            refine lv_iand hx hb z_m_text_153 ?_
            rw [byteF_dn hlt hw2]
            refine xs_i hx hb hK hP hD hS 7 0 rfl rfl (k := (k * 30 + j) * 16 + lN9 v (k * 30 + j) + t) (by omega) (by decide) z_m_text_154 (fun H locs hP hD hS => ?_)
            have e7 := txW (f := ztx v) (b := (k * 30 + j) * 16 + lN9 v (k * 30 + j)) (p0 := p0) (n := w0) (t := t)
            have hP : va_P (dC, dI) vwCl (wM o cI cZ cL (uln (utx v (lenT (ztx v) ((k * 30 + j) * 16 + lN9 v (k * 30 + j)) p0 w0 (t + 1))) (upd (zln v) (k * 30 + j) (nI (lN9 v (k * 30 + j) + t)))) 0 ch cd) H := by have h9 := hP; rw [show upd (fun i => ztx (uln (utx v (lenT (ztx v) ((k * 30 + j) * 16 + lN9 v (k * 30 + j)) p0 w0 t)) (upd (zln v) (k * 30 + j) (nI (lN9 v (k * 30 + j) + t)))) i &&& 255) ((k * 30 + j) * 16 + lN9 v (k * 30 + j) + t) (byteF p0 (nI w0) (nI t)) = fun i => lenT (ztx v) ((k * 30 + j) * 16 + lN9 v (k * 30 + j)) p0 w0 (t + 1) i &&& 255 from e7] at h9; exact h9
            have hD : va_D A (wM o cI cZ cL (uln (utx v (lenT (ztx v) ((k * 30 + j) * 16 + lN9 v (k * 30 + j)) p0 w0 (t + 1))) (upd (zln v) (k * 30 + j) (nI (lN9 v (k * 30 + j) + t)))) 0 ch cd) := by have h9 := hD; rw [show upd (fun i => ztx (uln (utx v (lenT (ztx v) ((k * 30 + j) * 16 + lN9 v (k * 30 + j)) p0 w0 t)) (upd (zln v) (k * 30 + j) (nI (lN9 v (k * 30 + j) + t)))) i &&& 255) ((k * 30 + j) * 16 + lN9 v (k * 30 + j) + t) (byteF p0 (nI w0) (nI t)) = fun i => lenT (ztx v) ((k * 30 + j) * 16 + lN9 v (k * 30 + j)) p0 w0 (t + 1) i &&& 255 from e7] at h9; exact h9
            refine lv_aload_n hx hb z_m_text_155 rfl (lv_at hl 0 rfl) ?_
            refine va_get (D := (dC, dI)) (ci := 4) (v := .ref (o 6)) (C := R4) (T := T4) (N := 17) hx hb hts (cw_sub iC4) hown hK hP 0 rfl rfl 6 (by decide) (hts _ (cw_in mw_486 rfl)) (fun _ h9 => h9) rfl z_m_text_156 ?_
            refine lv_iload hx hb z_m_text_159 (lv_at hl 2 rfl) ?_
            refine lv_dup2_11 hx hb z_m_text_161 rfl rfl ?_
            refine xa_i hx hb hK hP 6 0 rfl rfl (k := (k * 30 + j)) (y := nI (lN9 v (k * 30 + j) + t)) (by omega) (by decide) (pk_us) z_m_text_162 ?_
            refine lv_iconst (v := 1) hx hb z_m_text_163 (by decide) ?_
            refine lv_iadd hx hb z_m_text_164 ?_
            rw [nI_1]
            refine xs_i hx hb hK hP hD hS 6 0 rfl rfl (k := k * 30 + j) (by omega) (by decide) z_m_text_165 (fun H locs hP hD hS => ?_)
            have hP : va_P (dC, dI) vwCl (wM o cI cZ cL (uln (utx v (lenT (ztx v) ((k * 30 + j) * 16 + lN9 v (k * 30 + j)) p0 w0 (t + 1))) (upd (zln v) (k * 30 + j) (nI (lN9 v (k * 30 + j) + (t + 1))))) 0 ch cd) H := by have h9 := hP; rw [show upd (zln (uln (utx v (lenT (ztx v) ((k * 30 + j) * 16 + lN9 v (k * 30 + j)) p0 w0 (t + 1))) (upd (zln v) (k * 30 + j) (nI (lN9 v (k * 30 + j) + t))))) (k * 30 + j) (nI (lN9 v (k * 30 + j) + t + 1)) = upd (zln v) (k * 30 + j) (nI (lN9 v (k * 30 + j) + (t + 1))) from upd_upd] at h9; exact h9
            have hD : va_D A (wM o cI cZ cL (uln (utx v (lenT (ztx v) ((k * 30 + j) * 16 + lN9 v (k * 30 + j)) p0 w0 (t + 1))) (upd (zln v) (k * 30 + j) (nI (lN9 v (k * 30 + j) + (t + 1))))) 0 ch cd) := by have h9 := hD; rw [show upd (zln (uln (utx v (lenT (ztx v) ((k * 30 + j) * 16 + lN9 v (k * 30 + j)) p0 w0 (t + 1))) (upd (zln v) (k * 30 + j) (nI (lN9 v (k * 30 + j) + t))))) (k * 30 + j) (nI (lN9 v (k * 30 + j) + t + 1)) = upd (zln v) (k * 30 + j) (nI (lN9 v (k * 30 + j) + (t + 1))) from upd_upd] at h9; exact h9
            refine lv_iinc (v := dn w0 (t + 1)) (lv' := [(9, .int (dn w0 (t + 1))), (0, .ref (o 0)), (3, .long p0), (7, .int (nI (k * 30 + j)))]) hx hb z_m_text_166 hl (k := 3) rfl (by rw [← dn_t hlt]; exact dn_s hlt) (by decide) rfl (fun ls hl => ?_)
            refine lv_goto (tgt := 120) hx hb z_m_text_169 (by decide) ?_
            exact ih _ _ ls hlt hP hD hS (lv_sub hl [1, 2, 3, 0] rfl)
        · refine lv_iconst (v := 1) hx hb z_m_text_101 (by decide) ?_
          refine lv_goto (tgt := 106) hx hb z_m_text_102 (by decide) ?_
          refine wrVi (As := [.int 0, .int 0, .int 0, .int 1]) (rest := []) (wf := fun u : St × Int32 × Int32 × Int64 => wM o cI cZ cL u.1 u.2.1 u.2.2.1 u.2.2.2) ⟨hx, hb, hml, hown, hts⟩ (c_m_throwing l dC dI o cI cZ cL v th ch cd s.heap.size 0 0 0 1) mw_554 mw_551 mw_553 mp_27 mw_6 rfl yd_m_throwing ⟨⟨rfl, rfl⟩, Nat.le_of_ble_eq_true rfl, Nat.le_of_ble_eq_true rfl⟩ ⟨Nat.le_of_ble_eq_true rfl, Nat.le_of_ble_eq_true rfl⟩ (WrC.preV hP hK hD hN (ci := 4) (q0 := 0) rfl rfl) (wr_free hD hS hA) hS rfl hl.1 rfl (Nat.le_of_ble_eq_true rfl) z_m_text_106 (fun r_8 u_9 H locs h_10 hP hD hS hz9 => ?_)
          obtain ⟨rfl, rfl⟩ : r_8 = 1 ∧ u_9 = (v, 4, ch, cd) := ⟨h_10.1.trans (by decide), h_10.2.trans (by rw [show thF 0 0 0 1 = 4 from by decide])⟩
          have hP : va_P (dC, dI) vwCl (wM o cI cZ cL v 4 ch cd) H := hP
          have hD : va_D A (wM o cI cZ cL v 4 ch cd) := hD
          refine lv_if_eq (tgt := 114) hx hb z_m_text_109 (by decide) (fun c9 => absurd c9 (by decide)) (fun _ => ?_)
          refine lv_iconst (v := 0) hx hb z_m_text_112 (by decide) ?_
          exact W.iret (v := 0) hx hb hr (fun t ht hW => ⟨⟨0, (v, 4, ch, cd), rfl, ⟨4, rfl, Or.inr (Or.inr ⟨k, j, w0, hk, hj, rfl, rfl, ⟨hw1, hw2⟩, rfl, Or.inr (Or.inl ⟨rfl, rfl, c_68, fun h => c_98 (nI_le (b := 16) h (by decide))⟩)⟩)⟩, by rw [ht]; exact hP, va_K.moved hW.alike hK, hD⟩, hS.F ht⟩) hS.2.2 z_m_text_113
      · refine lv_iconst (v := 1) hx hb z_m_text_71 (by decide) ?_
        refine lv_goto (tgt := 76) hx hb z_m_text_72 (by decide) ?_
        refine lv_iload hx hb z_m_text_76 (lv_at hl 2 rfl) ?_
        refine lv_if_ne (tgt := 105) hx hb z_m_text_78 (by decide) (fun c9 => absurd rfl c9) (fun _ => ?_)
        refine lv_iload hx hb z_m_text_81 (lv_at hl 0 rfl) ?_
        refine lv_if_ne (tgt := 105) hx hb z_m_text_83 (by decide) (fun c9 => absurd rfl c9) (fun _ => ?_)
        obtain ⟨w0, hw1, hw2, rfl⟩ := in18.mp h_4
        have hL := (hi.ln (k * 30 + j) (by omega)).1
        refine lv_aload_n hx hb z_m_text_86 rfl (lv_at hl 3 rfl) ?_
        refine va_get (D := (dC, dI)) (ci := 4) (v := .ref (o 6)) (C := R4) (T := T4) (N := 17) hx hb hts (cw_sub iC4) hown hK hP 0 rfl rfl 6 (by decide) (hts _ (cw_in mw_486 rfl)) (fun _ h9 => h9) rfl z_m_text_87 ?_
        refine lv_iload hx hb z_m_text_90 (lv_at hl 1 rfl) ?_
        refine xa_i hx hb hK hP 6 0 rfl rfl (k := (k * 30 + j)) (y := nI (lN9 v (k * 30 + j))) (by omega) (by decide) ((hi.ln (k * 30 + j) (by omega)).2) z_m_text_92 ?_
        refine lv_iload hx hb z_m_text_93 (lv_at hl 7 rfl) ?_
        refine lv_iadd hx hb z_m_text_95 ?_
        rw [nI_add]
        refine lv_bipush (v := 16) hx hb z_m_text_96 (by decide) ?_
        refine lv_icmp_le (tgt := 105) hx hb z_m_text_98 (by decide) (fun c_98 => ?_) (fun c_98 => ?_)
        · refine lv_iconst (v := 0) hx hb z_m_text_105 (by decide) ?_
          refine wrVi (As := [.int 0, .int 0, .int 1, .int 0]) (rest := []) (wf := fun u : St × Int32 × Int32 × Int64 => wM o cI cZ cL u.1 u.2.1 u.2.2.1 u.2.2.2) ⟨hx, hb, hml, hown, hts⟩ (c_m_throwing l dC dI o cI cZ cL v th ch cd s.heap.size 0 0 1 0) mw_554 mw_551 mw_553 mp_27 mw_6 rfl yd_m_throwing ⟨⟨rfl, rfl⟩, Nat.le_of_ble_eq_true rfl, Nat.le_of_ble_eq_true rfl⟩ ⟨Nat.le_of_ble_eq_true rfl, Nat.le_of_ble_eq_true rfl⟩ (WrC.preV hP hK hD hN (ci := 4) (q0 := 0) rfl rfl) (wr_free hD hS hA) hS rfl hl.1 rfl (Nat.le_of_ble_eq_true rfl) z_m_text_106 (fun r_11 u_12 H locs h_13 hP hD hS hz9 => ?_)
          obtain ⟨rfl, rfl⟩ : r_11 = 1 ∧ u_12 = (v, 3, ch, cd) := ⟨h_13.1.trans (by decide), h_13.2.trans (by rw [show thF 0 0 1 0 = 3 from by decide])⟩
          have hP : va_P (dC, dI) vwCl (wM o cI cZ cL v 3 ch cd) H := hP
          have hD : va_D A (wM o cI cZ cL v 3 ch cd) := hD
          refine lv_if_eq (tgt := 114) hx hb z_m_text_109 (by decide) (fun c9 => absurd c9 (by decide)) (fun _ => ?_)
          refine lv_iconst (v := 0) hx hb z_m_text_112 (by decide) ?_
          exact W.iret (v := 0) hx hb hr (fun t ht hW => ⟨⟨0, (v, 3, ch, cd), rfl, ⟨3, rfl, Or.inr (Or.inr ⟨k, j, w0, hk, hj, rfl, rfl, ⟨hw1, hw2⟩, rfl, Or.inl ⟨rfl, rfl, c_68⟩⟩)⟩, by rw [ht]; exact hP, va_K.moved hW.alike hK, hD⟩, hS.F ht⟩) hS.2.2 z_m_text_113
        · refine lv_iconst (v := 1) hx hb z_m_text_101 (by decide) ?_
          refine lv_goto (tgt := 106) hx hb z_m_text_102 (by decide) ?_
          refine wrVi (As := [.int 0, .int 0, .int 1, .int 1]) (rest := []) (wf := fun u : St × Int32 × Int32 × Int64 => wM o cI cZ cL u.1 u.2.1 u.2.2.1 u.2.2.2) ⟨hx, hb, hml, hown, hts⟩ (c_m_throwing l dC dI o cI cZ cL v th ch cd s.heap.size 0 0 1 1) mw_554 mw_551 mw_553 mp_27 mw_6 rfl yd_m_throwing ⟨⟨rfl, rfl⟩, Nat.le_of_ble_eq_true rfl, Nat.le_of_ble_eq_true rfl⟩ ⟨Nat.le_of_ble_eq_true rfl, Nat.le_of_ble_eq_true rfl⟩ (WrC.preV hP hK hD hN (ci := 4) (q0 := 0) rfl rfl) (wr_free hD hS hA) hS rfl hl.1 rfl (Nat.le_of_ble_eq_true rfl) z_m_text_106 (fun r_14 u_15 H locs h_16 hP hD hS hz9 => ?_)
          obtain ⟨rfl, rfl⟩ : r_14 = 1 ∧ u_15 = (v, 3, ch, cd) := ⟨h_16.1.trans (by decide), h_16.2.trans (by rw [show thF 0 0 1 1 = 3 from by decide])⟩
          have hP : va_P (dC, dI) vwCl (wM o cI cZ cL v 3 ch cd) H := hP
          have hD : va_D A (wM o cI cZ cL v 3 ch cd) := hD
          refine lv_if_eq (tgt := 114) hx hb z_m_text_109 (by decide) (fun c9 => absurd c9 (by decide)) (fun _ => ?_)
          refine lv_iconst (v := 0) hx hb z_m_text_112 (by decide) ?_
          exact W.iret (v := 0) hx hb hr (fun t ht hW => ⟨⟨0, (v, 3, ch, cd), rfl, ⟨3, rfl, Or.inr (Or.inr ⟨k, j, w0, hk, hj, rfl, rfl, ⟨hw1, hw2⟩, rfl, Or.inl ⟨rfl, rfl, c_68⟩⟩)⟩, by rw [ht]; exact hP, va_K.moved hW.alike hK, hD⟩, hS.F ht⟩) hS.2.2 z_m_text_113
    · refine lv_if_ne (tgt := 48) hx hb z_m_text_41 (by decide) (fun c9 => absurd rfl c9) (fun _ => ?_)
      refine lv_iconst (v := 1) hx hb z_m_text_44 (by decide) ?_
      refine lv_goto (tgt := 49) hx hb z_m_text_45 (by decide) ?_
      refine lv_istore (lv' := [(8, .int 1), (7, .int (nI (k * 30 + j))), (6, .int 0), (0, .ref (o 0)), (1, .int (nI k)), (2, .int (nI j)), (3, .long p0), (5, .int n0)]) hx hb z_m_text_49 hl (by decide) rfl (fun ls hl => ?_)
      refine lv_aload_n hx hb z_m_text_51 rfl (lv_at hl 3 rfl) ?_
      refine lv_iload hx hb z_m_text_52 (lv_at hl 2 rfl) ?_
      refine lv_iload hx hb z_m_text_54 (lv_at hl 0 rfl) ?_
      refine lv_iload hx hb z_m_text_56 (lv_at hl 2 rfl) ?_
      refine lv_if_ne (tgt := 75) hx hb z_m_text_58 (by decide) (fun c9 => absurd rfl c9) (fun _ => ?_)
      refine lv_aload_n hx hb z_m_text_61 rfl (lv_at hl 3 rfl) ?_
      refine va_get (D := (dC, dI)) (ci := 4) (v := .ref (o 4)) (C := R4) (T := T4) (N := 17) hx hb hts (cw_sub iC4) hown hK hP 0 rfl rfl 4 (by decide) (hts _ (cw_in mw_484 rfl)) (fun _ h9 => h9) rfl z_m_text_62 ?_
      refine lv_iload hx hb z_m_text_65 (lv_at hl 1 rfl) ?_
      refine xa_z hx hb hK hP 4 1 rfl rfl (k := (k * 30 + j)) (y := zop v (k * 30 + j)) (by omega) (by decide) (rfl) z_m_text_67 ?_
      refine lv_if_ne (tgt := 75) hx hb z_m_text_68 (by decide) (fun c_68 => ?_) (fun c_68 => ?_)
      · refine lv_iconst (v := 0) hx hb z_m_text_75 (by decide) ?_
        refine lv_iload hx hb z_m_text_76 (lv_at hl 2 rfl) ?_
        refine lv_if_ne (tgt := 105) hx hb z_m_text_78 (by decide) (fun c9 => absurd rfl c9) (fun _ => ?_)
        refine lv_iload hx hb z_m_text_81 (lv_at hl 0 rfl) ?_
        refine lv_if_ne (tgt := 105) hx hb z_m_text_83 (by decide) (fun _ => ?_) (fun c9 => absurd c9 (by decide))
        refine lv_iconst (v := 0) hx hb z_m_text_105 (by decide) ?_
        refine wrVi (As := [.int 0, .int 1, .int 0, .int 0]) (rest := []) (wf := fun u : St × Int32 × Int32 × Int64 => wM o cI cZ cL u.1 u.2.1 u.2.2.1 u.2.2.2) ⟨hx, hb, hml, hown, hts⟩ (c_m_throwing l dC dI o cI cZ cL v th ch cd s.heap.size 0 1 0 0) mw_554 mw_551 mw_553 mp_27 mw_6 rfl yd_m_throwing ⟨⟨rfl, rfl⟩, Nat.le_of_ble_eq_true rfl, Nat.le_of_ble_eq_true rfl⟩ ⟨Nat.le_of_ble_eq_true rfl, Nat.le_of_ble_eq_true rfl⟩ (WrC.preV hP hK hD hN (ci := 4) (q0 := 0) rfl rfl) (wr_free hD hS hA) hS rfl hl.1 rfl (Nat.le_of_ble_eq_true rfl) z_m_text_106 (fun r_17 u_18 H locs h_19 hP hD hS hz9 => ?_)
        obtain ⟨rfl, rfl⟩ : r_17 = 1 ∧ u_18 = (v, 2, ch, cd) := ⟨h_19.1.trans (by decide), h_19.2.trans (by rw [show thF 0 1 0 0 = 2 from by decide])⟩
        have hP : va_P (dC, dI) vwCl (wM o cI cZ cL v 2 ch cd) H := hP
        have hD : va_D A (wM o cI cZ cL v 2 ch cd) := hD
        refine lv_if_eq (tgt := 114) hx hb z_m_text_109 (by decide) (fun c9 => absurd c9 (by decide)) (fun _ => ?_)
        refine lv_iconst (v := 0) hx hb z_m_text_112 (by decide) ?_
        exact W.iret (v := 0) hx hb hr (fun t ht hW => ⟨⟨0, (v, 2, ch, cd), rfl, ⟨2, rfl, Or.inr (Or.inl ⟨rfl, rfl, ⟨k, j, hk, hj, rfl, rfl⟩, fun h => h_4 (in18.mpr h)⟩)⟩, by rw [ht]; exact hP, va_K.moved hW.alike hK, hD⟩, hS.F ht⟩) hS.2.2 z_m_text_113
      · refine lv_iconst (v := 1) hx hb z_m_text_71 (by decide) ?_
        refine lv_goto (tgt := 76) hx hb z_m_text_72 (by decide) ?_
        refine lv_iload hx hb z_m_text_76 (lv_at hl 2 rfl) ?_
        refine lv_if_ne (tgt := 105) hx hb z_m_text_78 (by decide) (fun c9 => absurd rfl c9) (fun _ => ?_)
        refine lv_iload hx hb z_m_text_81 (lv_at hl 0 rfl) ?_
        refine lv_if_ne (tgt := 105) hx hb z_m_text_83 (by decide) (fun _ => ?_) (fun c9 => absurd c9 (by decide))
        refine lv_iconst (v := 0) hx hb z_m_text_105 (by decide) ?_
        refine wrVi (As := [.int 0, .int 1, .int 1, .int 0]) (rest := []) (wf := fun u : St × Int32 × Int32 × Int64 => wM o cI cZ cL u.1 u.2.1 u.2.2.1 u.2.2.2) ⟨hx, hb, hml, hown, hts⟩ (c_m_throwing l dC dI o cI cZ cL v th ch cd s.heap.size 0 1 1 0) mw_554 mw_551 mw_553 mp_27 mw_6 rfl yd_m_throwing ⟨⟨rfl, rfl⟩, Nat.le_of_ble_eq_true rfl, Nat.le_of_ble_eq_true rfl⟩ ⟨Nat.le_of_ble_eq_true rfl, Nat.le_of_ble_eq_true rfl⟩ (WrC.preV hP hK hD hN (ci := 4) (q0 := 0) rfl rfl) (wr_free hD hS hA) hS rfl hl.1 rfl (Nat.le_of_ble_eq_true rfl) z_m_text_106 (fun r_20 u_21 H locs h_22 hP hD hS hz9 => ?_)
        obtain ⟨rfl, rfl⟩ : r_20 = 1 ∧ u_21 = (v, 2, ch, cd) := ⟨h_22.1.trans (by decide), h_22.2.trans (by rw [show thF 0 1 1 0 = 2 from by decide])⟩
        have hP : va_P (dC, dI) vwCl (wM o cI cZ cL v 2 ch cd) H := hP
        have hD : va_D A (wM o cI cZ cL v 2 ch cd) := hD
        refine lv_if_eq (tgt := 114) hx hb z_m_text_109 (by decide) (fun c9 => absurd c9 (by decide)) (fun _ => ?_)
        refine lv_iconst (v := 0) hx hb z_m_text_112 (by decide) ?_
        exact W.iret (v := 0) hx hb hr (fun t ht hW => ⟨⟨0, (v, 2, ch, cd), rfl, ⟨2, rfl, Or.inr (Or.inl ⟨rfl, rfl, ⟨k, j, hk, hj, rfl, rfl⟩, fun h => h_4 (in18.mpr h)⟩)⟩, by rw [ht]; exact hP, va_K.moved hW.alike hK, hD⟩, hS.F ht⟩) hS.2.2 z_m_text_113
  · refine lv_if_ne (tgt := 13) hx hb z_m_text_6 (by decide) (fun c9 => absurd rfl c9) (fun _ => ?_)
    refine lv_iconst (v := 1) hx hb z_m_text_9 (by decide) ?_
    refine lv_goto (tgt := 14) hx hb z_m_text_10 (by decide) ?_
    refine lv_istore (lv' := [(6, .int 1), (0, .ref (o 0)), (1, .int x), (2, .int y), (3, .long p0), (5, .int n0)]) hx hb z_m_text_14 hl (by decide) rfl (fun ls hl => ?_)
    refine lv_iload hx hb z_m_text_16 (lv_at hl 0 rfl) ?_
    refine lv_if_eq (tgt := 25) hx hb z_m_text_18 (by decide) (fun c9 => absurd c9 (by decide)) (fun _ => ?_)
    refine lv_iconst (v := 0) hx hb z_m_text_21 (by decide) ?_
    refine lv_goto (tgt := 31) hx hb z_m_text_22 (by decide) ?_
    refine lv_istore (lv' := [(7, .int 0), (6, .int 1), (0, .ref (o 0)), (1, .int x), (2, .int y), (3, .long p0), (5, .int n0)]) hx hb z_m_text_31 hl (by decide) rfl (fun ls hl => ?_)
    refine lv_iload hx hb z_m_text_33 (lv_at hl 6 rfl) ?_
    refine lv_iconst (v := 1) hx hb z_m_text_35 (by decide) ?_
    refine lv_bipush (v := 8) hx hb z_m_text_36 (by decide) ?_
    refine rdSi (As := [.int n0, .int 1, .int 8]) (rest := []) ⟨hx, hb, hml, hown, hts⟩ (c_m_in l n0 1 8) mw_546 mw_544 mw_545 mw_6 yd_m_in ⟨⟨rfl, rfl⟩, Nat.le_of_ble_eq_true rfl, Nat.le_of_ble_eq_true rfl⟩ ⟨Nat.zero_le _, Nat.zero_le _⟩ (pre_pure) rfl hl.1 rfl (Nat.le_of_ble_eq_true rfl) z_m_text_38 (fun r_23 h_24 => ?_)
    rcases h_24 with ⟨rfl, h_24⟩ | ⟨rfl, h_24⟩
    · refine lv_if_ne (tgt := 48) hx hb z_m_text_41 (by decide) (fun _ => ?_) (fun c9 => absurd c9 (by decide))
      refine lv_iconst (v := 0) hx hb z_m_text_48 (by decide) ?_
      refine lv_istore (lv' := [(8, .int 0), (7, .int 0), (6, .int 1), (0, .ref (o 0)), (1, .int x), (2, .int y), (3, .long p0), (5, .int n0)]) hx hb z_m_text_49 hl (by decide) rfl (fun ls hl => ?_)
      refine lv_aload_n hx hb z_m_text_51 rfl (lv_at hl 3 rfl) ?_
      refine lv_iload hx hb z_m_text_52 (lv_at hl 2 rfl) ?_
      refine lv_iload hx hb z_m_text_54 (lv_at hl 0 rfl) ?_
      refine lv_iload hx hb z_m_text_56 (lv_at hl 2 rfl) ?_
      refine lv_if_ne (tgt := 75) hx hb z_m_text_58 (by decide) (fun _ => ?_) (fun c9 => absurd c9 (by decide))
      refine lv_iconst (v := 0) hx hb z_m_text_75 (by decide) ?_
      refine lv_iload hx hb z_m_text_76 (lv_at hl 2 rfl) ?_
      refine lv_if_ne (tgt := 105) hx hb z_m_text_78 (by decide) (fun _ => ?_) (fun c9 => absurd c9 (by decide))
      refine lv_iconst (v := 0) hx hb z_m_text_105 (by decide) ?_
      refine wrVi (As := [.int 1, .int 0, .int 0, .int 0]) (rest := []) (wf := fun u : St × Int32 × Int32 × Int64 => wM o cI cZ cL u.1 u.2.1 u.2.2.1 u.2.2.2) ⟨hx, hb, hml, hown, hts⟩ (c_m_throwing l dC dI o cI cZ cL v th ch cd s.heap.size 1 0 0 0) mw_554 mw_551 mw_553 mp_27 mw_6 rfl yd_m_throwing ⟨⟨rfl, rfl⟩, Nat.le_of_ble_eq_true rfl, Nat.le_of_ble_eq_true rfl⟩ ⟨Nat.le_of_ble_eq_true rfl, Nat.le_of_ble_eq_true rfl⟩ (WrC.preV hP hK hD hN (ci := 4) (q0 := 0) rfl rfl) (wr_free hD hS hA) hS rfl hl.1 rfl (Nat.le_of_ble_eq_true rfl) z_m_text_106 (fun r_25 u_26 H locs h_27 hP hD hS hz9 => ?_)
      obtain ⟨rfl, rfl⟩ : r_25 = 1 ∧ u_26 = (v, 1, ch, cd) := ⟨h_27.1.trans (by decide), h_27.2.trans (by rw [show thF 1 0 0 0 = 1 from by decide])⟩
      have hP : va_P (dC, dI) vwCl (wM o cI cZ cL v 1 ch cd) H := hP
      have hD : va_D A (wM o cI cZ cL v 1 ch cd) := hD
      refine lv_if_eq (tgt := 114) hx hb z_m_text_109 (by decide) (fun c9 => absurd c9 (by decide)) (fun _ => ?_)
      refine lv_iconst (v := 0) hx hb z_m_text_112 (by decide) ?_
      exact W.iret (v := 0) hx hb hr (fun t ht hW => ⟨⟨0, (v, 1, ch, cd), rfl, ⟨1, rfl, Or.inl ⟨rfl, rfl, h_2⟩⟩, by rw [ht]; exact hP, va_K.moved hW.alike hK, hD⟩, hS.F ht⟩) hS.2.2 z_m_text_113
    · refine lv_if_ne (tgt := 48) hx hb z_m_text_41 (by decide) (fun c9 => absurd rfl c9) (fun _ => ?_)
      refine lv_iconst (v := 1) hx hb z_m_text_44 (by decide) ?_
      refine lv_goto (tgt := 49) hx hb z_m_text_45 (by decide) ?_
      refine lv_istore (lv' := [(8, .int 1), (7, .int 0), (6, .int 1), (0, .ref (o 0)), (1, .int x), (2, .int y), (3, .long p0), (5, .int n0)]) hx hb z_m_text_49 hl (by decide) rfl (fun ls hl => ?_)
      refine lv_aload_n hx hb z_m_text_51 rfl (lv_at hl 3 rfl) ?_
      refine lv_iload hx hb z_m_text_52 (lv_at hl 2 rfl) ?_
      refine lv_iload hx hb z_m_text_54 (lv_at hl 0 rfl) ?_
      refine lv_iload hx hb z_m_text_56 (lv_at hl 2 rfl) ?_
      refine lv_if_ne (tgt := 75) hx hb z_m_text_58 (by decide) (fun _ => ?_) (fun c9 => absurd c9 (by decide))
      refine lv_iconst (v := 0) hx hb z_m_text_75 (by decide) ?_
      refine lv_iload hx hb z_m_text_76 (lv_at hl 2 rfl) ?_
      refine lv_if_ne (tgt := 105) hx hb z_m_text_78 (by decide) (fun _ => ?_) (fun c9 => absurd c9 (by decide))
      refine lv_iconst (v := 0) hx hb z_m_text_105 (by decide) ?_
      refine wrVi (As := [.int 1, .int 1, .int 0, .int 0]) (rest := []) (wf := fun u : St × Int32 × Int32 × Int64 => wM o cI cZ cL u.1 u.2.1 u.2.2.1 u.2.2.2) ⟨hx, hb, hml, hown, hts⟩ (c_m_throwing l dC dI o cI cZ cL v th ch cd s.heap.size 1 1 0 0) mw_554 mw_551 mw_553 mp_27 mw_6 rfl yd_m_throwing ⟨⟨rfl, rfl⟩, Nat.le_of_ble_eq_true rfl, Nat.le_of_ble_eq_true rfl⟩ ⟨Nat.le_of_ble_eq_true rfl, Nat.le_of_ble_eq_true rfl⟩ (WrC.preV hP hK hD hN (ci := 4) (q0 := 0) rfl rfl) (wr_free hD hS hA) hS rfl hl.1 rfl (Nat.le_of_ble_eq_true rfl) z_m_text_106 (fun r_28 u_29 H locs h_30 hP hD hS hz9 => ?_)
      obtain ⟨rfl, rfl⟩ : r_28 = 1 ∧ u_29 = (v, 1, ch, cd) := ⟨h_30.1.trans (by decide), h_30.2.trans (by rw [show thF 1 1 0 0 = 1 from by decide])⟩
      have hP : va_P (dC, dI) vwCl (wM o cI cZ cL v 1 ch cd) H := hP
      have hD : va_D A (wM o cI cZ cL v 1 ch cd) := hD
      refine lv_if_eq (tgt := 114) hx hb z_m_text_109 (by decide) (fun c9 => absurd c9 (by decide)) (fun _ => ?_)
      refine lv_iconst (v := 0) hx hb z_m_text_112 (by decide) ?_
      exact W.iret (v := 0) hx hb hr (fun t ht hW => ⟨⟨0, (v, 1, ch, cd), rfl, ⟨1, rfl, Or.inl ⟨rfl, rfl, h_2⟩⟩, by rw [ht]; exact hP, va_K.moved hW.alike hK, hD⟩, hS.F ht⟩) hS.2.2 z_m_text_113
