set_option maxHeartbeats 4000000 in
set_option maxRecDepth 100000 in
theorem c_d_stir (l : Launch) (s0 v0 : Int32) : Met l y_d_stir (Cond.code y_d_stir b_d_stir 3 (some .int) :: CW) { frames := 0, cells := 0, slots := 0, locals := 0 } (va_Pc [.int s0, .int v0] (fun _ => True)) (vp_Si (fun r : Int32 => r = stirF s0 v0)) 0 0 (fun _ => False) := by
  refine cx_met (by decide) (Nat.le_of_ble_eq_true rfl) ?_
  intro p e s m below meth c hx hb hr hml hts hown hlocks hnm hC ls hl
  have hown : s.vm.findClass "ServiceDesk" = some m.cls := hown
  have hl : lv_has ls 3 [(0, .int s0), (1, .int v0)] := hl
  refine lv_iload_n hx hb z_d_stir_0 rfl (lv_at hl 0 rfl) ?_
  refine lv_iload_n hx hb z_d_stir_1 rfl (lv_at hl 1 rfl) ?_
  refine lv_ixor hx hb z_d_stir_2 ?_
  refine lv_istore_n (lv' := [(2, .int (s0 ^^^ v0)), (0, .int s0), (1, .int v0)]) hx hb z_d_stir_3 rfl hl (by decide) rfl (fun ls hl => ?_)
  refine lv_iload_n hx hb z_d_stir_4 rfl (lv_at hl 0 rfl) ?_
  refine lv_iconst (v := 5) hx hb z_d_stir_5 (by decide) ?_
  refine lv_ishl hx hb z_d_stir_6 ?_
  refine lv_iload_n hx hb z_d_stir_7 rfl (lv_at hl 0 rfl) ?_
  refine lv_bipush (v := 27) hx hb z_d_stir_8 (by decide) ?_
  refine lv_iushr hx hb z_d_stir_10 rfl ?_
  refine lv_ior hx hb z_d_stir_11 ?_
  refine lv_ldc (v := (-2048144789)) hx hb hown (hts _ (cw_in mw_118 rfl)) z_d_stir_12 ?_
  refine lv_imul hx hb z_d_stir_14 ?_
  exact W.iret (v := (((s0 ^^^ v0) <<< (5 &&& 31)) ||| (((s0 ^^^ v0).toUInt32 >>> ((27 : Int32).toUInt32 &&& Int32.toUInt32 31)).toInt32)) * (-2048144789)) hx hb hr (fun t ht _ => ⟨(((s0 ^^^ v0) <<< (5 &&& 31)) ||| (((s0 ^^^ v0).toUInt32 >>> ((27 : Int32).toUInt32 &&& Int32.toUInt32 31)).toInt32)) * (-2048144789), rfl, rfl, ht⟩) t_nil z_d_stir_15

set_option maxHeartbeats 4000000 in
set_option maxRecDepth 100000 in
theorem c_d_isKind (l : Launch) (x : Int32) : Met l y_d_isKind (Cond.code y_d_isKind b_d_isKind 1 (some .boolean) :: CW) { frames := 0, cells := 0, slots := 0, locals := 0 } (va_Pc [.int x] (fun _ => True)) (vp_Si (fun r : Int32 => (r = 1 ∧ isK x) ∨ (r = 0 ∧ ¬ isK x))) 0 0 (fun _ => False) := by
  refine cx_met (by decide) (Nat.le_of_ble_eq_true rfl) ?_
  intro p e s m below meth c hx hb hr hml hts hown hlocks hnm hC ls hl
  have hown : s.vm.findClass "ServiceDesk" = some m.cls := hown
  have hl : lv_has ls 1 [(0, .int x)] := hl
  refine lv_iload_n hx hb z_d_isKind_0 rfl (lv_at hl 0 rfl) ?_
  refine lv_if_lt (tgt := 14) hx hb z_d_isKind_1 (by decide) (fun c_1 => ?_) (fun c_1 => ?_)
  · refine lv_iconst (v := 0) hx hb z_d_isKind_14 (by decide) ?_
    exact W.zret (v := 0) hx hb hr rfl (fun t ht _ => ⟨0, rfl, Or.inr ⟨rfl, k8_no (Or.inl c_1)⟩, ht⟩) t_nil z_d_isKind_15
  · refine lv_iload_n hx hb z_d_isKind_4 rfl (lv_at hl 0 rfl) ?_
    refine lv_bipush (v := 8) hx hb z_d_isKind_5 (by decide) ?_
    refine lv_icmp_ge (tgt := 14) hx hb z_d_isKind_7 (by decide) (fun c_7 => ?_) (fun c_7 => ?_)
    · refine lv_iconst (v := 0) hx hb z_d_isKind_14 (by decide) ?_
      exact W.zret (v := 0) hx hb hr rfl (fun t ht _ => ⟨0, rfl, Or.inr ⟨rfl, k8_no (Or.inr c_7)⟩, ht⟩) t_nil z_d_isKind_15
    · refine lv_iconst (v := 1) hx hb z_d_isKind_10 (by decide) ?_
      refine lv_goto (tgt := 15) hx hb z_d_isKind_11 (by decide) ?_
      exact W.zret (v := 1) hx hb hr rfl (fun t ht _ => ⟨1, rfl, Or.inl ⟨rfl, k8_of c_1 (Int32.not_le.mp c_7)⟩, ht⟩) t_nil z_d_isKind_15

set_option maxHeartbeats 4000000 in
set_option maxRecDepth 100000 in
theorem c_d_isVerb (l : Launch) (x : Int32) : Met l y_d_isVerb (Cond.code y_d_isVerb b_d_isVerb 1 (some .boolean) :: CW) { frames := 0, cells := 0, slots := 0, locals := 0 } (va_Pc [.int x] (fun _ => True)) (vp_Si (fun r : Int32 => (r = 1 ∧ isK x) ∨ (r = 0 ∧ ¬ isK x))) 0 0 (fun _ => False) := by
  refine cx_met (by decide) (Nat.le_of_ble_eq_true rfl) ?_
  intro p e s m below meth c hx hb hr hml hts hown hlocks hnm hC ls hl
  have hown : s.vm.findClass "ServiceDesk" = some m.cls := hown
  have hl : lv_has ls 1 [(0, .int x)] := hl
  refine lv_iload_n hx hb z_d_isVerb_0 rfl (lv_at hl 0 rfl) ?_
  refine lv_if_lt (tgt := 14) hx hb z_d_isVerb_1 (by decide) (fun c_1 => ?_) (fun c_1 => ?_)
  · refine lv_iconst (v := 0) hx hb z_d_isVerb_14 (by decide) ?_
    exact W.zret (v := 0) hx hb hr rfl (fun t ht _ => ⟨0, rfl, Or.inr ⟨rfl, k8_no (Or.inl c_1)⟩, ht⟩) t_nil z_d_isVerb_15
  · refine lv_iload_n hx hb z_d_isVerb_4 rfl (lv_at hl 0 rfl) ?_
    refine lv_bipush (v := 8) hx hb z_d_isVerb_5 (by decide) ?_
    refine lv_icmp_ge (tgt := 14) hx hb z_d_isVerb_7 (by decide) (fun c_7 => ?_) (fun c_7 => ?_)
    · refine lv_iconst (v := 0) hx hb z_d_isVerb_14 (by decide) ?_
      exact W.zret (v := 0) hx hb hr rfl (fun t ht _ => ⟨0, rfl, Or.inr ⟨rfl, k8_no (Or.inr c_7)⟩, ht⟩) t_nil z_d_isVerb_15
    · refine lv_iconst (v := 1) hx hb z_d_isVerb_10 (by decide) ?_
      refine lv_goto (tgt := 15) hx hb z_d_isVerb_11 (by decide) ?_
      exact W.zret (v := 1) hx hb hr rfl (fun t ht _ => ⟨1, rfl, Or.inl ⟨rfl, k8_of c_1 (Int32.not_le.mp c_7)⟩, ht⟩) t_nil z_d_isVerb_15

set_option maxHeartbeats 4000000 in
set_option maxRecDepth 100000 in
theorem c_d_isWithin (l : Launch) (x mo : Int64) : Met l y_d_isWithin (Cond.code y_d_isWithin b_d_isWithin 4 (some .boolean) :: CW) { frames := 0, cells := 0, slots := 0, locals := 0 } (va_Pc [.long x, .long mo] (fun _ => True)) (vp_Si (fun r : Int32 => (r = 1 ∧ (-mo ≤ x ∧ x ≤ mo)) ∨ (r = 0 ∧ ¬ (-mo ≤ x ∧ x ≤ mo)))) 0 0 (fun _ => False) := by
  refine cx_met (by decide) (Nat.le_of_ble_eq_true rfl) ?_
  intro p e s m below meth c hx hb hr hml hts hown hlocks hnm hC ls hl
  have hown : s.vm.findClass "ServiceDesk" = some m.cls := hown
  have hl : lv_has ls 4 [(0, .long x), (2, .long mo)] := hl
  refine lv_lload_n hx hb z_d_isWithin_0 rfl (lv_at hl 0 rfl) ?_
  refine lv_lload_n hx hb z_d_isWithin_1 rfl (lv_at hl 1 rfl) ?_
  refine lv_lneg hx hb z_d_isWithin_2 ?_
  refine W.lcmp hx hb z_d_isWithin_3 ?_
  refine lv_if_lt (tgt := 17) hx hb z_d_isWithin_4 (by decide) (fun c_4 => ?_) (fun c_4 => ?_)
  · refine lv_iconst (v := 0) hx hb z_d_isWithin_17 (by decide) ?_
    exact W.zret (v := 0) hx hb hr rfl (fun t ht _ => ⟨0, rfl, Or.inr ⟨rfl, fun h => Int64.not_lt.mpr h.1 (lcmp_lt.mp c_4)⟩, ht⟩) t_nil z_d_isWithin_18
  · refine lv_lload_n hx hb z_d_isWithin_7 rfl (lv_at hl 0 rfl) ?_
    refine lv_lload_n hx hb z_d_isWithin_8 rfl (lv_at hl 1 rfl) ?_
    refine W.lcmp hx hb z_d_isWithin_9 ?_
    refine lv_if_gt (tgt := 17) hx hb z_d_isWithin_10 (by decide) (fun c_10 => ?_) (fun c_10 => ?_)
    · refine lv_iconst (v := 0) hx hb z_d_isWithin_17 (by decide) ?_
      exact W.zret (v := 0) hx hb hr rfl (fun t ht _ => ⟨0, rfl, Or.inr ⟨rfl, fun h => Int64.not_lt.mpr h.2 (lcmp_gt.mp c_10)⟩, ht⟩) t_nil z_d_isWithin_18
    · refine lv_iconst (v := 1) hx hb z_d_isWithin_13 (by decide) ?_
      refine lv_goto (tgt := 18) hx hb z_d_isWithin_14 (by decide) ?_
      exact W.zret (v := 1) hx hb hr rfl (fun t ht _ => ⟨1, rfl, Or.inl ⟨rfl, Int64.not_lt.mp (fun h => c_4 (lcmp_lt.mpr h)), Int64.not_lt.mp (fun h => c_10 (lcmp_gt.mpr h))⟩, ht⟩) t_nil z_d_isWithin_18

set_option maxHeartbeats 4000000 in
set_option maxRecDepth 100000 in
theorem c_d_slotOf (l : Launch) (k j : Nat) : Met l y_d_slotOf (Cond.code y_d_slotOf b_d_slotOf 2 (some .int) :: CW) { frames := 0, cells := 0, slots := 0, locals := 0 } (va_Pc [.int (nI k), .int (nI j)] (fun _ => True)) (vp_Si (fun r : Int32 => r = nI (k * 30 + j))) 0 0 (fun _ => False) := by
  refine cx_met (by decide) (Nat.le_of_ble_eq_true rfl) ?_
  intro p e s m below meth c hx hb hr hml hts hown hlocks hnm hC ls hl
  have hown : s.vm.findClass "ServiceDesk" = some m.cls := hown
  have hl : lv_has ls 2 [(0, .int (nI k)), (1, .int (nI j))] := hl
  refine lv_iload_n hx hb z_d_slotOf_0 rfl (lv_at hl 0 rfl) ?_
  refine lv_bipush (v := 30) hx hb z_d_slotOf_1 (by decide) ?_
  refine lv_imul hx hb z_d_slotOf_3 ?_
  refine lv_iload_n hx hb z_d_slotOf_4 rfl (lv_at hl 1 rfl) ?_
  refine lv_iadd hx hb z_d_slotOf_5 ?_
  exact W.iret (v := ((nI k) * 30) + (nI j)) hx hb hr (fun t ht _ => ⟨((nI k) * 30) + (nI j), rfl, (slot_nI k j), ht⟩) t_nil z_d_slotOf_6

set_option maxHeartbeats 4000000 in
set_option maxRecDepth 100000 in
theorem c_s_byteOf (l : Launch) (p0 : Int64) (n0 i0 : Int32) : Met l y_s_byteOf (Cond.code y_s_byteOf b_s_byteOf 4 (some .int) :: CW) { frames := 0, cells := 0, slots := 0, locals := 0 } (va_Pc [.long p0, .int n0, .int i0] (fun _ => True)) (vp_Si (fun r : Int32 => r = byteF p0 n0 i0)) 0 0 (fun _ => False) := by
  refine cx_met (by decide) (Nat.le_of_ble_eq_true rfl) ?_
  intro p e s m below meth c hx hb hr hml hts hown hlocks hnm hC ls hl
  have hown : s.vm.findClass "ServiceDesk$Subjects" = some m.cls := hown
  have hl : lv_has ls 4 [(0, .long p0), (2, .int n0), (3, .int i0)] := hl
  refine lv_lload_n hx hb z_s_byteOf_0 rfl (lv_at hl 0 rfl) ?_
  refine lv_bipush (v := 8) hx hb z_s_byteOf_1 (by decide) ?_
  refine lv_iload_n hx hb z_s_byteOf_3 rfl (lv_at hl 1 rfl) ?_
  refine lv_iconst (v := 1) hx hb z_s_byteOf_4 (by decide) ?_
  refine lv_isub hx hb z_s_byteOf_5 ?_
  refine lv_iload_n hx hb z_s_byteOf_6 rfl (lv_at hl 2 rfl) ?_
  refine lv_isub hx hb z_s_byteOf_7 ?_
  refine lv_imul hx hb z_s_byteOf_8 ?_
  refine lv_lushr hx hb z_s_byteOf_9 rfl ?_
  refine lv_l2i hx hb z_s_byteOf_10 rfl ?_
  refine lv_sipush (v := 255) hx hb z_s_byteOf_11 (by decide) ?_
  refine lv_iand hx hb z_s_byteOf_14 ?_
  exact W.iret (v := (((p0.toUInt64 >>> ((8 * ((n0 - 1) - i0)).toInt64.toUInt64 &&& Int64.toUInt64 63)).toInt64).toInt32) &&& 255) hx hb hr (fun t ht _ => ⟨(((p0.toUInt64 >>> ((8 * ((n0 - 1) - i0)).toInt64.toUInt64 &&& Int64.toUInt64 63)).toInt64).toInt32) &&& 255, rfl, rfl, ht⟩) t_nil z_s_byteOf_15
