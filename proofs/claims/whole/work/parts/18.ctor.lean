/-- a row filled up to a place -/
def fil (f : Nat → Int32) (x : Int32) : Nat → Nat → Int32
  | 0 => f
  | n + 1 => upd (fil f x n) n x
theorem arr_int {D : va_G} {cl : List vw_C} {tys : List (ClassId × FieldType)} {s : State} (hK : va_K D cl tys s) {i j : Nat} {a b : ClassId} (h1 : tys[i]? = some (a, .int)) (h2 : tys[j]? = some (b, .int)) : a = b := Option.some.inj ((hK.2 i _ h1).2.symm.trans (hK.2 j _ h2).2)
/-- the state of a new desk -/
def v00 : St := (fil (fun _ => 0) (-1) 8, fun _ => 0, fun _ => 0, fun _ => 0, fun _ => 0, fun _ => 0, fun _ => 0, fun _ => 0, fun _ => 0, fun _ => 0, fun _ => 0, 0, 0, 0)
set_option maxHeartbeats 4000000 in
set_option maxRecDepth 100000 in
theorem c_J_fill (l : Launch) (dC : Nat → ClassId) (dI : Nat → Nat → Nat) (a sz : Nat) (cA : ClassId) (f : Nat → Int32) (x : Int32) : Met l y_J_fill (Cond.code y_J_fill b_J_fill 4 none :: CW) { frames := 0, cells := 0, slots := 0, locals := 0 } (va_Pc [.ref a, .int x] (WrC (dC, dI) sz [(a, .inl (cA, 8, .inl f))] [(cA, .int)])) (va_Qv (fun _ : Unit => True) (fun _ => WrB (dC, dI) [(a, .inl (cA, 8, .inl (fil f x 8)))] [(cA, .int)] (va_A [(a, .inl (cA, 8, .inl f))] sz)) (va_A [(a, .inl (cA, 8, .inl f))] sz)) 0 0 (va_A [(a, .inl (cA, 8, .inl f))] sz) := by
  refine cx_met (by decide) (Nat.le_of_ble_eq_true rfl) ?_
  intro p e s m below meth c hx hb hr hml hts hown hlocks hnm hC ls hl
  obtain ⟨hsz, hP, hK, hD0, hN⟩ := hC
  subst hsz
  have hD := hD0.self (sz := s.heap.size)
  generalize hAe : va_A [(a, .inl (cA, 8, .inl f))] s.heap.size = A at hD ⊢
  have hS : va_S A s.heap s.heap [] := va_S.rf
  have hl : lv_has ls 4 [(0, .ref a), (1, .int x)] := hl
  refine lv_iconst (v := 0) hx hb z_J_fill_0 (by decide) ?_
  refine lv_istore_n (lv' := [(2, .int 0), (0, .ref a), (1, .int x)]) hx hb z_J_fill_1 rfl hl (by decide) rfl (fun ls hl => ?_)
  refine lv_aload_n hx hb z_J_fill_2 rfl (lv_at hl 1 rfl) ?_
  refine va_alen (v := 8) hx hb hK hP 0 0 rfl rfl rfl z_J_fill_3 ?_
  refine lv_istore_n (lv' := [(3, .int 8), (2, .int 0), (0, .ref a), (1, .int x)]) hx hb z_J_fill_4 rfl hl (by decide) rfl (fun ls hl => ?_)
  refine wr_loop (nL := 4) 8 (fun i => [(a, .inl (cA, 8, .inl (fil f x i)))]) (fun i => [(0, .ref a), (1, .int x), (2, .int (nI i)), (3, .int 8)]) ?_ _ _ ls hP hD hS (lv_sub hl [2, 3, 1, 0] rfl)
  intro i H locs ls hle hP hD hS hl ih
  have hl : lv_has ls 4 [(0, .ref a), (1, .int x), (2, .int (nI i)), (3, .int 8)] := hl
  have hP : va_P (dC, dI) vwCl [(a, .inl (cA, 8, .inl (fil f x i)))] H := hP
  have hD : va_D A [(a, .inl (cA, 8, .inl (fil f x i)))] := hD
  refine lv_iload_n hx hb z_J_fill_5 rfl (lv_at hl 2 rfl) ?_
  refine lv_iload_n hx hb z_J_fill_6 rfl (lv_at hl 3 rfl) ?_
  refine lv_icmp_ge (tgt := 20) hx hb z_J_fill_7 (by decide) (fun c_7 => ?_) (fun c_7 => ?_)
  · obtain rfl : i = 8 := eq_of_nle hle (by decide) c_7
    exact W.vret hx hb hr (fun t ht hW => ⟨⟨(), rfl, trivial, by rw [ht]; exact hP, va_K.moved hW.alike hK, hD⟩, hS.F ht⟩) hS.2.2 z_J_fill_20
  · have hlt : i < 8 := nlt_of (b := 8) (by omega) c_7
    refine lv_aload_n hx hb z_J_fill_10 rfl (lv_at hl 0 rfl) ?_
    refine lv_iload_n hx hb z_J_fill_11 rfl (lv_at hl 2 rfl) ?_
    refine lv_iload_n hx hb z_J_fill_12 rfl (lv_at hl 1 rfl) ?_
    refine xs_i hx hb hK hP hD hS 0 0 rfl rfl (k := i) hlt (by decide) z_J_fill_13 (fun H locs hP hD hS => ?_)
    refine lv_iinc (v := nI (i + 1)) (lv' := [(2, .int (nI (i + 1))), (0, .ref a), (1, .int x), (3, .int 8)]) hx hb z_J_fill_14 hl (k := 2) rfl (by exact nI_1 i) (by decide) rfl (fun ls hl => ?_)
    refine lv_goto (tgt := 5) hx hb z_J_fill_17 (by decide) ?_
    exact ih _ _ ls hlt hP hD hS (lv_sub hl [1, 2, 0, 3] rfl)

set_option maxHeartbeats 4000000 in
set_option maxRecDepth 100000 in
theorem c_r_init (l : Launch) (dC : Nat → ClassId) (dI : Nat → Nat → Nat) (h0 sz : Nat) : Met l y_r_init (Cond.code y_r_init b_r_init 1 none :: CW) { frames := 1, cells := 1, slots := 400, locals := 12 } (va_Pc [.ref h0] (WrC (dC, dI) sz [(h0, .inr (0, [.null, .int 0]))] [])) (va_Qv (fun _ : Unit => True) (fun _ t => ∃ (a0 : Nat) (c0 : ClassId), WrB (dC, dI) [(h0, .inr (0, [.ref a0, .int 0])), (a0, .inl (c0, 400, .inl (fun _ => 0)))] [(c0, .int)] (va_A [(h0, .inr (0, [.null, .int 0]))] sz) t) (va_A [(h0, .inr (0, [.null, .int 0]))] sz)) 1 400 (va_A [(h0, .inr (0, [.null, .int 0]))] sz) := by
  refine cx_met (by decide) (Nat.le_of_ble_eq_true rfl) ?_
  intro p e s m below meth c hx hb hr hml hts hown hlocks hnm hC ls hl
  have hin : meth.name = "<init>" := hnm
  obtain ⟨hsz, hP, hK, hD0, hN⟩ := hC
  subst hsz
  have hD := hD0.self (sz := s.heap.size)
  generalize hAe : va_A [(h0, .inr (0, [.null, .int 0]))] s.heap.size = A at hD ⊢
  have hA : ∀ q9 : Nat, s.heap.size ≤ q9 → A q9 := fun q9 h => by rw [← hAe]; exact Or.inr h
  have hS : va_S A s.heap s.heap [] := va_S.rf
  have hown : s.vm.findClass "ServiceDesk$Rows" = some m.cls := hown
  have hl : lv_has ls 1 [(0, .ref h0)] := hl
  refine lv_aload_n hx hb z_r_init_0 rfl (lv_at hl 0 rfl) ?_
  refine W.objInit hx hb hown (hts _ (cw_in mw_79 rfl)) (hts _ (cw_in mw_20 rfl)) (hts _ (cw_in mw_21 rfl)) rfl (by rw [hml]; exact hl.1) rfl z_r_init_1 (Nat.le_of_ble_eq_true rfl) (Nat.le_of_ble_eq_true rfl) ?_
  refine W.eq (g2 := F0 m 4 ls []) rfl ?_
  refine lv_aload_n hx hb z_r_init_4 rfl (lv_at hl 0 rfl) ?_
  refine lv_sipush (v := 400) hx hb z_r_init_5 (by decide) ?_
  refine va_newa (atype := .int) (N' := 400) (a0 := (400, .inl (fun _ => 0))) (ty := .int) (n := 400) hx hb (hts _ (cw_in mw_41 rfl)) rfl hK hP hD hS hA (fun _ => rfl) (by decide) (by decide) (by decide) (Nat.le_of_ble_eq_true rfl) (Nat.le_of_ble_eq_true rfl) z_r_init_8 (fun qa_1 ca_2 H hK hP hD hS => ?_)
  refine W.widen (k := 1) (n := 400) (Nat.le_of_ble_eq_true rfl) (Nat.le_of_ble_eq_true rfl) ?_
  have hK : va_K (dC, dI) vwCl [(ca_2, .int)] s := hK
  have hP : va_P (dC, dI) vwCl [(h0, .inr (0, [.null, .int 0])), (qa_1, .inl (ca_2, 400, .inl (fun _ => 0)))] H := hP
  have hD : va_D A [(h0, .inr (0, [.null, .int 0])), (qa_1, .inl (ca_2, 400, .inl (fun _ => 0)))] := hD
  refine va_putF (D := (dC, dI)) (ci := 0) (v := .ref qa_1) (ty := .array .int) (C := R0) (T := T0) (N := 2) hx hb hts (cw_sub iC0) ty0 tyok0 nm0 hown hK hP hD hS 0 rfl rfl 0 (by decide) (hts _ (cw_in mw_80 rfl)) (fun _ h9 => h9) rfl hin rfl (by decide +kernel) rfl rfl (Nat.le_of_ble_eq_true rfl) z_r_init_10 (fun H locs hP hD hS => ?_)
  have hP : va_P (dC, dI) vwCl [(h0, .inr (0, [.ref qa_1, .int 0])), (qa_1, .inl (ca_2, 400, .inl (fun _ => 0)))] H := hP
  have hD : va_D A [(h0, .inr (0, [.ref qa_1, .int 0])), (qa_1, .inl (ca_2, 400, .inl (fun _ => 0)))] := hD
  exact W.vret hx hb hr (fun t ht hW => ⟨⟨(), rfl, trivial, qa_1, ca_2, by rw [ht]; exact hP, va_K.moved hW.alike hK, hD⟩, hS.F ht⟩) hS.2.2 z_r_init_13

set_option maxHeartbeats 4000000 in
set_option maxRecDepth 100000 in
theorem c_s_init (l : Launch) (dC : Nat → ClassId) (dI : Nat → Nat → Nat) (h0 sz : Nat) : Met l y_s_init (Cond.code y_s_init b_s_init 1 none :: CW) { frames := 1, cells := 6, slots := 4808, locals := 12 } (va_Pc [.ref h0] (WrC (dC, dI) sz [(h0, .inr (1, [.null, .null, .null, .null, .null, .null]))] [])) (va_Qv (fun _ : Unit => True) (fun _ t => ∃ (a0 a1 a2 a3 a4 a5 : Nat) (c0 c1 c2 : ClassId), WrB (dC, dI) [(h0, .inr (1, [.ref a0, .ref a1, .ref a2, .ref a3, .ref a4, .ref a5])), (a0, .inl (c0, 8, .inl (fun _ => 0))), (a1, .inl (c0, 240, .inl (fun _ => 0))), (a2, .inl (c1, 240, .inl (fun _ => 0))), (a3, .inl (c0, 240, .inl (fun _ => 0))), (a4, .inl (c0, 240, .inl (fun _ => 0))), (a5, .inl (c2, 3840, .inl (fun _ => 0)))] [(c0, .int), (c1, .boolean), (c2, .byte)] (va_A [(h0, .inr (1, [.null, .null, .null, .null, .null, .null]))] sz) t) (va_A [(h0, .inr (1, [.null, .null, .null, .null, .null, .null]))] sz)) 6 4808 (va_A [(h0, .inr (1, [.null, .null, .null, .null, .null, .null]))] sz) := by
  refine cx_met (by decide) (Nat.le_of_ble_eq_true rfl) ?_
  intro p e s m below meth c hx hb hr hml hts hown hlocks hnm hC ls hl
  have hin : meth.name = "<init>" := hnm
  obtain ⟨hsz, hP, hK, hD0, hN⟩ := hC
  subst hsz
  have hD := hD0.self (sz := s.heap.size)
  generalize hAe : va_A [(h0, .inr (1, [.null, .null, .null, .null, .null, .null]))] s.heap.size = A at hD ⊢
  have hA : ∀ q9 : Nat, s.heap.size ≤ q9 → A q9 := fun q9 h => by rw [← hAe]; exact Or.inr h
  have hS : va_S A s.heap s.heap [] := va_S.rf
  have hown : s.vm.findClass "ServiceDesk$Subjects" = some m.cls := hown
  have hl : lv_has ls 1 [(0, .ref h0)] := hl
  refine lv_aload_n hx hb z_s_init_0 rfl (lv_at hl 0 rfl) ?_
  refine W.objInit hx hb hown (hts _ (cw_in mw_47 rfl)) (hts _ (cw_in mw_20 rfl)) (hts _ (cw_in mw_21 rfl)) rfl (by rw [hml]; exact hl.1) rfl z_s_init_1 (Nat.le_of_ble_eq_true rfl) (Nat.le_of_ble_eq_true rfl) ?_
  refine W.eq (g2 := F0 m 4 ls []) rfl ?_
  refine lv_aload_n hx hb z_s_init_4 rfl (lv_at hl 0 rfl) ?_
  refine lv_bipush (v := 8) hx hb z_s_init_5 (by decide) ?_
  refine va_newa (atype := .int) (N' := 8) (a0 := (8, .inl (fun _ => 0))) (ty := .int) (n := 8) hx hb (hts _ (cw_in mw_41 rfl)) rfl hK hP hD hS hA (fun _ => rfl) (by decide) (by decide) (by decide) (Nat.le_of_ble_eq_true rfl) (Nat.le_of_ble_eq_true rfl) z_s_init_7 (fun qa_1 ca_2 H hK hP hD hS => ?_)
  refine W.widen (k := 1) (n := 8) (Nat.le_of_ble_eq_true rfl) (Nat.le_of_ble_eq_true rfl) ?_
  have hK : va_K (dC, dI) vwCl [(ca_2, .int)] s := hK
  have hP : va_P (dC, dI) vwCl [(h0, .inr (1, [.null, .null, .null, .null, .null, .null])), (qa_1, .inl (ca_2, 8, .inl (fun _ => 0)))] H := hP
  have hD : va_D A [(h0, .inr (1, [.null, .null, .null, .null, .null, .null])), (qa_1, .inl (ca_2, 8, .inl (fun _ => 0)))] := hD
  refine va_putF (D := (dC, dI)) (ci := 1) (v := .ref qa_1) (ty := .array .int) (C := R1) (T := T1) (N := 6) hx hb hts (cw_sub iC1) ty1 tyok1 nm1 hown hK hP hD hS 0 rfl rfl 0 (by decide) (hts _ (cw_in mw_48 rfl)) (fun _ h9 => h9) rfl hin rfl (by decide +kernel) rfl rfl (Nat.le_of_ble_eq_true rfl) z_s_init_9 (fun H locs hP hD hS => ?_)
  have hP : va_P (dC, dI) vwCl [(h0, .inr (1, [.ref qa_1, .null, .null, .null, .null, .null])), (qa_1, .inl (ca_2, 8, .inl (fun _ => 0)))] H := hP
  have hD : va_D A [(h0, .inr (1, [.ref qa_1, .null, .null, .null, .null, .null])), (qa_1, .inl (ca_2, 8, .inl (fun _ => 0)))] := hD
  refine lv_aload_n hx hb z_s_init_12 rfl (lv_at hl 0 rfl) ?_
  refine lv_sipush (v := 240) hx hb z_s_init_13 (by decide) ?_
  refine va_newa (atype := .int) (N' := 240) (a0 := (240, .inl (fun _ => 0))) (ty := .int) (n := 240) hx hb (hts _ (cw_in mw_41 rfl)) rfl hK hP hD hS hA (fun _ => rfl) (by decide) (by decide) (by decide) (Nat.le_of_ble_eq_true rfl) (Nat.le_of_ble_eq_true rfl) z_s_init_16 (fun qa_3 ca_4 H hK hP hD hS => ?_)
  refine W.widen (k := 2) (n := 248) (Nat.le_of_ble_eq_true rfl) (Nat.le_of_ble_eq_true rfl) ?_
  have hK : va_K (dC, dI) vwCl [(ca_2, .int), (ca_4, .int)] s := hK
  have hP : va_P (dC, dI) vwCl [(h0, .inr (1, [.ref qa_1, .null, .null, .null, .null, .null])), (qa_1, .inl (ca_2, 8, .inl (fun _ => 0))), (qa_3, .inl (ca_4, 240, .inl (fun _ => 0)))] H := hP
  have hD : va_D A [(h0, .inr (1, [.ref qa_1, .null, .null, .null, .null, .null])), (qa_1, .inl (ca_2, 8, .inl (fun _ => 0))), (qa_3, .inl (ca_4, 240, .inl (fun _ => 0)))] := hD
  obtain rfl : ca_2 = ca_4 := arr_int hK (i := 0) (j := 1) rfl rfl
  have hK := hK.sub (tys' := [(ca_2, .int)]) [0] rfl
  refine va_putF (D := (dC, dI)) (ci := 1) (v := .ref qa_3) (ty := .array .int) (C := R1) (T := T1) (N := 6) hx hb hts (cw_sub iC1) ty1 tyok1 nm1 hown hK hP hD hS 0 rfl rfl 1 (by decide) (hts _ (cw_in mw_50 rfl)) (fun _ h9 => h9) rfl hin rfl (by decide +kernel) rfl rfl (Nat.le_of_ble_eq_true rfl) z_s_init_18 (fun H locs hP hD hS => ?_)
  have hP : va_P (dC, dI) vwCl [(h0, .inr (1, [.ref qa_1, .ref qa_3, .null, .null, .null, .null])), (qa_1, .inl (ca_2, 8, .inl (fun _ => 0))), (qa_3, .inl (ca_2, 240, .inl (fun _ => 0)))] H := hP
  have hD : va_D A [(h0, .inr (1, [.ref qa_1, .ref qa_3, .null, .null, .null, .null])), (qa_1, .inl (ca_2, 8, .inl (fun _ => 0))), (qa_3, .inl (ca_2, 240, .inl (fun _ => 0)))] := hD
  refine lv_aload_n hx hb z_s_init_21 rfl (lv_at hl 0 rfl) ?_
  refine lv_sipush (v := 240) hx hb z_s_init_22 (by decide) ?_
  refine va_newa (atype := .boolean) (N' := 240) (a0 := (240, .inl (fun _ => 0))) (ty := .boolean) (n := 240) hx hb (hts _ (cw_in mw_72 rfl)) rfl hK hP hD hS hA (fun _ => rfl) (by decide) (by decide) (by decide) (Nat.le_of_ble_eq_true rfl) (Nat.le_of_ble_eq_true rfl) z_s_init_25 (fun qa_5 ca_6 H hK hP hD hS => ?_)
  refine W.widen (k := 3) (n := 488) (Nat.le_of_ble_eq_true rfl) (Nat.le_of_ble_eq_true rfl) ?_
  have hK : va_K (dC, dI) vwCl [(ca_2, .int), (ca_6, .boolean)] s := hK
  have hP : va_P (dC, dI) vwCl [(h0, .inr (1, [.ref qa_1, .ref qa_3, .null, .null, .null, .null])), (qa_1, .inl (ca_2, 8, .inl (fun _ => 0))), (qa_3, .inl (ca_2, 240, .inl (fun _ => 0))), (qa_5, .inl (ca_6, 240, .inl (fun _ => 0)))] H := hP
  have hD : va_D A [(h0, .inr (1, [.ref qa_1, .ref qa_3, .null, .null, .null, .null])), (qa_1, .inl (ca_2, 8, .inl (fun _ => 0))), (qa_3, .inl (ca_2, 240, .inl (fun _ => 0))), (qa_5, .inl (ca_6, 240, .inl (fun _ => 0)))] := hD
  refine va_putF (D := (dC, dI)) (ci := 1) (v := .ref qa_5) (ty := .array .boolean) (C := R1) (T := T1) (N := 6) hx hb hts (cw_sub iC1) ty1 tyok1 nm1 hown hK hP hD hS 0 rfl rfl 2 (by decide) (hts _ (cw_in mw_52 rfl)) (fun _ h9 => h9) rfl hin rfl (by decide +kernel) rfl rfl (Nat.le_of_ble_eq_true rfl) z_s_init_27 (fun H locs hP hD hS => ?_)
  have hP : va_P (dC, dI) vwCl [(h0, .inr (1, [.ref qa_1, .ref qa_3, .ref qa_5, .null, .null, .null])), (qa_1, .inl (ca_2, 8, .inl (fun _ => 0))), (qa_3, .inl (ca_2, 240, .inl (fun _ => 0))), (qa_5, .inl (ca_6, 240, .inl (fun _ => 0)))] H := hP
  have hD : va_D A [(h0, .inr (1, [.ref qa_1, .ref qa_3, .ref qa_5, .null, .null, .null])), (qa_1, .inl (ca_2, 8, .inl (fun _ => 0))), (qa_3, .inl (ca_2, 240, .inl (fun _ => 0))), (qa_5, .inl (ca_6, 240, .inl (fun _ => 0)))] := hD
  refine lv_aload_n hx hb z_s_init_30 rfl (lv_at hl 0 rfl) ?_
  refine lv_sipush (v := 240) hx hb z_s_init_31 (by decide) ?_
  refine va_newa (atype := .int) (N' := 240) (a0 := (240, .inl (fun _ => 0))) (ty := .int) (n := 240) hx hb (hts _ (cw_in mw_41 rfl)) rfl hK hP hD hS hA (fun _ => rfl) (by decide) (by decide) (by decide) (Nat.le_of_ble_eq_true rfl) (Nat.le_of_ble_eq_true rfl) z_s_init_34 (fun qa_7 ca_8 H hK hP hD hS => ?_)
  refine W.widen (k := 4) (n := 728) (Nat.le_of_ble_eq_true rfl) (Nat.le_of_ble_eq_true rfl) ?_
  have hK : va_K (dC, dI) vwCl [(ca_2, .int), (ca_6, .boolean), (ca_8, .int)] s := hK
  have hP : va_P (dC, dI) vwCl [(h0, .inr (1, [.ref qa_1, .ref qa_3, .ref qa_5, .null, .null, .null])), (qa_1, .inl (ca_2, 8, .inl (fun _ => 0))), (qa_3, .inl (ca_2, 240, .inl (fun _ => 0))), (qa_5, .inl (ca_6, 240, .inl (fun _ => 0))), (qa_7, .inl (ca_8, 240, .inl (fun _ => 0)))] H := hP
  have hD : va_D A [(h0, .inr (1, [.ref qa_1, .ref qa_3, .ref qa_5, .null, .null, .null])), (qa_1, .inl (ca_2, 8, .inl (fun _ => 0))), (qa_3, .inl (ca_2, 240, .inl (fun _ => 0))), (qa_5, .inl (ca_6, 240, .inl (fun _ => 0))), (qa_7, .inl (ca_8, 240, .inl (fun _ => 0)))] := hD
  obtain rfl : ca_2 = ca_8 := arr_int hK (i := 0) (j := 2) rfl rfl
  have hK := hK.sub (tys' := [(ca_2, .int), (ca_6, .boolean)]) [0, 1] rfl
  refine va_putF (D := (dC, dI)) (ci := 1) (v := .ref qa_7) (ty := .array .int) (C := R1) (T := T1) (N := 6) hx hb hts (cw_sub iC1) ty1 tyok1 nm1 hown hK hP hD hS 0 rfl rfl 3 (by decide) (hts _ (cw_in mw_54 rfl)) (fun _ h9 => h9) rfl hin rfl (by decide +kernel) rfl rfl (Nat.le_of_ble_eq_true rfl) z_s_init_36 (fun H locs hP hD hS => ?_)
  have hP : va_P (dC, dI) vwCl [(h0, .inr (1, [.ref qa_1, .ref qa_3, .ref qa_5, .ref qa_7, .null, .null])), (qa_1, .inl (ca_2, 8, .inl (fun _ => 0))), (qa_3, .inl (ca_2, 240, .inl (fun _ => 0))), (qa_5, .inl (ca_6, 240, .inl (fun _ => 0))), (qa_7, .inl (ca_2, 240, .inl (fun _ => 0)))] H := hP
  have hD : va_D A [(h0, .inr (1, [.ref qa_1, .ref qa_3, .ref qa_5, .ref qa_7, .null, .null])), (qa_1, .inl (ca_2, 8, .inl (fun _ => 0))), (qa_3, .inl (ca_2, 240, .inl (fun _ => 0))), (qa_5, .inl (ca_6, 240, .inl (fun _ => 0))), (qa_7, .inl (ca_2, 240, .inl (fun _ => 0)))] := hD
  refine lv_aload_n hx hb z_s_init_39 rfl (lv_at hl 0 rfl) ?_
  refine lv_sipush (v := 240) hx hb z_s_init_40 (by decide) ?_
  refine va_newa (atype := .int) (N' := 240) (a0 := (240, .inl (fun _ => 0))) (ty := .int) (n := 240) hx hb (hts _ (cw_in mw_41 rfl)) rfl hK hP hD hS hA (fun _ => rfl) (by decide) (by decide) (by decide) (Nat.le_of_ble_eq_true rfl) (Nat.le_of_ble_eq_true rfl) z_s_init_43 (fun qa_9 ca_10 H hK hP hD hS => ?_)
  refine W.widen (k := 5) (n := 968) (Nat.le_of_ble_eq_true rfl) (Nat.le_of_ble_eq_true rfl) ?_
  have hK : va_K (dC, dI) vwCl [(ca_2, .int), (ca_6, .boolean), (ca_10, .int)] s := hK
  have hP : va_P (dC, dI) vwCl [(h0, .inr (1, [.ref qa_1, .ref qa_3, .ref qa_5, .ref qa_7, .null, .null])), (qa_1, .inl (ca_2, 8, .inl (fun _ => 0))), (qa_3, .inl (ca_2, 240, .inl (fun _ => 0))), (qa_5, .inl (ca_6, 240, .inl (fun _ => 0))), (qa_7, .inl (ca_2, 240, .inl (fun _ => 0))), (qa_9, .inl (ca_10, 240, .inl (fun _ => 0)))] H := hP
  have hD : va_D A [(h0, .inr (1, [.ref qa_1, .ref qa_3, .ref qa_5, .ref qa_7, .null, .null])), (qa_1, .inl (ca_2, 8, .inl (fun _ => 0))), (qa_3, .inl (ca_2, 240, .inl (fun _ => 0))), (qa_5, .inl (ca_6, 240, .inl (fun _ => 0))), (qa_7, .inl (ca_2, 240, .inl (fun _ => 0))), (qa_9, .inl (ca_10, 240, .inl (fun _ => 0)))] := hD
  obtain rfl : ca_2 = ca_10 := arr_int hK (i := 0) (j := 2) rfl rfl
  have hK := hK.sub (tys' := [(ca_2, .int), (ca_6, .boolean)]) [0, 1] rfl
  refine va_putF (D := (dC, dI)) (ci := 1) (v := .ref qa_9) (ty := .array .int) (C := R1) (T := T1) (N := 6) hx hb hts (cw_sub iC1) ty1 tyok1 nm1 hown hK hP hD hS 0 rfl rfl 4 (by decide) (hts _ (cw_in mw_56 rfl)) (fun _ h9 => h9) rfl hin rfl (by decide +kernel) rfl rfl (Nat.le_of_ble_eq_true rfl) z_s_init_45 (fun H locs hP hD hS => ?_)
  have hP : va_P (dC, dI) vwCl [(h0, .inr (1, [.ref qa_1, .ref qa_3, .ref qa_5, .ref qa_7, .ref qa_9, .null])), (qa_1, .inl (ca_2, 8, .inl (fun _ => 0))), (qa_3, .inl (ca_2, 240, .inl (fun _ => 0))), (qa_5, .inl (ca_6, 240, .inl (fun _ => 0))), (qa_7, .inl (ca_2, 240, .inl (fun _ => 0))), (qa_9, .inl (ca_2, 240, .inl (fun _ => 0)))] H := hP
  have hD : va_D A [(h0, .inr (1, [.ref qa_1, .ref qa_3, .ref qa_5, .ref qa_7, .ref qa_9, .null])), (qa_1, .inl (ca_2, 8, .inl (fun _ => 0))), (qa_3, .inl (ca_2, 240, .inl (fun _ => 0))), (qa_5, .inl (ca_6, 240, .inl (fun _ => 0))), (qa_7, .inl (ca_2, 240, .inl (fun _ => 0))), (qa_9, .inl (ca_2, 240, .inl (fun _ => 0)))] := hD
  refine lv_aload_n hx hb z_s_init_48 rfl (lv_at hl 0 rfl) ?_
  refine lv_sipush (v := 3840) hx hb z_s_init_49 (by decide) ?_
  refine va_newa (atype := .byte) (N' := 3840) (a0 := (3840, .inl (fun _ => 0))) (ty := .byte) (n := 3840) hx hb (hts _ (cw_in mw_73 rfl)) rfl hK hP hD hS hA (fun _ => rfl) (by decide) (by decide) (by decide) (Nat.le_of_ble_eq_true rfl) (Nat.le_of_ble_eq_true rfl) z_s_init_52 (fun qa_11 ca_12 H hK hP hD hS => ?_)
  refine W.widen (k := 6) (n := 4808) (Nat.le_of_ble_eq_true rfl) (Nat.le_of_ble_eq_true rfl) ?_
  have hK : va_K (dC, dI) vwCl [(ca_2, .int), (ca_6, .boolean), (ca_12, .byte)] s := hK
  have hP : va_P (dC, dI) vwCl [(h0, .inr (1, [.ref qa_1, .ref qa_3, .ref qa_5, .ref qa_7, .ref qa_9, .null])), (qa_1, .inl (ca_2, 8, .inl (fun _ => 0))), (qa_3, .inl (ca_2, 240, .inl (fun _ => 0))), (qa_5, .inl (ca_6, 240, .inl (fun _ => 0))), (qa_7, .inl (ca_2, 240, .inl (fun _ => 0))), (qa_9, .inl (ca_2, 240, .inl (fun _ => 0))), (qa_11, .inl (ca_12, 3840, .inl (fun _ => 0)))] H := hP
  have hD : va_D A [(h0, .inr (1, [.ref qa_1, .ref qa_3, .ref qa_5, .ref qa_7, .ref qa_9, .null])), (qa_1, .inl (ca_2, 8, .inl (fun _ => 0))), (qa_3, .inl (ca_2, 240, .inl (fun _ => 0))), (qa_5, .inl (ca_6, 240, .inl (fun _ => 0))), (qa_7, .inl (ca_2, 240, .inl (fun _ => 0))), (qa_9, .inl (ca_2, 240, .inl (fun _ => 0))), (qa_11, .inl (ca_12, 3840, .inl (fun _ => 0)))] := hD
  refine va_putF (D := (dC, dI)) (ci := 1) (v := .ref qa_11) (ty := .array .byte) (C := R1) (T := T1) (N := 6) hx hb hts (cw_sub iC1) ty1 tyok1 nm1 hown hK hP hD hS 0 rfl rfl 5 (by decide) (hts _ (cw_in mw_58 rfl)) (fun _ h9 => h9) rfl hin rfl (by decide +kernel) rfl rfl (Nat.le_of_ble_eq_true rfl) z_s_init_54 (fun H locs hP hD hS => ?_)
  have hP : va_P (dC, dI) vwCl [(h0, .inr (1, [.ref qa_1, .ref qa_3, .ref qa_5, .ref qa_7, .ref qa_9, .ref qa_11])), (qa_1, .inl (ca_2, 8, .inl (fun _ => 0))), (qa_3, .inl (ca_2, 240, .inl (fun _ => 0))), (qa_5, .inl (ca_6, 240, .inl (fun _ => 0))), (qa_7, .inl (ca_2, 240, .inl (fun _ => 0))), (qa_9, .inl (ca_2, 240, .inl (fun _ => 0))), (qa_11, .inl (ca_12, 3840, .inl (fun _ => 0)))] H := hP
  have hD : va_D A [(h0, .inr (1, [.ref qa_1, .ref qa_3, .ref qa_5, .ref qa_7, .ref qa_9, .ref qa_11])), (qa_1, .inl (ca_2, 8, .inl (fun _ => 0))), (qa_3, .inl (ca_2, 240, .inl (fun _ => 0))), (qa_5, .inl (ca_6, 240, .inl (fun _ => 0))), (qa_7, .inl (ca_2, 240, .inl (fun _ => 0))), (qa_9, .inl (ca_2, 240, .inl (fun _ => 0))), (qa_11, .inl (ca_12, 3840, .inl (fun _ => 0)))] := hD
  exact W.vret hx hb hr (fun t ht hW => ⟨⟨(), rfl, trivial, qa_1, qa_3, qa_5, qa_7, qa_9, qa_11, ca_2, ca_6, ca_12, by rw [ht]; exact hP, va_K.moved hW.alike hK, hD⟩, hS.F ht⟩) hS.2.2 z_s_init_57

set_option maxHeartbeats 4000000 in
set_option maxRecDepth 100000 in
theorem c_w_init (l : Launch) (dC : Nat → ClassId) (dI : Nat → Nat → Nat) (h0 sz : Nat) : Met l y_w_init (Cond.code y_w_init b_w_init 1 none :: CW) { frames := 1, cells := 3, slots := 192, locals := 12 } (va_Pc [.ref h0] (WrC (dC, dI) sz [(h0, .inr (2, [.null, .null, .null]))] [])) (va_Qv (fun _ : Unit => True) (fun _ t => ∃ (a0 a1 a2 : Nat) (c0 : ClassId), WrB (dC, dI) [(h0, .inr (2, [.ref a0, .ref a1, .ref a2])), (a0, .inl (c0, 64, .inl (fun _ => 0))), (a1, .inl (c0, 64, .inl (fun _ => 0))), (a2, .inl (c0, 64, .inl (fun _ => 0)))] [(c0, .int)] (va_A [(h0, .inr (2, [.null, .null, .null]))] sz) t) (va_A [(h0, .inr (2, [.null, .null, .null]))] sz)) 3 192 (va_A [(h0, .inr (2, [.null, .null, .null]))] sz) := by
  refine cx_met (by decide) (Nat.le_of_ble_eq_true rfl) ?_
  intro p e s m below meth c hx hb hr hml hts hown hlocks hnm hC ls hl
  have hin : meth.name = "<init>" := hnm
  obtain ⟨hsz, hP, hK, hD0, hN⟩ := hC
  subst hsz
  have hD := hD0.self (sz := s.heap.size)
  generalize hAe : va_A [(h0, .inr (2, [.null, .null, .null]))] s.heap.size = A at hD ⊢
  have hA : ∀ q9 : Nat, s.heap.size ≤ q9 → A q9 := fun q9 h => by rw [← hAe]; exact Or.inr h
  have hS : va_S A s.heap s.heap [] := va_S.rf
  have hown : s.vm.findClass "ServiceDesk$Verbs" = some m.cls := hown
  have hl : lv_has ls 1 [(0, .ref h0)] := hl
  refine lv_aload_n hx hb z_w_init_0 rfl (lv_at hl 0 rfl) ?_
  refine W.objInit hx hb hown (hts _ (cw_in mw_27 rfl)) (hts _ (cw_in mw_20 rfl)) (hts _ (cw_in mw_21 rfl)) rfl (by rw [hml]; exact hl.1) rfl z_w_init_1 (Nat.le_of_ble_eq_true rfl) (Nat.le_of_ble_eq_true rfl) ?_
  refine W.eq (g2 := F0 m 4 ls []) rfl ?_
  refine lv_aload_n hx hb z_w_init_4 rfl (lv_at hl 0 rfl) ?_
  refine lv_bipush (v := 64) hx hb z_w_init_5 (by decide) ?_
  refine va_newa (atype := .int) (N' := 64) (a0 := (64, .inl (fun _ => 0))) (ty := .int) (n := 64) hx hb (hts _ (cw_in mw_41 rfl)) rfl hK hP hD hS hA (fun _ => rfl) (by decide) (by decide) (by decide) (Nat.le_of_ble_eq_true rfl) (Nat.le_of_ble_eq_true rfl) z_w_init_7 (fun qa_1 ca_2 H hK hP hD hS => ?_)
  refine W.widen (k := 1) (n := 64) (Nat.le_of_ble_eq_true rfl) (Nat.le_of_ble_eq_true rfl) ?_
  have hK : va_K (dC, dI) vwCl [(ca_2, .int)] s := hK
  have hP : va_P (dC, dI) vwCl [(h0, .inr (2, [.null, .null, .null])), (qa_1, .inl (ca_2, 64, .inl (fun _ => 0)))] H := hP
  have hD : va_D A [(h0, .inr (2, [.null, .null, .null])), (qa_1, .inl (ca_2, 64, .inl (fun _ => 0)))] := hD
  refine va_putF (D := (dC, dI)) (ci := 2) (v := .ref qa_1) (ty := .array .int) (C := R2) (T := T2) (N := 3) hx hb hts (cw_sub iC2) ty2 tyok2 nm2 hown hK hP hD hS 0 rfl rfl 0 (by decide) (hts _ (cw_in mw_28 rfl)) (fun _ h9 => h9) rfl hin rfl (by decide +kernel) rfl rfl (Nat.le_of_ble_eq_true rfl) z_w_init_9 (fun H locs hP hD hS => ?_)
  have hP : va_P (dC, dI) vwCl [(h0, .inr (2, [.ref qa_1, .null, .null])), (qa_1, .inl (ca_2, 64, .inl (fun _ => 0)))] H := hP
  have hD : va_D A [(h0, .inr (2, [.ref qa_1, .null, .null])), (qa_1, .inl (ca_2, 64, .inl (fun _ => 0)))] := hD
  refine lv_aload_n hx hb z_w_init_12 rfl (lv_at hl 0 rfl) ?_
  refine lv_bipush (v := 64) hx hb z_w_init_13 (by decide) ?_
  refine va_newa (atype := .int) (N' := 64) (a0 := (64, .inl (fun _ => 0))) (ty := .int) (n := 64) hx hb (hts _ (cw_in mw_41 rfl)) rfl hK hP hD hS hA (fun _ => rfl) (by decide) (by decide) (by decide) (Nat.le_of_ble_eq_true rfl) (Nat.le_of_ble_eq_true rfl) z_w_init_15 (fun qa_3 ca_4 H hK hP hD hS => ?_)
  refine W.widen (k := 2) (n := 128) (Nat.le_of_ble_eq_true rfl) (Nat.le_of_ble_eq_true rfl) ?_
  have hK : va_K (dC, dI) vwCl [(ca_2, .int), (ca_4, .int)] s := hK
  have hP : va_P (dC, dI) vwCl [(h0, .inr (2, [.ref qa_1, .null, .null])), (qa_1, .inl (ca_2, 64, .inl (fun _ => 0))), (qa_3, .inl (ca_4, 64, .inl (fun _ => 0)))] H := hP
  have hD : va_D A [(h0, .inr (2, [.ref qa_1, .null, .null])), (qa_1, .inl (ca_2, 64, .inl (fun _ => 0))), (qa_3, .inl (ca_4, 64, .inl (fun _ => 0)))] := hD
  obtain rfl : ca_2 = ca_4 := arr_int hK (i := 0) (j := 1) rfl rfl
  have hK := hK.sub (tys' := [(ca_2, .int)]) [0] rfl
  refine va_putF (D := (dC, dI)) (ci := 2) (v := .ref qa_3) (ty := .array .int) (C := R2) (T := T2) (N := 3) hx hb hts (cw_sub iC2) ty2 tyok2 nm2 hown hK hP hD hS 0 rfl rfl 1 (by decide) (hts _ (cw_in mw_30 rfl)) (fun _ h9 => h9) rfl hin rfl (by decide +kernel) rfl rfl (Nat.le_of_ble_eq_true rfl) z_w_init_17 (fun H locs hP hD hS => ?_)
  have hP : va_P (dC, dI) vwCl [(h0, .inr (2, [.ref qa_1, .ref qa_3, .null])), (qa_1, .inl (ca_2, 64, .inl (fun _ => 0))), (qa_3, .inl (ca_2, 64, .inl (fun _ => 0)))] H := hP
  have hD : va_D A [(h0, .inr (2, [.ref qa_1, .ref qa_3, .null])), (qa_1, .inl (ca_2, 64, .inl (fun _ => 0))), (qa_3, .inl (ca_2, 64, .inl (fun _ => 0)))] := hD
  refine lv_aload_n hx hb z_w_init_20 rfl (lv_at hl 0 rfl) ?_
  refine lv_bipush (v := 64) hx hb z_w_init_21 (by decide) ?_
  refine va_newa (atype := .int) (N' := 64) (a0 := (64, .inl (fun _ => 0))) (ty := .int) (n := 64) hx hb (hts _ (cw_in mw_41 rfl)) rfl hK hP hD hS hA (fun _ => rfl) (by decide) (by decide) (by decide) (Nat.le_of_ble_eq_true rfl) (Nat.le_of_ble_eq_true rfl) z_w_init_23 (fun qa_5 ca_6 H hK hP hD hS => ?_)
  refine W.widen (k := 3) (n := 192) (Nat.le_of_ble_eq_true rfl) (Nat.le_of_ble_eq_true rfl) ?_
  have hK : va_K (dC, dI) vwCl [(ca_2, .int), (ca_6, .int)] s := hK
  have hP : va_P (dC, dI) vwCl [(h0, .inr (2, [.ref qa_1, .ref qa_3, .null])), (qa_1, .inl (ca_2, 64, .inl (fun _ => 0))), (qa_3, .inl (ca_2, 64, .inl (fun _ => 0))), (qa_5, .inl (ca_6, 64, .inl (fun _ => 0)))] H := hP
  have hD : va_D A [(h0, .inr (2, [.ref qa_1, .ref qa_3, .null])), (qa_1, .inl (ca_2, 64, .inl (fun _ => 0))), (qa_3, .inl (ca_2, 64, .inl (fun _ => 0))), (qa_5, .inl (ca_6, 64, .inl (fun _ => 0)))] := hD
  obtain rfl : ca_2 = ca_6 := arr_int hK (i := 0) (j := 1) rfl rfl
  have hK := hK.sub (tys' := [(ca_2, .int)]) [0] rfl
  refine va_putF (D := (dC, dI)) (ci := 2) (v := .ref qa_5) (ty := .array .int) (C := R2) (T := T2) (N := 3) hx hb hts (cw_sub iC2) ty2 tyok2 nm2 hown hK hP hD hS 0 rfl rfl 2 (by decide) (hts _ (cw_in mw_32 rfl)) (fun _ h9 => h9) rfl hin rfl (by decide +kernel) rfl rfl (Nat.le_of_ble_eq_true rfl) z_w_init_25 (fun H locs hP hD hS => ?_)
  have hP : va_P (dC, dI) vwCl [(h0, .inr (2, [.ref qa_1, .ref qa_3, .ref qa_5])), (qa_1, .inl (ca_2, 64, .inl (fun _ => 0))), (qa_3, .inl (ca_2, 64, .inl (fun _ => 0))), (qa_5, .inl (ca_2, 64, .inl (fun _ => 0)))] H := hP
  have hD : va_D A [(h0, .inr (2, [.ref qa_1, .ref qa_3, .ref qa_5])), (qa_1, .inl (ca_2, 64, .inl (fun _ => 0))), (qa_3, .inl (ca_2, 64, .inl (fun _ => 0))), (qa_5, .inl (ca_2, 64, .inl (fun _ => 0)))] := hD
  exact W.vret hx hb hr (fun t ht hW => ⟨⟨(), rfl, trivial, qa_1, qa_3, qa_5, ca_2, by rw [ht]; exact hP, va_K.moved hW.alike hK, hD⟩, hS.F ht⟩) hS.2.2 z_w_init_28

set_option maxHeartbeats 4000000 in
set_option maxRecDepth 100000 in
theorem c_d_init (l : Launch) (dC : Nat → ClassId) (dI : Nat → Nat → Nat) (h0 sz : Nat) : Met l y_d_init (Cond.code y_d_init b_d_init 1 none :: CW) { frames := 2, cells := 14, slots := 5419, locals := 32 } (va_Pc [.ref h0] (WrC (dC, dI) sz [(h0, .inr (3, [.null, .null, .null, .null, .int 0, .int 0]))] [])) (va_Qv (fun _ : Unit => True) (fun _ t => ∃ (q : Nat → Nat) (cI cZ cB : ClassId), q 0 = h0 ∧ WrB (dC, dI) (wC q cI cZ cB v00) (tyC cI cZ cB) (va_A [(h0, .inr (3, [.null, .null, .null, .null, .int 0, .int 0]))] sz) t) (va_A [(h0, .inr (3, [.null, .null, .null, .null, .int 0, .int 0]))] sz)) 14 5419 (va_A [(h0, .inr (3, [.null, .null, .null, .null, .int 0, .int 0]))] sz) := by
  refine cx_met (by decide) (Nat.le_of_ble_eq_true rfl) ?_
  intro p e s m below meth c hx hb hr hml hts hown hlocks hnm hC ls hl
  have hin : meth.name = "<init>" := hnm
  obtain ⟨hsz, hP, hK, hD0, hN⟩ := hC
  subst hsz
  have hD := hD0.self (sz := s.heap.size)
  generalize hAe : va_A [(h0, .inr (3, [.null, .null, .null, .null, .int 0, .int 0]))] s.heap.size = A at hD ⊢
  have hA : ∀ q9 : Nat, s.heap.size ≤ q9 → A q9 := fun q9 h => by rw [← hAe]; exact Or.inr h
  have hS : va_S A s.heap s.heap [] := va_S.rf
  have hown : s.vm.findClass "ServiceDesk" = some m.cls := hown
  have hl : lv_has ls 1 [(0, .ref h0)] := hl
  refine lv_aload_n hx hb z_d_init_0 rfl (lv_at hl 0 rfl) ?_
  refine W.objInit hx hb hown (hts _ (cw_in mw_19 rfl)) (hts _ (cw_in mw_20 rfl)) (hts _ (cw_in mw_21 rfl)) rfl (by rw [hml]; exact hl.1) rfl z_d_init_1 (Nat.le_of_ble_eq_true rfl) (Nat.le_of_ble_eq_true rfl) ?_
  refine W.eq (g2 := F0 m 4 ls []) rfl ?_
  refine lv_aload_n hx hb z_d_init_4 rfl (lv_at hl 0 rfl) ?_
  refine lv_bipush (v := 8) hx hb z_d_init_5 (by decide) ?_
  refine va_newa (atype := .int) (N' := 8) (a0 := (8, .inl (fun _ => 0))) (ty := .int) (n := 8) hx hb (hts _ (cw_in mw_41 rfl)) rfl hK hP hD hS hA (fun _ => rfl) (by decide) (by decide) (by decide) (Nat.le_of_ble_eq_true rfl) (Nat.le_of_ble_eq_true rfl) z_d_init_7 (fun qa_1 ca_2 H hK hP hD hS => ?_)
  refine W.widen (k := 1) (n := 8) (Nat.le_of_ble_eq_true rfl) (Nat.le_of_ble_eq_true rfl) ?_
  have hK : va_K (dC, dI) vwCl [(ca_2, .int)] s := hK
  have hP : va_P (dC, dI) vwCl [(h0, .inr (3, [.null, .null, .null, .null, .int 0, .int 0])), (qa_1, .inl (ca_2, 8, .inl (fun _ => 0)))] H := hP
  have hD : va_D A [(h0, .inr (3, [.null, .null, .null, .null, .int 0, .int 0])), (qa_1, .inl (ca_2, 8, .inl (fun _ => 0)))] := hD
  refine va_putF (D := (dC, dI)) (ci := 3) (v := .ref qa_1) (ty := .array .int) (C := R3) (T := T3) (N := 6) hx hb hts (cw_sub iC3) ty3 tyok3 nm3 hown hK hP hD hS 0 rfl rfl 0 (by decide) (hts _ (cw_in mw_92 rfl)) (fun _ h9 => h9) rfl hin rfl (by decide +kernel) rfl rfl (Nat.le_of_ble_eq_true rfl) z_d_init_9 (fun H locs hP hD hS => ?_)
  have hP : va_P (dC, dI) vwCl [(h0, .inr (3, [.ref qa_1, .null, .null, .null, .int 0, .int 0])), (qa_1, .inl (ca_2, 8, .inl (fun _ => 0)))] H := hP
  have hD : va_D A [(h0, .inr (3, [.ref qa_1, .null, .null, .null, .int 0, .int 0])), (qa_1, .inl (ca_2, 8, .inl (fun _ => 0)))] := hD
  refine lv_aload_n hx hb z_d_init_12 rfl (lv_at hl 0 rfl) ?_
  refine va_new (ci := 2) (fs := [.null, .null, .null]) (C := R2) (T := T2) (N := 3) hx hb hts (cw_sub iC2) ty2 tyok2 hown (hts _ (cw_in mw_22 rfl)) (hts _ (cw_in mw_23 rfl)) (hts _ (cw_in mw_2 rfl)) hK hP hD hS hA rfl (by decide) (Nat.le_of_ble_eq_true rfl) (Nat.le_of_ble_eq_true rfl) z_d_init_13 (fun qo_3 H hP hD hS => ?_)
  refine W.widen (k := 2) (n := 11) (Nat.le_of_ble_eq_true rfl) (Nat.le_of_ble_eq_true rfl) ?_
  have hP : va_P (dC, dI) vwCl [(h0, .inr (3, [.ref qa_1, .null, .null, .null, .int 0, .int 0])), (qa_1, .inl (ca_2, 8, .inl (fun _ => 0))), (qo_3, .inr (2, [.null, .null, .null]))] H := hP
  have hD : va_D A [(h0, .inr (3, [.ref qa_1, .null, .null, .null, .int 0, .int 0])), (qa_1, .inl (ca_2, 8, .inl (fun _ => 0))), (qo_3, .inr (2, [.null, .null, .null]))] := hD
  refine lv_dup hx hb z_d_init_16 rfl ?_
  have hPc := hP.sub (ws' := [(qo_3, .inr (2, [.null, .null, .null]))]) [2] rfl
  have hDc := hD.sub (ws' := [(qo_3, .inr (2, [.null, .null, .null]))]) [2] (by decide) rfl
  have hKc := hK.sub (tys' := []) [] rfl
  have hFc := va_free (wc := [(qo_3, .inr (2, [.null, .null, .null]))]) hD hS hA [2] rfl
  refine va_callv (va_runIN (As := []) (rest := [.ref qo_3, .ref h0]) ⟨hx, hb, hml, hown, hts⟩ (c_w_init l dC dI qo_3 H.size) ⟨va_cnB 0 hts (cw_good mw_26 rfl) rfl rfl rfl (hN _ nw_0) (hts _ (cw_in mw_2 rfl)) yd_w_init ⟨Nat.le_of_ble_eq_true rfl, Nat.le_of_ble_eq_true rfl⟩, rfl, hts _ (cw_in mw_25 rfl)⟩ ⟨fun _ _ _ _ q => ⟨q.1, q.2.calling⟩, fun U hU hW => ⟨rfl, WrC.of hPc hKc hDc hN hU hW⟩⟩ rfl rfl hl.1 rfl (lv_room (Nat.le_of_ble_eq_true rfl)) z_d_init_17 ⟨Nat.le_of_ble_eq_true rfl, Nat.le_of_ble_eq_true rfl⟩) hS (fun q _ h => hFc q h) hFc (fun u t H1 locs ht hvm hw hB hz1 hk1 hS => ?_)
  obtain ⟨qn_4, qn_5, qn_6, cn_7, hP1, hK1, hD1⟩ := hB
  rw [ht] at hP1
  have hK1 := va_K.moved hvm.symm hK1
  obtain ⟨hP, hD⟩ := va_join (wr := [(h0, .inr (3, [.ref qa_1, .null, .null, .null, .int 0, .int 0])), (qa_1, .inl (ca_2, 8, .inl (fun _ => 0)))]) (w1 := [(qo_3, .inr (2, [.ref qn_4, .ref qn_5, .ref qn_6])), (qn_4, .inl (cn_7, 64, .inl (fun _ => 0))), (qn_5, .inl (cn_7, 64, .inl (fun _ => 0))), (qn_6, .inl (cn_7, 64, .inl (fun _ => 0)))]) hP hD [2] [0, 1] rfl rfl (by decide) (by decide) hk1 hFc hP1 hD1
  have hK := (hK.sub (tys' := [(ca_2, .int)]) [0] rfl).app hK1
  generalize H1 = H at hP hS ⊢
  have hP : va_P (dC, dI) vwCl [(h0, .inr (3, [.ref qa_1, .null, .null, .null, .int 0, .int 0])), (qa_1, .inl (ca_2, 8, .inl (fun _ => 0))), (qo_3, .inr (2, [.ref qn_4, .ref qn_5, .ref qn_6])), (qn_4, .inl (cn_7, 64, .inl (fun _ => 0))), (qn_5, .inl (cn_7, 64, .inl (fun _ => 0))), (qn_6, .inl (cn_7, 64, .inl (fun _ => 0)))] H := hP
  have hD : va_D A [(h0, .inr (3, [.ref qa_1, .null, .null, .null, .int 0, .int 0])), (qa_1, .inl (ca_2, 8, .inl (fun _ => 0))), (qo_3, .inr (2, [.ref qn_4, .ref qn_5, .ref qn_6])), (qn_4, .inl (cn_7, 64, .inl (fun _ => 0))), (qn_5, .inl (cn_7, 64, .inl (fun _ => 0))), (qn_6, .inl (cn_7, 64, .inl (fun _ => 0)))] := hD
  have hK : va_K (dC, dI) vwCl [(ca_2, .int), (cn_7, .int)] s := hK
  refine W.widen (k := 5) (n := 203) (Nat.le_of_ble_eq_true rfl) (Nat.le_of_ble_eq_true rfl) ?_
  obtain rfl : ca_2 = cn_7 := arr_int hK (i := 0) (j := 1) rfl rfl
  have hK := hK.sub (tys' := [(ca_2, .int)]) [0] rfl
  refine va_putF (D := (dC, dI)) (ci := 3) (v := .ref qo_3) (ty := .object "ServiceDesk$Verbs") (C := R3) (T := T3) (N := 6) hx hb hts (cw_sub iC3) ty3 tyok3 nm3 hown hK hP hD hS 0 rfl rfl 1 (by decide) (hts _ (cw_in mw_93 rfl)) (fun _ h9 => h9) rfl hin rfl (by decide +kernel) rfl rfl (Nat.le_of_ble_eq_true rfl) z_d_init_20 (fun H locs hP hD hS => ?_)
  have hP : va_P (dC, dI) vwCl [(h0, .inr (3, [.ref qa_1, .ref qo_3, .null, .null, .int 0, .int 0])), (qa_1, .inl (ca_2, 8, .inl (fun _ => 0))), (qo_3, .inr (2, [.ref qn_4, .ref qn_5, .ref qn_6])), (qn_4, .inl (ca_2, 64, .inl (fun _ => 0))), (qn_5, .inl (ca_2, 64, .inl (fun _ => 0))), (qn_6, .inl (ca_2, 64, .inl (fun _ => 0)))] H := hP
  have hD : va_D A [(h0, .inr (3, [.ref qa_1, .ref qo_3, .null, .null, .int 0, .int 0])), (qa_1, .inl (ca_2, 8, .inl (fun _ => 0))), (qo_3, .inr (2, [.ref qn_4, .ref qn_5, .ref qn_6])), (qn_4, .inl (ca_2, 64, .inl (fun _ => 0))), (qn_5, .inl (ca_2, 64, .inl (fun _ => 0))), (qn_6, .inl (ca_2, 64, .inl (fun _ => 0)))] := hD
  refine lv_aload_n hx hb z_d_init_23 rfl (lv_at hl 0 rfl) ?_
  refine va_new (ci := 1) (fs := [.null, .null, .null, .null, .null, .null]) (C := R1) (T := T1) (N := 6) hx hb hts (cw_sub iC1) ty1 tyok1 hown (hts _ (cw_in mw_42 rfl)) (hts _ (cw_in mw_43 rfl)) (hts _ (cw_in mw_3 rfl)) hK hP hD hS hA rfl (by decide) (Nat.le_of_ble_eq_true rfl) (Nat.le_of_ble_eq_true rfl) z_d_init_24 (fun qo_8 H hP hD hS => ?_)
  refine W.widen (k := 6) (n := 209) (Nat.le_of_ble_eq_true rfl) (Nat.le_of_ble_eq_true rfl) ?_
  have hP : va_P (dC, dI) vwCl [(h0, .inr (3, [.ref qa_1, .ref qo_3, .null, .null, .int 0, .int 0])), (qa_1, .inl (ca_2, 8, .inl (fun _ => 0))), (qo_3, .inr (2, [.ref qn_4, .ref qn_5, .ref qn_6])), (qn_4, .inl (ca_2, 64, .inl (fun _ => 0))), (qn_5, .inl (ca_2, 64, .inl (fun _ => 0))), (qn_6, .inl (ca_2, 64, .inl (fun _ => 0))), (qo_8, .inr (1, [.null, .null, .null, .null, .null, .null]))] H := hP
  have hD : va_D A [(h0, .inr (3, [.ref qa_1, .ref qo_3, .null, .null, .int 0, .int 0])), (qa_1, .inl (ca_2, 8, .inl (fun _ => 0))), (qo_3, .inr (2, [.ref qn_4, .ref qn_5, .ref qn_6])), (qn_4, .inl (ca_2, 64, .inl (fun _ => 0))), (qn_5, .inl (ca_2, 64, .inl (fun _ => 0))), (qn_6, .inl (ca_2, 64, .inl (fun _ => 0))), (qo_8, .inr (1, [.null, .null, .null, .null, .null, .null]))] := hD
  refine lv_dup hx hb z_d_init_27 rfl ?_
  have hPc := hP.sub (ws' := [(qo_8, .inr (1, [.null, .null, .null, .null, .null, .null]))]) [6] rfl
  have hDc := hD.sub (ws' := [(qo_8, .inr (1, [.null, .null, .null, .null, .null, .null]))]) [6] (by decide) rfl
  have hKc := hK.sub (tys' := []) [] rfl
  have hFc := va_free (wc := [(qo_8, .inr (1, [.null, .null, .null, .null, .null, .null]))]) hD hS hA [6] rfl
  refine va_callv (va_runIN (As := []) (rest := [.ref qo_8, .ref h0]) ⟨hx, hb, hml, hown, hts⟩ (c_s_init l dC dI qo_8 H.size) ⟨va_cnB 0 hts (cw_good mw_46 rfl) rfl rfl rfl (hN _ nw_4) (hts _ (cw_in mw_3 rfl)) yd_s_init ⟨Nat.le_of_ble_eq_true rfl, Nat.le_of_ble_eq_true rfl⟩, rfl, hts _ (cw_in mw_45 rfl)⟩ ⟨fun _ _ _ _ q => ⟨q.1, q.2.calling⟩, fun U hU hW => ⟨rfl, WrC.of hPc hKc hDc hN hU hW⟩⟩ rfl rfl hl.1 rfl (lv_room (Nat.le_of_ble_eq_true rfl)) z_d_init_28 ⟨Nat.le_of_ble_eq_true rfl, Nat.le_of_ble_eq_true rfl⟩) hS (fun q _ h => hFc q h) hFc (fun u t H1 locs ht hvm hw hB hz1 hk1 hS => ?_)
  obtain ⟨qn_9, qn_10, qn_11, qn_12, qn_13, qn_14, cn_15, cn_16, cn_17, hP1, hK1, hD1⟩ := hB
  rw [ht] at hP1
  have hK1 := va_K.moved hvm.symm hK1
  obtain ⟨hP, hD⟩ := va_join (wr := [(h0, .inr (3, [.ref qa_1, .ref qo_3, .null, .null, .int 0, .int 0])), (qa_1, .inl (ca_2, 8, .inl (fun _ => 0))), (qo_3, .inr (2, [.ref qn_4, .ref qn_5, .ref qn_6])), (qn_4, .inl (ca_2, 64, .inl (fun _ => 0))), (qn_5, .inl (ca_2, 64, .inl (fun _ => 0))), (qn_6, .inl (ca_2, 64, .inl (fun _ => 0)))]) (w1 := [(qo_8, .inr (1, [.ref qn_9, .ref qn_10, .ref qn_11, .ref qn_12, .ref qn_13, .ref qn_14])), (qn_9, .inl (cn_15, 8, .inl (fun _ => 0))), (qn_10, .inl (cn_15, 240, .inl (fun _ => 0))), (qn_11, .inl (cn_16, 240, .inl (fun _ => 0))), (qn_12, .inl (cn_15, 240, .inl (fun _ => 0))), (qn_13, .inl (cn_15, 240, .inl (fun _ => 0))), (qn_14, .inl (cn_17, 3840, .inl (fun _ => 0)))]) hP hD [6] [0, 1, 2, 3, 4, 5] rfl rfl (by decide) (by decide) hk1 hFc hP1 hD1
  have hK := (hK.sub (tys' := [(ca_2, .int)]) [0] rfl).app hK1
  generalize H1 = H at hP hS ⊢
  have hP : va_P (dC, dI) vwCl [(h0, .inr (3, [.ref qa_1, .ref qo_3, .null, .null, .int 0, .int 0])), (qa_1, .inl (ca_2, 8, .inl (fun _ => 0))), (qo_3, .inr (2, [.ref qn_4, .ref qn_5, .ref qn_6])), (qn_4, .inl (ca_2, 64, .inl (fun _ => 0))), (qn_5, .inl (ca_2, 64, .inl (fun _ => 0))), (qn_6, .inl (ca_2, 64, .inl (fun _ => 0))), (qo_8, .inr (1, [.ref qn_9, .ref qn_10, .ref qn_11, .ref qn_12, .ref qn_13, .ref qn_14])), (qn_9, .inl (cn_15, 8, .inl (fun _ => 0))), (qn_10, .inl (cn_15, 240, .inl (fun _ => 0))), (qn_11, .inl (cn_16, 240, .inl (fun _ => 0))), (qn_12, .inl (cn_15, 240, .inl (fun _ => 0))), (qn_13, .inl (cn_15, 240, .inl (fun _ => 0))), (qn_14, .inl (cn_17, 3840, .inl (fun _ => 0)))] H := hP
  have hD : va_D A [(h0, .inr (3, [.ref qa_1, .ref qo_3, .null, .null, .int 0, .int 0])), (qa_1, .inl (ca_2, 8, .inl (fun _ => 0))), (qo_3, .inr (2, [.ref qn_4, .ref qn_5, .ref qn_6])), (qn_4, .inl (ca_2, 64, .inl (fun _ => 0))), (qn_5, .inl (ca_2, 64, .inl (fun _ => 0))), (qn_6, .inl (ca_2, 64, .inl (fun _ => 0))), (qo_8, .inr (1, [.ref qn_9, .ref qn_10, .ref qn_11, .ref qn_12, .ref qn_13, .ref qn_14])), (qn_9, .inl (cn_15, 8, .inl (fun _ => 0))), (qn_10, .inl (cn_15, 240, .inl (fun _ => 0))), (qn_11, .inl (cn_16, 240, .inl (fun _ => 0))), (qn_12, .inl (cn_15, 240, .inl (fun _ => 0))), (qn_13, .inl (cn_15, 240, .inl (fun _ => 0))), (qn_14, .inl (cn_17, 3840, .inl (fun _ => 0)))] := hD
  have hK : va_K (dC, dI) vwCl [(ca_2, .int), (cn_15, .int), (cn_16, .boolean), (cn_17, .byte)] s := hK
  refine W.widen (k := 12) (n := 5017) (Nat.le_of_ble_eq_true rfl) (Nat.le_of_ble_eq_true rfl) ?_
  obtain rfl : ca_2 = cn_15 := arr_int hK (i := 0) (j := 1) rfl rfl
  have hK := hK.sub (tys' := [(ca_2, .int), (cn_16, .boolean), (cn_17, .byte)]) [0, 2, 3] rfl
  refine va_putF (D := (dC, dI)) (ci := 3) (v := .ref qo_8) (ty := .object "ServiceDesk$Subjects") (C := R3) (T := T3) (N := 6) hx hb hts (cw_sub iC3) ty3 tyok3 nm3 hown hK hP hD hS 0 rfl rfl 2 (by decide) (hts _ (cw_in mw_94 rfl)) (fun _ h9 => h9) rfl hin rfl (by decide +kernel) rfl rfl (Nat.le_of_ble_eq_true rfl) z_d_init_31 (fun H locs hP hD hS => ?_)
  have hP : va_P (dC, dI) vwCl [(h0, .inr (3, [.ref qa_1, .ref qo_3, .ref qo_8, .null, .int 0, .int 0])), (qa_1, .inl (ca_2, 8, .inl (fun _ => 0))), (qo_3, .inr (2, [.ref qn_4, .ref qn_5, .ref qn_6])), (qn_4, .inl (ca_2, 64, .inl (fun _ => 0))), (qn_5, .inl (ca_2, 64, .inl (fun _ => 0))), (qn_6, .inl (ca_2, 64, .inl (fun _ => 0))), (qo_8, .inr (1, [.ref qn_9, .ref qn_10, .ref qn_11, .ref qn_12, .ref qn_13, .ref qn_14])), (qn_9, .inl (ca_2, 8, .inl (fun _ => 0))), (qn_10, .inl (ca_2, 240, .inl (fun _ => 0))), (qn_11, .inl (cn_16, 240, .inl (fun _ => 0))), (qn_12, .inl (ca_2, 240, .inl (fun _ => 0))), (qn_13, .inl (ca_2, 240, .inl (fun _ => 0))), (qn_14, .inl (cn_17, 3840, .inl (fun _ => 0)))] H := hP
  have hD : va_D A [(h0, .inr (3, [.ref qa_1, .ref qo_3, .ref qo_8, .null, .int 0, .int 0])), (qa_1, .inl (ca_2, 8, .inl (fun _ => 0))), (qo_3, .inr (2, [.ref qn_4, .ref qn_5, .ref qn_6])), (qn_4, .inl (ca_2, 64, .inl (fun _ => 0))), (qn_5, .inl (ca_2, 64, .inl (fun _ => 0))), (qn_6, .inl (ca_2, 64, .inl (fun _ => 0))), (qo_8, .inr (1, [.ref qn_9, .ref qn_10, .ref qn_11, .ref qn_12, .ref qn_13, .ref qn_14])), (qn_9, .inl (ca_2, 8, .inl (fun _ => 0))), (qn_10, .inl (ca_2, 240, .inl (fun _ => 0))), (qn_11, .inl (cn_16, 240, .inl (fun _ => 0))), (qn_12, .inl (ca_2, 240, .inl (fun _ => 0))), (qn_13, .inl (ca_2, 240, .inl (fun _ => 0))), (qn_14, .inl (cn_17, 3840, .inl (fun _ => 0)))] := hD
  refine lv_aload_n hx hb z_d_init_34 rfl (lv_at hl 0 rfl) ?_
  refine va_new (ci := 0) (fs := [.null, .int 0]) (C := R0) (T := T0) (N := 2) hx hb hts (cw_sub iC0) ty0 tyok0 hown (hts _ (cw_in mw_74 rfl)) (hts _ (cw_in mw_75 rfl)) (hts _ (cw_in mw_4 rfl)) hK hP hD hS hA rfl (by decide) (Nat.le_of_ble_eq_true rfl) (Nat.le_of_ble_eq_true rfl) z_d_init_35 (fun qo_18 H hP hD hS => ?_)
  refine W.widen (k := 13) (n := 5019) (Nat.le_of_ble_eq_true rfl) (Nat.le_of_ble_eq_true rfl) ?_
  have hP : va_P (dC, dI) vwCl [(h0, .inr (3, [.ref qa_1, .ref qo_3, .ref qo_8, .null, .int 0, .int 0])), (qa_1, .inl (ca_2, 8, .inl (fun _ => 0))), (qo_3, .inr (2, [.ref qn_4, .ref qn_5, .ref qn_6])), (qn_4, .inl (ca_2, 64, .inl (fun _ => 0))), (qn_5, .inl (ca_2, 64, .inl (fun _ => 0))), (qn_6, .inl (ca_2, 64, .inl (fun _ => 0))), (qo_8, .inr (1, [.ref qn_9, .ref qn_10, .ref qn_11, .ref qn_12, .ref qn_13, .ref qn_14])), (qn_9, .inl (ca_2, 8, .inl (fun _ => 0))), (qn_10, .inl (ca_2, 240, .inl (fun _ => 0))), (qn_11, .inl (cn_16, 240, .inl (fun _ => 0))), (qn_12, .inl (ca_2, 240, .inl (fun _ => 0))), (qn_13, .inl (ca_2, 240, .inl (fun _ => 0))), (qn_14, .inl (cn_17, 3840, .inl (fun _ => 0))), (qo_18, .inr (0, [.null, .int 0]))] H := hP
  have hD : va_D A [(h0, .inr (3, [.ref qa_1, .ref qo_3, .ref qo_8, .null, .int 0, .int 0])), (qa_1, .inl (ca_2, 8, .inl (fun _ => 0))), (qo_3, .inr (2, [.ref qn_4, .ref qn_5, .ref qn_6])), (qn_4, .inl (ca_2, 64, .inl (fun _ => 0))), (qn_5, .inl (ca_2, 64, .inl (fun _ => 0))), (qn_6, .inl (ca_2, 64, .inl (fun _ => 0))), (qo_8, .inr (1, [.ref qn_9, .ref qn_10, .ref qn_11, .ref qn_12, .ref qn_13, .ref qn_14])), (qn_9, .inl (ca_2, 8, .inl (fun _ => 0))), (qn_10, .inl (ca_2, 240, .inl (fun _ => 0))), (qn_11, .inl (cn_16, 240, .inl (fun _ => 0))), (qn_12, .inl (ca_2, 240, .inl (fun _ => 0))), (qn_13, .inl (ca_2, 240, .inl (fun _ => 0))), (qn_14, .inl (cn_17, 3840, .inl (fun _ => 0))), (qo_18, .inr (0, [.null, .int 0]))] := hD
  refine lv_dup hx hb z_d_init_38 rfl ?_
  have hPc := hP.sub (ws' := [(qo_18, .inr (0, [.null, .int 0]))]) [13] rfl
  have hDc := hD.sub (ws' := [(qo_18, .inr (0, [.null, .int 0]))]) [13] (by decide) rfl
  have hKc := hK.sub (tys' := []) [] rfl
  have hFc := va_free (wc := [(qo_18, .inr (0, [.null, .int 0]))]) hD hS hA [13] rfl
  refine va_callv (va_runIN (As := []) (rest := [.ref qo_18, .ref h0]) ⟨hx, hb, hml, hown, hts⟩ (c_r_init l dC dI qo_18 H.size) ⟨va_cnB 0 hts (cw_good mw_78 rfl) rfl rfl rfl (hN _ nw_10) (hts _ (cw_in mw_4 rfl)) yd_r_init ⟨Nat.le_of_ble_eq_true rfl, Nat.le_of_ble_eq_true rfl⟩, rfl, hts _ (cw_in mw_77 rfl)⟩ ⟨fun _ _ _ _ q => ⟨q.1, q.2.calling⟩, fun U hU hW => ⟨rfl, WrC.of hPc hKc hDc hN hU hW⟩⟩ rfl rfl hl.1 rfl (lv_room (Nat.le_of_ble_eq_true rfl)) z_d_init_39 ⟨Nat.le_of_ble_eq_true rfl, Nat.le_of_ble_eq_true rfl⟩) hS (fun q _ h => hFc q h) hFc (fun u t H1 locs ht hvm hw hB hz1 hk1 hS => ?_)
  obtain ⟨qn_19, cn_20, hP1, hK1, hD1⟩ := hB
  rw [ht] at hP1
  have hK1 := va_K.moved hvm.symm hK1
  obtain ⟨hP, hD⟩ := va_join (wr := [(h0, .inr (3, [.ref qa_1, .ref qo_3, .ref qo_8, .null, .int 0, .int 0])), (qa_1, .inl (ca_2, 8, .inl (fun _ => 0))), (qo_3, .inr (2, [.ref qn_4, .ref qn_5, .ref qn_6])), (qn_4, .inl (ca_2, 64, .inl (fun _ => 0))), (qn_5, .inl (ca_2, 64, .inl (fun _ => 0))), (qn_6, .inl (ca_2, 64, .inl (fun _ => 0))), (qo_8, .inr (1, [.ref qn_9, .ref qn_10, .ref qn_11, .ref qn_12, .ref qn_13, .ref qn_14])), (qn_9, .inl (ca_2, 8, .inl (fun _ => 0))), (qn_10, .inl (ca_2, 240, .inl (fun _ => 0))), (qn_11, .inl (cn_16, 240, .inl (fun _ => 0))), (qn_12, .inl (ca_2, 240, .inl (fun _ => 0))), (qn_13, .inl (ca_2, 240, .inl (fun _ => 0))), (qn_14, .inl (cn_17, 3840, .inl (fun _ => 0)))]) (w1 := [(qo_18, .inr (0, [.ref qn_19, .int 0])), (qn_19, .inl (cn_20, 400, .inl (fun _ => 0)))]) hP hD [13] [0, 1, 2, 3, 4, 5, 6, 7, 8, 9, 10, 11, 12] rfl rfl (by decide) (by decide) hk1 hFc hP1 hD1
  have hK := (hK.sub (tys' := [(ca_2, .int), (cn_16, .boolean), (cn_17, .byte)]) [0, 1, 2] rfl).app hK1
  generalize H1 = H at hP hS ⊢
  have hP : va_P (dC, dI) vwCl [(h0, .inr (3, [.ref qa_1, .ref qo_3, .ref qo_8, .null, .int 0, .int 0])), (qa_1, .inl (ca_2, 8, .inl (fun _ => 0))), (qo_3, .inr (2, [.ref qn_4, .ref qn_5, .ref qn_6])), (qn_4, .inl (ca_2, 64, .inl (fun _ => 0))), (qn_5, .inl (ca_2, 64, .inl (fun _ => 0))), (qn_6, .inl (ca_2, 64, .inl (fun _ => 0))), (qo_8, .inr (1, [.ref qn_9, .ref qn_10, .ref qn_11, .ref qn_12, .ref qn_13, .ref qn_14])), (qn_9, .inl (ca_2, 8, .inl (fun _ => 0))), (qn_10, .inl (ca_2, 240, .inl (fun _ => 0))), (qn_11, .inl (cn_16, 240, .inl (fun _ => 0))), (qn_12, .inl (ca_2, 240, .inl (fun _ => 0))), (qn_13, .inl (ca_2, 240, .inl (fun _ => 0))), (qn_14, .inl (cn_17, 3840, .inl (fun _ => 0))), (qo_18, .inr (0, [.ref qn_19, .int 0])), (qn_19, .inl (cn_20, 400, .inl (fun _ => 0)))] H := hP
  have hD : va_D A [(h0, .inr (3, [.ref qa_1, .ref qo_3, .ref qo_8, .null, .int 0, .int 0])), (qa_1, .inl (ca_2, 8, .inl (fun _ => 0))), (qo_3, .inr (2, [.ref qn_4, .ref qn_5, .ref qn_6])), (qn_4, .inl (ca_2, 64, .inl (fun _ => 0))), (qn_5, .inl (ca_2, 64, .inl (fun _ => 0))), (qn_6, .inl (ca_2, 64, .inl (fun _ => 0))), (qo_8, .inr (1, [.ref qn_9, .ref qn_10, .ref qn_11, .ref qn_12, .ref qn_13, .ref qn_14])), (qn_9, .inl (ca_2, 8, .inl (fun _ => 0))), (qn_10, .inl (ca_2, 240, .inl (fun _ => 0))), (qn_11, .inl (cn_16, 240, .inl (fun _ => 0))), (qn_12, .inl (ca_2, 240, .inl (fun _ => 0))), (qn_13, .inl (ca_2, 240, .inl (fun _ => 0))), (qn_14, .inl (cn_17, 3840, .inl (fun _ => 0))), (qo_18, .inr (0, [.ref qn_19, .int 0])), (qn_19, .inl (cn_20, 400, .inl (fun _ => 0)))] := hD
  have hK : va_K (dC, dI) vwCl [(ca_2, .int), (cn_16, .boolean), (cn_17, .byte), (cn_20, .int)] s := hK
  refine W.widen (k := 14) (n := 5419) (Nat.le_of_ble_eq_true rfl) (Nat.le_of_ble_eq_true rfl) ?_
  obtain rfl : ca_2 = cn_20 := arr_int hK (i := 0) (j := 3) rfl rfl
  have hK := hK.sub (tys' := [(ca_2, .int), (cn_16, .boolean), (cn_17, .byte)]) [0, 1, 2] rfl
  refine va_putF (D := (dC, dI)) (ci := 3) (v := .ref qo_18) (ty := .object "ServiceDesk$Rows") (C := R3) (T := T3) (N := 6) hx hb hts (cw_sub iC3) ty3 tyok3 nm3 hown hK hP hD hS 0 rfl rfl 3 (by decide) (hts _ (cw_in mw_95 rfl)) (fun _ h9 => h9) rfl hin rfl (by decide +kernel) rfl rfl (Nat.le_of_ble_eq_true rfl) z_d_init_42 (fun H locs hP hD hS => ?_)
  have hP : va_P (dC, dI) vwCl [(h0, .inr (3, [.ref qa_1, .ref qo_3, .ref qo_8, .ref qo_18, .int 0, .int 0])), (qa_1, .inl (ca_2, 8, .inl (fun _ => 0))), (qo_3, .inr (2, [.ref qn_4, .ref qn_5, .ref qn_6])), (qn_4, .inl (ca_2, 64, .inl (fun _ => 0))), (qn_5, .inl (ca_2, 64, .inl (fun _ => 0))), (qn_6, .inl (ca_2, 64, .inl (fun _ => 0))), (qo_8, .inr (1, [.ref qn_9, .ref qn_10, .ref qn_11, .ref qn_12, .ref qn_13, .ref qn_14])), (qn_9, .inl (ca_2, 8, .inl (fun _ => 0))), (qn_10, .inl (ca_2, 240, .inl (fun _ => 0))), (qn_11, .inl (cn_16, 240, .inl (fun _ => 0))), (qn_12, .inl (ca_2, 240, .inl (fun _ => 0))), (qn_13, .inl (ca_2, 240, .inl (fun _ => 0))), (qn_14, .inl (cn_17, 3840, .inl (fun _ => 0))), (qo_18, .inr (0, [.ref qn_19, .int 0])), (qn_19, .inl (ca_2, 400, .inl (fun _ => 0)))] H := hP
  have hD : va_D A [(h0, .inr (3, [.ref qa_1, .ref qo_3, .ref qo_8, .ref qo_18, .int 0, .int 0])), (qa_1, .inl (ca_2, 8, .inl (fun _ => 0))), (qo_3, .inr (2, [.ref qn_4, .ref qn_5, .ref qn_6])), (qn_4, .inl (ca_2, 64, .inl (fun _ => 0))), (qn_5, .inl (ca_2, 64, .inl (fun _ => 0))), (qn_6, .inl (ca_2, 64, .inl (fun _ => 0))), (qo_8, .inr (1, [.ref qn_9, .ref qn_10, .ref qn_11, .ref qn_12, .ref qn_13, .ref qn_14])), (qn_9, .inl (ca_2, 8, .inl (fun _ => 0))), (qn_10, .inl (ca_2, 240, .inl (fun _ => 0))), (qn_11, .inl (cn_16, 240, .inl (fun _ => 0))), (qn_12, .inl (ca_2, 240, .inl (fun _ => 0))), (qn_13, .inl (ca_2, 240, .inl (fun _ => 0))), (qn_14, .inl (cn_17, 3840, .inl (fun _ => 0))), (qo_18, .inr (0, [.ref qn_19, .int 0])), (qn_19, .inl (ca_2, 400, .inl (fun _ => 0)))] := hD
  refine lv_aload_n hx hb z_d_init_45 rfl (lv_at hl 0 rfl) ?_
  refine va_get (D := (dC, dI)) (ci := 3) (v := .ref qa_1) (C := R3) (T := T3) (N := 6) hx hb hts (cw_sub iC3) hown hK hP 0 rfl rfl 0 (by decide) (hts _ (cw_in mw_92 rfl)) (fun _ h9 => h9) rfl z_d_init_46 ?_
  refine lv_iconst (v := (-1)) hx hb z_d_init_49 (by decide) ?_
  have hPc := hP.sub (ws' := [(qa_1, .inl (ca_2, 8, .inl (fun _ => 0)))]) [1] rfl
  have hDc := hD.sub (ws' := [(qa_1, .inl (ca_2, 8, .inl (fun _ => 0)))]) [1] (by decide) rfl
  have hKc := hK.sub (tys' := [(ca_2, .int)]) [0] rfl
  have hFc := va_free (wc := [(qa_1, .inl (ca_2, 8, .inl (fun _ => 0)))]) hD hS hA [1] rfl
  refine va_callv (va_runS (As := [.ref qa_1, .int (-1)]) (rest := []) ⟨hx, hb, hml, hown, hts⟩ (c_J_fill l dC dI qa_1 H.size ca_2 (fun _ => 0) (-1)) (va_cwS 2 hts (cw_goodS mw_91 rfl mw_89 mw_90 mw_5) rfl rfl rfl yd_J_fill ⟨Nat.le_of_ble_eq_true rfl, Nat.le_of_ble_eq_true rfl⟩) ⟨fun _ _ _ _ q => ⟨q.1, q.2.calling⟩, fun U hU hW => ⟨rfl, WrC.of hPc hKc hDc hN hU hW⟩⟩ rfl rfl hl.1 rfl (lv_room (Nat.le_of_ble_eq_true rfl)) z_d_init_50 ⟨Nat.le_of_ble_eq_true rfl, Nat.le_of_ble_eq_true rfl⟩) hS (fun q _ h => hFc q h) hFc (fun u t H1 locs ht hvm hw hB hz1 hk1 hS => ?_)
  obtain ⟨hP1, hK1, hD1⟩ := hB
  rw [ht] at hP1
  obtain ⟨hP, hD⟩ := va_join (wr := [(h0, .inr (3, [.ref qa_1, .ref qo_3, .ref qo_8, .ref qo_18, .int 0, .int 0])), (qo_3, .inr (2, [.ref qn_4, .ref qn_5, .ref qn_6])), (qn_4, .inl (ca_2, 64, .inl (fun _ => 0))), (qn_5, .inl (ca_2, 64, .inl (fun _ => 0))), (qn_6, .inl (ca_2, 64, .inl (fun _ => 0))), (qo_8, .inr (1, [.ref qn_9, .ref qn_10, .ref qn_11, .ref qn_12, .ref qn_13, .ref qn_14])), (qn_9, .inl (ca_2, 8, .inl (fun _ => 0))), (qn_10, .inl (ca_2, 240, .inl (fun _ => 0))), (qn_11, .inl (cn_16, 240, .inl (fun _ => 0))), (qn_12, .inl (ca_2, 240, .inl (fun _ => 0))), (qn_13, .inl (ca_2, 240, .inl (fun _ => 0))), (qn_14, .inl (cn_17, 3840, .inl (fun _ => 0))), (qo_18, .inr (0, [.ref qn_19, .int 0])), (qn_19, .inl (ca_2, 400, .inl (fun _ => 0)))]) (w1 := [(qa_1, .inl (ca_2, 8, .inl (fil (fun _ => 0) (-1) 8)))]) hP hD [1] [0, 2, 3, 4, 5, 6, 7, 8, 9, 10, 11, 12, 13, 14] rfl rfl (by decide) (by decide) hk1 hFc hP1 hD1
  generalize H1 = H at hP hS ⊢
  have hP : va_P (dC, dI) vwCl [(h0, .inr (3, [.ref qa_1, .ref qo_3, .ref qo_8, .ref qo_18, .int 0, .int 0])), (qo_3, .inr (2, [.ref qn_4, .ref qn_5, .ref qn_6])), (qn_4, .inl (ca_2, 64, .inl (fun _ => 0))), (qn_5, .inl (ca_2, 64, .inl (fun _ => 0))), (qn_6, .inl (ca_2, 64, .inl (fun _ => 0))), (qo_8, .inr (1, [.ref qn_9, .ref qn_10, .ref qn_11, .ref qn_12, .ref qn_13, .ref qn_14])), (qn_9, .inl (ca_2, 8, .inl (fun _ => 0))), (qn_10, .inl (ca_2, 240, .inl (fun _ => 0))), (qn_11, .inl (cn_16, 240, .inl (fun _ => 0))), (qn_12, .inl (ca_2, 240, .inl (fun _ => 0))), (qn_13, .inl (ca_2, 240, .inl (fun _ => 0))), (qn_14, .inl (cn_17, 3840, .inl (fun _ => 0))), (qo_18, .inr (0, [.ref qn_19, .int 0])), (qn_19, .inl (ca_2, 400, .inl (fun _ => 0))), (qa_1, .inl (ca_2, 8, .inl (fil (fun _ => 0) (-1) 8)))] H := hP
  have hD : va_D A [(h0, .inr (3, [.ref qa_1, .ref qo_3, .ref qo_8, .ref qo_18, .int 0, .int 0])), (qo_3, .inr (2, [.ref qn_4, .ref qn_5, .ref qn_6])), (qn_4, .inl (ca_2, 64, .inl (fun _ => 0))), (qn_5, .inl (ca_2, 64, .inl (fun _ => 0))), (qn_6, .inl (ca_2, 64, .inl (fun _ => 0))), (qo_8, .inr (1, [.ref qn_9, .ref qn_10, .ref qn_11, .ref qn_12, .ref qn_13, .ref qn_14])), (qn_9, .inl (ca_2, 8, .inl (fun _ => 0))), (qn_10, .inl (ca_2, 240, .inl (fun _ => 0))), (qn_11, .inl (cn_16, 240, .inl (fun _ => 0))), (qn_12, .inl (ca_2, 240, .inl (fun _ => 0))), (qn_13, .inl (ca_2, 240, .inl (fun _ => 0))), (qn_14, .inl (cn_17, 3840, .inl (fun _ => 0))), (qo_18, .inr (0, [.ref qn_19, .int 0])), (qn_19, .inl (ca_2, 400, .inl (fun _ => 0))), (qa_1, .inl (ca_2, 8, .inl (fil (fun _ => 0) (-1) 8)))] := hD
  obtain ⟨q, hq⟩ : ∃ q : Nat → Nat, q = fun i => if i = 0 then h0 else if i = 1 then qa_1 else if i = 2 then qo_3 else if i = 3 then qn_4 else if i = 4 then qn_5 else if i = 5 then qn_6 else if i = 6 then qo_8 else if i = 7 then qn_9 else if i = 8 then qn_10 else if i = 9 then qn_11 else if i = 10 then qn_12 else if i = 11 then qn_13 else if i = 12 then qn_14 else if i = 13 then qo_18 else qn_19 := ⟨_, rfl⟩
  have hq0 : h0 = q 0 := by rw [hq]; rfl
  have hq1 : qa_1 = q 1 := by rw [hq]; rfl
  have hq2 : qo_3 = q 2 := by rw [hq]; rfl
  have hq3 : qn_4 = q 3 := by rw [hq]; rfl
  have hq4 : qn_5 = q 4 := by rw [hq]; rfl
  have hq5 : qn_6 = q 5 := by rw [hq]; rfl
  have hq6 : qo_8 = q 6 := by rw [hq]; rfl
  have hq7 : qn_9 = q 7 := by rw [hq]; rfl
  have hq8 : qn_10 = q 8 := by rw [hq]; rfl
  have hq9 : qn_11 = q 9 := by rw [hq]; rfl
  have hq10 : qn_12 = q 10 := by rw [hq]; rfl
  have hq11 : qn_13 = q 11 := by rw [hq]; rfl
  have hq12 : qn_14 = q 12 := by rw [hq]; rfl
  have hq13 : qo_18 = q 13 := by rw [hq]; rfl
  have hq14 : qn_19 = q 14 := by rw [hq]; rfl
  have hP := hP.sub (ws' := [(h0, .inr (3, [.ref qa_1, .ref qo_3, .ref qo_8, .ref qo_18, .int 0, .int 0])), (qa_1, .inl (ca_2, 8, .inl (fil (fun _ => 0) (-1) 8))), (qo_3, .inr (2, [.ref qn_4, .ref qn_5, .ref qn_6])), (qn_4, .inl (ca_2, 64, .inl (fun _ => 0))), (qn_5, .inl (ca_2, 64, .inl (fun _ => 0))), (qn_6, .inl (ca_2, 64, .inl (fun _ => 0))), (qo_8, .inr (1, [.ref qn_9, .ref qn_10, .ref qn_11, .ref qn_12, .ref qn_13, .ref qn_14])), (qn_9, .inl (ca_2, 8, .inl (fun _ => 0))), (qn_10, .inl (ca_2, 240, .inl (fun _ => 0))), (qn_11, .inl (cn_16, 240, .inl (fun _ => 0))), (qn_12, .inl (ca_2, 240, .inl (fun _ => 0))), (qn_13, .inl (ca_2, 240, .inl (fun _ => 0))), (qn_14, .inl (cn_17, 3840, .inl (fun _ => 0))), (qo_18, .inr (0, [.ref qn_19, .int 0])), (qn_19, .inl (ca_2, 400, .inl (fun _ => 0)))]) [0, 14, 1, 2, 3, 4, 5, 6, 7, 8, 9, 10, 11, 12, 13] rfl
  have hD := hD.sub (ws' := [(h0, .inr (3, [.ref qa_1, .ref qo_3, .ref qo_8, .ref qo_18, .int 0, .int 0])), (qa_1, .inl (ca_2, 8, .inl (fil (fun _ => 0) (-1) 8))), (qo_3, .inr (2, [.ref qn_4, .ref qn_5, .ref qn_6])), (qn_4, .inl (ca_2, 64, .inl (fun _ => 0))), (qn_5, .inl (ca_2, 64, .inl (fun _ => 0))), (qn_6, .inl (ca_2, 64, .inl (fun _ => 0))), (qo_8, .inr (1, [.ref qn_9, .ref qn_10, .ref qn_11, .ref qn_12, .ref qn_13, .ref qn_14])), (qn_9, .inl (ca_2, 8, .inl (fun _ => 0))), (qn_10, .inl (ca_2, 240, .inl (fun _ => 0))), (qn_11, .inl (cn_16, 240, .inl (fun _ => 0))), (qn_12, .inl (ca_2, 240, .inl (fun _ => 0))), (qn_13, .inl (ca_2, 240, .inl (fun _ => 0))), (qn_14, .inl (cn_17, 3840, .inl (fun _ => 0))), (qo_18, .inr (0, [.ref qn_19, .int 0])), (qn_19, .inl (ca_2, 400, .inl (fun _ => 0)))]) [0, 14, 1, 2, 3, 4, 5, 6, 7, 8, 9, 10, 11, 12, 13] (by decide) rfl
  have hK := hK.sub (tys' := tyC ca_2 cn_16 cn_17) [0, 1, 2] rfl
  rw [hq0, hq1, hq2, hq3, hq4, hq5, hq6, hq7, hq8, hq9, hq10, hq11, hq12, hq13, hq14] at hP hD
  exact W.vret hx hb hr (fun t ht hW => ⟨⟨(), rfl, trivial, q, ca_2, cn_16, cn_17, hq0.symm, by rw [ht]; exact hP, va_K.moved hW.alike hK, hD⟩, hS.F ht⟩) hS.2.2 z_d_init_53

set_option maxHeartbeats 4000000 in
set_option maxRecDepth 100000 in
theorem c_m_init (l : Launch) (dC : Nat → ClassId) (dI : Nat → Nat → Nat) (h0 sz : Nat) : Met l y_m_init (Cond.code y_m_init b_m_init 1 none :: CW) { frames := 1, cells := 11, slots := 5408, locals := 12 } (va_Pc [.ref h0] (WrC (dC, dI) sz [(h0, .inr (4, [.int 0, .null, .null, .null, .null, .null, .null, .null, .null, .null, .null, .int 0, .int 0, .int 0, .null, .int 0, .long 0]))] [])) (va_Qv (fun _ : Unit => True) (fun _ t => ∃ (a : Nat → Nat) (cI cZ cL : ClassId), a 0 = h0 ∧ WrB (dC, dI) (wM a cI cZ cL v00 0 0 0) (tyM cI cZ cL) (va_A [(h0, .inr (4, [.int 0, .null, .null, .null, .null, .null, .null, .null, .null, .null, .null, .int 0, .int 0, .int 0, .null, .int 0, .long 0]))] sz) t) (va_A [(h0, .inr (4, [.int 0, .null, .null, .null, .null, .null, .null, .null, .null, .null, .null, .int 0, .int 0, .int 0, .null, .int 0, .long 0]))] sz)) 11 5408 (va_A [(h0, .inr (4, [.int 0, .null, .null, .null, .null, .null, .null, .null, .null, .null, .null, .int 0, .int 0, .int 0, .null, .int 0, .long 0]))] sz) := by
  refine cx_met (by decide) (Nat.le_of_ble_eq_true rfl) ?_
  intro p e s m below meth c hx hb hr hml hts hown hlocks hnm hC ls hl
  have hin : meth.name = "<init>" := hnm
  obtain ⟨hsz, hP, hK, hD0, hN⟩ := hC
  subst hsz
  have hD := hD0.self (sz := s.heap.size)
  generalize hAe : va_A [(h0, .inr (4, [.int 0, .null, .null, .null, .null, .null, .null, .null, .null, .null, .null, .int 0, .int 0, .int 0, .null, .int 0, .long 0]))] s.heap.size = A at hD ⊢
  have hA : ∀ q9 : Nat, s.heap.size ≤ q9 → A q9 := fun q9 h => by rw [← hAe]; exact Or.inr h
  have hS : va_S A s.heap s.heap [] := va_S.rf
  have hown : s.vm.findClass "ServiceDeskModel" = some m.cls := hown
  have hl : lv_has ls 1 [(0, .ref h0)] := hl
  refine lv_aload_n hx hb z_m_init_0 rfl (lv_at hl 0 rfl) ?_
  refine W.objInit hx hb hown (hts _ (cw_in mw_479 rfl)) (hts _ (cw_in mw_20 rfl)) (hts _ (cw_in mw_21 rfl)) rfl (by rw [hml]; exact hl.1) rfl z_m_init_1 (Nat.le_of_ble_eq_true rfl) (Nat.le_of_ble_eq_true rfl) ?_
  refine W.eq (g2 := F0 m 4 ls []) rfl ?_
  refine lv_aload_n hx hb z_m_init_4 rfl (lv_at hl 0 rfl) ?_
  refine lv_bipush (v := 8) hx hb z_m_init_5 (by decide) ?_
  refine va_newa (atype := .int) (N' := 8) (a0 := (8, .inl (fun _ => 0))) (ty := .int) (n := 8) hx hb (hts _ (cw_in mw_41 rfl)) rfl hK hP hD hS hA (fun _ => rfl) (by decide) (by decide) (by decide) (Nat.le_of_ble_eq_true rfl) (Nat.le_of_ble_eq_true rfl) z_m_init_7 (fun qa_1 ca_2 H hK hP hD hS => ?_)
  refine W.widen (k := 1) (n := 8) (Nat.le_of_ble_eq_true rfl) (Nat.le_of_ble_eq_true rfl) ?_
  have hK : va_K (dC, dI) vwCl [(ca_2, .int)] s := hK
  have hP : va_P (dC, dI) vwCl [(h0, .inr (4, [.int 0, .null, .null, .null, .null, .null, .null, .null, .null, .null, .null, .int 0, .int 0, .int 0, .null, .int 0, .long 0])), (qa_1, .inl (ca_2, 8, .inl (fun _ => 0)))] H := hP
  have hD : va_D A [(h0, .inr (4, [.int 0, .null, .null, .null, .null, .null, .null, .null, .null, .null, .null, .int 0, .int 0, .int 0, .null, .int 0, .long 0])), (qa_1, .inl (ca_2, 8, .inl (fun _ => 0)))] := hD
  refine lv_dup hx hb z_m_init_9 rfl ?_
  refine lv_iconst (v := 0) hx hb z_m_init_10 (by decide) ?_
  refine lv_iconst (v := (-1)) hx hb z_m_init_11 (by decide) ?_
  refine W.eq (g2 := F0 m 12 ls (.int (-1) :: .int (nI 0) :: .ref qa_1 :: [.ref qa_1, .ref h0])) rfl ?_
  refine xs_i hx hb hK hP hD hS 1 0 rfl rfl (k := 0) (by decide) (by decide) z_m_init_12 (fun H locs hP hD hS => ?_)
  have hP : va_P (dC, dI) vwCl [(h0, .inr (4, [.int 0, .null, .null, .null, .null, .null, .null, .null, .null, .null, .null, .int 0, .int 0, .int 0, .null, .int 0, .long 0])), (qa_1, .inl (ca_2, 8, .inl (upd (fun _ => 0) 0 (-1))))] H := hP
  have hD : va_D A [(h0, .inr (4, [.int 0, .null, .null, .null, .null, .null, .null, .null, .null, .null, .null, .int 0, .int 0, .int 0, .null, .int 0, .long 0])), (qa_1, .inl (ca_2, 8, .inl (upd (fun _ => 0) 0 (-1))))] := hD
  refine lv_dup hx hb z_m_init_13 rfl ?_
  refine lv_iconst (v := 1) hx hb z_m_init_14 (by decide) ?_
  refine lv_iconst (v := (-1)) hx hb z_m_init_15 (by decide) ?_
  refine W.eq (g2 := F0 m 16 ls (.int (-1) :: .int (nI 1) :: .ref qa_1 :: [.ref qa_1, .ref h0])) rfl ?_
  refine xs_i hx hb hK hP hD hS 1 0 rfl rfl (k := 1) (by decide) (by decide) z_m_init_16 (fun H locs hP hD hS => ?_)
  have hP : va_P (dC, dI) vwCl [(h0, .inr (4, [.int 0, .null, .null, .null, .null, .null, .null, .null, .null, .null, .null, .int 0, .int 0, .int 0, .null, .int 0, .long 0])), (qa_1, .inl (ca_2, 8, .inl (upd (upd (fun _ => 0) 0 (-1)) 1 (-1))))] H := hP
  have hD : va_D A [(h0, .inr (4, [.int 0, .null, .null, .null, .null, .null, .null, .null, .null, .null, .null, .int 0, .int 0, .int 0, .null, .int 0, .long 0])), (qa_1, .inl (ca_2, 8, .inl (upd (upd (fun _ => 0) 0 (-1)) 1 (-1))))] := hD
  refine lv_dup hx hb z_m_init_17 rfl ?_
  refine lv_iconst (v := 2) hx hb z_m_init_18 (by decide) ?_
  refine lv_iconst (v := (-1)) hx hb z_m_init_19 (by decide) ?_
  refine W.eq (g2 := F0 m 20 ls (.int (-1) :: .int (nI 2) :: .ref qa_1 :: [.ref qa_1, .ref h0])) rfl ?_
  refine xs_i hx hb hK hP hD hS 1 0 rfl rfl (k := 2) (by decide) (by decide) z_m_init_20 (fun H locs hP hD hS => ?_)
  have hP : va_P (dC, dI) vwCl [(h0, .inr (4, [.int 0, .null, .null, .null, .null, .null, .null, .null, .null, .null, .null, .int 0, .int 0, .int 0, .null, .int 0, .long 0])), (qa_1, .inl (ca_2, 8, .inl (upd (upd (upd (fun _ => 0) 0 (-1)) 1 (-1)) 2 (-1))))] H := hP
  have hD : va_D A [(h0, .inr (4, [.int 0, .null, .null, .null, .null, .null, .null, .null, .null, .null, .null, .int 0, .int 0, .int 0, .null, .int 0, .long 0])), (qa_1, .inl (ca_2, 8, .inl (upd (upd (upd (fun _ => 0) 0 (-1)) 1 (-1)) 2 (-1))))] := hD
  refine lv_dup hx hb z_m_init_21 rfl ?_
  refine lv_iconst (v := 3) hx hb z_m_init_22 (by decide) ?_
  refine lv_iconst (v := (-1)) hx hb z_m_init_23 (by decide) ?_
  refine W.eq (g2 := F0 m 24 ls (.int (-1) :: .int (nI 3) :: .ref qa_1 :: [.ref qa_1, .ref h0])) rfl ?_
  refine xs_i hx hb hK hP hD hS 1 0 rfl rfl (k := 3) (by decide) (by decide) z_m_init_24 (fun H locs hP hD hS => ?_)
  have hP : va_P (dC, dI) vwCl [(h0, .inr (4, [.int 0, .null, .null, .null, .null, .null, .null, .null, .null, .null, .null, .int 0, .int 0, .int 0, .null, .int 0, .long 0])), (qa_1, .inl (ca_2, 8, .inl (upd (upd (upd (upd (fun _ => 0) 0 (-1)) 1 (-1)) 2 (-1)) 3 (-1))))] H := hP
  have hD : va_D A [(h0, .inr (4, [.int 0, .null, .null, .null, .null, .null, .null, .null, .null, .null, .null, .int 0, .int 0, .int 0, .null, .int 0, .long 0])), (qa_1, .inl (ca_2, 8, .inl (upd (upd (upd (upd (fun _ => 0) 0 (-1)) 1 (-1)) 2 (-1)) 3 (-1))))] := hD
  refine lv_dup hx hb z_m_init_25 rfl ?_
  refine lv_iconst (v := 4) hx hb z_m_init_26 (by decide) ?_
  refine lv_iconst (v := (-1)) hx hb z_m_init_27 (by decide) ?_
  refine W.eq (g2 := F0 m 28 ls (.int (-1) :: .int (nI 4) :: .ref qa_1 :: [.ref qa_1, .ref h0])) rfl ?_
  refine xs_i hx hb hK hP hD hS 1 0 rfl rfl (k := 4) (by decide) (by decide) z_m_init_28 (fun H locs hP hD hS => ?_)
  have hP : va_P (dC, dI) vwCl [(h0, .inr (4, [.int 0, .null, .null, .null, .null, .null, .null, .null, .null, .null, .null, .int 0, .int 0, .int 0, .null, .int 0, .long 0])), (qa_1, .inl (ca_2, 8, .inl (upd (upd (upd (upd (upd (fun _ => 0) 0 (-1)) 1 (-1)) 2 (-1)) 3 (-1)) 4 (-1))))] H := hP
  have hD : va_D A [(h0, .inr (4, [.int 0, .null, .null, .null, .null, .null, .null, .null, .null, .null, .null, .int 0, .int 0, .int 0, .null, .int 0, .long 0])), (qa_1, .inl (ca_2, 8, .inl (upd (upd (upd (upd (upd (fun _ => 0) 0 (-1)) 1 (-1)) 2 (-1)) 3 (-1)) 4 (-1))))] := hD
  refine lv_dup hx hb z_m_init_29 rfl ?_
  refine lv_iconst (v := 5) hx hb z_m_init_30 (by decide) ?_
  refine lv_iconst (v := (-1)) hx hb z_m_init_31 (by decide) ?_
  refine W.eq (g2 := F0 m 32 ls (.int (-1) :: .int (nI 5) :: .ref qa_1 :: [.ref qa_1, .ref h0])) rfl ?_
  refine xs_i hx hb hK hP hD hS 1 0 rfl rfl (k := 5) (by decide) (by decide) z_m_init_32 (fun H locs hP hD hS => ?_)
  have hP : va_P (dC, dI) vwCl [(h0, .inr (4, [.int 0, .null, .null, .null, .null, .null, .null, .null, .null, .null, .null, .int 0, .int 0, .int 0, .null, .int 0, .long 0])), (qa_1, .inl (ca_2, 8, .inl (upd (upd (upd (upd (upd (upd (fun _ => 0) 0 (-1)) 1 (-1)) 2 (-1)) 3 (-1)) 4 (-1)) 5 (-1))))] H := hP
  have hD : va_D A [(h0, .inr (4, [.int 0, .null, .null, .null, .null, .null, .null, .null, .null, .null, .null, .int 0, .int 0, .int 0, .null, .int 0, .long 0])), (qa_1, .inl (ca_2, 8, .inl (upd (upd (upd (upd (upd (upd (fun _ => 0) 0 (-1)) 1 (-1)) 2 (-1)) 3 (-1)) 4 (-1)) 5 (-1))))] := hD
  refine lv_dup hx hb z_m_init_33 rfl ?_
  refine lv_bipush (v := 6) hx hb z_m_init_34 (by decide) ?_
  refine lv_iconst (v := (-1)) hx hb z_m_init_36 (by decide) ?_
  refine W.eq (g2 := F0 m 37 ls (.int (-1) :: .int (nI 6) :: .ref qa_1 :: [.ref qa_1, .ref h0])) rfl ?_
  refine xs_i hx hb hK hP hD hS 1 0 rfl rfl (k := 6) (by decide) (by decide) z_m_init_37 (fun H locs hP hD hS => ?_)
  have hP : va_P (dC, dI) vwCl [(h0, .inr (4, [.int 0, .null, .null, .null, .null, .null, .null, .null, .null, .null, .null, .int 0, .int 0, .int 0, .null, .int 0, .long 0])), (qa_1, .inl (ca_2, 8, .inl (upd (upd (upd (upd (upd (upd (upd (fun _ => 0) 0 (-1)) 1 (-1)) 2 (-1)) 3 (-1)) 4 (-1)) 5 (-1)) 6 (-1))))] H := hP
  have hD : va_D A [(h0, .inr (4, [.int 0, .null, .null, .null, .null, .null, .null, .null, .null, .null, .null, .int 0, .int 0, .int 0, .null, .int 0, .long 0])), (qa_1, .inl (ca_2, 8, .inl (upd (upd (upd (upd (upd (upd (upd (fun _ => 0) 0 (-1)) 1 (-1)) 2 (-1)) 3 (-1)) 4 (-1)) 5 (-1)) 6 (-1))))] := hD
  refine lv_dup hx hb z_m_init_38 rfl ?_
  refine lv_bipush (v := 7) hx hb z_m_init_39 (by decide) ?_
  refine lv_iconst (v := (-1)) hx hb z_m_init_41 (by decide) ?_
  refine W.eq (g2 := F0 m 42 ls (.int (-1) :: .int (nI 7) :: .ref qa_1 :: [.ref qa_1, .ref h0])) rfl ?_
  refine xs_i hx hb hK hP hD hS 1 0 rfl rfl (k := 7) (by decide) (by decide) z_m_init_42 (fun H locs hP hD hS => ?_)
  have hP : va_P (dC, dI) vwCl [(h0, .inr (4, [.int 0, .null, .null, .null, .null, .null, .null, .null, .null, .null, .null, .int 0, .int 0, .int 0, .null, .int 0, .long 0])), (qa_1, .inl (ca_2, 8, .inl (upd (upd (upd (upd (upd (upd (upd (upd (fun _ => 0) 0 (-1)) 1 (-1)) 2 (-1)) 3 (-1)) 4 (-1)) 5 (-1)) 6 (-1)) 7 (-1))))] H := hP
  have hD : va_D A [(h0, .inr (4, [.int 0, .null, .null, .null, .null, .null, .null, .null, .null, .null, .null, .int 0, .int 0, .int 0, .null, .int 0, .long 0])), (qa_1, .inl (ca_2, 8, .inl (upd (upd (upd (upd (upd (upd (upd (upd (fun _ => 0) 0 (-1)) 1 (-1)) 2 (-1)) 3 (-1)) 4 (-1)) 5 (-1)) 6 (-1)) 7 (-1))))] := hD
  refine va_putF (D := (dC, dI)) (ci := 4) (v := .ref qa_1) (ty := .array .int) (C := R4) (T := T4) (N := 17) hx hb hts (cw_sub iC4) ty4 tyok4 nm4 hown hK hP hD hS 0 rfl rfl 1 (by decide) (hts _ (cw_in mw_481 rfl)) (fun _ h9 => h9) rfl hin rfl (by decide +kernel) rfl rfl (Nat.le_of_ble_eq_true rfl) z_m_init_43 (fun H locs hP hD hS => ?_)
  have hP : va_P (dC, dI) vwCl [(h0, .inr (4, [.int 0, .ref qa_1, .null, .null, .null, .null, .null, .null, .null, .null, .null, .int 0, .int 0, .int 0, .null, .int 0, .long 0])), (qa_1, .inl (ca_2, 8, .inl (upd (upd (upd (upd (upd (upd (upd (upd (fun _ => 0) 0 (-1)) 1 (-1)) 2 (-1)) 3 (-1)) 4 (-1)) 5 (-1)) 6 (-1)) 7 (-1))))] H := hP
  have hD : va_D A [(h0, .inr (4, [.int 0, .ref qa_1, .null, .null, .null, .null, .null, .null, .null, .null, .null, .int 0, .int 0, .int 0, .null, .int 0, .long 0])), (qa_1, .inl (ca_2, 8, .inl (upd (upd (upd (upd (upd (upd (upd (upd (fun _ => 0) 0 (-1)) 1 (-1)) 2 (-1)) 3 (-1)) 4 (-1)) 5 (-1)) 6 (-1)) 7 (-1))))] := hD
  refine lv_aload_n hx hb z_m_init_46 rfl (lv_at hl 0 rfl) ?_
  refine lv_bipush (v := 8) hx hb z_m_init_47 (by decide) ?_
  refine va_newa (atype := .int) (N' := 8) (a0 := (8, .inl (fun _ => 0))) (ty := .int) (n := 8) hx hb (hts _ (cw_in mw_41 rfl)) rfl hK hP hD hS hA (fun _ => rfl) (by decide) (by decide) (by decide) (Nat.le_of_ble_eq_true rfl) (Nat.le_of_ble_eq_true rfl) z_m_init_49 (fun qa_3 ca_4 H hK hP hD hS => ?_)
  refine W.widen (k := 2) (n := 16) (Nat.le_of_ble_eq_true rfl) (Nat.le_of_ble_eq_true rfl) ?_
  have hK : va_K (dC, dI) vwCl [(ca_2, .int), (ca_4, .int)] s := hK
  have hP : va_P (dC, dI) vwCl [(h0, .inr (4, [.int 0, .ref qa_1, .null, .null, .null, .null, .null, .null, .null, .null, .null, .int 0, .int 0, .int 0, .null, .int 0, .long 0])), (qa_1, .inl (ca_2, 8, .inl (upd (upd (upd (upd (upd (upd (upd (upd (fun _ => 0) 0 (-1)) 1 (-1)) 2 (-1)) 3 (-1)) 4 (-1)) 5 (-1)) 6 (-1)) 7 (-1)))), (qa_3, .inl (ca_4, 8, .inl (fun _ => 0)))] H := hP
  have hD : va_D A [(h0, .inr (4, [.int 0, .ref qa_1, .null, .null, .null, .null, .null, .null, .null, .null, .null, .int 0, .int 0, .int 0, .null, .int 0, .long 0])), (qa_1, .inl (ca_2, 8, .inl (upd (upd (upd (upd (upd (upd (upd (upd (fun _ => 0) 0 (-1)) 1 (-1)) 2 (-1)) 3 (-1)) 4 (-1)) 5 (-1)) 6 (-1)) 7 (-1)))), (qa_3, .inl (ca_4, 8, .inl (fun _ => 0)))] := hD
  obtain rfl : ca_2 = ca_4 := arr_int hK (i := 0) (j := 1) rfl rfl
  have hK := hK.sub (tys' := [(ca_2, .int)]) [0] rfl
  refine va_putF (D := (dC, dI)) (ci := 4) (v := .ref qa_3) (ty := .array .int) (C := R4) (T := T4) (N := 17) hx hb hts (cw_sub iC4) ty4 tyok4 nm4 hown hK hP hD hS 0 rfl rfl 2 (by decide) (hts _ (cw_in mw_482 rfl)) (fun _ h9 => h9) rfl hin rfl (by decide +kernel) rfl rfl (Nat.le_of_ble_eq_true rfl) z_m_init_51 (fun H locs hP hD hS => ?_)
  have hP : va_P (dC, dI) vwCl [(h0, .inr (4, [.int 0, .ref qa_1, .ref qa_3, .null, .null, .null, .null, .null, .null, .null, .null, .int 0, .int 0, .int 0, .null, .int 0, .long 0])), (qa_1, .inl (ca_2, 8, .inl (upd (upd (upd (upd (upd (upd (upd (upd (fun _ => 0) 0 (-1)) 1 (-1)) 2 (-1)) 3 (-1)) 4 (-1)) 5 (-1)) 6 (-1)) 7 (-1)))), (qa_3, .inl (ca_2, 8, .inl (fun _ => 0)))] H := hP
  have hD : va_D A [(h0, .inr (4, [.int 0, .ref qa_1, .ref qa_3, .null, .null, .null, .null, .null, .null, .null, .null, .int 0, .int 0, .int 0, .null, .int 0, .long 0])), (qa_1, .inl (ca_2, 8, .inl (upd (upd (upd (upd (upd (upd (upd (upd (fun _ => 0) 0 (-1)) 1 (-1)) 2 (-1)) 3 (-1)) 4 (-1)) 5 (-1)) 6 (-1)) 7 (-1)))), (qa_3, .inl (ca_2, 8, .inl (fun _ => 0)))] := hD
  refine lv_aload_n hx hb z_m_init_54 rfl (lv_at hl 0 rfl) ?_
  refine lv_sipush (v := 240) hx hb z_m_init_55 (by decide) ?_
  refine va_newa (atype := .int) (N' := 240) (a0 := (240, .inl (fun _ => 0))) (ty := .int) (n := 240) hx hb (hts _ (cw_in mw_41 rfl)) rfl hK hP hD hS hA (fun _ => rfl) (by decide) (by decide) (by decide) (Nat.le_of_ble_eq_true rfl) (Nat.le_of_ble_eq_true rfl) z_m_init_58 (fun qa_5 ca_6 H hK hP hD hS => ?_)
  refine W.widen (k := 3) (n := 256) (Nat.le_of_ble_eq_true rfl) (Nat.le_of_ble_eq_true rfl) ?_
  have hK : va_K (dC, dI) vwCl [(ca_2, .int), (ca_6, .int)] s := hK
  have hP : va_P (dC, dI) vwCl [(h0, .inr (4, [.int 0, .ref qa_1, .ref qa_3, .null, .null, .null, .null, .null, .null, .null, .null, .int 0, .int 0, .int 0, .null, .int 0, .long 0])), (qa_1, .inl (ca_2, 8, .inl (upd (upd (upd (upd (upd (upd (upd (upd (fun _ => 0) 0 (-1)) 1 (-1)) 2 (-1)) 3 (-1)) 4 (-1)) 5 (-1)) 6 (-1)) 7 (-1)))), (qa_3, .inl (ca_2, 8, .inl (fun _ => 0))), (qa_5, .inl (ca_6, 240, .inl (fun _ => 0)))] H := hP
  have hD : va_D A [(h0, .inr (4, [.int 0, .ref qa_1, .ref qa_3, .null, .null, .null, .null, .null, .null, .null, .null, .int 0, .int 0, .int 0, .null, .int 0, .long 0])), (qa_1, .inl (ca_2, 8, .inl (upd (upd (upd (upd (upd (upd (upd (upd (fun _ => 0) 0 (-1)) 1 (-1)) 2 (-1)) 3 (-1)) 4 (-1)) 5 (-1)) 6 (-1)) 7 (-1)))), (qa_3, .inl (ca_2, 8, .inl (fun _ => 0))), (qa_5, .inl (ca_6, 240, .inl (fun _ => 0)))] := hD
  obtain rfl : ca_2 = ca_6 := arr_int hK (i := 0) (j := 1) rfl rfl
  have hK := hK.sub (tys' := [(ca_2, .int)]) [0] rfl
  refine va_putF (D := (dC, dI)) (ci := 4) (v := .ref qa_5) (ty := .array .int) (C := R4) (T := T4) (N := 17) hx hb hts (cw_sub iC4) ty4 tyok4 nm4 hown hK hP hD hS 0 rfl rfl 3 (by decide) (hts _ (cw_in mw_483 rfl)) (fun _ h9 => h9) rfl hin rfl (by decide +kernel) rfl rfl (Nat.le_of_ble_eq_true rfl) z_m_init_60 (fun H locs hP hD hS => ?_)
  have hP : va_P (dC, dI) vwCl [(h0, .inr (4, [.int 0, .ref qa_1, .ref qa_3, .ref qa_5, .null, .null, .null, .null, .null, .null, .null, .int 0, .int 0, .int 0, .null, .int 0, .long 0])), (qa_1, .inl (ca_2, 8, .inl (upd (upd (upd (upd (upd (upd (upd (upd (fun _ => 0) 0 (-1)) 1 (-1)) 2 (-1)) 3 (-1)) 4 (-1)) 5 (-1)) 6 (-1)) 7 (-1)))), (qa_3, .inl (ca_2, 8, .inl (fun _ => 0))), (qa_5, .inl (ca_2, 240, .inl (fun _ => 0)))] H := hP
  have hD : va_D A [(h0, .inr (4, [.int 0, .ref qa_1, .ref qa_3, .ref qa_5, .null, .null, .null, .null, .null, .null, .null, .int 0, .int 0, .int 0, .null, .int 0, .long 0])), (qa_1, .inl (ca_2, 8, .inl (upd (upd (upd (upd (upd (upd (upd (upd (fun _ => 0) 0 (-1)) 1 (-1)) 2 (-1)) 3 (-1)) 4 (-1)) 5 (-1)) 6 (-1)) 7 (-1)))), (qa_3, .inl (ca_2, 8, .inl (fun _ => 0))), (qa_5, .inl (ca_2, 240, .inl (fun _ => 0)))] := hD
  refine lv_aload_n hx hb z_m_init_63 rfl (lv_at hl 0 rfl) ?_
  refine lv_sipush (v := 240) hx hb z_m_init_64 (by decide) ?_
  refine va_newa (atype := .boolean) (N' := 240) (a0 := (240, .inl (fun _ => 0))) (ty := .boolean) (n := 240) hx hb (hts _ (cw_in mw_72 rfl)) rfl hK hP hD hS hA (fun _ => rfl) (by decide) (by decide) (by decide) (Nat.le_of_ble_eq_true rfl) (Nat.le_of_ble_eq_true rfl) z_m_init_67 (fun qa_7 ca_8 H hK hP hD hS => ?_)
  refine W.widen (k := 4) (n := 496) (Nat.le_of_ble_eq_true rfl) (Nat.le_of_ble_eq_true rfl) ?_
  have hK : va_K (dC, dI) vwCl [(ca_2, .int), (ca_8, .boolean)] s := hK
  have hP : va_P (dC, dI) vwCl [(h0, .inr (4, [.int 0, .ref qa_1, .ref qa_3, .ref qa_5, .null, .null, .null, .null, .null, .null, .null, .int 0, .int 0, .int 0, .null, .int 0, .long 0])), (qa_1, .inl (ca_2, 8, .inl (upd (upd (upd (upd (upd (upd (upd (upd (fun _ => 0) 0 (-1)) 1 (-1)) 2 (-1)) 3 (-1)) 4 (-1)) 5 (-1)) 6 (-1)) 7 (-1)))), (qa_3, .inl (ca_2, 8, .inl (fun _ => 0))), (qa_5, .inl (ca_2, 240, .inl (fun _ => 0))), (qa_7, .inl (ca_8, 240, .inl (fun _ => 0)))] H := hP
  have hD : va_D A [(h0, .inr (4, [.int 0, .ref qa_1, .ref qa_3, .ref qa_5, .null, .null, .null, .null, .null, .null, .null, .int 0, .int 0, .int 0, .null, .int 0, .long 0])), (qa_1, .inl (ca_2, 8, .inl (upd (upd (upd (upd (upd (upd (upd (upd (fun _ => 0) 0 (-1)) 1 (-1)) 2 (-1)) 3 (-1)) 4 (-1)) 5 (-1)) 6 (-1)) 7 (-1)))), (qa_3, .inl (ca_2, 8, .inl (fun _ => 0))), (qa_5, .inl (ca_2, 240, .inl (fun _ => 0))), (qa_7, .inl (ca_8, 240, .inl (fun _ => 0)))] := hD
  refine va_putF (D := (dC, dI)) (ci := 4) (v := .ref qa_7) (ty := .array .boolean) (C := R4) (T := T4) (N := 17) hx hb hts (cw_sub iC4) ty4 tyok4 nm4 hown hK hP hD hS 0 rfl rfl 4 (by decide) (hts _ (cw_in mw_484 rfl)) (fun _ h9 => h9) rfl hin rfl (by decide +kernel) rfl rfl (Nat.le_of_ble_eq_true rfl) z_m_init_69 (fun H locs hP hD hS => ?_)
  have hP : va_P (dC, dI) vwCl [(h0, .inr (4, [.int 0, .ref qa_1, .ref qa_3, .ref qa_5, .ref qa_7, .null, .null, .null, .null, .null, .null, .int 0, .int 0, .int 0, .null, .int 0, .long 0])), (qa_1, .inl (ca_2, 8, .inl (upd (upd (upd (upd (upd (upd (upd (upd (fun _ => 0) 0 (-1)) 1 (-1)) 2 (-1)) 3 (-1)) 4 (-1)) 5 (-1)) 6 (-1)) 7 (-1)))), (qa_3, .inl (ca_2, 8, .inl (fun _ => 0))), (qa_5, .inl (ca_2, 240, .inl (fun _ => 0))), (qa_7, .inl (ca_8, 240, .inl (fun _ => 0)))] H := hP
  have hD : va_D A [(h0, .inr (4, [.int 0, .ref qa_1, .ref qa_3, .ref qa_5, .ref qa_7, .null, .null, .null, .null, .null, .null, .int 0, .int 0, .int 0, .null, .int 0, .long 0])), (qa_1, .inl (ca_2, 8, .inl (upd (upd (upd (upd (upd (upd (upd (upd (fun _ => 0) 0 (-1)) 1 (-1)) 2 (-1)) 3 (-1)) 4 (-1)) 5 (-1)) 6 (-1)) 7 (-1)))), (qa_3, .inl (ca_2, 8, .inl (fun _ => 0))), (qa_5, .inl (ca_2, 240, .inl (fun _ => 0))), (qa_7, .inl (ca_8, 240, .inl (fun _ => 0)))] := hD
  refine lv_aload_n hx hb z_m_init_72 rfl (lv_at hl 0 rfl) ?_
  refine lv_sipush (v := 240) hx hb z_m_init_73 (by decide) ?_
  refine va_newa (atype := .long) (N' := 240) (a0 := (240, .inr (.inl (fun _ => 0)))) (ty := .long) (n := 240) hx hb (hts _ (cw_in mw_532 rfl)) rfl hK hP hD hS hA (fun _ => rfl) (by decide) (by decide) (by decide) (Nat.le_of_ble_eq_true rfl) (Nat.le_of_ble_eq_true rfl) z_m_init_76 (fun qa_9 ca_10 H hK hP hD hS => ?_)
  refine W.widen (k := 5) (n := 736) (Nat.le_of_ble_eq_true rfl) (Nat.le_of_ble_eq_true rfl) ?_
  have hK : va_K (dC, dI) vwCl [(ca_2, .int), (ca_8, .boolean), (ca_10, .long)] s := hK
  have hP : va_P (dC, dI) vwCl [(h0, .inr (4, [.int 0, .ref qa_1, .ref qa_3, .ref qa_5, .ref qa_7, .null, .null, .null, .null, .null, .null, .int 0, .int 0, .int 0, .null, .int 0, .long 0])), (qa_1, .inl (ca_2, 8, .inl (upd (upd (upd (upd (upd (upd (upd (upd (fun _ => 0) 0 (-1)) 1 (-1)) 2 (-1)) 3 (-1)) 4 (-1)) 5 (-1)) 6 (-1)) 7 (-1)))), (qa_3, .inl (ca_2, 8, .inl (fun _ => 0))), (qa_5, .inl (ca_2, 240, .inl (fun _ => 0))), (qa_7, .inl (ca_8, 240, .inl (fun _ => 0))), (qa_9, .inl (ca_10, 240, .inr (.inl (fun _ => 0))))] H := hP
  have hD : va_D A [(h0, .inr (4, [.int 0, .ref qa_1, .ref qa_3, .ref qa_5, .ref qa_7, .null, .null, .null, .null, .null, .null, .int 0, .int 0, .int 0, .null, .int 0, .long 0])), (qa_1, .inl (ca_2, 8, .inl (upd (upd (upd (upd (upd (upd (upd (upd (fun _ => 0) 0 (-1)) 1 (-1)) 2 (-1)) 3 (-1)) 4 (-1)) 5 (-1)) 6 (-1)) 7 (-1)))), (qa_3, .inl (ca_2, 8, .inl (fun _ => 0))), (qa_5, .inl (ca_2, 240, .inl (fun _ => 0))), (qa_7, .inl (ca_8, 240, .inl (fun _ => 0))), (qa_9, .inl (ca_10, 240, .inr (.inl (fun _ => 0))))] := hD
  refine va_putF (D := (dC, dI)) (ci := 4) (v := .ref qa_9) (ty := .array .long) (C := R4) (T := T4) (N := 17) hx hb hts (cw_sub iC4) ty4 tyok4 nm4 hown hK hP hD hS 0 rfl rfl 5 (by decide) (hts _ (cw_in mw_485 rfl)) (fun _ h9 => h9) rfl hin rfl (by decide +kernel) rfl rfl (Nat.le_of_ble_eq_true rfl) z_m_init_78 (fun H locs hP hD hS => ?_)
  have hP : va_P (dC, dI) vwCl [(h0, .inr (4, [.int 0, .ref qa_1, .ref qa_3, .ref qa_5, .ref qa_7, .ref qa_9, .null, .null, .null, .null, .null, .int 0, .int 0, .int 0, .null, .int 0, .long 0])), (qa_1, .inl (ca_2, 8, .inl (upd (upd (upd (upd (upd (upd (upd (upd (fun _ => 0) 0 (-1)) 1 (-1)) 2 (-1)) 3 (-1)) 4 (-1)) 5 (-1)) 6 (-1)) 7 (-1)))), (qa_3, .inl (ca_2, 8, .inl (fun _ => 0))), (qa_5, .inl (ca_2, 240, .inl (fun _ => 0))), (qa_7, .inl (ca_8, 240, .inl (fun _ => 0))), (qa_9, .inl (ca_10, 240, .inr (.inl (fun _ => 0))))] H := hP
  have hD : va_D A [(h0, .inr (4, [.int 0, .ref qa_1, .ref qa_3, .ref qa_5, .ref qa_7, .ref qa_9, .null, .null, .null, .null, .null, .int 0, .int 0, .int 0, .null, .int 0, .long 0])), (qa_1, .inl (ca_2, 8, .inl (upd (upd (upd (upd (upd (upd (upd (upd (fun _ => 0) 0 (-1)) 1 (-1)) 2 (-1)) 3 (-1)) 4 (-1)) 5 (-1)) 6 (-1)) 7 (-1)))), (qa_3, .inl (ca_2, 8, .inl (fun _ => 0))), (qa_5, .inl (ca_2, 240, .inl (fun _ => 0))), (qa_7, .inl (ca_8, 240, .inl (fun _ => 0))), (qa_9, .inl (ca_10, 240, .inr (.inl (fun _ => 0))))] := hD
  refine lv_aload_n hx hb z_m_init_81 rfl (lv_at hl 0 rfl) ?_
  refine lv_sipush (v := 240) hx hb z_m_init_82 (by decide) ?_
  refine va_newa (atype := .int) (N' := 240) (a0 := (240, .inl (fun _ => 0))) (ty := .int) (n := 240) hx hb (hts _ (cw_in mw_41 rfl)) rfl hK hP hD hS hA (fun _ => rfl) (by decide) (by decide) (by decide) (Nat.le_of_ble_eq_true rfl) (Nat.le_of_ble_eq_true rfl) z_m_init_85 (fun qa_11 ca_12 H hK hP hD hS => ?_)
  refine W.widen (k := 6) (n := 976) (Nat.le_of_ble_eq_true rfl) (Nat.le_of_ble_eq_true rfl) ?_
  have hK : va_K (dC, dI) vwCl [(ca_2, .int), (ca_8, .boolean), (ca_10, .long), (ca_12, .int)] s := hK
  have hP : va_P (dC, dI) vwCl [(h0, .inr (4, [.int 0, .ref qa_1, .ref qa_3, .ref qa_5, .ref qa_7, .ref qa_9, .null, .null, .null, .null, .null, .int 0, .int 0, .int 0, .null, .int 0, .long 0])), (qa_1, .inl (ca_2, 8, .inl (upd (upd (upd (upd (upd (upd (upd (upd (fun _ => 0) 0 (-1)) 1 (-1)) 2 (-1)) 3 (-1)) 4 (-1)) 5 (-1)) 6 (-1)) 7 (-1)))), (qa_3, .inl (ca_2, 8, .inl (fun _ => 0))), (qa_5, .inl (ca_2, 240, .inl (fun _ => 0))), (qa_7, .inl (ca_8, 240, .inl (fun _ => 0))), (qa_9, .inl (ca_10, 240, .inr (.inl (fun _ => 0)))), (qa_11, .inl (ca_12, 240, .inl (fun _ => 0)))] H := hP
  have hD : va_D A [(h0, .inr (4, [.int 0, .ref qa_1, .ref qa_3, .ref qa_5, .ref qa_7, .ref qa_9, .null, .null, .null, .null, .null, .int 0, .int 0, .int 0, .null, .int 0, .long 0])), (qa_1, .inl (ca_2, 8, .inl (upd (upd (upd (upd (upd (upd (upd (upd (fun _ => 0) 0 (-1)) 1 (-1)) 2 (-1)) 3 (-1)) 4 (-1)) 5 (-1)) 6 (-1)) 7 (-1)))), (qa_3, .inl (ca_2, 8, .inl (fun _ => 0))), (qa_5, .inl (ca_2, 240, .inl (fun _ => 0))), (qa_7, .inl (ca_8, 240, .inl (fun _ => 0))), (qa_9, .inl (ca_10, 240, .inr (.inl (fun _ => 0)))), (qa_11, .inl (ca_12, 240, .inl (fun _ => 0)))] := hD
  obtain rfl : ca_2 = ca_12 := arr_int hK (i := 0) (j := 3) rfl rfl
  have hK := hK.sub (tys' := [(ca_2, .int), (ca_8, .boolean), (ca_10, .long)]) [0, 1, 2] rfl
  refine va_putF (D := (dC, dI)) (ci := 4) (v := .ref qa_11) (ty := .array .int) (C := R4) (T := T4) (N := 17) hx hb hts (cw_sub iC4) ty4 tyok4 nm4 hown hK hP hD hS 0 rfl rfl 6 (by decide) (hts _ (cw_in mw_486 rfl)) (fun _ h9 => h9) rfl hin rfl (by decide +kernel) rfl rfl (Nat.le_of_ble_eq_true rfl) z_m_init_87 (fun H locs hP hD hS => ?_)
  have hP : va_P (dC, dI) vwCl [(h0, .inr (4, [.int 0, .ref qa_1, .ref qa_3, .ref qa_5, .ref qa_7, .ref qa_9, .ref qa_11, .null, .null, .null, .null, .int 0, .int 0, .int 0, .null, .int 0, .long 0])), (qa_1, .inl (ca_2, 8, .inl (upd (upd (upd (upd (upd (upd (upd (upd (fun _ => 0) 0 (-1)) 1 (-1)) 2 (-1)) 3 (-1)) 4 (-1)) 5 (-1)) 6 (-1)) 7 (-1)))), (qa_3, .inl (ca_2, 8, .inl (fun _ => 0))), (qa_5, .inl (ca_2, 240, .inl (fun _ => 0))), (qa_7, .inl (ca_8, 240, .inl (fun _ => 0))), (qa_9, .inl (ca_10, 240, .inr (.inl (fun _ => 0)))), (qa_11, .inl (ca_2, 240, .inl (fun _ => 0)))] H := hP
  have hD : va_D A [(h0, .inr (4, [.int 0, .ref qa_1, .ref qa_3, .ref qa_5, .ref qa_7, .ref qa_9, .ref qa_11, .null, .null, .null, .null, .int 0, .int 0, .int 0, .null, .int 0, .long 0])), (qa_1, .inl (ca_2, 8, .inl (upd (upd (upd (upd (upd (upd (upd (upd (fun _ => 0) 0 (-1)) 1 (-1)) 2 (-1)) 3 (-1)) 4 (-1)) 5 (-1)) 6 (-1)) 7 (-1)))), (qa_3, .inl (ca_2, 8, .inl (fun _ => 0))), (qa_5, .inl (ca_2, 240, .inl (fun _ => 0))), (qa_7, .inl (ca_8, 240, .inl (fun _ => 0))), (qa_9, .inl (ca_10, 240, .inr (.inl (fun _ => 0)))), (qa_11, .inl (ca_2, 240, .inl (fun _ => 0)))] := hD
  refine lv_aload_n hx hb z_m_init_90 rfl (lv_at hl 0 rfl) ?_
  refine lv_sipush (v := 3840) hx hb z_m_init_91 (by decide) ?_
  refine va_newa (atype := .int) (N' := 3840) (a0 := (3840, .inl (fun _ => 0))) (ty := .int) (n := 3840) hx hb (hts _ (cw_in mw_41 rfl)) rfl hK hP hD hS hA (fun _ => rfl) (by decide) (by decide) (by decide) (Nat.le_of_ble_eq_true rfl) (Nat.le_of_ble_eq_true rfl) z_m_init_94 (fun qa_13 ca_14 H hK hP hD hS => ?_)
  refine W.widen (k := 7) (n := 4816) (Nat.le_of_ble_eq_true rfl) (Nat.le_of_ble_eq_true rfl) ?_
  have hK : va_K (dC, dI) vwCl [(ca_2, .int), (ca_8, .boolean), (ca_10, .long), (ca_14, .int)] s := hK
  have hP : va_P (dC, dI) vwCl [(h0, .inr (4, [.int 0, .ref qa_1, .ref qa_3, .ref qa_5, .ref qa_7, .ref qa_9, .ref qa_11, .null, .null, .null, .null, .int 0, .int 0, .int 0, .null, .int 0, .long 0])), (qa_1, .inl (ca_2, 8, .inl (upd (upd (upd (upd (upd (upd (upd (upd (fun _ => 0) 0 (-1)) 1 (-1)) 2 (-1)) 3 (-1)) 4 (-1)) 5 (-1)) 6 (-1)) 7 (-1)))), (qa_3, .inl (ca_2, 8, .inl (fun _ => 0))), (qa_5, .inl (ca_2, 240, .inl (fun _ => 0))), (qa_7, .inl (ca_8, 240, .inl (fun _ => 0))), (qa_9, .inl (ca_10, 240, .inr (.inl (fun _ => 0)))), (qa_11, .inl (ca_2, 240, .inl (fun _ => 0))), (qa_13, .inl (ca_14, 3840, .inl (fun _ => 0)))] H := hP
  have hD : va_D A [(h0, .inr (4, [.int 0, .ref qa_1, .ref qa_3, .ref qa_5, .ref qa_7, .ref qa_9, .ref qa_11, .null, .null, .null, .null, .int 0, .int 0, .int 0, .null, .int 0, .long 0])), (qa_1, .inl (ca_2, 8, .inl (upd (upd (upd (upd (upd (upd (upd (upd (fun _ => 0) 0 (-1)) 1 (-1)) 2 (-1)) 3 (-1)) 4 (-1)) 5 (-1)) 6 (-1)) 7 (-1)))), (qa_3, .inl (ca_2, 8, .inl (fun _ => 0))), (qa_5, .inl (ca_2, 240, .inl (fun _ => 0))), (qa_7, .inl (ca_8, 240, .inl (fun _ => 0))), (qa_9, .inl (ca_10, 240, .inr (.inl (fun _ => 0)))), (qa_11, .inl (ca_2, 240, .inl (fun _ => 0))), (qa_13, .inl (ca_14, 3840, .inl (fun _ => 0)))] := hD
  obtain rfl : ca_2 = ca_14 := arr_int hK (i := 0) (j := 3) rfl rfl
  have hK := hK.sub (tys' := [(ca_2, .int), (ca_8, .boolean), (ca_10, .long)]) [0, 1, 2] rfl
  refine va_putF (D := (dC, dI)) (ci := 4) (v := .ref qa_13) (ty := .array .int) (C := R4) (T := T4) (N := 17) hx hb hts (cw_sub iC4) ty4 tyok4 nm4 hown hK hP hD hS 0 rfl rfl 7 (by decide) (hts _ (cw_in mw_487 rfl)) (fun _ h9 => h9) rfl hin rfl (by decide +kernel) rfl rfl (Nat.le_of_ble_eq_true rfl) z_m_init_96 (fun H locs hP hD hS => ?_)
  have hP : va_P (dC, dI) vwCl [(h0, .inr (4, [.int 0, .ref qa_1, .ref qa_3, .ref qa_5, .ref qa_7, .ref qa_9, .ref qa_11, .ref qa_13, .null, .null, .null, .int 0, .int 0, .int 0, .null, .int 0, .long 0])), (qa_1, .inl (ca_2, 8, .inl (upd (upd (upd (upd (upd (upd (upd (upd (fun _ => 0) 0 (-1)) 1 (-1)) 2 (-1)) 3 (-1)) 4 (-1)) 5 (-1)) 6 (-1)) 7 (-1)))), (qa_3, .inl (ca_2, 8, .inl (fun _ => 0))), (qa_5, .inl (ca_2, 240, .inl (fun _ => 0))), (qa_7, .inl (ca_8, 240, .inl (fun _ => 0))), (qa_9, .inl (ca_10, 240, .inr (.inl (fun _ => 0)))), (qa_11, .inl (ca_2, 240, .inl (fun _ => 0))), (qa_13, .inl (ca_2, 3840, .inl (fun _ => 0)))] H := hP
  have hD : va_D A [(h0, .inr (4, [.int 0, .ref qa_1, .ref qa_3, .ref qa_5, .ref qa_7, .ref qa_9, .ref qa_11, .ref qa_13, .null, .null, .null, .int 0, .int 0, .int 0, .null, .int 0, .long 0])), (qa_1, .inl (ca_2, 8, .inl (upd (upd (upd (upd (upd (upd (upd (upd (fun _ => 0) 0 (-1)) 1 (-1)) 2 (-1)) 3 (-1)) 4 (-1)) 5 (-1)) 6 (-1)) 7 (-1)))), (qa_3, .inl (ca_2, 8, .inl (fun _ => 0))), (qa_5, .inl (ca_2, 240, .inl (fun _ => 0))), (qa_7, .inl (ca_8, 240, .inl (fun _ => 0))), (qa_9, .inl (ca_10, 240, .inr (.inl (fun _ => 0)))), (qa_11, .inl (ca_2, 240, .inl (fun _ => 0))), (qa_13, .inl (ca_2, 3840, .inl (fun _ => 0)))] := hD
  refine lv_aload_n hx hb z_m_init_99 rfl (lv_at hl 0 rfl) ?_
  refine lv_bipush (v := 64) hx hb z_m_init_100 (by decide) ?_
  refine va_newa (atype := .int) (N' := 64) (a0 := (64, .inl (fun _ => 0))) (ty := .int) (n := 64) hx hb (hts _ (cw_in mw_41 rfl)) rfl hK hP hD hS hA (fun _ => rfl) (by decide) (by decide) (by decide) (Nat.le_of_ble_eq_true rfl) (Nat.le_of_ble_eq_true rfl) z_m_init_102 (fun qa_15 ca_16 H hK hP hD hS => ?_)
  refine W.widen (k := 8) (n := 4880) (Nat.le_of_ble_eq_true rfl) (Nat.le_of_ble_eq_true rfl) ?_
  have hK : va_K (dC, dI) vwCl [(ca_2, .int), (ca_8, .boolean), (ca_10, .long), (ca_16, .int)] s := hK
  have hP : va_P (dC, dI) vwCl [(h0, .inr (4, [.int 0, .ref qa_1, .ref qa_3, .ref qa_5, .ref qa_7, .ref qa_9, .ref qa_11, .ref qa_13, .null, .null, .null, .int 0, .int 0, .int 0, .null, .int 0, .long 0])), (qa_1, .inl (ca_2, 8, .inl (upd (upd (upd (upd (upd (upd (upd (upd (fun _ => 0) 0 (-1)) 1 (-1)) 2 (-1)) 3 (-1)) 4 (-1)) 5 (-1)) 6 (-1)) 7 (-1)))), (qa_3, .inl (ca_2, 8, .inl (fun _ => 0))), (qa_5, .inl (ca_2, 240, .inl (fun _ => 0))), (qa_7, .inl (ca_8, 240, .inl (fun _ => 0))), (qa_9, .inl (ca_10, 240, .inr (.inl (fun _ => 0)))), (qa_11, .inl (ca_2, 240, .inl (fun _ => 0))), (qa_13, .inl (ca_2, 3840, .inl (fun _ => 0))), (qa_15, .inl (ca_16, 64, .inl (fun _ => 0)))] H := hP
  have hD : va_D A [(h0, .inr (4, [.int 0, .ref qa_1, .ref qa_3, .ref qa_5, .ref qa_7, .ref qa_9, .ref qa_11, .ref qa_13, .null, .null, .null, .int 0, .int 0, .int 0, .null, .int 0, .long 0])), (qa_1, .inl (ca_2, 8, .inl (upd (upd (upd (upd (upd (upd (upd (upd (fun _ => 0) 0 (-1)) 1 (-1)) 2 (-1)) 3 (-1)) 4 (-1)) 5 (-1)) 6 (-1)) 7 (-1)))), (qa_3, .inl (ca_2, 8, .inl (fun _ => 0))), (qa_5, .inl (ca_2, 240, .inl (fun _ => 0))), (qa_7, .inl (ca_8, 240, .inl (fun _ => 0))), (qa_9, .inl (ca_10, 240, .inr (.inl (fun _ => 0)))), (qa_11, .inl (ca_2, 240, .inl (fun _ => 0))), (qa_13, .inl (ca_2, 3840, .inl (fun _ => 0))), (qa_15, .inl (ca_16, 64, .inl (fun _ => 0)))] := hD
  obtain rfl : ca_2 = ca_16 := arr_int hK (i := 0) (j := 3) rfl rfl
  have hK := hK.sub (tys' := [(ca_2, .int), (ca_8, .boolean), (ca_10, .long)]) [0, 1, 2] rfl
  refine va_putF (D := (dC, dI)) (ci := 4) (v := .ref qa_15) (ty := .array .int) (C := R4) (T := T4) (N := 17) hx hb hts (cw_sub iC4) ty4 tyok4 nm4 hown hK hP hD hS 0 rfl rfl 8 (by decide) (hts _ (cw_in mw_488 rfl)) (fun _ h9 => h9) rfl hin rfl (by decide +kernel) rfl rfl (Nat.le_of_ble_eq_true rfl) z_m_init_104 (fun H locs hP hD hS => ?_)
  have hP : va_P (dC, dI) vwCl [(h0, .inr (4, [.int 0, .ref qa_1, .ref qa_3, .ref qa_5, .ref qa_7, .ref qa_9, .ref qa_11, .ref qa_13, .ref qa_15, .null, .null, .int 0, .int 0, .int 0, .null, .int 0, .long 0])), (qa_1, .inl (ca_2, 8, .inl (upd (upd (upd (upd (upd (upd (upd (upd (fun _ => 0) 0 (-1)) 1 (-1)) 2 (-1)) 3 (-1)) 4 (-1)) 5 (-1)) 6 (-1)) 7 (-1)))), (qa_3, .inl (ca_2, 8, .inl (fun _ => 0))), (qa_5, .inl (ca_2, 240, .inl (fun _ => 0))), (qa_7, .inl (ca_8, 240, .inl (fun _ => 0))), (qa_9, .inl (ca_10, 240, .inr (.inl (fun _ => 0)))), (qa_11, .inl (ca_2, 240, .inl (fun _ => 0))), (qa_13, .inl (ca_2, 3840, .inl (fun _ => 0))), (qa_15, .inl (ca_2, 64, .inl (fun _ => 0)))] H := hP
  have hD : va_D A [(h0, .inr (4, [.int 0, .ref qa_1, .ref qa_3, .ref qa_5, .ref qa_7, .ref qa_9, .ref qa_11, .ref qa_13, .ref qa_15, .null, .null, .int 0, .int 0, .int 0, .null, .int 0, .long 0])), (qa_1, .inl (ca_2, 8, .inl (upd (upd (upd (upd (upd (upd (upd (upd (fun _ => 0) 0 (-1)) 1 (-1)) 2 (-1)) 3 (-1)) 4 (-1)) 5 (-1)) 6 (-1)) 7 (-1)))), (qa_3, .inl (ca_2, 8, .inl (fun _ => 0))), (qa_5, .inl (ca_2, 240, .inl (fun _ => 0))), (qa_7, .inl (ca_8, 240, .inl (fun _ => 0))), (qa_9, .inl (ca_10, 240, .inr (.inl (fun _ => 0)))), (qa_11, .inl (ca_2, 240, .inl (fun _ => 0))), (qa_13, .inl (ca_2, 3840, .inl (fun _ => 0))), (qa_15, .inl (ca_2, 64, .inl (fun _ => 0)))] := hD
  refine lv_aload_n hx hb z_m_init_107 rfl (lv_at hl 0 rfl) ?_
  refine lv_bipush (v := 64) hx hb z_m_init_108 (by decide) ?_
  refine va_newa (atype := .int) (N' := 64) (a0 := (64, .inl (fun _ => 0))) (ty := .int) (n := 64) hx hb (hts _ (cw_in mw_41 rfl)) rfl hK hP hD hS hA (fun _ => rfl) (by decide) (by decide) (by decide) (Nat.le_of_ble_eq_true rfl) (Nat.le_of_ble_eq_true rfl) z_m_init_110 (fun qa_17 ca_18 H hK hP hD hS => ?_)
  refine W.widen (k := 9) (n := 4944) (Nat.le_of_ble_eq_true rfl) (Nat.le_of_ble_eq_true rfl) ?_
  have hK : va_K (dC, dI) vwCl [(ca_2, .int), (ca_8, .boolean), (ca_10, .long), (ca_18, .int)] s := hK
  have hP : va_P (dC, dI) vwCl [(h0, .inr (4, [.int 0, .ref qa_1, .ref qa_3, .ref qa_5, .ref qa_7, .ref qa_9, .ref qa_11, .ref qa_13, .ref qa_15, .null, .null, .int 0, .int 0, .int 0, .null, .int 0, .long 0])), (qa_1, .inl (ca_2, 8, .inl (upd (upd (upd (upd (upd (upd (upd (upd (fun _ => 0) 0 (-1)) 1 (-1)) 2 (-1)) 3 (-1)) 4 (-1)) 5 (-1)) 6 (-1)) 7 (-1)))), (qa_3, .inl (ca_2, 8, .inl (fun _ => 0))), (qa_5, .inl (ca_2, 240, .inl (fun _ => 0))), (qa_7, .inl (ca_8, 240, .inl (fun _ => 0))), (qa_9, .inl (ca_10, 240, .inr (.inl (fun _ => 0)))), (qa_11, .inl (ca_2, 240, .inl (fun _ => 0))), (qa_13, .inl (ca_2, 3840, .inl (fun _ => 0))), (qa_15, .inl (ca_2, 64, .inl (fun _ => 0))), (qa_17, .inl (ca_18, 64, .inl (fun _ => 0)))] H := hP
  have hD : va_D A [(h0, .inr (4, [.int 0, .ref qa_1, .ref qa_3, .ref qa_5, .ref qa_7, .ref qa_9, .ref qa_11, .ref qa_13, .ref qa_15, .null, .null, .int 0, .int 0, .int 0, .null, .int 0, .long 0])), (qa_1, .inl (ca_2, 8, .inl (upd (upd (upd (upd (upd (upd (upd (upd (fun _ => 0) 0 (-1)) 1 (-1)) 2 (-1)) 3 (-1)) 4 (-1)) 5 (-1)) 6 (-1)) 7 (-1)))), (qa_3, .inl (ca_2, 8, .inl (fun _ => 0))), (qa_5, .inl (ca_2, 240, .inl (fun _ => 0))), (qa_7, .inl (ca_8, 240, .inl (fun _ => 0))), (qa_9, .inl (ca_10, 240, .inr (.inl (fun _ => 0)))), (qa_11, .inl (ca_2, 240, .inl (fun _ => 0))), (qa_13, .inl (ca_2, 3840, .inl (fun _ => 0))), (qa_15, .inl (ca_2, 64, .inl (fun _ => 0))), (qa_17, .inl (ca_18, 64, .inl (fun _ => 0)))] := hD
  obtain rfl : ca_2 = ca_18 := arr_int hK (i := 0) (j := 3) rfl rfl
  have hK := hK.sub (tys' := [(ca_2, .int), (ca_8, .boolean), (ca_10, .long)]) [0, 1, 2] rfl
  refine va_putF (D := (dC, dI)) (ci := 4) (v := .ref qa_17) (ty := .array .int) (C := R4) (T := T4) (N := 17) hx hb hts (cw_sub iC4) ty4 tyok4 nm4 hown hK hP hD hS 0 rfl rfl 9 (by decide) (hts _ (cw_in mw_489 rfl)) (fun _ h9 => h9) rfl hin rfl (by decide +kernel) rfl rfl (Nat.le_of_ble_eq_true rfl) z_m_init_112 (fun H locs hP hD hS => ?_)
  have hP : va_P (dC, dI) vwCl [(h0, .inr (4, [.int 0, .ref qa_1, .ref qa_3, .ref qa_5, .ref qa_7, .ref qa_9, .ref qa_11, .ref qa_13, .ref qa_15, .ref qa_17, .null, .int 0, .int 0, .int 0, .null, .int 0, .long 0])), (qa_1, .inl (ca_2, 8, .inl (upd (upd (upd (upd (upd (upd (upd (upd (fun _ => 0) 0 (-1)) 1 (-1)) 2 (-1)) 3 (-1)) 4 (-1)) 5 (-1)) 6 (-1)) 7 (-1)))), (qa_3, .inl (ca_2, 8, .inl (fun _ => 0))), (qa_5, .inl (ca_2, 240, .inl (fun _ => 0))), (qa_7, .inl (ca_8, 240, .inl (fun _ => 0))), (qa_9, .inl (ca_10, 240, .inr (.inl (fun _ => 0)))), (qa_11, .inl (ca_2, 240, .inl (fun _ => 0))), (qa_13, .inl (ca_2, 3840, .inl (fun _ => 0))), (qa_15, .inl (ca_2, 64, .inl (fun _ => 0))), (qa_17, .inl (ca_2, 64, .inl (fun _ => 0)))] H := hP
  have hD : va_D A [(h0, .inr (4, [.int 0, .ref qa_1, .ref qa_3, .ref qa_5, .ref qa_7, .ref qa_9, .ref qa_11, .ref qa_13, .ref qa_15, .ref qa_17, .null, .int 0, .int 0, .int 0, .null, .int 0, .long 0])), (qa_1, .inl (ca_2, 8, .inl (upd (upd (upd (upd (upd (upd (upd (upd (fun _ => 0) 0 (-1)) 1 (-1)) 2 (-1)) 3 (-1)) 4 (-1)) 5 (-1)) 6 (-1)) 7 (-1)))), (qa_3, .inl (ca_2, 8, .inl (fun _ => 0))), (qa_5, .inl (ca_2, 240, .inl (fun _ => 0))), (qa_7, .inl (ca_8, 240, .inl (fun _ => 0))), (qa_9, .inl (ca_10, 240, .inr (.inl (fun _ => 0)))), (qa_11, .inl (ca_2, 240, .inl (fun _ => 0))), (qa_13, .inl (ca_2, 3840, .inl (fun _ => 0))), (qa_15, .inl (ca_2, 64, .inl (fun _ => 0))), (qa_17, .inl (ca_2, 64, .inl (fun _ => 0)))] := hD
  refine lv_aload_n hx hb z_m_init_115 rfl (lv_at hl 0 rfl) ?_
  refine lv_bipush (v := 64) hx hb z_m_init_116 (by decide) ?_
  refine va_newa (atype := .int) (N' := 64) (a0 := (64, .inl (fun _ => 0))) (ty := .int) (n := 64) hx hb (hts _ (cw_in mw_41 rfl)) rfl hK hP hD hS hA (fun _ => rfl) (by decide) (by decide) (by decide) (Nat.le_of_ble_eq_true rfl) (Nat.le_of_ble_eq_true rfl) z_m_init_118 (fun qa_19 ca_20 H hK hP hD hS => ?_)
  refine W.widen (k := 10) (n := 5008) (Nat.le_of_ble_eq_true rfl) (Nat.le_of_ble_eq_true rfl) ?_
  have hK : va_K (dC, dI) vwCl [(ca_2, .int), (ca_8, .boolean), (ca_10, .long), (ca_20, .int)] s := hK
  have hP : va_P (dC, dI) vwCl [(h0, .inr (4, [.int 0, .ref qa_1, .ref qa_3, .ref qa_5, .ref qa_7, .ref qa_9, .ref qa_11, .ref qa_13, .ref qa_15, .ref qa_17, .null, .int 0, .int 0, .int 0, .null, .int 0, .long 0])), (qa_1, .inl (ca_2, 8, .inl (upd (upd (upd (upd (upd (upd (upd (upd (fun _ => 0) 0 (-1)) 1 (-1)) 2 (-1)) 3 (-1)) 4 (-1)) 5 (-1)) 6 (-1)) 7 (-1)))), (qa_3, .inl (ca_2, 8, .inl (fun _ => 0))), (qa_5, .inl (ca_2, 240, .inl (fun _ => 0))), (qa_7, .inl (ca_8, 240, .inl (fun _ => 0))), (qa_9, .inl (ca_10, 240, .inr (.inl (fun _ => 0)))), (qa_11, .inl (ca_2, 240, .inl (fun _ => 0))), (qa_13, .inl (ca_2, 3840, .inl (fun _ => 0))), (qa_15, .inl (ca_2, 64, .inl (fun _ => 0))), (qa_17, .inl (ca_2, 64, .inl (fun _ => 0))), (qa_19, .inl (ca_20, 64, .inl (fun _ => 0)))] H := hP
  have hD : va_D A [(h0, .inr (4, [.int 0, .ref qa_1, .ref qa_3, .ref qa_5, .ref qa_7, .ref qa_9, .ref qa_11, .ref qa_13, .ref qa_15, .ref qa_17, .null, .int 0, .int 0, .int 0, .null, .int 0, .long 0])), (qa_1, .inl (ca_2, 8, .inl (upd (upd (upd (upd (upd (upd (upd (upd (fun _ => 0) 0 (-1)) 1 (-1)) 2 (-1)) 3 (-1)) 4 (-1)) 5 (-1)) 6 (-1)) 7 (-1)))), (qa_3, .inl (ca_2, 8, .inl (fun _ => 0))), (qa_5, .inl (ca_2, 240, .inl (fun _ => 0))), (qa_7, .inl (ca_8, 240, .inl (fun _ => 0))), (qa_9, .inl (ca_10, 240, .inr (.inl (fun _ => 0)))), (qa_11, .inl (ca_2, 240, .inl (fun _ => 0))), (qa_13, .inl (ca_2, 3840, .inl (fun _ => 0))), (qa_15, .inl (ca_2, 64, .inl (fun _ => 0))), (qa_17, .inl (ca_2, 64, .inl (fun _ => 0))), (qa_19, .inl (ca_20, 64, .inl (fun _ => 0)))] := hD
  obtain rfl : ca_2 = ca_20 := arr_int hK (i := 0) (j := 3) rfl rfl
  have hK := hK.sub (tys' := [(ca_2, .int), (ca_8, .boolean), (ca_10, .long)]) [0, 1, 2] rfl
  refine va_putF (D := (dC, dI)) (ci := 4) (v := .ref qa_19) (ty := .array .int) (C := R4) (T := T4) (N := 17) hx hb hts (cw_sub iC4) ty4 tyok4 nm4 hown hK hP hD hS 0 rfl rfl 10 (by decide) (hts _ (cw_in mw_490 rfl)) (fun _ h9 => h9) rfl hin rfl (by decide +kernel) rfl rfl (Nat.le_of_ble_eq_true rfl) z_m_init_120 (fun H locs hP hD hS => ?_)
  have hP : va_P (dC, dI) vwCl [(h0, .inr (4, [.int 0, .ref qa_1, .ref qa_3, .ref qa_5, .ref qa_7, .ref qa_9, .ref qa_11, .ref qa_13, .ref qa_15, .ref qa_17, .ref qa_19, .int 0, .int 0, .int 0, .null, .int 0, .long 0])), (qa_1, .inl (ca_2, 8, .inl (upd (upd (upd (upd (upd (upd (upd (upd (fun _ => 0) 0 (-1)) 1 (-1)) 2 (-1)) 3 (-1)) 4 (-1)) 5 (-1)) 6 (-1)) 7 (-1)))), (qa_3, .inl (ca_2, 8, .inl (fun _ => 0))), (qa_5, .inl (ca_2, 240, .inl (fun _ => 0))), (qa_7, .inl (ca_8, 240, .inl (fun _ => 0))), (qa_9, .inl (ca_10, 240, .inr (.inl (fun _ => 0)))), (qa_11, .inl (ca_2, 240, .inl (fun _ => 0))), (qa_13, .inl (ca_2, 3840, .inl (fun _ => 0))), (qa_15, .inl (ca_2, 64, .inl (fun _ => 0))), (qa_17, .inl (ca_2, 64, .inl (fun _ => 0))), (qa_19, .inl (ca_2, 64, .inl (fun _ => 0)))] H := hP
  have hD : va_D A [(h0, .inr (4, [.int 0, .ref qa_1, .ref qa_3, .ref qa_5, .ref qa_7, .ref qa_9, .ref qa_11, .ref qa_13, .ref qa_15, .ref qa_17, .ref qa_19, .int 0, .int 0, .int 0, .null, .int 0, .long 0])), (qa_1, .inl (ca_2, 8, .inl (upd (upd (upd (upd (upd (upd (upd (upd (fun _ => 0) 0 (-1)) 1 (-1)) 2 (-1)) 3 (-1)) 4 (-1)) 5 (-1)) 6 (-1)) 7 (-1)))), (qa_3, .inl (ca_2, 8, .inl (fun _ => 0))), (qa_5, .inl (ca_2, 240, .inl (fun _ => 0))), (qa_7, .inl (ca_8, 240, .inl (fun _ => 0))), (qa_9, .inl (ca_10, 240, .inr (.inl (fun _ => 0)))), (qa_11, .inl (ca_2, 240, .inl (fun _ => 0))), (qa_13, .inl (ca_2, 3840, .inl (fun _ => 0))), (qa_15, .inl (ca_2, 64, .inl (fun _ => 0))), (qa_17, .inl (ca_2, 64, .inl (fun _ => 0))), (qa_19, .inl (ca_2, 64, .inl (fun _ => 0)))] := hD
  refine lv_aload_n hx hb z_m_init_123 rfl (lv_at hl 0 rfl) ?_
  refine lv_sipush (v := 400) hx hb z_m_init_124 (by decide) ?_
  refine va_newa (atype := .int) (N' := 400) (a0 := (400, .inl (fun _ => 0))) (ty := .int) (n := 400) hx hb (hts _ (cw_in mw_41 rfl)) rfl hK hP hD hS hA (fun _ => rfl) (by decide) (by decide) (by decide) (Nat.le_of_ble_eq_true rfl) (Nat.le_of_ble_eq_true rfl) z_m_init_127 (fun qa_21 ca_22 H hK hP hD hS => ?_)
  refine W.widen (k := 11) (n := 5408) (Nat.le_of_ble_eq_true rfl) (Nat.le_of_ble_eq_true rfl) ?_
  have hK : va_K (dC, dI) vwCl [(ca_2, .int), (ca_8, .boolean), (ca_10, .long), (ca_22, .int)] s := hK
  have hP : va_P (dC, dI) vwCl [(h0, .inr (4, [.int 0, .ref qa_1, .ref qa_3, .ref qa_5, .ref qa_7, .ref qa_9, .ref qa_11, .ref qa_13, .ref qa_15, .ref qa_17, .ref qa_19, .int 0, .int 0, .int 0, .null, .int 0, .long 0])), (qa_1, .inl (ca_2, 8, .inl (upd (upd (upd (upd (upd (upd (upd (upd (fun _ => 0) 0 (-1)) 1 (-1)) 2 (-1)) 3 (-1)) 4 (-1)) 5 (-1)) 6 (-1)) 7 (-1)))), (qa_3, .inl (ca_2, 8, .inl (fun _ => 0))), (qa_5, .inl (ca_2, 240, .inl (fun _ => 0))), (qa_7, .inl (ca_8, 240, .inl (fun _ => 0))), (qa_9, .inl (ca_10, 240, .inr (.inl (fun _ => 0)))), (qa_11, .inl (ca_2, 240, .inl (fun _ => 0))), (qa_13, .inl (ca_2, 3840, .inl (fun _ => 0))), (qa_15, .inl (ca_2, 64, .inl (fun _ => 0))), (qa_17, .inl (ca_2, 64, .inl (fun _ => 0))), (qa_19, .inl (ca_2, 64, .inl (fun _ => 0))), (qa_21, .inl (ca_22, 400, .inl (fun _ => 0)))] H := hP
  have hD : va_D A [(h0, .inr (4, [.int 0, .ref qa_1, .ref qa_3, .ref qa_5, .ref qa_7, .ref qa_9, .ref qa_11, .ref qa_13, .ref qa_15, .ref qa_17, .ref qa_19, .int 0, .int 0, .int 0, .null, .int 0, .long 0])), (qa_1, .inl (ca_2, 8, .inl (upd (upd (upd (upd (upd (upd (upd (upd (fun _ => 0) 0 (-1)) 1 (-1)) 2 (-1)) 3 (-1)) 4 (-1)) 5 (-1)) 6 (-1)) 7 (-1)))), (qa_3, .inl (ca_2, 8, .inl (fun _ => 0))), (qa_5, .inl (ca_2, 240, .inl (fun _ => 0))), (qa_7, .inl (ca_8, 240, .inl (fun _ => 0))), (qa_9, .inl (ca_10, 240, .inr (.inl (fun _ => 0)))), (qa_11, .inl (ca_2, 240, .inl (fun _ => 0))), (qa_13, .inl (ca_2, 3840, .inl (fun _ => 0))), (qa_15, .inl (ca_2, 64, .inl (fun _ => 0))), (qa_17, .inl (ca_2, 64, .inl (fun _ => 0))), (qa_19, .inl (ca_2, 64, .inl (fun _ => 0))), (qa_21, .inl (ca_22, 400, .inl (fun _ => 0)))] := hD
  obtain rfl : ca_2 = ca_22 := arr_int hK (i := 0) (j := 3) rfl rfl
  have hK := hK.sub (tys' := [(ca_2, .int), (ca_8, .boolean), (ca_10, .long)]) [0, 1, 2] rfl
  refine va_putF (D := (dC, dI)) (ci := 4) (v := .ref qa_21) (ty := .array .int) (C := R4) (T := T4) (N := 17) hx hb hts (cw_sub iC4) ty4 tyok4 nm4 hown hK hP hD hS 0 rfl rfl 14 (by decide) (hts _ (cw_in mw_494 rfl)) (fun _ h9 => h9) rfl hin rfl (by decide +kernel) rfl rfl (Nat.le_of_ble_eq_true rfl) z_m_init_129 (fun H locs hP hD hS => ?_)
  have hP : va_P (dC, dI) vwCl [(h0, .inr (4, [.int 0, .ref qa_1, .ref qa_3, .ref qa_5, .ref qa_7, .ref qa_9, .ref qa_11, .ref qa_13, .ref qa_15, .ref qa_17, .ref qa_19, .int 0, .int 0, .int 0, .ref qa_21, .int 0, .long 0])), (qa_1, .inl (ca_2, 8, .inl (upd (upd (upd (upd (upd (upd (upd (upd (fun _ => 0) 0 (-1)) 1 (-1)) 2 (-1)) 3 (-1)) 4 (-1)) 5 (-1)) 6 (-1)) 7 (-1)))), (qa_3, .inl (ca_2, 8, .inl (fun _ => 0))), (qa_5, .inl (ca_2, 240, .inl (fun _ => 0))), (qa_7, .inl (ca_8, 240, .inl (fun _ => 0))), (qa_9, .inl (ca_10, 240, .inr (.inl (fun _ => 0)))), (qa_11, .inl (ca_2, 240, .inl (fun _ => 0))), (qa_13, .inl (ca_2, 3840, .inl (fun _ => 0))), (qa_15, .inl (ca_2, 64, .inl (fun _ => 0))), (qa_17, .inl (ca_2, 64, .inl (fun _ => 0))), (qa_19, .inl (ca_2, 64, .inl (fun _ => 0))), (qa_21, .inl (ca_2, 400, .inl (fun _ => 0)))] H := hP
  have hD : va_D A [(h0, .inr (4, [.int 0, .ref qa_1, .ref qa_3, .ref qa_5, .ref qa_7, .ref qa_9, .ref qa_11, .ref qa_13, .ref qa_15, .ref qa_17, .ref qa_19, .int 0, .int 0, .int 0, .ref qa_21, .int 0, .long 0])), (qa_1, .inl (ca_2, 8, .inl (upd (upd (upd (upd (upd (upd (upd (upd (fun _ => 0) 0 (-1)) 1 (-1)) 2 (-1)) 3 (-1)) 4 (-1)) 5 (-1)) 6 (-1)) 7 (-1)))), (qa_3, .inl (ca_2, 8, .inl (fun _ => 0))), (qa_5, .inl (ca_2, 240, .inl (fun _ => 0))), (qa_7, .inl (ca_8, 240, .inl (fun _ => 0))), (qa_9, .inl (ca_10, 240, .inr (.inl (fun _ => 0)))), (qa_11, .inl (ca_2, 240, .inl (fun _ => 0))), (qa_13, .inl (ca_2, 3840, .inl (fun _ => 0))), (qa_15, .inl (ca_2, 64, .inl (fun _ => 0))), (qa_17, .inl (ca_2, 64, .inl (fun _ => 0))), (qa_19, .inl (ca_2, 64, .inl (fun _ => 0))), (qa_21, .inl (ca_2, 400, .inl (fun _ => 0)))] := hD
  obtain ⟨a, hq⟩ : ∃ a : Nat → Nat, a = fun i => if i = 0 then h0 else if i = 1 then qa_1 else if i = 2 then qa_3 else if i = 3 then qa_5 else if i = 4 then qa_7 else if i = 5 then qa_9 else if i = 6 then qa_11 else if i = 7 then qa_13 else if i = 8 then qa_15 else if i = 9 then qa_17 else if i = 10 then qa_19 else qa_21 := ⟨_, rfl⟩
  have hq0 : h0 = a 0 := by rw [hq]; rfl
  have hq1 : qa_1 = a 1 := by rw [hq]; rfl
  have hq2 : qa_3 = a 2 := by rw [hq]; rfl
  have hq3 : qa_5 = a 3 := by rw [hq]; rfl
  have hq4 : qa_7 = a 4 := by rw [hq]; rfl
  have hq5 : qa_9 = a 5 := by rw [hq]; rfl
  have hq6 : qa_11 = a 6 := by rw [hq]; rfl
  have hq7 : qa_13 = a 7 := by rw [hq]; rfl
  have hq8 : qa_15 = a 8 := by rw [hq]; rfl
  have hq9 : qa_17 = a 9 := by rw [hq]; rfl
  have hq10 : qa_19 = a 10 := by rw [hq]; rfl
  have hq11 : qa_21 = a 11 := by rw [hq]; rfl
  have e5 : (fun _ : Nat => (0 : Int64)) = fun i => (zsm v00 i).toInt64 := by funext i; show (0 : Int64) = (0 : Int32).toInt64; decide
  have e7 : (fun _ : Nat => (0 : Int32)) = fun i => ztx v00 i &&& 255 := by funext i; show (0 : Int32) = (0 : Int32) &&& 255; decide
  have hP := hP.sub (ws' := [(h0, .inr (4, [.int 0, .ref qa_1, .ref qa_3, .ref qa_5, .ref qa_7, .ref qa_9, .ref qa_11, .ref qa_13, .ref qa_15, .ref qa_17, .ref qa_19, .int 0, .int 0, .int 0, .ref qa_21, .int 0, .long 0])), (qa_1, .inl (ca_2, 8, .inl (upd (upd (upd (upd (upd (upd (upd (upd (fun _ => 0) 0 (-1)) 1 (-1)) 2 (-1)) 3 (-1)) 4 (-1)) 5 (-1)) 6 (-1)) 7 (-1)))), (qa_3, .inl (ca_2, 8, .inl (fun _ => 0))), (qa_5, .inl (ca_2, 240, .inl (fun _ => 0))), (qa_7, .inl (ca_8, 240, .inl (fun _ => 0))), (qa_9, .inl (ca_10, 240, .inr (.inl (fun _ => 0)))), (qa_11, .inl (ca_2, 240, .inl (fun _ => 0))), (qa_13, .inl (ca_2, 3840, .inl (fun _ => 0))), (qa_15, .inl (ca_2, 64, .inl (fun _ => 0))), (qa_17, .inl (ca_2, 64, .inl (fun _ => 0))), (qa_19, .inl (ca_2, 64, .inl (fun _ => 0))), (qa_21, .inl (ca_2, 400, .inl (fun _ => 0)))]) [0, 1, 2, 3, 4, 5, 6, 7, 8, 9, 10, 11] rfl
  have hD := hD.sub (ws' := [(h0, .inr (4, [.int 0, .ref qa_1, .ref qa_3, .ref qa_5, .ref qa_7, .ref qa_9, .ref qa_11, .ref qa_13, .ref qa_15, .ref qa_17, .ref qa_19, .int 0, .int 0, .int 0, .ref qa_21, .int 0, .long 0])), (qa_1, .inl (ca_2, 8, .inl (upd (upd (upd (upd (upd (upd (upd (upd (fun _ => 0) 0 (-1)) 1 (-1)) 2 (-1)) 3 (-1)) 4 (-1)) 5 (-1)) 6 (-1)) 7 (-1)))), (qa_3, .inl (ca_2, 8, .inl (fun _ => 0))), (qa_5, .inl (ca_2, 240, .inl (fun _ => 0))), (qa_7, .inl (ca_8, 240, .inl (fun _ => 0))), (qa_9, .inl (ca_10, 240, .inr (.inl (fun _ => 0)))), (qa_11, .inl (ca_2, 240, .inl (fun _ => 0))), (qa_13, .inl (ca_2, 3840, .inl (fun _ => 0))), (qa_15, .inl (ca_2, 64, .inl (fun _ => 0))), (qa_17, .inl (ca_2, 64, .inl (fun _ => 0))), (qa_19, .inl (ca_2, 64, .inl (fun _ => 0))), (qa_21, .inl (ca_2, 400, .inl (fun _ => 0)))]) [0, 1, 2, 3, 4, 5, 6, 7, 8, 9, 10, 11] (by decide) rfl
  have hK := hK.sub (tys' := tyM ca_2 ca_8 ca_10) [0, 1, 2] rfl
  have hP : va_P (dC, dI) vwCl [(h0, .inr (4, [.int 0, .ref qa_1, .ref qa_3, .ref qa_5, .ref qa_7, .ref qa_9, .ref qa_11, .ref qa_13, .ref qa_15, .ref qa_17, .ref qa_19, .int 0, .int 0, .int 0, .ref qa_21, .int 0, .long 0])), (qa_1, .inl (ca_2, 8, .inl (upd (upd (upd (upd (upd (upd (upd (upd (fun _ => 0) 0 (-1)) 1 (-1)) 2 (-1)) 3 (-1)) 4 (-1)) 5 (-1)) 6 (-1)) 7 (-1)))), (qa_3, .inl (ca_2, 8, .inl (fun _ => 0))), (qa_5, .inl (ca_2, 240, .inl (fun _ => 0))), (qa_7, .inl (ca_8, 240, .inl (fun _ => 0))), (qa_9, .inl (ca_10, 240, .inr (.inl (fun i => (zsm v00 i).toInt64)))), (qa_11, .inl (ca_2, 240, .inl (fun _ => 0))), (qa_13, .inl (ca_2, 3840, .inl (fun i => ztx v00 i &&& 255))), (qa_15, .inl (ca_2, 64, .inl (fun _ => 0))), (qa_17, .inl (ca_2, 64, .inl (fun _ => 0))), (qa_19, .inl (ca_2, 64, .inl (fun _ => 0))), (qa_21, .inl (ca_2, 400, .inl (fun _ => 0)))] H := by rw [← e5, ← e7]; exact hP
  have hD : va_D A [(h0, .inr (4, [.int 0, .ref qa_1, .ref qa_3, .ref qa_5, .ref qa_7, .ref qa_9, .ref qa_11, .ref qa_13, .ref qa_15, .ref qa_17, .ref qa_19, .int 0, .int 0, .int 0, .ref qa_21, .int 0, .long 0])), (qa_1, .inl (ca_2, 8, .inl (upd (upd (upd (upd (upd (upd (upd (upd (fun _ => 0) 0 (-1)) 1 (-1)) 2 (-1)) 3 (-1)) 4 (-1)) 5 (-1)) 6 (-1)) 7 (-1)))), (qa_3, .inl (ca_2, 8, .inl (fun _ => 0))), (qa_5, .inl (ca_2, 240, .inl (fun _ => 0))), (qa_7, .inl (ca_8, 240, .inl (fun _ => 0))), (qa_9, .inl (ca_10, 240, .inr (.inl (fun i => (zsm v00 i).toInt64)))), (qa_11, .inl (ca_2, 240, .inl (fun _ => 0))), (qa_13, .inl (ca_2, 3840, .inl (fun i => ztx v00 i &&& 255))), (qa_15, .inl (ca_2, 64, .inl (fun _ => 0))), (qa_17, .inl (ca_2, 64, .inl (fun _ => 0))), (qa_19, .inl (ca_2, 64, .inl (fun _ => 0))), (qa_21, .inl (ca_2, 400, .inl (fun _ => 0)))] := by rw [← e5, ← e7]; exact hD
  rw [hq0, hq1, hq2, hq3, hq4, hq5, hq6, hq7, hq8, hq9, hq10, hq11] at hP hD
  exact W.vret hx hb hr (fun t ht hW => ⟨⟨(), rfl, trivial, a, ca_2, ca_8, ca_10, hq0.symm, by rw [ht]; exact hP, va_K.moved hW.alike hK, hD⟩, hS.F ht⟩) hS.2.2 z_m_init_132
