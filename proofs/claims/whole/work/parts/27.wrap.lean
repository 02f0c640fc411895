set_option maxHeartbeats 4000000 in
set_option maxRecDepth 100000 in
theorem c_L_under (l : Launch) (dC : Nat → ClassId) (dI : Nat → Nat → Nat) (q : Nat → Nat) (cI cZ cB cL9 : ClassId) (a9 : Nat) (f : Nat → Int64) (v : St) (sz : Nat) (hl0 : l.stackTraces = false) (hi : Inv v) (x : Int32) (y : Int32) : Met l y_L_under (Cond.codeWith y_L_under b_L_under 4 (some .int) [(0, 6, 9, 13), (0, 6, 12, 15)] :: CW) { frames := 7, cells := 1, slots := 6, locals := 104 } (va_Pc [.ref (q 0), .int x, .int y] (LwC (dC, dI) sz (wC q cI cZ cB v ++ [(a9, .inl (cL9, 1, .inr (.inl f)))]) (tyC cI cZ cB ++ [(cL9, .long)]))) (va_Qi (fun (r : Int32) (u : St × (Nat → Int64)) => ∃ c9 : Nat, r = nI c9 ∧ spUnder v x y c9 u.1) (fun u => WrB (dC, dI) (wC q cI cZ cB u.1 ++ [(a9, .inl (cL9, 1, .inr (.inl u.2)))]) (tyC cI cZ cB ++ [(cL9, .long)]) (va_A (wC q cI cZ cB v ++ [(a9, .inl (cL9, 1, .inr (.inl f)))]) sz)) (va_A (wC q cI cZ cB v ++ [(a9, .inl (cL9, 1, .inr (.inl f)))]) sz)) 1 6 (va_A (wC q cI cZ cB v ++ [(a9, .inl (cL9, 1, .inr (.inl f)))]) sz) := by
  refine cxW_met (by decide) (Nat.le_of_ble_eq_true rfl) ?_
  intro p e s m below meth c hx hb hr hml hts hown hlocks hTab hC ls hl
  obtain ⟨⟨⟨hsz, hP, hK, hD0, hN⟩, hX⟩, hNC⟩ := hC
  subst hsz
  have hD := hD0.self (sz := s.heap.size)
  generalize hAe : va_A (wC q cI cZ cB v ++ [(a9, .inl (cL9, 1, .inr (.inl f)))]) s.heap.size = A at hD hX ⊢
  have hA : ∀ q9 : Nat, s.heap.size ≤ q9 → A q9 := fun q9 h => by rw [← hAe]; exact Or.inr h
  have hS : va_S A s.heap s.heap [] := va_S.rf
  have hown : s.vm.findClass "ServiceDeskLaw" = some m.cls := hown
  have hl : lv_has ls 4 [(0, .ref (q 0)), (1, .int x), (2, .int y)] := hl
  have hKc : va_K (dC, dI) vwCl (tyC cI cZ cB) s := va_K.sub hK [0, 1, 2] rfl
  refine lv_aload_n hx hb z_L_under_0 rfl (lv_at hl 0 rfl) ?_
  refine lv_iload_n hx hb z_L_under_1 rfl (lv_at hl 1 rfl) ?_
  refine lv_iload_n hx hb z_L_under_2 rfl (lv_at hl 2 rfl) ?_
  refine txVv (As := [.int x, .int y]) (rest := []) (wc := wC q cI cZ cB v) (wo := [(a9, .inl (cL9, 1, .inr (.inl f)))]) (wf := fun u : St => wC q cI cZ cB u) (tyc := tyC cI cZ cB) ⟨hx, hb, hml, hown, hts⟩ (c_d_under l dC dI q cI cZ cB v s.heap.size hl0 hi x y) mw_148 mw_145 mw_146 mw_147 mw_1 rfl yd_d_under ⟨⟨rfl, rfl⟩, Nat.le_of_ble_eq_true rfl, Nat.le_of_ble_eq_true rfl⟩ ⟨Nat.le_of_ble_eq_true rfl, Nat.le_of_ble_eq_true rfl⟩ (tx_pre hP hKc hD hN hS hA hX (ci := 3) (q0 := 0) rfl rfl) hP hD hS hA rfl hl.1 rfl (Nat.le_of_ble_eq_true rfl) z_L_under_3 (fun E z9 ce q9 H locs hE hpx hP hD hS hce hcv hcl => ?_) (fun u9 H locs h9 hP hD hS => ?_)
  · obtain ⟨c9, u9⟩ := z9
    rcases List.mem_cons.mp hE with hE | hE
    · obtain ⟨rfl, rfl⟩ : E = "java/lang/IllegalArgumentException" ∧ c9 = 1 := Prod.mk.inj hE
      refine vx_catch (own := "ServiceDeskLaw") (name := "java/lang/IllegalArgumentException") (E := "java/lang/IllegalArgumentException") hown [] ⟨0, 6, 9, 13⟩ [⟨0, 6, 12, 15⟩] (by rw [hTab]; rfl) (fun z9 h9 => absurd h9 List.not_mem_nil) (by decide) (by decide) (hts _ (cw_in mw_143 rfl)) (va_Nw.use rfl (hX.2.2.1 _ nx_0)) hce hcv hcl ?_
      refine W.eq (g2 := F0 m 9 ls [.ref q9]) rfl ?_
      refine lv_astore_n (lv' := [(3, .ref q9), (0, .ref (q 0)), (1, .int x), (2, .int y)]) hx hb z_L_under_9 rfl hl (by decide) rfl (fun ls hl => ?_)
      refine lv_iconst (v := 1) hx hb z_L_under_10 (by decide) ?_
      exact W.iret (v := 1) hx hb hr (fun t ht hW => ⟨⟨1, (u9, f), rfl, ⟨1, rfl, hpx⟩, by rw [ht]; exact hP, va_K.moved hW.alike hK, hD⟩, hS.F ht⟩) hS.2.2 z_L_under_11
    · obtain ⟨rfl, rfl⟩ : E = "java/lang/IllegalStateException" ∧ c9 = 2 := Prod.mk.inj (List.mem_singleton.mp hE)
      refine vx_catch (own := "ServiceDeskLaw") (name := "java/lang/IllegalStateException") (E := "java/lang/IllegalStateException") hown [⟨0, 6, 9, 13⟩] ⟨0, 6, 12, 15⟩ [] (by rw [hTab]; rfl) (List.forall_mem_cons.mpr ⟨Or.inr ⟨by decide, "java/lang/IllegalArgumentException", hts _ (cw_in mw_143 rfl), hNC _ (List.mem_of_getElem? (i := 2) rfl) _ (List.mem_of_getElem? (i := 0) rfl) (by decide)⟩, fun z9 h9 => absurd h9 List.not_mem_nil⟩) (by decide) (by decide) (hts _ (cw_in mw_144 rfl)) (va_Nw.use rfl (hX.2.2.1 _ nx_2)) hce hcv hcl ?_
      refine W.eq (g2 := F0 m 12 ls [.ref q9]) rfl ?_
      refine lv_astore_n (lv' := [(3, .ref q9), (0, .ref (q 0)), (1, .int x), (2, .int y)]) hx hb z_L_under_12 rfl hl (by decide) rfl (fun ls hl => ?_)
      refine lv_iconst (v := 2) hx hb z_L_under_13 (by decide) ?_
      exact W.iret (v := 2) hx hb hr (fun t ht hW => ⟨⟨2, (u9, f), rfl, ⟨2, rfl, hpx⟩, by rw [ht]; exact hP, va_K.moved hW.alike hK, hD⟩, hS.F ht⟩) hS.2.2 z_L_under_14
  · refine lv_goto (tgt := 15) hx hb z_L_under_6 (by decide) ?_
    refine lv_iconst (v := 0) hx hb z_L_under_15 (by decide) ?_
    exact W.iret (v := 0) hx hb hr (fun t ht hW => ⟨⟨0, (u9, f), rfl, ⟨0, rfl, h9⟩, by rw [ht]; exact hP, va_K.moved hW.alike hK, hD⟩, hS.F ht⟩) hS.2.2 z_L_under_16

set_option maxHeartbeats 4000000 in
set_option maxRecDepth 100000 in
theorem c_L_make (l : Launch) (dC : Nat → ClassId) (dI : Nat → Nat → Nat) (q : Nat → Nat) (cI cZ cB cL9 : ClassId) (a9 : Nat) (f : Nat → Int64) (v : St) (sz : Nat) (hl0 : l.stackTraces = false) (hi : Inv v) (x : Int32) (y : Int32) : Met l y_L_make (Cond.codeWith y_L_make b_L_make 5 (some .int) [(0, 10, 13, 13), (0, 10, 17, 15), (0, 10, 21, 21)] :: CW) { frames := 7, cells := 1, slots := 6, locals := 105 } (va_Pc [.ref (q 0), .int x, .int y, .ref a9] (LwC (dC, dI) sz (wC q cI cZ cB v ++ [(a9, .inl (cL9, 1, .inr (.inl f)))]) (tyC cI cZ cB ++ [(cL9, .long)]))) (va_Qi (fun (r : Int32) (u : St × (Nat → Int64)) => ∃ (c9 : Nat) (R9 : Int32), r = nI c9 ∧ spMake v x y c9 R9 u.1 ∧ (c9 = 0 → u.2 0 = R9.toInt64)) (fun u => WrB (dC, dI) (wC q cI cZ cB u.1 ++ [(a9, .inl (cL9, 1, .inr (.inl u.2)))]) (tyC cI cZ cB ++ [(cL9, .long)]) (va_A (wC q cI cZ cB v ++ [(a9, .inl (cL9, 1, .inr (.inl f)))]) sz)) (va_A (wC q cI cZ cB v ++ [(a9, .inl (cL9, 1, .inr (.inl f)))]) sz)) 1 6 (va_A (wC q cI cZ cB v ++ [(a9, .inl (cL9, 1, .inr (.inl f)))]) sz) := by
  refine cxW_met (by decide) (Nat.le_of_ble_eq_true rfl) ?_
  intro p e s m below meth c hx hb hr hml hts hown hlocks hTab hC ls hl
  obtain ⟨⟨⟨hsz, hP, hK, hD0, hN⟩, hX⟩, hNC⟩ := hC
  subst hsz
  have hD := hD0.self (sz := s.heap.size)
  generalize hAe : va_A (wC q cI cZ cB v ++ [(a9, .inl (cL9, 1, .inr (.inl f)))]) s.heap.size = A at hD hX ⊢
  have hA : ∀ q9 : Nat, s.heap.size ≤ q9 → A q9 := fun q9 h => by rw [← hAe]; exact Or.inr h
  have hS : va_S A s.heap s.heap [] := va_S.rf
  have hown : s.vm.findClass "ServiceDeskLaw" = some m.cls := hown
  have hl : lv_has ls 5 [(0, .ref (q 0)), (1, .int x), (2, .int y), (3, .ref a9)] := hl
  have hKc : va_K (dC, dI) vwCl (tyC cI cZ cB) s := va_K.sub hK [0, 1, 2] rfl
  refine lv_aload_n hx hb z_L_make_0 rfl (lv_at hl 3 rfl) ?_
  refine lv_iconst (v := 0) hx hb z_L_make_1 (by decide) ?_
  refine lv_aload_n hx hb z_L_make_2 rfl (lv_at hl 0 rfl) ?_
  refine lv_iload_n hx hb z_L_make_3 rfl (lv_at hl 1 rfl) ?_
  refine lv_iload_n hx hb z_L_make_4 rfl (lv_at hl 2 rfl) ?_
  refine txVi (As := [.int x, .int y]) (rest := [.int 0, .ref a9]) (wc := wC q cI cZ cB v) (wo := [(a9, .inl (cL9, 1, .inr (.inl f)))]) (wf := fun u : St => wC q cI cZ cB u) (tyc := tyC cI cZ cB) ⟨hx, hb, hml, hown, hts⟩ (c_d_make l dC dI q cI cZ cB v s.heap.size hl0 hi x y) mw_247 mw_244 mw_245 mw_246 mw_1 rfl yd_d_make ⟨⟨rfl, rfl⟩, Nat.le_of_ble_eq_true rfl, Nat.le_of_ble_eq_true rfl⟩ ⟨Nat.le_of_ble_eq_true rfl, Nat.le_of_ble_eq_true rfl⟩ (tx_pre hP hKc hD hN hS hA hX (ci := 3) (q0 := 0) rfl rfl) hP hD hS hA rfl hl.1 rfl (Nat.le_of_ble_eq_true rfl) z_L_make_5 (fun E z9 ce q9 H locs hE hpx hP hD hS hce hcv hcl => ?_) (fun r9 u9 H locs h9 hP hD hS => ?_)
  · obtain ⟨c9, u9⟩ := z9
    rcases List.mem_cons.mp hE with hE | hE
    · obtain ⟨rfl, rfl⟩ : E = "java/lang/IllegalArgumentException" ∧ c9 = 1 := Prod.mk.inj hE
      refine vx_catch (own := "ServiceDeskLaw") (name := "java/lang/IllegalArgumentException") (E := "java/lang/IllegalArgumentException") hown [] ⟨0, 10, 13, 13⟩ [⟨0, 10, 17, 15⟩, ⟨0, 10, 21, 21⟩] (by rw [hTab]; rfl) (fun z9 h9 => absurd h9 List.not_mem_nil) (by decide) (by decide) (hts _ (cw_in mw_143 rfl)) (va_Nw.use rfl (hX.2.2.1 _ nx_0)) hce hcv hcl ?_
      refine W.eq (g2 := F0 m 13 ls [.ref q9]) rfl ?_
      refine lv_astore (lv' := [(4, .ref q9), (0, .ref (q 0)), (1, .int x), (2, .int y), (3, .ref a9)]) hx hb z_L_make_13 hl (by decide) rfl (fun ls hl => ?_)
      refine lv_iconst (v := 1) hx hb z_L_make_15 (by decide) ?_
      exact W.iret (v := 1) hx hb hr (fun t ht hW => ⟨⟨1, (u9, f), rfl, ⟨1, 0, rfl, hpx, fun h9 => absurd h9 (by decide)⟩, by rw [ht]; exact hP, va_K.moved hW.alike hK, hD⟩, hS.F ht⟩) hS.2.2 z_L_make_16
    · rcases List.mem_cons.mp hE with hE | hE
      · obtain ⟨rfl, rfl⟩ : E = "java/lang/IllegalStateException" ∧ c9 = 2 := Prod.mk.inj hE
        refine vx_catch (own := "ServiceDeskLaw") (name := "java/lang/IllegalStateException") (E := "java/lang/IllegalStateException") hown [⟨0, 10, 13, 13⟩] ⟨0, 10, 17, 15⟩ [⟨0, 10, 21, 21⟩] (by rw [hTab]; rfl) (List.forall_mem_cons.mpr ⟨Or.inr ⟨by decide, "java/lang/IllegalArgumentException", hts _ (cw_in mw_143 rfl), hNC _ (List.mem_of_getElem? (i := 2) rfl) _ (List.mem_of_getElem? (i := 0) rfl) (by decide)⟩, fun z9 h9 => absurd h9 List.not_mem_nil⟩) (by decide) (by decide) (hts _ (cw_in mw_144 rfl)) (va_Nw.use rfl (hX.2.2.1 _ nx_2)) hce hcv hcl ?_
        refine W.eq (g2 := F0 m 17 ls [.ref q9]) rfl ?_
        refine lv_astore (lv' := [(4, .ref q9), (0, .ref (q 0)), (1, .int x), (2, .int y), (3, .ref a9)]) hx hb z_L_make_17 hl (by decide) rfl (fun ls hl => ?_)
        refine lv_iconst (v := 2) hx hb z_L_make_19 (by decide) ?_
        exact W.iret (v := 2) hx hb hr (fun t ht hW => ⟨⟨2, (u9, f), rfl, ⟨2, 0, rfl, hpx, fun h9 => absurd h9 (by decide)⟩, by rw [ht]; exact hP, va_K.moved hW.alike hK, hD⟩, hS.F ht⟩) hS.2.2 z_L_make_20
      · obtain ⟨rfl, rfl⟩ : E = "java/lang/UnsupportedOperationException" ∧ c9 = 3 := Prod.mk.inj (List.mem_singleton.mp hE)
        refine vx_catch (own := "ServiceDeskLaw") (name := "java/lang/UnsupportedOperationException") (E := "java/lang/UnsupportedOperationException") hown [⟨0, 10, 13, 13⟩, ⟨0, 10, 17, 15⟩] ⟨0, 10, 21, 21⟩ [] (by rw [hTab]; rfl) (List.forall_mem_cons.mpr ⟨Or.inr ⟨by decide, "java/lang/IllegalArgumentException", hts _ (cw_in mw_143 rfl), hNC _ (List.mem_of_getElem? (i := 3) rfl) _ (List.mem_of_getElem? (i := 0) rfl) (by decide)⟩, List.forall_mem_cons.mpr ⟨Or.inr ⟨by decide, "java/lang/IllegalStateException", hts _ (cw_in mw_144 rfl), hNC _ (List.mem_of_getElem? (i := 3) rfl) _ (List.mem_of_getElem? (i := 2) rfl) (by decide)⟩, fun z9 h9 => absurd h9 List.not_mem_nil⟩⟩) (by decide) (by decide) (hts _ (cw_in mw_243 rfl)) (va_Nw.use rfl (hX.2.2.1 _ nx_3)) hce hcv hcl ?_
        refine W.eq (g2 := F0 m 21 ls [.ref q9]) rfl ?_
        refine lv_astore (lv' := [(4, .ref q9), (0, .ref (q 0)), (1, .int x), (2, .int y), (3, .ref a9)]) hx hb z_L_make_21 hl (by decide) rfl (fun ls hl => ?_)
        refine lv_iconst (v := 3) hx hb z_L_make_23 (by decide) ?_
        exact W.iret (v := 3) hx hb hr (fun t ht hW => ⟨⟨3, (u9, f), rfl, ⟨3, 0, rfl, hpx, fun h9 => absurd h9 (by decide)⟩, by rw [ht]; exact hP, va_K.moved hW.alike hK, hD⟩, hS.F ht⟩) hS.2.2 z_L_make_24
  · refine lv_i2l hx hb z_L_make_8 rfl ?_
    refine W.eq (g2 := F0 m 9 ls (.long r9.toInt64 :: .int (nI 0) :: .ref a9 :: [])) rfl ?_
    refine xs_l hx hb hK hP hD hS 15 3 rfl rfl (k := 0) (by decide) (by decide) z_L_make_9 (fun H locs hP hD hS => ?_)
    have hP : va_P (dC, dI) vwCl (wC q cI cZ cB u9 ++ [(a9, .inl (cL9, 1, .inr (.inl (vp_updL f 0 r9.toInt64))))]) H := hP
    have hD : va_D A (wC q cI cZ cB u9 ++ [(a9, .inl (cL9, 1, .inr (.inl (vp_updL f 0 r9.toInt64))))]) := hD
    refine lv_goto (tgt := 25) hx hb z_L_make_10 (by decide) ?_
    refine lv_iconst (v := 0) hx hb z_L_make_25 (by decide) ?_
    exact W.iret (v := 0) hx hb hr (fun t ht hW => ⟨⟨0, (u9, vp_updL f 0 (r9.toInt64)), rfl, ⟨0, r9, rfl, h9, fun _ => pk_uLs (f := f) (k := 0) (x := r9.toInt64)⟩, by rw [ht]; exact hP, va_K.moved hW.alike hK, hD⟩, hS.F ht⟩) hS.2.2 z_L_make_26

set_option maxHeartbeats 4000000 in
set_option maxRecDepth 100000 in
theorem c_L_verb (l : Launch) (dC : Nat → ClassId) (dI : Nat → Nat → Nat) (q : Nat → Nat) (cI cZ cB cL9 : ClassId) (a9 : Nat) (f : Nat → Int64) (v : St) (sz : Nat) (hl0 : l.stackTraces = false) (x : Int32) (y : Int32) (z : Int32) (a : Int32) (b : Int32) : Met l y_L_verb (Cond.codeWith y_L_verb b_L_verb 7 (some .int) [(0, 11, 14, 13), (0, 11, 18, 27)] :: CW) { frames := 7, cells := 1, slots := 6, locals := 107 } (va_Pc [.ref (q 0), .int x, .int y, .int z, .int a, .int b] (LwC (dC, dI) sz (wC q cI cZ cB v ++ [(a9, .inl (cL9, 1, .inr (.inl f)))]) (tyC cI cZ cB ++ [(cL9, .long)]))) (va_Qi (fun (r : Int32) (u : St × (Nat → Int64)) => ∃ c9 : Nat, r = nI c9 ∧ spVerb v x y z a b c9 u.1) (fun u => WrB (dC, dI) (wC q cI cZ cB u.1 ++ [(a9, .inl (cL9, 1, .inr (.inl u.2)))]) (tyC cI cZ cB ++ [(cL9, .long)]) (va_A (wC q cI cZ cB v ++ [(a9, .inl (cL9, 1, .inr (.inl f)))]) sz)) (va_A (wC q cI cZ cB v ++ [(a9, .inl (cL9, 1, .inr (.inl f)))]) sz)) 1 6 (va_A (wC q cI cZ cB v ++ [(a9, .inl (cL9, 1, .inr (.inl f)))]) sz) := by
  refine cxW_met (by decide) (Nat.le_of_ble_eq_true rfl) ?_
  intro p e s m below meth c hx hb hr hml hts hown hlocks hTab hC ls hl
  obtain ⟨⟨⟨hsz, hP, hK, hD0, hN⟩, hX⟩, hNC⟩ := hC
  subst hsz
  have hD := hD0.self (sz := s.heap.size)
  generalize hAe : va_A (wC q cI cZ cB v ++ [(a9, .inl (cL9, 1, .inr (.inl f)))]) s.heap.size = A at hD hX ⊢
  have hA : ∀ q9 : Nat, s.heap.size ≤ q9 → A q9 := fun q9 h => by rw [← hAe]; exact Or.inr h
  have hS : va_S A s.heap s.heap [] := va_S.rf
  have hown : s.vm.findClass "ServiceDeskLaw" = some m.cls := hown
  have hl : lv_has ls 7 [(0, .ref (q 0)), (1, .int x), (2, .int y), (3, .int z), (4, .int a), (5, .int b)] := hl
  have hKc : va_K (dC, dI) vwCl (tyC cI cZ cB) s := va_K.sub hK [0, 1, 2] rfl
  refine lv_aload_n hx hb z_L_verb_0 rfl (lv_at hl 0 rfl) ?_
  refine lv_iload_n hx hb z_L_verb_1 rfl (lv_at hl 1 rfl) ?_
  refine lv_iload_n hx hb z_L_verb_2 rfl (lv_at hl 2 rfl) ?_
  refine lv_iload_n hx hb z_L_verb_3 rfl (lv_at hl 3 rfl) ?_
  refine lv_iload hx hb z_L_verb_4 (lv_at hl 4 rfl) ?_
  refine lv_iload hx hb z_L_verb_6 (lv_at hl 5 rfl) ?_
  refine txVv (As := [.int x, .int y, .int z, .int a, .int b]) (rest := []) (wc := wC q cI cZ cB v) (wo := [(a9, .inl (cL9, 1, .inr (.inl f)))]) (wf := fun u : St => wC q cI cZ cB u) (tyc := tyC cI cZ cB) ⟨hx, hb, hml, hown, hts⟩ (c_d_verb l dC dI q cI cZ cB v s.heap.size hl0 x y z a b) mw_290 mw_287 mw_288 mw_289 mw_1 rfl yd_d_verb ⟨⟨rfl, rfl⟩, Nat.le_of_ble_eq_true rfl, Nat.le_of_ble_eq_true rfl⟩ ⟨Nat.le_of_ble_eq_true rfl, Nat.le_of_ble_eq_true rfl⟩ (tx_pre hP hKc hD hN hS hA hX (ci := 3) (q0 := 0) rfl rfl) hP hD hS hA rfl hl.1 rfl (Nat.le_of_ble_eq_true rfl) z_L_verb_8 (fun E z9 ce q9 H locs hE hpx hP hD hS hce hcv hcl => ?_) (fun u9 H locs h9 hP hD hS => ?_)
  · obtain ⟨c9, u9⟩ := z9
    rcases List.mem_cons.mp hE with hE | hE
    · obtain ⟨rfl, rfl⟩ : E = "java/lang/IllegalArgumentException" ∧ c9 = 1 := Prod.mk.inj hE
      refine vx_catch (own := "ServiceDeskLaw") (name := "java/lang/IllegalArgumentException") (E := "java/lang/IllegalArgumentException") hown [] ⟨0, 11, 14, 13⟩ [⟨0, 11, 18, 27⟩] (by rw [hTab]; rfl) (fun z9 h9 => absurd h9 List.not_mem_nil) (by decide) (by decide) (hts _ (cw_in mw_143 rfl)) (va_Nw.use rfl (hX.2.2.1 _ nx_0)) hce hcv hcl ?_
      refine W.eq (g2 := F0 m 14 ls [.ref q9]) rfl ?_
      refine lv_astore (lv' := [(6, .ref q9), (0, .ref (q 0)), (1, .int x), (2, .int y), (3, .int z), (4, .int a), (5, .int b)]) hx hb z_L_verb_14 hl (by decide) rfl (fun ls hl => ?_)
      refine lv_iconst (v := 1) hx hb z_L_verb_16 (by decide) ?_
      exact W.iret (v := 1) hx hb hr (fun t ht hW => ⟨⟨1, (u9, f), rfl, ⟨1, rfl, hpx⟩, by rw [ht]; exact hP, va_K.moved hW.alike hK, hD⟩, hS.F ht⟩) hS.2.2 z_L_verb_17
    · obtain ⟨rfl, rfl⟩ : E = "java/lang/IndexOutOfBoundsException" ∧ c9 = 2 := Prod.mk.inj (List.mem_singleton.mp hE)
      refine vx_catch (own := "ServiceDeskLaw") (name := "java/lang/IndexOutOfBoundsException") (E := "java/lang/IndexOutOfBoundsException") hown [⟨0, 11, 14, 13⟩] ⟨0, 11, 18, 27⟩ [] (by rw [hTab]; rfl) (List.forall_mem_cons.mpr ⟨Or.inr ⟨by decide, "java/lang/IllegalArgumentException", hts _ (cw_in mw_143 rfl), hNC _ (List.mem_of_getElem? (i := 1) rfl) _ (List.mem_of_getElem? (i := 0) rfl) (by decide)⟩, fun z9 h9 => absurd h9 List.not_mem_nil⟩) (by decide) (by decide) (hts _ (cw_in mw_286 rfl)) (va_Nw.use rfl (hX.2.2.1 _ nx_1)) hce hcv hcl ?_
      refine W.eq (g2 := F0 m 18 ls [.ref q9]) rfl ?_
      refine lv_astore (lv' := [(6, .ref q9), (0, .ref (q 0)), (1, .int x), (2, .int y), (3, .int z), (4, .int a), (5, .int b)]) hx hb z_L_verb_18 hl (by decide) rfl (fun ls hl => ?_)
      refine lv_iconst (v := 2) hx hb z_L_verb_20 (by decide) ?_
      exact W.iret (v := 2) hx hb hr (fun t ht hW => ⟨⟨2, (u9, f), rfl, ⟨2, rfl, hpx⟩, by rw [ht]; exact hP, va_K.moved hW.alike hK, hD⟩, hS.F ht⟩) hS.2.2 z_L_verb_21
  · refine lv_goto (tgt := 22) hx hb z_L_verb_11 (by decide) ?_
    refine lv_iconst (v := 0) hx hb z_L_verb_22 (by decide) ?_
    exact W.iret (v := 0) hx hb hr (fun t ht hW => ⟨⟨0, (u9, f), rfl, ⟨0, rfl, h9⟩, by rw [ht]; exact hP, va_K.moved hW.alike hK, hD⟩, hS.F ht⟩) hS.2.2 z_L_verb_23

set_option maxHeartbeats 4000000 in
set_option maxRecDepth 100000 in
theorem c_L_call (l : Launch) (dC : Nat → ClassId) (dI : Nat → Nat → Nat) (q : Nat → Nat) (cI cZ cB cL9 : ClassId) (a9 : Nat) (f : Nat → Int64) (v : St) (sz : Nat) (hl0 : l.stackTraces = false) (hi : Inv v) (x : Int32) (y : Int32) (z : Int32) (a : Int32) : Met l y_L_call (Cond.codeWith y_L_call b_L_call 7 (some .int) [(0, 13, 16, 13), (0, 13, 20, 27), (0, 13, 24, 15)] :: CW) { frames := 8, cells := 1, slots := 6, locals := 156 } (va_Pc [.ref (q 0), .int x, .int y, .int z, .int a, .ref a9] (LwC (dC, dI) sz (wC q cI cZ cB v ++ [(a9, .inl (cL9, 1, .inr (.inl f)))]) (tyC cI cZ cB ++ [(cL9, .long)]))) (va_Qi (fun (r : Int32) (u : St × (Nat → Int64)) => ∃ (c9 : Nat) (R9 : Int64), r = nI c9 ∧ spCall v x y z a c9 R9 u.1 ∧ (c9 = 0 → u.2 0 = R9)) (fun u => WrB (dC, dI) (wC q cI cZ cB u.1 ++ [(a9, .inl (cL9, 1, .inr (.inl u.2)))]) (tyC cI cZ cB ++ [(cL9, .long)]) (va_A (wC q cI cZ cB v ++ [(a9, .inl (cL9, 1, .inr (.inl f)))]) sz)) (va_A (wC q cI cZ cB v ++ [(a9, .inl (cL9, 1, .inr (.inl f)))]) sz)) 1 6 (va_A (wC q cI cZ cB v ++ [(a9, .inl (cL9, 1, .inr (.inl f)))]) sz) := by
  refine cxW_met (by decide) (Nat.le_of_ble_eq_true rfl) ?_
  intro p e s m below meth c hx hb hr hml hts hown hlocks hTab hC ls hl
  obtain ⟨⟨⟨hsz, hP, hK, hD0, hN⟩, hX⟩, hNC⟩ := hC
  subst hsz
  have hD := hD0.self (sz := s.heap.size)
  generalize hAe : va_A (wC q cI cZ cB v ++ [(a9, .inl (cL9, 1, .inr (.inl f)))]) s.heap.size = A at hD hX ⊢
  have hA : ∀ q9 : Nat, s.heap.size ≤ q9 → A q9 := fun q9 h => by rw [← hAe]; exact Or.inr h
  have hS : va_S A s.heap s.heap [] := va_S.rf
  have hown : s.vm.findClass "ServiceDeskLaw" = some m.cls := hown
  have hl : lv_has ls 7 [(0, .ref (q 0)), (1, .int x), (2, .int y), (3, .int z), (4, .int a), (5, .ref a9)] := hl
  have hKc : va_K (dC, dI) vwCl (tyC cI cZ cB) s := va_K.sub hK [0, 1, 2] rfl
  refine lv_aload hx hb z_L_call_0 (lv_at hl 5 rfl) ?_
  refine lv_iconst (v := 0) hx hb z_L_call_2 (by decide) ?_
  refine lv_aload_n hx hb z_L_call_3 rfl (lv_at hl 0 rfl) ?_
  refine lv_iload_n hx hb z_L_call_4 rfl (lv_at hl 1 rfl) ?_
  refine lv_iload_n hx hb z_L_call_5 rfl (lv_at hl 2 rfl) ?_
  refine lv_iload_n hx hb z_L_call_6 rfl (lv_at hl 3 rfl) ?_
  refine lv_iload hx hb z_L_call_7 (lv_at hl 4 rfl) ?_
  refine txVl (As := [.int x, .int y, .int z, .int a]) (rest := [.int 0, .ref a9]) (wc := wC q cI cZ cB v) (wo := [(a9, .inl (cL9, 1, .inr (.inl f)))]) (wf := fun u : St => wC q cI cZ cB u) (tyc := tyC cI cZ cB) ⟨hx, hb, hml, hown, hts⟩ (c_d_call l dC dI q cI cZ cB v s.heap.size hl0 hi x y z a) mw_325 mw_322 mw_323 mw_324 mw_1 rfl yd_d_call ⟨⟨rfl, rfl⟩, Nat.le_of_ble_eq_true rfl, Nat.le_of_ble_eq_true rfl⟩ ⟨Nat.le_of_ble_eq_true rfl, Nat.le_of_ble_eq_true rfl⟩ (tx_pre hP hKc hD hN hS hA hX (ci := 3) (q0 := 0) rfl rfl) hP hD hS hA rfl hl.1 rfl (Nat.le_of_ble_eq_true rfl) z_L_call_9 (fun E z9 ce q9 H locs hE hpx hP hD hS hce hcv hcl => ?_) (fun r9 u9 H locs h9 hP hD hS => ?_)
  · obtain ⟨c9, u9⟩ := z9
    rcases List.mem_cons.mp hE with hE | hE
    · obtain ⟨rfl, rfl⟩ : E = "java/lang/IllegalArgumentException" ∧ c9 = 1 := Prod.mk.inj hE
      refine vx_catch (own := "ServiceDeskLaw") (name := "java/lang/IllegalArgumentException") (E := "java/lang/IllegalArgumentException") hown [] ⟨0, 13, 16, 13⟩ [⟨0, 13, 20, 27⟩, ⟨0, 13, 24, 15⟩] (by rw [hTab]; rfl) (fun z9 h9 => absurd h9 List.not_mem_nil) (by decide) (by decide) (hts _ (cw_in mw_143 rfl)) (va_Nw.use rfl (hX.2.2.1 _ nx_0)) hce hcv hcl ?_
      refine W.eq (g2 := F0 m 16 ls [.ref q9]) rfl ?_
      refine lv_astore (lv' := [(6, .ref q9), (0, .ref (q 0)), (1, .int x), (2, .int y), (3, .int z), (4, .int a), (5, .ref a9)]) hx hb z_L_call_16 hl (by decide) rfl (fun ls hl => ?_)
      refine lv_iconst (v := 1) hx hb z_L_call_18 (by decide) ?_
      exact W.iret (v := 1) hx hb hr (fun t ht hW => ⟨⟨1, (u9, f), rfl, ⟨1, 0, rfl, hpx, fun h9 => absurd h9 (by decide)⟩, by rw [ht]; exact hP, va_K.moved hW.alike hK, hD⟩, hS.F ht⟩) hS.2.2 z_L_call_19
    · rcases List.mem_cons.mp hE with hE | hE
      · obtain ⟨rfl, rfl⟩ : E = "java/lang/IndexOutOfBoundsException" ∧ c9 = 2 := Prod.mk.inj hE
        refine vx_catch (own := "ServiceDeskLaw") (name := "java/lang/IndexOutOfBoundsException") (E := "java/lang/IndexOutOfBoundsException") hown [⟨0, 13, 16, 13⟩] ⟨0, 13, 20, 27⟩ [⟨0, 13, 24, 15⟩] (by rw [hTab]; rfl) (List.forall_mem_cons.mpr ⟨Or.inr ⟨by decide, "java/lang/IllegalArgumentException", hts _ (cw_in mw_143 rfl), hNC _ (List.mem_of_getElem? (i := 1) rfl) _ (List.mem_of_getElem? (i := 0) rfl) (by decide)⟩, fun z9 h9 => absurd h9 List.not_mem_nil⟩) (by decide) (by decide) (hts _ (cw_in mw_286 rfl)) (va_Nw.use rfl (hX.2.2.1 _ nx_1)) hce hcv hcl ?_
        refine W.eq (g2 := F0 m 20 ls [.ref q9]) rfl ?_
        refine lv_astore (lv' := [(6, .ref q9), (0, .ref (q 0)), (1, .int x), (2, .int y), (3, .int z), (4, .int a), (5, .ref a9)]) hx hb z_L_call_20 hl (by decide) rfl (fun ls hl => ?_)
        refine lv_iconst (v := 2) hx hb z_L_call_22 (by decide) ?_
        exact W.iret (v := 2) hx hb hr (fun t ht hW => ⟨⟨2, (u9, f), rfl, ⟨2, 0, rfl, hpx, fun h9 => absurd h9 (by decide)⟩, by rw [ht]; exact hP, va_K.moved hW.alike hK, hD⟩, hS.F ht⟩) hS.2.2 z_L_call_23
      · obtain ⟨rfl, rfl⟩ : E = "java/lang/IllegalStateException" ∧ c9 = 3 := Prod.mk.inj (List.mem_singleton.mp hE)
        refine vx_catch (own := "ServiceDeskLaw") (name := "java/lang/IllegalStateException") (E := "java/lang/IllegalStateException") hown [⟨0, 13, 16, 13⟩, ⟨0, 13, 20, 27⟩] ⟨0, 13, 24, 15⟩ [] (by rw [hTab]; rfl) (List.forall_mem_cons.mpr ⟨Or.inr ⟨by decide, "java/lang/IllegalArgumentException", hts _ (cw_in mw_143 rfl), hNC _ (List.mem_of_getElem? (i := 2) rfl) _ (List.mem_of_getElem? (i := 0) rfl) (by decide)⟩, List.forall_mem_cons.mpr ⟨Or.inr ⟨by decide, "java/lang/IndexOutOfBoundsException", hts _ (cw_in mw_286 rfl), hNC _ (List.mem_of_getElem? (i := 2) rfl) _ (List.mem_of_getElem? (i := 1) rfl) (by decide)⟩, fun z9 h9 => absurd h9 List.not_mem_nil⟩⟩) (by decide) (by decide) (hts _ (cw_in mw_144 rfl)) (va_Nw.use rfl (hX.2.2.1 _ nx_2)) hce hcv hcl ?_
        refine W.eq (g2 := F0 m 24 ls [.ref q9]) rfl ?_
        refine lv_astore (lv' := [(6, .ref q9), (0, .ref (q 0)), (1, .int x), (2, .int y), (3, .int z), (4, .int a), (5, .ref a9)]) hx hb z_L_call_24 hl (by decide) rfl (fun ls hl => ?_)
        refine lv_iconst (v := 3) hx hb z_L_call_26 (by decide) ?_
        exact W.iret (v := 3) hx hb hr (fun t ht hW => ⟨⟨3, (u9, f), rfl, ⟨3, 0, rfl, hpx, fun h9 => absurd h9 (by decide)⟩, by rw [ht]; exact hP, va_K.moved hW.alike hK, hD⟩, hS.F ht⟩) hS.2.2 z_L_call_27
  · refine W.eq (g2 := F0 m 12 ls (.long r9 :: .int (nI 0) :: .ref a9 :: [])) rfl ?_
    refine xs_l hx hb hK hP hD hS 15 3 rfl rfl (k := 0) (by decide) (by decide) z_L_call_12 (fun H locs hP hD hS => ?_)
    have hP : va_P (dC, dI) vwCl (wC q cI cZ cB u9 ++ [(a9, .inl (cL9, 1, .inr (.inl (vp_updL f 0 r9))))]) H := hP
    have hD : va_D A (wC q cI cZ cB u9 ++ [(a9, .inl (cL9, 1, .inr (.inl (vp_updL f 0 r9))))]) := hD
    refine lv_goto (tgt := 28) hx hb z_L_call_13 (by decide) ?_
    refine lv_iconst (v := 0) hx hb z_L_call_28 (by decide) ?_
    exact W.iret (v := 0) hx hb hr (fun t ht hW => ⟨⟨0, (u9, vp_updL f 0 (r9)), rfl, ⟨0, r9, rfl, h9, fun _ => pk_uLs (f := f) (k := 0) (x := r9)⟩, by rw [ht]; exact hP, va_K.moved hW.alike hK, hD⟩, hS.F ht⟩) hS.2.2 z_L_call_29

set_option maxHeartbeats 4000000 in
set_option maxRecDepth 100000 in
theorem c_L_simulate (l : Launch) (dC : Nat → ClassId) (dI : Nat → Nat → Nat) (q : Nat → Nat) (cI cZ cB cL9 : ClassId) (a9 : Nat) (f : Nat → Int64) (v : St) (sz : Nat) (hl0 : l.stackTraces = false) (hi : Inv v) (x : Int32) (y : Int32) (z : Int32) (a : Int32) : Met l y_L_simulate (Cond.codeWith y_L_simulate b_L_simulate 7 (some .int) [(0, 13, 16, 13), (0, 13, 20, 27), (0, 13, 24, 15)] :: CW) { frames := 8, cells := 1, slots := 6, locals := 153 } (va_Pc [.ref (q 0), .int x, .int y, .int z, .int a, .ref a9] (LwC (dC, dI) sz (wC q cI cZ cB v ++ [(a9, .inl (cL9, 1, .inr (.inl f)))]) (tyC cI cZ cB ++ [(cL9, .long)]))) (va_Qi (fun (r : Int32) (u : St × (Nat → Int64)) => ∃ (c9 : Nat) (R9 : Int64), r = nI c9 ∧ spSim v x y z a c9 R9 u.1 ∧ (c9 = 0 → u.2 0 = R9)) (fun u => WrB (dC, dI) (wC q cI cZ cB u.1 ++ [(a9, .inl (cL9, 1, .inr (.inl u.2)))]) (tyC cI cZ cB ++ [(cL9, .long)]) (va_A (wC q cI cZ cB v ++ [(a9, .inl (cL9, 1, .inr (.inl f)))]) sz)) (va_A (wC q cI cZ cB v ++ [(a9, .inl (cL9, 1, .inr (.inl f)))]) sz)) 1 6 (va_A (wC q cI cZ cB v ++ [(a9, .inl (cL9, 1, .inr (.inl f)))]) sz) := by
  refine cxW_met (by decide) (Nat.le_of_ble_eq_true rfl) ?_
  intro p e s m below meth c hx hb hr hml hts hown hlocks hTab hC ls hl
  obtain ⟨⟨⟨hsz, hP, hK, hD0, hN⟩, hX⟩, hNC⟩ := hC
  subst hsz
  have hD := hD0.self (sz := s.heap.size)
  generalize hAe : va_A (wC q cI cZ cB v ++ [(a9, .inl (cL9, 1, .inr (.inl f)))]) s.heap.size = A at hD hX ⊢
  have hA : ∀ q9 : Nat, s.heap.size ≤ q9 → A q9 := fun q9 h => by rw [← hAe]; exact Or.inr h
  have hS : va_S A s.heap s.heap [] := va_S.rf
  have hown : s.vm.findClass "ServiceDeskLaw" = some m.cls := hown
  have hl : lv_has ls 7 [(0, .ref (q 0)), (1, .int x), (2, .int y), (3, .int z), (4, .int a), (5, .ref a9)] := hl
  have hKc : va_K (dC, dI) vwCl (tyC cI cZ cB) s := va_K.sub hK [0, 1, 2] rfl
  refine lv_aload hx hb z_L_simulate_0 (lv_at hl 5 rfl) ?_
  refine lv_iconst (v := 0) hx hb z_L_simulate_2 (by decide) ?_
  refine lv_aload_n hx hb z_L_simulate_3 rfl (lv_at hl 0 rfl) ?_
  refine lv_iload_n hx hb z_L_simulate_4 rfl (lv_at hl 1 rfl) ?_
  refine lv_iload_n hx hb z_L_simulate_5 rfl (lv_at hl 2 rfl) ?_
  refine lv_iload_n hx hb z_L_simulate_6 rfl (lv_at hl 3 rfl) ?_
  refine lv_iload hx hb z_L_simulate_7 (lv_at hl 4 rfl) ?_
  refine txVl (As := [.int x, .int y, .int z, .int a]) (rest := [.int 0, .ref a9]) (wc := wC q cI cZ cB v) (wo := [(a9, .inl (cL9, 1, .inr (.inl f)))]) (wf := fun u : St => wC q cI cZ cB u) (tyc := tyC cI cZ cB) ⟨hx, hb, hml, hown, hts⟩ (c_d_simulate l dC dI q cI cZ cB v s.heap.size hl0 hi x y z a) mw_393 mw_390 mw_391 mw_392 mw_1 rfl yd_d_simulate ⟨⟨rfl, rfl⟩, Nat.le_of_ble_eq_true rfl, Nat.le_of_ble_eq_true rfl⟩ ⟨Nat.le_of_ble_eq_true rfl, Nat.le_of_ble_eq_true rfl⟩ (tx_pre hP hKc hD hN hS hA hX (ci := 3) (q0 := 0) rfl rfl) hP hD hS hA rfl hl.1 rfl (Nat.le_of_ble_eq_true rfl) z_L_simulate_9 (fun E z9 ce q9 H locs hE hpx hP hD hS hce hcv hcl => ?_) (fun r9 u9 H locs h9 hP hD hS => ?_)
  · obtain ⟨c9, u9⟩ := z9
    rcases List.mem_cons.mp hE with hE | hE
    · obtain ⟨rfl, rfl⟩ : E = "java/lang/IllegalArgumentException" ∧ c9 = 1 := Prod.mk.inj hE
      refine vx_catch (own := "ServiceDeskLaw") (name := "java/lang/IllegalArgumentException") (E := "java/lang/IllegalArgumentException") hown [] ⟨0, 13, 16, 13⟩ [⟨0, 13, 20, 27⟩, ⟨0, 13, 24, 15⟩] (by rw [hTab]; rfl) (fun z9 h9 => absurd h9 List.not_mem_nil) (by decide) (by decide) (hts _ (cw_in mw_143 rfl)) (va_Nw.use rfl (hX.2.2.1 _ nx_0)) hce hcv hcl ?_
      refine W.eq (g2 := F0 m 16 ls [.ref q9]) rfl ?_
      refine lv_astore (lv' := [(6, .ref q9), (0, .ref (q 0)), (1, .int x), (2, .int y), (3, .int z), (4, .int a), (5, .ref a9)]) hx hb z_L_simulate_16 hl (by decide) rfl (fun ls hl => ?_)
      refine lv_iconst (v := 1) hx hb z_L_simulate_18 (by decide) ?_
      exact W.iret (v := 1) hx hb hr (fun t ht hW => ⟨⟨1, (u9, f), rfl, ⟨1, 0, rfl, hpx, fun h9 => absurd h9 (by decide)⟩, by rw [ht]; exact hP, va_K.moved hW.alike hK, hD⟩, hS.F ht⟩) hS.2.2 z_L_simulate_19
    · rcases List.mem_cons.mp hE with hE | hE
      · obtain ⟨rfl, rfl⟩ : E = "java/lang/IndexOutOfBoundsException" ∧ c9 = 2 := Prod.mk.inj hE
        refine vx_catch (own := "ServiceDeskLaw") (name := "java/lang/IndexOutOfBoundsException") (E := "java/lang/IndexOutOfBoundsException") hown [⟨0, 13, 16, 13⟩] ⟨0, 13, 20, 27⟩ [⟨0, 13, 24, 15⟩] (by rw [hTab]; rfl) (List.forall_mem_cons.mpr ⟨Or.inr ⟨by decide, "java/lang/IllegalArgumentException", hts _ (cw_in mw_143 rfl), hNC _ (List.mem_of_getElem? (i := 1) rfl) _ (List.mem_of_getElem? (i := 0) rfl) (by decide)⟩, fun z9 h9 => absurd h9 List.not_mem_nil⟩) (by decide) (by decide) (hts _ (cw_in mw_286 rfl)) (va_Nw.use rfl (hX.2.2.1 _ nx_1)) hce hcv hcl ?_
        refine W.eq (g2 := F0 m 20 ls [.ref q9]) rfl ?_
        refine lv_astore (lv' := [(6, .ref q9), (0, .ref (q 0)), (1, .int x), (2, .int y), (3, .int z), (4, .int a), (5, .ref a9)]) hx hb z_L_simulate_20 hl (by decide) rfl (fun ls hl => ?_)
        refine lv_iconst (v := 2) hx hb z_L_simulate_22 (by decide) ?_
        exact W.iret (v := 2) hx hb hr (fun t ht hW => ⟨⟨2, (u9, f), rfl, ⟨2, 0, rfl, hpx, fun h9 => absurd h9 (by decide)⟩, by rw [ht]; exact hP, va_K.moved hW.alike hK, hD⟩, hS.F ht⟩) hS.2.2 z_L_simulate_23
      · obtain ⟨rfl, rfl⟩ : E = "java/lang/IllegalStateException" ∧ c9 = 3 := Prod.mk.inj (List.mem_singleton.mp hE)
        refine vx_catch (own := "ServiceDeskLaw") (name := "java/lang/IllegalStateException") (E := "java/lang/IllegalStateException") hown [⟨0, 13, 16, 13⟩, ⟨0, 13, 20, 27⟩] ⟨0, 13, 24, 15⟩ [] (by rw [hTab]; rfl) (List.forall_mem_cons.mpr ⟨Or.inr ⟨by decide, "java/lang/IllegalArgumentException", hts _ (cw_in mw_143 rfl), hNC _ (List.mem_of_getElem? (i := 2) rfl) _ (List.mem_of_getElem? (i := 0) rfl) (by decide)⟩, List.forall_mem_cons.mpr ⟨Or.inr ⟨by decide, "java/lang/IndexOutOfBoundsException", hts _ (cw_in mw_286 rfl), hNC _ (List.mem_of_getElem? (i := 2) rfl) _ (List.mem_of_getElem? (i := 1) rfl) (by decide)⟩, fun z9 h9 => absurd h9 List.not_mem_nil⟩⟩) (by decide) (by decide) (hts _ (cw_in mw_144 rfl)) (va_Nw.use rfl (hX.2.2.1 _ nx_2)) hce hcv hcl ?_
        refine W.eq (g2 := F0 m 24 ls [.ref q9]) rfl ?_
        refine lv_astore (lv' := [(6, .ref q9), (0, .ref (q 0)), (1, .int x), (2, .int y), (3, .int z), (4, .int a), (5, .ref a9)]) hx hb z_L_simulate_24 hl (by decide) rfl (fun ls hl => ?_)
        refine lv_iconst (v := 3) hx hb z_L_simulate_26 (by decide) ?_
        exact W.iret (v := 3) hx hb hr (fun t ht hW => ⟨⟨3, (u9, f), rfl, ⟨3, 0, rfl, hpx, fun h9 => absurd h9 (by decide)⟩, by rw [ht]; exact hP, va_K.moved hW.alike hK, hD⟩, hS.F ht⟩) hS.2.2 z_L_simulate_27
  · refine W.eq (g2 := F0 m 12 ls (.long r9 :: .int (nI 0) :: .ref a9 :: [])) rfl ?_
    refine xs_l hx hb hK hP hD hS 15 3 rfl rfl (k := 0) (by decide) (by decide) z_L_simulate_12 (fun H locs hP hD hS => ?_)
    have hP : va_P (dC, dI) vwCl (wC q cI cZ cB u9 ++ [(a9, .inl (cL9, 1, .inr (.inl (vp_updL f 0 r9))))]) H := hP
    have hD : va_D A (wC q cI cZ cB u9 ++ [(a9, .inl (cL9, 1, .inr (.inl (vp_updL f 0 r9))))]) := hD
    refine lv_goto (tgt := 28) hx hb z_L_simulate_13 (by decide) ?_
    refine lv_iconst (v := 0) hx hb z_L_simulate_28 (by decide) ?_
    exact W.iret (v := 0) hx hb hr (fun t ht hW => ⟨⟨0, (u9, vp_updL f 0 (r9)), rfl, ⟨0, r9, rfl, h9, fun _ => pk_uLs (f := f) (k := 0) (x := r9)⟩, by rw [ht]; exact hP, va_K.moved hW.alike hK, hD⟩, hS.F ht⟩) hS.2.2 z_L_simulate_29

set_option maxHeartbeats 4000000 in
set_option maxRecDepth 100000 in
theorem c_L_text (l : Launch) (dC : Nat → ClassId) (dI : Nat → Nat → Nat) (q : Nat → Nat) (cI cZ cB cL9 : ClassId) (a9 : Nat) (f : Nat → Int64) (v : St) (sz : Nat) (hl0 : l.stackTraces = false) (hi : Inv v) (x : Int32) (y : Int32) (p0 : Int64) (n : Int32) : Met l y_L_text (Cond.codeWith y_L_text b_L_text 8 (some .int) [(0, 14, 17, 13), (0, 14, 21, 27), (0, 14, 25, 15), (0, 14, 29, 21)] :: CW) { frames := 7, cells := 1, slots := 6, locals := 108 } (va_Pc [.ref (q 0), .int x, .int y, .long p0, .int n, .ref a9] (LwC (dC, dI) sz (wC q cI cZ cB v ++ [(a9, .inl (cL9, 1, .inr (.inl f)))]) (tyC cI cZ cB ++ [(cL9, .long)]))) (va_Qi (fun (r : Int32) (u : St × (Nat → Int64)) => ∃ (c9 : Nat) (R9 : Int32), r = nI c9 ∧ spText v x y p0 n c9 R9 u.1 ∧ (c9 = 0 → u.2 0 = R9.toInt64)) (fun u => WrB (dC, dI) (wC q cI cZ cB u.1 ++ [(a9, .inl (cL9, 1, .inr (.inl u.2)))]) (tyC cI cZ cB ++ [(cL9, .long)]) (va_A (wC q cI cZ cB v ++ [(a9, .inl (cL9, 1, .inr (.inl f)))]) sz)) (va_A (wC q cI cZ cB v ++ [(a9, .inl (cL9, 1, .inr (.inl f)))]) sz)) 1 6 (va_A (wC q cI cZ cB v ++ [(a9, .inl (cL9, 1, .inr (.inl f)))]) sz) := by
  refine cxW_met (by decide) (Nat.le_of_ble_eq_true rfl) ?_
  intro p e s m below meth c hx hb hr hml hts hown hlocks hTab hC ls hl
  obtain ⟨⟨⟨hsz, hP, hK, hD0, hN⟩, hX⟩, hNC⟩ := hC
  subst hsz
  have hD := hD0.self (sz := s.heap.size)
  generalize hAe : va_A (wC q cI cZ cB v ++ [(a9, .inl (cL9, 1, .inr (.inl f)))]) s.heap.size = A at hD hX ⊢
  have hA : ∀ q9 : Nat, s.heap.size ≤ q9 → A q9 := fun q9 h => by rw [← hAe]; exact Or.inr h
  have hS : va_S A s.heap s.heap [] := va_S.rf
  have hown : s.vm.findClass "ServiceDeskLaw" = some m.cls := hown
  have hl : lv_has ls 8 [(0, .ref (q 0)), (1, .int x), (2, .int y), (3, .long p0), (5, .int n), (6, .ref a9)] := hl
  have hKc : va_K (dC, dI) vwCl (tyC cI cZ cB) s := va_K.sub hK [0, 1, 2] rfl
  refine lv_aload hx hb z_L_text_0 (lv_at hl 5 rfl) ?_
  refine lv_iconst (v := 0) hx hb z_L_text_2 (by decide) ?_
  refine lv_aload_n hx hb z_L_text_3 rfl (lv_at hl 0 rfl) ?_
  refine lv_iload_n hx hb z_L_text_4 rfl (lv_at hl 1 rfl) ?_
  refine lv_iload_n hx hb z_L_text_5 rfl (lv_at hl 2 rfl) ?_
  refine lv_lload_n hx hb z_L_text_6 rfl (lv_at hl 3 rfl) ?_
  refine lv_iload hx hb z_L_text_7 (lv_at hl 4 rfl) ?_
  refine txVi (As := [.int x, .int y, .long p0, .int n]) (rest := [.int 0, .ref a9]) (wc := wC q cI cZ cB v) (wo := [(a9, .inl (cL9, 1, .inr (.inl f)))]) (wf := fun u : St => wC q cI cZ cB u) (tyc := tyC cI cZ cB) ⟨hx, hb, hml, hown, hts⟩ (c_d_text l dC dI q cI cZ cB v s.heap.size hl0 hi x y p0 n) mw_400 mw_397 mw_398 mw_399 mw_1 rfl yd_d_text ⟨⟨rfl, rfl⟩, Nat.le_of_ble_eq_true rfl, Nat.le_of_ble_eq_true rfl⟩ ⟨Nat.le_of_ble_eq_true rfl, Nat.le_of_ble_eq_true rfl⟩ (tx_pre hP hKc hD hN hS hA hX (ci := 3) (q0 := 0) rfl rfl) hP hD hS hA rfl hl.1 rfl (Nat.le_of_ble_eq_true rfl) z_L_text_9 (fun E z9 ce q9 H locs hE hpx hP hD hS hce hcv hcl => ?_) (fun r9 u9 H locs h9 hP hD hS => ?_)
  · obtain ⟨c9, u9⟩ := z9
    rcases List.mem_cons.mp hE with hE | hE
    · obtain ⟨rfl, rfl⟩ : E = "java/lang/IllegalArgumentException" ∧ c9 = 1 := Prod.mk.inj hE
      refine vx_catch (own := "ServiceDeskLaw") (name := "java/lang/IllegalArgumentException") (E := "java/lang/IllegalArgumentException") hown [] ⟨0, 14, 17, 13⟩ [⟨0, 14, 21, 27⟩, ⟨0, 14, 25, 15⟩, ⟨0, 14, 29, 21⟩] (by rw [hTab]; rfl) (fun z9 h9 => absurd h9 List.not_mem_nil) (by decide) (by decide) (hts _ (cw_in mw_143 rfl)) (va_Nw.use rfl (hX.2.2.1 _ nx_0)) hce hcv hcl ?_
      refine W.eq (g2 := F0 m 17 ls [.ref q9]) rfl ?_
      refine lv_astore (lv' := [(7, .ref q9), (0, .ref (q 0)), (1, .int x), (2, .int y), (3, .long p0), (5, .int n), (6, .ref a9)]) hx hb z_L_text_17 hl (by decide) rfl (fun ls hl => ?_)
      refine lv_iconst (v := 1) hx hb z_L_text_19 (by decide) ?_
      exact W.iret (v := 1) hx hb hr (fun t ht hW => ⟨⟨1, (u9, f), rfl, ⟨1, 0, rfl, hpx, fun h9 => absurd h9 (by decide)⟩, by rw [ht]; exact hP, va_K.moved hW.alike hK, hD⟩, hS.F ht⟩) hS.2.2 z_L_text_20
    · rcases List.mem_cons.mp hE with hE | hE
      · obtain ⟨rfl, rfl⟩ : E = "java/lang/IndexOutOfBoundsException" ∧ c9 = 2 := Prod.mk.inj hE
        refine vx_catch (own := "ServiceDeskLaw") (name := "java/lang/IndexOutOfBoundsException") (E := "java/lang/IndexOutOfBoundsException") hown [⟨0, 14, 17, 13⟩] ⟨0, 14, 21, 27⟩ [⟨0, 14, 25, 15⟩, ⟨0, 14, 29, 21⟩] (by rw [hTab]; rfl) (List.forall_mem_cons.mpr ⟨Or.inr ⟨by decide, "java/lang/IllegalArgumentException", hts _ (cw_in mw_143 rfl), hNC _ (List.mem_of_getElem? (i := 1) rfl) _ (List.mem_of_getElem? (i := 0) rfl) (by decide)⟩, fun z9 h9 => absurd h9 List.not_mem_nil⟩) (by decide) (by decide) (hts _ (cw_in mw_286 rfl)) (va_Nw.use rfl (hX.2.2.1 _ nx_1)) hce hcv hcl ?_
        refine W.eq (g2 := F0 m 21 ls [.ref q9]) rfl ?_
        refine lv_astore (lv' := [(7, .ref q9), (0, .ref (q 0)), (1, .int x), (2, .int y), (3, .long p0), (5, .int n), (6, .ref a9)]) hx hb z_L_text_21 hl (by decide) rfl (fun ls hl => ?_)
        refine lv_iconst (v := 2) hx hb z_L_text_23 (by decide) ?_
        exact W.iret (v := 2) hx hb hr (fun t ht hW => ⟨⟨2, (u9, f), rfl, ⟨2, 0, rfl, hpx, fun h9 => absurd h9 (by decide)⟩, by rw [ht]; exact hP, va_K.moved hW.alike hK, hD⟩, hS.F ht⟩) hS.2.2 z_L_text_24
      · rcases List.mem_cons.mp hE with hE | hE
        · obtain ⟨rfl, rfl⟩ : E = "java/lang/IllegalStateException" ∧ c9 = 3 := Prod.mk.inj hE
          refine vx_catch (own := "ServiceDeskLaw") (name := "java/lang/IllegalStateException") (E := "java/lang/IllegalStateException") hown [⟨0, 14, 17, 13⟩, ⟨0, 14, 21, 27⟩] ⟨0, 14, 25, 15⟩ [⟨0, 14, 29, 21⟩] (by rw [hTab]; rfl) (List.forall_mem_cons.mpr ⟨Or.inr ⟨by decide, "java/lang/IllegalArgumentException", hts _ (cw_in mw_143 rfl), hNC _ (List.mem_of_getElem? (i := 2) rfl) _ (List.mem_of_getElem? (i := 0) rfl) (by decide)⟩, List.forall_mem_cons.mpr ⟨Or.inr ⟨by decide, "java/lang/IndexOutOfBoundsException", hts _ (cw_in mw_286 rfl), hNC _ (List.mem_of_getElem? (i := 2) rfl) _ (List.mem_of_getElem? (i := 1) rfl) (by decide)⟩, fun z9 h9 => absurd h9 List.not_mem_nil⟩⟩) (by decide) (by decide) (hts _ (cw_in mw_144 rfl)) (va_Nw.use rfl (hX.2.2.1 _ nx_2)) hce hcv hcl ?_
          refine W.eq (g2 := F0 m 25 ls [.ref q9]) rfl ?_
          refine lv_astore (lv' := [(7, .ref q9), (0, .ref (q 0)), (1, .int x), (2, .int y), (3, .long p0), (5, .int n), (6, .ref a9)]) hx hb z_L_text_25 hl (by decide) rfl (fun ls hl => ?_)
          refine lv_iconst (v := 3) hx hb z_L_text_27 (by decide) ?_
          exact W.iret (v := 3) hx hb hr (fun t ht hW => ⟨⟨3, (u9, f), rfl, ⟨3, 0, rfl, hpx, fun h9 => absurd h9 (by decide)⟩, by rw [ht]; exact hP, va_K.moved hW.alike hK, hD⟩, hS.F ht⟩) hS.2.2 z_L_text_28
        · obtain ⟨rfl, rfl⟩ : E = "java/lang/UnsupportedOperationException" ∧ c9 = 4 := Prod.mk.inj (List.mem_singleton.mp hE)
          refine vx_catch (own := "ServiceDeskLaw") (name := "java/lang/UnsupportedOperationException") (E := "java/lang/UnsupportedOperationException") hown [⟨0, 14, 17, 13⟩, ⟨0, 14, 21, 27⟩, ⟨0, 14, 25, 15⟩] ⟨0, 14, 29, 21⟩ [] (by rw [hTab]; rfl) (List.forall_mem_cons.mpr ⟨Or.inr ⟨by decide, "java/lang/IllegalArgumentException", hts _ (cw_in mw_143 rfl), hNC _ (List.mem_of_getElem? (i := 3) rfl) _ (List.mem_of_getElem? (i := 0) rfl) (by decide)⟩, List.forall_mem_cons.mpr ⟨Or.inr ⟨by decide, "java/lang/IndexOutOfBoundsException", hts _ (cw_in mw_286 rfl), hNC _ (List.mem_of_getElem? (i := 3) rfl) _ (List.mem_of_getElem? (i := 1) rfl) (by decide)⟩, List.forall_mem_cons.mpr ⟨Or.inr ⟨by decide, "java/lang/IllegalStateException", hts _ (cw_in mw_144 rfl), hNC _ (List.mem_of_getElem? (i := 3) rfl) _ (List.mem_of_getElem? (i := 2) rfl) (by decide)⟩, fun z9 h9 => absurd h9 List.not_mem_nil⟩⟩⟩) (by decide) (by decide) (hts _ (cw_in mw_243 rfl)) (va_Nw.use rfl (hX.2.2.1 _ nx_3)) hce hcv hcl ?_
          refine W.eq (g2 := F0 m 29 ls [.ref q9]) rfl ?_
          refine lv_astore (lv' := [(7, .ref q9), (0, .ref (q 0)), (1, .int x), (2, .int y), (3, .long p0), (5, .int n), (6, .ref a9)]) hx hb z_L_text_29 hl (by decide) rfl (fun ls hl => ?_)
          refine lv_iconst (v := 4) hx hb z_L_text_31 (by decide) ?_
          exact W.iret (v := 4) hx hb hr (fun t ht hW => ⟨⟨4, (u9, f), rfl, ⟨4, 0, rfl, hpx, fun h9 => absurd h9 (by decide)⟩, by rw [ht]; exact hP, va_K.moved hW.alike hK, hD⟩, hS.F ht⟩) hS.2.2 z_L_text_32
  · refine lv_i2l hx hb z_L_text_12 rfl ?_
    refine W.eq (g2 := F0 m 13 ls (.long r9.toInt64 :: .int (nI 0) :: .ref a9 :: [])) rfl ?_
    refine xs_l hx hb hK hP hD hS 15 3 rfl rfl (k := 0) (by decide) (by decide) z_L_text_13 (fun H locs hP hD hS => ?_)
    have hP : va_P (dC, dI) vwCl (wC q cI cZ cB u9 ++ [(a9, .inl (cL9, 1, .inr (.inl (vp_updL f 0 r9.toInt64))))]) H := hP
    have hD : va_D A (wC q cI cZ cB u9 ++ [(a9, .inl (cL9, 1, .inr (.inl (vp_updL f 0 r9.toInt64))))]) := hD
    refine lv_goto (tgt := 33) hx hb z_L_text_14 (by decide) ?_
    refine lv_iconst (v := 0) hx hb z_L_text_33 (by decide) ?_
    exact W.iret (v := 0) hx hb hr (fun t ht hW => ⟨⟨0, (u9, vp_updL f 0 (r9.toInt64)), rfl, ⟨0, r9, rfl, h9, fun _ => pk_uLs (f := f) (k := 0) (x := r9.toInt64)⟩, by rw [ht]; exact hP, va_K.moved hW.alike hK, hD⟩, hS.F ht⟩) hS.2.2 z_L_text_34

set_option maxHeartbeats 4000000 in
set_option maxRecDepth 100000 in
theorem c_L_textAt (l : Launch) (dC : Nat → ClassId) (dI : Nat → Nat → Nat) (q : Nat → Nat) (cI cZ cB cL9 : ClassId) (a9 : Nat) (f : Nat → Int64) (v : St) (sz : Nat) (hl0 : l.stackTraces = false) (hi : Inv v) (x : Int32) (y : Int32) (z : Int32) : Met l y_L_textAt (Cond.codeWith y_L_textAt b_L_textAt 6 (some .int) [(0, 12, 15, 13), (0, 12, 19, 27)] :: CW) { frames := 7, cells := 1, slots := 6, locals := 106 } (va_Pc [.ref (q 0), .int x, .int y, .int z, .ref a9] (LwC (dC, dI) sz (wC q cI cZ cB v ++ [(a9, .inl (cL9, 1, .inr (.inl f)))]) (tyC cI cZ cB ++ [(cL9, .long)]))) (va_Qi (fun (r : Int32) (u : St × (Nat → Int64)) => ∃ (c9 : Nat) (R9 : Int32), r = nI c9 ∧ spTextAt v x y z c9 R9 u.1 ∧ (c9 = 0 → u.2 0 = R9.toInt64)) (fun u => WrB (dC, dI) (wC q cI cZ cB u.1 ++ [(a9, .inl (cL9, 1, .inr (.inl u.2)))]) (tyC cI cZ cB ++ [(cL9, .long)]) (va_A (wC q cI cZ cB v ++ [(a9, .inl (cL9, 1, .inr (.inl f)))]) sz)) (va_A (wC q cI cZ cB v ++ [(a9, .inl (cL9, 1, .inr (.inl f)))]) sz)) 1 6 (va_A (wC q cI cZ cB v ++ [(a9, .inl (cL9, 1, .inr (.inl f)))]) sz) := by
  refine cxW_met (by decide) (Nat.le_of_ble_eq_true rfl) ?_
  intro p e s m below meth c hx hb hr hml hts hown hlocks hTab hC ls hl
  obtain ⟨⟨⟨hsz, hP, hK, hD0, hN⟩, hX⟩, hNC⟩ := hC
  subst hsz
  have hD := hD0.self (sz := s.heap.size)
  generalize hAe : va_A (wC q cI cZ cB v ++ [(a9, .inl (cL9, 1, .inr (.inl f)))]) s.heap.size = A at hD hX ⊢
  have hA : ∀ q9 : Nat, s.heap.size ≤ q9 → A q9 := fun q9 h => by rw [← hAe]; exact Or.inr h
  have hS : va_S A s.heap s.heap [] := va_S.rf
  have hown : s.vm.findClass "ServiceDeskLaw" = some m.cls := hown
  have hl : lv_has ls 6 [(0, .ref (q 0)), (1, .int x), (2, .int y), (3, .int z), (4, .ref a9)] := hl
  have hKc : va_K (dC, dI) vwCl (tyC cI cZ cB) s := va_K.sub hK [0, 1, 2] rfl
  refine lv_aload hx hb z_L_textAt_0 (lv_at hl 4 rfl) ?_
  refine lv_iconst (v := 0) hx hb z_L_textAt_2 (by decide) ?_
  refine lv_aload_n hx hb z_L_textAt_3 rfl (lv_at hl 0 rfl) ?_
  refine lv_iload_n hx hb z_L_textAt_4 rfl (lv_at hl 1 rfl) ?_
  refine lv_iload_n hx hb z_L_textAt_5 rfl (lv_at hl 2 rfl) ?_
  refine lv_iload_n hx hb z_L_textAt_6 rfl (lv_at hl 3 rfl) ?_
  refine txVi (As := [.int x, .int y, .int z]) (rest := [.int 0, .ref a9]) (wc := wC q cI cZ cB v) (wo := [(a9, .inl (cL9, 1, .inr (.inl f)))]) (wf := fun u : St => wC q cI cZ cB u) (tyc := tyC cI cZ cB) ⟨hx, hb, hml, hown, hts⟩ (c_d_textAt l dC dI q cI cZ cB v s.heap.size hl0 hi x y z) mw_417 mw_414 mw_415 mw_416 mw_1 rfl yd_d_textAt ⟨⟨rfl, rfl⟩, Nat.le_of_ble_eq_true rfl, Nat.le_of_ble_eq_true rfl⟩ ⟨Nat.le_of_ble_eq_true rfl, Nat.le_of_ble_eq_true rfl⟩ (tx_pre hP hKc hD hN hS hA hX (ci := 3) (q0 := 0) rfl rfl) hP hD hS hA rfl hl.1 rfl (Nat.le_of_ble_eq_true rfl) z_L_textAt_7 (fun E z9 ce q9 H locs hE hpx hP hD hS hce hcv hcl => ?_) (fun r9 u9 H locs h9 hP hD hS => ?_)
  · obtain ⟨c9, u9⟩ := z9
    rcases List.mem_cons.mp hE with hE | hE
    · obtain ⟨rfl, rfl⟩ : E = "java/lang/IllegalArgumentException" ∧ c9 = 1 := Prod.mk.inj hE
      refine vx_catch (own := "ServiceDeskLaw") (name := "java/lang/IllegalArgumentException") (E := "java/lang/IllegalArgumentException") hown [] ⟨0, 12, 15, 13⟩ [⟨0, 12, 19, 27⟩] (by rw [hTab]; rfl) (fun z9 h9 => absurd h9 List.not_mem_nil) (by decide) (by decide) (hts _ (cw_in mw_143 rfl)) (va_Nw.use rfl (hX.2.2.1 _ nx_0)) hce hcv hcl ?_
      refine W.eq (g2 := F0 m 15 ls [.ref q9]) rfl ?_
      refine lv_astore (lv' := [(5, .ref q9), (0, .ref (q 0)), (1, .int x), (2, .int y), (3, .int z), (4, .ref a9)]) hx hb z_L_textAt_15 hl (by decide) rfl (fun ls hl => ?_)
      refine lv_iconst (v := 1) hx hb z_L_textAt_17 (by decide) ?_
      exact W.iret (v := 1) hx hb hr (fun t ht hW => ⟨⟨1, (u9, f), rfl, ⟨1, 0, rfl, hpx, fun h9 => absurd h9 (by decide)⟩, by rw [ht]; exact hP, va_K.moved hW.alike hK, hD⟩, hS.F ht⟩) hS.2.2 z_L_textAt_18
    · obtain ⟨rfl, rfl⟩ : E = "java/lang/IndexOutOfBoundsException" ∧ c9 = 2 := Prod.mk.inj (List.mem_singleton.mp hE)
      refine vx_catch (own := "ServiceDeskLaw") (name := "java/lang/IndexOutOfBoundsException") (E := "java/lang/IndexOutOfBoundsException") hown [⟨0, 12, 15, 13⟩] ⟨0, 12, 19, 27⟩ [] (by rw [hTab]; rfl) (List.forall_mem_cons.mpr ⟨Or.inr ⟨by decide, "java/lang/IllegalArgumentException", hts _ (cw_in mw_143 rfl), hNC _ (List.mem_of_getElem? (i := 1) rfl) _ (List.mem_of_getElem? (i := 0) rfl) (by decide)⟩, fun z9 h9 => absurd h9 List.not_mem_nil⟩) (by decide) (by decide) (hts _ (cw_in mw_286 rfl)) (va_Nw.use rfl (hX.2.2.1 _ nx_1)) hce hcv hcl ?_
      refine W.eq (g2 := F0 m 19 ls [.ref q9]) rfl ?_
      refine lv_astore (lv' := [(5, .ref q9), (0, .ref (q 0)), (1, .int x), (2, .int y), (3, .int z), (4, .ref a9)]) hx hb z_L_textAt_19 hl (by decide) rfl (fun ls hl => ?_)
      refine lv_iconst (v := 2) hx hb z_L_textAt_21 (by decide) ?_
      exact W.iret (v := 2) hx hb hr (fun t ht hW => ⟨⟨2, (u9, f), rfl, ⟨2, 0, rfl, hpx, fun h9 => absurd h9 (by decide)⟩, by rw [ht]; exact hP, va_K.moved hW.alike hK, hD⟩, hS.F ht⟩) hS.2.2 z_L_textAt_22
  · refine lv_i2l hx hb z_L_textAt_10 rfl ?_
    refine W.eq (g2 := F0 m 11 ls (.long r9.toInt64 :: .int (nI 0) :: .ref a9 :: [])) rfl ?_
    refine xs_l hx hb hK hP hD hS 15 3 rfl rfl (k := 0) (by decide) (by decide) z_L_textAt_11 (fun H locs hP hD hS => ?_)
    have hP : va_P (dC, dI) vwCl (wC q cI cZ cB u9 ++ [(a9, .inl (cL9, 1, .inr (.inl (vp_updL f 0 r9.toInt64))))]) H := hP
    have hD : va_D A (wC q cI cZ cB u9 ++ [(a9, .inl (cL9, 1, .inr (.inl (vp_updL f 0 r9.toInt64))))]) := hD
    refine lv_goto (tgt := 23) hx hb z_L_textAt_12 (by decide) ?_
    refine lv_iconst (v := 0) hx hb z_L_textAt_23 (by decide) ?_
    exact W.iret (v := 0) hx hb hr (fun t ht hW => ⟨⟨0, (u9, vp_updL f 0 (r9.toInt64)), rfl, ⟨0, r9, rfl, h9, fun _ => pk_uLs (f := f) (k := 0) (x := r9.toInt64)⟩, by rw [ht]; exact hP, va_K.moved hW.alike hK, hD⟩, hS.F ht⟩) hS.2.2 z_L_textAt_24

set_option maxHeartbeats 4000000 in
set_option maxRecDepth 100000 in
theorem c_L_find (l : Launch) (dC : Nat → ClassId) (dI : Nat → Nat → Nat) (q : Nat → Nat) (cI cZ cB cL9 : ClassId) (a9 : Nat) (f : Nat → Int64) (v : St) (sz : Nat) (hl0 : l.stackTraces = false) (hi : Inv v) (x : Int32) (p0 : Int64) (n : Int32) : Met l y_L_find (Cond.codeWith y_L_find b_L_find 7 (some .int) [(0, 13, 16, 13), (0, 13, 20, 27)] :: CW) { frames := 7, cells := 1, slots := 6, locals := 108 } (va_Pc [.ref (q 0), .int x, .long p0, .int n, .ref a9] (LwC (dC, dI) sz (wC q cI cZ cB v ++ [(a9, .inl (cL9, 1, .inr (.inl f)))]) (tyC cI cZ cB ++ [(cL9, .long)]))) (va_Qi (fun (r : Int32) (u : St × (Nat → Int64)) => ∃ (c9 : Nat) (R9 : Int32), r = nI c9 ∧ spFind v x p0 n c9 R9 u.1 ∧ (c9 = 0 → u.2 0 = R9.toInt64)) (fun u => WrB (dC, dI) (wC q cI cZ cB u.1 ++ [(a9, .inl (cL9, 1, .inr (.inl u.2)))]) (tyC cI cZ cB ++ [(cL9, .long)]) (va_A (wC q cI cZ cB v ++ [(a9, .inl (cL9, 1, .inr (.inl f)))]) sz)) (va_A (wC q cI cZ cB v ++ [(a9, .inl (cL9, 1, .inr (.inl f)))]) sz)) 1 6 (va_A (wC q cI cZ cB v ++ [(a9, .inl (cL9, 1, .inr (.inl f)))]) sz) := by
  refine cxW_met (by decide) (Nat.le_of_ble_eq_true rfl) ?_
  intro p e s m below meth c hx hb hr hml hts hown hlocks hTab hC ls hl
  obtain ⟨⟨⟨hsz, hP, hK, hD0, hN⟩, hX⟩, hNC⟩ := hC
  subst hsz
  have hD := hD0.self (sz := s.heap.size)
  generalize hAe : va_A (wC q cI cZ cB v ++ [(a9, .inl (cL9, 1, .inr (.inl f)))]) s.heap.size = A at hD hX ⊢
  have hA : ∀ q9 : Nat, s.heap.size ≤ q9 → A q9 := fun q9 h => by rw [← hAe]; exact Or.inr h
  have hS : va_S A s.heap s.heap [] := va_S.rf
  have hown : s.vm.findClass "ServiceDeskLaw" = some m.cls := hown
  have hl : lv_has ls 7 [(0, .ref (q 0)), (1, .int x), (2, .long p0), (4, .int n), (5, .ref a9)] := hl
  have hKc : va_K (dC, dI) vwCl (tyC cI cZ cB) s := va_K.sub hK [0, 1, 2] rfl
  refine lv_aload hx hb z_L_find_0 (lv_at hl 4 rfl) ?_
  refine lv_iconst (v := 0) hx hb z_L_find_2 (by decide) ?_
  refine lv_aload_n hx hb z_L_find_3 rfl (lv_at hl 0 rfl) ?_
  refine lv_iload_n hx hb z_L_find_4 rfl (lv_at hl 1 rfl) ?_
  refine lv_lload_n hx hb z_L_find_5 rfl (lv_at hl 2 rfl) ?_
  refine lv_iload hx hb z_L_find_6 (lv_at hl 3 rfl) ?_
  refine txVi (As := [.int x, .long p0, .int n]) (rest := [.int 0, .ref a9]) (wc := wC q cI cZ cB v) (wo := [(a9, .inl (cL9, 1, .inr (.inl f)))]) (wf := fun u : St => wC q cI cZ cB u) (tyc := tyC cI cZ cB) ⟨hx, hb, hml, hown, hts⟩ (c_d_find l dC dI q cI cZ cB v s.heap.size hl0 hi x p0 n) mw_426 mw_423 mw_424 mw_425 mw_1 rfl yd_d_find ⟨⟨rfl, rfl⟩, Nat.le_of_ble_eq_true rfl, Nat.le_of_ble_eq_true rfl⟩ ⟨Nat.le_of_ble_eq_true rfl, Nat.le_of_ble_eq_true rfl⟩ (tx_pre hP hKc hD hN hS hA hX (ci := 3) (q0 := 0) rfl rfl) hP hD hS hA rfl hl.1 rfl (Nat.le_of_ble_eq_true rfl) z_L_find_8 (fun E z9 ce q9 H locs hE hpx hP hD hS hce hcv hcl => ?_) (fun r9 u9 H locs h9 hP hD hS => ?_)
  · obtain ⟨c9, u9⟩ := z9
    rcases List.mem_cons.mp hE with hE | hE
    · obtain ⟨rfl, rfl⟩ : E = "java/lang/IllegalArgumentException" ∧ c9 = 1 := Prod.mk.inj hE
      refine vx_catch (own := "ServiceDeskLaw") (name := "java/lang/IllegalArgumentException") (E := "java/lang/IllegalArgumentException") hown [] ⟨0, 13, 16, 13⟩ [⟨0, 13, 20, 27⟩] (by rw [hTab]; rfl) (fun z9 h9 => absurd h9 List.not_mem_nil) (by decide) (by decide) (hts _ (cw_in mw_143 rfl)) (va_Nw.use rfl (hX.2.2.1 _ nx_0)) hce hcv hcl ?_
      refine W.eq (g2 := F0 m 16 ls [.ref q9]) rfl ?_
      refine lv_astore (lv' := [(6, .ref q9), (0, .ref (q 0)), (1, .int x), (2, .long p0), (4, .int n), (5, .ref a9)]) hx hb z_L_find_16 hl (by decide) rfl (fun ls hl => ?_)
      refine lv_iconst (v := 1) hx hb z_L_find_18 (by decide) ?_
      exact W.iret (v := 1) hx hb hr (fun t ht hW => ⟨⟨1, (u9, f), rfl, ⟨1, 0, rfl, hpx, fun h9 => absurd h9 (by decide)⟩, by rw [ht]; exact hP, va_K.moved hW.alike hK, hD⟩, hS.F ht⟩) hS.2.2 z_L_find_19
    · obtain ⟨rfl, rfl⟩ : E = "java/lang/IndexOutOfBoundsException" ∧ c9 = 2 := Prod.mk.inj (List.mem_singleton.mp hE)
      refine vx_catch (own := "ServiceDeskLaw") (name := "java/lang/IndexOutOfBoundsException") (E := "java/lang/IndexOutOfBoundsException") hown [⟨0, 13, 16, 13⟩] ⟨0, 13, 20, 27⟩ [] (by rw [hTab]; rfl) (List.forall_mem_cons.mpr ⟨Or.inr ⟨by decide, "java/lang/IllegalArgumentException", hts _ (cw_in mw_143 rfl), hNC _ (List.mem_of_getElem? (i := 1) rfl) _ (List.mem_of_getElem? (i := 0) rfl) (by decide)⟩, fun z9 h9 => absurd h9 List.not_mem_nil⟩) (by decide) (by decide) (hts _ (cw_in mw_286 rfl)) (va_Nw.use rfl (hX.2.2.1 _ nx_1)) hce hcv hcl ?_
      refine W.eq (g2 := F0 m 20 ls [.ref q9]) rfl ?_
      refine lv_astore (lv' := [(6, .ref q9), (0, .ref (q 0)), (1, .int x), (2, .long p0), (4, .int n), (5, .ref a9)]) hx hb z_L_find_20 hl (by decide) rfl (fun ls hl => ?_)
      refine lv_iconst (v := 2) hx hb z_L_find_22 (by decide) ?_
      exact W.iret (v := 2) hx hb hr (fun t ht hW => ⟨⟨2, (u9, f), rfl, ⟨2, 0, rfl, hpx, fun h9 => absurd h9 (by decide)⟩, by rw [ht]; exact hP, va_K.moved hW.alike hK, hD⟩, hS.F ht⟩) hS.2.2 z_L_find_23
  · refine lv_i2l hx hb z_L_find_11 rfl ?_
    refine W.eq (g2 := F0 m 12 ls (.long r9.toInt64 :: .int (nI 0) :: .ref a9 :: [])) rfl ?_
    refine xs_l hx hb hK hP hD hS 15 3 rfl rfl (k := 0) (by decide) (by decide) z_L_find_12 (fun H locs hP hD hS => ?_)
    have hP : va_P (dC, dI) vwCl (wC q cI cZ cB u9 ++ [(a9, .inl (cL9, 1, .inr (.inl (vp_updL f 0 r9.toInt64))))]) H := hP
    have hD : va_D A (wC q cI cZ cB u9 ++ [(a9, .inl (cL9, 1, .inr (.inl (vp_updL f 0 r9.toInt64))))]) := hD
    refine lv_goto (tgt := 24) hx hb z_L_find_13 (by decide) ?_
    refine lv_iconst (v := 0) hx hb z_L_find_24 (by decide) ?_
    exact W.iret (v := 0) hx hb hr (fun t ht hW => ⟨⟨0, (u9, vp_updL f 0 (r9.toInt64)), rfl, ⟨0, r9, rfl, h9, fun _ => pk_uLs (f := f) (k := 0) (x := r9.toInt64)⟩, by rw [ht]; exact hP, va_K.moved hW.alike hK, hD⟩, hS.F ht⟩) hS.2.2 z_L_find_25

set_option maxHeartbeats 4000000 in
set_option maxRecDepth 100000 in
theorem c_L_subject (l : Launch) (dC : Nat → ClassId) (dI : Nat → Nat → Nat) (q : Nat → Nat) (cI cZ cB cL9 : ClassId) (a9 : Nat) (f : Nat → Int64) (v : St) (sz : Nat) (hl0 : l.stackTraces = false) (hi : Inv v) (x : Int32) (y : Int32) (z : Int32) : Met l y_L_subject (Cond.codeWith y_L_subject b_L_subject 6 (some .int) [(0, 12, 15, 13)] :: CW) { frames := 7, cells := 1, slots := 6, locals := 106 } (va_Pc [.ref (q 0), .int x, .int y, .int z, .ref a9] (LwC (dC, dI) sz (wC q cI cZ cB v ++ [(a9, .inl (cL9, 1, .inr (.inl f)))]) (tyC cI cZ cB ++ [(cL9, .long)]))) (va_Qi (fun (r : Int32) (u : St × (Nat → Int64)) => ∃ (c9 : Nat) (R9 : Int32), r = nI c9 ∧ spSubj v x y z c9 R9 u.1 ∧ (c9 = 0 → u.2 0 = R9.toInt64)) (fun u => WrB (dC, dI) (wC q cI cZ cB u.1 ++ [(a9, .inl (cL9, 1, .inr (.inl u.2)))]) (tyC cI cZ cB ++ [(cL9, .long)]) (va_A (wC q cI cZ cB v ++ [(a9, .inl (cL9, 1, .inr (.inl f)))]) sz)) (va_A (wC q cI cZ cB v ++ [(a9, .inl (cL9, 1, .inr (.inl f)))]) sz)) 1 6 (va_A (wC q cI cZ cB v ++ [(a9, .inl (cL9, 1, .inr (.inl f)))]) sz) := by
  refine cxW_met (by decide) (Nat.le_of_ble_eq_true rfl) ?_
  intro p e s m below meth c hx hb hr hml hts hown hlocks hTab hC ls hl
  obtain ⟨⟨⟨hsz, hP, hK, hD0, hN⟩, hX⟩, hNC⟩ := hC
  subst hsz
  have hD := hD0.self (sz := s.heap.size)
  generalize hAe : va_A (wC q cI cZ cB v ++ [(a9, .inl (cL9, 1, .inr (.inl f)))]) s.heap.size = A at hD hX ⊢
  have hA : ∀ q9 : Nat, s.heap.size ≤ q9 → A q9 := fun q9 h => by rw [← hAe]; exact Or.inr h
  have hS : va_S A s.heap s.heap [] := va_S.rf
  have hown : s.vm.findClass "ServiceDeskLaw" = some m.cls := hown
  have hl : lv_has ls 6 [(0, .ref (q 0)), (1, .int x), (2, .int y), (3, .int z), (4, .ref a9)] := hl
  have hKc : va_K (dC, dI) vwCl (tyC cI cZ cB) s := va_K.sub hK [0, 1, 2] rfl
  refine lv_aload hx hb z_L_subject_0 (lv_at hl 4 rfl) ?_
  refine lv_iconst (v := 0) hx hb z_L_subject_2 (by decide) ?_
  refine lv_aload_n hx hb z_L_subject_3 rfl (lv_at hl 0 rfl) ?_
  refine lv_iload_n hx hb z_L_subject_4 rfl (lv_at hl 1 rfl) ?_
  refine lv_iload_n hx hb z_L_subject_5 rfl (lv_at hl 2 rfl) ?_
  refine lv_iload_n hx hb z_L_subject_6 rfl (lv_at hl 3 rfl) ?_
  refine txVi (As := [.int x, .int y, .int z]) (rest := [.int 0, .ref a9]) (wc := wC q cI cZ cB v) (wo := [(a9, .inl (cL9, 1, .inr (.inl f)))]) (wf := fun u : St => wC q cI cZ cB u) (tyc := tyC cI cZ cB) ⟨hx, hb, hml, hown, hts⟩ (c_d_subject l dC dI q cI cZ cB v s.heap.size hl0 hi x y z) mw_437 mw_434 mw_435 mw_436 mw_1 rfl yd_d_subject ⟨⟨rfl, rfl⟩, Nat.le_of_ble_eq_true rfl, Nat.le_of_ble_eq_true rfl⟩ ⟨Nat.le_of_ble_eq_true rfl, Nat.le_of_ble_eq_true rfl⟩ (tx_pre hP hKc hD hN hS hA hX (ci := 3) (q0 := 0) rfl rfl) hP hD hS hA rfl hl.1 rfl (Nat.le_of_ble_eq_true rfl) z_L_subject_7 (fun E z9 ce q9 H locs hE hpx hP hD hS hce hcv hcl => ?_) (fun r9 u9 H locs h9 hP hD hS => ?_)
  · obtain ⟨c9, u9⟩ := z9
    obtain ⟨rfl, rfl⟩ : E = "java/lang/IllegalArgumentException" ∧ c9 = 1 := Prod.mk.inj (List.mem_singleton.mp hE)
    refine vx_catch (own := "ServiceDeskLaw") (name := "java/lang/IllegalArgumentException") (E := "java/lang/IllegalArgumentException") hown [] ⟨0, 12, 15, 13⟩ [] (by rw [hTab]; rfl) (fun z9 h9 => absurd h9 List.not_mem_nil) (by decide) (by decide) (hts _ (cw_in mw_143 rfl)) (va_Nw.use rfl (hX.2.2.1 _ nx_0)) hce hcv hcl ?_
    refine W.eq (g2 := F0 m 15 ls [.ref q9]) rfl ?_
    refine lv_astore (lv' := [(5, .ref q9), (0, .ref (q 0)), (1, .int x), (2, .int y), (3, .int z), (4, .ref a9)]) hx hb z_L_subject_15 hl (by decide) rfl (fun ls hl => ?_)
    refine lv_iconst (v := 1) hx hb z_L_subject_17 (by decide) ?_
    exact W.iret (v := 1) hx hb hr (fun t ht hW => ⟨⟨1, (u9, f), rfl, ⟨1, 0, rfl, hpx, fun h9 => absurd h9 (by decide)⟩, by rw [ht]; exact hP, va_K.moved hW.alike hK, hD⟩, hS.F ht⟩) hS.2.2 z_L_subject_18
  · refine lv_i2l hx hb z_L_subject_10 rfl ?_
    refine W.eq (g2 := F0 m 11 ls (.long r9.toInt64 :: .int (nI 0) :: .ref a9 :: [])) rfl ?_
    refine xs_l hx hb hK hP hD hS 15 3 rfl rfl (k := 0) (by decide) (by decide) z_L_subject_11 (fun H locs hP hD hS => ?_)
    have hP : va_P (dC, dI) vwCl (wC q cI cZ cB u9 ++ [(a9, .inl (cL9, 1, .inr (.inl (vp_updL f 0 r9.toInt64))))]) H := hP
    have hD : va_D A (wC q cI cZ cB u9 ++ [(a9, .inl (cL9, 1, .inr (.inl (vp_updL f 0 r9.toInt64))))]) := hD
    refine lv_goto (tgt := 19) hx hb z_L_subject_12 (by decide) ?_
    refine lv_iconst (v := 0) hx hb z_L_subject_19 (by decide) ?_
    exact W.iret (v := 0) hx hb hr (fun t ht hW => ⟨⟨0, (u9, vp_updL f 0 (r9.toInt64)), rfl, ⟨0, r9, rfl, h9, fun _ => pk_uLs (f := f) (k := 0) (x := r9.toInt64)⟩, by rw [ht]; exact hP, va_K.moved hW.alike hK, hD⟩, hS.F ht⟩) hS.2.2 z_L_subject_20

set_option maxHeartbeats 4000000 in
set_option maxRecDepth 100000 in
theorem c_L_row (l : Launch) (dC : Nat → ClassId) (dI : Nat → Nat → Nat) (q : Nat → Nat) (cI cZ cB cL9 : ClassId) (a9 : Nat) (f : Nat → Int64) (v : St) (sz : Nat) (hl0 : l.stackTraces = false) (hi : Inv v) (x : Int32) (y : Int32) : Met l y_L_row (Cond.codeWith y_L_row b_L_row 5 (some .int) [(0, 10, 13, 13)] :: CW) { frames := 7, cells := 1, slots := 6, locals := 104 } (va_Pc [.ref (q 0), .int x, .int y, .ref a9] (LwC (dC, dI) sz (wC q cI cZ cB v ++ [(a9, .inl (cL9, 1, .inr (.inl f)))]) (tyC cI cZ cB ++ [(cL9, .long)]))) (va_Qi (fun (r : Int32) (u : St × (Nat → Int64)) => ∃ (c9 : Nat) (R9 : Int32), r = nI c9 ∧ spRow v x y c9 R9 u.1 ∧ (c9 = 0 → u.2 0 = R9.toInt64)) (fun u => WrB (dC, dI) (wC q cI cZ cB u.1 ++ [(a9, .inl (cL9, 1, .inr (.inl u.2)))]) (tyC cI cZ cB ++ [(cL9, .long)]) (va_A (wC q cI cZ cB v ++ [(a9, .inl (cL9, 1, .inr (.inl f)))]) sz)) (va_A (wC q cI cZ cB v ++ [(a9, .inl (cL9, 1, .inr (.inl f)))]) sz)) 1 6 (va_A (wC q cI cZ cB v ++ [(a9, .inl (cL9, 1, .inr (.inl f)))]) sz) := by
  refine cxW_met (by decide) (Nat.le_of_ble_eq_true rfl) ?_
  intro p e s m below meth c hx hb hr hml hts hown hlocks hTab hC ls hl
  obtain ⟨⟨⟨hsz, hP, hK, hD0, hN⟩, hX⟩, hNC⟩ := hC
  subst hsz
  have hD := hD0.self (sz := s.heap.size)
  generalize hAe : va_A (wC q cI cZ cB v ++ [(a9, .inl (cL9, 1, .inr (.inl f)))]) s.heap.size = A at hD hX ⊢
  have hA : ∀ q9 : Nat, s.heap.size ≤ q9 → A q9 := fun q9 h => by rw [← hAe]; exact Or.inr h
  have hS : va_S A s.heap s.heap [] := va_S.rf
  have hown : s.vm.findClass "ServiceDeskLaw" = some m.cls := hown
  have hl : lv_has ls 5 [(0, .ref (q 0)), (1, .int x), (2, .int y), (3, .ref a9)] := hl
  have hKc : va_K (dC, dI) vwCl (tyC cI cZ cB) s := va_K.sub hK [0, 1, 2] rfl
  refine lv_aload_n hx hb z_L_row_0 rfl (lv_at hl 3 rfl) ?_
  refine lv_iconst (v := 0) hx hb z_L_row_1 (by decide) ?_
  refine lv_aload_n hx hb z_L_row_2 rfl (lv_at hl 0 rfl) ?_
  refine lv_iload_n hx hb z_L_row_3 rfl (lv_at hl 1 rfl) ?_
  refine lv_iload_n hx hb z_L_row_4 rfl (lv_at hl 2 rfl) ?_
  refine txVi (As := [.int x, .int y]) (rest := [.int 0, .ref a9]) (wc := wC q cI cZ cB v) (wo := [(a9, .inl (cL9, 1, .inr (.inl f)))]) (wf := fun u : St => wC q cI cZ cB u) (tyc := tyC cI cZ cB) ⟨hx, hb, hml, hown, hts⟩ (c_d_row l dC dI q cI cZ cB v s.heap.size hl0 hi x y) mw_445 mw_442 mw_443 mw_444 mw_1 rfl yd_d_row ⟨⟨rfl, rfl⟩, Nat.le_of_ble_eq_true rfl, Nat.le_of_ble_eq_true rfl⟩ ⟨Nat.le_of_ble_eq_true rfl, Nat.le_of_ble_eq_true rfl⟩ (tx_pre hP hKc hD hN hS hA hX (ci := 3) (q0 := 0) rfl rfl) hP hD hS hA rfl hl.1 rfl (Nat.le_of_ble_eq_true rfl) z_L_row_5 (fun E z9 ce q9 H locs hE hpx hP hD hS hce hcv hcl => ?_) (fun r9 u9 H locs h9 hP hD hS => ?_)
  · obtain ⟨c9, u9⟩ := z9
    obtain ⟨rfl, rfl⟩ : E = "java/lang/IllegalArgumentException" ∧ c9 = 1 := Prod.mk.inj (List.mem_singleton.mp hE)
    refine vx_catch (own := "ServiceDeskLaw") (name := "java/lang/IllegalArgumentException") (E := "java/lang/IllegalArgumentException") hown [] ⟨0, 10, 13, 13⟩ [] (by rw [hTab]; rfl) (fun z9 h9 => absurd h9 List.not_mem_nil) (by decide) (by decide) (hts _ (cw_in mw_143 rfl)) (va_Nw.use rfl (hX.2.2.1 _ nx_0)) hce hcv hcl ?_
    refine W.eq (g2 := F0 m 13 ls [.ref q9]) rfl ?_
    refine lv_astore (lv' := [(4, .ref q9), (0, .ref (q 0)), (1, .int x), (2, .int y), (3, .ref a9)]) hx hb z_L_row_13 hl (by decide) rfl (fun ls hl => ?_)
    refine lv_iconst (v := 1) hx hb z_L_row_15 (by decide) ?_
    exact W.iret (v := 1) hx hb hr (fun t ht hW => ⟨⟨1, (u9, f), rfl, ⟨1, 0, rfl, hpx, fun h9 => absurd h9 (by decide)⟩, by rw [ht]; exact hP, va_K.moved hW.alike hK, hD⟩, hS.F ht⟩) hS.2.2 z_L_row_16
  · refine lv_i2l hx hb z_L_row_8 rfl ?_
    refine W.eq (g2 := F0 m 9 ls (.long r9.toInt64 :: .int (nI 0) :: .ref a9 :: [])) rfl ?_
    refine xs_l hx hb hK hP hD hS 15 3 rfl rfl (k := 0) (by decide) (by decide) z_L_row_9 (fun H locs hP hD hS => ?_)
    have hP : va_P (dC, dI) vwCl (wC q cI cZ cB u9 ++ [(a9, .inl (cL9, 1, .inr (.inl (vp_updL f 0 r9.toInt64))))]) H := hP
    have hD : va_D A (wC q cI cZ cB u9 ++ [(a9, .inl (cL9, 1, .inr (.inl (vp_updL f 0 r9.toInt64))))]) := hD
    refine lv_goto (tgt := 17) hx hb z_L_row_10 (by decide) ?_
    refine lv_iconst (v := 0) hx hb z_L_row_17 (by decide) ?_
    exact W.iret (v := 0) hx hb hr (fun t ht hW => ⟨⟨0, (u9, vp_updL f 0 (r9.toInt64)), rfl, ⟨0, r9, rfl, h9, fun _ => pk_uLs (f := f) (k := 0) (x := r9.toInt64)⟩, by rw [ht]; exact hP, va_K.moved hW.alike hK, hD⟩, hS.F ht⟩) hS.2.2 z_L_row_18

set_option maxHeartbeats 4000000 in
set_option maxRecDepth 100000 in
theorem c_L_tick (l : Launch) (dC : Nat → ClassId) (dI : Nat → Nat → Nat) (q : Nat → Nat) (cI cZ cB cL9 : ClassId) (a9 : Nat) (f : Nat → Int64) (v : St) (sz : Nat) (hl0 : l.stackTraces = false) (hi : Inv v) (x : Int32) : Met l y_L_tick (Cond.codeWith y_L_tick b_L_tick 4 (some .int) [(0, 9, 12, 27)] :: CW) { frames := 7, cells := 1, slots := 6, locals := 103 } (va_Pc [.ref (q 0), .int x, .ref a9] (LwC (dC, dI) sz (wC q cI cZ cB v ++ [(a9, .inl (cL9, 1, .inr (.inl f)))]) (tyC cI cZ cB ++ [(cL9, .long)]))) (va_Qi (fun (r : Int32) (u : St × (Nat → Int64)) => ∃ (c9 : Nat) (R9 : Int32), r = nI c9 ∧ spTick v x c9 R9 u.1 ∧ (c9 = 0 → u.2 0 = R9.toInt64)) (fun u => WrB (dC, dI) (wC q cI cZ cB u.1 ++ [(a9, .inl (cL9, 1, .inr (.inl u.2)))]) (tyC cI cZ cB ++ [(cL9, .long)]) (va_A (wC q cI cZ cB v ++ [(a9, .inl (cL9, 1, .inr (.inl f)))]) sz)) (va_A (wC q cI cZ cB v ++ [(a9, .inl (cL9, 1, .inr (.inl f)))]) sz)) 1 6 (va_A (wC q cI cZ cB v ++ [(a9, .inl (cL9, 1, .inr (.inl f)))]) sz) := by
  refine cxW_met (by decide) (Nat.le_of_ble_eq_true rfl) ?_
  intro p e s m below meth c hx hb hr hml hts hown hlocks hTab hC ls hl
  obtain ⟨⟨⟨hsz, hP, hK, hD0, hN⟩, hX⟩, hNC⟩ := hC
  subst hsz
  have hD := hD0.self (sz := s.heap.size)
  generalize hAe : va_A (wC q cI cZ cB v ++ [(a9, .inl (cL9, 1, .inr (.inl f)))]) s.heap.size = A at hD hX ⊢
  have hA : ∀ q9 : Nat, s.heap.size ≤ q9 → A q9 := fun q9 h => by rw [← hAe]; exact Or.inr h
  have hS : va_S A s.heap s.heap [] := va_S.rf
  have hown : s.vm.findClass "ServiceDeskLaw" = some m.cls := hown
  have hl : lv_has ls 4 [(0, .ref (q 0)), (1, .int x), (2, .ref a9)] := hl
  have hKc : va_K (dC, dI) vwCl (tyC cI cZ cB) s := va_K.sub hK [0, 1, 2] rfl
  refine lv_aload_n hx hb z_L_tick_0 rfl (lv_at hl 2 rfl) ?_
  refine lv_iconst (v := 0) hx hb z_L_tick_1 (by decide) ?_
  refine lv_aload_n hx hb z_L_tick_2 rfl (lv_at hl 0 rfl) ?_
  refine lv_iload_n hx hb z_L_tick_3 rfl (lv_at hl 1 rfl) ?_
  refine txVi (As := [.int x]) (rest := [.int 0, .ref a9]) (wc := wC q cI cZ cB v) (wo := [(a9, .inl (cL9, 1, .inr (.inl f)))]) (wf := fun u : St => wC q cI cZ cB u) (tyc := tyC cI cZ cB) ⟨hx, hb, hml, hown, hts⟩ (c_d_tick l dC dI q cI cZ cB v s.heap.size hl0 hi x) mw_453 mw_450 mw_451 mw_452 mw_1 rfl yd_d_tick ⟨⟨rfl, rfl⟩, Nat.le_of_ble_eq_true rfl, Nat.le_of_ble_eq_true rfl⟩ ⟨Nat.le_of_ble_eq_true rfl, Nat.le_of_ble_eq_true rfl⟩ (tx_pre hP hKc hD hN hS hA hX (ci := 3) (q0 := 0) rfl rfl) hP hD hS hA rfl hl.1 rfl (Nat.le_of_ble_eq_true rfl) z_L_tick_4 (fun E z9 ce q9 H locs hE hpx hP hD hS hce hcv hcl => ?_) (fun r9 u9 H locs h9 hP hD hS => ?_)
  · obtain ⟨c9, u9⟩ := z9
    obtain ⟨rfl, rfl⟩ : E = "java/lang/IndexOutOfBoundsException" ∧ c9 = 1 := Prod.mk.inj (List.mem_singleton.mp hE)
    refine vx_catch (own := "ServiceDeskLaw") (name := "java/lang/IndexOutOfBoundsException") (E := "java/lang/IndexOutOfBoundsException") hown [] ⟨0, 9, 12, 27⟩ [] (by rw [hTab]; rfl) (fun z9 h9 => absurd h9 List.not_mem_nil) (by decide) (by decide) (hts _ (cw_in mw_286 rfl)) (va_Nw.use rfl (hX.2.2.1 _ nx_1)) hce hcv hcl ?_
    refine W.eq (g2 := F0 m 12 ls [.ref q9]) rfl ?_
    refine lv_astore_n (lv' := [(3, .ref q9), (0, .ref (q 0)), (1, .int x), (2, .ref a9)]) hx hb z_L_tick_12 rfl hl (by decide) rfl (fun ls hl => ?_)
    refine lv_iconst (v := 1) hx hb z_L_tick_13 (by decide) ?_
    exact W.iret (v := 1) hx hb hr (fun t ht hW => ⟨⟨1, (u9, f), rfl, ⟨1, 0, rfl, hpx, fun h9 => absurd h9 (by decide)⟩, by rw [ht]; exact hP, va_K.moved hW.alike hK, hD⟩, hS.F ht⟩) hS.2.2 z_L_tick_14
  · refine lv_i2l hx hb z_L_tick_7 rfl ?_
    refine W.eq (g2 := F0 m 8 ls (.long r9.toInt64 :: .int (nI 0) :: .ref a9 :: [])) rfl ?_
    refine xs_l hx hb hK hP hD hS 15 3 rfl rfl (k := 0) (by decide) (by decide) z_L_tick_8 (fun H locs hP hD hS => ?_)
    have hP : va_P (dC, dI) vwCl (wC q cI cZ cB u9 ++ [(a9, .inl (cL9, 1, .inr (.inl (vp_updL f 0 r9.toInt64))))]) H := hP
    have hD : va_D A (wC q cI cZ cB u9 ++ [(a9, .inl (cL9, 1, .inr (.inl (vp_updL f 0 r9.toInt64))))]) := hD
    refine lv_goto (tgt := 15) hx hb z_L_tick_9 (by decide) ?_
    refine lv_iconst (v := 0) hx hb z_L_tick_15 (by decide) ?_
    exact W.iret (v := 0) hx hb hr (fun t ht hW => ⟨⟨0, (u9, vp_updL f 0 (r9.toInt64)), rfl, ⟨0, r9, rfl, h9, fun _ => pk_uLs (f := f) (k := 0) (x := r9.toInt64)⟩, by rw [ht]; exact hP, va_K.moved hW.alike hK, hD⟩, hS.F ht⟩) hS.2.2 z_L_tick_16

set_option maxHeartbeats 4000000 in
set_option maxRecDepth 100000 in
theorem c_L_count (l : Launch) (dC : Nat → ClassId) (dI : Nat → Nat → Nat) (q : Nat → Nat) (cI cZ cB cL9 : ClassId) (a9 : Nat) (f : Nat → Int64) (v : St) (sz : Nat) (hl0 : l.stackTraces = false) (hi : Inv v) (x : Int32) : Met l y_L_count (Cond.codeWith y_L_count b_L_count 4 (some .int) [(0, 9, 12, 13)] :: CW) { frames := 7, cells := 1, slots := 6, locals := 103 } (va_Pc [.ref (q 0), .int x, .ref a9] (LwC (dC, dI) sz (wC q cI cZ cB v ++ [(a9, .inl (cL9, 1, .inr (.inl f)))]) (tyC cI cZ cB ++ [(cL9, .long)]))) (va_Qi (fun (r : Int32) (u : St × (Nat → Int64)) => ∃ (c9 : Nat) (R9 : Int32), r = nI c9 ∧ spCount v x c9 R9 u.1 ∧ (c9 = 0 → u.2 0 = R9.toInt64)) (fun u => WrB (dC, dI) (wC q cI cZ cB u.1 ++ [(a9, .inl (cL9, 1, .inr (.inl u.2)))]) (tyC cI cZ cB ++ [(cL9, .long)]) (va_A (wC q cI cZ cB v ++ [(a9, .inl (cL9, 1, .inr (.inl f)))]) sz)) (va_A (wC q cI cZ cB v ++ [(a9, .inl (cL9, 1, .inr (.inl f)))]) sz)) 1 6 (va_A (wC q cI cZ cB v ++ [(a9, .inl (cL9, 1, .inr (.inl f)))]) sz) := by
  refine cxW_met (by decide) (Nat.le_of_ble_eq_true rfl) ?_
  intro p e s m below meth c hx hb hr hml hts hown hlocks hTab hC ls hl
  obtain ⟨⟨⟨hsz, hP, hK, hD0, hN⟩, hX⟩, hNC⟩ := hC
  subst hsz
  have hD := hD0.self (sz := s.heap.size)
  generalize hAe : va_A (wC q cI cZ cB v ++ [(a9, .inl (cL9, 1, .inr (.inl f)))]) s.heap.size = A at hD hX ⊢
  have hA : ∀ q9 : Nat, s.heap.size ≤ q9 → A q9 := fun q9 h => by rw [← hAe]; exact Or.inr h
  have hS : va_S A s.heap s.heap [] := va_S.rf
  have hown : s.vm.findClass "ServiceDeskLaw" = some m.cls := hown
  have hl : lv_has ls 4 [(0, .ref (q 0)), (1, .int x), (2, .ref a9)] := hl
  have hKc : va_K (dC, dI) vwCl (tyC cI cZ cB) s := va_K.sub hK [0, 1, 2] rfl
  refine lv_aload_n hx hb z_L_count_0 rfl (lv_at hl 2 rfl) ?_
  refine lv_iconst (v := 0) hx hb z_L_count_1 (by decide) ?_
  refine lv_aload_n hx hb z_L_count_2 rfl (lv_at hl 0 rfl) ?_
  refine lv_iload_n hx hb z_L_count_3 rfl (lv_at hl 1 rfl) ?_
  refine txVi (As := [.int x]) (rest := [.int 0, .ref a9]) (wc := wC q cI cZ cB v) (wo := [(a9, .inl (cL9, 1, .inr (.inl f)))]) (wf := fun u : St => wC q cI cZ cB u) (tyc := tyC cI cZ cB) ⟨hx, hb, hml, hown, hts⟩ (c_d_count l dC dI q cI cZ cB v s.heap.size hl0 hi x) mw_463 mw_460 mw_461 mw_462 mw_1 rfl yd_d_count ⟨⟨rfl, rfl⟩, Nat.le_of_ble_eq_true rfl, Nat.le_of_ble_eq_true rfl⟩ ⟨Nat.le_of_ble_eq_true rfl, Nat.le_of_ble_eq_true rfl⟩ (tx_pre hP hKc hD hN hS hA hX (ci := 3) (q0 := 0) rfl rfl) hP hD hS hA rfl hl.1 rfl (Nat.le_of_ble_eq_true rfl) z_L_count_4 (fun E z9 ce q9 H locs hE hpx hP hD hS hce hcv hcl => ?_) (fun r9 u9 H locs h9 hP hD hS => ?_)
  · obtain ⟨c9, u9⟩ := z9
    obtain ⟨rfl, rfl⟩ : E = "java/lang/IllegalArgumentException" ∧ c9 = 1 := Prod.mk.inj (List.mem_singleton.mp hE)
    refine vx_catch (own := "ServiceDeskLaw") (name := "java/lang/IllegalArgumentException") (E := "java/lang/IllegalArgumentException") hown [] ⟨0, 9, 12, 13⟩ [] (by rw [hTab]; rfl) (fun z9 h9 => absurd h9 List.not_mem_nil) (by decide) (by decide) (hts _ (cw_in mw_143 rfl)) (va_Nw.use rfl (hX.2.2.1 _ nx_0)) hce hcv hcl ?_
    refine W.eq (g2 := F0 m 12 ls [.ref q9]) rfl ?_
    refine lv_astore_n (lv' := [(3, .ref q9), (0, .ref (q 0)), (1, .int x), (2, .ref a9)]) hx hb z_L_count_12 rfl hl (by decide) rfl (fun ls hl => ?_)
    refine lv_iconst (v := 1) hx hb z_L_count_13 (by decide) ?_
    exact W.iret (v := 1) hx hb hr (fun t ht hW => ⟨⟨1, (u9, f), rfl, ⟨1, 0, rfl, hpx, fun h9 => absurd h9 (by decide)⟩, by rw [ht]; exact hP, va_K.moved hW.alike hK, hD⟩, hS.F ht⟩) hS.2.2 z_L_count_14
  · refine lv_i2l hx hb z_L_count_7 rfl ?_
    refine W.eq (g2 := F0 m 8 ls (.long r9.toInt64 :: .int (nI 0) :: .ref a9 :: [])) rfl ?_
    refine xs_l hx hb hK hP hD hS 15 3 rfl rfl (k := 0) (by decide) (by decide) z_L_count_8 (fun H locs hP hD hS => ?_)
    have hP : va_P (dC, dI) vwCl (wC q cI cZ cB u9 ++ [(a9, .inl (cL9, 1, .inr (.inl (vp_updL f 0 r9.toInt64))))]) H := hP
    have hD : va_D A (wC q cI cZ cB u9 ++ [(a9, .inl (cL9, 1, .inr (.inl (vp_updL f 0 r9.toInt64))))]) := hD
    refine lv_goto (tgt := 15) hx hb z_L_count_9 (by decide) ?_
    refine lv_iconst (v := 0) hx hb z_L_count_15 (by decide) ?_
    exact W.iret (v := 0) hx hb hr (fun t ht hW => ⟨⟨0, (u9, vp_updL f 0 (r9.toInt64)), rfl, ⟨0, r9, rfl, h9, fun _ => pk_uLs (f := f) (k := 0) (x := r9.toInt64)⟩, by rw [ht]; exact hP, va_K.moved hW.alike hK, hD⟩, hS.F ht⟩) hS.2.2 z_L_count_16
