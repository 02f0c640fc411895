theorem str_fl : ∀ x ∈ strL, Cond.exactly (.string "ServiceDesk" x.1) "java/lang/String" ∈ flatC (Jvm.Cond.and given_1 narrow_1) := by decide +kernel
theorem str_tb : ∀ x ∈ strL, Cond.stringRef "ServiceDesk" x.1 x.2 ∈ lw_tbl := by decide +kernel
theorem nc_fl : ∀ a ∈ exL, ∀ b ∈ exL, a ≠ b → Cond.not (.castable a b) ∈ flatC (Jvm.Cond.and given_1 narrow_1) := by decide +kernel
theorem zs_1 : Cond.laysStatic "java/lang/Throwable" "UNASSIGNED_STACK" "[Ljava/lang/StackTraceElement;" ∈ lw_tbl ∧ Cond.laysStatic "java/lang/Throwable" "SUPPRESSED_SENTINEL" "Ljava/util/List;" ∈ lw_tbl := by decide +kernel
theorem zs_2 : Cond.isRef (.static "java/lang/Throwable" "UNASSIGNED_STACK" "[Ljava/lang/StackTraceElement;") ∈ flatC (Jvm.Cond.and given_1 narrow_1) ∧ Cond.isRef (.static "java/lang/Throwable" "SUPPRESSED_SENTINEL" "Ljava/util/List;") ∈ flatC (Jvm.Cond.and given_1 narrow_1) := by decide +kernel
theorem law_given {b : Nat} {s : State} (hts0 : ∀ w ∈ lw_tbl, w.before #[Value.ref b] s = true) (hgv : (Jvm.Cond.and given_1 narrow_1).before #[Value.ref b] s = true) : XcC (lwA s) s s.heap ∧ NC s := by
  have hf := flat_of_before _ hgv
  refine ⟨⟨vx_Zqof (hts0 _ zs_1.1) (hts0 _ mw_7) (hf _ zs_2.1) (fun a h => Nat.not_le.mpr h), vx_Zqof (hts0 _ zs_1.2) (hts0 _ mw_7) (hf _ zs_2.2) (fun a h => Nat.not_le.mpr h), NX.of hts0, fun x hx => ?_⟩, fun a ha b hb hn => va_Nc.of (hf _ (nc_fl a ha b hb hn))⟩
  obtain ⟨a, c, cA, kA, q1, q2, q3, q4, q5, q6, -⟩ := Cond.exactly_spec (args := #[Value.ref b]) (first := s) (o := none) (s := s) (idx := []) (t := .string "ServiceDesk" x.1) (cls := "java/lang/String") (hf _ (str_fl x hx))
  exact ⟨a, vk_R.of (hts0 _ (str_tb x hx)) q1⟩

set_option maxHeartbeats 4000000 in
set_option maxRecDepth 100000 in
theorem whole_start {p : Program} {e : Env} {s : State} {m : MethodId} {below : List Frame} {meth : Method} {c : Code} (l : Launch) (hl0 : l.stackTraces = false) {b L : Nat} {xs : Nat → Int32} (hL : L ≤ 3072) (C0 : lw_At p s m meth c b L xs) : W p l e room_1 s m #[Value.ref b] below meth c s.heap [] 0 0 (lw_Z below #[Value.ref b] s) (entryFrame m ([Value.ref b] : List Value).toArray 8) := by
  obtain ⟨hx, hb, hr, hml, hown, hts0, hXs, hbl, hlocks, hgv⟩ := id C0
  have hb : c.code = b_L_law := hb
  have hown : s.vm.findClass "ServiceDeskLaw" = some m.cls := hown
  have hts : ∀ w ∈ c00 :: CW, w.before #[Value.ref b] s = true := by
    intro w hw
    rcases List.mem_cons.mp hw with rfl | h
    · exact hts0 _ mw_1
    · exact hts0 _ (List.mem_filter.mp h).1
  have hN : NW s := NW.of hts0
  obtain ⟨hX, hNC⟩ := law_given hts0 hgv
  have hA : ∀ q9 : Nat, s.heap.size ≤ q9 → lwA s q9 := fun _ h => h
  obtain ⟨c0, iS0, hKn0⟩ := u_known (C := R0) (T := T0) (N := 2) (n := 2) hts (cw_sub iC0) (hts _ (cw_in mw_75 rfl))
  obtain ⟨c1, iS1, hKn1⟩ := u_known (C := R1) (T := T1) (N := 6) (n := 6) hts (cw_sub iC1) (hts _ (cw_in mw_43 rfl))
  obtain ⟨c2, iS2, hKn2⟩ := u_known (C := R2) (T := T2) (N := 3) (n := 3) hts (cw_sub iC2) (hts _ (cw_in mw_23 rfl))
  obtain ⟨c3, iS3, hKn3⟩ := u_known (C := R3) (T := T3) (N := 6) (n := 6) hts (cw_sub iC3) (hts _ (cw_in mw_15 rfl))
  obtain ⟨c4, iS4, hKn4⟩ := u_known (C := R4) (T := T4) (N := 17) (n := 17) hts (cw_sub iC4) (hts _ (cw_in mw_475 rfl))
  obtain ⟨dC, dI, hKc⟩ : ∃ (dC : Nat → ClassId) (dI : Nat → Nat → Nat), ∀ (k : Nat) (q : vw_C), vwCl[k]? = some q → u_Kn s q.1 q.2.1 q.2.2 (dC k) (dI k) := by
    refine ⟨fun k => if k = 0 then c0 else if k = 1 then c1 else if k = 2 then c2 else if k = 3 then c3 else c4, fun k => if k = 0 then iS0 else if k = 1 then iS1 else if k = 2 then iS2 else if k = 3 then iS3 else iS4, ?_⟩
    intro k q hq
    match k, hq with
    | 0, hq => cases hq; exact hKn0
    | 1, hq => cases hq; exact hKn1
    | 2, hq => cases hq; exact hKn2
    | 3, hq => cases hq; exact hKn3
    | 4, hq => cases hq; exact hKn4
    | k + 5, hq => simp [vwCl] at hq
  have hS : va_S (lwA s) s.heap s.heap [] := va_S.rf
  have hK : va_K (dC, dI) vwCl [] s := ⟨hKc, fun k q h => by simp at h⟩
  have hP : va_P (dC, dI) vwCl [] s.heap := fun k q h => by simp at h
  have hD : va_D (lwA s) [] := ⟨fun i j p q h => by simp at h, fun k q h => by simp at h⟩
  have hl := lv_entry ([.ref b]) (n := 8) (Nat.le_of_ble_eq_true rfl)
  rw [lg_entry_eq]
  generalize (lg_sl ([.ref b]) ++ List.replicate (8 - (lg_sl ([.ref b])).length) Slot.unset).toArray = ls at hl ⊢
  have hl : lv_has ls 8 [(0, .ref b)] := hl
  refine va_new (ci := 3) (fs := [.null, .null, .null, .null, .int 0, .int 0]) (C := R3) (T := T3) (N := 6) hx hb hts (cw_sub iC3) ty3 tyok3 hown (hts _ (cw_in mw_14 rfl)) (hts _ (cw_in mw_15 rfl)) (hts _ (cw_in mw_1 rfl)) hK hP hD hS hA rfl (by decide) (Nat.le_of_ble_eq_true rfl) (Nat.le_of_ble_eq_true rfl) z_L_law_0 (fun h0 H hP hD hS => ?_)
  have hP : va_P (dC, dI) vwCl [(h0, .inr (3, [.null, .null, .null, .null, .int 0, .int 0]))] H := hP
  have hD : va_D (lwA s) [(h0, .inr (3, [.null, .null, .null, .null, .int 0, .int 0]))] := hD
  refine W.widen (k := 1) (n := 6) (Nat.le_of_ble_eq_true rfl) (Nat.le_of_ble_eq_true rfl) ?_
  refine lv_dup hx hb z_L_law_3 rfl ?_
  have hPc := hP.sub (ws' := [(h0, .inr (3, [.null, .null, .null, .null, .int 0, .int 0]))]) [0] rfl
  have hDc := hD.sub (ws' := [(h0, .inr (3, [.null, .null, .null, .null, .int 0, .int 0]))]) [0] (by decide) rfl
  have hKc := hK.sub (tys' := []) [] rfl
  have hFc := va_free (wc := [(h0, .inr (3, [.null, .null, .null, .null, .int 0, .int 0]))]) hD hS hA [0] rfl
  refine va_callv (va_runI (As := []) (rest := [.ref h0]) ⟨hx, hb, hml, hown, hts⟩ (c_d_init l dC dI h0 H.size) (cwI 0 hts (cw_good mw_18 rfl) rfl rfl rfl (hts _ (cw_in mw_1 rfl)) (hts _ (cw_in mw_16 rfl)) (hts _ (cw_in mw_17 rfl)) rfl yd_d_init ⟨Nat.le_of_ble_eq_true rfl, Nat.le_of_ble_eq_true rfl⟩) ⟨fun _ _ _ _ q => ⟨q.1, q.2.calling⟩, fun U hU hW => ⟨rfl, WrC.of hPc hKc hDc hN hU hW⟩⟩ rfl rfl hl.1 rfl (lv_room (Nat.le_of_ble_eq_true rfl)) z_L_law_4 ⟨Nat.le_of_ble_eq_true rfl, Nat.le_of_ble_eq_true rfl⟩) hS (fun q _ h => hFc q h) hFc (fun u t H1 locs ht hvm hw hB hz1 hk1 hS => ?_)
  obtain ⟨q, cI, cZ, cB, hq0, hP1, hK1, hD1⟩ := hB
  subst hq0
  rw [ht] at hP1
  have hK1 := va_K.moved hvm.symm hK1
  obtain ⟨hP, hD⟩ := va_join (wr := []) (w1 := wC q cI cZ cB v00) hP hD [0] [] rfl rfl (by decide) (by decide) hk1 hFc hP1 hD1
  generalize H1 = H at hP hS ⊢
  have hP : va_P (dC, dI) vwCl (wC q cI cZ cB v00) H := hP
  have hD : va_D (lwA s) (wC q cI cZ cB v00) := hD
  have hKd := hK1
  refine W.widen (k := 15) (n := 5425) (Nat.le_of_ble_eq_true rfl) (Nat.le_of_ble_eq_true rfl) ?_
  refine lv_astore_n (lv' := [(1, .ref (q 0)), (0, .ref b)]) hx hb z_L_law_7 rfl hl (by decide) rfl (fun ls hl => ?_)
  refine va_new (ci := 4) (fs := [.int 0, .null, .null, .null, .null, .null, .null, .null, .null, .null, .null, .int 0, .int 0, .int 0, .null, .int 0, .long 0]) (C := R4) (T := T4) (N := 17) hx hb hts (cw_sub iC4) ty4 tyok4 hown (hts _ (cw_in mw_474 rfl)) (hts _ (cw_in mw_475 rfl)) (hts _ (cw_in mw_6 rfl)) hK hP hD hS hA rfl (by decide) (Nat.le_of_ble_eq_true rfl) (Nat.le_of_ble_eq_true rfl) z_L_law_8 (fun h1 H hP hD hS => ?_)
  have hP : va_P (dC, dI) vwCl (wC q cI cZ cB v00 ++ [(h1, .inr (4, [.int 0, .null, .null, .null, .null, .null, .null, .null, .null, .null, .null, .int 0, .int 0, .int 0, .null, .int 0, .long 0]))]) H := hP
  have hD : va_D (lwA s) (wC q cI cZ cB v00 ++ [(h1, .inr (4, [.int 0, .null, .null, .null, .null, .null, .null, .null, .null, .null, .null, .int 0, .int 0, .int 0, .null, .int 0, .long 0]))]) := hD
  refine W.widen (k := 16) (n := 5442) (Nat.le_of_ble_eq_true rfl) (Nat.le_of_ble_eq_true rfl) ?_
  refine lv_dup hx hb z_L_law_11 rfl ?_
  have hPc := hP.sub (ws' := [(h1, .inr (4, [.int 0, .null, .null, .null, .null, .null, .null, .null, .null, .null, .null, .int 0, .int 0, .int 0, .null, .int 0, .long 0]))]) [15] rfl
  have hDc := hD.sub (ws' := [(h1, .inr (4, [.int 0, .null, .null, .null, .null, .null, .null, .null, .null, .null, .null, .int 0, .int 0, .int 0, .null, .int 0, .long 0]))]) [15] (by decide) rfl
  have hKc := hK.sub (tys' := []) [] rfl
  have hFc := va_free (wc := [(h1, .inr (4, [.int 0, .null, .null, .null, .null, .null, .null, .null, .null, .null, .null, .int 0, .int 0, .int 0, .null, .int 0, .long 0]))]) hD hS hA [15] rfl
  refine va_callv (va_runI (As := []) (rest := [.ref h1]) ⟨hx, hb, hml, hown, hts⟩ (c_m_init l dC dI h1 H.size) (cwI 0 hts (cw_good mw_478 rfl) rfl rfl rfl (hts _ (cw_in mw_6 rfl)) (hts _ (cw_in mw_476 rfl)) (hts _ (cw_in mw_477 rfl)) rfl yd_m_init ⟨Nat.le_of_ble_eq_true rfl, Nat.le_of_ble_eq_true rfl⟩) ⟨fun _ _ _ _ q => ⟨q.1, q.2.calling⟩, fun U hU hW => ⟨rfl, WrC.of hPc hKc hDc hN hU hW⟩⟩ rfl rfl hl.1 rfl (lv_room (Nat.le_of_ble_eq_true rfl)) z_L_law_12 ⟨Nat.le_of_ble_eq_true rfl, Nat.le_of_ble_eq_true rfl⟩) hS (fun q _ h => hFc q h) hFc (fun u t H1 locs ht hvm hw hB hz1 hk1 hS => ?_)
  obtain ⟨o, mI, mZ, mL, hq0, hP1, hK1, hD1⟩ := hB
  subst hq0
  rw [ht] at hP1
  have hK1 := va_K.moved hvm.symm hK1
  obtain ⟨hP, hD⟩ := va_join (wr := wC q cI cZ cB v00) (w1 := wM o mI mZ mL v00 0 0 0) hP hD [15] [0, 1, 2, 3, 4, 5, 6, 7, 8, 9, 10, 11, 12, 13, 14] rfl rfl (by decide) (by decide) hk1 hFc hP1 hD1
  generalize H1 = H at hP hS ⊢
  have hP : va_P (dC, dI) vwCl (wC q cI cZ cB v00 ++ wM o mI mZ mL v00 0 0 0) H := hP
  have hD : va_D (lwA s) (wC q cI cZ cB v00 ++ wM o mI mZ mL v00 0 0 0) := hD
  have hKm := hK1
  refine W.widen (k := 27) (n := 10850) (Nat.le_of_ble_eq_true rfl) (Nat.le_of_ble_eq_true rfl) ?_
  refine lv_astore_n (lv' := [(2, .ref (o 0)), (1, .ref (q 0)), (0, .ref b)]) hx hb z_L_law_15 rfl hl (by decide) rfl (fun ls hl => ?_)
  refine lv_iconst (v := 1) hx hb z_L_law_16 (by decide) ?_
  refine va_newa (atype := .long) (N' := 1) (a0 := (1, .inr (.inl (fun _ => 0)))) (ty := .long) (n := 1) hx hb (hts _ (cw_in mw_532 rfl)) rfl hKd hP hD hS hA (fun _ => rfl) (by decide) (by decide) (by decide) (Nat.le_of_ble_eq_true rfl) (Nat.le_of_ble_eq_true rfl) z_L_law_17 (fun a9 cL9 H hK hP hD hS => ?_)
  have hP := va_P.swap hP
  have hD := va_D.swap hD
  refine lv_astore_n (lv' := [(3, .ref a9), (2, .ref (o 0)), (1, .ref (q 0)), (0, .ref b)]) hx hb z_L_law_19 rfl hl (by decide) rfl (fun ls hl => ?_)
  refine lv_iconst (v := 0) hx hb z_L_law_20 (by decide) ?_
  refine lv_istore (lv' := [(4, .int 0), (3, .ref a9), (2, .ref (o 0)), (1, .ref (q 0)), (0, .ref b)]) hx hb z_L_law_21 hl (by decide) rfl (fun ls hl => ?_)
  refine W.widen (k := 28 + 0) (n := 10851 + 6 * 0) (Nat.le_of_ble_eq_true rfl) (Nat.le_of_ble_eq_true rfl) ?_
  exact law_loop ⟨⟨hx, hb, hr, hml, hown, hts, hlocks⟩, ⟨hXs, hbl, hL⟩, hK, hKm, hN, hX, hNC, hl0⟩ (L + 1) 0 (Nat.zero_le _) (by omega) v00 (fun _ => 0) 0 0 0 H _ ls inv_v00 hP hD hS (lv_sub hl [4, 3, 2, 1, 0] rfl)
