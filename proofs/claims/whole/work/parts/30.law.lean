set_option maxHeartbeats 4000000 in
set_option maxRecDepth 100000 in
theorem law_under {p : Program} {l : Launch} {e : Env} {s : State} {m : MethodId} {below : List Frame} {meth : Method} {c : Code} {b L : Nat} {xs : Nat → Int32} {dC : Nat → ClassId} {dI : Nat → Nat → Nat} {cI cZ cB cL9 mI mZ mL : ClassId} {q o : Nat → Nat} {a9 : Nat} {H : Heap} {locs : List Loc} {cells slots : Nat} {ls : Array Slot} (G : LwG p l s m meth c b L xs dC dI cI cZ cB cL9 mI mZ mL) {i : Nat} (h6 : i + 6 ≤ L) {v : St} {f : Nat → Int64} {th ch : Int32} {cd : Int64} (hi : Inv v) (hP : va_P (dC, dI) vwCl (lwW q o a9 cI cZ cB cL9 mI mZ mL v f th ch cd) H) (hD : va_D (lwA s) (lwW q o a9 cI cZ cB cL9 mI mZ mL v f th ch cd)) (hS : va_S (lwA s) s.heap H locs) (hl : lv_has ls 8 [(0, .ref b), (1, .ref (q 0)), (2, .ref (o 0)), (3, .ref a9), (4, .int (nI i))]) (hcap : cells + 1 ≤ room_1.cells ∧ slots + 6 ≤ room_1.slots) (hend : ∀ (v1 : St) (f1 : Nat → Int64) (th1 ch1 : Int32) (cd1 : Int64) (H1 : Heap) (locs1 : List Loc) (ls1 : Array Slot), Inv v1 → va_P (dC, dI) vwCl (lwW q o a9 cI cZ cB cL9 mI mZ mL v1 f1 th1 ch1 cd1) H1 → va_D (lwA s) (lwW q o a9 cI cZ cB cL9 mI mZ mL v1 f1 th1 ch1 cd1) → va_S (lwA s) s.heap H1 locs1 → lv_has ls1 8 [(0, .ref b), (1, .ref (q 0)), (2, .ref (o 0)), (3, .ref a9), (4, .int (nI i))] → W p l e room_1 s m #[Value.ref b] below meth c H1 locs1 (cells + 1) (slots + 6) (lw_Z below #[Value.ref b] s) (F0 m 1079 ls1 [])) : W p l e room_1 s m #[Value.ref b] below meth c H locs cells slots (lw_Z below #[Value.ref b] s) (F0 m 108 ls []) := by
  obtain ⟨⟨hx, hb, hr, hml, hown, hts, hlocks⟩, ⟨hXs, hbl, hL⟩, hK, hKm, hN, hX, hNC, hl0⟩ := id G
  have hA : ∀ q9 : Nat, s.heap.size ≤ q9 → lwA s q9 := fun _ h => h
  refine lv_aload_n hx hb z_L_law_108 rfl (lv_at hl 1 rfl) ?_
  refine lv_aload_n hx hb z_L_law_109 rfl (lv_at hl 0 rfl) ?_
  refine lv_iload hx hb z_L_law_110 (lv_at hl 4 rfl) ?_
  refine lv_iconst (v := 1) hx hb z_L_law_112 (by decide) ?_
  refine lv_iadd hx hb z_L_law_113 ?_
  refine lw_ld (t := 1) hx hb hXs hbl hS rfl (by omega) hL z_L_law_114 ?_
  refine lv_aload_n hx hb z_L_law_115 rfl (lv_at hl 0 rfl) ?_
  refine lv_iload hx hb z_L_law_116 (lv_at hl 4 rfl) ?_
  refine lv_iconst (v := 2) hx hb z_L_law_118 (by decide) ?_
  refine lv_iadd hx hb z_L_law_119 ?_
  refine lw_ld (t := 2) hx hb hXs hbl hS rfl (by omega) hL z_L_law_120 ?_
  refine lwSi (As := [.ref (q 0), .int (xs (i + 1)), .int (xs (i + 2))]) (rest := []) (wc := wC q cI cZ cB v ++ [(a9, .inl (cL9, 1, .inr (.inl f)))]) (wo := wM o mI mZ mL v th ch cd) (wf := fun u : St × (Nat → Int64) => wC q cI cZ cB u.1 ++ [(a9, .inl (cL9, 1, .inr (.inl u.2)))]) ⟨hx, hb, hml, hown, hts⟩ (c_L_under l dC dI q cI cZ cB cL9 a9 f v H.size hl0 hi (xs (i + 1)) (xs (i + 2))) mw_142 mw_140 mw_141 mw_0 yd_L_under ⟨⟨rfl, rfl⟩, Nat.le_of_ble_eq_true rfl, Nat.le_of_ble_eq_true rfl⟩ hcap hP hK hD hN hS hA hX hNC rfl hl.1 rfl (Nat.le_of_ble_eq_true rfl) z_L_law_121 (fun r1 u1 H locs h9 hP hD hS => ?_)
  obtain ⟨v1, f1⟩ := u1
  obtain ⟨c9, rfl, h9⟩ := h9
  have hP : va_P (dC, dI) vwCl ((wC q cI cZ cB v1 ++ [(a9, .inl (cL9, 1, .inr (.inl f1)))]) ++ wM o mI mZ mL v th ch cd) H := hP
  have hD : va_D (lwA s) ((wC q cI cZ cB v1 ++ [(a9, .inl (cL9, 1, .inr (.inl f1)))]) ++ wM o mI mZ mL v th ch cd) := hD
  refine lv_istore (lv' := [(5, .int (nI c9)), (0, .ref b), (1, .ref (q 0)), (2, .ref (o 0)), (3, .ref a9), (4, .int (nI i))]) hx hb z_L_law_124 hl (by decide) rfl (fun ls hl => ?_)
  refine lv_aload_n hx hb z_L_law_126 rfl (lv_at hl 3 rfl) ?_
  refine lv_aload_n hx hb z_L_law_127 rfl (lv_at hl 1 rfl) ?_
  refine lv_iload hx hb z_L_law_128 (lv_at hl 5 rfl) ?_
  refine lv_iconst (v := 1) hx hb z_L_law_130 (by decide) ?_
  refine lv_iadd hx hb z_L_law_131 ?_
  refine lw_ld (t := 1) hx hb hXs hbl hS rfl (by omega) hL z_L_law_132 ?_
  refine lv_aload_n hx hb z_L_law_133 rfl (lv_at hl 1 rfl) ?_
  refine lv_iload hx hb z_L_law_134 (lv_at hl 5 rfl) ?_
  refine lv_iconst (v := 2) hx hb z_L_law_136 (by decide) ?_
  refine lv_iadd hx hb z_L_law_137 ?_
  refine lw_ld (t := 2) hx hb hXs hbl hS rfl (by omega) hL z_L_law_138 ?_
  refine lwMv (As := [.int (xs (i + 1)), .int (xs (i + 2))]) (rest := []) (wc := wC q cI cZ cB v1 ++ [(a9, .inl (cL9, 1, .inr (.inl f1)))]) (wm := wM o mI mZ mL v th ch cd) (wf := fun u : St × Int32 × Int32 × Int64 => wM o mI mZ mL u.1 u.2.1 u.2.2.1 u.2.2.2) ⟨hx, hb, hml, hown, hts⟩ (c_m_under l dC dI o mI mZ mL v th ch cd H.size hi (xs (i + 1)) (xs (i + 2))) mw_540 mw_537 mw_538 mw_539 mw_6 rfl yd_m_under ⟨⟨rfl, rfl⟩, Nat.le_of_ble_eq_true rfl, Nat.le_of_ble_eq_true rfl⟩ hcap (WrC.preV (sp_r hP) hKm (sd_r hD) hN (ci := 4) (q0 := 0) rfl rfl) hP hD hS hA rfl hl.1 rfl (Nat.le_of_ble_eq_true rfl) z_L_law_139 (fun u2 H locs h8 hP hD hS => ?_)
  obtain ⟨v2, th2, ch2, cd2⟩ := u2
  obtain ⟨c8, e8, h8⟩ := h8
  have e8 : th2 = nI c8 := e8
  obtain ⟨rfl, e7⟩ := det_under h9 h8
  have e7 : v1 = v2 := e7
  subst e7
  subst e8
  have hP : va_P (dC, dI) vwCl ((wC q cI cZ cB v1 ++ [(a9, .inl (cL9, 1, .inr (.inl f1)))]) ++ wM o mI mZ mL v1 (nI c9) ch2 cd2) H := hP
  have hD : va_D (lwA s) ((wC q cI cZ cB v1 ++ [(a9, .inl (cL9, 1, .inr (.inl f1)))]) ++ wM o mI mZ mL v1 (nI c9) ch2 cd2) := hD
  refine lv_aload_n hx hb z_L_law_142 rfl (lv_at hl 3 rfl) ?_
  refine rdVi (As := []) (rest := []) ⟨hx, hb, hml, hown, hts⟩ (c_m_thrown l dC dI o mI mZ mL v1 (nI c9) ch2 cd2) mw_536 mw_533 mw_534 mw_535 mw_6 rfl yd_m_thrown ⟨⟨rfl, rfl⟩, Nat.le_of_ble_eq_true rfl, Nat.le_of_ble_eq_true rfl⟩ hcap (RdC.preV (sp_r hP) hKm hN (ci := 4) (q0 := 0) rfl rfl) rfl hl.1 rfl (Nat.le_of_ble_eq_true rfl) z_L_law_143 (fun r3 h3 => ?_)
  subst h3
  refine lv_iload hx hb z_L_law_146 (lv_at hl 0 rfl) ?_
  refine lv_icmp_eq (tgt := 153) hx hb z_L_law_148 (by decide) (fun c_148 => ?_) (fun c_148 => False.elim (c_148 rfl))
  refine lv_goto (tgt := 1079) hx hb z_L_law_153 (by decide) ?_
  exact hend v1 f1 _ _ _ _ _ ls (nx_under hi h9) hP hD hS (lv_sub hl [1, 2, 3, 4, 5] rfl)

set_option maxHeartbeats 4000000 in
set_option maxRecDepth 100000 in
theorem law_make {p : Program} {l : Launch} {e : Env} {s : State} {m : MethodId} {below : List Frame} {meth : Method} {c : Code} {b L : Nat} {xs : Nat → Int32} {dC : Nat → ClassId} {dI : Nat → Nat → Nat} {cI cZ cB cL9 mI mZ mL : ClassId} {q o : Nat → Nat} {a9 : Nat} {H : Heap} {locs : List Loc} {cells slots : Nat} {ls : Array Slot} (G : LwG p l s m meth c b L xs dC dI cI cZ cB cL9 mI mZ mL) {i : Nat} (h6 : i + 6 ≤ L) {v : St} {f : Nat → Int64} {th ch : Int32} {cd : Int64} (hi : Inv v) (hP : va_P (dC, dI) vwCl (lwW q o a9 cI cZ cB cL9 mI mZ mL v f th ch cd) H) (hD : va_D (lwA s) (lwW q o a9 cI cZ cB cL9 mI mZ mL v f th ch cd)) (hS : va_S (lwA s) s.heap H locs) (hl : lv_has ls 8 [(0, .ref b), (1, .ref (q 0)), (2, .ref (o 0)), (3, .ref a9), (4, .int (nI i))]) (hcap : cells + 1 ≤ room_1.cells ∧ slots + 6 ≤ room_1.slots) (hend : ∀ (v1 : St) (f1 : Nat → Int64) (th1 ch1 : Int32) (cd1 : Int64) (H1 : Heap) (locs1 : List Loc) (ls1 : Array Slot), Inv v1 → va_P (dC, dI) vwCl (lwW q o a9 cI cZ cB cL9 mI mZ mL v1 f1 th1 ch1 cd1) H1 → va_D (lwA s) (lwW q o a9 cI cZ cB cL9 mI mZ mL v1 f1 th1 ch1 cd1) → va_S (lwA s) s.heap H1 locs1 → lv_has ls1 8 [(0, .ref b), (1, .ref (q 0)), (2, .ref (o 0)), (3, .ref a9), (4, .int (nI i))] → W p l e room_1 s m #[Value.ref b] below meth c H1 locs1 (cells + 1) (slots + 6) (lw_Z below #[Value.ref b] s) (F0 m 1079 ls1 [])) : W p l e room_1 s m #[Value.ref b] below meth c H locs cells slots (lw_Z below #[Value.ref b] s) (F0 m 156 ls []) := by
  obtain ⟨⟨hx, hb, hr, hml, hown, hts, hlocks⟩, ⟨hXs, hbl, hL⟩, hK, hKm, hN, hX, hNC, hl0⟩ := id G
  have hA : ∀ q9 : Nat, s.heap.size ≤ q9 → lwA s q9 := fun _ h => h
  refine lv_aload_n hx hb z_L_law_156 rfl (lv_at hl 1 rfl) ?_
  refine lv_aload_n hx hb z_L_law_157 rfl (lv_at hl 0 rfl) ?_
  refine lv_iload hx hb z_L_law_158 (lv_at hl 4 rfl) ?_
  refine lv_iconst (v := 1) hx hb z_L_law_160 (by decide) ?_
  refine lv_iadd hx hb z_L_law_161 ?_
  refine lw_ld (t := 1) hx hb hXs hbl hS rfl (by omega) hL z_L_law_162 ?_
  refine lv_aload_n hx hb z_L_law_163 rfl (lv_at hl 0 rfl) ?_
  refine lv_iload hx hb z_L_law_164 (lv_at hl 4 rfl) ?_
  refine lv_iconst (v := 2) hx hb z_L_law_166 (by decide) ?_
  refine lv_iadd hx hb z_L_law_167 ?_
  refine lw_ld (t := 2) hx hb hXs hbl hS rfl (by omega) hL z_L_law_168 ?_
  refine lv_aload_n hx hb z_L_law_169 rfl (lv_at hl 3 rfl) ?_
  refine lwSi (As := [.ref (q 0), .int (xs (i + 1)), .int (xs (i + 2)), .ref a9]) (rest := []) (wc := wC q cI cZ cB v ++ [(a9, .inl (cL9, 1, .inr (.inl f)))]) (wo := wM o mI mZ mL v th ch cd) (wf := fun u : St × (Nat → Int64) => wC q cI cZ cB u.1 ++ [(a9, .inl (cL9, 1, .inr (.inl u.2)))]) ⟨hx, hb, hml, hown, hts⟩ (c_L_make l dC dI q cI cZ cB cL9 a9 f v H.size hl0 hi (xs (i + 1)) (xs (i + 2))) mw_242 mw_240 mw_241 mw_0 yd_L_make ⟨⟨rfl, rfl⟩, Nat.le_of_ble_eq_true rfl, Nat.le_of_ble_eq_true rfl⟩ hcap hP hK hD hN hS hA hX hNC rfl hl.1 rfl (Nat.le_of_ble_eq_true rfl) z_L_law_170 (fun r1 u1 H locs h9 hP hD hS => ?_)
  obtain ⟨v1, f1⟩ := u1
  obtain ⟨c9, R9, rfl, h9, e9⟩ := h9
  have hP : va_P (dC, dI) vwCl ((wC q cI cZ cB v1 ++ [(a9, .inl (cL9, 1, .inr (.inl f1)))]) ++ wM o mI mZ mL v th ch cd) H := hP
  have hD : va_D (lwA s) ((wC q cI cZ cB v1 ++ [(a9, .inl (cL9, 1, .inr (.inl f1)))]) ++ wM o mI mZ mL v th ch cd) := hD
  refine lv_istore (lv' := [(5, .int (nI c9)), (0, .ref b), (1, .ref (q 0)), (2, .ref (o 0)), (3, .ref a9), (4, .int (nI i))]) hx hb z_L_law_173 hl (by decide) rfl (fun ls hl => ?_)
  refine lv_aload_n hx hb z_L_law_175 rfl (lv_at hl 3 rfl) ?_
  refine lv_aload_n hx hb z_L_law_176 rfl (lv_at hl 1 rfl) ?_
  refine lv_iload hx hb z_L_law_177 (lv_at hl 5 rfl) ?_
  refine lv_iconst (v := 1) hx hb z_L_law_179 (by decide) ?_
  refine lv_iadd hx hb z_L_law_180 ?_
  refine lw_ld (t := 1) hx hb hXs hbl hS rfl (by omega) hL z_L_law_181 ?_
  refine lv_aload_n hx hb z_L_law_182 rfl (lv_at hl 1 rfl) ?_
  refine lv_iload hx hb z_L_law_183 (lv_at hl 5 rfl) ?_
  refine lv_iconst (v := 2) hx hb z_L_law_185 (by decide) ?_
  refine lv_iadd hx hb z_L_law_186 ?_
  refine lw_ld (t := 2) hx hb hXs hbl hS rfl (by omega) hL z_L_law_187 ?_
  refine lwMi (As := [.int (xs (i + 1)), .int (xs (i + 2))]) (rest := []) (wc := wC q cI cZ cB v1 ++ [(a9, .inl (cL9, 1, .inr (.inl f1)))]) (wm := wM o mI mZ mL v th ch cd) (wf := fun u : St × Int32 × Int32 × Int64 => wM o mI mZ mL u.1 u.2.1 u.2.2.1 u.2.2.2) ⟨hx, hb, hml, hown, hts⟩ (c_m_make l dC dI o mI mZ mL v th ch cd H.size hi (xs (i + 1)) (xs (i + 2))) mw_558 mw_555 mw_556 mw_557 mw_6 rfl yd_m_make ⟨⟨rfl, rfl⟩, Nat.le_of_ble_eq_true rfl, Nat.le_of_ble_eq_true rfl⟩ hcap (WrC.preV (sp_r hP) hKm (sd_r hD) hN (ci := 4) (q0 := 0) rfl rfl) hP hD hS hA rfl hl.1 rfl (Nat.le_of_ble_eq_true rfl) z_L_law_188 (fun r2 u2 H locs h8 hP hD hS => ?_)
  obtain ⟨v2, th2, ch2, cd2⟩ := u2
  obtain ⟨c8, e8, h8⟩ := h8
  have e8 : th2 = nI c8 := e8
  obtain ⟨rfl, e7, e6⟩ := det_make h9 h8
  have e7 : v1 = v2 := e7
  subst e7
  subst e8
  have hP : va_P (dC, dI) vwCl ((wC q cI cZ cB v1 ++ [(a9, .inl (cL9, 1, .inr (.inl f1)))]) ++ wM o mI mZ mL v1 (nI c9) ch2 cd2) H := hP
  have hD : va_D (lwA s) ((wC q cI cZ cB v1 ++ [(a9, .inl (cL9, 1, .inr (.inl f1)))]) ++ wM o mI mZ mL v1 (nI c9) ch2 cd2) := hD
  refine lv_istore (lv' := [(6, .int r2), (5, .int (nI c9)), (0, .ref b), (1, .ref (q 0)), (2, .ref (o 0)), (3, .ref a9), (4, .int (nI i))]) hx hb z_L_law_191 hl (by decide) rfl (fun ls hl => ?_)
  refine lv_aload_n hx hb z_L_law_193 rfl (lv_at hl 4 rfl) ?_
  refine rdVi (As := []) (rest := []) ⟨hx, hb, hml, hown, hts⟩ (c_m_thrown l dC dI o mI mZ mL v1 (nI c9) ch2 cd2) mw_536 mw_533 mw_534 mw_535 mw_6 rfl yd_m_thrown ⟨⟨rfl, rfl⟩, Nat.le_of_ble_eq_true rfl, Nat.le_of_ble_eq_true rfl⟩ hcap (RdC.preV (sp_r hP) hKm hN (ci := 4) (q0 := 0) rfl rfl) rfl hl.1 rfl (Nat.le_of_ble_eq_true rfl) z_L_law_194 (fun r3 h3 => ?_)
  subst h3
  refine lv_iload hx hb z_L_law_197 (lv_at hl 1 rfl) ?_
  refine lv_icmp_eq (tgt := 204) hx hb z_L_law_199 (by decide) (fun c_199 => ?_) (fun c_199 => False.elim (c_199 rfl))
  refine lv_iload hx hb z_L_law_204 (lv_at hl 1 rfl) ?_
  refine lv_if_ne (tgt := 221) hx hb z_L_law_206 (by decide) (fun c_206 => ?_) (fun c_206 => ?_)
  · refine lv_goto (tgt := 1079) hx hb z_L_law_221 (by decide) ?_
    exact hend v1 f1 _ _ _ _ _ ls (nx_make hi h9) hP hD hS (lv_sub hl [2, 3, 4, 5, 6] rfl)
  · refine lv_aload_n hx hb z_L_law_209 rfl (lv_at hl 5 rfl) ?_
    refine lv_iconst (v := 0) hx hb z_L_law_210 (by decide) ?_
    refine W.eq (g2 := F0 m 211 ls (.int (nI 0) :: .ref a9 :: [])) rfl ?_
    refine xa_l hx hb hK hP 15 3 rfl rfl (k := 0) (y := f1 0) (by decide) (by decide) rfl z_L_law_211 ?_
    refine lv_iload hx hb z_L_law_212 (lv_at hl 0 rfl) ?_
    refine lv_i2l hx hb z_L_law_214 rfl ?_
    refine W.lcmp hx hb z_L_law_215 ?_
    refine lv_if_eq (tgt := 221) hx hb z_L_law_216 (by decide) (fun c_216 => ?_) (fun c_216 => False.elim (c_216 (lcmp_eq.mpr ((e9 (c0_of (le_make h9) c_206)).trans (congrArg Int32.toInt64 (e6 (c0_of (le_make h9) c_206)))))))
    refine lv_goto (tgt := 1079) hx hb z_L_law_221 (by decide) ?_
    exact hend v1 f1 _ _ _ _ _ ls (nx_make hi h9) hP hD hS (lv_sub hl [2, 3, 4, 5, 6] rfl)

set_option maxHeartbeats 4000000 in
set_option maxRecDepth 100000 in
theorem law_verb {p : Program} {l : Launch} {e : Env} {s : State} {m : MethodId} {below : List Frame} {meth : Method} {c : Code} {b L : Nat} {xs : Nat → Int32} {dC : Nat → ClassId} {dI : Nat → Nat → Nat} {cI cZ cB cL9 mI mZ mL : ClassId} {q o : Nat → Nat} {a9 : Nat} {H : Heap} {locs : List Loc} {cells slots : Nat} {ls : Array Slot} (G : LwG p l s m meth c b L xs dC dI cI cZ cB cL9 mI mZ mL) {i : Nat} (h6 : i + 6 ≤ L) {v : St} {f : Nat → Int64} {th ch : Int32} {cd : Int64} (hi : Inv v) (hP : va_P (dC, dI) vwCl (lwW q o a9 cI cZ cB cL9 mI mZ mL v f th ch cd) H) (hD : va_D (lwA s) (lwW q o a9 cI cZ cB cL9 mI mZ mL v f th ch cd)) (hS : va_S (lwA s) s.heap H locs) (hl : lv_has ls 8 [(0, .ref b), (1, .ref (q 0)), (2, .ref (o 0)), (3, .ref a9), (4, .int (nI i))]) (hcap : cells + 1 ≤ room_1.cells ∧ slots + 6 ≤ room_1.slots) (hend : ∀ (v1 : St) (f1 : Nat → Int64) (th1 ch1 : Int32) (cd1 : Int64) (H1 : Heap) (locs1 : List Loc) (ls1 : Array Slot), Inv v1 → va_P (dC, dI) vwCl (lwW q o a9 cI cZ cB cL9 mI mZ mL v1 f1 th1 ch1 cd1) H1 → va_D (lwA s) (lwW q o a9 cI cZ cB cL9 mI mZ mL v1 f1 th1 ch1 cd1) → va_S (lwA s) s.heap H1 locs1 → lv_has ls1 8 [(0, .ref b), (1, .ref (q 0)), (2, .ref (o 0)), (3, .ref a9), (4, .int (nI i))] → W p l e room_1 s m #[Value.ref b] below meth c H1 locs1 (cells + 1) (slots + 6) (lw_Z below #[Value.ref b] s) (F0 m 1079 ls1 [])) : W p l e room_1 s m #[Value.ref b] below meth c H locs cells slots (lw_Z below #[Value.ref b] s) (F0 m 224 ls []) := by
  obtain ⟨⟨hx, hb, hr, hml, hown, hts, hlocks⟩, ⟨hXs, hbl, hL⟩, hK, hKm, hN, hX, hNC, hl0⟩ := id G
  have hA : ∀ q9 : Nat, s.heap.size ≤ q9 → lwA s q9 := fun _ h => h
  refine lv_aload_n hx hb z_L_law_224 rfl (lv_at hl 1 rfl) ?_
  refine lv_aload_n hx hb z_L_law_225 rfl (lv_at hl 0 rfl) ?_
  refine lv_iload hx hb z_L_law_226 (lv_at hl 4 rfl) ?_
  refine lv_iconst (v := 1) hx hb z_L_law_228 (by decide) ?_
  refine lv_iadd hx hb z_L_law_229 ?_
  refine lw_ld (t := 1) hx hb hXs hbl hS rfl (by omega) hL z_L_law_230 ?_
  refine lv_aload_n hx hb z_L_law_231 rfl (lv_at hl 0 rfl) ?_
  refine lv_iload hx hb z_L_law_232 (lv_at hl 4 rfl) ?_
  refine lv_iconst (v := 2) hx hb z_L_law_234 (by decide) ?_
  refine lv_iadd hx hb z_L_law_235 ?_
  refine lw_ld (t := 2) hx hb hXs hbl hS rfl (by omega) hL z_L_law_236 ?_
  refine lv_aload_n hx hb z_L_law_237 rfl (lv_at hl 0 rfl) ?_
  refine lv_iload hx hb z_L_law_238 (lv_at hl 4 rfl) ?_
  refine lv_iconst (v := 3) hx hb z_L_law_240 (by decide) ?_
  refine lv_iadd hx hb z_L_law_241 ?_
  refine lw_ld (t := 3) hx hb hXs hbl hS rfl (by omega) hL z_L_law_242 ?_
  refine lv_aload_n hx hb z_L_law_243 rfl (lv_at hl 0 rfl) ?_
  refine lv_iload hx hb z_L_law_244 (lv_at hl 4 rfl) ?_
  refine lv_iconst (v := 4) hx hb z_L_law_246 (by decide) ?_
  refine lv_iadd hx hb z_L_law_247 ?_
  refine lw_ld (t := 4) hx hb hXs hbl hS rfl (by omega) hL z_L_law_248 ?_
  refine lv_aload_n hx hb z_L_law_249 rfl (lv_at hl 0 rfl) ?_
  refine lv_iload hx hb z_L_law_250 (lv_at hl 4 rfl) ?_
  refine lv_iconst (v := 5) hx hb z_L_law_252 (by decide) ?_
  refine lv_iadd hx hb z_L_law_253 ?_
  refine lw_ld (t := 5) hx hb hXs hbl hS rfl (by omega) hL z_L_law_254 ?_
  refine lwSi (As := [.ref (q 0), .int (xs (i + 1)), .int (xs (i + 2)), .int (xs (i + 3)), .int (xs (i + 4)), .int (xs (i + 5))]) (rest := []) (wc := wC q cI cZ cB v ++ [(a9, .inl (cL9, 1, .inr (.inl f)))]) (wo := wM o mI mZ mL v th ch cd) (wf := fun u : St × (Nat → Int64) => wC q cI cZ cB u.1 ++ [(a9, .inl (cL9, 1, .inr (.inl u.2)))]) ⟨hx, hb, hml, hown, hts⟩ (c_L_verb l dC dI q cI cZ cB cL9 a9 f v H.size hl0 (xs (i + 1)) (xs (i + 2)) (xs (i + 3)) (xs (i + 4)) (xs (i + 5))) mw_285 mw_283 mw_284 mw_0 yd_L_verb ⟨⟨rfl, rfl⟩, Nat.le_of_ble_eq_true rfl, Nat.le_of_ble_eq_true rfl⟩ hcap hP hK hD hN hS hA hX hNC rfl hl.1 rfl (Nat.le_of_ble_eq_true rfl) z_L_law_255 (fun r1 u1 H locs h9 hP hD hS => ?_)
  obtain ⟨v1, f1⟩ := u1
  obtain ⟨c9, rfl, h9⟩ := h9
  have hP : va_P (dC, dI) vwCl ((wC q cI cZ cB v1 ++ [(a9, .inl (cL9, 1, .inr (.inl f1)))]) ++ wM o mI mZ mL v th ch cd) H := hP
  have hD : va_D (lwA s) ((wC q cI cZ cB v1 ++ [(a9, .inl (cL9, 1, .inr (.inl f1)))]) ++ wM o mI mZ mL v th ch cd) := hD
  refine lv_istore (lv' := [(5, .int (nI c9)), (0, .ref b), (1, .ref (q 0)), (2, .ref (o 0)), (3, .ref a9), (4, .int (nI i))]) hx hb z_L_law_258 hl (by decide) rfl (fun ls hl => ?_)
  refine lv_aload_n hx hb z_L_law_260 rfl (lv_at hl 3 rfl) ?_
  refine lv_aload_n hx hb z_L_law_261 rfl (lv_at hl 1 rfl) ?_
  refine lv_iload hx hb z_L_law_262 (lv_at hl 5 rfl) ?_
  refine lv_iconst (v := 1) hx hb z_L_law_264 (by decide) ?_
  refine lv_iadd hx hb z_L_law_265 ?_
  refine lw_ld (t := 1) hx hb hXs hbl hS rfl (by omega) hL z_L_law_266 ?_
  refine lv_aload_n hx hb z_L_law_267 rfl (lv_at hl 1 rfl) ?_
  refine lv_iload hx hb z_L_law_268 (lv_at hl 5 rfl) ?_
  refine lv_iconst (v := 2) hx hb z_L_law_270 (by decide) ?_
  refine lv_iadd hx hb z_L_law_271 ?_
  refine lw_ld (t := 2) hx hb hXs hbl hS rfl (by omega) hL z_L_law_272 ?_
  refine lv_aload_n hx hb z_L_law_273 rfl (lv_at hl 1 rfl) ?_
  refine lv_iload hx hb z_L_law_274 (lv_at hl 5 rfl) ?_
  refine lv_iconst (v := 3) hx hb z_L_law_276 (by decide) ?_
  refine lv_iadd hx hb z_L_law_277 ?_
  refine lw_ld (t := 3) hx hb hXs hbl hS rfl (by omega) hL z_L_law_278 ?_
  refine lv_aload_n hx hb z_L_law_279 rfl (lv_at hl 1 rfl) ?_
  refine lv_iload hx hb z_L_law_280 (lv_at hl 5 rfl) ?_
  refine lv_iconst (v := 4) hx hb z_L_law_282 (by decide) ?_
  refine lv_iadd hx hb z_L_law_283 ?_
  refine lw_ld (t := 4) hx hb hXs hbl hS rfl (by omega) hL z_L_law_284 ?_
  refine lv_aload_n hx hb z_L_law_285 rfl (lv_at hl 1 rfl) ?_
  refine lv_iload hx hb z_L_law_286 (lv_at hl 5 rfl) ?_
  refine lv_iconst (v := 5) hx hb z_L_law_288 (by decide) ?_
  refine lv_iadd hx hb z_L_law_289 ?_
  refine lw_ld (t := 5) hx hb hXs hbl hS rfl (by omega) hL z_L_law_290 ?_
  refine lwMv (As := [.int (xs (i + 1)), .int (xs (i + 2)), .int (xs (i + 3)), .int (xs (i + 4)), .int (xs (i + 5))]) (rest := []) (wc := wC q cI cZ cB v1 ++ [(a9, .inl (cL9, 1, .inr (.inl f1)))]) (wm := wM o mI mZ mL v th ch cd) (wf := fun u : St × Int32 × Int32 × Int64 => wM o mI mZ mL u.1 u.2.1 u.2.2.1 u.2.2.2) ⟨hx, hb, hml, hown, hts⟩ (c_m_verb l dC dI o mI mZ mL v th ch cd H.size (xs (i + 1)) (xs (i + 2)) (xs (i + 3)) (xs (i + 4)) (xs (i + 5))) mw_566 mw_563 mw_564 mw_565 mw_6 rfl yd_m_verb ⟨⟨rfl, rfl⟩, Nat.le_of_ble_eq_true rfl, Nat.le_of_ble_eq_true rfl⟩ hcap (WrC.preV (sp_r hP) hKm (sd_r hD) hN (ci := 4) (q0 := 0) rfl rfl) hP hD hS hA rfl hl.1 rfl (Nat.le_of_ble_eq_true rfl) z_L_law_291 (fun u2 H locs h8 hP hD hS => ?_)
  obtain ⟨v2, th2, ch2, cd2⟩ := u2
  obtain ⟨c8, e8, h8⟩ := h8
  have e8 : th2 = nI c8 := e8
  obtain ⟨rfl, e7⟩ := det_verb h9 h8
  have e7 : v1 = v2 := e7
  subst e7
  subst e8
  have hP : va_P (dC, dI) vwCl ((wC q cI cZ cB v1 ++ [(a9, .inl (cL9, 1, .inr (.inl f1)))]) ++ wM o mI mZ mL v1 (nI c9) ch2 cd2) H := hP
  have hD : va_D (lwA s) ((wC q cI cZ cB v1 ++ [(a9, .inl (cL9, 1, .inr (.inl f1)))]) ++ wM o mI mZ mL v1 (nI c9) ch2 cd2) := hD
  refine lv_aload_n hx hb z_L_law_294 rfl (lv_at hl 3 rfl) ?_
  refine rdVi (As := []) (rest := []) ⟨hx, hb, hml, hown, hts⟩ (c_m_thrown l dC dI o mI mZ mL v1 (nI c9) ch2 cd2) mw_536 mw_533 mw_534 mw_535 mw_6 rfl yd_m_thrown ⟨⟨rfl, rfl⟩, Nat.le_of_ble_eq_true rfl, Nat.le_of_ble_eq_true rfl⟩ hcap (RdC.preV (sp_r hP) hKm hN (ci := 4) (q0 := 0) rfl rfl) rfl hl.1 rfl (Nat.le_of_ble_eq_true rfl) z_L_law_295 (fun r3 h3 => ?_)
  subst h3
  refine lv_iload hx hb z_L_law_298 (lv_at hl 0 rfl) ?_
  refine lv_icmp_eq (tgt := 305) hx hb z_L_law_300 (by decide) (fun c_300 => ?_) (fun c_300 => False.elim (c_300 rfl))
  refine lv_goto (tgt := 1079) hx hb z_L_law_305 (by decide) ?_
  exact hend v1 f1 _ _ _ _ _ ls (nx_verb hi h9) hP hD hS (lv_sub hl [1, 2, 3, 4, 5] rfl)

set_option maxHeartbeats 4000000 in
set_option maxRecDepth 100000 in
theorem law_call {p : Program} {l : Launch} {e : Env} {s : State} {m : MethodId} {below : List Frame} {meth : Method} {c : Code} {b L : Nat} {xs : Nat → Int32} {dC : Nat → ClassId} {dI : Nat → Nat → Nat} {cI cZ cB cL9 mI mZ mL : ClassId} {q o : Nat → Nat} {a9 : Nat} {H : Heap} {locs : List Loc} {cells slots : Nat} {ls : Array Slot} (G : LwG p l s m meth c b L xs dC dI cI cZ cB cL9 mI mZ mL) {i : Nat} (h6 : i + 6 ≤ L) {v : St} {f : Nat → Int64} {th ch : Int32} {cd : Int64} (hi : Inv v) (hP : va_P (dC, dI) vwCl (lwW q o a9 cI cZ cB cL9 mI mZ mL v f th ch cd) H) (hD : va_D (lwA s) (lwW q o a9 cI cZ cB cL9 mI mZ mL v f th ch cd)) (hS : va_S (lwA s) s.heap H locs) (hl : lv_has ls 8 [(0, .ref b), (1, .ref (q 0)), (2, .ref (o 0)), (3, .ref a9), (4, .int (nI i))]) (hcap : cells + 1 ≤ room_1.cells ∧ slots + 6 ≤ room_1.slots) (hend : ∀ (v1 : St) (f1 : Nat → Int64) (th1 ch1 : Int32) (cd1 : Int64) (H1 : Heap) (locs1 : List Loc) (ls1 : Array Slot), Inv v1 → va_P (dC, dI) vwCl (lwW q o a9 cI cZ cB cL9 mI mZ mL v1 f1 th1 ch1 cd1) H1 → va_D (lwA s) (lwW q o a9 cI cZ cB cL9 mI mZ mL v1 f1 th1 ch1 cd1) → va_S (lwA s) s.heap H1 locs1 → lv_has ls1 8 [(0, .ref b), (1, .ref (q 0)), (2, .ref (o 0)), (3, .ref a9), (4, .int (nI i))] → W p l e room_1 s m #[Value.ref b] below meth c H1 locs1 (cells + 1) (slots + 6) (lw_Z below #[Value.ref b] s) (F0 m 1079 ls1 [])) : W p l e room_1 s m #[Value.ref b] below meth c H locs cells slots (lw_Z below #[Value.ref b] s) (F0 m 308 ls []) := by
  obtain ⟨⟨hx, hb, hr, hml, hown, hts, hlocks⟩, ⟨hXs, hbl, hL⟩, hK, hKm, hN, hX, hNC, hl0⟩ := id G
  have hA : ∀ q9 : Nat, s.heap.size ≤ q9 → lwA s q9 := fun _ h => h
  refine lv_aload_n hx hb z_L_law_308 rfl (lv_at hl 1 rfl) ?_
  refine lv_aload_n hx hb z_L_law_309 rfl (lv_at hl 0 rfl) ?_
  refine lv_iload hx hb z_L_law_310 (lv_at hl 4 rfl) ?_
  refine lv_iconst (v := 1) hx hb z_L_law_312 (by decide) ?_
  refine lv_iadd hx hb z_L_law_313 ?_
  refine lw_ld (t := 1) hx hb hXs hbl hS rfl (by omega) hL z_L_law_314 ?_
  refine lv_aload_n hx hb z_L_law_315 rfl (lv_at hl 0 rfl) ?_
  refine lv_iload hx hb z_L_law_316 (lv_at hl 4 rfl) ?_
  refine lv_iconst (v := 2) hx hb z_L_law_318 (by decide) ?_
  refine lv_iadd hx hb z_L_law_319 ?_
  refine lw_ld (t := 2) hx hb hXs hbl hS rfl (by omega) hL z_L_law_320 ?_
  refine lv_aload_n hx hb z_L_law_321 rfl (lv_at hl 0 rfl) ?_
  refine lv_iload hx hb z_L_law_322 (lv_at hl 4 rfl) ?_
  refine lv_iconst (v := 3) hx hb z_L_law_324 (by decide) ?_
  refine lv_iadd hx hb z_L_law_325 ?_
  refine lw_ld (t := 3) hx hb hXs hbl hS rfl (by omega) hL z_L_law_326 ?_
  refine lv_aload_n hx hb z_L_law_327 rfl (lv_at hl 0 rfl) ?_
  refine lv_iload hx hb z_L_law_328 (lv_at hl 4 rfl) ?_
  refine lv_iconst (v := 4) hx hb z_L_law_330 (by decide) ?_
  refine lv_iadd hx hb z_L_law_331 ?_
  refine lw_ld (t := 4) hx hb hXs hbl hS rfl (by omega) hL z_L_law_332 ?_
  refine lv_aload_n hx hb z_L_law_333 rfl (lv_at hl 3 rfl) ?_
  refine lwSi (As := [.ref (q 0), .int (xs (i + 1)), .int (xs (i + 2)), .int (xs (i + 3)), .int (xs (i + 4)), .ref a9]) (rest := []) (wc := wC q cI cZ cB v ++ [(a9, .inl (cL9, 1, .inr (.inl f)))]) (wo := wM o mI mZ mL v th ch cd) (wf := fun u : St × (Nat → Int64) => wC q cI cZ cB u.1 ++ [(a9, .inl (cL9, 1, .inr (.inl u.2)))]) ⟨hx, hb, hml, hown, hts⟩ (c_L_call l dC dI q cI cZ cB cL9 a9 f v H.size hl0 hi (xs (i + 1)) (xs (i + 2)) (xs (i + 3)) (xs (i + 4))) mw_321 mw_319 mw_320 mw_0 yd_L_call ⟨⟨rfl, rfl⟩, Nat.le_of_ble_eq_true rfl, Nat.le_of_ble_eq_true rfl⟩ hcap hP hK hD hN hS hA hX hNC rfl hl.1 rfl (Nat.le_of_ble_eq_true rfl) z_L_law_334 (fun r1 u1 H locs h9 hP hD hS => ?_)
  obtain ⟨v1, f1⟩ := u1
  obtain ⟨c9, R9, rfl, h9, e9⟩ := h9
  have hP : va_P (dC, dI) vwCl ((wC q cI cZ cB v1 ++ [(a9, .inl (cL9, 1, .inr (.inl f1)))]) ++ wM o mI mZ mL v th ch cd) H := hP
  have hD : va_D (lwA s) ((wC q cI cZ cB v1 ++ [(a9, .inl (cL9, 1, .inr (.inl f1)))]) ++ wM o mI mZ mL v th ch cd) := hD
  refine lv_istore (lv' := [(5, .int (nI c9)), (0, .ref b), (1, .ref (q 0)), (2, .ref (o 0)), (3, .ref a9), (4, .int (nI i))]) hx hb z_L_law_337 hl (by decide) rfl (fun ls hl => ?_)
  refine lv_aload_n hx hb z_L_law_339 rfl (lv_at hl 3 rfl) ?_
  refine lv_aload_n hx hb z_L_law_340 rfl (lv_at hl 1 rfl) ?_
  refine lv_iload hx hb z_L_law_341 (lv_at hl 5 rfl) ?_
  refine lv_iconst (v := 1) hx hb z_L_law_343 (by decide) ?_
  refine lv_iadd hx hb z_L_law_344 ?_
  refine lw_ld (t := 1) hx hb hXs hbl hS rfl (by omega) hL z_L_law_345 ?_
  refine lv_aload_n hx hb z_L_law_346 rfl (lv_at hl 1 rfl) ?_
  refine lv_iload hx hb z_L_law_347 (lv_at hl 5 rfl) ?_
  refine lv_iconst (v := 2) hx hb z_L_law_349 (by decide) ?_
  refine lv_iadd hx hb z_L_law_350 ?_
  refine lw_ld (t := 2) hx hb hXs hbl hS rfl (by omega) hL z_L_law_351 ?_
  refine lv_aload_n hx hb z_L_law_352 rfl (lv_at hl 1 rfl) ?_
  refine lv_iload hx hb z_L_law_353 (lv_at hl 5 rfl) ?_
  refine lv_iconst (v := 3) hx hb z_L_law_355 (by decide) ?_
  refine lv_iadd hx hb z_L_law_356 ?_
  refine lw_ld (t := 3) hx hb hXs hbl hS rfl (by omega) hL z_L_law_357 ?_
  refine lv_aload_n hx hb z_L_law_358 rfl (lv_at hl 1 rfl) ?_
  refine lv_iload hx hb z_L_law_359 (lv_at hl 5 rfl) ?_
  refine lv_iconst (v := 4) hx hb z_L_law_361 (by decide) ?_
  refine lv_iadd hx hb z_L_law_362 ?_
  refine lw_ld (t := 4) hx hb hXs hbl hS rfl (by omega) hL z_L_law_363 ?_
  refine lwMl (As := [.int (xs (i + 1)), .int (xs (i + 2)), .int (xs (i + 3)), .int (xs (i + 4))]) (rest := []) (wc := wC q cI cZ cB v1 ++ [(a9, .inl (cL9, 1, .inr (.inl f1)))]) (wm := wM o mI mZ mL v th ch cd) (wf := fun u : St × Int32 × Int32 × Int64 => wM o mI mZ mL u.1 u.2.1 u.2.2.1 u.2.2.2) ⟨hx, hb, hml, hown, hts⟩ (c_m_call l dC dI o mI mZ mL v th ch cd H.size hi (xs (i + 1)) (xs (i + 2)) (xs (i + 3)) (xs (i + 4))) mw_570 mw_567 mw_568 mw_569 mw_6 rfl yd_m_call ⟨⟨rfl, rfl⟩, Nat.le_of_ble_eq_true rfl, Nat.le_of_ble_eq_true rfl⟩ hcap (WrC.preV (sp_r hP) hKm (sd_r hD) hN (ci := 4) (q0 := 0) rfl rfl) hP hD hS hA rfl hl.1 rfl (Nat.le_of_ble_eq_true rfl) z_L_law_364 (fun r2 u2 H locs h8 hP hD hS => ?_)
  obtain ⟨v2, th2, ch2, cd2⟩ := u2
  obtain ⟨c8, e8, h8⟩ := h8
  have e8 : th2 = nI c8 := e8
  obtain ⟨rfl, e7, e6⟩ := det_call hi h9 h8
  have e7 : v1 = v2 := e7
  subst e7
  subst e8
  have hP : va_P (dC, dI) vwCl ((wC q cI cZ cB v1 ++ [(a9, .inl (cL9, 1, .inr (.inl f1)))]) ++ wM o mI mZ mL v1 (nI c9) ch2 cd2) H := hP
  have hD : va_D (lwA s) ((wC q cI cZ cB v1 ++ [(a9, .inl (cL9, 1, .inr (.inl f1)))]) ++ wM o mI mZ mL v1 (nI c9) ch2 cd2) := hD
  refine lv_lstore (lv' := [(6, .long r2), (5, .int (nI c9)), (0, .ref b), (1, .ref (q 0)), (2, .ref (o 0)), (3, .ref a9), (4, .int (nI i))]) hx hb z_L_law_367 hl (by decide) rfl (fun ls hl => ?_)
  refine lv_aload_n hx hb z_L_law_369 rfl (lv_at hl 4 rfl) ?_
  refine rdVi (As := []) (rest := []) ⟨hx, hb, hml, hown, hts⟩ (c_m_thrown l dC dI o mI mZ mL v1 (nI c9) ch2 cd2) mw_536 mw_533 mw_534 mw_535 mw_6 rfl yd_m_thrown ⟨⟨rfl, rfl⟩, Nat.le_of_ble_eq_true rfl, Nat.le_of_ble_eq_true rfl⟩ hcap (RdC.preV (sp_r hP) hKm hN (ci := 4) (q0 := 0) rfl rfl) rfl hl.1 rfl (Nat.le_of_ble_eq_true rfl) z_L_law_370 (fun r3 h3 => ?_)
  subst h3
  refine lv_iload hx hb z_L_law_373 (lv_at hl 1 rfl) ?_
  refine lv_icmp_eq (tgt := 380) hx hb z_L_law_375 (by decide) (fun c_375 => ?_) (fun c_375 => False.elim (c_375 rfl))
  refine lv_iload hx hb z_L_law_380 (lv_at hl 1 rfl) ?_
  refine lv_if_ne (tgt := 396) hx hb z_L_law_382 (by decide) (fun c_382 => ?_) (fun c_382 => ?_)
  · refine lv_goto (tgt := 1079) hx hb z_L_law_396 (by decide) ?_
    exact hend v1 f1 _ _ _ _ _ ls (nx_call hi h9) hP hD hS (lv_sub hl [2, 3, 4, 5, 6] rfl)
  · refine lv_aload_n hx hb z_L_law_385 rfl (lv_at hl 5 rfl) ?_
    refine lv_iconst (v := 0) hx hb z_L_law_386 (by decide) ?_
    refine W.eq (g2 := F0 m 387 ls (.int (nI 0) :: .ref a9 :: [])) rfl ?_
    refine xa_l hx hb hK hP 15 3 rfl rfl (k := 0) (y := f1 0) (by decide) (by decide) rfl z_L_law_387 ?_
    refine lv_lload hx hb z_L_law_388 (lv_at hl 0 rfl) ?_
    refine W.lcmp hx hb z_L_law_390 ?_
    refine lv_if_eq (tgt := 396) hx hb z_L_law_391 (by decide) (fun c_391 => ?_) (fun c_391 => False.elim (c_391 (lcmp_eq.mpr ((e9 (c0_of (le_call h9) c_382)).trans (e6 (c0_of (le_call h9) c_382))))))
    refine lv_goto (tgt := 1079) hx hb z_L_law_396 (by decide) ?_
    exact hend v1 f1 _ _ _ _ _ ls (nx_call hi h9) hP hD hS (lv_sub hl [2, 3, 4, 5, 6] rfl)

set_option maxHeartbeats 4000000 in
set_option maxRecDepth 100000 in
theorem law_simulate {p : Program} {l : Launch} {e : Env} {s : State} {m : MethodId} {below : List Frame} {meth : Method} {c : Code} {b L : Nat} {xs : Nat → Int32} {dC : Nat → ClassId} {dI : Nat → Nat → Nat} {cI cZ cB cL9 mI mZ mL : ClassId} {q o : Nat → Nat} {a9 : Nat} {H : Heap} {locs : List Loc} {cells slots : Nat} {ls : Array Slot} (G : LwG p l s m meth c b L xs dC dI cI cZ cB cL9 mI mZ mL) {i : Nat} (h6 : i + 6 ≤ L) {v : St} {f : Nat → Int64} {th ch : Int32} {cd : Int64} (hi : Inv v) (hP : va_P (dC, dI) vwCl (lwW q o a9 cI cZ cB cL9 mI mZ mL v f th ch cd) H) (hD : va_D (lwA s) (lwW q o a9 cI cZ cB cL9 mI mZ mL v f th ch cd)) (hS : va_S (lwA s) s.heap H locs) (hl : lv_has ls 8 [(0, .ref b), (1, .ref (q 0)), (2, .ref (o 0)), (3, .ref a9), (4, .int (nI i))]) (hcap : cells + 1 ≤ room_1.cells ∧ slots + 6 ≤ room_1.slots) (hend : ∀ (v1 : St) (f1 : Nat → Int64) (th1 ch1 : Int32) (cd1 : Int64) (H1 : Heap) (locs1 : List Loc) (ls1 : Array Slot), Inv v1 → va_P (dC, dI) vwCl (lwW q o a9 cI cZ cB cL9 mI mZ mL v1 f1 th1 ch1 cd1) H1 → va_D (lwA s) (lwW q o a9 cI cZ cB cL9 mI mZ mL v1 f1 th1 ch1 cd1) → va_S (lwA s) s.heap H1 locs1 → lv_has ls1 8 [(0, .ref b), (1, .ref (q 0)), (2, .ref (o 0)), (3, .ref a9), (4, .int (nI i))] → W p l e room_1 s m #[Value.ref b] below meth c H1 locs1 (cells + 1) (slots + 6) (lw_Z below #[Value.ref b] s) (F0 m 1079 ls1 [])) : W p l e room_1 s m #[Value.ref b] below meth c H locs cells slots (lw_Z below #[Value.ref b] s) (F0 m 399 ls []) := by
  obtain ⟨⟨hx, hb, hr, hml, hown, hts, hlocks⟩, ⟨hXs, hbl, hL⟩, hK, hKm, hN, hX, hNC, hl0⟩ := id G
  have hA : ∀ q9 : Nat, s.heap.size ≤ q9 → lwA s q9 := fun _ h => h
  refine lv_aload_n hx hb z_L_law_399 rfl (lv_at hl 1 rfl) ?_
  refine lv_aload_n hx hb z_L_law_400 rfl (lv_at hl 0 rfl) ?_
  refine lv_iload hx hb z_L_law_401 (lv_at hl 4 rfl) ?_
  refine lv_iconst (v := 1) hx hb z_L_law_403 (by decide) ?_
  refine lv_iadd hx hb z_L_law_404 ?_
  refine lw_ld (t := 1) hx hb hXs hbl hS rfl (by omega) hL z_L_law_405 ?_
  refine lv_aload_n hx hb z_L_law_406 rfl (lv_at hl 0 rfl) ?_
  refine lv_iload hx hb z_L_law_407 (lv_at hl 4 rfl) ?_
  refine lv_iconst (v := 2) hx hb z_L_law_409 (by decide) ?_
  refine lv_iadd hx hb z_L_law_410 ?_
  refine lw_ld (t := 2) hx hb hXs hbl hS rfl (by omega) hL z_L_law_411 ?_
  refine lv_aload_n hx hb z_L_law_412 rfl (lv_at hl 0 rfl) ?_
  refine lv_iload hx hb z_L_law_413 (lv_at hl 4 rfl) ?_
  refine lv_iconst (v := 3) hx hb z_L_law_415 (by decide) ?_
  refine lv_iadd hx hb z_L_law_416 ?_
  refine lw_ld (t := 3) hx hb hXs hbl hS rfl (by omega) hL z_L_law_417 ?_
  refine lv_aload_n hx hb z_L_law_418 rfl (lv_at hl 0 rfl) ?_
  refine lv_iload hx hb z_L_law_419 (lv_at hl 4 rfl) ?_
  refine lv_iconst (v := 4) hx hb z_L_law_421 (by decide) ?_
  refine lv_iadd hx hb z_L_law_422 ?_
  refine lw_ld (t := 4) hx hb hXs hbl hS rfl (by omega) hL z_L_law_423 ?_
  refine lv_aload_n hx hb z_L_law_424 rfl (lv_at hl 3 rfl) ?_
  refine lwSi (As := [.ref (q 0), .int (xs (i + 1)), .int (xs (i + 2)), .int (xs (i + 3)), .int (xs (i + 4)), .ref a9]) (rest := []) (wc := wC q cI cZ cB v ++ [(a9, .inl (cL9, 1, .inr (.inl f)))]) (wo := wM o mI mZ mL v th ch cd) (wf := fun u : St × (Nat → Int64) => wC q cI cZ cB u.1 ++ [(a9, .inl (cL9, 1, .inr (.inl u.2)))]) ⟨hx, hb, hml, hown, hts⟩ (c_L_simulate l dC dI q cI cZ cB cL9 a9 f v H.size hl0 hi (xs (i + 1)) (xs (i + 2)) (xs (i + 3)) (xs (i + 4))) mw_389 mw_387 mw_388 mw_0 yd_L_simulate ⟨⟨rfl, rfl⟩, Nat.le_of_ble_eq_true rfl, Nat.le_of_ble_eq_true rfl⟩ hcap hP hK hD hN hS hA hX hNC rfl hl.1 rfl (Nat.le_of_ble_eq_true rfl) z_L_law_425 (fun r1 u1 H locs h9 hP hD hS => ?_)
  obtain ⟨v1, f1⟩ := u1
  obtain ⟨c9, R9, rfl, h9, e9⟩ := h9
  have hP : va_P (dC, dI) vwCl ((wC q cI cZ cB v1 ++ [(a9, .inl (cL9, 1, .inr (.inl f1)))]) ++ wM o mI mZ mL v th ch cd) H := hP
  have hD : va_D (lwA s) ((wC q cI cZ cB v1 ++ [(a9, .inl (cL9, 1, .inr (.inl f1)))]) ++ wM o mI mZ mL v th ch cd) := hD
  refine lv_istore (lv' := [(5, .int (nI c9)), (0, .ref b), (1, .ref (q 0)), (2, .ref (o 0)), (3, .ref a9), (4, .int (nI i))]) hx hb z_L_law_428 hl (by decide) rfl (fun ls hl => ?_)
  refine lv_aload_n hx hb z_L_law_430 rfl (lv_at hl 3 rfl) ?_
  refine lv_aload_n hx hb z_L_law_431 rfl (lv_at hl 1 rfl) ?_
  refine lv_iload hx hb z_L_law_432 (lv_at hl 5 rfl) ?_
  refine lv_iconst (v := 1) hx hb z_L_law_434 (by decide) ?_
  refine lv_iadd hx hb z_L_law_435 ?_
  refine lw_ld (t := 1) hx hb hXs hbl hS rfl (by omega) hL z_L_law_436 ?_
  refine lv_aload_n hx hb z_L_law_437 rfl (lv_at hl 1 rfl) ?_
  refine lv_iload hx hb z_L_law_438 (lv_at hl 5 rfl) ?_
  refine lv_iconst (v := 2) hx hb z_L_law_440 (by decide) ?_
  refine lv_iadd hx hb z_L_law_441 ?_
  refine lw_ld (t := 2) hx hb hXs hbl hS rfl (by omega) hL z_L_law_442 ?_
  refine lv_aload_n hx hb z_L_law_443 rfl (lv_at hl 1 rfl) ?_
  refine lv_iload hx hb z_L_law_444 (lv_at hl 5 rfl) ?_
  refine lv_iconst (v := 3) hx hb z_L_law_446 (by decide) ?_
  refine lv_iadd hx hb z_L_law_447 ?_
  refine lw_ld (t := 3) hx hb hXs hbl hS rfl (by omega) hL z_L_law_448 ?_
  refine lv_aload_n hx hb z_L_law_449 rfl (lv_at hl 1 rfl) ?_
  refine lv_iload hx hb z_L_law_450 (lv_at hl 5 rfl) ?_
  refine lv_iconst (v := 4) hx hb z_L_law_452 (by decide) ?_
  refine lv_iadd hx hb z_L_law_453 ?_
  refine lw_ld (t := 4) hx hb hXs hbl hS rfl (by omega) hL z_L_law_454 ?_
  refine lwMl (As := [.int (xs (i + 1)), .int (xs (i + 2)), .int (xs (i + 3)), .int (xs (i + 4))]) (rest := []) (wc := wC q cI cZ cB v1 ++ [(a9, .inl (cL9, 1, .inr (.inl f1)))]) (wm := wM o mI mZ mL v th ch cd) (wf := fun u : St × Int32 × Int32 × Int64 => wM o mI mZ mL u.1 u.2.1 u.2.2.1 u.2.2.2) ⟨hx, hb, hml, hown, hts⟩ (c_m_simulate l dC dI o mI mZ mL v th ch cd H.size hi (xs (i + 1)) (xs (i + 2)) (xs (i + 3)) (xs (i + 4))) mw_612 mw_609 mw_610 mw_611 mw_6 rfl yd_m_simulate ⟨⟨rfl, rfl⟩, Nat.le_of_ble_eq_true rfl, Nat.le_of_ble_eq_true rfl⟩ hcap (WrC.preV (sp_r hP) hKm (sd_r hD) hN (ci := 4) (q0 := 0) rfl rfl) hP hD hS hA rfl hl.1 rfl (Nat.le_of_ble_eq_true rfl) z_L_law_455 (fun r2 u2 H locs h8 hP hD hS => ?_)
  obtain ⟨v2, th2, ch2, cd2⟩ := u2
  obtain ⟨c8, e8, h8⟩ := h8
  have e8 : th2 = nI c8 := e8
  obtain ⟨rfl, e7, e6⟩ := det_sim hi h9 h8
  have e7 : v1 = v2 := e7
  subst e7
  subst e8
  have hP : va_P (dC, dI) vwCl ((wC q cI cZ cB v1 ++ [(a9, .inl (cL9, 1, .inr (.inl f1)))]) ++ wM o mI mZ mL v1 (nI c9) ch2 cd2) H := hP
  have hD : va_D (lwA s) ((wC q cI cZ cB v1 ++ [(a9, .inl (cL9, 1, .inr (.inl f1)))]) ++ wM o mI mZ mL v1 (nI c9) ch2 cd2) := hD
  refine lv_lstore (lv' := [(6, .long r2), (5, .int (nI c9)), (0, .ref b), (1, .ref (q 0)), (2, .ref (o 0)), (3, .ref a9), (4, .int (nI i))]) hx hb z_L_law_458 hl (by decide) rfl (fun ls hl => ?_)
  refine lv_aload_n hx hb z_L_law_460 rfl (lv_at hl 4 rfl) ?_
  refine rdVi (As := []) (rest := []) ⟨hx, hb, hml, hown, hts⟩ (c_m_thrown l dC dI o mI mZ mL v1 (nI c9) ch2 cd2) mw_536 mw_533 mw_534 mw_535 mw_6 rfl yd_m_thrown ⟨⟨rfl, rfl⟩, Nat.le_of_ble_eq_true rfl, Nat.le_of_ble_eq_true rfl⟩ hcap (RdC.preV (sp_r hP) hKm hN (ci := 4) (q0 := 0) rfl rfl) rfl hl.1 rfl (Nat.le_of_ble_eq_true rfl) z_L_law_461 (fun r3 h3 => ?_)
  subst h3
  refine lv_iload hx hb z_L_law_464 (lv_at hl 1 rfl) ?_
  refine lv_icmp_eq (tgt := 471) hx hb z_L_law_466 (by decide) (fun c_466 => ?_) (fun c_466 => False.elim (c_466 rfl))
  refine lv_iload hx hb z_L_law_471 (lv_at hl 1 rfl) ?_
  refine lv_if_ne (tgt := 487) hx hb z_L_law_473 (by decide) (fun c_473 => ?_) (fun c_473 => ?_)
  · refine lv_goto (tgt := 1079) hx hb z_L_law_487 (by decide) ?_
    exact hend v1 f1 _ _ _ _ _ ls (by rw [show v1 = v from h9.1]; exact hi) hP hD hS (lv_sub hl [2, 3, 4, 5, 6] rfl)
  · refine lv_aload_n hx hb z_L_law_476 rfl (lv_at hl 5 rfl) ?_
    refine lv_iconst (v := 0) hx hb z_L_law_477 (by decide) ?_
    refine W.eq (g2 := F0 m 478 ls (.int (nI 0) :: .ref a9 :: [])) rfl ?_
    refine xa_l hx hb hK hP 15 3 rfl rfl (k := 0) (y := f1 0) (by decide) (by decide) rfl z_L_law_478 ?_
    refine lv_lload hx hb z_L_law_479 (lv_at hl 0 rfl) ?_
    refine W.lcmp hx hb z_L_law_481 ?_
    refine lv_if_eq (tgt := 487) hx hb z_L_law_482 (by decide) (fun c_482 => ?_) (fun c_482 => False.elim (c_482 (lcmp_eq.mpr ((e9 (c0_of (le_sim h9) c_473)).trans (e6 (c0_of (le_sim h9) c_473))))))
    refine lv_goto (tgt := 1079) hx hb z_L_law_487 (by decide) ?_
    exact hend v1 f1 _ _ _ _ _ ls (by rw [show v1 = v from h9.1]; exact hi) hP hD hS (lv_sub hl [2, 3, 4, 5, 6] rfl)

set_option maxHeartbeats 4000000 in
set_option maxRecDepth 100000 in
theorem law_text {p : Program} {l : Launch} {e : Env} {s : State} {m : MethodId} {below : List Frame} {meth : Method} {c : Code} {b L : Nat} {xs : Nat → Int32} {dC : Nat → ClassId} {dI : Nat → Nat → Nat} {cI cZ cB cL9 mI mZ mL : ClassId} {q o : Nat → Nat} {a9 : Nat} {H : Heap} {locs : List Loc} {cells slots : Nat} {ls : Array Slot} (G : LwG p l s m meth c b L xs dC dI cI cZ cB cL9 mI mZ mL) {i : Nat} (h6 : i + 6 ≤ L) {v : St} {f : Nat → Int64} {th ch : Int32} {cd : Int64} (hi : Inv v) (hP : va_P (dC, dI) vwCl (lwW q o a9 cI cZ cB cL9 mI mZ mL v f th ch cd) H) (hD : va_D (lwA s) (lwW q o a9 cI cZ cB cL9 mI mZ mL v f th ch cd)) (hS : va_S (lwA s) s.heap H locs) (hl : lv_has ls 8 [(0, .ref b), (1, .ref (q 0)), (2, .ref (o 0)), (3, .ref a9), (4, .int (nI i))]) (hcap : cells + 1 ≤ room_1.cells ∧ slots + 6 ≤ room_1.slots) (hend : ∀ (v1 : St) (f1 : Nat → Int64) (th1 ch1 : Int32) (cd1 : Int64) (H1 : Heap) (locs1 : List Loc) (ls1 : Array Slot), Inv v1 → va_P (dC, dI) vwCl (lwW q o a9 cI cZ cB cL9 mI mZ mL v1 f1 th1 ch1 cd1) H1 → va_D (lwA s) (lwW q o a9 cI cZ cB cL9 mI mZ mL v1 f1 th1 ch1 cd1) → va_S (lwA s) s.heap H1 locs1 → lv_has ls1 8 [(0, .ref b), (1, .ref (q 0)), (2, .ref (o 0)), (3, .ref a9), (4, .int (nI i))] → W p l e room_1 s m #[Value.ref b] below meth c H1 locs1 (cells + 1) (slots + 6) (lw_Z below #[Value.ref b] s) (F0 m 1079 ls1 [])) : W p l e room_1 s m #[Value.ref b] below meth c H locs cells slots (lw_Z below #[Value.ref b] s) (F0 m 490 ls []) := by
  obtain ⟨⟨hx, hb, hr, hml, hown, hts, hlocks⟩, ⟨hXs, hbl, hL⟩, hK, hKm, hN, hX, hNC, hl0⟩ := id G
  have hA : ∀ q9 : Nat, s.heap.size ≤ q9 → lwA s q9 := fun _ h => h
  refine lv_aload_n hx hb z_L_law_490 rfl (lv_at hl 1 rfl) ?_
  refine lv_aload_n hx hb z_L_law_491 rfl (lv_at hl 0 rfl) ?_
  refine lv_iload hx hb z_L_law_492 (lv_at hl 4 rfl) ?_
  refine lv_iconst (v := 1) hx hb z_L_law_494 (by decide) ?_
  refine lv_iadd hx hb z_L_law_495 ?_
  refine lw_ld (t := 1) hx hb hXs hbl hS rfl (by omega) hL z_L_law_496 ?_
  refine lv_aload_n hx hb z_L_law_497 rfl (lv_at hl 0 rfl) ?_
  refine lv_iload hx hb z_L_law_498 (lv_at hl 4 rfl) ?_
  refine lv_iconst (v := 2) hx hb z_L_law_500 (by decide) ?_
  refine lv_iadd hx hb z_L_law_501 ?_
  refine lw_ld (t := 2) hx hb hXs hbl hS rfl (by omega) hL z_L_law_502 ?_
  refine lv_aload_n hx hb z_L_law_503 rfl (lv_at hl 0 rfl) ?_
  refine lv_iload hx hb z_L_law_504 (lv_at hl 4 rfl) ?_
  refine lv_iconst (v := 3) hx hb z_L_law_506 (by decide) ?_
  refine lv_iadd hx hb z_L_law_507 ?_
  refine lw_ld (t := 3) hx hb hXs hbl hS rfl (by omega) hL z_L_law_508 ?_
  refine lv_i2l hx hb z_L_law_509 rfl ?_
  refine lv_bipush (v := 32) hx hb z_L_law_510 (by decide) ?_
  refine lv_lshl hx hb z_L_law_512 rfl ?_
  refine lv_aload_n hx hb z_L_law_513 rfl (lv_at hl 0 rfl) ?_
  refine lv_iload hx hb z_L_law_514 (lv_at hl 4 rfl) ?_
  refine lv_iconst (v := 4) hx hb z_L_law_516 (by decide) ?_
  refine lv_iadd hx hb z_L_law_517 ?_
  refine lw_ld (t := 4) hx hb hXs hbl hS rfl (by omega) hL z_L_law_518 ?_
  refine lv_i2l hx hb z_L_law_519 rfl ?_
  refine lv_ldc2 (v := 4294967295) hx hb hown (hts _ (cw_in mw_651 rfl)) z_L_law_520 ?_
  refine lv_land hx hb z_L_law_523 ?_
  refine lv_lor hx hb z_L_law_524 ?_
  refine lv_aload_n hx hb z_L_law_525 rfl (lv_at hl 0 rfl) ?_
  refine lv_iload hx hb z_L_law_526 (lv_at hl 4 rfl) ?_
  refine lv_iconst (v := 5) hx hb z_L_law_528 (by decide) ?_
  refine lv_iadd hx hb z_L_law_529 ?_
  refine lw_ld (t := 5) hx hb hXs hbl hS rfl (by omega) hL z_L_law_530 ?_
  refine lv_aload_n hx hb z_L_law_531 rfl (lv_at hl 3 rfl) ?_
  refine lwSi (As := [.ref (q 0), .int (xs (i + 1)), .int (xs (i + 2)), .long ((((xs (i + 3)).toInt64) <<< ((32 : Int32).toInt64 &&& 63)) ||| (((xs (i + 4)).toInt64) &&& 4294967295)), .int (xs (i + 5)), .ref a9]) (rest := []) (wc := wC q cI cZ cB v ++ [(a9, .inl (cL9, 1, .inr (.inl f)))]) (wo := wM o mI mZ mL v th ch cd) (wf := fun u : St × (Nat → Int64) => wC q cI cZ cB u.1 ++ [(a9, .inl (cL9, 1, .inr (.inl u.2)))]) ⟨hx, hb, hml, hown, hts⟩ (c_L_text l dC dI q cI cZ cB cL9 a9 f v H.size hl0 hi (xs (i + 1)) (xs (i + 2)) ((((xs (i + 3)).toInt64) <<< ((32 : Int32).toInt64 &&& 63)) ||| (((xs (i + 4)).toInt64) &&& 4294967295)) (xs (i + 5))) mw_396 mw_394 mw_395 mw_0 yd_L_text ⟨⟨rfl, rfl⟩, Nat.le_of_ble_eq_true rfl, Nat.le_of_ble_eq_true rfl⟩ hcap hP hK hD hN hS hA hX hNC rfl hl.1 rfl (Nat.le_of_ble_eq_true rfl) z_L_law_532 (fun r1 u1 H locs h9 hP hD hS => ?_)
  obtain ⟨v1, f1⟩ := u1
  obtain ⟨c9, R9, rfl, h9, e9⟩ := h9
  have hP : va_P (dC, dI) vwCl ((wC q cI cZ cB v1 ++ [(a9, .inl (cL9, 1, .inr (.inl f1)))]) ++ wM o mI mZ mL v th ch cd) H := hP
  have hD : va_D (lwA s) ((wC q cI cZ cB v1 ++ [(a9, .inl (cL9, 1, .inr (.inl f1)))]) ++ wM o mI mZ mL v th ch cd) := hD
  refine lv_istore (lv' := [(5, .int (nI c9)), (0, .ref b), (1, .ref (q 0)), (2, .ref (o 0)), (3, .ref a9), (4, .int (nI i))]) hx hb z_L_law_535 hl (by decide) rfl (fun ls hl => ?_)
  refine lv_aload_n hx hb z_L_law_537 rfl (lv_at hl 3 rfl) ?_
  refine lv_aload_n hx hb z_L_law_538 rfl (lv_at hl 1 rfl) ?_
  refine lv_iload hx hb z_L_law_539 (lv_at hl 5 rfl) ?_
  refine lv_iconst (v := 1) hx hb z_L_law_541 (by decide) ?_
  refine lv_iadd hx hb z_L_law_542 ?_
  refine lw_ld (t := 1) hx hb hXs hbl hS rfl (by omega) hL z_L_law_543 ?_
  refine lv_aload_n hx hb z_L_law_544 rfl (lv_at hl 1 rfl) ?_
  refine lv_iload hx hb z_L_law_545 (lv_at hl 5 rfl) ?_
  refine lv_iconst (v := 2) hx hb z_L_law_547 (by decide) ?_
  refine lv_iadd hx hb z_L_law_548 ?_
  refine lw_ld (t := 2) hx hb hXs hbl hS rfl (by omega) hL z_L_law_549 ?_
  refine lv_aload_n hx hb z_L_law_550 rfl (lv_at hl 1 rfl) ?_
  refine lv_iload hx hb z_L_law_551 (lv_at hl 5 rfl) ?_
  refine lv_iconst (v := 3) hx hb z_L_law_553 (by decide) ?_
  refine lv_iadd hx hb z_L_law_554 ?_
  refine lw_ld (t := 3) hx hb hXs hbl hS rfl (by omega) hL z_L_law_555 ?_
  refine lv_i2l hx hb z_L_law_556 rfl ?_
  refine lv_bipush (v := 32) hx hb z_L_law_557 (by decide) ?_
  refine lv_lshl hx hb z_L_law_559 rfl ?_
  refine lv_aload_n hx hb z_L_law_560 rfl (lv_at hl 1 rfl) ?_
  refine lv_iload hx hb z_L_law_561 (lv_at hl 5 rfl) ?_
  refine lv_iconst (v := 4) hx hb z_L_law_563 (by decide) ?_
  refine lv_iadd hx hb z_L_law_564 ?_
  refine lw_ld (t := 4) hx hb hXs hbl hS rfl (by omega) hL z_L_law_565 ?_
  refine lv_i2l hx hb z_L_law_566 rfl ?_
  refine lv_ldc2 (v := 4294967295) hx hb hown (hts _ (cw_in mw_651 rfl)) z_L_law_567 ?_
  refine lv_land hx hb z_L_law_570 ?_
  refine lv_lor hx hb z_L_law_571 ?_
  refine lv_aload_n hx hb z_L_law_572 rfl (lv_at hl 1 rfl) ?_
  refine lv_iload hx hb z_L_law_573 (lv_at hl 5 rfl) ?_
  refine lv_iconst (v := 5) hx hb z_L_law_575 (by decide) ?_
  refine lv_iadd hx hb z_L_law_576 ?_
  refine lw_ld (t := 5) hx hb hXs hbl hS rfl (by omega) hL z_L_law_577 ?_
  refine lwMi (As := [.int (xs (i + 1)), .int (xs (i + 2)), .long ((((xs (i + 3)).toInt64) <<< ((32 : Int32).toInt64 &&& 63)) ||| (((xs (i + 4)).toInt64) &&& 4294967295)), .int (xs (i + 5))]) (rest := []) (wc := wC q cI cZ cB v1 ++ [(a9, .inl (cL9, 1, .inr (.inl f1)))]) (wm := wM o mI mZ mL v th ch cd) (wf := fun u : St × Int32 × Int32 × Int64 => wM o mI mZ mL u.1 u.2.1 u.2.2.1 u.2.2.2) ⟨hx, hb, hml, hown, hts⟩ (c_m_text l dC dI o mI mZ mL v th ch cd H.size hi (xs (i + 1)) (xs (i + 2)) ((((xs (i + 3)).toInt64) <<< ((32 : Int32).toInt64 &&& 63)) ||| (((xs (i + 4)).toInt64) &&& 4294967295)) (xs (i + 5))) mw_616 mw_613 mw_614 mw_615 mw_6 rfl yd_m_text ⟨⟨rfl, rfl⟩, Nat.le_of_ble_eq_true rfl, Nat.le_of_ble_eq_true rfl⟩ hcap (WrC.preV (sp_r hP) hKm (sd_r hD) hN (ci := 4) (q0 := 0) rfl rfl) hP hD hS hA rfl hl.1 rfl (Nat.le_of_ble_eq_true rfl) z_L_law_578 (fun r2 u2 H locs h8 hP hD hS => ?_)
  obtain ⟨v2, th2, ch2, cd2⟩ := u2
  obtain ⟨c8, e8, h8⟩ := h8
  have e8 : th2 = nI c8 := e8
  obtain ⟨rfl, e7, e6⟩ := det_text hi h9 h8
  have e7 : v1 = v2 := e7
  subst e7
  subst e8
  have hP : va_P (dC, dI) vwCl ((wC q cI cZ cB v1 ++ [(a9, .inl (cL9, 1, .inr (.inl f1)))]) ++ wM o mI mZ mL v1 (nI c9) ch2 cd2) H := hP
  have hD : va_D (lwA s) ((wC q cI cZ cB v1 ++ [(a9, .inl (cL9, 1, .inr (.inl f1)))]) ++ wM o mI mZ mL v1 (nI c9) ch2 cd2) := hD
  refine lv_istore (lv' := [(6, .int r2), (5, .int (nI c9)), (0, .ref b), (1, .ref (q 0)), (2, .ref (o 0)), (3, .ref a9), (4, .int (nI i))]) hx hb z_L_law_581 hl (by decide) rfl (fun ls hl => ?_)
  refine lv_aload_n hx hb z_L_law_583 rfl (lv_at hl 4 rfl) ?_
  refine rdVi (As := []) (rest := []) ⟨hx, hb, hml, hown, hts⟩ (c_m_thrown l dC dI o mI mZ mL v1 (nI c9) ch2 cd2) mw_536 mw_533 mw_534 mw_535 mw_6 rfl yd_m_thrown ⟨⟨rfl, rfl⟩, Nat.le_of_ble_eq_true rfl, Nat.le_of_ble_eq_true rfl⟩ hcap (RdC.preV (sp_r hP) hKm hN (ci := 4) (q0 := 0) rfl rfl) rfl hl.1 rfl (Nat.le_of_ble_eq_true rfl) z_L_law_584 (fun r3 h3 => ?_)
  subst h3
  refine lv_iload hx hb z_L_law_587 (lv_at hl 1 rfl) ?_
  refine lv_icmp_eq (tgt := 594) hx hb z_L_law_589 (by decide) (fun c_589 => ?_) (fun c_589 => False.elim (c_589 rfl))
  refine lv_iload hx hb z_L_law_594 (lv_at hl 1 rfl) ?_
  refine lv_if_ne (tgt := 611) hx hb z_L_law_596 (by decide) (fun c_596 => ?_) (fun c_596 => ?_)
  · refine lv_goto (tgt := 1079) hx hb z_L_law_611 (by decide) ?_
    exact hend v1 f1 _ _ _ _ _ ls (nx_text hi h9) hP hD hS (lv_sub hl [2, 3, 4, 5, 6] rfl)
  · refine lv_aload_n hx hb z_L_law_599 rfl (lv_at hl 5 rfl) ?_
    refine lv_iconst (v := 0) hx hb z_L_law_600 (by decide) ?_
    refine W.eq (g2 := F0 m 601 ls (.int (nI 0) :: .ref a9 :: [])) rfl ?_
    refine xa_l hx hb hK hP 15 3 rfl rfl (k := 0) (y := f1 0) (by decide) (by decide) rfl z_L_law_601 ?_
    refine lv_iload hx hb z_L_law_602 (lv_at hl 0 rfl) ?_
    refine lv_i2l hx hb z_L_law_604 rfl ?_
    refine W.lcmp hx hb z_L_law_605 ?_
    refine lv_if_eq (tgt := 611) hx hb z_L_law_606 (by decide) (fun c_606 => ?_) (fun c_606 => False.elim (c_606 (lcmp_eq.mpr ((e9 (c0_of (le_text h9) c_596)).trans (congrArg Int32.toInt64 (e6 (c0_of (le_text h9) c_596)))))))
    refine lv_goto (tgt := 1079) hx hb z_L_law_611 (by decide) ?_
    exact hend v1 f1 _ _ _ _ _ ls (nx_text hi h9) hP hD hS (lv_sub hl [2, 3, 4, 5, 6] rfl)

set_option maxHeartbeats 4000000 in
set_option maxRecDepth 100000 in
theorem law_textAt {p : Program} {l : Launch} {e : Env} {s : State} {m : MethodId} {below : List Frame} {meth : Method} {c : Code} {b L : Nat} {xs : Nat → Int32} {dC : Nat → ClassId} {dI : Nat → Nat → Nat} {cI cZ cB cL9 mI mZ mL : ClassId} {q o : Nat → Nat} {a9 : Nat} {H : Heap} {locs : List Loc} {cells slots : Nat} {ls : Array Slot} (G : LwG p l s m meth c b L xs dC dI cI cZ cB cL9 mI mZ mL) {i : Nat} (h6 : i + 6 ≤ L) {v : St} {f : Nat → Int64} {th ch : Int32} {cd : Int64} (hi : Inv v) (hP : va_P (dC, dI) vwCl (lwW q o a9 cI cZ cB cL9 mI mZ mL v f th ch cd) H) (hD : va_D (lwA s) (lwW q o a9 cI cZ cB cL9 mI mZ mL v f th ch cd)) (hS : va_S (lwA s) s.heap H locs) (hl : lv_has ls 8 [(0, .ref b), (1, .ref (q 0)), (2, .ref (o 0)), (3, .ref a9), (4, .int (nI i))]) (hcap : cells + 1 ≤ room_1.cells ∧ slots + 6 ≤ room_1.slots) (hend : ∀ (v1 : St) (f1 : Nat → Int64) (th1 ch1 : Int32) (cd1 : Int64) (H1 : Heap) (locs1 : List Loc) (ls1 : Array Slot), Inv v1 → va_P (dC, dI) vwCl (lwW q o a9 cI cZ cB cL9 mI mZ mL v1 f1 th1 ch1 cd1) H1 → va_D (lwA s) (lwW q o a9 cI cZ cB cL9 mI mZ mL v1 f1 th1 ch1 cd1) → va_S (lwA s) s.heap H1 locs1 → lv_has ls1 8 [(0, .ref b), (1, .ref (q 0)), (2, .ref (o 0)), (3, .ref a9), (4, .int (nI i))] → W p l e room_1 s m #[Value.ref b] below meth c H1 locs1 (cells + 1) (slots + 6) (lw_Z below #[Value.ref b] s) (F0 m 1079 ls1 [])) : W p l e room_1 s m #[Value.ref b] below meth c H locs cells slots (lw_Z below #[Value.ref b] s) (F0 m 614 ls []) := by
  obtain ⟨⟨hx, hb, hr, hml, hown, hts, hlocks⟩, ⟨hXs, hbl, hL⟩, hK, hKm, hN, hX, hNC, hl0⟩ := id G
  have hA : ∀ q9 : Nat, s.heap.size ≤ q9 → lwA s q9 := fun _ h => h
  refine lv_aload_n hx hb z_L_law_614 rfl (lv_at hl 1 rfl) ?_
  refine lv_aload_n hx hb z_L_law_615 rfl (lv_at hl 0 rfl) ?_
  refine lv_iload hx hb z_L_law_616 (lv_at hl 4 rfl) ?_
  refine lv_iconst (v := 1) hx hb z_L_law_618 (by decide) ?_
  refine lv_iadd hx hb z_L_law_619 ?_
  refine lw_ld (t := 1) hx hb hXs hbl hS rfl (by omega) hL z_L_law_620 ?_
  refine lv_aload_n hx hb z_L_law_621 rfl (lv_at hl 0 rfl) ?_
  refine lv_iload hx hb z_L_law_622 (lv_at hl 4 rfl) ?_
  refine lv_iconst (v := 2) hx hb z_L_law_624 (by decide) ?_
  refine lv_iadd hx hb z_L_law_625 ?_
  refine lw_ld (t := 2) hx hb hXs hbl hS rfl (by omega) hL z_L_law_626 ?_
  refine lv_aload_n hx hb z_L_law_627 rfl (lv_at hl 0 rfl) ?_
  refine lv_iload hx hb z_L_law_628 (lv_at hl 4 rfl) ?_
  refine lv_iconst (v := 3) hx hb z_L_law_630 (by decide) ?_
  refine lv_iadd hx hb z_L_law_631 ?_
  refine lw_ld (t := 3) hx hb hXs hbl hS rfl (by omega) hL z_L_law_632 ?_
  refine lv_aload_n hx hb z_L_law_633 rfl (lv_at hl 3 rfl) ?_
  refine lwSi (As := [.ref (q 0), .int (xs (i + 1)), .int (xs (i + 2)), .int (xs (i + 3)), .ref a9]) (rest := []) (wc := wC q cI cZ cB v ++ [(a9, .inl (cL9, 1, .inr (.inl f)))]) (wo := wM o mI mZ mL v th ch cd) (wf := fun u : St × (Nat → Int64) => wC q cI cZ cB u.1 ++ [(a9, .inl (cL9, 1, .inr (.inl u.2)))]) ⟨hx, hb, hml, hown, hts⟩ (c_L_textAt l dC dI q cI cZ cB cL9 a9 f v H.size hl0 hi (xs (i + 1)) (xs (i + 2)) (xs (i + 3))) mw_413 mw_411 mw_412 mw_0 yd_L_textAt ⟨⟨rfl, rfl⟩, Nat.le_of_ble_eq_true rfl, Nat.le_of_ble_eq_true rfl⟩ hcap hP hK hD hN hS hA hX hNC rfl hl.1 rfl (Nat.le_of_ble_eq_true rfl) z_L_law_634 (fun r1 u1 H locs h9 hP hD hS => ?_)
  obtain ⟨v1, f1⟩ := u1
  obtain ⟨c9, R9, rfl, h9, e9⟩ := h9
  have hP : va_P (dC, dI) vwCl ((wC q cI cZ cB v1 ++ [(a9, .inl (cL9, 1, .inr (.inl f1)))]) ++ wM o mI mZ mL v th ch cd) H := hP
  have hD : va_D (lwA s) ((wC q cI cZ cB v1 ++ [(a9, .inl (cL9, 1, .inr (.inl f1)))]) ++ wM o mI mZ mL v th ch cd) := hD
  refine lv_istore (lv' := [(5, .int (nI c9)), (0, .ref b), (1, .ref (q 0)), (2, .ref (o 0)), (3, .ref a9), (4, .int (nI i))]) hx hb z_L_law_637 hl (by decide) rfl (fun ls hl => ?_)
  refine lv_aload_n hx hb z_L_law_639 rfl (lv_at hl 3 rfl) ?_
  refine lv_aload_n hx hb z_L_law_640 rfl (lv_at hl 1 rfl) ?_
  refine lv_iload hx hb z_L_law_641 (lv_at hl 5 rfl) ?_
  refine lv_iconst (v := 1) hx hb z_L_law_643 (by decide) ?_
  refine lv_iadd hx hb z_L_law_644 ?_
  refine lw_ld (t := 1) hx hb hXs hbl hS rfl (by omega) hL z_L_law_645 ?_
  refine lv_aload_n hx hb z_L_law_646 rfl (lv_at hl 1 rfl) ?_
  refine lv_iload hx hb z_L_law_647 (lv_at hl 5 rfl) ?_
  refine lv_iconst (v := 2) hx hb z_L_law_649 (by decide) ?_
  refine lv_iadd hx hb z_L_law_650 ?_
  refine lw_ld (t := 2) hx hb hXs hbl hS rfl (by omega) hL z_L_law_651 ?_
  refine lv_aload_n hx hb z_L_law_652 rfl (lv_at hl 1 rfl) ?_
  refine lv_iload hx hb z_L_law_653 (lv_at hl 5 rfl) ?_
  refine lv_iconst (v := 3) hx hb z_L_law_655 (by decide) ?_
  refine lv_iadd hx hb z_L_law_656 ?_
  refine lw_ld (t := 3) hx hb hXs hbl hS rfl (by omega) hL z_L_law_657 ?_
  refine lwMi (As := [.int (xs (i + 1)), .int (xs (i + 2)), .int (xs (i + 3))]) (rest := []) (wc := wC q cI cZ cB v1 ++ [(a9, .inl (cL9, 1, .inr (.inl f1)))]) (wm := wM o mI mZ mL v th ch cd) (wf := fun u : St × Int32 × Int32 × Int64 => wM o mI mZ mL u.1 u.2.1 u.2.2.1 u.2.2.2) ⟨hx, hb, hml, hown, hts⟩ (c_m_textAt l dC dI o mI mZ mL v th ch cd H.size hi (xs (i + 1)) (xs (i + 2)) (xs (i + 3))) mw_620 mw_617 mw_618 mw_619 mw_6 rfl yd_m_textAt ⟨⟨rfl, rfl⟩, Nat.le_of_ble_eq_true rfl, Nat.le_of_ble_eq_true rfl⟩ hcap (WrC.preV (sp_r hP) hKm (sd_r hD) hN (ci := 4) (q0 := 0) rfl rfl) hP hD hS hA rfl hl.1 rfl (Nat.le_of_ble_eq_true rfl) z_L_law_658 (fun r2 u2 H locs h8 hP hD hS => ?_)
  obtain ⟨v2, th2, ch2, cd2⟩ := u2
  obtain ⟨c8, e8, h8⟩ := h8
  have e8 : th2 = nI c8 := e8
  obtain ⟨rfl, e7, e6⟩ := det_textAt hi h9 h8
  have e7 : v1 = v2 := e7
  subst e7
  subst e8
  have hP : va_P (dC, dI) vwCl ((wC q cI cZ cB v1 ++ [(a9, .inl (cL9, 1, .inr (.inl f1)))]) ++ wM o mI mZ mL v1 (nI c9) ch2 cd2) H := hP
  have hD : va_D (lwA s) ((wC q cI cZ cB v1 ++ [(a9, .inl (cL9, 1, .inr (.inl f1)))]) ++ wM o mI mZ mL v1 (nI c9) ch2 cd2) := hD
  refine lv_istore (lv' := [(6, .int r2), (5, .int (nI c9)), (0, .ref b), (1, .ref (q 0)), (2, .ref (o 0)), (3, .ref a9), (4, .int (nI i))]) hx hb z_L_law_661 hl (by decide) rfl (fun ls hl => ?_)
  refine lv_aload_n hx hb z_L_law_663 rfl (lv_at hl 4 rfl) ?_
  refine rdVi (As := []) (rest := []) ⟨hx, hb, hml, hown, hts⟩ (c_m_thrown l dC dI o mI mZ mL v1 (nI c9) ch2 cd2) mw_536 mw_533 mw_534 mw_535 mw_6 rfl yd_m_thrown ⟨⟨rfl, rfl⟩, Nat.le_of_ble_eq_true rfl, Nat.le_of_ble_eq_true rfl⟩ hcap (RdC.preV (sp_r hP) hKm hN (ci := 4) (q0 := 0) rfl rfl) rfl hl.1 rfl (Nat.le_of_ble_eq_true rfl) z_L_law_664 (fun r3 h3 => ?_)
  subst h3
  refine lv_iload hx hb z_L_law_667 (lv_at hl 1 rfl) ?_
  refine lv_icmp_eq (tgt := 674) hx hb z_L_law_669 (by decide) (fun c_669 => ?_) (fun c_669 => False.elim (c_669 rfl))
  refine lv_iload hx hb z_L_law_674 (lv_at hl 1 rfl) ?_
  refine lv_if_ne (tgt := 691) hx hb z_L_law_676 (by decide) (fun c_676 => ?_) (fun c_676 => ?_)
  · refine lv_goto (tgt := 1079) hx hb z_L_law_691 (by decide) ?_
    exact hend v1 f1 _ _ _ _ _ ls (by rw [show v1 = v from h9.1]; exact hi) hP hD hS (lv_sub hl [2, 3, 4, 5, 6] rfl)
  · refine lv_aload_n hx hb z_L_law_679 rfl (lv_at hl 5 rfl) ?_
    refine lv_iconst (v := 0) hx hb z_L_law_680 (by decide) ?_
    refine W.eq (g2 := F0 m 681 ls (.int (nI 0) :: .ref a9 :: [])) rfl ?_
    refine xa_l hx hb hK hP 15 3 rfl rfl (k := 0) (y := f1 0) (by decide) (by decide) rfl z_L_law_681 ?_
    refine lv_iload hx hb z_L_law_682 (lv_at hl 0 rfl) ?_
    refine lv_i2l hx hb z_L_law_684 rfl ?_
    refine W.lcmp hx hb z_L_law_685 ?_
    refine lv_if_eq (tgt := 691) hx hb z_L_law_686 (by decide) (fun c_686 => ?_) (fun c_686 => False.elim (c_686 (lcmp_eq.mpr ((e9 (c0_of (le_textAt h9) c_676)).trans (congrArg Int32.toInt64 (e6 (c0_of (le_textAt h9) c_676)))))))
    refine lv_goto (tgt := 1079) hx hb z_L_law_691 (by decide) ?_
    exact hend v1 f1 _ _ _ _ _ ls (by rw [show v1 = v from h9.1]; exact hi) hP hD hS (lv_sub hl [2, 3, 4, 5, 6] rfl)

set_option maxHeartbeats 4000000 in
set_option maxRecDepth 100000 in
theorem law_find {p : Program} {l : Launch} {e : Env} {s : State} {m : MethodId} {below : List Frame} {meth : Method} {c : Code} {b L : Nat} {xs : Nat → Int32} {dC : Nat → ClassId} {dI : Nat → Nat → Nat} {cI cZ cB cL9 mI mZ mL : ClassId} {q o : Nat → Nat} {a9 : Nat} {H : Heap} {locs : List Loc} {cells slots : Nat} {ls : Array Slot} (G : LwG p l s m meth c b L xs dC dI cI cZ cB cL9 mI mZ mL) {i : Nat} (h6 : i + 6 ≤ L) {v : St} {f : Nat → Int64} {th ch : Int32} {cd : Int64} (hi : Inv v) (hP : va_P (dC, dI) vwCl (lwW q o a9 cI cZ cB cL9 mI mZ mL v f th ch cd) H) (hD : va_D (lwA s) (lwW q o a9 cI cZ cB cL9 mI mZ mL v f th ch cd)) (hS : va_S (lwA s) s.heap H locs) (hl : lv_has ls 8 [(0, .ref b), (1, .ref (q 0)), (2, .ref (o 0)), (3, .ref a9), (4, .int (nI i))]) (hcap : cells + 1 ≤ room_1.cells ∧ slots + 6 ≤ room_1.slots) (hend : ∀ (v1 : St) (f1 : Nat → Int64) (th1 ch1 : Int32) (cd1 : Int64) (H1 : Heap) (locs1 : List Loc) (ls1 : Array Slot), Inv v1 → va_P (dC, dI) vwCl (lwW q o a9 cI cZ cB cL9 mI mZ mL v1 f1 th1 ch1 cd1) H1 → va_D (lwA s) (lwW q o a9 cI cZ cB cL9 mI mZ mL v1 f1 th1 ch1 cd1) → va_S (lwA s) s.heap H1 locs1 → lv_has ls1 8 [(0, .ref b), (1, .ref (q 0)), (2, .ref (o 0)), (3, .ref a9), (4, .int (nI i))] → W p l e room_1 s m #[Value.ref b] below meth c H1 locs1 (cells + 1) (slots + 6) (lw_Z below #[Value.ref b] s) (F0 m 1079 ls1 [])) : W p l e room_1 s m #[Value.ref b] below meth c H locs cells slots (lw_Z below #[Value.ref b] s) (F0 m 694 ls []) := by
  obtain ⟨⟨hx, hb, hr, hml, hown, hts, hlocks⟩, ⟨hXs, hbl, hL⟩, hK, hKm, hN, hX, hNC, hl0⟩ := id G
  have hA : ∀ q9 : Nat, s.heap.size ≤ q9 → lwA s q9 := fun _ h => h
  refine lv_aload_n hx hb z_L_law_694 rfl (lv_at hl 1 rfl) ?_
  refine lv_aload_n hx hb z_L_law_695 rfl (lv_at hl 0 rfl) ?_
  refine lv_iload hx hb z_L_law_696 (lv_at hl 4 rfl) ?_
  refine lv_iconst (v := 1) hx hb z_L_law_698 (by decide) ?_
  refine lv_iadd hx hb z_L_law_699 ?_
  refine lw_ld (t := 1) hx hb hXs hbl hS rfl (by omega) hL z_L_law_700 ?_
  refine lv_aload_n hx hb z_L_law_701 rfl (lv_at hl 0 rfl) ?_
  refine lv_iload hx hb z_L_law_702 (lv_at hl 4 rfl) ?_
  refine lv_iconst (v := 2) hx hb z_L_law_704 (by decide) ?_
  refine lv_iadd hx hb z_L_law_705 ?_
  refine lw_ld (t := 2) hx hb hXs hbl hS rfl (by omega) hL z_L_law_706 ?_
  refine lv_i2l hx hb z_L_law_707 rfl ?_
  refine lv_bipush (v := 32) hx hb z_L_law_708 (by decide) ?_
  refine lv_lshl hx hb z_L_law_710 rfl ?_
  refine lv_aload_n hx hb z_L_law_711 rfl (lv_at hl 0 rfl) ?_
  refine lv_iload hx hb z_L_law_712 (lv_at hl 4 rfl) ?_
  refine lv_iconst (v := 3) hx hb z_L_law_714 (by decide) ?_
  refine lv_iadd hx hb z_L_law_715 ?_
  refine lw_ld (t := 3) hx hb hXs hbl hS rfl (by omega) hL z_L_law_716 ?_
  refine lv_i2l hx hb z_L_law_717 rfl ?_
  refine lv_ldc2 (v := 4294967295) hx hb hown (hts _ (cw_in mw_651 rfl)) z_L_law_718 ?_
  refine lv_land hx hb z_L_law_721 ?_
  refine lv_lor hx hb z_L_law_722 ?_
  refine lv_aload_n hx hb z_L_law_723 rfl (lv_at hl 0 rfl) ?_
  refine lv_iload hx hb z_L_law_724 (lv_at hl 4 rfl) ?_
  refine lv_iconst (v := 4) hx hb z_L_law_726 (by decide) ?_
  refine lv_iadd hx hb z_L_law_727 ?_
  refine lw_ld (t := 4) hx hb hXs hbl hS rfl (by omega) hL z_L_law_728 ?_
  refine lv_aload_n hx hb z_L_law_729 rfl (lv_at hl 3 rfl) ?_
  refine lwSi (As := [.ref (q 0), .int (xs (i + 1)), .long ((((xs (i + 2)).toInt64) <<< ((32 : Int32).toInt64 &&& 63)) ||| (((xs (i + 3)).toInt64) &&& 4294967295)), .int (xs (i + 4)), .ref a9]) (rest := []) (wc := wC q cI cZ cB v ++ [(a9, .inl (cL9, 1, .inr (.inl f)))]) (wo := wM o mI mZ mL v th ch cd) (wf := fun u : St × (Nat → Int64) => wC q cI cZ cB u.1 ++ [(a9, .inl (cL9, 1, .inr (.inl u.2)))]) ⟨hx, hb, hml, hown, hts⟩ (c_L_find l dC dI q cI cZ cB cL9 a9 f v H.size hl0 hi (xs (i + 1)) ((((xs (i + 2)).toInt64) <<< ((32 : Int32).toInt64 &&& 63)) ||| (((xs (i + 3)).toInt64) &&& 4294967295)) (xs (i + 4))) mw_422 mw_420 mw_421 mw_0 yd_L_find ⟨⟨rfl, rfl⟩, Nat.le_of_ble_eq_true rfl, Nat.le_of_ble_eq_true rfl⟩ hcap hP hK hD hN hS hA hX hNC rfl hl.1 rfl (Nat.le_of_ble_eq_true rfl) z_L_law_730 (fun r1 u1 H locs h9 hP hD hS => ?_)
  obtain ⟨v1, f1⟩ := u1
  obtain ⟨c9, R9, rfl, h9, e9⟩ := h9
  have hP : va_P (dC, dI) vwCl ((wC q cI cZ cB v1 ++ [(a9, .inl (cL9, 1, .inr (.inl f1)))]) ++ wM o mI mZ mL v th ch cd) H := hP
  have hD : va_D (lwA s) ((wC q cI cZ cB v1 ++ [(a9, .inl (cL9, 1, .inr (.inl f1)))]) ++ wM o mI mZ mL v th ch cd) := hD
  refine lv_istore (lv' := [(5, .int (nI c9)), (0, .ref b), (1, .ref (q 0)), (2, .ref (o 0)), (3, .ref a9), (4, .int (nI i))]) hx hb z_L_law_733 hl (by decide) rfl (fun ls hl => ?_)
  refine lv_aload_n hx hb z_L_law_735 rfl (lv_at hl 3 rfl) ?_
  refine lv_aload_n hx hb z_L_law_736 rfl (lv_at hl 1 rfl) ?_
  refine lv_iload hx hb z_L_law_737 (lv_at hl 5 rfl) ?_
  refine lv_iconst (v := 1) hx hb z_L_law_739 (by decide) ?_
  refine lv_iadd hx hb z_L_law_740 ?_
  refine lw_ld (t := 1) hx hb hXs hbl hS rfl (by omega) hL z_L_law_741 ?_
  refine lv_aload_n hx hb z_L_law_742 rfl (lv_at hl 1 rfl) ?_
  refine lv_iload hx hb z_L_law_743 (lv_at hl 5 rfl) ?_
  refine lv_iconst (v := 2) hx hb z_L_law_745 (by decide) ?_
  refine lv_iadd hx hb z_L_law_746 ?_
  refine lw_ld (t := 2) hx hb hXs hbl hS rfl (by omega) hL z_L_law_747 ?_
  refine lv_i2l hx hb z_L_law_748 rfl ?_
  refine lv_bipush (v := 32) hx hb z_L_law_749 (by decide) ?_
  refine lv_lshl hx hb z_L_law_751 rfl ?_
  refine lv_aload_n hx hb z_L_law_752 rfl (lv_at hl 1 rfl) ?_
  refine lv_iload hx hb z_L_law_753 (lv_at hl 5 rfl) ?_
  refine lv_iconst (v := 3) hx hb z_L_law_755 (by decide) ?_
  refine lv_iadd hx hb z_L_law_756 ?_
  refine lw_ld (t := 3) hx hb hXs hbl hS rfl (by omega) hL z_L_law_757 ?_
  refine lv_i2l hx hb z_L_law_758 rfl ?_
  refine lv_ldc2 (v := 4294967295) hx hb hown (hts _ (cw_in mw_651 rfl)) z_L_law_759 ?_
  refine lv_land hx hb z_L_law_762 ?_
  refine lv_lor hx hb z_L_law_763 ?_
  refine lv_aload_n hx hb z_L_law_764 rfl (lv_at hl 1 rfl) ?_
  refine lv_iload hx hb z_L_law_765 (lv_at hl 5 rfl) ?_
  refine lv_iconst (v := 4) hx hb z_L_law_767 (by decide) ?_
  refine lv_iadd hx hb z_L_law_768 ?_
  refine lw_ld (t := 4) hx hb hXs hbl hS rfl (by omega) hL z_L_law_769 ?_
  refine lwMi (As := [.int (xs (i + 1)), .long ((((xs (i + 2)).toInt64) <<< ((32 : Int32).toInt64 &&& 63)) ||| (((xs (i + 3)).toInt64) &&& 4294967295)), .int (xs (i + 4))]) (rest := []) (wc := wC q cI cZ cB v1 ++ [(a9, .inl (cL9, 1, .inr (.inl f1)))]) (wm := wM o mI mZ mL v th ch cd) (wf := fun u : St × Int32 × Int32 × Int64 => wM o mI mZ mL u.1 u.2.1 u.2.2.1 u.2.2.2) ⟨hx, hb, hml, hown, hts⟩ (c_m_find l dC dI o mI mZ mL v th ch cd H.size hi (xs (i + 1)) ((((xs (i + 2)).toInt64) <<< ((32 : Int32).toInt64 &&& 63)) ||| (((xs (i + 3)).toInt64) &&& 4294967295)) (xs (i + 4))) mw_624 mw_621 mw_622 mw_623 mw_6 rfl yd_m_find ⟨⟨rfl, rfl⟩, Nat.le_of_ble_eq_true rfl, Nat.le_of_ble_eq_true rfl⟩ hcap (WrC.preV (sp_r hP) hKm (sd_r hD) hN (ci := 4) (q0 := 0) rfl rfl) hP hD hS hA rfl hl.1 rfl (Nat.le_of_ble_eq_true rfl) z_L_law_770 (fun r2 u2 H locs h8 hP hD hS => ?_)
  obtain ⟨v2, th2, ch2, cd2⟩ := u2
  obtain ⟨c8, e8, h8⟩ := h8
  have e8 : th2 = nI c8 := e8
  obtain ⟨rfl, e7, e6⟩ := det_find h9 h8
  have e7 : v1 = v2 := e7
  subst e7
  subst e8
  have hP : va_P (dC, dI) vwCl ((wC q cI cZ cB v1 ++ [(a9, .inl (cL9, 1, .inr (.inl f1)))]) ++ wM o mI mZ mL v1 (nI c9) ch2 cd2) H := hP
  have hD : va_D (lwA s) ((wC q cI cZ cB v1 ++ [(a9, .inl (cL9, 1, .inr (.inl f1)))]) ++ wM o mI mZ mL v1 (nI c9) ch2 cd2) := hD
  refine lv_istore (lv' := [(6, .int r2), (5, .int (nI c9)), (0, .ref b), (1, .ref (q 0)), (2, .ref (o 0)), (3, .ref a9), (4, .int (nI i))]) hx hb z_L_law_773 hl (by decide) rfl (fun ls hl => ?_)
  refine lv_aload_n hx hb z_L_law_775 rfl (lv_at hl 4 rfl) ?_
  refine rdVi (As := []) (rest := []) ⟨hx, hb, hml, hown, hts⟩ (c_m_thrown l dC dI o mI mZ mL v1 (nI c9) ch2 cd2) mw_536 mw_533 mw_534 mw_535 mw_6 rfl yd_m_thrown ⟨⟨rfl, rfl⟩, Nat.le_of_ble_eq_true rfl, Nat.le_of_ble_eq_true rfl⟩ hcap (RdC.preV (sp_r hP) hKm hN (ci := 4) (q0 := 0) rfl rfl) rfl hl.1 rfl (Nat.le_of_ble_eq_true rfl) z_L_law_776 (fun r3 h3 => ?_)
  subst h3
  refine lv_iload hx hb z_L_law_779 (lv_at hl 1 rfl) ?_
  refine lv_icmp_eq (tgt := 786) hx hb z_L_law_781 (by decide) (fun c_781 => ?_) (fun c_781 => False.elim (c_781 rfl))
  refine lv_iload hx hb z_L_law_786 (lv_at hl 1 rfl) ?_
  refine lv_if_ne (tgt := 803) hx hb z_L_law_788 (by decide) (fun c_788 => ?_) (fun c_788 => ?_)
  · refine lv_goto (tgt := 1079) hx hb z_L_law_803 (by decide) ?_
    exact hend v1 f1 _ _ _ _ _ ls (by rw [show v1 = v from h9.1]; exact hi) hP hD hS (lv_sub hl [2, 3, 4, 5, 6] rfl)
  · refine lv_aload_n hx hb z_L_law_791 rfl (lv_at hl 5 rfl) ?_
    refine lv_iconst (v := 0) hx hb z_L_law_792 (by decide) ?_
    refine W.eq (g2 := F0 m 793 ls (.int (nI 0) :: .ref a9 :: [])) rfl ?_
    refine xa_l hx hb hK hP 15 3 rfl rfl (k := 0) (y := f1 0) (by decide) (by decide) rfl z_L_law_793 ?_
    refine lv_iload hx hb z_L_law_794 (lv_at hl 0 rfl) ?_
    refine lv_i2l hx hb z_L_law_796 rfl ?_
    refine W.lcmp hx hb z_L_law_797 ?_
    refine lv_if_eq (tgt := 803) hx hb z_L_law_798 (by decide) (fun c_798 => ?_) (fun c_798 => False.elim (c_798 (lcmp_eq.mpr ((e9 (c0_of (le_find h9) c_788)).trans (congrArg Int32.toInt64 (e6 (c0_of (le_find h9) c_788)))))))
    refine lv_goto (tgt := 1079) hx hb z_L_law_803 (by decide) ?_
    exact hend v1 f1 _ _ _ _ _ ls (by rw [show v1 = v from h9.1]; exact hi) hP hD hS (lv_sub hl [2, 3, 4, 5, 6] rfl)

set_option maxHeartbeats 4000000 in
set_option maxRecDepth 100000 in
theorem law_subject {p : Program} {l : Launch} {e : Env} {s : State} {m : MethodId} {below : List Frame} {meth : Method} {c : Code} {b L : Nat} {xs : Nat → Int32} {dC : Nat → ClassId} {dI : Nat → Nat → Nat} {cI cZ cB cL9 mI mZ mL : ClassId} {q o : Nat → Nat} {a9 : Nat} {H : Heap} {locs : List Loc} {cells slots : Nat} {ls : Array Slot} (G : LwG p l s m meth c b L xs dC dI cI cZ cB cL9 mI mZ mL) {i : Nat} (h6 : i + 6 ≤ L) {v : St} {f : Nat → Int64} {th ch : Int32} {cd : Int64} (hi : Inv v) (hP : va_P (dC, dI) vwCl (lwW q o a9 cI cZ cB cL9 mI mZ mL v f th ch cd) H) (hD : va_D (lwA s) (lwW q o a9 cI cZ cB cL9 mI mZ mL v f th ch cd)) (hS : va_S (lwA s) s.heap H locs) (hl : lv_has ls 8 [(0, .ref b), (1, .ref (q 0)), (2, .ref (o 0)), (3, .ref a9), (4, .int (nI i))]) (hcap : cells + 1 ≤ room_1.cells ∧ slots + 6 ≤ room_1.slots) (hend : ∀ (v1 : St) (f1 : Nat → Int64) (th1 ch1 : Int32) (cd1 : Int64) (H1 : Heap) (locs1 : List Loc) (ls1 : Array Slot), Inv v1 → va_P (dC, dI) vwCl (lwW q o a9 cI cZ cB cL9 mI mZ mL v1 f1 th1 ch1 cd1) H1 → va_D (lwA s) (lwW q o a9 cI cZ cB cL9 mI mZ mL v1 f1 th1 ch1 cd1) → va_S (lwA s) s.heap H1 locs1 → lv_has ls1 8 [(0, .ref b), (1, .ref (q 0)), (2, .ref (o 0)), (3, .ref a9), (4, .int (nI i))] → W p l e room_1 s m #[Value.ref b] below meth c H1 locs1 (cells + 1) (slots + 6) (lw_Z below #[Value.ref b] s) (F0 m 1079 ls1 [])) : W p l e room_1 s m #[Value.ref b] below meth c H locs cells slots (lw_Z below #[Value.ref b] s) (F0 m 806 ls []) := by
  obtain ⟨⟨hx, hb, hr, hml, hown, hts, hlocks⟩, ⟨hXs, hbl, hL⟩, hK, hKm, hN, hX, hNC, hl0⟩ := id G
  have hA : ∀ q9 : Nat, s.heap.size ≤ q9 → lwA s q9 := fun _ h => h
  refine lv_aload_n hx hb z_L_law_806 rfl (lv_at hl 1 rfl) ?_
  refine lv_aload_n hx hb z_L_law_807 rfl (lv_at hl 0 rfl) ?_
  refine lv_iload hx hb z_L_law_808 (lv_at hl 4 rfl) ?_
  refine lv_iconst (v := 1) hx hb z_L_law_810 (by decide) ?_
  refine lv_iadd hx hb z_L_law_811 ?_
  refine lw_ld (t := 1) hx hb hXs hbl hS rfl (by omega) hL z_L_law_812 ?_
  refine lv_aload_n hx hb z_L_law_813 rfl (lv_at hl 0 rfl) ?_
  refine lv_iload hx hb z_L_law_814 (lv_at hl 4 rfl) ?_
  refine lv_iconst (v := 2) hx hb z_L_law_816 (by decide) ?_
  refine lv_iadd hx hb z_L_law_817 ?_
  refine lw_ld (t := 2) hx hb hXs hbl hS rfl (by omega) hL z_L_law_818 ?_
  refine lv_aload_n hx hb z_L_law_819 rfl (lv_at hl 0 rfl) ?_
  refine lv_iload hx hb z_L_law_820 (lv_at hl 4 rfl) ?_
  refine lv_iconst (v := 3) hx hb z_L_law_822 (by decide) ?_
  refine lv_iadd hx hb z_L_law_823 ?_
  refine lw_ld (t := 3) hx hb hXs hbl hS rfl (by omega) hL z_L_law_824 ?_
  refine lv_aload_n hx hb z_L_law_825 rfl (lv_at hl 3 rfl) ?_
  refine lwSi (As := [.ref (q 0), .int (xs (i + 1)), .int (xs (i + 2)), .int (xs (i + 3)), .ref a9]) (rest := []) (wc := wC q cI cZ cB v ++ [(a9, .inl (cL9, 1, .inr (.inl f)))]) (wo := wM o mI mZ mL v th ch cd) (wf := fun u : St × (Nat → Int64) => wC q cI cZ cB u.1 ++ [(a9, .inl (cL9, 1, .inr (.inl u.2)))]) ⟨hx, hb, hml, hown, hts⟩ (c_L_subject l dC dI q cI cZ cB cL9 a9 f v H.size hl0 hi (xs (i + 1)) (xs (i + 2)) (xs (i + 3))) mw_433 mw_431 mw_432 mw_0 yd_L_subject ⟨⟨rfl, rfl⟩, Nat.le_of_ble_eq_true rfl, Nat.le_of_ble_eq_true rfl⟩ hcap hP hK hD hN hS hA hX hNC rfl hl.1 rfl (Nat.le_of_ble_eq_true rfl) z_L_law_826 (fun r1 u1 H locs h9 hP hD hS => ?_)
  obtain ⟨v1, f1⟩ := u1
  obtain ⟨c9, R9, rfl, h9, e9⟩ := h9
  have hP : va_P (dC, dI) vwCl ((wC q cI cZ cB v1 ++ [(a9, .inl (cL9, 1, .inr (.inl f1)))]) ++ wM o mI mZ mL v th ch cd) H := hP
  have hD : va_D (lwA s) ((wC q cI cZ cB v1 ++ [(a9, .inl (cL9, 1, .inr (.inl f1)))]) ++ wM o mI mZ mL v th ch cd) := hD
  refine lv_istore (lv' := [(5, .int (nI c9)), (0, .ref b), (1, .ref (q 0)), (2, .ref (o 0)), (3, .ref a9), (4, .int (nI i))]) hx hb z_L_law_829 hl (by decide) rfl (fun ls hl => ?_)
  refine lv_aload_n hx hb z_L_law_831 rfl (lv_at hl 3 rfl) ?_
  refine lv_aload_n hx hb z_L_law_832 rfl (lv_at hl 1 rfl) ?_
  refine lv_iload hx hb z_L_law_833 (lv_at hl 5 rfl) ?_
  refine lv_iconst (v := 1) hx hb z_L_law_835 (by decide) ?_
  refine lv_iadd hx hb z_L_law_836 ?_
  refine lw_ld (t := 1) hx hb hXs hbl hS rfl (by omega) hL z_L_law_837 ?_
  refine lv_aload_n hx hb z_L_law_838 rfl (lv_at hl 1 rfl) ?_
  refine lv_iload hx hb z_L_law_839 (lv_at hl 5 rfl) ?_
  refine lv_iconst (v := 2) hx hb z_L_law_841 (by decide) ?_
  refine lv_iadd hx hb z_L_law_842 ?_
  refine lw_ld (t := 2) hx hb hXs hbl hS rfl (by omega) hL z_L_law_843 ?_
  refine lv_aload_n hx hb z_L_law_844 rfl (lv_at hl 1 rfl) ?_
  refine lv_iload hx hb z_L_law_845 (lv_at hl 5 rfl) ?_
  refine lv_iconst (v := 3) hx hb z_L_law_847 (by decide) ?_
  refine lv_iadd hx hb z_L_law_848 ?_
  refine lw_ld (t := 3) hx hb hXs hbl hS rfl (by omega) hL z_L_law_849 ?_
  refine lwMi (As := [.int (xs (i + 1)), .int (xs (i + 2)), .int (xs (i + 3))]) (rest := []) (wc := wC q cI cZ cB v1 ++ [(a9, .inl (cL9, 1, .inr (.inl f1)))]) (wm := wM o mI mZ mL v th ch cd) (wf := fun u : St × Int32 × Int32 × Int64 => wM o mI mZ mL u.1 u.2.1 u.2.2.1 u.2.2.2) ⟨hx, hb, hml, hown, hts⟩ (c_m_subject l dC dI o mI mZ mL v th ch cd H.size hi (xs (i + 1)) (xs (i + 2)) (xs (i + 3))) mw_628 mw_625 mw_626 mw_627 mw_6 rfl yd_m_subject ⟨⟨rfl, rfl⟩, Nat.le_of_ble_eq_true rfl, Nat.le_of_ble_eq_true rfl⟩ hcap (WrC.preV (sp_r hP) hKm (sd_r hD) hN (ci := 4) (q0 := 0) rfl rfl) hP hD hS hA rfl hl.1 rfl (Nat.le_of_ble_eq_true rfl) z_L_law_850 (fun r2 u2 H locs h8 hP hD hS => ?_)
  obtain ⟨v2, th2, ch2, cd2⟩ := u2
  obtain ⟨c8, e8, h8⟩ := h8
  have e8 : th2 = nI c8 := e8
  obtain ⟨rfl, e7, e6⟩ := det_subj hi h9 h8
  have e7 : v1 = v2 := e7
  subst e7
  subst e8
  have hP : va_P (dC, dI) vwCl ((wC q cI cZ cB v1 ++ [(a9, .inl (cL9, 1, .inr (.inl f1)))]) ++ wM o mI mZ mL v1 (nI c9) ch2 cd2) H := hP
  have hD : va_D (lwA s) ((wC q cI cZ cB v1 ++ [(a9, .inl (cL9, 1, .inr (.inl f1)))]) ++ wM o mI mZ mL v1 (nI c9) ch2 cd2) := hD
  refine lv_istore (lv' := [(6, .int r2), (5, .int (nI c9)), (0, .ref b), (1, .ref (q 0)), (2, .ref (o 0)), (3, .ref a9), (4, .int (nI i))]) hx hb z_L_law_853 hl (by decide) rfl (fun ls hl => ?_)
  refine lv_aload_n hx hb z_L_law_855 rfl (lv_at hl 4 rfl) ?_
  refine rdVi (As := []) (rest := []) ⟨hx, hb, hml, hown, hts⟩ (c_m_thrown l dC dI o mI mZ mL v1 (nI c9) ch2 cd2) mw_536 mw_533 mw_534 mw_535 mw_6 rfl yd_m_thrown ⟨⟨rfl, rfl⟩, Nat.le_of_ble_eq_true rfl, Nat.le_of_ble_eq_true rfl⟩ hcap (RdC.preV (sp_r hP) hKm hN (ci := 4) (q0 := 0) rfl rfl) rfl hl.1 rfl (Nat.le_of_ble_eq_true rfl) z_L_law_856 (fun r3 h3 => ?_)
  subst h3
  refine lv_iload hx hb z_L_law_859 (lv_at hl 1 rfl) ?_
  refine lv_icmp_eq (tgt := 866) hx hb z_L_law_861 (by decide) (fun c_861 => ?_) (fun c_861 => False.elim (c_861 rfl))
  refine lv_iload hx hb z_L_law_866 (lv_at hl 1 rfl) ?_
  refine lv_if_ne (tgt := 883) hx hb z_L_law_868 (by decide) (fun c_868 => ?_) (fun c_868 => ?_)
  · refine lv_goto (tgt := 1079) hx hb z_L_law_883 (by decide) ?_
    exact hend v1 f1 _ _ _ _ _ ls (by rw [show v1 = v from h9.1]; exact hi) hP hD hS (lv_sub hl [2, 3, 4, 5, 6] rfl)
  · refine lv_aload_n hx hb z_L_law_871 rfl (lv_at hl 5 rfl) ?_
    refine lv_iconst (v := 0) hx hb z_L_law_872 (by decide) ?_
    refine W.eq (g2 := F0 m 873 ls (.int (nI 0) :: .ref a9 :: [])) rfl ?_
    refine xa_l hx hb hK hP 15 3 rfl rfl (k := 0) (y := f1 0) (by decide) (by decide) rfl z_L_law_873 ?_
    refine lv_iload hx hb z_L_law_874 (lv_at hl 0 rfl) ?_
    refine lv_i2l hx hb z_L_law_876 rfl ?_
    refine W.lcmp hx hb z_L_law_877 ?_
    refine lv_if_eq (tgt := 883) hx hb z_L_law_878 (by decide) (fun c_878 => ?_) (fun c_878 => False.elim (c_878 (lcmp_eq.mpr ((e9 (c0_of (le_subj h9) c_868)).trans (congrArg Int32.toInt64 (e6 (c0_of (le_subj h9) c_868)))))))
    refine lv_goto (tgt := 1079) hx hb z_L_law_883 (by decide) ?_
    exact hend v1 f1 _ _ _ _ _ ls (by rw [show v1 = v from h9.1]; exact hi) hP hD hS (lv_sub hl [2, 3, 4, 5, 6] rfl)

set_option maxHeartbeats 4000000 in
set_option maxRecDepth 100000 in
theorem law_row {p : Program} {l : Launch} {e : Env} {s : State} {m : MethodId} {below : List Frame} {meth : Method} {c : Code} {b L : Nat} {xs : Nat → Int32} {dC : Nat → ClassId} {dI : Nat → Nat → Nat} {cI cZ cB cL9 mI mZ mL : ClassId} {q o : Nat → Nat} {a9 : Nat} {H : Heap} {locs : List Loc} {cells slots : Nat} {ls : Array Slot} (G : LwG p l s m meth c b L xs dC dI cI cZ cB cL9 mI mZ mL) {i : Nat} (h6 : i + 6 ≤ L) {v : St} {f : Nat → Int64} {th ch : Int32} {cd : Int64} (hi : Inv v) (hP : va_P (dC, dI) vwCl (lwW q o a9 cI cZ cB cL9 mI mZ mL v f th ch cd) H) (hD : va_D (lwA s) (lwW q o a9 cI cZ cB cL9 mI mZ mL v f th ch cd)) (hS : va_S (lwA s) s.heap H locs) (hl : lv_has ls 8 [(0, .ref b), (1, .ref (q 0)), (2, .ref (o 0)), (3, .ref a9), (4, .int (nI i))]) (hcap : cells + 1 ≤ room_1.cells ∧ slots + 6 ≤ room_1.slots) (hend : ∀ (v1 : St) (f1 : Nat → Int64) (th1 ch1 : Int32) (cd1 : Int64) (H1 : Heap) (locs1 : List Loc) (ls1 : Array Slot), Inv v1 → va_P (dC, dI) vwCl (lwW q o a9 cI cZ cB cL9 mI mZ mL v1 f1 th1 ch1 cd1) H1 → va_D (lwA s) (lwW q o a9 cI cZ cB cL9 mI mZ mL v1 f1 th1 ch1 cd1) → va_S (lwA s) s.heap H1 locs1 → lv_has ls1 8 [(0, .ref b), (1, .ref (q 0)), (2, .ref (o 0)), (3, .ref a9), (4, .int (nI i))] → W p l e room_1 s m #[Value.ref b] below meth c H1 locs1 (cells + 1) (slots + 6) (lw_Z below #[Value.ref b] s) (F0 m 1079 ls1 [])) : W p l e room_1 s m #[Value.ref b] below meth c H locs cells slots (lw_Z below #[Value.ref b] s) (F0 m 886 ls []) := by
  obtain ⟨⟨hx, hb, hr, hml, hown, hts, hlocks⟩, ⟨hXs, hbl, hL⟩, hK, hKm, hN, hX, hNC, hl0⟩ := id G
  have hA : ∀ q9 : Nat, s.heap.size ≤ q9 → lwA s q9 := fun _ h => h
  refine lv_aload_n hx hb z_L_law_886 rfl (lv_at hl 1 rfl) ?_
  refine lv_aload_n hx hb z_L_law_887 rfl (lv_at hl 0 rfl) ?_
  refine lv_iload hx hb z_L_law_888 (lv_at hl 4 rfl) ?_
  refine lv_iconst (v := 1) hx hb z_L_law_890 (by decide) ?_
  refine lv_iadd hx hb z_L_law_891 ?_
  refine lw_ld (t := 1) hx hb hXs hbl hS rfl (by omega) hL z_L_law_892 ?_
  refine lv_aload_n hx hb z_L_law_893 rfl (lv_at hl 0 rfl) ?_
  refine lv_iload hx hb z_L_law_894 (lv_at hl 4 rfl) ?_
  refine lv_iconst (v := 2) hx hb z_L_law_896 (by decide) ?_
  refine lv_iadd hx hb z_L_law_897 ?_
  refine lw_ld (t := 2) hx hb hXs hbl hS rfl (by omega) hL z_L_law_898 ?_
  refine lv_aload_n hx hb z_L_law_899 rfl (lv_at hl 3 rfl) ?_
  refine lwSi (As := [.ref (q 0), .int (xs (i + 1)), .int (xs (i + 2)), .ref a9]) (rest := []) (wc := wC q cI cZ cB v ++ [(a9, .inl (cL9, 1, .inr (.inl f)))]) (wo := wM o mI mZ mL v th ch cd) (wf := fun u : St × (Nat → Int64) => wC q cI cZ cB u.1 ++ [(a9, .inl (cL9, 1, .inr (.inl u.2)))]) ⟨hx, hb, hml, hown, hts⟩ (c_L_row l dC dI q cI cZ cB cL9 a9 f v H.size hl0 hi (xs (i + 1)) (xs (i + 2))) mw_441 mw_439 mw_440 mw_0 yd_L_row ⟨⟨rfl, rfl⟩, Nat.le_of_ble_eq_true rfl, Nat.le_of_ble_eq_true rfl⟩ hcap hP hK hD hN hS hA hX hNC rfl hl.1 rfl (Nat.le_of_ble_eq_true rfl) z_L_law_900 (fun r1 u1 H locs h9 hP hD hS => ?_)
  obtain ⟨v1, f1⟩ := u1
  obtain ⟨c9, R9, rfl, h9, e9⟩ := h9
  have hP : va_P (dC, dI) vwCl ((wC q cI cZ cB v1 ++ [(a9, .inl (cL9, 1, .inr (.inl f1)))]) ++ wM o mI mZ mL v th ch cd) H := hP
  have hD : va_D (lwA s) ((wC q cI cZ cB v1 ++ [(a9, .inl (cL9, 1, .inr (.inl f1)))]) ++ wM o mI mZ mL v th ch cd) := hD
  refine lv_istore (lv' := [(5, .int (nI c9)), (0, .ref b), (1, .ref (q 0)), (2, .ref (o 0)), (3, .ref a9), (4, .int (nI i))]) hx hb z_L_law_903 hl (by decide) rfl (fun ls hl => ?_)
  refine lv_aload_n hx hb z_L_law_905 rfl (lv_at hl 3 rfl) ?_
  refine lv_aload_n hx hb z_L_law_906 rfl (lv_at hl 1 rfl) ?_
  refine lv_iload hx hb z_L_law_907 (lv_at hl 5 rfl) ?_
  refine lv_iconst (v := 1) hx hb z_L_law_909 (by decide) ?_
  refine lv_iadd hx hb z_L_law_910 ?_
  refine lw_ld (t := 1) hx hb hXs hbl hS rfl (by omega) hL z_L_law_911 ?_
  refine lv_aload_n hx hb z_L_law_912 rfl (lv_at hl 1 rfl) ?_
  refine lv_iload hx hb z_L_law_913 (lv_at hl 5 rfl) ?_
  refine lv_iconst (v := 2) hx hb z_L_law_915 (by decide) ?_
  refine lv_iadd hx hb z_L_law_916 ?_
  refine lw_ld (t := 2) hx hb hXs hbl hS rfl (by omega) hL z_L_law_917 ?_
  refine lwMi (As := [.int (xs (i + 1)), .int (xs (i + 2))]) (rest := []) (wc := wC q cI cZ cB v1 ++ [(a9, .inl (cL9, 1, .inr (.inl f1)))]) (wm := wM o mI mZ mL v th ch cd) (wf := fun u : St × Int32 × Int32 × Int64 => wM o mI mZ mL u.1 u.2.1 u.2.2.1 u.2.2.2) ⟨hx, hb, hml, hown, hts⟩ (c_m_row l dC dI o mI mZ mL v th ch cd H.size hi (xs (i + 1)) (xs (i + 2))) mw_632 mw_629 mw_630 mw_631 mw_6 rfl yd_m_row ⟨⟨rfl, rfl⟩, Nat.le_of_ble_eq_true rfl, Nat.le_of_ble_eq_true rfl⟩ hcap (WrC.preV (sp_r hP) hKm (sd_r hD) hN (ci := 4) (q0 := 0) rfl rfl) hP hD hS hA rfl hl.1 rfl (Nat.le_of_ble_eq_true rfl) z_L_law_918 (fun r2 u2 H locs h8 hP hD hS => ?_)
  obtain ⟨v2, th2, ch2, cd2⟩ := u2
  obtain ⟨c8, e8, h8⟩ := h8
  have e8 : th2 = nI c8 := e8
  obtain ⟨rfl, e7, e6⟩ := det_row hi h9 h8
  have e7 : v1 = v2 := e7
  subst e7
  subst e8
  have hP : va_P (dC, dI) vwCl ((wC q cI cZ cB v1 ++ [(a9, .inl (cL9, 1, .inr (.inl f1)))]) ++ wM o mI mZ mL v1 (nI c9) ch2 cd2) H := hP
  have hD : va_D (lwA s) ((wC q cI cZ cB v1 ++ [(a9, .inl (cL9, 1, .inr (.inl f1)))]) ++ wM o mI mZ mL v1 (nI c9) ch2 cd2) := hD
  refine lv_istore (lv' := [(6, .int r2), (5, .int (nI c9)), (0, .ref b), (1, .ref (q 0)), (2, .ref (o 0)), (3, .ref a9), (4, .int (nI i))]) hx hb z_L_law_921 hl (by decide) rfl (fun ls hl => ?_)
  refine lv_aload_n hx hb z_L_law_923 rfl (lv_at hl 4 rfl) ?_
  refine rdVi (As := []) (rest := []) ⟨hx, hb, hml, hown, hts⟩ (c_m_thrown l dC dI o mI mZ mL v1 (nI c9) ch2 cd2) mw_536 mw_533 mw_534 mw_535 mw_6 rfl yd_m_thrown ⟨⟨rfl, rfl⟩, Nat.le_of_ble_eq_true rfl, Nat.le_of_ble_eq_true rfl⟩ hcap (RdC.preV (sp_r hP) hKm hN (ci := 4) (q0 := 0) rfl rfl) rfl hl.1 rfl (Nat.le_of_ble_eq_true rfl) z_L_law_924 (fun r3 h3 => ?_)
  subst h3
  refine lv_iload hx hb z_L_law_927 (lv_at hl 1 rfl) ?_
  refine lv_icmp_eq (tgt := 934) hx hb z_L_law_929 (by decide) (fun c_929 => ?_) (fun c_929 => False.elim (c_929 rfl))
  refine lv_iload hx hb z_L_law_934 (lv_at hl 1 rfl) ?_
  refine lv_if_ne (tgt := 951) hx hb z_L_law_936 (by decide) (fun c_936 => ?_) (fun c_936 => ?_)
  · refine lv_goto (tgt := 1079) hx hb z_L_law_951 (by decide) ?_
    exact hend v1 f1 _ _ _ _ _ ls (by rw [show v1 = v from h9.1]; exact hi) hP hD hS (lv_sub hl [2, 3, 4, 5, 6] rfl)
  · refine lv_aload_n hx hb z_L_law_939 rfl (lv_at hl 5 rfl) ?_
    refine lv_iconst (v := 0) hx hb z_L_law_940 (by decide) ?_
    refine W.eq (g2 := F0 m 941 ls (.int (nI 0) :: .ref a9 :: [])) rfl ?_
    refine xa_l hx hb hK hP 15 3 rfl rfl (k := 0) (y := f1 0) (by decide) (by decide) rfl z_L_law_941 ?_
    refine lv_iload hx hb z_L_law_942 (lv_at hl 0 rfl) ?_
    refine lv_i2l hx hb z_L_law_944 rfl ?_
    refine W.lcmp hx hb z_L_law_945 ?_
    refine lv_if_eq (tgt := 951) hx hb z_L_law_946 (by decide) (fun c_946 => ?_) (fun c_946 => False.elim (c_946 (lcmp_eq.mpr ((e9 (c0_of (le_row h9) c_936)).trans (congrArg Int32.toInt64 (e6 (c0_of (le_row h9) c_936)))))))
    refine lv_goto (tgt := 1079) hx hb z_L_law_951 (by decide) ?_
    exact hend v1 f1 _ _ _ _ _ ls (by rw [show v1 = v from h9.1]; exact hi) hP hD hS (lv_sub hl [2, 3, 4, 5, 6] rfl)

set_option maxHeartbeats 4000000 in
set_option maxRecDepth 100000 in
theorem law_tick {p : Program} {l : Launch} {e : Env} {s : State} {m : MethodId} {below : List Frame} {meth : Method} {c : Code} {b L : Nat} {xs : Nat → Int32} {dC : Nat → ClassId} {dI : Nat → Nat → Nat} {cI cZ cB cL9 mI mZ mL : ClassId} {q o : Nat → Nat} {a9 : Nat} {H : Heap} {locs : List Loc} {cells slots : Nat} {ls : Array Slot} (G : LwG p l s m meth c b L xs dC dI cI cZ cB cL9 mI mZ mL) {i : Nat} (h6 : i + 6 ≤ L) {v : St} {f : Nat → Int64} {th ch : Int32} {cd : Int64} (hi : Inv v) (hP : va_P (dC, dI) vwCl (lwW q o a9 cI cZ cB cL9 mI mZ mL v f th ch cd) H) (hD : va_D (lwA s) (lwW q o a9 cI cZ cB cL9 mI mZ mL v f th ch cd)) (hS : va_S (lwA s) s.heap H locs) (hl : lv_has ls 8 [(0, .ref b), (1, .ref (q 0)), (2, .ref (o 0)), (3, .ref a9), (4, .int (nI i))]) (hcap : cells + 1 ≤ room_1.cells ∧ slots + 6 ≤ room_1.slots) (hend : ∀ (v1 : St) (f1 : Nat → Int64) (th1 ch1 : Int32) (cd1 : Int64) (H1 : Heap) (locs1 : List Loc) (ls1 : Array Slot), Inv v1 → va_P (dC, dI) vwCl (lwW q o a9 cI cZ cB cL9 mI mZ mL v1 f1 th1 ch1 cd1) H1 → va_D (lwA s) (lwW q o a9 cI cZ cB cL9 mI mZ mL v1 f1 th1 ch1 cd1) → va_S (lwA s) s.heap H1 locs1 → lv_has ls1 8 [(0, .ref b), (1, .ref (q 0)), (2, .ref (o 0)), (3, .ref a9), (4, .int (nI i))] → W p l e room_1 s m #[Value.ref b] below meth c H1 locs1 (cells + 1) (slots + 6) (lw_Z below #[Value.ref b] s) (F0 m 1079 ls1 [])) : W p l e room_1 s m #[Value.ref b] below meth c H locs cells slots (lw_Z below #[Value.ref b] s) (F0 m 954 ls []) := by
  obtain ⟨⟨hx, hb, hr, hml, hown, hts, hlocks⟩, ⟨hXs, hbl, hL⟩, hK, hKm, hN, hX, hNC, hl0⟩ := id G
  have hA : ∀ q9 : Nat, s.heap.size ≤ q9 → lwA s q9 := fun _ h => h
  refine lv_aload_n hx hb z_L_law_954 rfl (lv_at hl 1 rfl) ?_
  refine lv_aload_n hx hb z_L_law_955 rfl (lv_at hl 0 rfl) ?_
  refine lv_iload hx hb z_L_law_956 (lv_at hl 4 rfl) ?_
  refine lv_iconst (v := 1) hx hb z_L_law_958 (by decide) ?_
  refine lv_iadd hx hb z_L_law_959 ?_
  refine lw_ld (t := 1) hx hb hXs hbl hS rfl (by omega) hL z_L_law_960 ?_
  refine lv_aload_n hx hb z_L_law_961 rfl (lv_at hl 3 rfl) ?_
  refine lwSi (As := [.ref (q 0), .int (xs (i + 1)), .ref a9]) (rest := []) (wc := wC q cI cZ cB v ++ [(a9, .inl (cL9, 1, .inr (.inl f)))]) (wo := wM o mI mZ mL v th ch cd) (wf := fun u : St × (Nat → Int64) => wC q cI cZ cB u.1 ++ [(a9, .inl (cL9, 1, .inr (.inl u.2)))]) ⟨hx, hb, hml, hown, hts⟩ (c_L_tick l dC dI q cI cZ cB cL9 a9 f v H.size hl0 hi (xs (i + 1))) mw_449 mw_447 mw_448 mw_0 yd_L_tick ⟨⟨rfl, rfl⟩, Nat.le_of_ble_eq_true rfl, Nat.le_of_ble_eq_true rfl⟩ hcap hP hK hD hN hS hA hX hNC rfl hl.1 rfl (Nat.le_of_ble_eq_true rfl) z_L_law_962 (fun r1 u1 H locs h9 hP hD hS => ?_)
  obtain ⟨v1, f1⟩ := u1
  obtain ⟨c9, R9, rfl, h9, e9⟩ := h9
  have hP : va_P (dC, dI) vwCl ((wC q cI cZ cB v1 ++ [(a9, .inl (cL9, 1, .inr (.inl f1)))]) ++ wM o mI mZ mL v th ch cd) H := hP
  have hD : va_D (lwA s) ((wC q cI cZ cB v1 ++ [(a9, .inl (cL9, 1, .inr (.inl f1)))]) ++ wM o mI mZ mL v th ch cd) := hD
  refine lv_istore (lv' := [(5, .int (nI c9)), (0, .ref b), (1, .ref (q 0)), (2, .ref (o 0)), (3, .ref a9), (4, .int (nI i))]) hx hb z_L_law_965 hl (by decide) rfl (fun ls hl => ?_)
  refine lv_aload_n hx hb z_L_law_967 rfl (lv_at hl 3 rfl) ?_
  refine lv_aload_n hx hb z_L_law_968 rfl (lv_at hl 1 rfl) ?_
  refine lv_iload hx hb z_L_law_969 (lv_at hl 5 rfl) ?_
  refine lv_iconst (v := 1) hx hb z_L_law_971 (by decide) ?_
  refine lv_iadd hx hb z_L_law_972 ?_
  refine lw_ld (t := 1) hx hb hXs hbl hS rfl (by omega) hL z_L_law_973 ?_
  refine lwMi (As := [.int (xs (i + 1))]) (rest := []) (wc := wC q cI cZ cB v1 ++ [(a9, .inl (cL9, 1, .inr (.inl f1)))]) (wm := wM o mI mZ mL v th ch cd) (wf := fun u : St × Int32 × Int32 × Int64 => wM o mI mZ mL u.1 u.2.1 u.2.2.1 u.2.2.2) ⟨hx, hb, hml, hown, hts⟩ (c_m_tick l dC dI o mI mZ mL v th ch cd H.size hi (xs (i + 1))) mw_636 mw_633 mw_634 mw_635 mw_6 rfl yd_m_tick ⟨⟨rfl, rfl⟩, Nat.le_of_ble_eq_true rfl, Nat.le_of_ble_eq_true rfl⟩ hcap (WrC.preV (sp_r hP) hKm (sd_r hD) hN (ci := 4) (q0 := 0) rfl rfl) hP hD hS hA rfl hl.1 rfl (Nat.le_of_ble_eq_true rfl) z_L_law_974 (fun r2 u2 H locs h8 hP hD hS => ?_)
  obtain ⟨v2, th2, ch2, cd2⟩ := u2
  obtain ⟨c8, e8, h8⟩ := h8
  have e8 : th2 = nI c8 := e8
  obtain ⟨rfl, e7, e6⟩ := det_tick h9 h8
  have e7 : v1 = v2 := e7
  subst e7
  subst e8
  have hP : va_P (dC, dI) vwCl ((wC q cI cZ cB v1 ++ [(a9, .inl (cL9, 1, .inr (.inl f1)))]) ++ wM o mI mZ mL v1 (nI c9) ch2 cd2) H := hP
  have hD : va_D (lwA s) ((wC q cI cZ cB v1 ++ [(a9, .inl (cL9, 1, .inr (.inl f1)))]) ++ wM o mI mZ mL v1 (nI c9) ch2 cd2) := hD
  refine lv_istore (lv' := [(6, .int r2), (5, .int (nI c9)), (0, .ref b), (1, .ref (q 0)), (2, .ref (o 0)), (3, .ref a9), (4, .int (nI i))]) hx hb z_L_law_977 hl (by decide) rfl (fun ls hl => ?_)
  refine lv_aload_n hx hb z_L_law_979 rfl (lv_at hl 4 rfl) ?_
  refine rdVi (As := []) (rest := []) ⟨hx, hb, hml, hown, hts⟩ (c_m_thrown l dC dI o mI mZ mL v1 (nI c9) ch2 cd2) mw_536 mw_533 mw_534 mw_535 mw_6 rfl yd_m_thrown ⟨⟨rfl, rfl⟩, Nat.le_of_ble_eq_true rfl, Nat.le_of_ble_eq_true rfl⟩ hcap (RdC.preV (sp_r hP) hKm hN (ci := 4) (q0 := 0) rfl rfl) rfl hl.1 rfl (Nat.le_of_ble_eq_true rfl) z_L_law_980 (fun r3 h3 => ?_)
  subst h3
  refine lv_iload hx hb z_L_law_983 (lv_at hl 1 rfl) ?_
  refine lv_icmp_eq (tgt := 990) hx hb z_L_law_985 (by decide) (fun c_985 => ?_) (fun c_985 => False.elim (c_985 rfl))
  refine lv_iload hx hb z_L_law_990 (lv_at hl 1 rfl) ?_
  refine lv_if_ne (tgt := 1007) hx hb z_L_law_992 (by decide) (fun c_992 => ?_) (fun c_992 => ?_)
  · refine lv_goto (tgt := 1079) hx hb z_L_law_1007 (by decide) ?_
    exact hend v1 f1 _ _ _ _ _ ls (nx_tick hi h9) hP hD hS (lv_sub hl [2, 3, 4, 5, 6] rfl)
  · refine lv_aload_n hx hb z_L_law_995 rfl (lv_at hl 5 rfl) ?_
    refine lv_iconst (v := 0) hx hb z_L_law_996 (by decide) ?_
    refine W.eq (g2 := F0 m 997 ls (.int (nI 0) :: .ref a9 :: [])) rfl ?_
    refine xa_l hx hb hK hP 15 3 rfl rfl (k := 0) (y := f1 0) (by decide) (by decide) rfl z_L_law_997 ?_
    refine lv_iload hx hb z_L_law_998 (lv_at hl 0 rfl) ?_
    refine lv_i2l hx hb z_L_law_1000 rfl ?_
    refine W.lcmp hx hb z_L_law_1001 ?_
    refine lv_if_eq (tgt := 1007) hx hb z_L_law_1002 (by decide) (fun c_1002 => ?_) (fun c_1002 => False.elim (c_1002 (lcmp_eq.mpr ((e9 (c0_of (le_tick h9) c_992)).trans (congrArg Int32.toInt64 (e6 (c0_of (le_tick h9) c_992)))))))
    refine lv_goto (tgt := 1079) hx hb z_L_law_1007 (by decide) ?_
    exact hend v1 f1 _ _ _ _ _ ls (nx_tick hi h9) hP hD hS (lv_sub hl [2, 3, 4, 5, 6] rfl)

set_option maxHeartbeats 4000000 in
set_option maxRecDepth 100000 in
theorem law_count {p : Program} {l : Launch} {e : Env} {s : State} {m : MethodId} {below : List Frame} {meth : Method} {c : Code} {b L : Nat} {xs : Nat → Int32} {dC : Nat → ClassId} {dI : Nat → Nat → Nat} {cI cZ cB cL9 mI mZ mL : ClassId} {q o : Nat → Nat} {a9 : Nat} {H : Heap} {locs : List Loc} {cells slots : Nat} {ls : Array Slot} (G : LwG p l s m meth c b L xs dC dI cI cZ cB cL9 mI mZ mL) {i : Nat} (h6 : i + 6 ≤ L) {v : St} {f : Nat → Int64} {th ch : Int32} {cd : Int64} (hi : Inv v) (hP : va_P (dC, dI) vwCl (lwW q o a9 cI cZ cB cL9 mI mZ mL v f th ch cd) H) (hD : va_D (lwA s) (lwW q o a9 cI cZ cB cL9 mI mZ mL v f th ch cd)) (hS : va_S (lwA s) s.heap H locs) (hl : lv_has ls 8 [(0, .ref b), (1, .ref (q 0)), (2, .ref (o 0)), (3, .ref a9), (4, .int (nI i))]) (hcap : cells + 1 ≤ room_1.cells ∧ slots + 6 ≤ room_1.slots) (hend : ∀ (v1 : St) (f1 : Nat → Int64) (th1 ch1 : Int32) (cd1 : Int64) (H1 : Heap) (locs1 : List Loc) (ls1 : Array Slot), Inv v1 → va_P (dC, dI) vwCl (lwW q o a9 cI cZ cB cL9 mI mZ mL v1 f1 th1 ch1 cd1) H1 → va_D (lwA s) (lwW q o a9 cI cZ cB cL9 mI mZ mL v1 f1 th1 ch1 cd1) → va_S (lwA s) s.heap H1 locs1 → lv_has ls1 8 [(0, .ref b), (1, .ref (q 0)), (2, .ref (o 0)), (3, .ref a9), (4, .int (nI i))] → W p l e room_1 s m #[Value.ref b] below meth c H1 locs1 (cells + 1) (slots + 6) (lw_Z below #[Value.ref b] s) (F0 m 1079 ls1 [])) : W p l e room_1 s m #[Value.ref b] below meth c H locs cells slots (lw_Z below #[Value.ref b] s) (F0 m 1010 ls []) := by
  obtain ⟨⟨hx, hb, hr, hml, hown, hts, hlocks⟩, ⟨hXs, hbl, hL⟩, hK, hKm, hN, hX, hNC, hl0⟩ := id G
  have hA : ∀ q9 : Nat, s.heap.size ≤ q9 → lwA s q9 := fun _ h => h
  refine lv_aload_n hx hb z_L_law_1010 rfl (lv_at hl 1 rfl) ?_
  refine lv_aload_n hx hb z_L_law_1011 rfl (lv_at hl 0 rfl) ?_
  refine lv_iload hx hb z_L_law_1012 (lv_at hl 4 rfl) ?_
  refine lv_iconst (v := 1) hx hb z_L_law_1014 (by decide) ?_
  refine lv_iadd hx hb z_L_law_1015 ?_
  refine lw_ld (t := 1) hx hb hXs hbl hS rfl (by omega) hL z_L_law_1016 ?_
  refine lv_aload_n hx hb z_L_law_1017 rfl (lv_at hl 3 rfl) ?_
  refine lwSi (As := [.ref (q 0), .int (xs (i + 1)), .ref a9]) (rest := []) (wc := wC q cI cZ cB v ++ [(a9, .inl (cL9, 1, .inr (.inl f)))]) (wo := wM o mI mZ mL v th ch cd) (wf := fun u : St × (Nat → Int64) => wC q cI cZ cB u.1 ++ [(a9, .inl (cL9, 1, .inr (.inl u.2)))]) ⟨hx, hb, hml, hown, hts⟩ (c_L_count l dC dI q cI cZ cB cL9 a9 f v H.size hl0 hi (xs (i + 1))) mw_459 mw_457 mw_458 mw_0 yd_L_count ⟨⟨rfl, rfl⟩, Nat.le_of_ble_eq_true rfl, Nat.le_of_ble_eq_true rfl⟩ hcap hP hK hD hN hS hA hX hNC rfl hl.1 rfl (Nat.le_of_ble_eq_true rfl) z_L_law_1018 (fun r1 u1 H locs h9 hP hD hS => ?_)
  obtain ⟨v1, f1⟩ := u1
  obtain ⟨c9, R9, rfl, h9, e9⟩ := h9
  have hP : va_P (dC, dI) vwCl ((wC q cI cZ cB v1 ++ [(a9, .inl (cL9, 1, .inr (.inl f1)))]) ++ wM o mI mZ mL v th ch cd) H := hP
  have hD : va_D (lwA s) ((wC q cI cZ cB v1 ++ [(a9, .inl (cL9, 1, .inr (.inl f1)))]) ++ wM o mI mZ mL v th ch cd) := hD
  refine lv_istore (lv' := [(5, .int (nI c9)), (0, .ref b), (1, .ref (q 0)), (2, .ref (o 0)), (3, .ref a9), (4, .int (nI i))]) hx hb z_L_law_1021 hl (by decide) rfl (fun ls hl => ?_)
  refine lv_aload_n hx hb z_L_law_1023 rfl (lv_at hl 3 rfl) ?_
  refine lv_aload_n hx hb z_L_law_1024 rfl (lv_at hl 1 rfl) ?_
  refine lv_iload hx hb z_L_law_1025 (lv_at hl 5 rfl) ?_
  refine lv_iconst (v := 1) hx hb z_L_law_1027 (by decide) ?_
  refine lv_iadd hx hb z_L_law_1028 ?_
  refine lw_ld (t := 1) hx hb hXs hbl hS rfl (by omega) hL z_L_law_1029 ?_
  refine lwMi (As := [.int (xs (i + 1))]) (rest := []) (wc := wC q cI cZ cB v1 ++ [(a9, .inl (cL9, 1, .inr (.inl f1)))]) (wm := wM o mI mZ mL v th ch cd) (wf := fun u : St × Int32 × Int32 × Int64 => wM o mI mZ mL u.1 u.2.1 u.2.2.1 u.2.2.2) ⟨hx, hb, hml, hown, hts⟩ (c_m_count l dC dI o mI mZ mL v th ch cd H.size hi (xs (i + 1))) mw_642 mw_639 mw_640 mw_641 mw_6 rfl yd_m_count ⟨⟨rfl, rfl⟩, Nat.le_of_ble_eq_true rfl, Nat.le_of_ble_eq_true rfl⟩ hcap (WrC.preV (sp_r hP) hKm (sd_r hD) hN (ci := 4) (q0 := 0) rfl rfl) hP hD hS hA rfl hl.1 rfl (Nat.le_of_ble_eq_true rfl) z_L_law_1030 (fun r2 u2 H locs h8 hP hD hS => ?_)
  obtain ⟨v2, th2, ch2, cd2⟩ := u2
  obtain ⟨c8, e8, h8⟩ := h8
  have e8 : th2 = nI c8 := e8
  obtain ⟨rfl, e7, e6⟩ := det_count h9 h8
  have e7 : v1 = v2 := e7
  subst e7
  subst e8
  have hP : va_P (dC, dI) vwCl ((wC q cI cZ cB v1 ++ [(a9, .inl (cL9, 1, .inr (.inl f1)))]) ++ wM o mI mZ mL v1 (nI c9) ch2 cd2) H := hP
  have hD : va_D (lwA s) ((wC q cI cZ cB v1 ++ [(a9, .inl (cL9, 1, .inr (.inl f1)))]) ++ wM o mI mZ mL v1 (nI c9) ch2 cd2) := hD
  refine lv_istore (lv' := [(6, .int r2), (5, .int (nI c9)), (0, .ref b), (1, .ref (q 0)), (2, .ref (o 0)), (3, .ref a9), (4, .int (nI i))]) hx hb z_L_law_1033 hl (by decide) rfl (fun ls hl => ?_)
  refine lv_aload_n hx hb z_L_law_1035 rfl (lv_at hl 4 rfl) ?_
  refine rdVi (As := []) (rest := []) ⟨hx, hb, hml, hown, hts⟩ (c_m_thrown l dC dI o mI mZ mL v1 (nI c9) ch2 cd2) mw_536 mw_533 mw_534 mw_535 mw_6 rfl yd_m_thrown ⟨⟨rfl, rfl⟩, Nat.le_of_ble_eq_true rfl, Nat.le_of_ble_eq_true rfl⟩ hcap (RdC.preV (sp_r hP) hKm hN (ci := 4) (q0 := 0) rfl rfl) rfl hl.1 rfl (Nat.le_of_ble_eq_true rfl) z_L_law_1036 (fun r3 h3 => ?_)
  subst h3
  refine lv_iload hx hb z_L_law_1039 (lv_at hl 1 rfl) ?_
  refine lv_icmp_eq (tgt := 1046) hx hb z_L_law_1041 (by decide) (fun c_1041 => ?_) (fun c_1041 => False.elim (c_1041 rfl))
  refine lv_iload hx hb z_L_law_1046 (lv_at hl 1 rfl) ?_
  refine lv_if_ne (tgt := 1063) hx hb z_L_law_1048 (by decide) (fun c_1048 => ?_) (fun c_1048 => ?_)
  · refine lv_goto (tgt := 1079) hx hb z_L_law_1063 (by decide) ?_
    exact hend v1 f1 _ _ _ _ _ ls (by rw [show v1 = v from h9.1]; exact hi) hP hD hS (lv_sub hl [2, 3, 4, 5, 6] rfl)
  · refine lv_aload_n hx hb z_L_law_1051 rfl (lv_at hl 5 rfl) ?_
    refine lv_iconst (v := 0) hx hb z_L_law_1052 (by decide) ?_
    refine W.eq (g2 := F0 m 1053 ls (.int (nI 0) :: .ref a9 :: [])) rfl ?_
    refine xa_l hx hb hK hP 15 3 rfl rfl (k := 0) (y := f1 0) (by decide) (by decide) rfl z_L_law_1053 ?_
    refine lv_iload hx hb z_L_law_1054 (lv_at hl 0 rfl) ?_
    refine lv_i2l hx hb z_L_law_1056 rfl ?_
    refine W.lcmp hx hb z_L_law_1057 ?_
    refine lv_if_eq (tgt := 1063) hx hb z_L_law_1058 (by decide) (fun c_1058 => ?_) (fun c_1058 => False.elim (c_1058 (lcmp_eq.mpr ((e9 (c0_of (le_count h9) c_1048)).trans (congrArg Int32.toInt64 (e6 (c0_of (le_count h9) c_1048)))))))
    refine lv_goto (tgt := 1079) hx hb z_L_law_1063 (by decide) ?_
    exact hend v1 f1 _ _ _ _ _ ls (by rw [show v1 = v from h9.1]; exact hi) hP hD hS (lv_sub hl [2, 3, 4, 5, 6] rfl)
