theorem mul5_nI (k : Nat) : nI k * 5 = nI (k * 5) := by rw [show (5 : Int32) = nI 5 from rfl, pk_mul]
theorem okC_no1 {v : St} {x y z : Int32} (h : ¬ isS v x y) : ¬ okC v x y z := fun ⟨k, j, _, hk, hj, _, hx, hy, _, _⟩ => h ⟨k, j, hk, hj, hx, hy⟩
theorem okC_no2 {v : St} {x y z : Int32} (h : ¬ isK z) : ¬ okC v x y z := fun ⟨_, _, n, _, _, hn, _, _, hz, _⟩ => h ⟨n, hn, hz⟩
theorem okC_no3 {v : St} {k j n : Nat} (hk : k < 8) (hn : n < 8) (h : zmd v (k * 8 + n) = 0) : ¬ okC v (nI k) (nI j) (nI n) := by
  rintro ⟨k2, j2, n2, h1, -, h3, e1, -, e3, h4⟩
  have a : k = k2 := (nI_eq (by omega) (by omega)).mp e1
  have b : n = n2 := (nI_eq (by omega) (by omega)).mp e3
  subst a; subst b
  exact h4 h
theorem pos_of_nle {n : Nat} (h : ¬ nI n ≤ 0) : 0 < n := Nat.pos_of_ne_zero (fun e => h (by rw [e]; decide))
theorem npos_of_le {n : Nat} (hn : n < 2 ^ 31) (h : nI n ≤ 0) : ¬ 0 < n := fun q => nI_nle q hn h
theorem md8 {v : St} {i : Nat} (hi : Inv v) (h : i < 64) : zmd v i = 0 ∨ zmd v i = 1 ∨ zmd v i = 2 ∨ zmd v i = 3 ∨ zmd v i = 4 ∨ zmd v i = 5 ∨ zmd v i = 6 ∨ zmd v i = 7 := by
  obtain ⟨n, hn, e⟩ := hi.md i h
  rw [e]
  rcases (show n = 0 ∨ n = 1 ∨ n = 2 ∨ n = 3 ∨ n = 4 ∨ n = 5 ∨ n = 6 ∨ n = 7 by omega) with rfl | rfl | rfl | rfl | rfl | rfl | rfl | rfl <;> decide
theorem i64_ne0 {a : Int32} (h : ¬ a = 0) : ¬ a.toInt64 = 0 := fun e => h (Int32.toInt_inj.mp (by
  have := congrArg Int64.toInt e
  rw [Int32.toInt_toInt64] at this
  rw [this]; rfl))
section AN
variable {v : St} {k j n : Nat} {a : Int32}
theorem anF_1 (h : zmd v (k * 8 + n) = 1) : anF v k j n a = (zas v (k * 8 + n)).toInt64 * (nI j).toInt64 + (zbs v (k * 8 + n)).toInt64 := by rw [anF, if_pos h]
theorem anF_2 (h : zmd v (k * 8 + n) = 2) : anF v k j n a = suF ((zsm v (k * 30 + j)).toInt64 + a.toInt64 * (zas v (k * 8 + n)).toInt64 + (zbs v (k * 8 + n)).toInt64) := by rw [anF, if_neg (by rw [h]; decide), if_pos h]
theorem anF_3 (h : zmd v (k * 8 + n) = 3) : anF v k j n a = (zsm v (k * 30 + j)).toInt64 * (zas v (k * 8 + n)).toInt64 + (zbs v (k * 8 + n)).toInt64 + a.toInt64 := by rw [anF, if_neg (by rw [h]; decide), if_neg (by rw [h]; decide), if_pos h]
theorem anF_4 (h : zmd v (k * 8 + n) = 4) : anF v k j n a = -9000000000000 - (1 + ((zas v (k * 8 + n)).toInt64 &&& 7)) := by rw [anF, if_neg (by rw [h]; decide), if_neg (by rw [h]; decide), if_neg (by rw [h]; decide), if_pos h]
theorem anF_5 (h : zmd v (k * 8 + n) = 5) : anF v k j n a = (if a = 0 then -9000000000010 else (zsm v (k * 30 + j)).toInt64 / a.toInt64 + (zbs v (k * 8 + n)).toInt64) := by rw [anF, if_neg (by rw [h]; decide), if_neg (by rw [h]; decide), if_neg (by rw [h]; decide), if_neg (by rw [h]; decide), if_pos h]
theorem anF_6 (h : zmd v (k * 8 + n) = 6) : anF v k j n a = (if zka v k = -1 then -9000000000011 else suF ((zsm v ((zka v k).toNatClampNeg * 30 + (zab v (k * 30 + j)).toNatClampNeg)).toInt64 + a.toInt64)) := by rw [anF, if_neg (by rw [h]; decide), if_neg (by rw [h]; decide), if_neg (by rw [h]; decide), if_neg (by rw [h]; decide), if_neg (by rw [h]; decide), if_pos h]
theorem anF_7 (h : zmd v (k * 8 + n) = 0 ∨ zmd v (k * 8 + n) = 7) : anF v k j n a = (if 0 < onC v (nI k) (nI j) 8 then -9000000000012 else (nI (opC v k (mN v k)) - 1).toInt64) := by
  rw [anF]
  rcases h with h | h <;> rw [if_neg (by rw [h]; decide), if_neg (by rw [h]; decide), if_neg (by rw [h]; decide), if_neg (by rw [h]; decide), if_neg (by rw [h]; decide), if_neg (by rw [h]; decide)]
/-- the slot above a subject -/
theorem an6_post {r : Int32} {x : Int64} (hi : Inv v) (h0 : zmd v (k * 8 + n) = 6) (h : (r = -1 ∧ zka v k = -1) ∨ ∃ k2 j2, k2 < 8 ∧ j2 < mN v k2 ∧ zka v k = nI k2 ∧ zab v (k * 30 + j) = nI j2 ∧ r = nI (k2 * 30 + j2)) (h2 : (r = -1 ∧ x = -9000000000011) ∨ ∃ g, g < 240 ∧ r = nI g ∧ x = suF ((zsm v g).toInt64 + a.toInt64)) : x = anF v k j n a := by
  rw [anF_6 h0]
  rcases h with ⟨h1, h3⟩ | ⟨k2, j2, b1, b2, b3, b4, b5⟩
  · rw [if_pos h3]
    rcases h2 with ⟨-, h4⟩ | ⟨g, h4, h5, -⟩
    · exact h4
    · rw [h1] at h5
      exact absurd (show nI g < 0 by rw [← h5]; decide) (nI_pos (by omega))
  · have hM := (hi.mk k2 b1).1
    rw [if_neg (by rw [b3]; intro e; exact absurd (show nI k2 < 0 by rw [e]; decide) (nI_pos (by omega))), b3, b4, nI_clamp (by omega), nI_clamp (by omega)]
    rcases h2 with ⟨h4, -⟩ | ⟨g, h4, h5, h6⟩
    · rw [b5] at h4
      exact absurd (show nI (k2 * 30 + j2) < 0 by rw [h4]; decide) (nI_pos (by omega))
    · rw [b5] at h5
      have e : k2 * 30 + j2 = g := (nI_eq (by omega) (by omega)).mp h5
      rw [h6, e]
theorem an6_arg {r : Int32} (hi : Inv v) (h : (r = -1 ∧ zka v k = -1) ∨ ∃ k2 j2, k2 < 8 ∧ j2 < mN v k2 ∧ zka v k = nI k2 ∧ zab v (k * 30 + j) = nI j2 ∧ r = nI (k2 * 30 + j2)) : r = -1 ∨ ∃ g, g < 240 ∧ r = nI g := by
  rcases h with ⟨h1, -⟩ | ⟨k2, j2, b1, b2, -, -, b5⟩
  · exact Or.inl h1
  · have hM := (hi.mk k2 b1).1
    exact Or.inr ⟨_, by omega, b5⟩
end AN
set_option maxHeartbeats 4000000 in
set_option maxRecDepth 100000 in
theorem c_s_hasJust (l : Launch) (dC : Nat → ClassId) (dI : Nat → Nat → Nat) (q : Nat → Nat) (cI cZ cB : ClassId) (v : St) (g : Nat) (hg : g < 240) (p0 : Int64) (n : Nat) (hn : n ≤ 8) : Met l y_s_hasJust (Cond.code y_s_hasJust b_s_hasJust 6 (some .boolean) :: CW) { frames := 1, cells := 0, slots := 0, locals := 23 } (va_Pc [.ref (q 6), .int (nI g), .long p0, .int (nI n)] (RdC (dC, dI) (wC q cI cZ cB v) (tyC cI cZ cB))) (vp_Si (fun r : Int32 => (r = 1 ∧ hasJ v g p0 n) ∨ (r = 0 ∧ ¬ hasJ v g p0 n))) 0 0 (fun _ => False) := by
  refine cx_met (by decide) (Nat.le_of_ble_eq_true rfl) ?_
  intro p e s m below meth c hx hb hr hml hts hown hlocks hnm hC ls hl
  obtain ⟨hP, hK, hN⟩ := hC
  have hown : s.vm.findClass "ServiceDesk$Subjects" = some m.cls := hown
  have hl : lv_has ls 6 [(0, .ref (q 6)), (1, .int (nI g)), (2, .long p0), (4, .int (nI n))] := hl
  refine lv_aload_n hx hb z_s_hasJust_0 rfl (lv_at hl 0 rfl) ?_
  refine va_get (D := (dC, dI)) (ci := 1) (v := .ref (q 11)) (C := R1) (T := T1) (N := 6) hx hb hts (cw_sub iC1) hown hK hP 6 rfl rfl 4 (by decide) (hts _ (cw_in mw_56 rfl)) (fun _ h9 => h9) rfl z_s_hasJust_1 ?_
  refine lv_iload_n hx hb z_s_hasJust_4 rfl (lv_at hl 1 rfl) ?_
  refine xa_i hx hb hK hP 11 0 rfl rfl (k := g) (y := zln v g) (hg) (by decide) (rfl) z_s_hasJust_5 ?_
  refine lv_iload hx hb z_s_hasJust_6 (lv_at hl 3 rfl) ?_
  refine lv_icmp_eq (tgt := 13) hx hb z_s_hasJust_8 (by decide) (fun c_8 => ?_) (fun c_8 => ?_)
  · refine lv_iconst (v := 0) hx hb z_s_hasJust_13 (by decide) ?_
    refine lv_istore (lv' := [(5, .int 0), (0, .ref (q 6)), (1, .int (nI g)), (2, .long p0), (4, .int (nI n))]) hx hb z_s_hasJust_14 hl (by decide) rfl (fun ls hl => ?_)
    refine rd_loopI (nL := 6) (n) (fun i => ∀ j, j < i → ztx v (g * 16 + j) &&& 255 = byteF p0 (nI n) (nI j)) (fun i => [(0, .ref (q 6)), (1, .int (nI g)), (2, .long p0), (4, .int (nI n)), (5, .int (nI i))]) ?_ ls (fun j h => absurd h (Nat.not_lt_zero j)) (lv_sub hl [1, 2, 3, 4, 0] rfl)
    intro i ls hle hI hl ih
    have hl : lv_has ls 6 [(0, .ref (q 6)), (1, .int (nI g)), (2, .long p0), (4, .int (nI n)), (5, .int (nI i))] := hl
    refine lv_iload hx hb z_s_hasJust_16 (lv_at hl 4 rfl) ?_
    refine lv_iload hx hb z_s_hasJust_18 (lv_at hl 3 rfl) ?_
    refine lv_icmp_ge (tgt := 49) hx hb z_s_hasJust_20 (by decide) (fun c_20 => ?_) (fun c_20 => ?_)
    · refine lv_iconst (v := 1) hx hb z_s_hasJust_49 (by decide) ?_
      exact W.zret (v := 1) hx hb hr rfl (fun t ht _ => ⟨1, rfl, Or.inl ⟨rfl, c_8, fun j hj => hI j (by rw [eq_of_nle hle (by omega) c_20]; exact hj)⟩, ht⟩) t_nil z_s_hasJust_50
    · have hlt : i < n := nlt_of (by omega) c_20
      refine lv_aload_n hx hb z_s_hasJust_23 rfl (lv_at hl 0 rfl) ?_
      refine lv_iload_n hx hb z_s_hasJust_24 rfl (lv_at hl 1 rfl) ?_
      refine lv_iload hx hb z_s_hasJust_25 (lv_at hl 4 rfl) ?_
      refine rdVi (As := [.int (nI g), .int (nI i)]) (rest := []) ⟨hx, hb, hml, hown, hts⟩ (c_s_byteAt l dC dI q cI cZ cB v g i (by omega)) mw_134 mw_131 mw_133 mp_2 mw_3 rfl yd_s_byteAt ⟨⟨rfl, rfl⟩, Nat.le_of_ble_eq_true rfl, Nat.le_of_ble_eq_true rfl⟩ ⟨Nat.zero_le _, Nat.zero_le _⟩ (RdC.preV hP hK hN (ci := 1) (q0 := 6) rfl rfl) rfl hl.1 rfl (Nat.le_of_ble_eq_true rfl) z_s_hasJust_27 (fun r_1 h_2 => ?_)
      subst h_2
      refine lv_lload_n hx hb z_s_hasJust_30 rfl (lv_at hl 2 rfl) ?_
      refine lv_iload hx hb z_s_hasJust_31 (lv_at hl 3 rfl) ?_
      refine lv_iload hx hb z_s_hasJust_33 (lv_at hl 4 rfl) ?_
      refine rdSi (As := [.long p0, .int (nI n), .int (nI i)]) (rest := [.int (ztx v (g * 16 + i) &&& 255)]) ⟨hx, hb, hml, hown, hts⟩ (c_s_byteOf l p0 (nI n) (nI i)) mw_410 mw_408 mw_409 mw_3 yd_s_byteOf ⟨⟨rfl, rfl⟩, Nat.le_of_ble_eq_true rfl, Nat.le_of_ble_eq_true rfl⟩ ⟨Nat.zero_le _, Nat.zero_le _⟩ (pre_pure) rfl hl.1 rfl (Nat.le_of_ble_eq_true rfl) z_s_hasJust_35 (fun r_3 h_4 => ?_)
      subst h_4
      refine lv_icmp_eq (tgt := 43) hx hb z_s_hasJust_38 (by decide) (fun c_38 => ?_) (fun c_38 => ?_)
      · refine lv_iinc (v := nI (i + 1)) (lv' := [(5, .int (nI (i + 1))), (0, .ref (q 6)), (1, .int (nI g)), (2, .long p0), (4, .int (nI n))]) hx hb z_s_hasJust_43 hl (k := 4) rfl (by exact nI_1 i) (by decide) rfl (fun ls hl => ?_)
        refine lv_goto (tgt := 16) hx hb z_s_hasJust_46 (by decide) ?_
        exact ih ls hlt (fun j hj => (Nat.lt_succ_iff_lt_or_eq.mp hj).elim (fun h => hI j h) (fun h => by rw [h]; exact c_38)) (lv_sub hl [1, 2, 3, 4, 0] rfl)
      · refine lv_iconst (v := 0) hx hb z_s_hasJust_41 (by decide) ?_
        exact W.zret (v := 0) hx hb hr rfl (fun t ht _ => ⟨0, rfl, Or.inr ⟨rfl, fun h => c_38 (h.2 i hlt)⟩, ht⟩) t_nil z_s_hasJust_42
  · refine lv_iconst (v := 0) hx hb z_s_hasJust_11 (by decide) ?_
    exact W.zret (v := 0) hx hb hr rfl (fun t ht _ => ⟨0, rfl, Or.inr ⟨rfl, fun h => c_8 h.1⟩, ht⟩) t_nil z_s_hasJust_12

set_option maxHeartbeats 4000000 in
set_option maxRecDepth 100000 in
theorem c_s_madeInAll (l : Launch) (dC : Nat → ClassId) (dI : Nat → Nat → Nat) (q : Nat → Nat) (cI cZ cB : ClassId) (v : St) (hi : Inv v) : Met l y_s_madeInAll (Cond.code y_s_madeInAll b_s_madeInAll 3 (some .int) :: CW) { frames := 0, cells := 0, slots := 0, locals := 0 } (va_Pc [.ref (q 6)] (RdC (dC, dI) (wC q cI cZ cB v) (tyC cI cZ cB))) (vp_Si (fun r : Int32 => r = nI (mkS v 8))) 0 0 (fun _ => False) := by
  refine cx_met (by decide) (Nat.le_of_ble_eq_true rfl) ?_
  intro p e s m below meth c hx hb hr hml hts hown hlocks hnm hC ls hl
  obtain ⟨hP, hK, hN⟩ := hC
  have hown : s.vm.findClass "ServiceDesk$Subjects" = some m.cls := hown
  have hl : lv_has ls 3 [(0, .ref (q 6))] := hl
  refine lv_iconst (v := 0) hx hb z_s_madeInAll_0 (by decide) ?_
  refine lv_istore_n (lv' := [(1, .int 0), (0, .ref (q 6))]) hx hb z_s_madeInAll_1 rfl hl (by decide) rfl (fun ls hl => ?_)
  refine lv_iconst (v := 0) hx hb z_s_madeInAll_2 (by decide) ?_
  refine lv_istore_n (lv' := [(2, .int 0), (1, .int 0), (0, .ref (q 6))]) hx hb z_s_madeInAll_3 rfl hl (by decide) rfl (fun ls hl => ?_)
  refine rd_loopI (nL := 3) (8) (fun _ => True) (fun i => [(0, .ref (q 6)), (1, .int (nI (mkS v i))), (2, .int (nI i))]) ?_ ls trivial (lv_sub hl [2, 1, 0] rfl)
  intro i ls hle hI hl ih
  have hl : lv_has ls 3 [(0, .ref (q 6)), (1, .int (nI (mkS v i))), (2, .int (nI i))] := hl
  refine lv_iload_n hx hb z_s_madeInAll_4 rfl (lv_at hl 2 rfl) ?_
  refine lv_bipush (v := 8) hx hb z_s_madeInAll_5 (by decide) ?_
  refine lv_icmp_ge (tgt := 25) hx hb z_s_madeInAll_7 (by decide) (fun c_7 => ?_) (fun c_7 => ?_)
  · refine lv_iload_n hx hb z_s_madeInAll_25 rfl (lv_at hl 1 rfl) ?_
    exact W.iret (v := nI (mkS v i)) hx hb hr (fun t ht _ => ⟨nI (mkS v i), rfl, by rw [eq_of_nle hle (by decide) c_7], ht⟩) t_nil z_s_madeInAll_26
  · have hlt : i < 8 := nlt_of (b := 8) (by omega) c_7
    refine lv_iload_n hx hb z_s_madeInAll_10 rfl (lv_at hl 1 rfl) ?_
    refine lv_aload_n hx hb z_s_madeInAll_11 rfl (lv_at hl 0 rfl) ?_
    refine va_get (D := (dC, dI)) (ci := 1) (v := .ref (q 7)) (C := R1) (T := T1) (N := 6) hx hb hts (cw_sub iC1) hown hK hP 6 rfl rfl 0 (by decide) (hts _ (cw_in mw_48 rfl)) (fun _ h9 => h9) rfl z_s_madeInAll_12 ?_
    refine lv_iload_n hx hb z_s_madeInAll_15 rfl (lv_at hl 2 rfl) ?_
    refine xa_i hx hb hK hP 7 0 rfl rfl (k := i) (y := nI (mN v i)) (hlt) (by decide) ((hi.mk i hlt).2) z_s_madeInAll_16 ?_
    refine lv_iadd hx hb z_s_madeInAll_17 ?_
    rw [nI_add]
    refine lv_istore_n (lv' := [(1, .int (nI (mkS v i + mN v i))), (0, .ref (q 6)), (2, .int (nI i))]) hx hb z_s_madeInAll_18 rfl hl (by decide) rfl (fun ls hl => ?_)
    refine lv_iinc (v := nI (i + 1)) (lv' := [(2, .int (nI (i + 1))), (1, .int (nI (mkS v i + mN v i))), (0, .ref (q 6))]) hx hb z_s_madeInAll_19 hl (k := 2) rfl (by exact nI_1 i) (by decide) rfl (fun ls hl => ?_)
    refine lv_goto (tgt := 4) hx hb z_s_madeInAll_22 (by decide) ?_
    exact ih ls hlt trivial (by show lv_has ls 3 [(0, .ref (q 6)), (1, .int (nI (mkS v (i + 1)))), (2, .int (nI (i + 1)))]; rw [mkS]; exact lv_sub hl [2, 1, 0] rfl)

set_option maxHeartbeats 4000000 in
set_option maxRecDepth 100000 in
theorem c_s_openInAll (l : Launch) (dC : Nat → ClassId) (dI : Nat → Nat → Nat) (q : Nat → Nat) (cI cZ cB : ClassId) (v : St) (hi : Inv v) : Met l y_s_openInAll (Cond.code y_s_openInAll b_s_openInAll 3 (some .int) :: CW) { frames := 2, cells := 0, slots := 0, locals := 44 } (va_Pc [.ref (q 6)] (RdC (dC, dI) (wC q cI cZ cB v) (tyC cI cZ cB))) (vp_Si (fun r : Int32 => r = nI (opS v 8))) 0 0 (fun _ => False) := by
  refine cx_met (by decide) (Nat.le_of_ble_eq_true rfl) ?_
  intro p e s m below meth c hx hb hr hml hts hown hlocks hnm hC ls hl
  obtain ⟨hP, hK, hN⟩ := hC
  have hown : s.vm.findClass "ServiceDesk$Subjects" = some m.cls := hown
  have hl : lv_has ls 3 [(0, .ref (q 6))] := hl
  refine lv_iconst (v := 0) hx hb z_s_openInAll_0 (by decide) ?_
  refine lv_istore_n (lv' := [(1, .int 0), (0, .ref (q 6))]) hx hb z_s_openInAll_1 rfl hl (by decide) rfl (fun ls hl => ?_)
  refine lv_iconst (v := 0) hx hb z_s_openInAll_2 (by decide) ?_
  refine lv_istore_n (lv' := [(2, .int 0), (1, .int 0), (0, .ref (q 6))]) hx hb z_s_openInAll_3 rfl hl (by decide) rfl (fun ls hl => ?_)
  refine rd_loopI (nL := 3) (8) (fun _ => True) (fun i => [(0, .ref (q 6)), (1, .int (nI (opS v i))), (2, .int (nI i))]) ?_ ls trivial (lv_sub hl [2, 1, 0] rfl)
  intro i ls hle hI hl ih
  have hl : lv_has ls 3 [(0, .ref (q 6)), (1, .int (nI (opS v i))), (2, .int (nI i))] := hl
  refine lv_iload_n hx hb z_s_openInAll_4 rfl (lv_at hl 2 rfl) ?_
  refine lv_bipush (v := 8) hx hb z_s_openInAll_5 (by decide) ?_
  refine lv_icmp_ge (tgt := 24) hx hb z_s_openInAll_7 (by decide) (fun c_7 => ?_) (fun c_7 => ?_)
  · refine lv_iload_n hx hb z_s_openInAll_24 rfl (lv_at hl 1 rfl) ?_
    exact W.iret (v := nI (opS v i)) hx hb hr (fun t ht _ => ⟨nI (opS v i), rfl, by rw [eq_of_nle hle (by decide) c_7], ht⟩) t_nil z_s_openInAll_25
  · have hlt : i < 8 := nlt_of (b := 8) (by omega) c_7
    refine lv_iload_n hx hb z_s_openInAll_10 rfl (lv_at hl 1 rfl) ?_
    refine lv_aload_n hx hb z_s_openInAll_11 rfl (lv_at hl 0 rfl) ?_
    refine lv_iload_n hx hb z_s_openInAll_12 rfl (lv_at hl 2 rfl) ?_
    refine rdVi (As := [.int (nI i)]) (rest := [.int (nI (opS v i))]) ⟨hx, hb, hml, hown, hts⟩ (c_s_openOf l dC dI q cI cZ cB v hi i hlt) mw_378 mw_472 mw_377 mp_19 mw_3 rfl yd_s_openOf ⟨⟨rfl, rfl⟩, Nat.le_of_ble_eq_true rfl, Nat.le_of_ble_eq_true rfl⟩ ⟨Nat.zero_le _, Nat.zero_le _⟩ (RdC.preV hP hK hN (ci := 1) (q0 := 6) rfl rfl) rfl hl.1 rfl (Nat.le_of_ble_eq_true rfl) z_s_openInAll_13 (fun r_1 h_2 => ?_)
    subst h_2
    refine lv_iadd hx hb z_s_openInAll_16 ?_
    rw [nI_add]
    refine lv_istore_n (lv' := [(1, .int (nI (opS v i + opC v i (mN v i)))), (0, .ref (q 6)), (2, .int (nI i))]) hx hb z_s_openInAll_17 rfl hl (by decide) rfl (fun ls hl => ?_)
    refine lv_iinc (v := nI (i + 1)) (lv' := [(2, .int (nI (i + 1))), (1, .int (nI (opS v i + opC v i (mN v i)))), (0, .ref (q 6))]) hx hb z_s_openInAll_18 hl (k := 2) rfl (by exact nI_1 i) (by decide) rfl (fun ls hl => ?_)
    refine lv_goto (tgt := 4) hx hb z_s_openInAll_21 (by decide) ?_
    exact ih ls hlt trivial (by show lv_has ls 3 [(0, .ref (q 6)), (1, .int (nI (opS v (i + 1)))), (2, .int (nI (i + 1)))]; rw [opS]; exact lv_sub hl [2, 1, 0] rfl)

set_option maxHeartbeats 4000000 in
set_option maxRecDepth 100000 in
theorem c_s_stirOne (l : Launch) (dC : Nat → ClassId) (dI : Nat → Nat → Nat) (q : Nat → Nat) (cI cZ cB : ClassId) (v : St) (hi : Inv v) (b : Int32) (g : Nat) (hg : g < 240) : Met l y_s_stirOne (Cond.code y_s_stirOne b_s_stirOne 5 (some .int) :: CW) { frames := 1, cells := 0, slots := 0, locals := 22 } (va_Pc [.ref (q 6), .int b, .int (nI g)] (RdC (dC, dI) (wC q cI cZ cB v) (tyC cI cZ cB))) (vp_Si (fun r : Int32 => r = sOne v b g)) 0 0 (fun _ => False) := by
  refine cx_met (by decide) (Nat.le_of_ble_eq_true rfl) ?_
  intro p e s m below meth c hx hb hr hml hts hown hlocks hnm hC ls hl
  obtain ⟨hP, hK, hN⟩ := hC
  have hown : s.vm.findClass "ServiceDesk$Subjects" = some m.cls := hown
  have hl : lv_has ls 5 [(0, .ref (q 6)), (1, .int b), (2, .int (nI g))] := hl
  have hL := (hi.ln g hg).1
  refine lv_iload_n hx hb z_s_stirOne_0 rfl (lv_at hl 1 rfl) ?_
  refine lv_aload_n hx hb z_s_stirOne_1 rfl (lv_at hl 0 rfl) ?_
  refine va_get (D := (dC, dI)) (ci := 1) (v := .ref (q 8)) (C := R1) (T := T1) (N := 6) hx hb hts (cw_sub iC1) hown hK hP 6 rfl rfl 1 (by decide) (hts _ (cw_in mw_50 rfl)) (fun _ h9 => h9) rfl z_s_stirOne_2 ?_
  refine lv_iload_n hx hb z_s_stirOne_5 rfl (lv_at hl 2 rfl) ?_
  refine xa_i hx hb hK hP 8 0 rfl rfl (k := g) (y := zab v g) (hg) (by decide) (rfl) z_s_stirOne_6 ?_
  refine rdSNi (As := [.int b, .int (zab v g)]) (rest := []) ⟨hx, hb, hml, hown, hts⟩ (c_d_stir l b (zab v g)) mw_117 (hN _ nw_15) mw_116 mw_1 yd_d_stir ⟨⟨rfl, rfl⟩, Nat.le_of_ble_eq_true rfl, Nat.le_of_ble_eq_true rfl⟩ ⟨Nat.zero_le _, Nat.zero_le _⟩ (pre_pure) rfl hl.1 rfl (Nat.le_of_ble_eq_true rfl) z_s_stirOne_7 (fun r_1 h_2 => ?_)
  subst h_2
  refine lv_aload_n hx hb z_s_stirOne_10 rfl (lv_at hl 0 rfl) ?_
  refine va_get (D := (dC, dI)) (ci := 1) (v := .ref (q 9)) (C := R1) (T := T1) (N := 6) hx hb hts (cw_sub iC1) hown hK hP 6 rfl rfl 2 (by decide) (hts _ (cw_in mw_52 rfl)) (fun _ h9 => h9) rfl z_s_stirOne_11 ?_
  refine lv_iload_n hx hb z_s_stirOne_14 rfl (lv_at hl 2 rfl) ?_
  refine xa_z hx hb hK hP 9 1 rfl rfl (k := g) (y := zop v g) (hg) (by decide) (rfl) z_s_stirOne_15 ?_
  refine lv_if_eq (tgt := 23) hx hb z_s_stirOne_16 (by decide) (fun c_16 => ?_) (fun c_16 => ?_)
  · refine lv_iconst (v := 0) hx hb z_s_stirOne_23 (by decide) ?_
    refine rdSNi (As := [.int (stirF b (zab v g)), .int 0]) (rest := []) ⟨hx, hb, hml, hown, hts⟩ (c_d_stir l (stirF b (zab v g)) 0) mw_117 (hN _ nw_15) mw_116 mw_1 yd_d_stir ⟨⟨rfl, rfl⟩, Nat.le_of_ble_eq_true rfl, Nat.le_of_ble_eq_true rfl⟩ ⟨Nat.zero_le _, Nat.zero_le _⟩ (pre_pure) rfl hl.1 rfl (Nat.le_of_ble_eq_true rfl) z_s_stirOne_24 (fun r_3 h_4 => ?_)
    subst h_4
    refine lv_aload_n hx hb z_s_stirOne_27 rfl (lv_at hl 0 rfl) ?_
    refine va_get (D := (dC, dI)) (ci := 1) (v := .ref (q 10)) (C := R1) (T := T1) (N := 6) hx hb hts (cw_sub iC1) hown hK hP 6 rfl rfl 3 (by decide) (hts _ (cw_in mw_54 rfl)) (fun _ h9 => h9) rfl z_s_stirOne_28 ?_
    refine lv_iload_n hx hb z_s_stirOne_31 rfl (lv_at hl 2 rfl) ?_
    refine xa_i hx hb hK hP 10 0 rfl rfl (k := g) (y := zsm v g) (hg) (by decide) (rfl) z_s_stirOne_32 ?_
    refine rdSNi (As := [.int (stirF (stirF b (zab v g)) 0), .int (zsm v g)]) (rest := []) ⟨hx, hb, hml, hown, hts⟩ (c_d_stir l (stirF (stirF b (zab v g)) 0) (zsm v g)) mw_117 (hN _ nw_15) mw_116 mw_1 yd_d_stir ⟨⟨rfl, rfl⟩, Nat.le_of_ble_eq_true rfl, Nat.le_of_ble_eq_true rfl⟩ ⟨Nat.zero_le _, Nat.zero_le _⟩ (pre_pure) rfl hl.1 rfl (Nat.le_of_ble_eq_true rfl) z_s_stirOne_33 (fun r_5 h_6 => ?_)
    subst h_6
    refine lv_istore_n (lv' := [(3, .int (stirF (stirF (stirF b (zab v g)) 0) (zsm v g))), (0, .ref (q 6)), (1, .int b), (2, .int (nI g))]) hx hb z_s_stirOne_36 rfl hl (by decide) rfl (fun ls hl => ?_)
    refine lv_iconst (v := 0) hx hb z_s_stirOne_37 (by decide) ?_
    refine lv_istore (lv' := [(4, .int 0), (3, .int (stirF (stirF (stirF b (zab v g)) 0) (zsm v g))), (0, .ref (q 6)), (1, .int b), (2, .int (nI g))]) hx hb z_s_stirOne_38 hl (by decide) rfl (fun ls hl => ?_)
    refine rd_loopI (nL := 5) (lN9 v g) (fun _ => True) (fun i => [(0, .ref (q 6)), (1, .int b), (2, .int (nI g)), (3, .int (txS v g (stirF (stirF (stirF b (zab v g)) 0) (zsm v g)) i)), (4, .int (nI i))]) ?_ ls trivial (lv_sub hl [2, 3, 4, 1, 0] rfl)
    intro i ls hle hI hl ih
    have hl : lv_has ls 5 [(0, .ref (q 6)), (1, .int b), (2, .int (nI g)), (3, .int (txS v g (stirF (stirF (stirF b (zab v g)) 0) (zsm v g)) i)), (4, .int (nI i))] := hl
    refine lv_iload hx hb z_s_stirOne_40 (lv_at hl 4 rfl) ?_
    refine lv_aload_n hx hb z_s_stirOne_42 rfl (lv_at hl 0 rfl) ?_
    refine va_get (D := (dC, dI)) (ci := 1) (v := .ref (q 11)) (C := R1) (T := T1) (N := 6) hx hb hts (cw_sub iC1) hown hK hP 6 rfl rfl 4 (by decide) (hts _ (cw_in mw_56 rfl)) (fun _ h9 => h9) rfl z_s_stirOne_43 ?_
    refine lv_iload_n hx hb z_s_stirOne_46 rfl (lv_at hl 2 rfl) ?_
    refine xa_i hx hb hK hP 11 0 rfl rfl (k := g) (y := nI (lN9 v g)) (hg) (by decide) ((hi.ln g hg).2) z_s_stirOne_47 ?_
    refine lv_icmp_ge (tgt := 69) hx hb z_s_stirOne_48 (by decide) (fun c_48 => ?_) (fun c_48 => ?_)
    · refine lv_iload_n hx hb z_s_stirOne_69 rfl (lv_at hl 3 rfl) ?_
      exact W.iret (v := txS v g (stirF (stirF (stirF b (zab v g)) 0) (zsm v g)) i) hx hb hr (fun t ht _ => ⟨txS v g (stirF (stirF (stirF b (zab v g)) 0) (zsm v g)) i, rfl, by rw [eq_of_nle hle (by omega) c_48, sOne, if_pos c_16], ht⟩) t_nil z_s_stirOne_70
    · have hlt : i < lN9 v g := nlt_of (by omega) c_48
      refine lv_iload_n hx hb z_s_stirOne_51 rfl (lv_at hl 3 rfl) ?_
      refine lv_aload_n hx hb z_s_stirOne_52 rfl (lv_at hl 0 rfl) ?_
      refine lv_iload_n hx hb z_s_stirOne_53 rfl (lv_at hl 2 rfl) ?_
      refine lv_iload hx hb z_s_stirOne_54 (lv_at hl 4 rfl) ?_
      refine rdVi (As := [.int (nI g), .int (nI i)]) (rest := [.int (txS v g (stirF (stirF (stirF b (zab v g)) 0) (zsm v g)) i)]) ⟨hx, hb, hml, hown, hts⟩ (c_s_byteAt l dC dI q cI cZ cB v g i (by omega)) mw_134 mw_131 mw_133 mp_2 mw_3 rfl yd_s_byteAt ⟨⟨rfl, rfl⟩, Nat.le_of_ble_eq_true rfl, Nat.le_of_ble_eq_true rfl⟩ ⟨Nat.zero_le _, Nat.zero_le _⟩ (RdC.preV hP hK hN (ci := 1) (q0 := 6) rfl rfl) rfl hl.1 rfl (Nat.le_of_ble_eq_true rfl) z_s_stirOne_56 (fun r_7 h_8 => ?_)
      subst h_8
      refine rdSNi (As := [.int (txS v g (stirF (stirF (stirF b (zab v g)) 0) (zsm v g)) i), .int (ztx v (g * 16 + i) &&& 255)]) (rest := []) ⟨hx, hb, hml, hown, hts⟩ (c_d_stir l (txS v g (stirF (stirF (stirF b (zab v g)) 0) (zsm v g)) i) (ztx v (g * 16 + i) &&& 255)) mw_117 (hN _ nw_15) mw_116 mw_1 yd_d_stir ⟨⟨rfl, rfl⟩, Nat.le_of_ble_eq_true rfl, Nat.le_of_ble_eq_true rfl⟩ ⟨Nat.zero_le _, Nat.zero_le _⟩ (pre_pure) rfl hl.1 rfl (Nat.le_of_ble_eq_true rfl) z_s_stirOne_59 (fun r_9 h_10 => ?_)
      subst h_10
      refine lv_istore_n (lv' := [(3, .int (stirF (txS v g (stirF (stirF (stirF b (zab v g)) 0) (zsm v g)) i) (ztx v (g * 16 + i) &&& 255))), (0, .ref (q 6)), (1, .int b), (2, .int (nI g)), (4, .int (nI i))]) hx hb z_s_stirOne_62 rfl hl (by decide) rfl (fun ls hl => ?_)
      refine lv_iinc (v := nI (i + 1)) (lv' := [(4, .int (nI (i + 1))), (3, .int (stirF (txS v g (stirF (stirF (stirF b (zab v g)) 0) (zsm v g)) i) (ztx v (g * 16 + i) &&& 255))), (0, .ref (q 6)), (1, .int b), (2, .int (nI g))]) hx hb z_s_stirOne_63 hl (k := 4) rfl (by exact nI_1 i) (by decide) rfl (fun ls hl => ?_)
      refine lv_goto (tgt := 40) hx hb z_s_stirOne_66 (by decide) ?_
      exact ih ls hlt trivial (by show lv_has ls 5 [(0, .ref (q 6)), (1, .int b), (2, .int (nI g)), (3, .int (txS v g (stirF (stirF (stirF b (zab v g)) 0) (zsm v g)) (i + 1))), (4, .int (nI (i + 1)))]; rw [txS]; exact lv_sub hl [2, 3, 4, 1, 0] rfl)
  · refine lv_iconst (v := 1) hx hb z_s_stirOne_19 (by decide) ?_
    refine lv_goto (tgt := 24) hx hb z_s_stirOne_20 (by decide) ?_
    refine rdSNi (As := [.int (stirF b (zab v g)), .int 1]) (rest := []) ⟨hx, hb, hml, hown, hts⟩ (c_d_stir l (stirF b (zab v g)) 1) mw_117 (hN _ nw_15) mw_116 mw_1 yd_d_stir ⟨⟨rfl, rfl⟩, Nat.le_of_ble_eq_true rfl, Nat.le_of_ble_eq_true rfl⟩ ⟨Nat.zero_le _, Nat.zero_le _⟩ (pre_pure) rfl hl.1 rfl (Nat.le_of_ble_eq_true rfl) z_s_stirOne_24 (fun r_11 h_12 => ?_)
    subst h_12
    refine lv_aload_n hx hb z_s_stirOne_27 rfl (lv_at hl 0 rfl) ?_
    refine va_get (D := (dC, dI)) (ci := 1) (v := .ref (q 10)) (C := R1) (T := T1) (N := 6) hx hb hts (cw_sub iC1) hown hK hP 6 rfl rfl 3 (by decide) (hts _ (cw_in mw_54 rfl)) (fun _ h9 => h9) rfl z_s_stirOne_28 ?_
    refine lv_iload_n hx hb z_s_stirOne_31 rfl (lv_at hl 2 rfl) ?_
    refine xa_i hx hb hK hP 10 0 rfl rfl (k := g) (y := zsm v g) (hg) (by decide) (rfl) z_s_stirOne_32 ?_
    refine rdSNi (As := [.int (stirF (stirF b (zab v g)) 1), .int (zsm v g)]) (rest := []) ⟨hx, hb, hml, hown, hts⟩ (c_d_stir l (stirF (stirF b (zab v g)) 1) (zsm v g)) mw_117 (hN _ nw_15) mw_116 mw_1 yd_d_stir ⟨⟨rfl, rfl⟩, Nat.le_of_ble_eq_true rfl, Nat.le_of_ble_eq_true rfl⟩ ⟨Nat.zero_le _, Nat.zero_le _⟩ (pre_pure) rfl hl.1 rfl (Nat.le_of_ble_eq_true rfl) z_s_stirOne_33 (fun r_13 h_14 => ?_)
    subst h_14
    refine lv_istore_n (lv' := [(3, .int (stirF (stirF (stirF b (zab v g)) 1) (zsm v g))), (0, .ref (q 6)), (1, .int b), (2, .int (nI g))]) hx hb z_s_stirOne_36 rfl hl (by decide) rfl (fun ls hl => ?_)
    refine lv_iconst (v := 0) hx hb z_s_stirOne_37 (by decide) ?_
    refine lv_istore (lv' := [(4, .int 0), (3, .int (stirF (stirF (stirF b (zab v g)) 1) (zsm v g))), (0, .ref (q 6)), (1, .int b), (2, .int (nI g))]) hx hb z_s_stirOne_38 hl (by decide) rfl (fun ls hl => ?_)
    refine rd_loopI (nL := 5) (lN9 v g) (fun _ => True) (fun i => [(0, .ref (q 6)), (1, .int b), (2, .int (nI g)), (3, .int (txS v g (stirF (stirF (stirF b (zab v g)) 1) (zsm v g)) i)), (4, .int (nI i))]) ?_ ls trivial (lv_sub hl [2, 3, 4, 1, 0] rfl)
    intro i ls hle hI hl ih
    have hl : lv_has ls 5 [(0, .ref (q 6)), (1, .int b), (2, .int (nI g)), (3, .int (txS v g (stirF (stirF (stirF b (zab v g)) 1) (zsm v g)) i)), (4, .int (nI i))] := hl
    refine lv_iload hx hb z_s_stirOne_40 (lv_at hl 4 rfl) ?_
    refine lv_aload_n hx hb z_s_stirOne_42 rfl (lv_at hl 0 rfl) ?_
    refine va_get (D := (dC, dI)) (ci := 1) (v := .ref (q 11)) (C := R1) (T := T1) (N := 6) hx hb hts (cw_sub iC1) hown hK hP 6 rfl rfl 4 (by decide) (hts _ (cw_in mw_56 rfl)) (fun _ h9 => h9) rfl z_s_stirOne_43 ?_
    refine lv_iload_n hx hb z_s_stirOne_46 rfl (lv_at hl 2 rfl) ?_
    refine xa_i hx hb hK hP 11 0 rfl rfl (k := g) (y := nI (lN9 v g)) (hg) (by decide) ((hi.ln g hg).2) z_s_stirOne_47 ?_
    refine lv_icmp_ge (tgt := 69) hx hb z_s_stirOne_48 (by decide) (fun c_48 => ?_) (fun c_48 => ?_)
    · refine lv_iload_n hx hb z_s_stirOne_69 rfl (lv_at hl 3 rfl) ?_
      exact W.iret (v := txS v g (stirF (stirF (stirF b (zab v g)) 1) (zsm v g)) i) hx hb hr (fun t ht _ => ⟨txS v g (stirF (stirF (stirF b (zab v g)) 1) (zsm v g)) i, rfl, by rw [eq_of_nle hle (by omega) c_48, sOne, if_neg c_16], ht⟩) t_nil z_s_stirOne_70
    · have hlt : i < lN9 v g := nlt_of (by omega) c_48
      refine lv_iload_n hx hb z_s_stirOne_51 rfl (lv_at hl 3 rfl) ?_
      refine lv_aload_n hx hb z_s_stirOne_52 rfl (lv_at hl 0 rfl) ?_
      refine lv_iload_n hx hb z_s_stirOne_53 rfl (lv_at hl 2 rfl) ?_
      refine lv_iload hx hb z_s_stirOne_54 (lv_at hl 4 rfl) ?_
      refine rdVi (As := [.int (nI g), .int (nI i)]) (rest := [.int (txS v g (stirF (stirF (stirF b (zab v g)) 1) (zsm v g)) i)]) ⟨hx, hb, hml, hown, hts⟩ (c_s_byteAt l dC dI q cI cZ cB v g i (by omega)) mw_134 mw_131 mw_133 mp_2 mw_3 rfl yd_s_byteAt ⟨⟨rfl, rfl⟩, Nat.le_of_ble_eq_true rfl, Nat.le_of_ble_eq_true rfl⟩ ⟨Nat.zero_le _, Nat.zero_le _⟩ (RdC.preV hP hK hN (ci := 1) (q0 := 6) rfl rfl) rfl hl.1 rfl (Nat.le_of_ble_eq_true rfl) z_s_stirOne_56 (fun r_15 h_16 => ?_)
      subst h_16
      refine rdSNi (As := [.int (txS v g (stirF (stirF (stirF b (zab v g)) 1) (zsm v g)) i), .int (ztx v (g * 16 + i) &&& 255)]) (rest := []) ⟨hx, hb, hml, hown, hts⟩ (c_d_stir l (txS v g (stirF (stirF (stirF b (zab v g)) 1) (zsm v g)) i) (ztx v (g * 16 + i) &&& 255)) mw_117 (hN _ nw_15) mw_116 mw_1 yd_d_stir ⟨⟨rfl, rfl⟩, Nat.le_of_ble_eq_true rfl, Nat.le_of_ble_eq_true rfl⟩ ⟨Nat.zero_le _, Nat.zero_le _⟩ (pre_pure) rfl hl.1 rfl (Nat.le_of_ble_eq_true rfl) z_s_stirOne_59 (fun r_17 h_18 => ?_)
      subst h_18
      refine lv_istore_n (lv' := [(3, .int (stirF (txS v g (stirF (stirF (stirF b (zab v g)) 1) (zsm v g)) i) (ztx v (g * 16 + i) &&& 255))), (0, .ref (q 6)), (1, .int b), (2, .int (nI g)), (4, .int (nI i))]) hx hb z_s_stirOne_62 rfl hl (by decide) rfl (fun ls hl => ?_)
      refine lv_iinc (v := nI (i + 1)) (lv' := [(4, .int (nI (i + 1))), (3, .int (stirF (txS v g (stirF (stirF (stirF b (zab v g)) 1) (zsm v g)) i) (ztx v (g * 16 + i) &&& 255))), (0, .ref (q 6)), (1, .int b), (2, .int (nI g))]) hx hb z_s_stirOne_63 hl (k := 4) rfl (by exact nI_1 i) (by decide) rfl (fun ls hl => ?_)
      refine lv_goto (tgt := 40) hx hb z_s_stirOne_66 (by decide) ?_
      exact ih ls hlt trivial (by show lv_has ls 5 [(0, .ref (q 6)), (1, .int b), (2, .int (nI g)), (3, .int (txS v g (stirF (stirF (stirF b (zab v g)) 1) (zsm v g)) (i + 1))), (4, .int (nI (i + 1)))]; rw [txS]; exact lv_sub hl [2, 3, 4, 1, 0] rfl)

set_option maxHeartbeats 4000000 in
set_option maxRecDepth 100000 in
theorem c_s_stirKind (l : Launch) (dC : Nat → ClassId) (dI : Nat → Nat → Nat) (q : Nat → Nat) (cI cZ cB : ClassId) (v : St) (hi : Inv v) (b : Int32) (k : Nat) (hk : k < 8) : Met l y_s_stirKind (Cond.code y_s_stirKind b_s_stirKind 5 (some .int) :: CW) { frames := 2, cells := 0, slots := 0, locals := 46 } (va_Pc [.ref (q 6), .int b, .int (nI k)] (RdC (dC, dI) (wC q cI cZ cB v) (tyC cI cZ cB))) (vp_Si (fun r : Int32 => r = sKi v b k (mN v k))) 0 0 (fun _ => False) := by
  refine cx_met (by decide) (Nat.le_of_ble_eq_true rfl) ?_
  intro p e s m below meth c hx hb hr hml hts hown hlocks hnm hC ls hl
  obtain ⟨hP, hK, hN⟩ := hC
  have hown : s.vm.findClass "ServiceDesk$Subjects" = some m.cls := hown
  have hl : lv_has ls 5 [(0, .ref (q 6)), (1, .int b), (2, .int (nI k))] := hl
  have hM := (hi.mk k hk).1
  refine lv_iload_n hx hb z_s_stirKind_0 rfl (lv_at hl 1 rfl) ?_
  refine lv_istore_n (lv' := [(3, .int b), (0, .ref (q 6)), (1, .int b), (2, .int (nI k))]) hx hb z_s_stirKind_1 rfl hl (by decide) rfl (fun ls hl => ?_)
  refine lv_iconst (v := 0) hx hb z_s_stirKind_2 (by decide) ?_
  refine lv_istore (lv' := [(4, .int 0), (3, .int b), (0, .ref (q 6)), (1, .int b), (2, .int (nI k))]) hx hb z_s_stirKind_3 hl (by decide) rfl (fun ls hl => ?_)
  refine rd_loopI (nL := 5) (mN v k) (fun _ => True) (fun i => [(0, .ref (q 6)), (1, .int b), (2, .int (nI k)), (3, .int (sKi v b k i)), (4, .int (nI i))]) ?_ ls trivial (lv_sub hl [2, 3, 4, 1, 0] rfl)
  intro i ls hle hI hl ih
  have hl : lv_has ls 5 [(0, .ref (q 6)), (1, .int b), (2, .int (nI k)), (3, .int (sKi v b k i)), (4, .int (nI i))] := hl
  refine lv_iload hx hb z_s_stirKind_5 (lv_at hl 4 rfl) ?_
  refine lv_aload_n hx hb z_s_stirKind_7 rfl (lv_at hl 0 rfl) ?_
  refine va_get (D := (dC, dI)) (ci := 1) (v := .ref (q 7)) (C := R1) (T := T1) (N := 6) hx hb hts (cw_sub iC1) hown hK hP 6 rfl rfl 0 (by decide) (hts _ (cw_in mw_48 rfl)) (fun _ h9 => h9) rfl z_s_stirKind_8 ?_
  refine lv_iload_n hx hb z_s_stirKind_11 rfl (lv_at hl 2 rfl) ?_
  refine xa_i hx hb hK hP 7 0 rfl rfl (k := k) (y := nI (mN v k)) (hk) (by decide) ((hi.mk k hk).2) z_s_stirKind_12 ?_
  refine lv_icmp_ge (tgt := 34) hx hb z_s_stirKind_13 (by decide) (fun c_13 => ?_) (fun c_13 => ?_)
  · refine lv_iload_n hx hb z_s_stirKind_34 rfl (lv_at hl 3 rfl) ?_
    exact W.iret (v := sKi v b k i) hx hb hr (fun t ht _ => ⟨sKi v b k i, rfl, by rw [eq_of_nle hle (by omega) c_13], ht⟩) t_nil z_s_stirKind_35
  · have hlt : i < mN v k := nlt_of (by omega) c_13
    refine lv_aload_n hx hb z_s_stirKind_16 rfl (lv_at hl 0 rfl) ?_
    refine lv_iload_n hx hb z_s_stirKind_17 rfl (lv_at hl 3 rfl) ?_
    refine lv_iload_n hx hb z_s_stirKind_18 rfl (lv_at hl 2 rfl) ?_
    refine lv_iload hx hb z_s_stirKind_19 (lv_at hl 4 rfl) ?_
    refine rdSNi (As := [.int (nI k), .int (nI i)]) (rest := [.int (sKi v b k i), .ref (q 6)]) ⟨hx, hb, hml, hown, hts⟩ (c_d_slotOf l k i) mw_125 (hN _ nw_14) mw_124 mw_1 yd_d_slotOf ⟨⟨rfl, rfl⟩, Nat.le_of_ble_eq_true rfl, Nat.le_of_ble_eq_true rfl⟩ ⟨Nat.zero_le _, Nat.zero_le _⟩ (pre_pure) rfl hl.1 rfl (Nat.le_of_ble_eq_true rfl) z_s_stirKind_21 (fun r_1 h_2 => ?_)
    subst h_2
    refine rdVi (As := [.int (sKi v b k i), .int (nI (k * 30 + i))]) (rest := []) ⟨hx, hb, hml, hown, hts⟩ (c_s_stirOne l dC dI q cI cZ cB v hi (sKi v b k i) (k * 30 + i) (by omega)) mw_129 mw_126 mw_128 mp_1 mw_3 rfl yd_s_stirOne ⟨⟨rfl, rfl⟩, Nat.le_of_ble_eq_true rfl, Nat.le_of_ble_eq_true rfl⟩ ⟨Nat.zero_le _, Nat.zero_le _⟩ (RdC.preV hP hK hN (ci := 1) (q0 := 6) rfl rfl) rfl hl.1 rfl (Nat.le_of_ble_eq_true rfl) z_s_stirKind_24 (fun r_3 h_4 => ?_)
    subst h_4
    refine lv_istore_n (lv' := [(3, .int (sOne v (sKi v b k i) (k * 30 + i))), (0, .ref (q 6)), (1, .int b), (2, .int (nI k)), (4, .int (nI i))]) hx hb z_s_stirKind_27 rfl hl (by decide) rfl (fun ls hl => ?_)
    refine lv_iinc (v := nI (i + 1)) (lv' := [(4, .int (nI (i + 1))), (3, .int (sOne v (sKi v b k i) (k * 30 + i))), (0, .ref (q 6)), (1, .int b), (2, .int (nI k))]) hx hb z_s_stirKind_28 hl (k := 4) rfl (by exact nI_1 i) (by decide) rfl (fun ls hl => ?_)
    refine lv_goto (tgt := 5) hx hb z_s_stirKind_31 (by decide) ?_
    exact ih ls hlt trivial (by show lv_has ls 5 [(0, .ref (q 6)), (1, .int b), (2, .int (nI k)), (3, .int (sKi v b k (i + 1))), (4, .int (nI (i + 1)))]; rw [sKi]; exact lv_sub hl [2, 3, 4, 1, 0] rfl)

set_option maxHeartbeats 4000000 in
set_option maxRecDepth 100000 in
theorem c_r_stirAll (l : Launch) (dC : Nat → ClassId) (dI : Nat → Nat → Nat) (q : Nat → Nat) (cI cZ cB : ClassId) (v : St) (hi : Inv v) (b : Int32) : Met l y_r_stirAll (Cond.code y_r_stirAll b_r_stirAll 4 (some .int) :: CW) { frames := 1, cells := 0, slots := 0, locals := 22 } (va_Pc [.ref (q 13), .int b] (RdC (dC, dI) (wC q cI cZ cB v) (tyC cI cZ cB))) (vp_Si (fun r : Int32 => r = sRo v b (kN v * 5))) 0 0 (fun _ => False) := by
  refine cx_met (by decide) (Nat.le_of_ble_eq_true rfl) ?_
  intro p e s m below meth c hx hb hr hml hts hown hlocks hnm hC ls hl
  obtain ⟨hP, hK, hN⟩ := hC
  have hown : s.vm.findClass "ServiceDesk$Rows" = some m.cls := hown
  have hl : lv_has ls 4 [(0, .ref (q 13)), (1, .int b)] := hl
  have hL := hi.kp.1
  refine lv_iload_n hx hb z_r_stirAll_0 rfl (lv_at hl 1 rfl) ?_
  refine lv_istore_n (lv' := [(2, .int b), (0, .ref (q 13)), (1, .int b)]) hx hb z_r_stirAll_1 rfl hl (by decide) rfl (fun ls hl => ?_)
  refine lv_iconst (v := 0) hx hb z_r_stirAll_2 (by decide) ?_
  refine lv_istore_n (lv' := [(3, .int 0), (2, .int b), (0, .ref (q 13)), (1, .int b)]) hx hb z_r_stirAll_3 rfl hl (by decide) rfl (fun ls hl => ?_)
  refine rd_loopI (nL := 4) (kN v * 5) (fun _ => True) (fun i => [(0, .ref (q 13)), (1, .int b), (2, .int (sRo v b i)), (3, .int (nI i))]) ?_ ls trivial (lv_sub hl [2, 3, 1, 0] rfl)
  intro i ls hle hI hl ih
  have hl : lv_has ls 4 [(0, .ref (q 13)), (1, .int b), (2, .int (sRo v b i)), (3, .int (nI i))] := hl
  refine lv_iload_n hx hb z_r_stirAll_4 rfl (lv_at hl 3 rfl) ?_
  refine lv_aload_n hx hb z_r_stirAll_5 rfl (lv_at hl 0 rfl) ?_
  refine va_get (D := (dC, dI)) (ci := 0) (v := .int (zkp v)) (C := R0) (T := T0) (N := 2) hx hb hts (cw_sub iC0) hown hK hP 13 rfl rfl 1 (by decide) (hts _ (cw_in mw_82 rfl)) (fun _ h9 => h9) rfl z_r_stirAll_6 ?_
  rw [hi.kp.2]
  refine lv_iconst (v := 5) hx hb z_r_stirAll_9 (by decide) ?_
  refine lv_imul hx hb z_r_stirAll_10 ?_
  rw [mul5_nI]
  refine lv_icmp_ge (tgt := 31) hx hb z_r_stirAll_11 (by decide) (fun c_11 => ?_) (fun c_11 => ?_)
  · refine lv_iload_n hx hb z_r_stirAll_31 rfl (lv_at hl 2 rfl) ?_
    exact W.iret (v := sRo v b i) hx hb hr (fun t ht _ => ⟨sRo v b i, rfl, by rw [eq_of_nle hle (by omega) c_11], ht⟩) t_nil z_r_stirAll_32
  · have hlt : i < kN v * 5 := nlt_of (by omega) c_11
    refine lv_iload_n hx hb z_r_stirAll_14 rfl (lv_at hl 2 rfl) ?_
    refine lv_aload_n hx hb z_r_stirAll_15 rfl (lv_at hl 0 rfl) ?_
    refine va_get (D := (dC, dI)) (ci := 0) (v := .ref (q 14)) (C := R0) (T := T0) (N := 2) hx hb hts (cw_sub iC0) hown hK hP 13 rfl rfl 0 (by decide) (hts _ (cw_in mw_80 rfl)) (fun _ h9 => h9) rfl z_r_stirAll_16 ?_
    refine lv_iload_n hx hb z_r_stirAll_19 rfl (lv_at hl 3 rfl) ?_
    refine xa_i hx hb hK hP 14 0 rfl rfl (k := i) (y := znu v i) (by omega) (by decide) (rfl) z_r_stirAll_20 ?_
    refine rdSNi (As := [.int (sRo v b i), .int (znu v i)]) (rest := []) ⟨hx, hb, hml, hown, hts⟩ (c_d_stir l (sRo v b i) (znu v i)) mw_117 (hN _ nw_17) mw_116 mw_1 yd_d_stir ⟨⟨rfl, rfl⟩, Nat.le_of_ble_eq_true rfl, Nat.le_of_ble_eq_true rfl⟩ ⟨Nat.zero_le _, Nat.zero_le _⟩ (pre_pure) rfl hl.1 rfl (Nat.le_of_ble_eq_true rfl) z_r_stirAll_21 (fun r_1 h_2 => ?_)
    subst h_2
    refine lv_istore_n (lv' := [(2, .int (stirF (sRo v b i) (znu v i))), (0, .ref (q 13)), (1, .int b), (3, .int (nI i))]) hx hb z_r_stirAll_24 rfl hl (by decide) rfl (fun ls hl => ?_)
    refine lv_iinc (v := nI (i + 1)) (lv' := [(3, .int (nI (i + 1))), (2, .int (stirF (sRo v b i) (znu v i))), (0, .ref (q 13)), (1, .int b)]) hx hb z_r_stirAll_25 hl (k := 3) rfl (by exact nI_1 i) (by decide) rfl (fun ls hl => ?_)
    refine lv_goto (tgt := 4) hx hb z_r_stirAll_28 (by decide) ?_
    exact ih ls hlt trivial (by show lv_has ls 4 [(0, .ref (q 13)), (1, .int b), (2, .int (sRo v b (i + 1))), (3, .int (nI (i + 1)))]; rw [sRo]; exact lv_sub hl [2, 3, 1, 0] rfl)

set_option maxHeartbeats 4000000 in
set_option maxRecDepth 100000 in
theorem c_d_book (l : Launch) (dC : Nat → ClassId) (dI : Nat → Nat → Nat) (q : Nat → Nat) (cI cZ cB : ClassId) (v : St) (hi : Inv v) : Met l y_d_book (Cond.code y_d_book b_d_book 3 (some .int) :: CW) { frames := 3, cells := 0, slots := 0, locals := 72 } (va_Pc [.ref (q 0)] (RdC (dC, dI) (wC q cI cZ cB v) (tyC cI cZ cB))) (vp_Si (fun r : Int32 => r = bookF v)) 0 0 (fun _ => False) := by
  refine cx_met (by decide) (Nat.le_of_ble_eq_true rfl) ?_
  intro p e s m below meth c hx hb hr hml hts hown hlocks hnm hC ls hl
  obtain ⟨hP, hK, hN⟩ := hC
  have hown : s.vm.findClass "ServiceDesk" = some m.cls := hown
  have hl : lv_has ls 3 [(0, .ref (q 0))] := hl
  refine lv_iconst (v := 0) hx hb z_d_book_0 (by decide) ?_
  refine lv_aload_n hx hb z_d_book_1 rfl (lv_at hl 0 rfl) ?_
  refine va_get (D := (dC, dI)) (ci := 3) (v := .int (zck v)) (C := R3) (T := T3) (N := 6) hx hb hts (cw_sub iC3) hown hK hP 0 rfl rfl 4 (by decide) (hts _ (cw_in mw_96 rfl)) (fun _ h9 => h9) rfl z_d_book_2 ?_
  refine rdSi (As := [.int 0, .int (zck v)]) (rest := []) ⟨hx, hb, hml, hown, hts⟩ (c_d_stir l 0 (zck v)) mw_117 mw_115 mw_116 mw_1 yd_d_stir ⟨⟨rfl, rfl⟩, Nat.le_of_ble_eq_true rfl, Nat.le_of_ble_eq_true rfl⟩ ⟨Nat.zero_le _, Nat.zero_le _⟩ (pre_pure) rfl hl.1 rfl (Nat.le_of_ble_eq_true rfl) z_d_book_5 (fun r_1 h_2 => ?_)
  subst h_2
  refine lv_aload_n hx hb z_d_book_8 rfl (lv_at hl 0 rfl) ?_
  refine va_get (D := (dC, dI)) (ci := 3) (v := .int (ztn v)) (C := R3) (T := T3) (N := 6) hx hb hts (cw_sub iC3) hown hK hP 0 rfl rfl 5 (by decide) (hts _ (cw_in mw_97 rfl)) (fun _ h9 => h9) rfl z_d_book_9 ?_
  refine rdSi (As := [.int (stirF 0 (zck v)), .int (ztn v)]) (rest := []) ⟨hx, hb, hml, hown, hts⟩ (c_d_stir l (stirF 0 (zck v)) (ztn v)) mw_117 mw_115 mw_116 mw_1 yd_d_stir ⟨⟨rfl, rfl⟩, Nat.le_of_ble_eq_true rfl, Nat.le_of_ble_eq_true rfl⟩ ⟨Nat.zero_le _, Nat.zero_le _⟩ (pre_pure) rfl hl.1 rfl (Nat.le_of_ble_eq_true rfl) z_d_book_12 (fun r_3 h_4 => ?_)
  subst h_4
  refine lv_istore_n (lv' := [(1, .int (stirF (stirF 0 (zck v)) (ztn v))), (0, .ref (q 0))]) hx hb z_d_book_15 rfl hl (by decide) rfl (fun ls hl => ?_)
  refine lv_iconst (v := 0) hx hb z_d_book_16 (by decide) ?_
  refine lv_istore_n (lv' := [(2, .int 0), (1, .int (stirF (stirF 0 (zck v)) (ztn v))), (0, .ref (q 0))]) hx hb z_d_book_17 rfl hl (by decide) rfl (fun ls hl => ?_)
  refine rd_loopI (nL := 3) (8) (fun _ => True) (fun i => [(0, .ref (q 0)), (1, .int (sBk v i)), (2, .int (nI i))]) ?_ ls trivial (lv_sub hl [2, 1, 0] rfl)
  intro i ls hle hI hl ih
  have hl : lv_has ls 3 [(0, .ref (q 0)), (1, .int (sBk v i)), (2, .int (nI i))] := hl
  refine lv_iload_n hx hb z_d_book_18 rfl (lv_at hl 2 rfl) ?_
  refine lv_bipush (v := 8) hx hb z_d_book_19 (by decide) ?_
  refine lv_icmp_ge (tgt := 49) hx hb z_d_book_21 (by decide) (fun c_21 => ?_) (fun c_21 => ?_)
  · obtain rfl : i = 8 := eq_of_nle hle (by decide) c_21
    refine lv_aload_n hx hb z_d_book_49 rfl (lv_at hl 0 rfl) ?_
    refine va_get (D := (dC, dI)) (ci := 3) (v := .ref (q 13)) (C := R3) (T := T3) (N := 6) hx hb hts (cw_sub iC3) hown hK hP 0 rfl rfl 3 (by decide) (hts _ (cw_in mw_95 rfl)) (fun _ h9 => h9) rfl z_d_book_50 ?_
    refine lv_iload_n hx hb z_d_book_53 rfl (lv_at hl 1 rfl) ?_
    refine rdVNi (As := [.int (sBk v 8)]) (rest := []) ⟨hx, hb, hml, hown, hts⟩ (c_r_stirAll l dC dI q cI cZ cB v hi (sBk v 8)) mw_138 (hN _ nw_16) mw_137 mp_3 mw_4 yd_r_stirAll ⟨⟨rfl, rfl⟩, Nat.le_of_ble_eq_true rfl, Nat.le_of_ble_eq_true rfl⟩ ⟨Nat.zero_le _, Nat.zero_le _⟩ (RdC.preV hP hK hN (ci := 0) (q0 := 13) rfl rfl) rfl hl.1 rfl (Nat.le_of_ble_eq_true rfl) z_d_book_54 (fun r_5 h_6 => ?_)
    subst h_6
    exact W.iret (v := sRo v (sBk v 8) (kN v * 5)) hx hb hr (fun t ht _ => ⟨sRo v (sBk v 8) (kN v * 5), rfl, rfl, ht⟩) t_nil z_d_book_57
  · have hlt : i < 8 := nlt_of (b := 8) (by omega) c_21
    refine lv_aload_n hx hb z_d_book_24 rfl (lv_at hl 0 rfl) ?_
    refine va_get (D := (dC, dI)) (ci := 3) (v := .ref (q 6)) (C := R3) (T := T3) (N := 6) hx hb hts (cw_sub iC3) hown hK hP 0 rfl rfl 2 (by decide) (hts _ (cw_in mw_94 rfl)) (fun _ h9 => h9) rfl z_d_book_25 ?_
    refine lv_iload_n hx hb z_d_book_28 rfl (lv_at hl 1 rfl) ?_
    refine lv_aload_n hx hb z_d_book_29 rfl (lv_at hl 0 rfl) ?_
    refine va_get (D := (dC, dI)) (ci := 3) (v := .ref (q 1)) (C := R3) (T := T3) (N := 6) hx hb hts (cw_sub iC3) hown hK hP 0 rfl rfl 0 (by decide) (hts _ (cw_in mw_92 rfl)) (fun _ h9 => h9) rfl z_d_book_30 ?_
    refine lv_iload_n hx hb z_d_book_33 rfl (lv_at hl 2 rfl) ?_
    refine xa_i hx hb hK hP 1 0 rfl rfl (k := i) (y := zka v i) (hlt) (by decide) (rfl) z_d_book_34 ?_
    refine rdSi (As := [.int (sBk v i), .int (zka v i)]) (rest := [.ref (q 6)]) ⟨hx, hb, hml, hown, hts⟩ (c_d_stir l (sBk v i) (zka v i)) mw_117 mw_115 mw_116 mw_1 yd_d_stir ⟨⟨rfl, rfl⟩, Nat.le_of_ble_eq_true rfl, Nat.le_of_ble_eq_true rfl⟩ ⟨Nat.zero_le _, Nat.zero_le _⟩ (pre_pure) rfl hl.1 rfl (Nat.le_of_ble_eq_true rfl) z_d_book_35 (fun r_7 h_8 => ?_)
    subst h_8
    refine lv_iload_n hx hb z_d_book_38 rfl (lv_at hl 2 rfl) ?_
    refine rdVNi (As := [.int (stirF (sBk v i) (zka v i)), .int (nI i)]) (rest := []) ⟨hx, hb, hml, hown, hts⟩ (c_s_stirKind l dC dI q cI cZ cB v hi (stirF (sBk v i) (zka v i)) i hlt) mw_122 (hN _ nw_13) mw_121 mp_0 mw_3 yd_s_stirKind ⟨⟨rfl, rfl⟩, Nat.le_of_ble_eq_true rfl, Nat.le_of_ble_eq_true rfl⟩ ⟨Nat.zero_le _, Nat.zero_le _⟩ (RdC.preV hP hK hN (ci := 1) (q0 := 6) rfl rfl) rfl hl.1 rfl (Nat.le_of_ble_eq_true rfl) z_d_book_39 (fun r_9 h_10 => ?_)
    subst h_10
    refine lv_istore_n (lv' := [(1, .int (sKi v (stirF (sBk v i) (zka v i)) i (mN v i))), (0, .ref (q 0)), (2, .int (nI i))]) hx hb z_d_book_42 rfl hl (by decide) rfl (fun ls hl => ?_)
    refine lv_iinc (v := nI (i + 1)) (lv' := [(2, .int (nI (i + 1))), (1, .int (sKi v (stirF (sBk v i) (zka v i)) i (mN v i))), (0, .ref (q 0))]) hx hb z_d_book_43 hl (k := 2) rfl (by exact nI_1 i) (by decide) rfl (fun ls hl => ?_)
    refine lv_goto (tgt := 18) hx hb z_d_book_46 (by decide) ?_
    exact ih ls hlt trivial (by show lv_has ls 3 [(0, .ref (q 0)), (1, .int (sBk v (i + 1))), (2, .int (nI (i + 1)))]; rw [sBk]; exact lv_sub hl [2, 1, 0] rfl)

set_option maxHeartbeats 4000000 in
set_option maxRecDepth 100000 in
theorem c_d_refusalOf (l : Launch) (dC : Nat → ClassId) (dI : Nat → Nat → Nat) (q : Nat → Nat) (cI cZ cB : ClassId) (v : St) (hi : Inv v) (x y z a : Int32) : Met l y_d_refusalOf (Cond.code y_d_refusalOf b_d_refusalOf 5 (some .int) :: CW) { frames := 2, cells := 0, slots := 0, locals := 45 } (va_Pc [.ref (q 0), .int x, .int y, .int z, .int a] (RdC (dC, dI) (wC q cI cZ cB v) (tyC cI cZ cB))) (vp_Si (fun r : Int32 => (r = 13 ∧ ¬ okC v x y z) ∨ (r = 14 ∧ okC v x y z ∧ ¬ aOk a) ∨ ∃ k j n, k < 8 ∧ j < mN v k ∧ n < 8 ∧ x = nI k ∧ y = nI j ∧ z = nI n ∧ zmd v (k * 8 + n) ≠ 0 ∧ aOk a ∧ ((r = 15 ∧ zop v (k * 30 + j) = 0) ∨ (r = 0 ∧ zop v (k * 30 + j) ≠ 0)))) 0 0 (fun _ => False) := by
  refine cx_met (by decide) (Nat.le_of_ble_eq_true rfl) ?_
  intro p e s m below meth c hx hb hr hml hts hown hlocks hnm hC ls hl
  obtain ⟨hP, hK, hN⟩ := hC
  have hown : s.vm.findClass "ServiceDesk" = some m.cls := hown
  have hl : lv_has ls 5 [(0, .ref (q 0)), (1, .int x), (2, .int y), (3, .int z), (4, .int a)] := hl
  refine lv_aload_n hx hb z_d_refusalOf_0 rfl (lv_at hl 0 rfl) ?_
  refine lv_iload_n hx hb z_d_refusalOf_1 rfl (lv_at hl 1 rfl) ?_
  refine lv_iload_n hx hb z_d_refusalOf_2 rfl (lv_at hl 2 rfl) ?_
  refine rdVi (As := [.int x, .int y]) (rest := []) ⟨hx, hb, hml, hown, hts⟩ (c_d_isSubject l dC dI q cI cZ cB v hi x y) mw_255 mw_252 mw_254 mp_7 mw_1 rfl yd_d_isSubject ⟨⟨rfl, rfl⟩, Nat.le_of_ble_eq_true rfl, Nat.le_of_ble_eq_true rfl⟩ ⟨Nat.zero_le _, Nat.zero_le _⟩ (RdC.preV hP hK hN (ci := 3) (q0 := 0) rfl rfl) rfl hl.1 rfl (Nat.le_of_ble_eq_true rfl) z_d_refusalOf_3 (fun r_1 h_2 => ?_)
  rcases h_2 with ⟨rfl, h_2⟩ | ⟨rfl, h_2⟩
  · obtain ⟨k, j, hk, hj, rfl, rfl⟩ := h_2
    have hM := (hi.mk k hk).1
    refine lv_if_eq (tgt := 33) hx hb z_d_refusalOf_6 (by decide) (fun c9 => absurd c9 (by decide)) (fun _ => ?_)
    refine lv_iload_n hx hb z_d_refusalOf_9 rfl (lv_at hl 3 rfl) ?_
    refine rdSi (As := [.int z]) (rest := []) ⟨hx, hb, hml, hown, hts⟩ (c_d_isVerb l z) mw_293 mw_291 mw_292 mw_1 yd_d_isVerb ⟨⟨rfl, rfl⟩, Nat.le_of_ble_eq_true rfl, Nat.le_of_ble_eq_true rfl⟩ ⟨Nat.zero_le _, Nat.zero_le _⟩ (pre_pure) rfl hl.1 rfl (Nat.le_of_ble_eq_true rfl) z_d_refusalOf_10 (fun r_3 h_4 => ?_)
    rcases h_4 with ⟨rfl, h_4⟩ | ⟨rfl, h_4⟩
    · obtain ⟨n, hn, rfl⟩ := h_4
      refine lv_if_eq (tgt := 33) hx hb z_d_refusalOf_13 (by decide) (fun c9 => absurd c9 (by decide)) (fun _ => ?_)
      refine lv_aload_n hx hb z_d_refusalOf_16 rfl (lv_at hl 0 rfl) ?_
      refine va_get (D := (dC, dI)) (ci := 3) (v := .ref (q 2)) (C := R3) (T := T3) (N := 6) hx hb hts (cw_sub iC3) hown hK hP 0 rfl rfl 1 (by decide) (hts _ (cw_in mw_93 rfl)) (fun _ h9 => h9) rfl z_d_refusalOf_17 ?_
      refine va_getN (D := (dC, dI)) (ci := 2) (v := .ref (q 3)) (C := R2) (T := T2) (N := 3) hx hb hts (cw_sub iC2) hown hK hP 2 rfl rfl 0 (by decide) (va_Nw.use rfl (hN _ nw_1)) (fun _ h9 => h9) rfl z_d_refusalOf_20 ?_
      refine lv_iload_n hx hb z_d_refusalOf_23 rfl (lv_at hl 1 rfl) ?_
      refine lv_bipush (v := 8) hx hb z_d_refusalOf_24 (by decide) ?_
      refine lv_imul hx hb z_d_refusalOf_26 ?_
      refine lv_iload_n hx hb z_d_refusalOf_27 rfl (lv_at hl 3 rfl) ?_
      refine lv_iadd hx hb z_d_refusalOf_28 ?_
      rw [mul8_nI]
      refine xa_i hx hb hK hP 3 0 rfl rfl (k := (k * 8 + n)) (y := zmd v (k * 8 + n)) (by omega) (by decide) (rfl) z_d_refusalOf_29 ?_
      refine lv_if_ne (tgt := 36) hx hb z_d_refusalOf_30 (by decide) (fun c_30 => ?_) (fun c_30 => ?_)
      · refine lv_iload hx hb z_d_refusalOf_36 (lv_at hl 4 rfl) ?_
        refine lv_i2l hx hb z_d_refusalOf_38 rfl ?_
        refine lv_ldc2 (v := 1000000) hx hb hown (hts _ (cw_in mw_330 rfl)) z_d_refusalOf_39 ?_
        refine rdSi (As := [.long a.toInt64, .long 1000000]) (rest := []) ⟨hx, hb, hml, hown, hts⟩ (c_d_isWithin l a.toInt64 1000000) mw_298 mw_296 mw_297 mw_1 yd_d_isWithin ⟨⟨rfl, rfl⟩, Nat.le_of_ble_eq_true rfl, Nat.le_of_ble_eq_true rfl⟩ ⟨Nat.zero_le _, Nat.zero_le _⟩ (pre_pure) rfl hl.1 rfl (Nat.le_of_ble_eq_true rfl) z_d_refusalOf_42 (fun r_5 h_6 => ?_)
        rcases h_6 with ⟨rfl, h_6⟩ | ⟨rfl, h_6⟩
        · refine lv_if_ne (tgt := 51) hx hb z_d_refusalOf_45 (by decide) (fun _ => ?_) (fun c9 => absurd c9 (by decide))
          refine lv_aload_n hx hb z_d_refusalOf_51 rfl (lv_at hl 0 rfl) ?_
          refine va_get (D := (dC, dI)) (ci := 3) (v := .ref (q 6)) (C := R3) (T := T3) (N := 6) hx hb hts (cw_sub iC3) hown hK hP 0 rfl rfl 2 (by decide) (hts _ (cw_in mw_94 rfl)) (fun _ h9 => h9) rfl z_d_refusalOf_52 ?_
          refine va_getN (D := (dC, dI)) (ci := 1) (v := .ref (q 9)) (C := R1) (T := T1) (N := 6) hx hb hts (cw_sub iC1) hown hK hP 6 rfl rfl 2 (by decide) (va_Nw.use rfl (hN _ nw_7)) (fun _ h9 => h9) rfl z_d_refusalOf_55 ?_
          refine lv_iload_n hx hb z_d_refusalOf_58 rfl (lv_at hl 1 rfl) ?_
          refine lv_iload_n hx hb z_d_refusalOf_59 rfl (lv_at hl 2 rfl) ?_
          refine rdSi (As := [.int (nI k), .int (nI j)]) (rest := [.ref (q 9)]) ⟨hx, hb, hml, hown, hts⟩ (c_d_slotOf l k j) mw_125 mw_261 mw_124 mw_1 yd_d_slotOf ⟨⟨rfl, rfl⟩, Nat.le_of_ble_eq_true rfl, Nat.le_of_ble_eq_true rfl⟩ ⟨Nat.zero_le _, Nat.zero_le _⟩ (pre_pure) rfl hl.1 rfl (Nat.le_of_ble_eq_true rfl) z_d_refusalOf_60 (fun r_7 h_8 => ?_)
          subst h_8
          refine xa_z hx hb hK hP 9 1 rfl rfl (k := (k * 30 + j)) (y := zop v (k * 30 + j)) (by omega) (by decide) (rfl) z_d_refusalOf_63 ?_
          refine lv_if_eq (tgt := 71) hx hb z_d_refusalOf_64 (by decide) (fun c_64 => ?_) (fun c_64 => ?_)
          · refine lv_bipush (v := 15) hx hb z_d_refusalOf_71 (by decide) ?_
            exact W.iret (v := 15) hx hb hr (fun t ht _ => ⟨15, rfl, Or.inr (Or.inr ⟨k, j, n, hk, hj, hn, rfl, rfl, rfl, c_30, aOk_iff.mp h_6, Or.inl ⟨rfl, c_64⟩⟩), ht⟩) t_nil z_d_refusalOf_73
          · refine lv_iconst (v := 0) hx hb z_d_refusalOf_67 (by decide) ?_
            refine lv_goto (tgt := 73) hx hb z_d_refusalOf_68 (by decide) ?_
            exact W.iret (v := 0) hx hb hr (fun t ht _ => ⟨0, rfl, Or.inr (Or.inr ⟨k, j, n, hk, hj, hn, rfl, rfl, rfl, c_30, aOk_iff.mp h_6, Or.inr ⟨rfl, c_64⟩⟩), ht⟩) t_nil z_d_refusalOf_73
        · refine lv_if_ne (tgt := 51) hx hb z_d_refusalOf_45 (by decide) (fun c9 => absurd rfl c9) (fun _ => ?_)
          refine lv_bipush (v := 14) hx hb z_d_refusalOf_48 (by decide) ?_
          exact W.iret (v := 14) hx hb hr (fun t ht _ => ⟨14, rfl, Or.inr (Or.inl ⟨rfl, ⟨k, j, n, hk, hj, hn, rfl, rfl, rfl, c_30⟩, fun h => h_6 (aOk_iff.mpr h)⟩), ht⟩) t_nil z_d_refusalOf_50
      · refine lv_bipush (v := 13) hx hb z_d_refusalOf_33 (by decide) ?_
        exact W.iret (v := 13) hx hb hr (fun t ht _ => ⟨13, rfl, Or.inl ⟨rfl, okC_no3 hk hn c_30⟩, ht⟩) t_nil z_d_refusalOf_35
    · refine lv_if_eq (tgt := 33) hx hb z_d_refusalOf_13 (by decide) (fun _ => ?_) (fun c9 => absurd (by decide) c9)
      refine lv_bipush (v := 13) hx hb z_d_refusalOf_33 (by decide) ?_
      exact W.iret (v := 13) hx hb hr (fun t ht _ => ⟨13, rfl, Or.inl ⟨rfl, okC_no2 h_4⟩, ht⟩) t_nil z_d_refusalOf_35
  · refine lv_if_eq (tgt := 33) hx hb z_d_refusalOf_6 (by decide) (fun _ => ?_) (fun c9 => absurd (by decide) c9)
    refine lv_bipush (v := 13) hx hb z_d_refusalOf_33 (by decide) ?_
    exact W.iret (v := 13) hx hb hr (fun t ht _ => ⟨13, rfl, Or.inl ⟨rfl, okC_no1 h_2⟩, ht⟩) t_nil z_d_refusalOf_35

set_option maxHeartbeats 4000000 in
set_option maxRecDepth 100000 in
theorem c_d_sumOrFailure (l : Launch) (x : Int64) : Met l y_d_sumOrFailure (Cond.code y_d_sumOrFailure b_d_sumOrFailure 2 (some .long) :: CW) { frames := 1, cells := 0, slots := 0, locals := 23 } (va_Pc [.long x] (fun _ => True)) (vp_Sl (fun r : Int64 => r = suF x)) 0 0 (fun _ => False) := by
  refine cx_met (by decide) (Nat.le_of_ble_eq_true rfl) ?_
  intro p e s m below meth c hx hb hr hml hts hown hlocks hnm hC ls hl
  have hown : s.vm.findClass "ServiceDesk" = some m.cls := hown
  have hl : lv_has ls 2 [(0, .long x)] := hl
  refine lv_lload_n hx hb z_d_sumOrFailure_0 rfl (lv_at hl 0 rfl) ?_
  refine lv_ldc2 (v := 1000000000) hx hb hown (hts _ (cw_in mw_348 rfl)) z_d_sumOrFailure_1 ?_
  refine rdSi (As := [.long x, .long 1000000000]) (rest := []) ⟨hx, hb, hml, hown, hts⟩ (c_d_isWithin l x 1000000000) mw_298 mw_296 mw_297 mw_1 yd_d_isWithin ⟨⟨rfl, rfl⟩, Nat.le_of_ble_eq_true rfl, Nat.le_of_ble_eq_true rfl⟩ ⟨Nat.zero_le _, Nat.zero_le _⟩ (pre_pure) rfl hl.1 rfl (Nat.le_of_ble_eq_true rfl) z_d_sumOrFailure_4 (fun r_1 h_2 => ?_)
  rcases h_2 with ⟨rfl, h_2⟩ | ⟨rfl, h_2⟩
  · refine lv_if_eq (tgt := 14) hx hb z_d_sumOrFailure_7 (by decide) (fun c9 => absurd c9 (by decide)) (fun _ => ?_)
    refine lv_lload_n hx hb z_d_sumOrFailure_10 rfl (lv_at hl 0 rfl) ?_
    refine lv_goto (tgt := 17) hx hb z_d_sumOrFailure_11 (by decide) ?_
    exact W.lret (v := x) hx hb hr (fun t ht _ => ⟨x, rfl, by rw [suF, if_pos h_2], ht⟩) t_nil z_d_sumOrFailure_17
  · refine lv_if_eq (tgt := 14) hx hb z_d_sumOrFailure_7 (by decide) (fun _ => ?_) (fun c9 => absurd (by decide) c9)
    refine lv_ldc2 (v := (-9000000000009)) hx hb hown (hts _ (cw_in mw_349 rfl)) z_d_sumOrFailure_14 ?_
    exact W.lret (v := (-9000000000009)) hx hb hr (fun t ht _ => ⟨(-9000000000009), rfl, by rw [suF, if_neg h_2], ht⟩) t_nil z_d_sumOrFailure_17

set_option maxHeartbeats 4000000 in
set_option maxRecDepth 100000 in
theorem c_d_answerToPass (l : Launch) (dC : Nat → ClassId) (dI : Nat → Nat → Nat) (q : Nat → Nat) (cI cZ cB : ClassId) (v : St) (y a : Int32) (h9 : y = -1 ∨ ∃ g, g < 240 ∧ y = nI g) : Met l y_d_answerToPass (Cond.code y_d_answerToPass b_d_answerToPass 3 (some .long) :: CW) { frames := 2, cells := 0, slots := 0, locals := 44 } (va_Pc [.ref (q 0), .int y, .int a] (RdC (dC, dI) (wC q cI cZ cB v) (tyC cI cZ cB))) (vp_Sl (fun r : Int64 => (y = -1 ∧ r = -9000000000011) ∨ ∃ g, g < 240 ∧ y = nI g ∧ r = suF ((zsm v g).toInt64 + a.toInt64))) 0 0 (fun _ => False) := by
  refine cx_met (by decide) (Nat.le_of_ble_eq_true rfl) ?_
  intro p e s m below meth c hx hb hr hml hts hown hlocks hnm hC ls hl
  obtain ⟨hP, hK, hN⟩ := hC
  have hown : s.vm.findClass "ServiceDesk" = some m.cls := hown
  have hl : lv_has ls 3 [(0, .ref (q 0)), (1, .int y), (2, .int a)] := hl
  refine lv_iload_n hx hb z_d_answerToPass_0 rfl (lv_at hl 1 rfl) ?_
  refine lv_iconst (v := (-1)) hx hb z_d_answerToPass_1 (by decide) ?_
  refine lv_icmp_ne (tgt := 9) hx hb z_d_answerToPass_2 (by decide) (fun c_2 => ?_) (fun c_2 => ?_)
  · obtain ⟨g, hg, rfl⟩ := h9.resolve_left c_2
    refine lv_aload_n hx hb z_d_answerToPass_9 rfl (lv_at hl 0 rfl) ?_
    refine va_get (D := (dC, dI)) (ci := 3) (v := .ref (q 6)) (C := R3) (T := T3) (N := 6) hx hb hts (cw_sub iC3) hown hK hP 0 rfl rfl 2 (by decide) (hts _ (cw_in mw_94 rfl)) (fun _ h9 => h9) rfl z_d_answerToPass_10 ?_
    refine va_getN (D := (dC, dI)) (ci := 1) (v := .ref (q 10)) (C := R1) (T := T1) (N := 6) hx hb hts (cw_sub iC1) hown hK hP 6 rfl rfl 3 (by decide) (va_Nw.use rfl (hN _ nw_8)) (fun _ h9 => h9) rfl z_d_answerToPass_13 ?_
    refine lv_iload_n hx hb z_d_answerToPass_16 rfl (lv_at hl 1 rfl) ?_
    refine xa_i hx hb hK hP 10 0 rfl rfl (k := g) (y := zsm v g) (hg) (by decide) (rfl) z_d_answerToPass_17 ?_
    refine lv_i2l hx hb z_d_answerToPass_18 rfl ?_
    refine lv_iload_n hx hb z_d_answerToPass_19 rfl (lv_at hl 2 rfl) ?_
    refine lv_i2l hx hb z_d_answerToPass_20 rfl ?_
    refine lv_ladd hx hb z_d_answerToPass_21 ?_
    refine rdSl (As := [.long (((zsm v g).toInt64) + a.toInt64)]) (rest := []) ⟨hx, hb, hml, hown, hts⟩ (c_d_sumOrFailure l (((zsm v g).toInt64) + a.toInt64)) mw_347 mw_345 mw_346 mw_1 yd_d_sumOrFailure ⟨⟨rfl, rfl⟩, Nat.le_of_ble_eq_true rfl, Nat.le_of_ble_eq_true rfl⟩ ⟨Nat.zero_le _, Nat.zero_le _⟩ (pre_pure) rfl hl.1 rfl (Nat.le_of_ble_eq_true rfl) z_d_answerToPass_22 (fun r_1 h_2 => ?_)
    subst h_2
    exact W.lret (v := suF (((zsm v g).toInt64) + a.toInt64)) hx hb hr (fun t ht _ => ⟨suF (((zsm v g).toInt64) + a.toInt64), rfl, Or.inr ⟨g, hg, rfl, rfl⟩, ht⟩) t_nil z_d_answerToPass_25
  · refine lv_ldc2 (v := (-9000000000011)) hx hb hown (hts _ (cw_in mw_361 rfl)) z_d_answerToPass_5 ?_
    exact W.lret (v := (-9000000000011)) hx hb hr (fun t ht _ => ⟨(-9000000000011), rfl, Or.inl ⟨c_2, rfl⟩, ht⟩) t_nil z_d_answerToPass_8

set_option maxHeartbeats 4000000 in
set_option maxRecDepth 100000 in
theorem c_d_answerToClose (l : Launch) (dC : Nat → ClassId) (dI : Nat → Nat → Nat) (q : Nat → Nat) (cI cZ cB : ClassId) (v : St) (hi : Inv v) (k j : Nat) (hk : k < 8) : Met l y_d_answerToClose (Cond.code y_d_answerToClose b_d_answerToClose 3 (some .long) :: CW) { frames := 3, cells := 0, slots := 0, locals := 72 } (va_Pc [.ref (q 0), .int (nI k), .int (nI j)] (RdC (dC, dI) (wC q cI cZ cB v) (tyC cI cZ cB))) (vp_Sl (fun r : Int64 => r = if 0 < onC v (nI k) (nI j) 8 then -9000000000012 else (nI (opC v k (mN v k)) - 1).toInt64)) 0 0 (fun _ => False) := by
  refine cx_met (by decide) (Nat.le_of_ble_eq_true rfl) ?_
  intro p e s m below meth c hx hb hr hml hts hown hlocks hnm hC ls hl
  obtain ⟨hP, hK, hN⟩ := hC
  have hown : s.vm.findClass "ServiceDesk" = some m.cls := hown
  have hl : lv_has ls 3 [(0, .ref (q 0)), (1, .int (nI k)), (2, .int (nI j))] := hl
  refine lv_aload_n hx hb z_d_answerToClose_0 rfl (lv_at hl 0 rfl) ?_
  refine lv_iload_n hx hb z_d_answerToClose_1 rfl (lv_at hl 1 rfl) ?_
  refine lv_iload_n hx hb z_d_answerToClose_2 rfl (lv_at hl 2 rfl) ?_
  refine rdVi (As := [.int (nI k), .int (nI j)]) (rest := []) ⟨hx, hb, hml, hown, hts⟩ (c_d_openOnesUnder l dC dI q cI cZ cB v hi (nI k) (nI j)) mw_369 mw_366 mw_368 mp_17 mw_1 rfl yd_d_openOnesUnder ⟨⟨rfl, rfl⟩, Nat.le_of_ble_eq_true rfl, Nat.le_of_ble_eq_true rfl⟩ ⟨Nat.zero_le _, Nat.zero_le _⟩ (RdC.preV hP hK hN (ci := 3) (q0 := 0) rfl rfl) rfl hl.1 rfl (Nat.le_of_ble_eq_true rfl) z_d_answerToClose_3 (fun r_1 h_2 => ?_)
  subst h_2
  refine lv_if_le (tgt := 13) hx hb z_d_answerToClose_6 (by decide) (fun c_6 => ?_) (fun c_6 => ?_)
  · refine lv_aload_n hx hb z_d_answerToClose_13 rfl (lv_at hl 0 rfl) ?_
    refine va_get (D := (dC, dI)) (ci := 3) (v := .ref (q 6)) (C := R3) (T := T3) (N := 6) hx hb hts (cw_sub iC3) hown hK hP 0 rfl rfl 2 (by decide) (hts _ (cw_in mw_94 rfl)) (fun _ h9 => h9) rfl z_d_answerToClose_14 ?_
    refine lv_iload_n hx hb z_d_answerToClose_17 rfl (lv_at hl 1 rfl) ?_
    refine rdVNi (As := [.int (nI k)]) (rest := []) ⟨hx, hb, hml, hown, hts⟩ (c_s_openOf l dC dI q cI cZ cB v hi k hk) mw_378 (hN _ nw_22) mw_377 mp_19 mw_3 yd_s_openOf ⟨⟨rfl, rfl⟩, Nat.le_of_ble_eq_true rfl, Nat.le_of_ble_eq_true rfl⟩ ⟨Nat.zero_le _, Nat.zero_le _⟩ (RdC.preV hP hK hN (ci := 1) (q0 := 6) rfl rfl) rfl hl.1 rfl (Nat.le_of_ble_eq_true rfl) z_d_answerToClose_18 (fun r_3 h_4 => ?_)
    subst h_4
    refine lv_iconst (v := 1) hx hb z_d_answerToClose_21 (by decide) ?_
    refine lv_isub hx hb z_d_answerToClose_22 ?_
    refine lv_i2l hx hb z_d_answerToClose_23 rfl ?_
    exact W.lret (v := ((nI (opC v k (mN v k))) - 1).toInt64) hx hb hr (fun t ht _ => ⟨((nI (opC v k (mN v k))) - 1).toInt64, rfl, by rw [if_neg (npos_of_le (by have := onC_le (v := v) (x := nI k) (a := nI j) hi 8 (by omega); omega) c_6)], ht⟩) t_nil z_d_answerToClose_24
  · refine lv_ldc2 (v := (-9000000000012)) hx hb hown (hts _ (cw_in mw_374 rfl)) z_d_answerToClose_9 ?_
    exact W.lret (v := (-9000000000012)) hx hb hr (fun t ht _ => ⟨(-9000000000012), rfl, by rw [if_pos (pos_of_nle c_6)], ht⟩) t_nil z_d_answerToClose_12

set_option maxHeartbeats 4000000 in
set_option maxRecDepth 100000 in
theorem c_d_answerTo (l : Launch) (dC : Nat → ClassId) (dI : Nat → Nat → Nat) (q : Nat → Nat) (cI cZ cB : ClassId) (v : St) (hi : Inv v) (k j n : Nat) (hk : k < 8) (hj : j < mN v k) (hn : n < 8) (a : Int32) : Met l y_d_answerTo (Cond.code y_d_answerTo b_d_answerTo 12 (some .long) :: CW) { frames := 4, cells := 0, slots := 0, locals := 98 } (va_Pc [.ref (q 0), .int (nI k), .int (nI j), .int (nI n), .int a] (RdC (dC, dI) (wC q cI cZ cB v) (tyC cI cZ cB))) (vp_Sl (fun r : Int64 => r = anF v k j n a)) 0 0 (fun _ => False) := by
  refine cx_met (by decide) (Nat.le_of_ble_eq_true rfl) ?_
  intro p e s m below meth c hx hb hr hml hts hown hlocks hnm hC ls hl
  obtain ⟨hP, hK, hN⟩ := hC
  have hown : s.vm.findClass "ServiceDesk" = some m.cls := hown
  have hl : lv_has ls 12 [(0, .ref (q 0)), (1, .int (nI k)), (2, .int (nI j)), (3, .int (nI n)), (4, .int a)] := hl
  have hM := (hi.mk k hk).1
  refine lv_iload_n hx hb z_d_answerTo_0 rfl (lv_at hl 1 rfl) ?_
  refine lv_bipush (v := 8) hx hb z_d_answerTo_1 (by decide) ?_
  refine lv_imul hx hb z_d_answerTo_3 ?_
  refine lv_iload_n hx hb z_d_answerTo_4 rfl (lv_at hl 3 rfl) ?_
  refine lv_iadd hx hb z_d_answerTo_5 ?_
  rw [mul8_nI]
  refine lv_istore (lv' := [(5, .int (nI (k * 8 + n))), (0, .ref (q 0)), (1, .int (nI k)), (2, .int (nI j)), (3, .int (nI n)), (4, .int a)]) hx hb z_d_answerTo_6 hl (by decide) rfl (fun ls hl => ?_)
  refine lv_aload_n hx hb z_d_answerTo_8 rfl (lv_at hl 1 rfl) ?_
  refine va_get (D := (dC, dI)) (ci := 3) (v := .ref (q 2)) (C := R3) (T := T3) (N := 6) hx hb hts (cw_sub iC3) hown hK hP 0 rfl rfl 1 (by decide) (hts _ (cw_in mw_93 rfl)) (fun _ h9 => h9) rfl z_d_answerTo_9 ?_
  refine va_getN (D := (dC, dI)) (ci := 2) (v := .ref (q 4)) (C := R2) (T := T2) (N := 3) hx hb hts (cw_sub iC2) hown hK hP 2 rfl rfl 1 (by decide) (va_Nw.use rfl (hN _ nw_2)) (fun _ h9 => h9) rfl z_d_answerTo_12 ?_
  refine lv_iload hx hb z_d_answerTo_15 (lv_at hl 0 rfl) ?_
  refine xa_i hx hb hK hP 4 0 rfl rfl (k := (k * 8 + n)) (y := zas v (k * 8 + n)) (by omega) (by decide) (rfl) z_d_answerTo_17 ?_
  refine lv_i2l hx hb z_d_answerTo_18 rfl ?_
  refine lv_lstore (lv' := [(6, .long ((zas v (k * 8 + n)).toInt64)), (5, .int (nI (k * 8 + n))), (0, .ref (q 0)), (1, .int (nI k)), (2, .int (nI j)), (3, .int (nI n)), (4, .int a)]) hx hb z_d_answerTo_19 hl (by decide) rfl (fun ls hl => ?_)
  refine lv_aload_n hx hb z_d_answerTo_21 rfl (lv_at hl 2 rfl) ?_
  refine va_get (D := (dC, dI)) (ci := 3) (v := .ref (q 2)) (C := R3) (T := T3) (N := 6) hx hb hts (cw_sub iC3) hown hK hP 0 rfl rfl 1 (by decide) (hts _ (cw_in mw_93 rfl)) (fun _ h9 => h9) rfl z_d_answerTo_22 ?_
  refine va_getN (D := (dC, dI)) (ci := 2) (v := .ref (q 5)) (C := R2) (T := T2) (N := 3) hx hb hts (cw_sub iC2) hown hK hP 2 rfl rfl 2 (by decide) (va_Nw.use rfl (hN _ nw_3)) (fun _ h9 => h9) rfl z_d_answerTo_25 ?_
  refine lv_iload hx hb z_d_answerTo_28 (lv_at hl 1 rfl) ?_
  refine xa_i hx hb hK hP 5 0 rfl rfl (k := (k * 8 + n)) (y := zbs v (k * 8 + n)) (by omega) (by decide) (rfl) z_d_answerTo_30 ?_
  refine lv_i2l hx hb z_d_answerTo_31 rfl ?_
  refine lv_lstore (lv' := [(8, .long ((zbs v (k * 8 + n)).toInt64)), (6, .long ((zas v (k * 8 + n)).toInt64)), (5, .int (nI (k * 8 + n))), (0, .ref (q 0)), (1, .int (nI k)), (2, .int (nI j)), (3, .int (nI n)), (4, .int a)]) hx hb z_d_answerTo_32 hl (by decide) rfl (fun ls hl => ?_)
  refine lv_aload_n hx hb z_d_answerTo_34 rfl (lv_at hl 3 rfl) ?_
  refine va_get (D := (dC, dI)) (ci := 3) (v := .ref (q 6)) (C := R3) (T := T3) (N := 6) hx hb hts (cw_sub iC3) hown hK hP 0 rfl rfl 2 (by decide) (hts _ (cw_in mw_94 rfl)) (fun _ h9 => h9) rfl z_d_answerTo_35 ?_
  refine va_getN (D := (dC, dI)) (ci := 1) (v := .ref (q 10)) (C := R1) (T := T1) (N := 6) hx hb hts (cw_sub iC1) hown hK hP 6 rfl rfl 3 (by decide) (va_Nw.use rfl (hN _ nw_8)) (fun _ h9 => h9) rfl z_d_answerTo_38 ?_
  refine lv_iload_n hx hb z_d_answerTo_41 rfl (lv_at hl 4 rfl) ?_
  refine lv_iload_n hx hb z_d_answerTo_42 rfl (lv_at hl 5 rfl) ?_
  refine rdSi (As := [.int (nI k), .int (nI j)]) (rest := [.ref (q 10)]) ⟨hx, hb, hml, hown, hts⟩ (c_d_slotOf l k j) mw_125 mw_261 mw_124 mw_1 yd_d_slotOf ⟨⟨rfl, rfl⟩, Nat.le_of_ble_eq_true rfl, Nat.le_of_ble_eq_true rfl⟩ ⟨Nat.zero_le _, Nat.zero_le _⟩ (pre_pure) rfl hl.1 rfl (Nat.le_of_ble_eq_true rfl) z_d_answerTo_43 (fun r_1 h_2 => ?_)
  subst h_2
  refine xa_i hx hb hK hP 10 0 rfl rfl (k := (k * 30 + j)) (y := zsm v (k * 30 + j)) (by omega) (by decide) (rfl) z_d_answerTo_46 ?_
  refine lv_i2l hx hb z_d_answerTo_47 rfl ?_
  refine lv_lstore (lv' := [(10, .long ((zsm v (k * 30 + j)).toInt64)), (8, .long ((zbs v (k * 8 + n)).toInt64)), (6, .long ((zas v (k * 8 + n)).toInt64)), (5, .int (nI (k * 8 + n))), (0, .ref (q 0)), (1, .int (nI k)), (2, .int (nI j)), (3, .int (nI n)), (4, .int a)]) hx hb z_d_answerTo_48 hl (by decide) rfl (fun ls hl => ?_)
  refine lv_aload_n hx hb z_d_answerTo_50 rfl (lv_at hl 4 rfl) ?_
  refine va_get (D := (dC, dI)) (ci := 3) (v := .ref (q 2)) (C := R3) (T := T3) (N := 6) hx hb hts (cw_sub iC3) hown hK hP 0 rfl rfl 1 (by decide) (hts _ (cw_in mw_93 rfl)) (fun _ h9 => h9) rfl z_d_answerTo_51 ?_
  refine va_getN (D := (dC, dI)) (ci := 2) (v := .ref (q 3)) (C := R2) (T := T2) (N := 3) hx hb hts (cw_sub iC2) hown hK hP 2 rfl rfl 0 (by decide) (va_Nw.use rfl (hN _ nw_1)) (fun _ h9 => h9) rfl z_d_answerTo_54 ?_
  refine lv_iload hx hb z_d_answerTo_57 (lv_at hl 3 rfl) ?_
  refine xa_i hx hb hK hP 3 0 rfl rfl (k := (k * 8 + n)) (y := zmd v (k * 8 + n)) (by omega) (by decide) (rfl) z_d_answerTo_59 ?_
  rcases md8 hi (show k * 8 + n < 64 by omega) with e9 | e9 | e9 | e9 | e9 | e9 | e9 | e9
  · rw [e9]
    refine lv_tableOut (tgt := 185) hx hb z_d_answerTo_60 (by decide) (by decide) ?_
    refine lv_aload_n hx hb z_d_answerTo_185 rfl (lv_at hl 4 rfl) ?_
    refine lv_iload_n hx hb z_d_answerTo_186 rfl (lv_at hl 5 rfl) ?_
    refine lv_iload_n hx hb z_d_answerTo_187 rfl (lv_at hl 6 rfl) ?_
    refine rdVl (As := [.int (nI k), .int (nI j)]) (rest := []) ⟨hx, hb, hml, hown, hts⟩ (c_d_answerToClose l dC dI q cI cZ cB v hi k j hk) mw_365 mw_362 mw_364 mp_16 mw_1 rfl yd_d_answerToClose ⟨⟨rfl, rfl⟩, Nat.le_of_ble_eq_true rfl, Nat.le_of_ble_eq_true rfl⟩ ⟨Nat.zero_le _, Nat.zero_le _⟩ (RdC.preV hP hK hN (ci := 3) (q0 := 0) rfl rfl) rfl hl.1 rfl (Nat.le_of_ble_eq_true rfl) z_d_answerTo_188 (fun r_3 h_4 => ?_)
    subst h_4
    exact W.lret (v := if 0 < onC v (nI k) (nI j) 8 then -9000000000012 else (nI (opC v k (mN v k)) - 1).toInt64) hx hb hr (fun t ht _ => ⟨if 0 < onC v (nI k) (nI j) 8 then -9000000000012 else (nI (opC v k (mN v k)) - 1).toInt64, rfl, (anF_7 (Or.inl e9)).symm, ht⟩) t_nil z_d_answerTo_191
  · rw [e9]
    refine lv_tableIn (tgt := 100) hx hb z_d_answerTo_60 (by decide) (by decide) rfl (by decide) ?_
    refine lv_lload hx hb z_d_answerTo_100 (lv_at hl 2 rfl) ?_
    refine lv_iload_n hx hb z_d_answerTo_102 rfl (lv_at hl 6 rfl) ?_
    refine lv_i2l hx hb z_d_answerTo_103 rfl ?_
    refine lv_lmul hx hb z_d_answerTo_104 ?_
    refine lv_lload hx hb z_d_answerTo_105 (lv_at hl 1 rfl) ?_
    refine lv_ladd hx hb z_d_answerTo_107 ?_
    exact W.lret (v := (((zas v (k * 8 + n)).toInt64) * ((nI j).toInt64)) + ((zbs v (k * 8 + n)).toInt64)) hx hb hr (fun t ht _ => ⟨(((zas v (k * 8 + n)).toInt64) * ((nI j).toInt64)) + ((zbs v (k * 8 + n)).toInt64), rfl, (anF_1 e9).symm, ht⟩) t_nil z_d_answerTo_108
  · rw [e9]
    refine lv_tableIn (tgt := 109) hx hb z_d_answerTo_60 (by decide) (by decide) rfl (by decide) ?_
    refine lv_lload hx hb z_d_answerTo_109 (lv_at hl 0 rfl) ?_
    refine lv_iload hx hb z_d_answerTo_111 (lv_at hl 8 rfl) ?_
    refine lv_i2l hx hb z_d_answerTo_113 rfl ?_
    refine lv_lload hx hb z_d_answerTo_114 (lv_at hl 2 rfl) ?_
    refine lv_lmul hx hb z_d_answerTo_116 ?_
    refine lv_ladd hx hb z_d_answerTo_117 ?_
    refine lv_lload hx hb z_d_answerTo_118 (lv_at hl 1 rfl) ?_
    refine lv_ladd hx hb z_d_answerTo_120 ?_
    refine rdSl (As := [.long ((((zsm v (k * 30 + j)).toInt64) + (a.toInt64 * ((zas v (k * 8 + n)).toInt64))) + ((zbs v (k * 8 + n)).toInt64))]) (rest := []) ⟨hx, hb, hml, hown, hts⟩ (c_d_sumOrFailure l ((((zsm v (k * 30 + j)).toInt64) + (a.toInt64 * ((zas v (k * 8 + n)).toInt64))) + ((zbs v (k * 8 + n)).toInt64))) mw_347 mw_345 mw_346 mw_1 yd_d_sumOrFailure ⟨⟨rfl, rfl⟩, Nat.le_of_ble_eq_true rfl, Nat.le_of_ble_eq_true rfl⟩ ⟨Nat.zero_le _, Nat.zero_le _⟩ (pre_pure) rfl hl.1 rfl (Nat.le_of_ble_eq_true rfl) z_d_answerTo_121 (fun r_5 h_6 => ?_)
    subst h_6
    exact W.lret (v := suF ((((zsm v (k * 30 + j)).toInt64) + (a.toInt64 * ((zas v (k * 8 + n)).toInt64))) + ((zbs v (k * 8 + n)).toInt64))) hx hb hr (fun t ht _ => ⟨suF ((((zsm v (k * 30 + j)).toInt64) + (a.toInt64 * ((zas v (k * 8 + n)).toInt64))) + ((zbs v (k * 8 + n)).toInt64)), rfl, (anF_2 e9).symm, ht⟩) t_nil z_d_answerTo_124
  · rw [e9]
    refine lv_tableIn (tgt := 125) hx hb z_d_answerTo_60 (by decide) (by decide) rfl (by decide) ?_
    refine lv_lload hx hb z_d_answerTo_125 (lv_at hl 0 rfl) ?_
    refine lv_lload hx hb z_d_answerTo_127 (lv_at hl 2 rfl) ?_
    refine lv_lmul hx hb z_d_answerTo_129 ?_
    refine lv_lload hx hb z_d_answerTo_130 (lv_at hl 1 rfl) ?_
    refine lv_ladd hx hb z_d_answerTo_132 ?_
    refine lv_iload hx hb z_d_answerTo_133 (lv_at hl 8 rfl) ?_
    refine lv_i2l hx hb z_d_answerTo_135 rfl ?_
    refine lv_ladd hx hb z_d_answerTo_136 ?_
    exact W.lret (v := ((((zsm v (k * 30 + j)).toInt64) * ((zas v (k * 8 + n)).toInt64)) + ((zbs v (k * 8 + n)).toInt64)) + a.toInt64) hx hb hr (fun t ht _ => ⟨((((zsm v (k * 30 + j)).toInt64) * ((zas v (k * 8 + n)).toInt64)) + ((zbs v (k * 8 + n)).toInt64)) + a.toInt64, rfl, (anF_3 e9).symm, ht⟩) t_nil z_d_answerTo_137
  · rw [e9]
    refine lv_tableIn (tgt := 138) hx hb z_d_answerTo_60 (by decide) (by decide) rfl (by decide) ?_
    refine lv_ldc2 (v := (-9000000000000)) hx hb hown (hts _ (cw_in mw_350 rfl)) z_d_answerTo_138 ?_
    refine lv_lconst (v := 1) hx hb z_d_answerTo_141 (by decide) ?_
    refine lv_lload hx hb z_d_answerTo_142 (lv_at hl 2 rfl) ?_
    refine lv_ldc2 (v := 7) hx hb hown (hts _ (cw_in mw_351 rfl)) z_d_answerTo_144 ?_
    refine lv_land hx hb z_d_answerTo_147 ?_
    refine lv_ladd hx hb z_d_answerTo_148 ?_
    refine lv_lsub hx hb z_d_answerTo_149 ?_
    exact W.lret (v := (-9000000000000) - (1 + (((zas v (k * 8 + n)).toInt64) &&& 7))) hx hb hr (fun t ht _ => ⟨(-9000000000000) - (1 + (((zas v (k * 8 + n)).toInt64) &&& 7)), rfl, (anF_4 e9).symm, ht⟩) t_nil z_d_answerTo_150
  · rw [e9]
    refine lv_tableIn (tgt := 151) hx hb z_d_answerTo_60 (by decide) (by decide) rfl (by decide) ?_
    refine lv_iload hx hb z_d_answerTo_151 (lv_at hl 8 rfl) ?_
    refine lv_if_ne (tgt := 162) hx hb z_d_answerTo_153 (by decide) (fun c_153 => ?_) (fun c_153 => ?_)
    · refine lv_lload hx hb z_d_answerTo_162 (lv_at hl 0 rfl) ?_
      refine lv_iload hx hb z_d_answerTo_164 (lv_at hl 8 rfl) ?_
      refine lv_i2l hx hb z_d_answerTo_166 rfl ?_
      refine lv_ldiv hx hb z_d_answerTo_167 (i64_ne0 c_153) ?_
      refine lv_lload hx hb z_d_answerTo_168 (lv_at hl 1 rfl) ?_
      refine lv_ladd hx hb z_d_answerTo_170 ?_
      exact W.lret (v := (((zsm v (k * 30 + j)).toInt64) / a.toInt64) + ((zbs v (k * 8 + n)).toInt64)) hx hb hr (fun t ht _ => ⟨(((zsm v (k * 30 + j)).toInt64) / a.toInt64) + ((zbs v (k * 8 + n)).toInt64), rfl, by rw [anF_5 e9, if_neg c_153], ht⟩) t_nil z_d_answerTo_171
    · refine lv_ldc2 (v := (-9000000000010)) hx hb hown (hts _ (cw_in mw_352 rfl)) z_d_answerTo_156 ?_
      refine lv_goto (tgt := 171) hx hb z_d_answerTo_159 (by decide) ?_
      exact W.lret (v := (-9000000000010)) hx hb hr (fun t ht _ => ⟨(-9000000000010), rfl, by rw [anF_5 e9, if_pos c_153], ht⟩) t_nil z_d_answerTo_171
  · rw [e9]
    refine lv_tableIn (tgt := 172) hx hb z_d_answerTo_60 (by decide) (by decide) rfl (by decide) ?_
    refine lv_aload_n hx hb z_d_answerTo_172 rfl (lv_at hl 4 rfl) ?_
    refine lv_aload_n hx hb z_d_answerTo_173 rfl (lv_at hl 4 rfl) ?_
    refine lv_iload_n hx hb z_d_answerTo_174 rfl (lv_at hl 5 rfl) ?_
    refine lv_iload_n hx hb z_d_answerTo_175 rfl (lv_at hl 6 rfl) ?_
    refine rdVi (As := [.int (nI k), .int (nI j)]) (rest := [.ref (q 0)]) ⟨hx, hb, hml, hown, hts⟩ (c_d_slotAbove l dC dI q cI cZ cB v hi k j hk hj) mw_356 mw_353 mw_355 mp_14 mw_1 rfl yd_d_slotAbove ⟨⟨rfl, rfl⟩, Nat.le_of_ble_eq_true rfl, Nat.le_of_ble_eq_true rfl⟩ ⟨Nat.zero_le _, Nat.zero_le _⟩ (RdC.preV hP hK hN (ci := 3) (q0 := 0) rfl rfl) rfl hl.1 rfl (Nat.le_of_ble_eq_true rfl) z_d_answerTo_176 (fun r_7 h_8 => ?_)
    refine lv_iload hx hb z_d_answerTo_179 (lv_at hl 8 rfl) ?_
    refine rdVl (As := [.int r_7, .int a]) (rest := []) ⟨hx, hb, hml, hown, hts⟩ (c_d_answerToPass l dC dI q cI cZ cB v r_7 a (an6_arg hi h_8)) mw_360 mw_357 mw_359 mp_15 mw_1 rfl yd_d_answerToPass ⟨⟨rfl, rfl⟩, Nat.le_of_ble_eq_true rfl, Nat.le_of_ble_eq_true rfl⟩ ⟨Nat.zero_le _, Nat.zero_le _⟩ (RdC.preV hP hK hN (ci := 3) (q0 := 0) rfl rfl) rfl hl.1 rfl (Nat.le_of_ble_eq_true rfl) z_d_answerTo_181 (fun r_9 h_10 => ?_)
    exact W.lret (v := r_9) hx hb hr (fun t ht _ => ⟨r_9, rfl, an6_post hi e9 h_8 h_10, ht⟩) t_nil z_d_answerTo_184
  · rw [e9]
    refine lv_tableOut (tgt := 185) hx hb z_d_answerTo_60 (by decide) (by decide) ?_
    refine lv_aload_n hx hb z_d_answerTo_185 rfl (lv_at hl 4 rfl) ?_
    refine lv_iload_n hx hb z_d_answerTo_186 rfl (lv_at hl 5 rfl) ?_
    refine lv_iload_n hx hb z_d_answerTo_187 rfl (lv_at hl 6 rfl) ?_
    refine rdVl (As := [.int (nI k), .int (nI j)]) (rest := []) ⟨hx, hb, hml, hown, hts⟩ (c_d_answerToClose l dC dI q cI cZ cB v hi k j hk) mw_365 mw_362 mw_364 mp_16 mw_1 rfl yd_d_answerToClose ⟨⟨rfl, rfl⟩, Nat.le_of_ble_eq_true rfl, Nat.le_of_ble_eq_true rfl⟩ ⟨Nat.zero_le _, Nat.zero_le _⟩ (RdC.preV hP hK hN (ci := 3) (q0 := 0) rfl rfl) rfl hl.1 rfl (Nat.le_of_ble_eq_true rfl) z_d_answerTo_188 (fun r_11 h_12 => ?_)
    subst h_12
    exact W.lret (v := if 0 < onC v (nI k) (nI j) 8 then -9000000000012 else (nI (opC v k (mN v k)) - 1).toInt64) hx hb hr (fun t ht _ => ⟨if 0 < onC v (nI k) (nI j) 8 then -9000000000012 else (nI (opC v k (mN v k)) - 1).toInt64, rfl, (anF_7 (Or.inr e9)).symm, ht⟩) t_nil z_d_answerTo_191
