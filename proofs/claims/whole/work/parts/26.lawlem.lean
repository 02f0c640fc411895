/-! the law's own methods: two worlds side by side, and what is caught -/
theorem sp_l {D : va_G} {w1 w2 : va_W} {H : Heap} (h : va_P D vwCl (w1 ++ w2) H) : va_P D vwCl w1 H := fun k q hk => h k q (by
  have hlt : k < w1.length := by
    rcases Nat.lt_or_ge k w1.length with z | z
    · exact z
    · rw [List.getElem?_eq_none z] at hk; cases hk
  rw [List.getElem?_append_left hlt]; exact hk)
theorem sp_r {D : va_G} {w1 w2 : va_W} {H : Heap} (h : va_P D vwCl (w1 ++ w2) H) : va_P D vwCl w2 H := fun k q hk => h (w1.length + k) q (by
  rw [List.getElem?_append_right (Nat.le_add_right _ _), Nat.add_sub_cancel_left]; exact hk)
theorem sd_l {A : Nat → Prop} {w1 w2 : va_W} (h : va_D A (w1 ++ w2)) : va_D A w1 := by
  have e : ∀ (k : Nat) (q : Nat × va_E), w1[k]? = some q → (w1 ++ w2)[k]? = some q := fun k q hk => by
    have hlt : k < w1.length := by
      rcases Nat.lt_or_ge k w1.length with z | z
      · exact z
      · rw [List.getElem?_eq_none z] at hk; cases hk
    rw [List.getElem?_append_left hlt]; exact hk
  exact ⟨fun i j p q h1 h2 he => h.1 i j p q (e i p h1) (e j q h2) he, fun k q hk => h.2 k q (e k q hk)⟩
theorem sd_r {A : Nat → Prop} {w1 w2 : va_W} (h : va_D A (w1 ++ w2)) : va_D A w2 := by
  have e : ∀ (k : Nat) (q : Nat × va_E), w2[k]? = some q → (w1 ++ w2)[w1.length + k]? = some q := fun k q hk => by
    rw [List.getElem?_append_right (Nat.le_add_right _ _), Nat.add_sub_cancel_left]; exact hk
  exact ⟨fun i j p q h1 h2 he => Nat.add_left_cancel (h.1 _ _ p q (e i p h1) (e j q h2) he), fun k q hk => h.2 _ q (e k q hk)⟩
theorem sd_x {A : Nat → Prop} {w1 w2 : va_W} (h : va_D A (w1 ++ w2)) {i j : Nat} {p q : Nat × va_E} (h1 : w1[i]? = some p) (h2 : w2[j]? = some q) : p.1 ≠ q.1 := by
  intro he
  have hlt : i < w1.length := by
    rcases Nat.lt_or_ge i w1.length with z | z
    · exact z
    · rw [List.getElem?_eq_none z] at h1; cases h1
  have := h.1 i (w1.length + j) p q (by rw [List.getElem?_append_left hlt]; exact h1) (by rw [List.getElem?_append_right (Nat.le_add_right _ _), Nat.add_sub_cancel_left]; exact h2) he
  omega
/-- behind a call on the left part -/
theorem sp_jl {A : Nat → Prop} {D : va_G} {w1 w2 w3 : va_W} {H H1 : Heap} (hP : va_P D vwCl (w1 ++ w2) H) (hD : va_D A (w1 ++ w2)) (hk : ∀ q : Nat, q < H.size → ¬ va_A w1 H.size q → H1[q]? = H[q]?) (hF : ∀ q, va_A w1 H.size q → A q) (hP1 : va_P D vwCl w3 H1) (hD1 : va_D (va_A w1 H.size) w3) : va_P D vwCl (w3 ++ w2) H1 ∧ va_D A (w3 ++ w2) := by
  have hn : ∀ (k : Nat) (q : Nat × va_E), w2[k]? = some q → ¬ va_A w1 H.size q.1 := by
    rintro k q hq (⟨i, e, hi⟩ | h)
    · exact sd_x hD hi hq rfl
    · exact absurd ((sp_r hP) k q hq).lt (Nat.not_lt.mpr h)
  refine ⟨va_P.app hP1 ((sp_r hP).kept (fun k q hq => hk q.1 ((sp_r hP) k q hq).lt (hn k q hq))), va_D.app (hD1.weaken (fun _ _ _ h => hF _ h)) (sd_r hD) (fun i j p q h1 h2 he => ?_)⟩
  exact hn j q h2 (he ▸ hD1.2 i p h1)
/-- .. on the right part -/
theorem sp_jr {A : Nat → Prop} {D : va_G} {w1 w2 w3 : va_W} {H H1 : Heap} (hP : va_P D vwCl (w1 ++ w2) H) (hD : va_D A (w1 ++ w2)) (hk : ∀ q : Nat, q < H.size → ¬ va_A w2 H.size q → H1[q]? = H[q]?) (hF : ∀ q, va_A w2 H.size q → A q) (hP1 : va_P D vwCl w3 H1) (hD1 : va_D (va_A w2 H.size) w3) : va_P D vwCl (w1 ++ w3) H1 ∧ va_D A (w1 ++ w3) := by
  have hn : ∀ (k : Nat) (q : Nat × va_E), w1[k]? = some q → ¬ va_A w2 H.size q.1 := by
    rintro k q hq (⟨i, e, hi⟩ | h)
    · exact sd_x hD hq hi rfl
    · exact absurd ((sp_l hP) k q hq).lt (Nat.not_lt.mpr h)
  refine ⟨va_P.app ((sp_l hP).kept (fun k q hq => hk q.1 ((sp_l hP) k q hq).lt (hn k q hq))) hP1, va_D.app (sd_l hD) (hD1.weaken (fun _ _ _ h => hF _ h)) (fun i j p q h1 h2 he => ?_)⟩
  exact hn i p h1 (by rw [he]; exact hD1.2 j q h2)
def exL : List String := ["java/lang/IllegalArgumentException", "java/lang/IndexOutOfBoundsException", "java/lang/IllegalStateException", "java/lang/UnsupportedOperationException"]
/-- none of the four is another one -/
def NC (U : State) : Prop := ∀ a ∈ exL, ∀ b ∈ exL, a ≠ b → va_Nc a b U
theorem NC.moved {u U : State} (hvm : u.vm.Alike U.vm) (h : NC u) : NC U := fun a ha b hb hn => (h a ha b hb hn).moved hvm
def LwC (D : va_G) (sz : Nat) (ws : va_W) (tys : List (ClassId × FieldType)) (U : State) : Prop := TxC D sz ws tys U ∧ NC U
theorem cxW_met {l : Launch} {y : MethodName} {cc : ByteArray} {maxL : Nat} {ret : Option FieldType} {hh : List (Nat × Nat × Nat × Nat)} {rm : Room} {av : List Value} {Cx : State → Prop} {Qc : Array Value → State → Outcome → State → Prop} {mc ms : Nat} {free : Addr → Prop} (hy : plainName y.cls = true) (hn : (lg_sl av).length ≤ maxL)
    (body : ∀ (p : Program) (e : Env) (s : State) (m : MethodId) (below : List Frame) (meth : Method) (c : Code), p.tables.exec = Jvm.exec → c.code = cc → meth.sig.returnType = ret → c.maxLocals = maxL → (∀ w ∈ (Cond.codeWith y cc maxL ret hh :: CW), w.before av.toArray s = true) → s.vm.findClass y.cls = some m.cls → meth.locks = false → c.exceptionTable.toList = tableOf hh → Cx s → ∀ ls : Array Slot, lv_has ls maxL (lv_args 0 av) →
      W p l e rm s m av.toArray below meth c s.heap [] 0 0 (MQ below Qc av.toArray s mc ms free) (F0 m 0 ls [])) : Met l y (Cond.codeWith y cc maxL ret hh :: CW) rm (va_Pc av Cx) Qc mc ms free := by
  refine va_MetW (cc := cc) (maxL := maxL) (ret := ret) hy rfl ?_
  intro p e s m args below meth c s₁ B hml hv
  obtain ⟨rfl, hC⟩ := hv
  have hl := lv_entry av (n := maxL) hn
  have hts := atoms_spec (ws := Cond.codeWith y cc maxL ret hh :: CW) B.pre
  rw [lg_entry_eq]
  exact body p e s m below meth c B.exec B.bytes B.returns hml hts (findClass_of_methodNamed B.named) B.notSynchronized (vx_table (x := y) B (hts _ List.mem_cons_self)) hC _ hl
section TXV
variable {p : Program} {l : Launch} {e : Env} {R : Room} {s : State} {m : MethodId} {args : Array Value} {below : List Frame} {meth : Method} {c : Code} {H : Heap} {locs : List Loc} {cells slots : Nat} {Q : State → Prop}
variable {own C : String} {idx n maxL nL pc : Nat} {y : MethodName} {bytes cc : ByteArray} {ret : Option FieldType} {rm : Room} {c0 : Cond} {b : Addr} {As rest st0 : List Value} {ls : Array Slot}
variable {D : va_G} {tyc tys : List (ClassId × FieldType)} {wc wo : va_W} {A : Nat → Prop} {wf : St → va_W} {px : Nat × St → Prop} {XM : List (String × Nat)}
abbrev txP (H : Heap) (wc : va_W) (D : va_G) (tyc : List (ClassId × FieldType)) (b : Addr) (As : List Value) : Array Value → State → Prop := va_Pc (.ref b :: As) (TxC D H.size wc tyc)
abbrev txX (px : Nat × St → Prop) (XM : List (String × Nat)) (D : va_G) (wf : St → va_W) (tyc : List (ClassId × FieldType)) (wc : va_W) (sz : Nat) : String → State → State → Prop := vx_X px (fun E z9 t => (E, z9.1) ∈ XM ∧ WrB D (wf z9.2) tyc (va_A wc sz) t) (va_A wc sz)
theorem tx_pre {ci q0 : Nat} {q : vw_C} {fs : List Value} (hP : va_P D vwCl (wc ++ wo) H) (hKc : va_K D vwCl tyc s) (hD : va_D A (wc ++ wo)) (hN : NW s) (hS : va_S A s.heap H locs) (hA : ∀ q, s.heap.size ≤ q → A q) (hX : XcC A s s.heap) (hc : vwCl[ci]? = some q) (he : wc[q0]? = some (b, .inr (ci, fs))) : PreV s H q.1 b (txP H wc D tyc b As) As :=
  ⟨fun _ _ _ _ z => ⟨z.1, z.2.1.calling, z.2.2.calling⟩, va_recv hKc (sp_l hP) hc he, fun U hU hW => ⟨rfl, WrC.of (sp_l hP) hKc (sd_l hD) hN hU hW, hX.to hS (wr_free (sd_l hD) hS hA) hU hW⟩⟩
theorem txVv {post : St → Prop} (S : CallFix p m c cc nL s args (c0 :: CW) own) (hM : vx_Met l y (Cond.code y bytes maxL ret :: CW) rm (txP H wc D tyc b As) (va_Qv post (fun u => WrB D (wf u) tyc (va_A wc H.size)) (va_A wc H.size)) (txX px XM D wf tyc wc H.size) 1 6 (va_A wc H.size)) (h0 : Cond.code y bytes maxL ret ∈ lw_tbl) (h1 : Cond.methodLink own idx y ∈ lw_tbl) (h2 : Cond.instanceMethod y ∈ lw_tbl) (h3 : Cond.selects C y y ∈ lw_tbl) (h4 : Cond.initialized C ∈ lw_tbl) (hC : y.cls = C) (hd : yD y n)
    (hR : (rm.cells = 1 ∧ rm.slots = 6) ∧ rm.frames + 1 ≤ R.frames ∧ 8 + (maxL + 11) + rm.locals ≤ R.locals) (hcap : cells + 1 ≤ R.cells ∧ slots + 6 ≤ R.slots) (hp : PreV s H C b (txP H wc D tyc b As) As) (hP : va_P D vwCl (wc ++ wo) H) (hD : va_D A (wc ++ wo)) (hS : va_S A s.heap H locs) (hA : ∀ q, s.heap.size ≤ q → A q) (hn : As.length = n) (hsz : ls.size = nL) (hst : st0 = As.reverse ++ .ref b :: rest) (hW : (rest.map fun v => v.category).sum ≤ 8) (hdg : decode cc pc = .ok (.invokevirtual idx, 3))
    (kx : ∀ (E : String) (z9 : Nat × St) (ce : Cell) (q9 : Addr) (H1 : Heap) (locs1 : List Loc), (E, z9.1) ∈ XM → px z9 → va_P D vwCl (wf z9.2 ++ wo) H1 → va_D A (wf z9.2 ++ wo) → va_S A s.heap H1 locs1 → H1[q9]? = some ce → ce.vm = .none → s.vm.findClass E = some ce.cls → vx_W p l e R s m args below meth c H1 locs1 (cells + 1) (slots + 6) Q (F0 m pc ls rest) q9)
    (kk : ∀ (u : St) (H1 : Heap) (locs1 : List Loc), post u → va_P D vwCl (wf u ++ wo) H1 → va_D A (wf u ++ wo) → va_S A s.heap H1 locs1 → W p l e R s m args below meth c H1 locs1 (cells + 1) (slots + 6) Q (F0 m (pc + 3) ls rest)) : W p l e R s m args below meth c H locs cells slots Q (F0 m pc ls st0) := by
  have hF := wr_free (sd_l hD) hS hA
  refine vx_callv (vx_runV S hM (cwV n S.2.2.2.2 (cw_goodV h0 rfl h1 h2 h3 h4) rfl hR.1.1 hR.1.2 ⟨hC, hd⟩ hR.2) hp rfl hn hsz hst (lv_room hW) hdg hcap) hS (fun q _ h => hF q h) hF (fun q _ h => hF q h) ?_ ?_
  · intro E ce q9 u t H1 locs1 ht ha hpx hB hz hk hS1 hce hcv hcl
    obtain ⟨hE, hB1, hB2, hB3⟩ := hB
    obtain ⟨hP1, hD1⟩ := sp_jl hP hD hk hF (by rw [← ht]; exact hB1) hB3
    exact kx E u ce q9 H1 locs1 hE hpx hP1 hD1 hS1 hce hcv hcl
  · intro u t H1 locs1 ht ha hw hB hz hk hS1
    obtain ⟨hP1, hD1⟩ := sp_jl hP hD hk hF (by rw [← ht]; exact hB.1) hB.2.2
    exact kk u H1 locs1 hw hP1 hD1 hS1
theorem txVi {post : Int32 → St → Prop} (S : CallFix p m c cc nL s args (c0 :: CW) own) (hM : vx_Met l y (Cond.code y bytes maxL ret :: CW) rm (txP H wc D tyc b As) (va_Qi post (fun u => WrB D (wf u) tyc (va_A wc H.size)) (va_A wc H.size)) (txX px XM D wf tyc wc H.size) 1 6 (va_A wc H.size)) (h0 : Cond.code y bytes maxL ret ∈ lw_tbl) (h1 : Cond.methodLink own idx y ∈ lw_tbl) (h2 : Cond.instanceMethod y ∈ lw_tbl) (h3 : Cond.selects C y y ∈ lw_tbl) (h4 : Cond.initialized C ∈ lw_tbl) (hC : y.cls = C) (hd : yD y n)
    (hR : (rm.cells = 1 ∧ rm.slots = 6) ∧ rm.frames + 1 ≤ R.frames ∧ 8 + (maxL + 11) + rm.locals ≤ R.locals) (hcap : cells + 1 ≤ R.cells ∧ slots + 6 ≤ R.slots) (hp : PreV s H C b (txP H wc D tyc b As) As) (hP : va_P D vwCl (wc ++ wo) H) (hD : va_D A (wc ++ wo)) (hS : va_S A s.heap H locs) (hA : ∀ q, s.heap.size ≤ q → A q) (hn : As.length = n) (hsz : ls.size = nL) (hst : st0 = As.reverse ++ .ref b :: rest) (hW : (rest.map fun v => v.category).sum ≤ 8) (hdg : decode cc pc = .ok (.invokevirtual idx, 3))
    (kx : ∀ (E : String) (z9 : Nat × St) (ce : Cell) (q9 : Addr) (H1 : Heap) (locs1 : List Loc), (E, z9.1) ∈ XM → px z9 → va_P D vwCl (wf z9.2 ++ wo) H1 → va_D A (wf z9.2 ++ wo) → va_S A s.heap H1 locs1 → H1[q9]? = some ce → ce.vm = .none → s.vm.findClass E = some ce.cls → vx_W p l e R s m args below meth c H1 locs1 (cells + 1) (slots + 6) Q (F0 m pc ls rest) q9)
    (kk : ∀ (r : Int32) (u : St) (H1 : Heap) (locs1 : List Loc), post r u → va_P D vwCl (wf u ++ wo) H1 → va_D A (wf u ++ wo) → va_S A s.heap H1 locs1 → W p l e R s m args below meth c H1 locs1 (cells + 1) (slots + 6) Q (F0 m (pc + 3) ls (.int r :: rest))) : W p l e R s m args below meth c H locs cells slots Q (F0 m pc ls st0) := by
  have hF := wr_free (sd_l hD) hS hA
  refine vx_calli (vx_runV S hM (cwV n S.2.2.2.2 (cw_goodV h0 rfl h1 h2 h3 h4) rfl hR.1.1 hR.1.2 ⟨hC, hd⟩ hR.2) hp rfl hn hsz hst (lv_room hW) hdg hcap) hS (fun q _ h => hF q h) hF (fun q _ h => hF q h) ?_ ?_
  · intro E ce q9 u t H1 locs1 ht ha hpx hB hz hk hS1 hce hcv hcl
    obtain ⟨hE, hB1, hB2, hB3⟩ := hB
    obtain ⟨hP1, hD1⟩ := sp_jl hP hD hk hF (by rw [← ht]; exact hB1) hB3
    exact kx E u ce q9 H1 locs1 hE hpx hP1 hD1 hS1 hce hcv hcl
  · intro r u t H1 locs1 ht ha hw hB hz hk hS1
    obtain ⟨hP1, hD1⟩ := sp_jl hP hD hk hF (by rw [← ht]; exact hB.1) hB.2.2
    exact kk r u H1 locs1 hw hP1 hD1 hS1
theorem txVl {post : Int64 → St → Prop} (S : CallFix p m c cc nL s args (c0 :: CW) own) (hM : vx_Met l y (Cond.code y bytes maxL ret :: CW) rm (txP H wc D tyc b As) (va_Ql post (fun u => WrB D (wf u) tyc (va_A wc H.size)) (va_A wc H.size)) (txX px XM D wf tyc wc H.size) 1 6 (va_A wc H.size)) (h0 : Cond.code y bytes maxL ret ∈ lw_tbl) (h1 : Cond.methodLink own idx y ∈ lw_tbl) (h2 : Cond.instanceMethod y ∈ lw_tbl) (h3 : Cond.selects C y y ∈ lw_tbl) (h4 : Cond.initialized C ∈ lw_tbl) (hC : y.cls = C) (hd : yD y n)
    (hR : (rm.cells = 1 ∧ rm.slots = 6) ∧ rm.frames + 1 ≤ R.frames ∧ 8 + (maxL + 11) + rm.locals ≤ R.locals) (hcap : cells + 1 ≤ R.cells ∧ slots + 6 ≤ R.slots) (hp : PreV s H C b (txP H wc D tyc b As) As) (hP : va_P D vwCl (wc ++ wo) H) (hD : va_D A (wc ++ wo)) (hS : va_S A s.heap H locs) (hA : ∀ q, s.heap.size ≤ q → A q) (hn : As.length = n) (hsz : ls.size = nL) (hst : st0 = As.reverse ++ .ref b :: rest) (hW : (rest.map fun v => v.category).sum ≤ 8) (hdg : decode cc pc = .ok (.invokevirtual idx, 3))
    (kx : ∀ (E : String) (z9 : Nat × St) (ce : Cell) (q9 : Addr) (H1 : Heap) (locs1 : List Loc), (E, z9.1) ∈ XM → px z9 → va_P D vwCl (wf z9.2 ++ wo) H1 → va_D A (wf z9.2 ++ wo) → va_S A s.heap H1 locs1 → H1[q9]? = some ce → ce.vm = .none → s.vm.findClass E = some ce.cls → vx_W p l e R s m args below meth c H1 locs1 (cells + 1) (slots + 6) Q (F0 m pc ls rest) q9)
    (kk : ∀ (r : Int64) (u : St) (H1 : Heap) (locs1 : List Loc), post r u → va_P D vwCl (wf u ++ wo) H1 → va_D A (wf u ++ wo) → va_S A s.heap H1 locs1 → W p l e R s m args below meth c H1 locs1 (cells + 1) (slots + 6) Q (F0 m (pc + 3) ls (.long r :: rest))) : W p l e R s m args below meth c H locs cells slots Q (F0 m pc ls st0) := by
  have hF := wr_free (sd_l hD) hS hA
  refine vx_calll (vx_runV S hM (cwV n S.2.2.2.2 (cw_goodV h0 rfl h1 h2 h3 h4) rfl hR.1.1 hR.1.2 ⟨hC, hd⟩ hR.2) hp rfl hn hsz hst (lv_room hW) hdg hcap) hS (fun q _ h => hF q h) hF (fun q _ h => hF q h) ?_ ?_
  · intro E ce q9 u t H1 locs1 ht ha hpx hB hz hk hS1 hce hcv hcl
    obtain ⟨hE, hB1, hB2, hB3⟩ := hB
    obtain ⟨hP1, hD1⟩ := sp_jl hP hD hk hF (by rw [← ht]; exact hB1) hB3
    exact kx E u ce q9 H1 locs1 hE hpx hP1 hD1 hS1 hce hcv hcl
  · intro r u t H1 locs1 ht ha hw hB hz hk hS1
    obtain ⟨hP1, hD1⟩ := sp_jl hP hD hk hF (by rw [← ht]; exact hB.1) hB.2.2
    exact kk r u H1 locs1 hw hP1 hD1 hS1
end TXV
