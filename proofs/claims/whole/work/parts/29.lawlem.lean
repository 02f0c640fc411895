def R_law : String := "ServiceDeskLaw"
def lw_P (b : Addr) (xs : List Int32) (args : Array Value) (s : State) : Prop := args = #[.ref b] ∧ s.IntsAt b xs ∧ xs.length ≤ 3072 ∧ (Jvm.Cond.and given_1 narrow_1).before args s = true
def lw_Q (_ : Array Value) (s : State) (o : Outcome) (t : State) : Prop := o = .returned (some (.int 1)) ∧ Framed s o t [] 1074 19175
def lw_Z (below : List Frame) (a : Array Value) (s : State) : State → Prop := fun t => ∃ o, t.status = .running ∧ Ended t below o ∧ lw_Q a s o t
/-- the law's own end, with 1 on the stack, nothing written that was there before, its room as the claim has it -/
theorem lw_ret {p : Program} {l : Launch} {e : Env} {s : State} {m : MethodId} {below : List Frame} {meth : Method} {c : Code} {b : Nat} (hx : p.tables.exec = Jvm.exec) (hb : c.code = code) (hr : meth.sig.returnType = ret) (hlocks : meth.locks = false) {pc : Nat} {H : Heap} {ls : Array Slot} (hdg : decode code pc = .ok (.ireturn, 1)) : W p l e room_1 s m #[Value.ref b] below meth c H [] 1074 19175 (lw_Z below #[Value.ref b] s) (F0 m pc ls [.int 1]) := by
  intro T hT X
  obtain ⟨fs, hret, hrun, hended, hW, hframe⟩ := X.leave (v := some (.int 1)) (hlocks := hlocks) (fun h => by rw [hr] at h; cases h)
  have hmeth' : T.vm.method? m = some meth := X.method'
  refine ⟨T.setFrames fs, ?_, .returned (some (.int 1)), hrun, hended, rfl, ⟨_, rfl⟩, hW, hframe⟩
  jvm_step X.here [X.here.top, hx, hb, hdg, hmeth', hr, ret, narrow_b1]
  (try refine ⟨rfl, ?_⟩); (try refine ⟨rfl, ?_⟩)
  first | (intro acts; rw [hret _ acts rfl rfl rfl]) | rw [hret _ _ rfl rfl rfl]
  exact Steps.refl _
/-- what holds at the law's entry: the machine, the code, the tables' words (any of lw_tbl by 'hts w (by decide +kernel)'), the script of L ints xs at the cell b, what the Statement gives of the start (any of its parts by flat_of_before) -/
def lw_At (p : Program) (s : State) (m : MethodId) (meth : Method) (c : Code) (b L : Nat) (xs : Nat → Int32) : Prop :=
  p.tables.exec = Jvm.exec ∧ c.code = code ∧ meth.sig.returnType = ret ∧ c.maxLocals = 8 ∧ s.vm.findClass R_law = some m.cls ∧ (∀ w ∈ lw_tbl, w.before #[Value.ref b] s = true) ∧ va_X b L xs s s.heap ∧ b < s.heap.size ∧ meth.locks = false ∧ (Jvm.Cond.and given_1 narrow_1).before #[Value.ref b] s = true
/-! the law: its world, its calls -/
theorem le_under {v u : St} {x y : Int32} {c : Nat} (h : spUnder v x y c u) : c ≤ 4 := by
  rcases h with ⟨rfl, -⟩ | ⟨rfl, -⟩ | ⟨rfl, -⟩ <;> decide
theorem le_make {v u : St} {x y : Int32} {c : Nat} {r : Int32} (h : spMake v x y c r u) : c ≤ 4 := by
  rcases h with ⟨rfl, -⟩ | ⟨rfl, -⟩ | ⟨rfl, -⟩ | ⟨rfl, -⟩ <;> decide
theorem le_call {v u : St} {x y z a : Int32} {c : Nat} {r : Int64} (h : spCall v x y z a c r u) : c ≤ 4 := by
  rcases h with ⟨rfl, -⟩ | ⟨rfl, -⟩ | ⟨k, j, n, -, -, -, -, -, -, -, -, ⟨rfl, -⟩ | ⟨rfl, -⟩⟩ <;> decide
theorem le_sim {v u : St} {x y z a : Int32} {c : Nat} {r : Int64} (h : spSim v x y z a c r u) : c ≤ 4 := by
  rcases h with ⟨-, ⟨rfl, -⟩ | ⟨rfl, -⟩ | ⟨k, j, n, -, -, -, -, -, -, -, -, ⟨rfl, -⟩ | ⟨rfl, -⟩⟩⟩ <;> decide
theorem le_text {v u : St} {x y : Int32} {p0 : Int64} {n : Int32} {c : Nat} {r : Int32} (h : spText v x y p0 n c r u) : c ≤ 4 := by
  rcases h with ⟨rfl, -⟩ | ⟨rfl, -⟩ | ⟨k, j, w, -, -, -, -, -, -, ⟨rfl, -⟩ | ⟨rfl, -⟩ | ⟨rfl, -⟩⟩ <;> decide
theorem le_textAt {v u : St} {x y i : Int32} {c : Nat} {r : Int32} (h : spTextAt v x y i c r u) : c ≤ 4 := by
  rcases h with ⟨-, ⟨rfl, -⟩ | ⟨rfl, -⟩ | ⟨rfl, -⟩⟩ <;> decide
theorem le_find {v u : St} {x : Int32} {p0 : Int64} {n : Int32} {c : Nat} {r : Int32} (h : spFind v x p0 n c r u) : c ≤ 4 := by
  rcases h with ⟨-, ⟨rfl, -⟩ | ⟨rfl, -⟩ | ⟨rfl, -⟩⟩ <;> decide
theorem le_subj {v u : St} {x y w : Int32} {c : Nat} {r : Int32} (h : spSubj v x y w c r u) : c ≤ 4 := by
  rcases h with ⟨-, ⟨rfl, -⟩ | ⟨rfl, -⟩⟩ <;> decide
theorem le_row {v u : St} {i w : Int32} {c : Nat} {r : Int32} (h : spRow v i w c r u) : c ≤ 4 := by
  rcases h with ⟨-, ⟨rfl, -⟩ | ⟨rfl, -⟩⟩ <;> decide
theorem le_tick {v u : St} {n : Int32} {c : Nat} {r : Int32} (h : spTick v n c r u) : c ≤ 4 := by
  rcases h with ⟨rfl, -⟩ | ⟨rfl, -⟩ <;> decide
theorem le_count {v u : St} {w : Int32} {c : Nat} {r : Int32} (h : spCount v w c r u) : c ≤ 4 := by
  rcases h with ⟨-, ⟨rfl, -⟩ | ⟨rfl, -⟩⟩ <;> decide
theorem c0_of {c : Nat} (h : c ≤ 4) (e : nI c = 0) : c = 0 := (nI_eq (by omega) (by decide)).mp (e.trans (show (0 : Int32) = nI 0 from rfl))
theorem lw_go {i L : Nat} (hi : i ≤ 3072) (hL : L ≤ 3072) (h : ¬ nI i > nI L - 6) : i + 6 ≤ L := by
  have h : ¬ nI L - 6 < nI i := h
  rw [Int32.lt_iff_toInt_lt, show (6 : Int32) = nI 6 from rfl, pk_sub_toInt (by omega) (by omega), nI_toInt (by omega)] at h
  omega
theorem and15 (x : Int32) : ∃ n, n < 16 ∧ x &&& 15 = nI n := by
  refine ⟨(x &&& 15).toBitVec.toNat, ?_, ?_⟩
  · show ((x.toBitVec &&& 15#32)).toNat < 16
    rw [BitVec.toNat_and]
    exact Nat.lt_of_le_of_lt Nat.and_le_right (by decide)
  · have hn : ((x &&& 15).toBitVec.toNat) < 16 := by
      show ((x.toBitVec &&& 15#32)).toNat < 16
      rw [BitVec.toNat_and]
      exact Nat.lt_of_le_of_lt Nat.and_le_right (by decide)
    apply Int32.toBitVec_inj.mp
    apply BitVec.eq_of_toNat_eq
    show _ = (BitVec.ofNat 32 _).toNat
    rw [BitVec.toNat_ofNat, Nat.mod_eq_of_lt (by omega)]
abbrev lwW (q o : Nat → Nat) (a9 : Nat) (cI cZ cB cL9 mI mZ mL : ClassId) (v : St) (f : Nat → Int64) (th ch : Int32) (cd : Int64) : va_W := (wC q cI cZ cB v ++ [(a9, .inl (cL9, 1, .inr (.inl f)))]) ++ wM o mI mZ mL v th ch cd
abbrev c00 : Cond := Cond.initialized "ServiceDesk"
abbrev lwA (s : State) : Nat → Prop := fun q => s.heap.size ≤ q
/-- what stays the same over the whole law -/
def LwG (p : Program) (l : Launch) (s : State) (m : MethodId) (meth : Method) (c : Code) (b L : Nat) (xs : Nat → Int32) (dC : Nat → ClassId) (dI : Nat → Nat → Nat) (cI cZ cB cL9 mI mZ mL : ClassId) : Prop :=
  (p.tables.exec = Jvm.exec ∧ c.code = b_L_law ∧ meth.sig.returnType = ret ∧ c.maxLocals = 8 ∧ s.vm.findClass "ServiceDeskLaw" = some m.cls ∧ (∀ w ∈ c00 :: CW, w.before #[Value.ref b] s = true) ∧ meth.locks = false) ∧ (va_X b L xs s s.heap ∧ b < s.heap.size ∧ L ≤ 3072) ∧
  va_K (dC, dI) vwCl (tyC cI cZ cB ++ [(cL9, .long)]) s ∧ va_K (dC, dI) vwCl (tyM mI mZ mL) s ∧ NW s ∧ XcC (lwA s) s s.heap ∧ NC s ∧ l.stackTraces = false
section LWS
variable {p : Program} {l : Launch} {e : Env} {R : Room} {s : State} {m : MethodId} {args : Array Value} {below : List Frame} {meth : Method} {c : Code} {H : Heap} {locs : List Loc} {cells slots : Nat} {Q : State → Prop}
variable {own C : String} {idx n maxL nL pc : Nat} {y : MethodName} {bytes cc : ByteArray} {ret9 : Option FieldType} {rm : Room} {c0 : Cond} {b : Addr} {As rest st0 : List Value} {ls : Array Slot} {hh : List (Nat × Nat × Nat × Nat)}
variable {D : va_G} {tyc : List (ClassId × FieldType)} {wc wo wm : va_W} {A : Nat → Prop} {S1 : Type} {wf : S1 → va_W} {Pc : Array Value → State → Prop}
theorem lw_ld {L i t : Nat} {xs : Nat → Int32} {k : Int32} (hx : p.tables.exec = Jvm.exec) (hb : c.code = cc) (hX : va_X b L xs s s.heap) (hbl : b < s.heap.size) (hS : va_S (lwA s) s.heap H locs) (hk : k = nI t) (ht : i + t < L) (hL : L ≤ 3072) (hdg : decode cc pc = .ok (.iaload, 1))
    (kk : W p l e R s m args below meth c H locs cells slots Q (F0 m (pc + 1) ls (.int (xs (i + t)) :: rest))) : W p l e R s m args below meth c H locs cells slots Q (F0 m pc ls (.int (nI i + k) :: .ref b :: rest)) := by
  subst hk
  rw [nI_add]
  exact va_sld hx hb hX hbl (Nat.not_le.mpr hbl) hS (vp_in_nI ht (by omega)) hdg (by rw [nI_clamp (by omega)]; exact kk)
theorem lwSi {post : Int32 → S1 → Prop} (S : CallFix p m c cc nL s args (c0 :: CW) own) (hM : Met l y (Cond.codeWith y bytes maxL ret9 hh :: CW) rm (va_Pc As (LwC D H.size wc tyc)) (va_Qi post (fun u => WrB D (wf u) tyc (va_A wc H.size)) (va_A wc H.size)) 1 6 (va_A wc H.size)) (h0 : Cond.codeWith y bytes maxL ret9 hh ∈ lw_tbl) (h1 : Cond.methodLink own idx y ∈ lw_tbl) (h2 : Cond.static y ∈ lw_tbl) (h3 : Cond.initialized y.cls ∈ lw_tbl) (hd : yD y n)
    (hR : (rm.cells = 1 ∧ rm.slots = 6) ∧ rm.frames + 1 ≤ R.frames ∧ 8 + (maxL + 11) + rm.locals ≤ R.locals) (hcap : cells + 1 ≤ R.cells ∧ slots + 6 ≤ R.slots) (hP : va_P D vwCl (wc ++ wo) H) (hKc : va_K D vwCl tyc s) (hD : va_D A (wc ++ wo)) (hN : NW s) (hS : va_S A s.heap H locs) (hA : ∀ q, s.heap.size ≤ q → A q) (hX : XcC A s s.heap) (hNC : NC s) (hn : As.length = n) (hsz : ls.size = nL) (hst : st0 = As.reverse ++ rest) (hW : (rest.map fun v => v.category).sum ≤ 8) (hdg : decode cc pc = .ok (.invokestatic idx, 3))
    (kk : ∀ (r : Int32) (u : S1) (H1 : Heap) (locs1 : List Loc), post r u → va_P D vwCl (wf u ++ wo) H1 → va_D A (wf u ++ wo) → va_S A s.heap H1 locs1 → W p l e R s m args below meth c H1 locs1 (cells + 1) (slots + 6) Q (F0 m (pc + 3) ls (.int r :: rest))) : W p l e R s m args below meth c H locs cells slots Q (F0 m pc ls st0) := by
  have hF := wr_free (sd_l hD) hS hA
  refine va_calli (vx_runSW S hM (vx_cwSW n S.2.2.2.2 (cw_goodS h0 rfl h1 h2 h3) rfl hR.1.1 hR.1.2 hd hR.2) ⟨fun _ U _ _ z => ⟨z.1, ⟨z.2.1.1.calling, z.2.1.2.calling⟩, NC.moved (u := U) (Vm.Alike.refl U.vm) z.2.2⟩, fun U hU hW => ⟨rfl, ⟨WrC.of (sp_l hP) hKc (sd_l hD) hN hU hW, hX.to hS hF hU hW⟩, hNC.moved hW.alike⟩⟩ rfl hn hsz hst (lv_room hW) hdg hcap) hS (fun q _ h => hF q h) hF ?_
  intro r u t H1 locs1 ht ha hw hB hz hk hS1
  obtain ⟨hP1, hD1⟩ := sp_jl hP hD hk hF (by rw [← ht]; exact hB.1) hB.2.2
  exact kk r u H1 locs1 hw hP1 hD1 hS1
theorem lwMv {post : S1 → Prop} (S : CallFix p m c cc nL s args (c0 :: CW) own) (hM : Met l y (Cond.code y bytes maxL ret9 :: CW) rm Pc (va_Qv post (fun u => WrB D (wf u) tyc (va_A wm H.size)) (va_A wm H.size)) 0 0 (va_A wm H.size)) (h0 : Cond.code y bytes maxL ret9 ∈ lw_tbl) (h1 : Cond.methodLink own idx y ∈ lw_tbl) (h2 : Cond.instanceMethod y ∈ lw_tbl) (h3 : Cond.selects C y y ∈ lw_tbl) (h4 : Cond.initialized C ∈ lw_tbl) (hC : y.cls = C) (hd : yD y n)
    (hR : (rm.cells = 0 ∧ rm.slots = 0) ∧ rm.frames + 1 ≤ R.frames ∧ 8 + (maxL + 11) + rm.locals ≤ R.locals) (hcap : cells ≤ R.cells ∧ slots ≤ R.slots) (hp : PreV s H C b Pc As) (hP : va_P D vwCl (wc ++ wm) H) (hD : va_D A (wc ++ wm)) (hS : va_S A s.heap H locs) (hA : ∀ q, s.heap.size ≤ q → A q) (hn : As.length = n) (hsz : ls.size = nL) (hst : st0 = As.reverse ++ .ref b :: rest) (hW : (rest.map fun v => v.category).sum ≤ 8) (hdg : decode cc pc = .ok (.invokevirtual idx, 3))
    (kk : ∀ (u : S1) (H1 : Heap) (locs1 : List Loc), post u → va_P D vwCl (wc ++ wf u) H1 → va_D A (wc ++ wf u) → va_S A s.heap H1 locs1 → W p l e R s m args below meth c H1 locs1 cells slots Q (F0 m (pc + 3) ls rest)) : W p l e R s m args below meth c H locs cells slots Q (F0 m pc ls st0) := by
  have hF := wr_free (sd_r hD) hS hA
  refine va_callv (va_runV S hM (cwV n S.2.2.2.2 (cw_goodV h0 rfl h1 h2 h3 h4) rfl hR.1.1 hR.1.2 ⟨hC, hd⟩ hR.2) hp rfl hn hsz hst (lv_room hW) hdg hcap) hS (fun q _ h => hF q h) hF ?_
  intro u t H1 locs1 ht ha hw hB hz hk hS1
  obtain ⟨hP1, hD1⟩ := sp_jr hP hD hk hF (by rw [← ht]; exact hB.1) hB.2.2
  exact kk u H1 locs1 hw hP1 hD1 hS1
theorem lwMi {post : Int32 → S1 → Prop} (S : CallFix p m c cc nL s args (c0 :: CW) own) (hM : Met l y (Cond.code y bytes maxL ret9 :: CW) rm Pc (va_Qi post (fun u => WrB D (wf u) tyc (va_A wm H.size)) (va_A wm H.size)) 0 0 (va_A wm H.size)) (h0 : Cond.code y bytes maxL ret9 ∈ lw_tbl) (h1 : Cond.methodLink own idx y ∈ lw_tbl) (h2 : Cond.instanceMethod y ∈ lw_tbl) (h3 : Cond.selects C y y ∈ lw_tbl) (h4 : Cond.initialized C ∈ lw_tbl) (hC : y.cls = C) (hd : yD y n)
    (hR : (rm.cells = 0 ∧ rm.slots = 0) ∧ rm.frames + 1 ≤ R.frames ∧ 8 + (maxL + 11) + rm.locals ≤ R.locals) (hcap : cells ≤ R.cells ∧ slots ≤ R.slots) (hp : PreV s H C b Pc As) (hP : va_P D vwCl (wc ++ wm) H) (hD : va_D A (wc ++ wm)) (hS : va_S A s.heap H locs) (hA : ∀ q, s.heap.size ≤ q → A q) (hn : As.length = n) (hsz : ls.size = nL) (hst : st0 = As.reverse ++ .ref b :: rest) (hW : (rest.map fun v => v.category).sum ≤ 8) (hdg : decode cc pc = .ok (.invokevirtual idx, 3))
    (kk : ∀ (r : Int32) (u : S1) (H1 : Heap) (locs1 : List Loc), post r u → va_P D vwCl (wc ++ wf u) H1 → va_D A (wc ++ wf u) → va_S A s.heap H1 locs1 → W p l e R s m args below meth c H1 locs1 cells slots Q (F0 m (pc + 3) ls (.int r :: rest))) : W p l e R s m args below meth c H locs cells slots Q (F0 m pc ls st0) := by
  have hF := wr_free (sd_r hD) hS hA
  refine va_calli (va_runV S hM (cwV n S.2.2.2.2 (cw_goodV h0 rfl h1 h2 h3 h4) rfl hR.1.1 hR.1.2 ⟨hC, hd⟩ hR.2) hp rfl hn hsz hst (lv_room hW) hdg hcap) hS (fun q _ h => hF q h) hF ?_
  intro r u t H1 locs1 ht ha hw hB hz hk hS1
  obtain ⟨hP1, hD1⟩ := sp_jr hP hD hk hF (by rw [← ht]; exact hB.1) hB.2.2
  exact kk r u H1 locs1 hw hP1 hD1 hS1
theorem lwMl {post : Int64 → S1 → Prop} (S : CallFix p m c cc nL s args (c0 :: CW) own) (hM : Met l y (Cond.code y bytes maxL ret9 :: CW) rm Pc (va_Ql post (fun u => WrB D (wf u) tyc (va_A wm H.size)) (va_A wm H.size)) 0 0 (va_A wm H.size)) (h0 : Cond.code y bytes maxL ret9 ∈ lw_tbl) (h1 : Cond.methodLink own idx y ∈ lw_tbl) (h2 : Cond.instanceMethod y ∈ lw_tbl) (h3 : Cond.selects C y y ∈ lw_tbl) (h4 : Cond.initialized C ∈ lw_tbl) (hC : y.cls = C) (hd : yD y n)
    (hR : (rm.cells = 0 ∧ rm.slots = 0) ∧ rm.frames + 1 ≤ R.frames ∧ 8 + (maxL + 11) + rm.locals ≤ R.locals) (hcap : cells ≤ R.cells ∧ slots ≤ R.slots) (hp : PreV s H C b Pc As) (hP : va_P D vwCl (wc ++ wm) H) (hD : va_D A (wc ++ wm)) (hS : va_S A s.heap H locs) (hA : ∀ q, s.heap.size ≤ q → A q) (hn : As.length = n) (hsz : ls.size = nL) (hst : st0 = As.reverse ++ .ref b :: rest) (hW : (rest.map fun v => v.category).sum ≤ 8) (hdg : decode cc pc = .ok (.invokevirtual idx, 3))
    (kk : ∀ (r : Int64) (u : S1) (H1 : Heap) (locs1 : List Loc), post r u → va_P D vwCl (wc ++ wf u) H1 → va_D A (wc ++ wf u) → va_S A s.heap H1 locs1 → W p l e R s m args below meth c H1 locs1 cells slots Q (F0 m (pc + 3) ls (.long r :: rest))) : W p l e R s m args below meth c H locs cells slots Q (F0 m pc ls st0) := by
  have hF := wr_free (sd_r hD) hS hA
  refine va_calll (va_runV S hM (cwV n S.2.2.2.2 (cw_goodV h0 rfl h1 h2 h3 h4) rfl hR.1.1 hR.1.2 ⟨hC, hd⟩ hR.2) hp rfl hn hsz hst (lv_room hW) hdg hcap) hS (fun q _ h => hF q h) hF ?_
  intro r u t H1 locs1 ht ha hw hB hz hk hS1
  obtain ⟨hP1, hD1⟩ := sp_jr hP hD hk hF (by rw [← ht]; exact hB.1) hB.2.2
  exact kk r u H1 locs1 hw hP1 hD1 hS1
end LWS
