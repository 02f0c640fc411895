/-! the words of all tables that are good: one list for every contract -/
def CW : List Cond := lw_tbl.filter goodWord
theorem cw_in {c w : Cond} (h : w ∈ lw_tbl) (hg : goodWord w = true) : w ∈ c :: CW := List.mem_cons_of_mem _ (List.mem_filter.mpr ⟨h, hg⟩)
theorem cw_sub {c : Cond} {ws : List Cond} (h : ∀ w ∈ ws, w ∈ CW) : ∀ w ∈ ws, w ∈ c :: CW := fun w hw => List.mem_cons_of_mem _ (h w hw)
theorem cw_good {c w : Cond} (h : w ∈ lw_tbl) (hg : goodWord w = true) : GoodIn (c :: CW) (w :: CW) := by
  intro x hx
  rcases List.mem_cons.mp hx with rfl | hx
  · exact ⟨cw_in h hg, good_of_word hg⟩
  · exact ⟨List.mem_cons_of_mem _ hx, good_of_word (List.mem_filter.mp hx).2⟩
theorem cw_goodS {c w : Cond} {own : String} {idx : Nat} {y : MethodName} (h : w ∈ lw_tbl) (hg : goodWord w = true) (h1 : Cond.methodLink own idx y ∈ lw_tbl) (h2 : Cond.static y ∈ lw_tbl) (h3 : Cond.initialized y.cls ∈ lw_tbl) : GoodIn (c :: CW) (va_wsS own idx y (w :: CW)) := by
  intro x hx
  rcases List.mem_append.mp hx with hx | hx
  · simp only [List.mem_cons, List.not_mem_nil, or_false] at hx
    rcases hx with rfl | rfl | rfl
    · exact ⟨cw_in h1 rfl, good_of_word rfl⟩
    · exact ⟨cw_in h2 rfl, good_of_word rfl⟩
    · exact ⟨cw_in h3 rfl, good_of_word rfl⟩
  · exact cw_good h hg x hx
theorem cw_goodV {c w : Cond} {own C : String} {idx : Nat} {y : MethodName} (h : w ∈ lw_tbl) (hg : goodWord w = true) (h1 : Cond.methodLink own idx y ∈ lw_tbl) (h2 : Cond.instanceMethod y ∈ lw_tbl) (h3 : Cond.selects C y y ∈ lw_tbl) (h4 : Cond.initialized C ∈ lw_tbl) : GoodIn (c :: CW) (wsV own idx C y (w :: CW)) := by
  intro x hx
  rcases List.mem_append.mp hx with hx | hx
  · simp only [List.mem_cons, List.not_mem_nil, or_false] at hx
    rcases hx with rfl | rfl | rfl | rfl
    · exact ⟨cw_in h1 rfl, good_of_word rfl⟩
    · exact ⟨cw_in h2 rfl, good_of_word rfl⟩
    · exact ⟨cw_in h3 rfl, good_of_word rfl⟩
    · exact ⟨cw_in h4 rfl, good_of_word rfl⟩
  · exact cw_good h hg x hx
/-- a method's descriptor and class, as the rows of calls want them -/
def yD (y : MethodName) (n : Nat) : Prop := y.cls ≠ "java/lang/invoke/MethodHandle" ∧ y.cls ≠ "java/lang/invoke/VarHandle" ∧ (parseMethodDescriptor y.desc).map (fun d => d.parameters.length) = some n
/-- the start of a contract over the common words -/
theorem cx_met {l : Launch} {y : MethodName} {cc : ByteArray} {maxL : Nat} {ret : Option FieldType} {rm : Room} {av : List Value} {Cx : State → Prop} {Qc : Array Value → State → Outcome → State → Prop} {mc ms : Nat} {free : Addr → Prop} (hy : plainName y.cls = true) (hn : (lg_sl av).length ≤ maxL)
    (body : ∀ (p : Program) (e : Env) (s : State) (m : MethodId) (below : List Frame) (meth : Method) (c : Code), p.tables.exec = Jvm.exec → c.code = cc → meth.sig.returnType = ret → c.maxLocals = maxL → (∀ w ∈ (Cond.code y cc maxL ret :: CW), w.before av.toArray s = true) → s.vm.findClass y.cls = some m.cls → meth.locks = false → meth.name = y.name → Cx s → ∀ ls : Array Slot, lv_has ls maxL (lv_args 0 av) →
      W p l e rm s m av.toArray below meth c s.heap [] 0 0 (MQ below Qc av.toArray s mc ms free) (F0 m 0 ls [])) : Met l y (Cond.code y cc maxL ret :: CW) rm (va_Pc av Cx) Qc mc ms free := by
  refine Met.ofW (cc := cc) (maxL := maxL) (ret := ret) hy rfl ?_
  intro p e s m args below meth c s₁ B hml hv
  obtain ⟨rfl, hC⟩ := hv
  have hl := lv_entry av (n := maxL) hn
  rw [lg_entry_eq]
  exact body p e s m below meth c B.exec B.bytes B.returns hml (atoms_spec (ws := Cond.code y cc maxL ret :: CW) B.pre) (findClass_of_methodNamed B.named) B.notSynchronized (name_of_methodNamed B.named B.method).1 hC _ hl
/-! calls of methods that only read -/
section RDC
variable {p : Program} {l : Launch} {e : Env} {R : Room} {s : State} {m : MethodId} {args : Array Value} {below : List Frame} {meth : Method} {c : Code} {H : Heap} {locs : List Loc} {cells slots : Nat} {Q : State → Prop}
variable {own C : String} {idx n maxL nL pc : Nat} {y : MethodName} {bytes cc : ByteArray} {ret : Option FieldType} {rm : Room} {Pc : Array Value → State → Prop} {c0 : Cond} {b : Addr} {As rest st0 : List Value} {ls : Array Slot}
theorem rdVi {post : Int32 → Prop} (S : CallFix p m c cc nL s args (c0 :: CW) own) (hM : Met l y (Cond.code y bytes maxL ret :: CW) rm Pc (vp_Si post) 0 0 (fun _ => False)) (h0 : Cond.code y bytes maxL ret ∈ lw_tbl) (h1 : Cond.methodLink own idx y ∈ lw_tbl) (h2 : Cond.instanceMethod y ∈ lw_tbl) (h3 : Cond.selects C y y ∈ lw_tbl) (h4 : Cond.initialized C ∈ lw_tbl) (hC : y.cls = C) (hd : yD y n)
    (hR : (rm.cells = 0 ∧ rm.slots = 0) ∧ rm.frames + 1 ≤ R.frames ∧ 8 + (maxL + 11) + rm.locals ≤ R.locals) (hcap : cells ≤ R.cells ∧ slots ≤ R.slots) (hp : PreV s H C b Pc As) (hn : As.length = n) (hsz : ls.size = nL) (hst : st0 = As.reverse ++ .ref b :: rest) (hW : (rest.map fun v => v.category).sum ≤ 8) (hdg : decode cc pc = .ok (.invokevirtual idx, 3))
    (kk : ∀ r : Int32, post r → W p l e R s m args below meth c H locs cells slots Q (F0 m (pc + 3) ls (.int r :: rest))) : W p l e R s m args below meth c H locs cells slots Q (F0 m pc ls st0) :=
  vp_callSi (W.runV S hM (cwV n S.2.2.2.2 (cw_goodV h0 rfl h1 h2 h3 h4) rfl hR.1.1 hR.1.2 ⟨hC, hd⟩ hR.2) hp rfl hn hsz hst (lv_room hW) hdg hcap) kk
theorem rdVl {post : Int64 → Prop} (S : CallFix p m c cc nL s args (c0 :: CW) own) (hM : Met l y (Cond.code y bytes maxL ret :: CW) rm Pc (vp_Sl post) 0 0 (fun _ => False)) (h0 : Cond.code y bytes maxL ret ∈ lw_tbl) (h1 : Cond.methodLink own idx y ∈ lw_tbl) (h2 : Cond.instanceMethod y ∈ lw_tbl) (h3 : Cond.selects C y y ∈ lw_tbl) (h4 : Cond.initialized C ∈ lw_tbl) (hC : y.cls = C) (hd : yD y n)
    (hR : (rm.cells = 0 ∧ rm.slots = 0) ∧ rm.frames + 1 ≤ R.frames ∧ 8 + (maxL + 11) + rm.locals ≤ R.locals) (hcap : cells ≤ R.cells ∧ slots ≤ R.slots) (hp : PreV s H C b Pc As) (hn : As.length = n) (hsz : ls.size = nL) (hst : st0 = As.reverse ++ .ref b :: rest) (hW : (rest.map fun v => v.category).sum ≤ 8) (hdg : decode cc pc = .ok (.invokevirtual idx, 3))
    (kk : ∀ r : Int64, post r → W p l e R s m args below meth c H locs cells slots Q (F0 m (pc + 3) ls (.long r :: rest))) : W p l e R s m args below meth c H locs cells slots Q (F0 m pc ls st0) :=
  vp_callSl (W.runV S hM (cwV n S.2.2.2.2 (cw_goodV h0 rfl h1 h2 h3 h4) rfl hR.1.1 hR.1.2 ⟨hC, hd⟩ hR.2) hp rfl hn hsz hst (lv_room hW) hdg hcap) kk
theorem rdSi {post : Int32 → Prop} (S : CallFix p m c cc nL s args (c0 :: CW) own) (hM : Met l y (Cond.code y bytes maxL ret :: CW) rm Pc (vp_Si post) 0 0 (fun _ => False)) (h0 : Cond.code y bytes maxL ret ∈ lw_tbl) (h1 : Cond.methodLink own idx y ∈ lw_tbl) (h2 : Cond.static y ∈ lw_tbl) (h3 : Cond.initialized y.cls ∈ lw_tbl) (hd : yD y n)
    (hR : (rm.cells = 0 ∧ rm.slots = 0) ∧ rm.frames + 1 ≤ R.frames ∧ 8 + (maxL + 11) + rm.locals ≤ R.locals) (hcap : cells ≤ R.cells ∧ slots ≤ R.slots) (hp : PreS s H Pc As) (hn : As.length = n) (hsz : ls.size = nL) (hst : st0 = As.reverse ++ rest) (hW : (rest.map fun v => v.category).sum ≤ 8) (hdg : decode cc pc = .ok (.invokestatic idx, 3))
    (kk : ∀ r : Int32, post r → W p l e R s m args below meth c H locs cells slots Q (F0 m (pc + 3) ls (.int r :: rest))) : W p l e R s m args below meth c H locs cells slots Q (F0 m pc ls st0) :=
  vp_callSi (W.runS S hM (va_cwS n S.2.2.2.2 (cw_goodS h0 rfl h1 h2 h3) rfl hR.1.1 hR.1.2 hd hR.2) hp rfl hn hsz hst (lv_room hW) hdg hcap) kk
theorem rdSl {post : Int64 → Prop} (S : CallFix p m c cc nL s args (c0 :: CW) own) (hM : Met l y (Cond.code y bytes maxL ret :: CW) rm Pc (vp_Sl post) 0 0 (fun _ => False)) (h0 : Cond.code y bytes maxL ret ∈ lw_tbl) (h1 : Cond.methodLink own idx y ∈ lw_tbl) (h2 : Cond.static y ∈ lw_tbl) (h3 : Cond.initialized y.cls ∈ lw_tbl) (hd : yD y n)
    (hR : (rm.cells = 0 ∧ rm.slots = 0) ∧ rm.frames + 1 ≤ R.frames ∧ 8 + (maxL + 11) + rm.locals ≤ R.locals) (hcap : cells ≤ R.cells ∧ slots ≤ R.slots) (hp : PreS s H Pc As) (hn : As.length = n) (hsz : ls.size = nL) (hst : st0 = As.reverse ++ rest) (hW : (rest.map fun v => v.category).sum ≤ 8) (hdg : decode cc pc = .ok (.invokestatic idx, 3))
    (kk : ∀ r : Int64, post r → W p l e R s m args below meth c H locs cells slots Q (F0 m (pc + 3) ls (.long r :: rest))) : W p l e R s m args below meth c H locs cells slots Q (F0 m pc ls st0) :=
  vp_callSl (W.runS S hM (va_cwS n S.2.2.2.2 (cw_goodS h0 rfl h1 h2 h3) rfl hR.1.1 hR.1.2 hd hR.2) hp rfl hn hsz hst (lv_room hW) hdg hcap) kk
theorem rdVNi {host : String} {post : Int32 → Prop} (S : CallFix p m c cc nL s args (c0 :: CW) own) (hM : Met l y (Cond.code y bytes maxL ret :: CW) rm Pc (vp_Si post) 0 0 (fun _ => False)) (h0 : Cond.code y bytes maxL ret ∈ lw_tbl) (h1 : va_Nw (.methodLinkNest own idx y host) s) (h2 : Cond.instanceMethod y ∈ lw_tbl) (h3 : Cond.selects C y y ∈ lw_tbl) (h4 : Cond.initialized y.cls ∈ lw_tbl) (hd : yD y n)
    (hR : (rm.cells = 0 ∧ rm.slots = 0) ∧ rm.frames + 1 ≤ R.frames ∧ 8 + (maxL + 11) + rm.locals ≤ R.locals) (hcap : cells ≤ R.cells ∧ slots ≤ R.slots) (hp : PreV s H C b Pc As) (hn : As.length = n) (hsz : ls.size = nL) (hst : st0 = As.reverse ++ .ref b :: rest) (hW : (rest.map fun v => v.category).sum ≤ 8) (hdg : decode cc pc = .ok (.invokevirtual idx, 3))
    (kk : ∀ r : Int32, post r → W p l e R s m args below meth c H locs cells slots Q (F0 m (pc + 3) ls (.int r :: rest))) : W p l e R s m args below meth c H locs cells slots Q (F0 m pc ls st0) :=
  vp_callSi (va_runVN S hM ⟨va_cnB n S.2.2.2.2 (cw_good h0 rfl) rfl hR.1.1 hR.1.2 h1 (S.2.2.2.2 _ (cw_in h4 rfl)) hd hR.2, S.2.2.2.2 _ (cw_in h2 rfl), S.2.2.2.2 _ (cw_in h3 rfl)⟩ hp rfl hn hsz hst (lv_room hW) hdg hcap).run kk
theorem rdSNi {host : String} {post : Int32 → Prop} (S : CallFix p m c cc nL s args (c0 :: CW) own) (hM : Met l y (Cond.code y bytes maxL ret :: CW) rm Pc (vp_Si post) 0 0 (fun _ => False)) (h0 : Cond.code y bytes maxL ret ∈ lw_tbl) (h1 : va_Nw (.methodLinkNest own idx y host) s) (h2 : Cond.static y ∈ lw_tbl) (h4 : Cond.initialized y.cls ∈ lw_tbl) (hd : yD y n)
    (hR : (rm.cells = 0 ∧ rm.slots = 0) ∧ rm.frames + 1 ≤ R.frames ∧ 8 + (maxL + 11) + rm.locals ≤ R.locals) (hcap : cells ≤ R.cells ∧ slots ≤ R.slots) (hp : PreS s H Pc As) (hn : As.length = n) (hsz : ls.size = nL) (hst : st0 = As.reverse ++ rest) (hW : (rest.map fun v => v.category).sum ≤ 8) (hdg : decode cc pc = .ok (.invokestatic idx, 3))
    (kk : ∀ r : Int32, post r → W p l e R s m args below meth c H locs cells slots Q (F0 m (pc + 3) ls (.int r :: rest))) : W p l e R s m args below meth c H locs cells slots Q (F0 m pc ls st0) :=
  vp_callSi (va_runSN S hM ⟨va_cnB n S.2.2.2.2 (cw_good h0 rfl) rfl hR.1.1 hR.1.2 h1 (S.2.2.2.2 _ (cw_in h4 rfl)) hd hR.2, S.2.2.2.2 _ (cw_in h2 rfl), trivial⟩ hp rfl hn hsz hst (lv_room hW) hdg hcap).run kk
end RDC
/-! reads and writes of arrays by numbers -/
section XAR
variable {p : Program} {l : Launch} {e : Env} {R : Room} {s : State} {m : MethodId} {args : Array Value} {below : List Frame} {meth : Method} {c : Code} {H : Heap} {locs : List Loc} {cells slots : Nat} {Q : State → Prop}
variable {cc : ByteArray} {pc : Nat} {ls : Array Slot} {rest : List Value} {D : va_G} {cl : List vw_C} {A : Nat → Prop} {a : Nat} {tys : List (ClassId × FieldType)} {ws : va_W} {H0 : Heap} {cA : ClassId} {n : Nat}
theorem xa_i (hx : p.tables.exec = Jvm.exec) (hb : c.code = cc) (hK : va_K D cl tys s) (hP : va_P D cl ws H) (q0 t0 : Nat) {f : Nat → Int32} (ha : ws[q0]? = some (a, .inl (cA, n, .inl f))) (ht : tys[t0]? = some (cA, .int)) {k : Nat} {y : Int32} (hk : k < n) (hn : n < 2 ^ 31) (hy : f k = y) (hdg : decode cc pc = .ok (.iaload, 1))
    (kk : W p l e R s m args below meth c H locs cells slots Q (F0 m (pc + 1) ls (.int y :: rest))) : W p l e R s m args below meth c H locs cells slots Q (F0 m pc ls (.int (nI k) :: .ref a :: rest)) := by
  refine va_iald hx hb hK hP q0 t0 ha ht (vp_in_nI hk hn) hdg ?_
  rw [nI_clamp (Nat.lt_trans hk hn), hy]
  exact kk
theorem xa_b (hx : p.tables.exec = Jvm.exec) (hb : c.code = cc) (hK : va_K D cl tys s) (hP : va_P D cl ws H) (q0 t0 : Nat) {f : Nat → Int32} (ha : ws[q0]? = some (a, .inl (cA, n, .inl f))) (ht : tys[t0]? = some (cA, .byte)) {k : Nat} {y : Int32} (hk : k < n) (hn : n < 2 ^ 31) (hy : f k = y) (hdg : decode cc pc = .ok (.baload, 1))
    (kk : W p l e R s m args below meth c H locs cells slots Q (F0 m (pc + 1) ls (.int y :: rest))) : W p l e R s m args below meth c H locs cells slots Q (F0 m pc ls (.int (nI k) :: .ref a :: rest)) := by
  refine va_bald hx hb hK hP q0 t0 ha ht (vp_in_nI hk hn) hdg ?_
  rw [nI_clamp (Nat.lt_trans hk hn), hy]
  exact kk
theorem xa_z (hx : p.tables.exec = Jvm.exec) (hb : c.code = cc) (hK : va_K D cl tys s) (hP : va_P D cl ws H) (q0 t0 : Nat) {f : Nat → Int32} (ha : ws[q0]? = some (a, .inl (cA, n, .inl f))) (ht : tys[t0]? = some (cA, .boolean)) {k : Nat} {y : Int32} (hk : k < n) (hn : n < 2 ^ 31) (hy : f k = y) (hdg : decode cc pc = .ok (.baload, 1))
    (kk : W p l e R s m args below meth c H locs cells slots Q (F0 m (pc + 1) ls (.int y :: rest))) : W p l e R s m args below meth c H locs cells slots Q (F0 m pc ls (.int (nI k) :: .ref a :: rest)) := by
  refine va_zald hx hb hK hP q0 t0 ha ht (vp_in_nI hk hn) hdg ?_
  rw [nI_clamp (Nat.lt_trans hk hn), hy]
  exact kk
theorem xa_l (hx : p.tables.exec = Jvm.exec) (hb : c.code = cc) (hK : va_K D cl tys s) (hP : va_P D cl ws H) (q0 t0 : Nat) {f : Nat → Int64} (ha : ws[q0]? = some (a, .inl (cA, n, .inr (.inl f)))) (ht : tys[t0]? = some (cA, .long)) {k : Nat} {y : Int64} (hk : k < n) (hn : n < 2 ^ 31) (hy : f k = y) (hdg : decode cc pc = .ok (.laload, 1))
    (kk : W p l e R s m args below meth c H locs cells slots Q (F0 m (pc + 1) ls (.long y :: rest))) : W p l e R s m args below meth c H locs cells slots Q (F0 m pc ls (.int (nI k) :: .ref a :: rest)) := by
  refine va_lald hx hb hK hP q0 t0 ha ht (vp_in_nI hk hn) hdg ?_
  rw [nI_clamp (Nat.lt_trans hk hn), hy]
  exact kk
theorem xs_i (hx : p.tables.exec = Jvm.exec) (hb : c.code = cc) (hK : va_K D cl tys s) (hP : va_P D cl ws H) (hD : va_D A ws) (hS : va_S A H0 H locs) (q0 t0 : Nat) {f : Nat → Int32} (ha : ws[q0]? = some (a, .inl (cA, n, .inl f))) (ht : tys[t0]? = some (cA, .int)) {k : Nat} {x : Int32} (hk : k < n) (hn : n < 2 ^ 31) (hdg : decode cc pc = .ok (.iastore, 1))
    (kk : ∀ (H1 : Heap) (locs1 : List Loc), va_P D cl (ws.set q0 (a, .inl (cA, n, .inl (upd f k x)))) H1 → va_D A (ws.set q0 (a, .inl (cA, n, .inl (upd f k x)))) → va_S A H0 H1 locs1 → W p l e R s m args below meth c H1 locs1 cells slots Q (F0 m (pc + 1) ls rest)) : W p l e R s m args below meth c H locs cells slots Q (F0 m pc ls (.int x :: .int (nI k) :: .ref a :: rest)) := by
  refine va_iast hx hb hK hP hD hS q0 t0 ha ht (vp_in_nI hk hn) hdg ?_
  rw [nI_clamp (Nat.lt_trans hk hn)]
  exact kk
theorem xs_b (hx : p.tables.exec = Jvm.exec) (hb : c.code = cc) (hK : va_K D cl tys s) (hP : va_P D cl ws H) (hD : va_D A ws) (hS : va_S A H0 H locs) (q0 t0 : Nat) {f : Nat → Int32} (ha : ws[q0]? = some (a, .inl (cA, n, .inl f))) (ht : tys[t0]? = some (cA, .byte)) {k : Nat} {x y : Int32} (hk : k < n) (hn : n < 2 ^ 31) (hy : vp_nar .byte x = y) (hdg : decode cc pc = .ok (.bastore, 1))
    (kk : ∀ (H1 : Heap) (locs1 : List Loc), va_P D cl (ws.set q0 (a, .inl (cA, n, .inl (upd f k y)))) H1 → va_D A (ws.set q0 (a, .inl (cA, n, .inl (upd f k y)))) → va_S A H0 H1 locs1 → W p l e R s m args below meth c H1 locs1 cells slots Q (F0 m (pc + 1) ls rest)) : W p l e R s m args below meth c H locs cells slots Q (F0 m pc ls (.int x :: .int (nI k) :: .ref a :: rest)) := by
  refine va_bast hx hb hK hP hD hS q0 t0 ha ht (vp_in_nI hk hn) hdg ?_
  rw [nI_clamp (Nat.lt_trans hk hn), hy]
  exact kk
theorem xs_z (hx : p.tables.exec = Jvm.exec) (hb : c.code = cc) (hK : va_K D cl tys s) (hP : va_P D cl ws H) (hD : va_D A ws) (hS : va_S A H0 H locs) (q0 t0 : Nat) {f : Nat → Int32} (ha : ws[q0]? = some (a, .inl (cA, n, .inl f))) (ht : tys[t0]? = some (cA, .boolean)) {k : Nat} {x y : Int32} (hk : k < n) (hn : n < 2 ^ 31) (hy : vp_nar .boolean x = y) (hdg : decode cc pc = .ok (.bastore, 1))
    (kk : ∀ (H1 : Heap) (locs1 : List Loc), va_P D cl (ws.set q0 (a, .inl (cA, n, .inl (upd f k y)))) H1 → va_D A (ws.set q0 (a, .inl (cA, n, .inl (upd f k y)))) → va_S A H0 H1 locs1 → W p l e R s m args below meth c H1 locs1 cells slots Q (F0 m (pc + 1) ls rest)) : W p l e R s m args below meth c H locs cells slots Q (F0 m pc ls (.int x :: .int (nI k) :: .ref a :: rest)) := by
  refine va_zast hx hb hK hP hD hS q0 t0 ha ht (vp_in_nI hk hn) hdg ?_
  rw [nI_clamp (Nat.lt_trans hk hn), hy]
  exact kk
theorem xs_l (hx : p.tables.exec = Jvm.exec) (hb : c.code = cc) (hK : va_K D cl tys s) (hP : va_P D cl ws H) (hD : va_D A ws) (hS : va_S A H0 H locs) (q0 t0 : Nat) {f : Nat → Int64} (ha : ws[q0]? = some (a, .inl (cA, n, .inr (.inl f)))) (ht : tys[t0]? = some (cA, .long)) {k : Nat} {x : Int64} (hk : k < n) (hn : n < 2 ^ 31) (hdg : decode cc pc = .ok (.lastore, 1))
    (kk : ∀ (H1 : Heap) (locs1 : List Loc), va_P D cl (ws.set q0 (a, .inl (cA, n, .inr (.inl (vp_updL f k x))))) H1 → va_D A (ws.set q0 (a, .inl (cA, n, .inr (.inl (vp_updL f k x))))) → va_S A H0 H1 locs1 → W p l e R s m args below meth c H1 locs1 cells slots Q (F0 m (pc + 1) ls rest)) : W p l e R s m args below meth c H locs cells slots Q (F0 m pc ls (.long x :: .int (nI k) :: .ref a :: rest)) := by
  refine va_last hx hb hK hP hD hS q0 t0 ha ht (vp_in_nI hk hn) hdg ?_
  rw [nI_clamp (Nat.lt_trans hk hn)]
  exact kk
/-- a loop that only reads, its locals told by the turn's number -/
theorem rd_loop {nL : Nat} (N : Nat) (LV : Nat → List (Nat × Value)) {head : Nat}
    (step : ∀ (i : Nat) (ls : Array Slot), i ≤ N → lv_has ls nL (LV i) → (∀ ls' : Array Slot, i < N → lv_has ls' nL (LV (i + 1)) → W p l e R s m args below meth c H locs cells slots Q (F0 m head ls' [])) → W p l e R s m args below meth c H locs cells slots Q (F0 m head ls [])) :
    ∀ ls : Array Slot, lv_has ls nL (LV 0) → W p l e R s m args below meth c H locs cells slots Q (F0 m head ls []) := by
  have key : ∀ (n i : Nat) (ls : Array Slot), i ≤ N → N - i < n → lv_has ls nL (LV i) → W p l e R s m args below meth c H locs cells slots Q (F0 m head ls []) := by
    intro n
    induction n with
    | zero => intro i ls _ h _; exact absurd h (Nat.not_lt_zero _)
    | succ n ih => exact fun i ls hi hn hl => step i ls hi hl (fun ls' hlt hl' => ih (i + 1) ls' hlt (by omega) hl')
  exact fun ls hl => key (N + 1) 0 ls (Nat.zero_le _) (by omega) hl
/-- a loop that writes: its world and locals told by the turn's number -/
theorem wr_loop {nL : Nat} (N : Nat) (WV : Nat → va_W) (LV : Nat → List (Nat × Value)) {head : Nat}
    (step : ∀ (i : Nat) (H : Heap) (locs : List Loc) (ls : Array Slot), i ≤ N → va_P D cl (WV i) H → va_D A (WV i) → va_S A H0 H locs → lv_has ls nL (LV i) → (∀ (H' : Heap) (locs' : List Loc) (ls' : Array Slot), i < N → va_P D cl (WV (i + 1)) H' → va_D A (WV (i + 1)) → va_S A H0 H' locs' → lv_has ls' nL (LV (i + 1)) → W p l e R s m args below meth c H' locs' cells slots Q (F0 m head ls' [])) → W p l e R s m args below meth c H locs cells slots Q (F0 m head ls [])) :
    ∀ (H : Heap) (locs : List Loc) (ls : Array Slot), va_P D cl (WV 0) H → va_D A (WV 0) → va_S A H0 H locs → lv_has ls nL (LV 0) → W p l e R s m args below meth c H locs cells slots Q (F0 m head ls []) := by
  have key : ∀ (n i : Nat) (H : Heap) (locs : List Loc) (ls : Array Slot), i ≤ N → N - i < n → va_P D cl (WV i) H → va_D A (WV i) → va_S A H0 H locs → lv_has ls nL (LV i) → W p l e R s m args below meth c H locs cells slots Q (F0 m head ls []) := by
    intro n
    induction n with
    | zero => intro i H locs ls _ h _ _ _ _; exact absurd h (Nat.not_lt_zero _)
    | succ n ih => exact fun i H locs ls hi hn hP hD hS hl => step i H locs ls hi hP hD hS hl (fun H' locs' ls' hlt hP' hD' hS' hl' => ih (i + 1) H' locs' ls' hlt (by omega) hP' hD' hS' hl')
  exact fun H locs ls hP hD hS hl => key (N + 1) 0 H locs ls (Nat.zero_le _) (by omega) hP hD hS hl
end XAR
