section
-- ===== PART A: goes FIRST, ahead of the names: the tables' words, and 'selects' of the private methods out of them =====
/-- a private method of a class that the tables say can be made, by its rows of tables_1 -/
def lw_okq (q : MethodName × Nat) : Prop := (q.1.cls ≠ "java/lang/invoke/MethodHandle" ∧ q.1.cls ≠ "java/lang/invoke/VarHandle") ∧ Cond.instantiable q.1.cls q.2 ∈ tables_1 ∧ Cond.privateMethod q.1 ∈ tables_1 ∧ Cond.instanceMethod q.1 ∈ tables_1
theorem lw_p0 : lw_okq (⟨"ServiceDesk$Subjects", "stirKind", "(II)I"⟩, 6) := ⟨⟨by decide +kernel, by decide +kernel⟩, List.mem_of_getElem? (i := 43) (by decide +kernel), List.mem_of_getElem? (i := 120) (by decide +kernel), List.mem_of_getElem? (i := 121) (by decide +kernel)⟩
theorem lw_p1 : lw_okq (⟨"ServiceDesk$Subjects", "stirOne", "(II)I"⟩, 6) := ⟨⟨by decide +kernel, by decide +kernel⟩, List.mem_of_getElem? (i := 43) (by decide +kernel), List.mem_of_getElem? (i := 127) (by decide +kernel), List.mem_of_getElem? (i := 128) (by decide +kernel)⟩
theorem lw_p2 : lw_okq (⟨"ServiceDesk$Subjects", "byteAt", "(II)I"⟩, 6) := ⟨⟨by decide +kernel, by decide +kernel⟩, List.mem_of_getElem? (i := 43) (by decide +kernel), List.mem_of_getElem? (i := 132) (by decide +kernel), List.mem_of_getElem? (i := 133) (by decide +kernel)⟩
theorem lw_p3 : lw_okq (⟨"ServiceDesk$Rows", "stirAll", "(I)I"⟩, 2) := ⟨⟨by decide +kernel, by decide +kernel⟩, List.mem_of_getElem? (i := 75) (by decide +kernel), List.mem_of_getElem? (i := 136) (by decide +kernel), List.mem_of_getElem? (i := 137) (by decide +kernel)⟩
theorem lw_p4 : lw_okq (⟨"java/lang/Throwable", "fillInStackTrace", "(I)Ljava/lang/Throwable;"⟩, 6) := ⟨⟨by decide +kernel, by decide +kernel⟩, List.mem_of_getElem? (i := 192) (by decide +kernel), List.mem_of_getElem? (i := 190) (by decide +kernel), List.mem_of_getElem? (i := 191) (by decide +kernel)⟩
theorem lw_p5 : lw_okq (⟨"ServiceDesk", "isAtOrUnder", "(II)Z"⟩, 6) := ⟨⟨by decide +kernel, by decide +kernel⟩, List.mem_of_getElem? (i := 15) (by decide +kernel), List.mem_of_getElem? (i := 221) (by decide +kernel), List.mem_of_getElem? (i := 222) (by decide +kernel)⟩
theorem lw_p6 : lw_okq (⟨"ServiceDesk", "canBeAbove", "(II)Z"⟩, 6) := ⟨⟨by decide +kernel, by decide +kernel⟩, List.mem_of_getElem? (i := 15) (by decide +kernel), List.mem_of_getElem? (i := 249) (by decide +kernel), List.mem_of_getElem? (i := 250) (by decide +kernel)⟩
theorem lw_p7 : lw_okq (⟨"ServiceDesk", "isSubject", "(II)Z"⟩, 6) := ⟨⟨by decide +kernel, by decide +kernel⟩, List.mem_of_getElem? (i := 15) (by decide +kernel), List.mem_of_getElem? (i := 253) (by decide +kernel), List.mem_of_getElem? (i := 254) (by decide +kernel)⟩
theorem lw_p8 : lw_okq (⟨"ServiceDesk", "slotOrNone", "(II)I"⟩, 6) := ⟨⟨by decide +kernel, by decide +kernel⟩, List.mem_of_getElem? (i := 15) (by decide +kernel), List.mem_of_getElem? (i := 258) (by decide +kernel), List.mem_of_getElem? (i := 259) (by decide +kernel)⟩
theorem lw_p9 : lw_okq (⟨"ServiceDesk$Subjects", "add", "(II)I"⟩, 6) := ⟨⟨by decide +kernel, by decide +kernel⟩, List.mem_of_getElem? (i := 43) (by decide +kernel), List.mem_of_getElem? (i := 280) (by decide +kernel), List.mem_of_getElem? (i := 281) (by decide +kernel)⟩
theorem lw_p10 : lw_okq (⟨"ServiceDesk$Verbs", "set", "(IIII)V"⟩, 3) := ⟨⟨by decide +kernel, by decide +kernel⟩, List.mem_of_getElem? (i := 23) (by decide +kernel), List.mem_of_getElem? (i := 316) (by decide +kernel), List.mem_of_getElem? (i := 317) (by decide +kernel)⟩
theorem lw_p11 : lw_okq (⟨"ServiceDesk", "refusalOf", "(IIII)I"⟩, 6) := ⟨⟨by decide +kernel, by decide +kernel⟩, List.mem_of_getElem? (i := 15) (by decide +kernel), List.mem_of_getElem? (i := 327) (by decide +kernel), List.mem_of_getElem? (i := 328) (by decide +kernel)⟩
theorem lw_p12 : lw_okq (⟨"ServiceDesk$Rows", "tell", "(IIIII)V"⟩, 2) := ⟨⟨by decide +kernel, by decide +kernel⟩, List.mem_of_getElem? (i := 75) (by decide +kernel), List.mem_of_getElem? (i := 332) (by decide +kernel), List.mem_of_getElem? (i := 333) (by decide +kernel)⟩
theorem lw_p13 : lw_okq (⟨"ServiceDesk", "answerTo", "(IIII)J"⟩, 6) := ⟨⟨by decide +kernel, by decide +kernel⟩, List.mem_of_getElem? (i := 15) (by decide +kernel), List.mem_of_getElem? (i := 342) (by decide +kernel), List.mem_of_getElem? (i := 343) (by decide +kernel)⟩
theorem lw_p14 : lw_okq (⟨"ServiceDesk", "slotAbove", "(II)I"⟩, 6) := ⟨⟨by decide +kernel, by decide +kernel⟩, List.mem_of_getElem? (i := 15) (by decide +kernel), List.mem_of_getElem? (i := 354) (by decide +kernel), List.mem_of_getElem? (i := 355) (by decide +kernel)⟩
theorem lw_p15 : lw_okq (⟨"ServiceDesk", "answerToPass", "(II)J"⟩, 6) := ⟨⟨by decide +kernel, by decide +kernel⟩, List.mem_of_getElem? (i := 15) (by decide +kernel), List.mem_of_getElem? (i := 358) (by decide +kernel), List.mem_of_getElem? (i := 359) (by decide +kernel)⟩
def lw_privs_1 : List (MethodName × Nat) := [(⟨"ServiceDesk$Subjects", "stirKind", "(II)I"⟩, 6), (⟨"ServiceDesk$Subjects", "stirOne", "(II)I"⟩, 6), (⟨"ServiceDesk$Subjects", "byteAt", "(II)I"⟩, 6), (⟨"ServiceDesk$Rows", "stirAll", "(I)I"⟩, 2), (⟨"java/lang/Throwable", "fillInStackTrace", "(I)Ljava/lang/Throwable;"⟩, 6), (⟨"ServiceDesk", "isAtOrUnder", "(II)Z"⟩, 6), (⟨"ServiceDesk", "canBeAbove", "(II)Z"⟩, 6), (⟨"ServiceDesk", "isSubject", "(II)Z"⟩, 6), (⟨"ServiceDesk", "slotOrNone", "(II)I"⟩, 6), (⟨"ServiceDesk$Subjects", "add", "(II)I"⟩, 6), (⟨"ServiceDesk$Verbs", "set", "(IIII)V"⟩, 3), (⟨"ServiceDesk", "refusalOf", "(IIII)I"⟩, 6), (⟨"ServiceDesk$Rows", "tell", "(IIIII)V"⟩, 2), (⟨"ServiceDesk", "answerTo", "(IIII)J"⟩, 6), (⟨"ServiceDesk", "slotAbove", "(II)I"⟩, 6), (⟨"ServiceDesk", "answerToPass", "(II)J"⟩, 6)]
theorem lw_r1 : ∀ q ∈ lw_privs_1, lw_okq q := List.forall_mem_cons.mpr ⟨lw_p0, List.forall_mem_cons.mpr ⟨lw_p1, List.forall_mem_cons.mpr ⟨lw_p2, List.forall_mem_cons.mpr ⟨lw_p3, List.forall_mem_cons.mpr ⟨lw_p4, List.forall_mem_cons.mpr ⟨lw_p5, List.forall_mem_cons.mpr ⟨lw_p6, List.forall_mem_cons.mpr ⟨lw_p7, List.forall_mem_cons.mpr ⟨lw_p8, List.forall_mem_cons.mpr ⟨lw_p9, List.forall_mem_cons.mpr ⟨lw_p10, List.forall_mem_cons.mpr ⟨lw_p11, List.forall_mem_cons.mpr ⟨lw_p12, List.forall_mem_cons.mpr ⟨lw_p13, List.forall_mem_cons.mpr ⟨lw_p14, List.forall_mem_cons.mpr ⟨lw_p15, fun _ h => absurd h List.not_mem_nil⟩⟩⟩⟩⟩⟩⟩⟩⟩⟩⟩⟩⟩⟩⟩⟩
theorem lw_p16 : lw_okq (⟨"ServiceDesk", "answerToClose", "(II)J"⟩, 6) := ⟨⟨by decide +kernel, by decide +kernel⟩, List.mem_of_getElem? (i := 15) (by decide +kernel), List.mem_of_getElem? (i := 363) (by decide +kernel), List.mem_of_getElem? (i := 364) (by decide +kernel)⟩
theorem lw_p17 : lw_okq (⟨"ServiceDesk", "openOnesUnder", "(II)I"⟩, 6) := ⟨⟨by decide +kernel, by decide +kernel⟩, List.mem_of_getElem? (i := 15) (by decide +kernel), List.mem_of_getElem? (i := 367) (by decide +kernel), List.mem_of_getElem? (i := 368) (by decide +kernel)⟩
theorem lw_p18 : lw_okq (⟨"ServiceDesk$Subjects", "openUnder", "(II)I"⟩, 6) := ⟨⟨by decide +kernel, by decide +kernel⟩, List.mem_of_getElem? (i := 43) (by decide +kernel), List.mem_of_getElem? (i := 371) (by decide +kernel), List.mem_of_getElem? (i := 372) (by decide +kernel)⟩
theorem lw_p19 : lw_okq (⟨"ServiceDesk$Subjects", "openOf", "(I)I"⟩, 6) := ⟨⟨by decide +kernel, by decide +kernel⟩, List.mem_of_getElem? (i := 43) (by decide +kernel), List.mem_of_getElem? (i := 376) (by decide +kernel), List.mem_of_getElem? (i := 377) (by decide +kernel)⟩
theorem lw_p20 : lw_okq (⟨"ServiceDesk", "carryOut", "(IIIJ)V"⟩, 6) := ⟨⟨by decide +kernel, by decide +kernel⟩, List.mem_of_getElem? (i := 15) (by decide +kernel), List.mem_of_getElem? (i := 380) (by decide +kernel), List.mem_of_getElem? (i := 381) (by decide +kernel)⟩
theorem lw_p21 : lw_okq (⟨"ServiceDesk", "setSum", "(IJ)V"⟩, 6) := ⟨⟨by decide +kernel, by decide +kernel⟩, List.mem_of_getElem? (i := 15) (by decide +kernel), List.mem_of_getElem? (i := 384) (by decide +kernel), List.mem_of_getElem? (i := 385) (by decide +kernel)⟩
theorem lw_p22 : lw_okq (⟨"ServiceDesk$Subjects", "lengthen", "(IJI)I"⟩, 6) := ⟨⟨by decide +kernel, by decide +kernel⟩, List.mem_of_getElem? (i := 43) (by decide +kernel), List.mem_of_getElem? (i := 405) (by decide +kernel), List.mem_of_getElem? (i := 406) (by decide +kernel)⟩
theorem lw_p23 : lw_okq (⟨"ServiceDesk$Subjects", "hasJust", "(IJI)Z"⟩, 6) := ⟨⟨by decide +kernel, by decide +kernel⟩, List.mem_of_getElem? (i := 43) (by decide +kernel), List.mem_of_getElem? (i := 428) (by decide +kernel), List.mem_of_getElem? (i := 429) (by decide +kernel)⟩
theorem lw_p24 : lw_okq (⟨"ServiceDesk$Subjects", "madeInAll", "()I"⟩, 6) := ⟨⟨by decide +kernel, by decide +kernel⟩, List.mem_of_getElem? (i := 43) (by decide +kernel), List.mem_of_getElem? (i := 465) (by decide +kernel), List.mem_of_getElem? (i := 466) (by decide +kernel)⟩
theorem lw_p25 : lw_okq (⟨"ServiceDesk$Subjects", "openInAll", "()I"⟩, 6) := ⟨⟨by decide +kernel, by decide +kernel⟩, List.mem_of_getElem? (i := 43) (by decide +kernel), List.mem_of_getElem? (i := 469) (by decide +kernel), List.mem_of_getElem? (i := 470) (by decide +kernel)⟩
theorem lw_p26 : lw_okq (⟨"ServiceDeskModel", "reaches", "(II)Z"⟩, 17) := ⟨⟨by decide +kernel, by decide +kernel⟩, List.mem_of_getElem? (i := 475) (by decide +kernel), List.mem_of_getElem? (i := 548) (by decide +kernel), List.mem_of_getElem? (i := 549) (by decide +kernel)⟩
theorem lw_p27 : lw_okq (⟨"ServiceDeskModel", "throwing", "(ZZZZ)Z"⟩, 17) := ⟨⟨by decide +kernel, by decide +kernel⟩, List.mem_of_getElem? (i := 475) (by decide +kernel), List.mem_of_getElem? (i := 552) (by decide +kernel), List.mem_of_getElem? (i := 553) (by decide +kernel)⟩
theorem lw_p28 : lw_okq (⟨"ServiceDeskModel", "isSubject", "(II)Z"⟩, 17) := ⟨⟨by decide +kernel, by decide +kernel⟩, List.mem_of_getElem? (i := 475) (by decide +kernel), List.mem_of_getElem? (i := 560) (by decide +kernel), List.mem_of_getElem? (i := 561) (by decide +kernel)⟩
theorem lw_p29 : lw_okq (⟨"ServiceDeskModel", "refuses", "(IIII)Z"⟩, 17) := ⟨⟨by decide +kernel, by decide +kernel⟩, List.mem_of_getElem? (i := 475) (by decide +kernel), List.mem_of_getElem? (i := 572) (by decide +kernel), List.mem_of_getElem? (i := 573) (by decide +kernel)⟩
theorem lw_p30 : lw_okq (⟨"ServiceDeskModel", "tell", "(IIII)V"⟩, 17) := ⟨⟨by decide +kernel, by decide +kernel⟩, List.mem_of_getElem? (i := 475) (by decide +kernel), List.mem_of_getElem? (i := 578) (by decide +kernel), List.mem_of_getElem? (i := 579) (by decide +kernel)⟩
theorem lw_p31 : lw_okq (⟨"ServiceDeskModel", "workOut", "(IIII)J"⟩, 17) := ⟨⟨by decide +kernel, by decide +kernel⟩, List.mem_of_getElem? (i := 475) (by decide +kernel), List.mem_of_getElem? (i := 582) (by decide +kernel), List.mem_of_getElem? (i := 583) (by decide +kernel)⟩
def lw_privs_2 : List (MethodName × Nat) := [(⟨"ServiceDesk", "answerToClose", "(II)J"⟩, 6), (⟨"ServiceDesk", "openOnesUnder", "(II)I"⟩, 6), (⟨"ServiceDesk$Subjects", "openUnder", "(II)I"⟩, 6), (⟨"ServiceDesk$Subjects", "openOf", "(I)I"⟩, 6), (⟨"ServiceDesk", "carryOut", "(IIIJ)V"⟩, 6), (⟨"ServiceDesk", "setSum", "(IJ)V"⟩, 6), (⟨"ServiceDesk$Subjects", "lengthen", "(IJI)I"⟩, 6), (⟨"ServiceDesk$Subjects", "hasJust", "(IJI)Z"⟩, 6), (⟨"ServiceDesk$Subjects", "madeInAll", "()I"⟩, 6), (⟨"ServiceDesk$Subjects", "openInAll", "()I"⟩, 6), (⟨"ServiceDeskModel", "reaches", "(II)Z"⟩, 17), (⟨"ServiceDeskModel", "throwing", "(ZZZZ)Z"⟩, 17), (⟨"ServiceDeskModel", "isSubject", "(II)Z"⟩, 17), (⟨"ServiceDeskModel", "refuses", "(IIII)Z"⟩, 17), (⟨"ServiceDeskModel", "tell", "(IIII)V"⟩, 17), (⟨"ServiceDeskModel", "workOut", "(IIII)J"⟩, 17)]
theorem lw_r2 : ∀ q ∈ lw_privs_2, lw_okq q := List.forall_mem_cons.mpr ⟨lw_p16, List.forall_mem_cons.mpr ⟨lw_p17, List.forall_mem_cons.mpr ⟨lw_p18, List.forall_mem_cons.mpr ⟨lw_p19, List.forall_mem_cons.mpr ⟨lw_p20, List.forall_mem_cons.mpr ⟨lw_p21, List.forall_mem_cons.mpr ⟨lw_p22, List.forall_mem_cons.mpr ⟨lw_p23, List.forall_mem_cons.mpr ⟨lw_p24, List.forall_mem_cons.mpr ⟨lw_p25, List.forall_mem_cons.mpr ⟨lw_p26, List.forall_mem_cons.mpr ⟨lw_p27, List.forall_mem_cons.mpr ⟨lw_p28, List.forall_mem_cons.mpr ⟨lw_p29, List.forall_mem_cons.mpr ⟨lw_p30, List.forall_mem_cons.mpr ⟨lw_p31, fun _ h => absurd h List.not_mem_nil⟩⟩⟩⟩⟩⟩⟩⟩⟩⟩⟩⟩⟩⟩⟩⟩
theorem lw_p32 : lw_okq (⟨"ServiceDeskModel", "change", "(IJ)J"⟩, 17) := ⟨⟨by decide +kernel, by decide +kernel⟩, List.mem_of_getElem? (i := 475) (by decide +kernel), List.mem_of_getElem? (i := 586) (by decide +kernel), List.mem_of_getElem? (i := 587) (by decide +kernel)⟩
theorem lw_p33 : lw_okq (⟨"ServiceDeskModel", "openUnder", "(II)I"⟩, 17) := ⟨⟨by decide +kernel, by decide +kernel⟩, List.mem_of_getElem? (i := 475) (by decide +kernel), List.mem_of_getElem? (i := 600) (by decide +kernel), List.mem_of_getElem? (i := 601) (by decide +kernel)⟩
theorem lw_p34 : lw_okq (⟨"ServiceDeskModel", "openOf", "(I)I"⟩, 17) := ⟨⟨by decide +kernel, by decide +kernel⟩, List.mem_of_getElem? (i := 475) (by decide +kernel), List.mem_of_getElem? (i := 605) (by decide +kernel), List.mem_of_getElem? (i := 606) (by decide +kernel)⟩
def lw_privs_3 : List (MethodName × Nat) := [(⟨"ServiceDeskModel", "change", "(IJ)J"⟩, 17), (⟨"ServiceDeskModel", "openUnder", "(II)I"⟩, 17), (⟨"ServiceDeskModel", "openOf", "(I)I"⟩, 17)]
theorem lw_r3 : ∀ q ∈ lw_privs_3, lw_okq q := List.forall_mem_cons.mpr ⟨lw_p32, List.forall_mem_cons.mpr ⟨lw_p33, List.forall_mem_cons.mpr ⟨lw_p34, fun _ h => absurd h List.not_mem_nil⟩⟩⟩
def lw_privs : List (MethodName × Nat) := lw_privs_1 ++ (lw_privs_2 ++ (lw_privs_3))
def lw_tbl : List Cond := k2_sels lw_privs ++ tables_1
theorem lw_privs_ok : ∀ q ∈ lw_privs, lw_okq q := by
  show ∀ q ∈ lw_privs_1 ++ (lw_privs_2 ++ (lw_privs_3)), lw_okq q
  exact List.forall_mem_append.mpr ⟨lw_r1, List.forall_mem_append.mpr ⟨lw_r2, lw_r3⟩⟩
end
section
/-! ===== BEGIN words of one list among another's, by their places ===== -/
theorem goodIn_r {big : List Cond} (ws : List Cond) (ps : List Nat) (hp : ws = ps.filterMap (fun i => big[i]?)) (h : ws.all goodWord = true) : GoodIn big ws := by
  intro w hw
  have h1 := List.all_eq_true.mp h w hw
  rw [hp] at hw
  obtain ⟨i, -, hi⟩ := List.mem_filterMap.mp hw
  have hm : w ∈ big := by first | exact List.mem_of_getElem? hi | exact List.getElem?_mem hi
  exact ⟨hm, good_of_word h1⟩
theorem goodIn_app {big a b : List Cond} (ha : GoodIn big a) (hb : GoodIn big b) : GoodIn big (a ++ b) := fun w h => (List.mem_append.mp h).elim (ha w) (hb w)
theorem goodIn_ca {big a b : List Cond} {c : Cond} (ha : GoodIn big (c :: a)) (hb : GoodIn big b) : GoodIn big (c :: (a ++ b)) := fun w h => (List.mem_cons.mp h).elim (fun e => ha w (List.mem_cons.mpr (Or.inl e))) (fun h => (List.mem_append.mp h).elim (fun h => ha w (List.mem_cons.mpr (Or.inr h))) (hb w))
theorem goodIn_sub {big ws : List Cond} (hm : ∀ w ∈ ws, w ∈ big) (h : ws.all goodWord = true) : GoodIn big ws := fun w hw => ⟨hm w hw, good_of_word (List.all_eq_true.mp h w hw)⟩
/-! ===== END ===== -/

/-! ===== BEGIN exceptions that leave a method, and their catching by the caller (launches without stack traces) ===== -/
section VXA
/-! The laws vx_back, vx_callV, vx_callS, vx_callSW, vx_throw0, vx_throwS follow proofs of the library, with one case more: JvmDerived/Free/Laws.lean (Back.of_free), Shelf42/LK1.lean (callV, callS), Shelf/KitTraced.lean (throwNew0V, throwNewS). -/
/-- where a method has thrown q: the class by its name, the cell, what was written, the world -/
def vx_T (XC : String → State → State → Prop) (st : State) (q : Addr) (t : State) (mc ms : Nat) (free : Addr → Prop) : Prop :=
  ∃ (E : String) (ce : Cell) (L : List Loc), XC E st t ∧ t.heap[q]? = some ce ∧ ce.vm = .none ∧ st.vm.findClass E = some ce.cls ∧ st.WarmedH t.vm ∧ st.sameButNew ({ t with vm := st.vm } : State) L mc ms ∧ ∀ z ∈ L, free z.base
def vx_Q (Qc : Array Value → State → Outcome → State → Prop) (XC : String → State → State → Prop) (mc ms : Nat) (free : Addr → Prop) : Array Value → State → Outcome → State → Prop := fun a st o t =>
  (Qc a st o t ∧ ∃ L, FrameEnd st o t L mc ms ∧ ∀ q ∈ L, free q.base) ∨ ∃ q, o = .threw q ∧ vx_T XC st q t mc ms free
/-- a callee that returns or throws -/
def vx_Met (l : Launch) (y : MethodName) (ws : List Cond) (rm : Room) (Pc : Array Value → State → Prop) (Qc : Array Value → State → Outcome → State → Prop) (XC : String → State → State → Prop) (mc ms : Nat) (free : Addr → Prop) : Prop :=
  MetFree l y (headSpec ws rm) Pc (fun _ _ _ _ _ => True) (vx_Q Qc XC mc ms free)
def vx_Post (XC : String → State → State → Prop) (mc ms : Nat) (free : Addr → Prop) : Pt → Array Value → Addr → Pt → Prop := fun A a q B =>
  ∃ (g : JFrame) (mk : MethodId) (t : State) (L : List Loc) (E : String) (ce : Cell), B.U.heap = t.heap ∧ B.U.vm = t.vm ∧ XC E (A.U.calling g mk a) t ∧ t.heap[q]? = some ce ∧ ce.vm = .none ∧ A.U.vm.findClass E = some ce.cls ∧ B.locs = A.locs ++ L ∧ (∀ z ∈ L, free z.base) ∧ B.cells = A.cells + mc ∧ B.slots = A.slots + ms
def vx_Back (l : Launch) (R : Room) (p : Program) (e : Env) (below : List Frame) (s : State) (sargs : Array Value) (y : MethodName) (len W9 : Nat)
    (Pre : Pt → Array Value → Prop) (Post : Pt → Array Value → Option Value → Pt → Prop) (PostX : Pt → Array Value → Addr → Pt → Prop) : Prop :=
  ∀ (m : MethodId) (meth : Method) (c : Code) (A : Pt) (g : JFrame) (ig : Instr) (mk : MethodId) (a : Array Value),
    Stand p l e R s m sargs below meth c A.U A.locs A.cells A.slots → g.method = m → g.locals.size = c.maxLocals → decode c.code g.pc = .ok (ig, len) →
    2 * g.monitorRoom + (g.stack.map fun v => v.category).sum ≤ W9 → A.U.methodNamed? y = some mk → Pre A a →
    (∃ (v : Option Value) (B : Pt), Stand p l e R s m sargs below meth c B.U B.locs B.cells B.slots ∧ Post A a v B ∧
      Steps p.tables e below (doInvoke e (A.U.setTop g) [] mk a).1 (B.U.setTop { g with pc := g.pc + len, stack := v.toList ++ g.stack })) ∨
    (∃ (q : Addr) (B : Pt), Stand p l e R s m sargs below meth c B.U B.locs B.cells B.slots ∧ PostX A a q B ∧
      Steps p.tables e below (doInvoke e (A.U.setTop g) [] mk a).1 ((B.U.setTop g).pushFrame (.throwing q)))
section Payer
variable {l : Launch} {R : Room} {p : Program} {e : Env} {below : List Frame} {s : State} {sargs : Array Value} {y : MethodName} {len W9 : Nat}
theorem vx_back {ws : List Cond} {rm : Room} {Pc : Array Value → State → Prop} {Qc : Array Value → State → Outcome → State → Prop} {XC : String → State → State → Prop} {mc ms : Nat} {free : Addr → Prop} {bytes : ByteArray} {maxL : Nat} {ret : Option FieldType}
    (hM : vx_Met l y ws rm Pc Qc XC mc ms free) (hblind : FrameBlind Pc) (hrc : rm.cells = mc) (hrs : rm.slots = ms)
    (hframes : rm.frames + 1 ≤ R.frames) (hlocals : W9 + (maxL + 11) + rm.locals ≤ R.locals)
    (hws : ∀ w ∈ ws, ∀ a' U, s.WarmedH U.vm → w.before a' U = true) (hcode : Cond.code y bytes maxL ret ∈ ws) (hinit : ∀ a' U, s.WarmedH U.vm → (Cond.initialized y.cls).before a' U = true) :
    vx_Back l R p e below s sargs y len W9 (PreOf R mc ms Pc) (PostOf Qc mc ms free) (vx_Post XC mc ms free) := by
  intro m meth c A g ig mk a X hg hsize hdg hW hn hp
  have h1 : (headSpec ws rm).pre.before a A.U = true := atoms_intro fun w hw => hws w hw _ _ X.warmed
  have h2 : (Cond.code y bytes maxL ret).before a A.U = true := hws _ hcode _ _ X.warmed
  have h3 : (Cond.initialized y.cls).before a A.U = true := hinit _ _ X.warmed
  have h4 : A.cells + (headSpec ws rm).room.cells ≤ R.cells := by rw [show (headSpec ws rm).room.cells = mc from hrc]; exact hp.1
  have h5 : A.slots + (headSpec ws rm).room.slots ≤ R.slots := by rw [show (headSpec ws rm).room.slots = ms from hrs]; exact hp.2.1
  have hPc : Pc a (A.U.calling g mk a) := hblind _ _ _ _ hp.2.2
  obtain ⟨U, Ls, c0, s0⟩ := A
  dsimp only [Pt.U, Pt.locs, Pt.cells, Pt.slots] at h1 h2 h3 h4 h5 X hn hPc ⊢
  obtain ⟨methY, cY, hmY, hcY, -, hlY, -, -, -, -⟩ := Cond.code_spec hn h2
  obtain ⟨kY, hkY, -⟩ := className_of_methodNamed hn
  have hinitY : kY.init = .initialized := Cond.initialized_spec (findClass_of_methodNamed hn) hkY h3
  have h : At U g.method c below := by rw [hg]; exact X.here
  have hlocals9 : W9 + (maxL + 11) + (headSpec ws rm).room.locals ≤ R.locals := hlocals
  have happ : (headSpec ws rm).appliesLoose y e.platform (U.calling g mk a) = true :=
    Spec.appliesLoose_calling (g := g) h hdg hn hkY hinitY
      (X.room_calling (g := g) (R' := (headSpec ws rm).room) hsize hmY hcY hframes (by rw [hlY]; omega) h4 h5) h1
  obtain ⟨mid, hmid⟩ := h.above
  have hfr : (U.setTop g).frames = (.java g :: mid) ++ below := by rw [State.frames_setTop' g h.top, hmid]; rfl
  obtain ⟨o, s₂, hsteps, -, hend, hq⟩ := Steps.callFree hM p X.admits X.cas X.clock (acts := []) hfr happ hPc trivial
  have hq' : vx_Q Qc XC mc ms free a (U.calling g mk a) o s₂ := hq
  rw [State.frames_setTop' g h.top] at hend
  obtain ⟨g₀, hg0⟩ := Option.isSome_iff_exists.mp h.top
  obtain ⟨r, hr⟩ := State.topJava?_eq_some.mp hg0
  have hr' : (({ U with heap := s₂.heap, slotsUsed := s₂.slotsUsed } : State).setVm s₂.vm).frames = .java g₀ :: r := hr
  rcases hq' with ⟨hqc, L, hfe, hL⟩ | ⟨q, rfl, E, ce, L, hx, hce, hcv, hcl, hW₂, hsm, hL⟩
  · obtain ⟨⟨v, rfl⟩, hW₂, e2, q2, q3, q4, q5, q6⟩ := id hfe
    have e3 : s₂ = ({ (U.calling g mk a).setFrames s₂.frames with heap := s₂.heap, slotsUsed := s₂.slotsUsed } : State).setVm s₂.vm := by
      have : s₂ = ({ s₂ with vm := (U.calling g mk a).vm } : State).setVm s₂.vm := rfl
      rw [e2] at this
      exact this
    obtain ⟨c₂, i₂, len₂, hc₂, hd₂, hf₂⟩ := hend
    have hW' : U.WarmedH s₂.vm := hW₂
    have hcc : c₂ = c := by
      have h1 : s₂.code? g.method = U.code? g.method := by
        rw [State.code?_eq, State.code?_eq, hW'.alike.method?]
      exact Option.some.inj (hc₂.symm.trans (h1.trans h.code))
    subst hcc
    have hlen : len₂ = len := by rw [hdg] at hd₂; cases hd₂; rfl
    subst hlen
    have hs₂ : s₂ = (({ U with heap := s₂.heap, slotsUsed := s₂.slotsUsed } : State).setVm s₂.vm).setTop { g with pc := g.pc + len₂, stack := v.toList ++ g.stack } := by
      refine e3.trans ?_
      rw [hf₂, State.calling_eq h.top, State.setFrames_setFrames, State.setTop_of_frames _ hr', hr]
      rfl
    have hsame : U.sameButNew ({ U with heap := s₂.heap, slotsUsed := s₂.slotsUsed } : State) L mc ms := by
      refine ⟨?_, q2, q3, q4, q5, q6⟩
      obtain ⟨t, ht, -⟩ := State.frames_cons hr
      show ({ U with heap := s₂.heap, slotsUsed := s₂.slotsUsed } : State) = { U.setFrames U.frames with heap := s₂.heap, slotsUsed := s₂.slotsUsed }
      rw [State.setFrames_self ht]
    subst hg
    refine Or.inl ⟨v, ⟨(({ U with heap := s₂.heap, slotsUsed := s₂.slotsUsed } : State).setVm s₂.vm), Ls ++ L, c0 + mc, s0 + ms⟩,
      ⟨X.admits, X.cas, X.clock, X.frames, X.room, X.hears, X.method, X.code, (X.here.setHeapUsed s₂.heap s₂.slotsUsed).setVm hW'.alike, X.tail, State.WarmedH.trans X.warmed hW', X.limits, X.bytes, X.same.trans (hsame.setVm s.vm)⟩,
      ⟨g, mk, s₂, L, rfl, rfl, hqc, rfl, hL, rfl, rfl⟩, ?_⟩
    show Steps p.tables e below _ ((({ U with heap := s₂.heap, slotsUsed := s₂.slotsUsed } : State).setVm s₂.vm).setTop { g with pc := g.pc + len₂, stack := v.toList ++ g.stack })
    rw [← hs₂]
    exact hsteps
  · obtain ⟨e2, q2, q3, q4, q5, q6⟩ := id hsm
    have e3 : s₂ = ({ (U.calling g mk a).setFrames s₂.frames with heap := s₂.heap, slotsUsed := s₂.slotsUsed } : State).setVm s₂.vm := by
      have : s₂ = ({ s₂ with vm := (U.calling g mk a).vm } : State).setVm s₂.vm := rfl
      rw [e2] at this
      exact this
    have hf₂ : s₂.frames = .throwing q :: .java g :: U.frames.tail := hend
    have hW' : U.WarmedH s₂.vm := hW₂
    have hs₂ : s₂ = ((({ U with heap := s₂.heap, slotsUsed := s₂.slotsUsed } : State).setVm s₂.vm).setTop g).pushFrame (.throwing q) := by
      refine e3.trans ?_
      rw [hf₂, State.calling_eq h.top, State.setFrames_setFrames, State.pushFrame, State.frames_setTop _ hr', State.setTop_of_frames _ hr', State.setFrames_setFrames, hr]
      rfl
    have hsame : U.sameButNew ({ U with heap := s₂.heap, slotsUsed := s₂.slotsUsed } : State) L mc ms := by
      refine ⟨?_, q2, q3, q4, q5, q6⟩
      obtain ⟨t, ht, -⟩ := State.frames_cons hr
      show ({ U with heap := s₂.heap, slotsUsed := s₂.slotsUsed } : State) = { U.setFrames U.frames with heap := s₂.heap, slotsUsed := s₂.slotsUsed }
      rw [State.setFrames_self ht]
    subst hg
    refine Or.inr ⟨q, ⟨(({ U with heap := s₂.heap, slotsUsed := s₂.slotsUsed } : State).setVm s₂.vm), Ls ++ L, c0 + mc, s0 + ms⟩,
      ⟨X.admits, X.cas, X.clock, X.frames, X.room, X.hears, X.method, X.code, (X.here.setHeapUsed s₂.heap s₂.slotsUsed).setVm hW'.alike, X.tail, State.WarmedH.trans X.warmed hW', X.limits, X.bytes, X.same.trans (hsame.setVm s.vm)⟩,
      ⟨g, mk, s₂, L, E, ce, rfl, rfl, hx, hce, hcv, hcl, rfl, hL, rfl, rfl⟩, ?_⟩
    show Steps p.tables e below _ (((({ U with heap := s₂.heap, slotsUsed := s₂.slotsUsed } : State).setVm s₂.vm).setTop g).pushFrame (.throwing q))
    rw [← hs₂]
    exact hsteps
end Payer
section Calls
variable {p : Program} {l : Launch} {e : Env} {R : Room} {s : State} {m : MethodId} {args : Array Value} {below : List Frame} {meth : Method} {c : Code} {T : State} {locs : List Loc} {cells slots : Nat}
theorem vx_callV (X : Stand p l e R s m args below meth c T locs cells slots) (hexec : p.tables.exec = Jvm.exec) {own C : String} {index : Nat} {y : MethodName} {bytes : ByteArray} {maxL : Nat} {ret : Option FieldType}
    (hown : s.vm.findClass own = some m.cls) (hlink : (Cond.methodLink own index y).before args s = true) (hinst : (Cond.instanceMethod y).before args s = true) (hsel : (Cond.selects C y y).before args s = true)
    (hcode : (Cond.code y bytes maxL ret).before args s = true) (hy : y.cls ≠ "java/lang/invoke/MethodHandle" ∧ y.cls ≠ "java/lang/invoke/VarHandle")
    {W9 : Nat} {Pre : Pt → Array Value → Prop} {Post : Pt → Array Value → Option Value → Pt → Prop} {PostX : Pt → Array Value → Addr → Pt → Prop} (hK : vx_Back l R p e below s args y 3 W9 Pre Post PostX)
    {b : Addr} {cellB : Cell} (hcell : T.heap[b]? = some cellB) (hobj : cellB.vm.isStatics = false) (hcls : s.vm.findClass C = some cellB.cls)
    {g : JFrame} (hg : g.method = m) (hsize : g.locals.size = c.maxLocals) {argsL rest : List Value} (hlen : ∀ sig, parseMethodDescriptor y.desc = some sig → argsL.length = sig.parameters.length)
    (hstack : g.stack = argsL.reverse ++ .ref b :: rest) (hW : 2 * g.monitorRoom + (rest.map fun v => v.category).sum ≤ W9) (hdg : decode c.code g.pc = .ok (.invokevirtual index, 3))
    (hpre : ∀ vm₁, s.WarmedH vm₁ → Pre ⟨T.setVm vm₁, locs, cells, slots⟩ (Value.ref b :: argsL).toArray) :
    (∃ (v : Option Value) (vm₁ : Vm) (B : Pt), s.WarmedH vm₁ ∧ Stand p l e R s m args below meth c B.U B.locs B.cells B.slots ∧ Post ⟨T.setVm vm₁, locs, cells, slots⟩ (Value.ref b :: argsL).toArray v B ∧
      ∀ target, Steps p.tables e below (B.U.setTop { g with pc := g.pc + 3, stack := v.toList ++ rest }) target → Steps p.tables e below (T.setTop g) target) ∨
    (∃ (q : Addr) (vm₁ : Vm) (B : Pt), s.WarmedH vm₁ ∧ Stand p l e R s m args below meth c B.U B.locs B.cells B.slots ∧ PostX ⟨T.setVm vm₁, locs, cells, slots⟩ (Value.ref b :: argsL).toArray q B ∧
      Steps p.tables e below (T.setTop g) ((B.U.setTop { g with stack := rest }).pushFrame (.throwing q))) := by
  obtain ⟨mk, methM, hnamed, hmethM, hstM, habM⟩ := Cond.instanceMethod_spec hinst
  obtain ⟨methM', cM, hmethM', -, -, -, -, -, -, hsigM⟩ := Cond.code_spec hnamed hcode
  cases hmethM.symm.trans hmethM'
  obtain ⟨c2, r2, m2, q1, q2, q3, q4, kP, hkP, hkPi⟩ := Cond.selects_spec hsel
  cases hcls.symm.trans q1
  cases (State.methodFound?_of_named hnamed hy).symm.trans q2
  cases hnamed.symm.trans q3
  have hselP : selectMethod e.platform s.vm cellB.cls mk = .method mk := by rw [Launch.admits_selectMethod X.admits]; exact q4
  obtain ⟨vm₁, X₁, hstep₁⟩ := X.invokevirtual hexec hown hlink hnamed hmethM hstM hkP hkPi hy (a := b) (cell := cellB) hcell
    (fun z h => by rw [h] at hobj; cases hobj) hselP hmethM habM hkP hkPi (g := g) hg (argsL := argsL) (rest := rest) (hlen _ hsigM) hstack hdg
  rcases hK m meth c ⟨T.setVm vm₁, locs, cells, slots⟩ { g with stack := rest } (.invokevirtual index) mk (Value.ref b :: argsL).toArray X₁ hg hsize hdg hW (X₁.named hnamed) (hpre vm₁ X₁.warmed) with ⟨v, B, X', hpost, hsteps⟩ | ⟨q, B, X', hpost, hsteps⟩
  · exact Or.inl ⟨v, vm₁, B, X₁.warmed, X', hpost, fun target h => hstep₁ _ fun acts => by rw [doInvoke_state]; exact hsteps.trans h⟩
  · exact Or.inr ⟨q, vm₁, B, X₁.warmed, X', hpost, hstep₁ _ fun acts => by rw [doInvoke_state]; exact hsteps⟩
theorem vx_callS (X : Stand p l e R s m args below meth c T locs cells slots) (hexec : p.tables.exec = Jvm.exec) {own : String} {index : Nat} {y : MethodName} {bytes : ByteArray} {maxL : Nat} {ret : Option FieldType}
    (hown : s.vm.findClass own = some m.cls) (hlink : (Cond.methodLink own index y).before args s = true) (hstat : (Cond.static y).before args s = true) (hinit : (Cond.initialized y.cls).before args s = true)
    (hcode : (Cond.code y bytes maxL ret).before args s = true) (hy : y.cls ≠ "java/lang/invoke/MethodHandle" ∧ y.cls ≠ "java/lang/invoke/VarHandle")
    {W9 : Nat} {Pre : Pt → Array Value → Prop} {Post : Pt → Array Value → Option Value → Pt → Prop} {PostX : Pt → Array Value → Addr → Pt → Prop} (hK : vx_Back l R p e below s args y 3 W9 Pre Post PostX)
    {g : JFrame} (hg : g.method = m) (hsize : g.locals.size = c.maxLocals) {argsL rest : List Value} (hlen : ∀ sig, parseMethodDescriptor y.desc = some sig → argsL.length = sig.parameters.length)
    (hstack : g.stack = argsL.reverse ++ rest) (hW : 2 * g.monitorRoom + (rest.map fun v => v.category).sum ≤ W9) (hdg : decode c.code g.pc = .ok (.invokestatic index, 3))
    (hpre : ∀ vm₁, s.WarmedH vm₁ → Pre ⟨T.setVm vm₁, locs, cells, slots⟩ argsL.toArray) :
    (∃ (v : Option Value) (vm₁ : Vm) (B : Pt), s.WarmedH vm₁ ∧ Stand p l e R s m args below meth c B.U B.locs B.cells B.slots ∧ Post ⟨T.setVm vm₁, locs, cells, slots⟩ argsL.toArray v B ∧
      ∀ target, Steps p.tables e below (B.U.setTop { g with pc := g.pc + 3, stack := v.toList ++ rest }) target → Steps p.tables e below (T.setTop g) target) ∨
    (∃ (q : Addr) (vm₁ : Vm) (B : Pt), s.WarmedH vm₁ ∧ Stand p l e R s m args below meth c B.U B.locs B.cells B.slots ∧ PostX ⟨T.setVm vm₁, locs, cells, slots⟩ argsL.toArray q B ∧
      Steps p.tables e below (T.setTop g) ((B.U.setTop { g with stack := rest }).pushFrame (.throwing q))) := by
  obtain ⟨mk, hnamed⟩ := Cond.code_named hcode
  obtain ⟨methM, cM, hmethM, -, -, -, -, -, -, hsigM⟩ := Cond.code_spec hnamed hcode
  have hstatic : methM.isStatic = true := Cond.static_spec hnamed hmethM hstat
  obtain ⟨kP, hkP, -⟩ := className_of_methodNamed hnamed
  have hinitP : kP.init = .initialized := Cond.initialized_spec (findClass_of_methodNamed hnamed) hkP hinit
  obtain ⟨vm₁, X₁, hstep₁⟩ := X.invokestatic hexec hown hlink hnamed hmethM hstatic hkP hinitP hy (g := g) hg (argsL := argsL) (rest := rest) (hlen _ hsigM) hstack hdg
  rcases hK m meth c ⟨T.setVm vm₁, locs, cells, slots⟩ { g with stack := rest } (.invokestatic index) mk argsL.toArray X₁ hg hsize hdg hW (X₁.named hnamed) (hpre vm₁ X₁.warmed) with ⟨v, B, X', hpost, hsteps⟩ | ⟨q, B, X', hpost, hsteps⟩
  · exact Or.inl ⟨v, vm₁, B, X₁.warmed, X', hpost, fun target h => hstep₁ _ fun acts => by rw [doInvoke_state]; exact hsteps.trans h⟩
  · exact Or.inr ⟨q, vm₁, B, X₁.warmed, X', hpost, hstep₁ _ fun acts => by rw [doInvoke_state]; exact hsteps⟩
end Calls
theorem vx_cls {s : State} {T : State} {vm₁ : Vm} {E : String} {k : ClassId} (hW : s.WarmedH vm₁) (h : (T.setVm vm₁).vm.findClass E = some k) : s.vm.findClass E = some k := by
  have h1 : vm₁.findClass E = some k := h
  rw [hW.alike.findClass] at h1
  exact h1
/-- the method's frame g, with q thrown over it -/
def vx_W (p : Program) (l : Launch) (e : Env) (R : Room) (s : State) (m : MethodId) (args : Array Value) (below : List Frame) (meth : Method) (c : Code) (H : Heap) (locs : List Loc) (cells slots : Nat) (Q : State → Prop) (g : JFrame) (q : Addr) : Prop :=
  ∀ T : State, T.heap = H → Stand p l e R s m args below meth c T locs cells slots → ∃ t, Steps p.tables e below ((T.setTop g).pushFrame (.throwing q)) t ∧ Q t
def vx_Run (p : Program) (l : Launch) (e : Env) (R : Room) (s : State) (m : MethodId) (args : Array Value) (below : List Frame) (meth : Method) (c : Code) (H : Heap) (locs : List Loc) (cells slots mc ms : Nat) (g : JFrame) (rest : List Value) (Qa : State → Outcome → State → Prop) (XC : String → State → State → Prop) (free : Addr → Prop) : Prop :=
  ∀ T : State, T.heap = H → Stand p l e R s m args below meth c T locs cells slots →
    (∃ (v : Option Value) (st₀ t T' : State) (L : List Loc), st₀.heap = H ∧ Stand p l e R s m args below meth c T' (locs ++ L) (cells + mc) (slots + ms) ∧ (∀ q ∈ L, free q.base) ∧ T'.heap = t.heap ∧ T'.vm = t.vm ∧ Qa st₀ (.returned v) t ∧
      Goes p e below T g T' { g with pc := g.pc + 3, stack := v.toList ++ rest }) ∨
    (∃ (q : Addr) (st₀ t T' : State) (L : List Loc) (E : String) (ce : Cell), st₀.heap = H ∧ Stand p l e R s m args below meth c T' (locs ++ L) (cells + mc) (slots + ms) ∧ (∀ z ∈ L, free z.base) ∧ T'.heap = t.heap ∧ T'.vm = t.vm ∧ XC E st₀ t ∧ t.heap[q]? = some ce ∧ ce.vm = .none ∧ s.vm.findClass E = some ce.cls ∧
      Steps p.tables e below (T.setTop g) ((T'.setTop { g with stack := rest }).pushFrame (.throwing q)))
def vx_X {S : Type} (px : S → Prop) (B : String → S → State → Prop) (A : Nat → Prop) : String → State → State → Prop := fun E st t => ∃ u : S, px u ∧ B E u t ∧ va_F A st t
section Runs
variable {p : Program} {l : Launch} {e : Env} {R : Room} {s : State} {m : MethodId} {args : Array Value} {below : List Frame} {meth : Method} {c : Code} {H : Heap} {locs : List Loc} {cells slots : Nat}
variable {y : MethodName} {bytes cc : ByteArray} {maxL nL mc ms n index : Nat} {ret : Option FieldType} {ws : List Cond} {rm : Room} {Pc : Array Value → State → Prop} {Qc : Array Value → State → Outcome → State → Prop} {XC : String → State → State → Prop} {free : Addr → Prop} {Ts : List Cond} {own C : String} {b : Addr} {As rest : List Value} {g : JFrame}
theorem vx_callBack (cb : CallB R s args own index y bytes maxL ret ws rm mc ms n) (hM : vx_Met l y ws rm Pc Qc XC mc ms free) (hbl : FrameBlind Pc) : vx_Back l R p e below s args y 3 8 (PreOf R mc ms Pc) (PostOf Qc mc ms free) (vx_Post XC mc ms free) := by
  obtain ⟨hrc, hrs, hfr, hlo, hws, hcw, -, hini, -⟩ := cb
  exact vx_back (bytes := bytes) (maxL := maxL) (ret := ret) hM hbl hrc hrs hfr hlo hws hcw (fun a' U hW => word_at hW (Or.inl (by first | rfl | simp [Cond.onTables, Cond.keeps, Cond.steady])) hini)
theorem vx_runV (S : CallFix p m c cc nL s args Ts own) (hM : vx_Met l y ws rm Pc Qc XC mc ms free) (cw : CallW R s args own C index y bytes maxL ret ws rm mc ms n) (hp : PreV s H C b Pc As)
    (hg : g.method = m) (hn : As.length = n) (hsize : g.locals.size = nL) (hstack : g.stack = As.reverse ++ .ref b :: rest) (hW : 2 * g.monitorRoom + (rest.map fun v => v.category).sum ≤ 8) (hdg : decode cc g.pc = .ok (.invokevirtual index, 3)) (hf : cells + mc ≤ R.cells ∧ slots + ms ≤ R.slots) :
    vx_Run p l e R s m args below meth c H locs cells slots mc ms g rest (Qc (Value.ref b :: As).toArray) XC free := by
  have hK : vx_Back l R p e below s args y 3 8 (PreOf R mc ms Pc) (PostOf Qc mc ms free) (vx_Post XC mc ms free) := vx_callBack cw.1 hM hp.1
  obtain ⟨⟨-, -, -, -, -, -, hcode, -, hy, hlen, hl⟩, hin, hse⟩ := cw
  obtain ⟨hx, hb, hml, ho, -⟩ := S
  obtain ⟨-, ⟨cellB, hcB, hoB, hclB⟩, hPc⟩ := hp
  intro T hT X
  rcases vx_callV X hx (C := C) (bytes := bytes) (maxL := maxL) (ret := ret) ho hl hin hse hcode hy hK (by rw [hT]; exact hcB) hoB hclB hg (hsize.trans hml.symm) (argsL := As) (rest := rest) (fun sig h => hn.trans (hlen sig h)) hstack hW (by rw [hb]; exact hdg)
    (fun vm₁ hW₁ => ⟨hf.1, hf.2, hPc (T.setVm vm₁) hT hW₁⟩) with ⟨v, vm₁, ⟨U', l2, c2, s2⟩, hW₁, X', ⟨g', mk, t, L, e1, e2, hq, h1, hL, h2, h3⟩, st⟩ | ⟨q, vm₁, ⟨U', l2, c2, s2⟩, hW₁, X', ⟨g', mk, t, L, E, ce, e1, e2, hq, hce, hcv, hcl, h1, hL, h2, h3⟩, st⟩
  · dsimp only [Pt.U, Pt.locs, Pt.cells, Pt.slots] at X' e1 e2 h1 h2 h3 st
    subst h1; subst h2; subst h3
    exact Or.inl ⟨v, (T.setVm vm₁).calling g' mk (Value.ref b :: As).toArray, t, U', L, hT, X', hL, e1, e2, hq, st⟩
  · dsimp only [Pt.U, Pt.locs, Pt.cells, Pt.slots] at X' e1 e2 h1 h2 h3 st hcl
    subst h1; subst h2; subst h3
    exact Or.inr ⟨q, (T.setVm vm₁).calling g' mk (Value.ref b :: As).toArray, t, U', L, E, ce, hT, X', hL, e1, e2, hq, hce, hcv, vx_cls hW₁ hcl, st⟩
theorem vx_runS (S : CallFix p m c cc nL s args Ts own) (hM : vx_Met l y ws rm Pc Qc XC mc ms free) (cw : CallB R s args own index y bytes maxL ret ws rm mc ms n ∧ (Cond.static y).before args s = true) (hp : PreS s H Pc As)
    (hg : g.method = m) (hn : As.length = n) (hsize : g.locals.size = nL) (hstack : g.stack = As.reverse ++ rest) (hW : 2 * g.monitorRoom + (rest.map fun v => v.category).sum ≤ 8) (hdg : decode cc g.pc = .ok (.invokestatic index, 3)) (hf : cells + mc ≤ R.cells ∧ slots + ms ≤ R.slots) :
    vx_Run p l e R s m args below meth c H locs cells slots mc ms g rest (Qc As.toArray) XC free := by
  have hK : vx_Back l R p e below s args y 3 8 (PreOf R mc ms Pc) (PostOf Qc mc ms free) (vx_Post XC mc ms free) := vx_callBack cw.1 hM hp.1
  obtain ⟨⟨-, -, -, -, -, -, hcode, hini, hy, hlen, hl⟩, hstt⟩ := cw
  obtain ⟨hx, hb, hml, ho, -⟩ := S
  intro T hT X
  rcases vx_callS X hx (bytes := bytes) (maxL := maxL) (ret := ret) ho hl hstt hini hcode hy hK hg (hsize.trans hml.symm) (argsL := As) (rest := rest) (fun sig h => hn.trans (hlen sig h)) hstack hW (by rw [hb]; exact hdg)
    (fun vm₁ hW₁ => ⟨hf.1, hf.2, hp.2 (T.setVm vm₁) hT hW₁⟩) with ⟨v, vm₁, ⟨U', l2, c2, s2⟩, hW₁, X', ⟨g', mk, t, L, e1, e2, hq, h1, hL, h2, h3⟩, st⟩ | ⟨q, vm₁, ⟨U', l2, c2, s2⟩, hW₁, X', ⟨g', mk, t, L, E, ce, e1, e2, hq, hce, hcv, hcl, h1, hL, h2, h3⟩, st⟩
  · dsimp only [Pt.U, Pt.locs, Pt.cells, Pt.slots] at X' e1 e2 h1 h2 h3 st
    subst h1; subst h2; subst h3
    exact Or.inl ⟨v, (T.setVm vm₁).calling g' mk As.toArray, t, U', L, hT, X', hL, e1, e2, hq, st⟩
  · dsimp only [Pt.U, Pt.locs, Pt.cells, Pt.slots] at X' e1 e2 h1 h2 h3 st hcl
    subst h1; subst h2; subst h3
    exact Or.inr ⟨q, (T.setVm vm₁).calling g' mk As.toArray, t, U', L, E, ce, hT, X', hL, e1, e2, hq, hce, hcv, vx_cls hW₁ hcl, st⟩
end Runs
section Rows
variable {p : Program} {l : Launch} {e : Env} {R : Room} {s : State} {m : MethodId} {args : Array Value} {below : List Frame} {meth : Method} {c : Code} {H : Heap} {locs : List Loc} {cells slots : Nat} {Q : State → Prop}
variable {mc ms : Nat} {free : Addr → Prop} {A0 A1 : Nat → Prop} {H0 : Heap} {a : Array Value} {pc : Nat} {ls : Array Slot} {st0 rest : List Value}
theorem vx_keep {st₀ t T' : State} {L : List Loc} (h0 : st₀.heap = H) (e1 : T'.heap = t.heap) (hS : va_S A0 H0 H locs) (hA : ∀ q, q < H.size → A1 q → A0 q) (hf : ∀ q, free q → A0 q) (hL : ∀ q ∈ L, free q.base) (hF : va_F A1 st₀ t) :
    H.size ≤ T'.heap.size ∧ (∀ q : Nat, q < H.size → ¬ A1 q → T'.heap[q]? = H[q]?) ∧ va_S A0 H0 T'.heap (locs ++ L) := by
  obtain ⟨hz, hk⟩ := hF
  rw [h0] at hz hk
  exact ⟨by rw [e1]; exact hz, fun q h1 h2 => by rw [e1]; exact hk q h1 h2,
    ⟨Nat.le_trans hS.1 (by rw [e1]; exact hz), fun q h1 h2 => by rw [e1, hk q (Nat.lt_of_lt_of_le h1 hS.1) (fun z => h2 (hA q (Nat.lt_of_lt_of_le h1 hS.1) z))]; exact hS.2.1 q h1 h2, fun q hq => by
      rcases List.mem_append.mp hq with h | h
      · exact hS.2.2 q h
      · exact hf _ (hL q h)⟩⟩
theorem vx_calli {S SX : Type} {post : Int32 → S → Prop} {px : SX → Prop} {B : S → State → Prop} {BX : String → SX → State → Prop} {AX : Nat → Prop} (hr : vx_Run p l e R s m args below meth c H locs cells slots mc ms (F0 m pc ls st0) rest (va_Qi post B A1 a) (vx_X px BX AX) free) (hS : va_S A0 H0 H locs) (hA : ∀ q, q < H.size → A1 q → A0 q) (hf : ∀ q, free q → A0 q) (hAX : ∀ q, q < H.size → AX q → A0 q)
    (kx : ∀ (E : String) (ce : Cell) (q9 : Addr) (u : SX) (t : State) (H1 : Heap) (locs1 : List Loc), t.heap = H1 → s.vm.Alike t.vm → px u → BX E u t → H.size ≤ H1.size → (∀ q : Nat, q < H.size → ¬ AX q → H1[q]? = H[q]?) → va_S A0 H0 H1 locs1 → H1[q9]? = some ce → ce.vm = .none → s.vm.findClass E = some ce.cls → vx_W p l e R s m args below meth c H1 locs1 (cells + mc) (slots + ms) Q (F0 m pc ls rest) q9)
    (kk : ∀ (r : Int32) (u : S) (t : State) (H1 : Heap) (locs1 : List Loc), t.heap = H1 → s.vm.Alike t.vm → post r u → B u t → H.size ≤ H1.size → (∀ q : Nat, q < H.size → ¬ A1 q → H1[q]? = H[q]?) → va_S A0 H0 H1 locs1 → W p l e R s m args below meth c H1 locs1 (cells + mc) (slots + ms) Q (F0 m (pc + 3) ls (.int r :: rest))) : W p l e R s m args below meth c H locs cells slots Q (F0 m pc ls st0) := by
  intro T hT X
  rcases hr T hT X with ⟨v, st₀, t, T', L, h0, X', hL, e1, e2, ⟨⟨r, u, hv, hp, hb⟩, hF⟩, st⟩ | ⟨q, st₀, t, T', L, E, ce, h0, X', hL, e1, e2, ⟨u, hp, hb, hF⟩, hce, hcv, hcl, st⟩
  · cases hv
    obtain ⟨k1, k2, k3⟩ := vx_keep h0 e1 hS hA hf hL hF
    obtain ⟨t2, a1, b1⟩ := kk r u t T'.heap (locs ++ L) e1.symm (by rw [← e2]; exact X'.warmed.alike) hp hb k1 k2 k3 T' rfl X'
    exact ⟨t2, st t2 a1, b1⟩
  · obtain ⟨k1, k2, k3⟩ := vx_keep h0 e1 hS hAX hf hL hF
    obtain ⟨t2, a1, b1⟩ := kx E ce q u t T'.heap (locs ++ L) e1.symm (by rw [← e2]; exact X'.warmed.alike) hp hb k1 k2 k3 (by rw [e1]; exact hce) hcv hcl T' rfl X'
    exact ⟨t2, st.trans a1, b1⟩
theorem vx_calll {S SX : Type} {post : Int64 → S → Prop} {px : SX → Prop} {B : S → State → Prop} {BX : String → SX → State → Prop} {AX : Nat → Prop} (hr : vx_Run p l e R s m args below meth c H locs cells slots mc ms (F0 m pc ls st0) rest (va_Ql post B A1 a) (vx_X px BX AX) free) (hS : va_S A0 H0 H locs) (hA : ∀ q, q < H.size → A1 q → A0 q) (hf : ∀ q, free q → A0 q) (hAX : ∀ q, q < H.size → AX q → A0 q)
    (kx : ∀ (E : String) (ce : Cell) (q9 : Addr) (u : SX) (t : State) (H1 : Heap) (locs1 : List Loc), t.heap = H1 → s.vm.Alike t.vm → px u → BX E u t → H.size ≤ H1.size → (∀ q : Nat, q < H.size → ¬ AX q → H1[q]? = H[q]?) → va_S A0 H0 H1 locs1 → H1[q9]? = some ce → ce.vm = .none → s.vm.findClass E = some ce.cls → vx_W p l e R s m args below meth c H1 locs1 (cells + mc) (slots + ms) Q (F0 m pc ls rest) q9)
    (kk : ∀ (r : Int64) (u : S) (t : State) (H1 : Heap) (locs1 : List Loc), t.heap = H1 → s.vm.Alike t.vm → post r u → B u t → H.size ≤ H1.size → (∀ q : Nat, q < H.size → ¬ A1 q → H1[q]? = H[q]?) → va_S A0 H0 H1 locs1 → W p l e R s m args below meth c H1 locs1 (cells + mc) (slots + ms) Q (F0 m (pc + 3) ls (.long r :: rest))) : W p l e R s m args below meth c H locs cells slots Q (F0 m pc ls st0) := by
  intro T hT X
  rcases hr T hT X with ⟨v, st₀, t, T', L, h0, X', hL, e1, e2, ⟨⟨r, u, hv, hp, hb⟩, hF⟩, st⟩ | ⟨q, st₀, t, T', L, E, ce, h0, X', hL, e1, e2, ⟨u, hp, hb, hF⟩, hce, hcv, hcl, st⟩
  · cases hv
    obtain ⟨k1, k2, k3⟩ := vx_keep h0 e1 hS hA hf hL hF
    obtain ⟨t2, a1, b1⟩ := kk r u t T'.heap (locs ++ L) e1.symm (by rw [← e2]; exact X'.warmed.alike) hp hb k1 k2 k3 T' rfl X'
    exact ⟨t2, st t2 a1, b1⟩
  · obtain ⟨k1, k2, k3⟩ := vx_keep h0 e1 hS hAX hf hL hF
    obtain ⟨t2, a1, b1⟩ := kx E ce q u t T'.heap (locs ++ L) e1.symm (by rw [← e2]; exact X'.warmed.alike) hp hb k1 k2 k3 (by rw [e1]; exact hce) hcv hcl T' rfl X'
    exact ⟨t2, st.trans a1, b1⟩
theorem vx_callf {S SX : Type} {post : UInt32 → S → Prop} {px : SX → Prop} {B : S → State → Prop} {BX : String → SX → State → Prop} {AX : Nat → Prop} (hr : vx_Run p l e R s m args below meth c H locs cells slots mc ms (F0 m pc ls st0) rest (va_Qf post B A1 a) (vx_X px BX AX) free) (hS : va_S A0 H0 H locs) (hA : ∀ q, q < H.size → A1 q → A0 q) (hf : ∀ q, free q → A0 q) (hAX : ∀ q, q < H.size → AX q → A0 q)
    (kx : ∀ (E : String) (ce : Cell) (q9 : Addr) (u : SX) (t : State) (H1 : Heap) (locs1 : List Loc), t.heap = H1 → s.vm.Alike t.vm → px u → BX E u t → H.size ≤ H1.size → (∀ q : Nat, q < H.size → ¬ AX q → H1[q]? = H[q]?) → va_S A0 H0 H1 locs1 → H1[q9]? = some ce → ce.vm = .none → s.vm.findClass E = some ce.cls → vx_W p l e R s m args below meth c H1 locs1 (cells + mc) (slots + ms) Q (F0 m pc ls rest) q9)
    (kk : ∀ (r : UInt32) (u : S) (t : State) (H1 : Heap) (locs1 : List Loc), t.heap = H1 → s.vm.Alike t.vm → post r u → B u t → H.size ≤ H1.size → (∀ q : Nat, q < H.size → ¬ A1 q → H1[q]? = H[q]?) → va_S A0 H0 H1 locs1 → W p l e R s m args below meth c H1 locs1 (cells + mc) (slots + ms) Q (F0 m (pc + 3) ls (.float r :: rest))) : W p l e R s m args below meth c H locs cells slots Q (F0 m pc ls st0) := by
  intro T hT X
  rcases hr T hT X with ⟨v, st₀, t, T', L, h0, X', hL, e1, e2, ⟨⟨r, u, hv, hp, hb⟩, hF⟩, st⟩ | ⟨q, st₀, t, T', L, E, ce, h0, X', hL, e1, e2, ⟨u, hp, hb, hF⟩, hce, hcv, hcl, st⟩
  · cases hv
    obtain ⟨k1, k2, k3⟩ := vx_keep h0 e1 hS hA hf hL hF
    obtain ⟨t2, a1, b1⟩ := kk r u t T'.heap (locs ++ L) e1.symm (by rw [← e2]; exact X'.warmed.alike) hp hb k1 k2 k3 T' rfl X'
    exact ⟨t2, st t2 a1, b1⟩
  · obtain ⟨k1, k2, k3⟩ := vx_keep h0 e1 hS hAX hf hL hF
    obtain ⟨t2, a1, b1⟩ := kx E ce q u t T'.heap (locs ++ L) e1.symm (by rw [← e2]; exact X'.warmed.alike) hp hb k1 k2 k3 (by rw [e1]; exact hce) hcv hcl T' rfl X'
    exact ⟨t2, st.trans a1, b1⟩
theorem vx_calld {S SX : Type} {post : UInt64 → S → Prop} {px : SX → Prop} {B : S → State → Prop} {BX : String → SX → State → Prop} {AX : Nat → Prop} (hr : vx_Run p l e R s m args below meth c H locs cells slots mc ms (F0 m pc ls st0) rest (va_Qd post B A1 a) (vx_X px BX AX) free) (hS : va_S A0 H0 H locs) (hA : ∀ q, q < H.size → A1 q → A0 q) (hf : ∀ q, free q → A0 q) (hAX : ∀ q, q < H.size → AX q → A0 q)
    (kx : ∀ (E : String) (ce : Cell) (q9 : Addr) (u : SX) (t : State) (H1 : Heap) (locs1 : List Loc), t.heap = H1 → s.vm.Alike t.vm → px u → BX E u t → H.size ≤ H1.size → (∀ q : Nat, q < H.size → ¬ AX q → H1[q]? = H[q]?) → va_S A0 H0 H1 locs1 → H1[q9]? = some ce → ce.vm = .none → s.vm.findClass E = some ce.cls → vx_W p l e R s m args below meth c H1 locs1 (cells + mc) (slots + ms) Q (F0 m pc ls rest) q9)
    (kk : ∀ (r : UInt64) (u : S) (t : State) (H1 : Heap) (locs1 : List Loc), t.heap = H1 → s.vm.Alike t.vm → post r u → B u t → H.size ≤ H1.size → (∀ q : Nat, q < H.size → ¬ A1 q → H1[q]? = H[q]?) → va_S A0 H0 H1 locs1 → W p l e R s m args below meth c H1 locs1 (cells + mc) (slots + ms) Q (F0 m (pc + 3) ls (.double r :: rest))) : W p l e R s m args below meth c H locs cells slots Q (F0 m pc ls st0) := by
  intro T hT X
  rcases hr T hT X with ⟨v, st₀, t, T', L, h0, X', hL, e1, e2, ⟨⟨r, u, hv, hp, hb⟩, hF⟩, st⟩ | ⟨q, st₀, t, T', L, E, ce, h0, X', hL, e1, e2, ⟨u, hp, hb, hF⟩, hce, hcv, hcl, st⟩
  · cases hv
    obtain ⟨k1, k2, k3⟩ := vx_keep h0 e1 hS hA hf hL hF
    obtain ⟨t2, a1, b1⟩ := kk r u t T'.heap (locs ++ L) e1.symm (by rw [← e2]; exact X'.warmed.alike) hp hb k1 k2 k3 T' rfl X'
    exact ⟨t2, st t2 a1, b1⟩
  · obtain ⟨k1, k2, k3⟩ := vx_keep h0 e1 hS hAX hf hL hF
    obtain ⟨t2, a1, b1⟩ := kx E ce q u t T'.heap (locs ++ L) e1.symm (by rw [← e2]; exact X'.warmed.alike) hp hb k1 k2 k3 (by rw [e1]; exact hce) hcv hcl T' rfl X'
    exact ⟨t2, st.trans a1, b1⟩
theorem vx_callv {S SX : Type} {post : S → Prop} {px : SX → Prop} {B : S → State → Prop} {BX : String → SX → State → Prop} {AX : Nat → Prop} (hr : vx_Run p l e R s m args below meth c H locs cells slots mc ms (F0 m pc ls st0) rest (va_Qv post B A1 a) (vx_X px BX AX) free) (hS : va_S A0 H0 H locs) (hA : ∀ q, q < H.size → A1 q → A0 q) (hf : ∀ q, free q → A0 q) (hAX : ∀ q, q < H.size → AX q → A0 q)
    (kx : ∀ (E : String) (ce : Cell) (q9 : Addr) (u : SX) (t : State) (H1 : Heap) (locs1 : List Loc), t.heap = H1 → s.vm.Alike t.vm → px u → BX E u t → H.size ≤ H1.size → (∀ q : Nat, q < H.size → ¬ AX q → H1[q]? = H[q]?) → va_S A0 H0 H1 locs1 → H1[q9]? = some ce → ce.vm = .none → s.vm.findClass E = some ce.cls → vx_W p l e R s m args below meth c H1 locs1 (cells + mc) (slots + ms) Q (F0 m pc ls rest) q9)
    (kk : ∀ (u : S) (t : State) (H1 : Heap) (locs1 : List Loc), t.heap = H1 → s.vm.Alike t.vm → post u → B u t → H.size ≤ H1.size → (∀ q : Nat, q < H.size → ¬ A1 q → H1[q]? = H[q]?) → va_S A0 H0 H1 locs1 → W p l e R s m args below meth c H1 locs1 (cells + mc) (slots + ms) Q (F0 m (pc + 3) ls (rest))) : W p l e R s m args below meth c H locs cells slots Q (F0 m pc ls st0) := by
  intro T hT X
  rcases hr T hT X with ⟨v, st₀, t, T', L, h0, X', hL, e1, e2, ⟨⟨u, hv, hp, hb⟩, hF⟩, st⟩ | ⟨q, st₀, t, T', L, E, ce, h0, X', hL, e1, e2, ⟨u, hp, hb, hF⟩, hce, hcv, hcl, st⟩
  · cases hv
    obtain ⟨k1, k2, k3⟩ := vx_keep h0 e1 hS hA hf hL hF
    obtain ⟨t2, a1, b1⟩ := kk u t T'.heap (locs ++ L) e1.symm (by rw [← e2]; exact X'.warmed.alike) hp hb k1 k2 k3 T' rfl X'
    exact ⟨t2, st t2 a1, b1⟩
  · obtain ⟨k1, k2, k3⟩ := vx_keep h0 e1 hS hAX hf hL hF
    obtain ⟨t2, a1, b1⟩ := kx E ce q u t T'.heap (locs ++ L) e1.symm (by rw [← e2]; exact X'.warmed.alike) hp hb k1 k2 k3 (by rw [e1]; exact hce) hcv hcl T' rfl X'
    exact ⟨t2, st.trans a1, b1⟩
/-- caught by the row x of this method's table; the rows ahead don't take it -/
theorem vx_catch {own name : String} {E : String} {ce : Cell} {q : Addr} (hown : s.vm.findClass own = some m.cls) (pre : List ExceptionTableEntry) (x : ExceptionTableEntry) (suf : List ExceptionTableEntry) (hsplit : c.exceptionTable.toList = pre ++ x :: suf)
    (hpass : ∀ z ∈ pre, covers z pc = false ∨ (z.catchType ≠ 0 ∧ ∃ nm : String, (Cond.classLink own z.catchType nm).before args s = true ∧ va_Nc E nm s)) (hx : covers x pc = true) (h0 : x.catchType ≠ 0)
    (hlink : (Cond.classLink own x.catchType name).before args s = true) (hcast : (Cond.castable E name).before args s = true) (hcell : H[q]? = some ce) (hv : ce.vm = .none) (hcl : s.vm.findClass E = some ce.cls)
    (kk : W p l e R s m args below meth c H locs cells slots Q (F0 m x.handlerPc ls [.ref q])) : vx_W p l e R s m args below meth c H locs cells slots Q (F0 m pc ls rest) q := by
  intro T hT X
  have hpl : e.platform.magicAccessors = ({} : Platform).magicAccessors := by rw [X.admits.platform]
  obtain ⟨c3, c4, hc3, hc4, hasg⟩ := Cond.castable_spec hcast
  cases Option.some.inj (hc3.symm.trans hcl)
  obtain ⟨c5, hc5, hcl5⟩ := Cond.classLink_spec hown hlink e.platform hpl
  cases Option.some.inj (hc4.symm.trans hc5)
  obtain ⟨vm', X', st⟩ := X.thenCaughtThrough q (g := F0 m pc ls rest) rfl (Steps.refl _) (by rw [hT]; exact hcell) (by rw [hv]; rfl) (by obtain ⟨k9, h9, -⟩ := Vm.findClass_spec hcl; exact ⟨k9, h9⟩) pre x suf hsplit
    (fun z hz => by
      rcases hpass z hz with h | ⟨hz0, nm, hl1, hn1⟩
      · exact Or.inl h
      · obtain ⟨c6, hc6, hcl6⟩ := Cond.classLink_spec hown hl1 e.platform hpl
        obtain ⟨a8, b8, h1, h2, h3⟩ := hn1
        cases Option.some.inj (h1.symm.trans hcl)
        cases Option.some.inj (h2.symm.trans hc6)
        exact Or.inr ⟨hz0, _, hcl6, h3⟩) hx (Or.inr ⟨h0, c4, hcl5, hasg⟩)
  obtain ⟨t, a1, b1⟩ := kk (T.setVm vm') hT X'
  exact ⟨t, st.trans a1, b1⟩
end Rows
section Ends
variable {p : Program} {l : Launch} {e : Env} {R : Room} {s : State} {m : MethodId} {args : Array Value} {below : List Frame} {meth : Method} {c : Code} {H : Heap} {locs : List Loc} {cells slots : Nat} {Q : State → Prop}
variable {mc ms : Nat} {free : Addr → Prop} {A0 A1 : Nat → Prop} {H0 : Heap} {a : Array Value} {ls : Array Slot} {st0 rest : List Value}
variable {Qc : Array Value → State → Outcome → State → Prop} {XC : String → State → State → Prop}
/-- what a body that may throw owes at its end -/
def vx_MQ (below : List Frame) (Qc : Array Value → State → Outcome → State → Prop) (XC : String → State → State → Prop) (a : Array Value) (s : State) (mc ms : Nat) (free : Addr → Prop) : State → Prop := fun t =>
  ∃ o, t.status = .running ∧ Ended t below o ∧ vx_Q Qc XC mc ms free a s o t
theorem vx_ret {g : JFrame} {mc ms : Nat} (k : W p l e R s m args below meth c H locs cells slots (MQ below Qc args s mc ms free) g) : W p l e R s m args below meth c H locs cells slots (vx_MQ below Qc XC args s mc ms free) g := by
  intro T hT X
  obtain ⟨t, a1, o, b1, b2, b3, b4⟩ := k T hT X
  exact ⟨t, a1, o, b1, b2, Or.inl ⟨b3, b4⟩⟩
/-- not caught here: it goes on to the caller -/
theorem vx_widen {g : JFrame} {q : Addr} {k n : Nat} (h1 : cells ≤ k) (h2 : slots ≤ n) (kk : vx_W p l e R s m args below meth c H locs k n Q g q) : vx_W p l e R s m args below meth c H locs cells slots Q g q := fun T hT X => kk T hT (stand_widen X h1 h2)
theorem vx_out {pc : Nat} {E : String} {ce : Cell} {q : Addr} {mc ms : Nat} (hout : ∀ x ∈ c.exceptionTable.toList, covers x pc = false) (hlocks : meth.locks = false) (hcell : H[q]? = some ce) (hv : ce.vm = .none) (hcl : s.vm.findClass E = some ce.cls)
    (hx : ∀ t : State, t.heap = H → s.vm.Alike t.vm → XC E s t) (hf : ∀ z ∈ locs, free z.base) (hc : cells ≤ mc) (hs : slots ≤ ms) :
    vx_W p l e R s m args below meth c H locs cells slots (vx_MQ below Qc XC args s mc ms free) (F0 m pc ls rest) q := by
  intro T hT X
  obtain ⟨st1, hrun, hend, hW, hsm⟩ := X.leaveThrown q (g := F0 m pc ls rest) rfl rfl rfl hout hlocks
  have hcell9 : (T.setFrames (.throwing q :: below)).heap[q]? = some ce := by
    show T.heap[q]? = some ce
    rw [hT]; exact hcell
  exact ⟨_, st1, .threw q, hrun, hend, Or.inr ⟨q, rfl, E, ce, locs, hx _ hT hW.alike, hcell9, hv, hcl, hW, hsm.mono hc hs, hf⟩⟩
theorem vx_frame {U : State} {k n : Nat} (h : s.sameButNew ({ U with vm := s.vm } : State) locs k n) : s.heap.size ≤ U.heap.size ∧ ∀ q : Nat, q < s.heap.size → (∀ z ∈ locs, z.base ≠ q) → U.heap[q]? = s.heap[q]? := by
  obtain ⟨-, h2, -, -, -, h6⟩ := h
  refine ⟨h2, fun q hq hz => ?_⟩
  obtain ⟨c9, e1, e2, e3, e4⟩ := h6 q _ (Array.getElem?_eq_getElem hq)
  have hs : c9.slots = (s.heap[q]).slots := Array.ext_getElem? fun i => e4 i fun hm => hz _ hm rfl
  have h9 : c9 = s.heap[q] := by
    rw [hs] at e2
    exact e2
  have e5 : U.heap[q]? = some c9 := e1
  rw [e5, h9, Array.getElem?_eq_getElem hq]
/-- the words of a throw but the four that speak of the heap -/
def vx_no (w : Cond) : Bool := decide (w ≠ .isRef (.static Bundle.tN "UNASSIGNED_STACK" Bundle.steD)) && decide (w ≠ .isRef (.static Bundle.tN "SUPPRESSED_SENTINEL" Bundle.listD)) && decide (w ≠ .laysStatic Bundle.tN "UNASSIGNED_STACK" Bundle.steD) && decide (w ≠ .laysStatic Bundle.tN "SUPPRESSED_SENTINEL" Bundle.listD)
def vx_at0 (own : String) (ic : Nat) (X : String) (names : List String) : List Cond := (Bundle.ownAtoms0 own ic X names).filter vx_no
def vx_atS (own : String) (ic : Nat) (X : String) (names : List String) : List Cond := (Bundle.ownAtoms own ic X names).filter vx_no
/-- a word that the tables alone decide, or a good one -/
def vx_ot (w : Cond) : Bool := w.onTables || goodWord w
theorem vx_ot_at {args a' : Array Value} {s U : State} {w : Cond} (hW : s.WarmedH U.vm) (hvm : s.vm = U.vm) (hg : vx_ot w = true) (h : w.before args s = true) : w.before a' U = true := by
  simp only [vx_ot, Bool.or_eq_true] at hg
  rcases hg with hg | hg
  · exact va_tabs hg hvm h
  · exact word_at hW (good_of_word hg) h
/-- a list's words: the good ones out of the method's own list, the others by premises of their own -/
theorem vx_hat {args : Array Value} {s : State} {L B : List Cond} (h1 : ∀ w ∈ L.filter goodWord, w.before args s = true) (h2 : ∀ w ∈ L.filter (fun w => !goodWord w), w ∈ B) (h3 : ∀ w ∈ B, w.before args s = true) : ∀ w ∈ L, w.before args s = true := by
  intro w hw
  by_cases g : goodWord w = true
  · exact h1 w (List.mem_filter.mpr ⟨hw, g⟩)
  · refine h3 w (h2 w (List.mem_filter.mpr ⟨hw, ?_⟩))
    show (!goodWord w) = true
    cases hgw : goodWord w
    · rfl
    · exact absurd hgw g
theorem vx_c {args : Array Value} {s : State} {w : Cond} {B : List Cond} (h : w.before args s = true) (t : ∀ w ∈ B, w.before args s = true) : ∀ w' ∈ w :: B, w'.before args s = true := fun w' h' => (List.mem_cons.mp h').elim (fun e => by rw [e]; exact h) (t w')
theorem vx_n {args : Array Value} {s : State} : ∀ w ∈ ([] : List Cond), w.before args s = true := fun _ h => nomatch h
theorem vx_own {args : Array Value} {s : State} {L : List Cond} (h1 : ∀ w ∈ L.filter vx_no, w.before args s = true)
    (hU : (Cond.isRef (.static Bundle.tN "UNASSIGNED_STACK" Bundle.steD)).before args s = true) (hN : (Cond.isRef (.static Bundle.tN "SUPPRESSED_SENTINEL" Bundle.listD)).before args s = true)
    (lU : (Cond.laysStatic Bundle.tN "UNASSIGNED_STACK" Bundle.steD).before args s = true) (lN : (Cond.laysStatic Bundle.tN "SUPPRESSED_SENTINEL" Bundle.listD).before args s = true) : ∀ w ∈ L, w.before args s = true := by
  intro w hw
  by_cases e1 : w = .isRef (.static Bundle.tN "UNASSIGNED_STACK" Bundle.steD)
  · rw [e1]; exact hU
  · by_cases e2 : w = .isRef (.static Bundle.tN "SUPPRESSED_SENTINEL" Bundle.listD)
    · rw [e2]; exact hN
    · by_cases e3 : w = .laysStatic Bundle.tN "UNASSIGNED_STACK" Bundle.steD
      · rw [e3]; exact lU
      · by_cases e4 : w = .laysStatic Bundle.tN "SUPPRESSED_SENTINEL" Bundle.listD
        · rw [e4]; exact lN
        · exact h1 w (List.mem_filter.mpr ⟨hw, by unfold vx_no; rw [decide_eq_true e1, decide_eq_true e2, decide_eq_true e3, decide_eq_true e4]; rfl⟩)
/-- where a static field lies, its class's statics cell in H -/
def vx_L (C n d : String) (A : Nat → Prop) (U : State) (H : Heap) : Prop := ∃ (c : ClassId) (k : Class) (i : Nat) (f : Field) (a : Nat) (cell : Cell), U.vm.findClass C = some c ∧ U.fieldFound? C n d = some (c, k, i, f) ∧ f.isStatic = true ∧ k.statics = some a ∧ H[a]? = some cell ∧ cell.vm.isStatics = true ∧ cell.cls = c ∧ f.slot < cell.slots.size ∧ k.staticTypes[f.slot]? = some f.type ∧ ¬ A a
theorem vx_L.moved {C n d : String} {A : Nat → Prop} {u U : State} {H : Heap} (hvm : u.vm.Alike U.vm) (h : vx_L C n d A u H) : vx_L C n d A U H := by
  obtain ⟨c, k, i, f, a, cell, h1, h2, h3, h4, h5, h6, h7, h8, h9, h10⟩ := h
  obtain ⟨k', hi', he⟩ := State.fieldFound?_setVm hvm h2
  exact ⟨c, k', i, f, a, cell, by rw [hvm.findClass]; exact h1, hi', h3, by rw [he]; exact h4, h5, h6, h7, h8, by rw [he]; exact h9, h10⟩
theorem vx_L.kept {C n d : String} {A : Nat → Prop} {U : State} {H H1 : Heap} (h : vx_L C n d A U H) (hq : ∀ a : Nat, a < H.size → ¬ A a → H1[a]? = H[a]?) : vx_L C n d A U H1 := by
  obtain ⟨c, k, i, f, a, cell, h1, h2, h3, h4, h5, h6, h7, h8, h9, h10⟩ := h
  exact ⟨c, k, i, f, a, cell, h1, h2, h3, h4, by rw [hq a (Array.getElem?_eq_some_iff.mp h5).1 h10]; exact h5, h6, h7, h8, h9, h10⟩
theorem vx_L.narrow {C n d : String} {A B : Nat → Prop} {U : State} {H : Heap} (h : vx_L C n d A U H) (hAB : ∀ q, B q → A q) : vx_L C n d B U H := by
  obtain ⟨c, k, i, f, a, cell, h1, h2, h3, h4, h5, h6, h7, h8, h9, h10⟩ := h
  exact ⟨c, k, i, f, a, cell, h1, h2, h3, h4, h5, h6, h7, h8, h9, fun z => h10 (hAB _ z)⟩
theorem vx_L.word {C n d : String} {A : Nat → Prop} {s : State} {args : Array Value} (h : vx_L C n d A s s.heap) : (Cond.laysStatic C n d).before args s = true := by
  obtain ⟨c, k, i, f, a, cell, h1, h2, h3, h4, h5, h6, h7, h8, h9, -⟩ := h
  show (Cond.laysStatic C n d).holds args s none s [] = true
  exact Cond.laysStatic_of h1 h2 h3 h4 h5 h6 h7 h8 h9
/-- .. and what it holds: null or some reference -/
def vx_Zq (C n d : String) (A : Nat → Prop) (U : State) (H : Heap) : Prop := va_Zq C n d A U H ∧ vx_L C n d A U H
theorem vx_Zq.moved {C n d : String} {A : Nat → Prop} {u U : State} {H : Heap} (hvm : u.vm.Alike U.vm) (h : vx_Zq C n d A u H) : vx_Zq C n d A U H := ⟨va_Zq.moved hvm h.1, vx_L.moved hvm h.2⟩
theorem vx_Zq.kept {C n d : String} {A : Nat → Prop} {U : State} {H H1 : Heap} (h : vx_Zq C n d A U H) (hq : ∀ a : Nat, a < H.size → ¬ A a → H1[a]? = H[a]?) : vx_Zq C n d A U H1 := ⟨va_Zq.kept h.1 hq, vx_L.kept h.2 hq⟩
theorem vx_Zq.narrow {C n d : String} {A B : Nat → Prop} {U : State} {H : Heap} (h : vx_Zq C n d A U H) (hAB : ∀ q, B q → A q) : vx_Zq C n d B U H := ⟨va_Zq.narrow h.1 hAB, vx_L.narrow h.2 hAB⟩
theorem vx_Zqof {args : Array Value} {s : State} {C n d : String} {A : Nat → Prop} (hl : (Cond.laysStatic C n d).before args s = true) (hini : (Cond.initialized C).before args s = true) (h : (Cond.isRef (.static C n d)).before args s = true) (hA : ∀ a : Nat, a < s.heap.size → ¬ A a) : vx_Zq C n d A s s.heap := by
  refine ⟨va_Zqof hl hini h hA, ?_⟩
  obtain ⟨c, k, i, f, a, cell, h1, h2, h3, h4, h5, h6, h7, h8, h9⟩ := Cond.laysStatic_spec hl
  exact ⟨c, k, i, f, a, cell, h1, h2, h3, h4, h5, h6, h7, h8, h9, hA a (Array.getElem?_eq_some_iff.mp h5).1⟩
theorem vx_isRef {C n d : String} {v : Value} {A : Nat → Prop} {s : State} {args : Array Value} (h : va_Z C n d v A s s.heap) (hv : v.isRef = true) : (Cond.isRef (.static C n d)).before args s = true := by
  obtain ⟨cf, kf, fi, f, a, cell, h1, h2, h3, h4, h5, h6, h7, -⟩ := h
  have he : (Term.static C n d).eval args s none [] s = some v := by
    simp [Term.eval, State.fieldNamed?, h1, h2, h4, h5, h6, h7]
  simp only [Cond.before, Cond.holds, Cond.value, he]
  cases v <;> simp_all [Value.isRef]
theorem vx_isRefq {C n d : String} {A : Nat → Prop} {s : State} {args : Array Value} (h : va_Zq C n d A s s.heap) : (Cond.isRef (.static C n d)).before args s = true := by
  rcases h with h | ⟨t, h⟩
  · exact vx_isRef h rfl
  · exact vx_isRef h rfl
/-- the same frame, seen from here: as if the method were called anew in this heap -/
theorem vx_rebase {T : State} (X : Stand p l e R s m args below meth c T locs cells slots) {R' : Room} (hf : R'.frames ≤ R.frames) (hl : R'.locals ≤ R.locals) (hc : cells + R'.cells ≤ R.cells) (hs : slots + R'.slots ≤ R.slots) :
    Stand p l e R' ((T.setVm s.vm).setFrames (.invoking m args :: below)) m args below meth c T [] 0 0 := by
  have htop : (T.setVm s.vm).topJava?.isSome := X.here.top
  have hF : ((T.setVm s.vm).setFrames (.invoking m args :: below)).frames = .invoking m args :: below := State.frames_setFrames _ (State.cur_lt_of_top htop)
  obtain ⟨g₀, hg0⟩ := Option.isSome_iff_exists.mp htop
  obtain ⟨r, hr⟩ := State.topJava?_eq_some.mp hg0
  have hl9 : e.platform.stackLimits (T.setVm s.vm).me = e.platform.stackLimits s.me := X.limits
  have hb9 : (T.setVm s.vm).me.stackBytes = s.me.stackBytes := X.bytes
  refine ⟨X.admits, X.cas, X.clock, hF, ?_, X.hears, X.method, X.code, X.here, X.tail, X.warmed, ?_, ?_, ?_⟩
  · have h := X.room
    have hU : ((T.setVm s.vm).setFrames (.invoking m args :: below)).localsInUse = s.localsInUse := by
      rw [State.localsInUse_invoking hF (meth := meth) (c := c) X.method X.code, State.localsInUse_invoking X.frames X.method X.code]
    simp only [State.hasRoom, Bool.and_eq_true, decide_eq_true_eq] at h ⊢
    obtain ⟨⟨⟨⟨h1, h2, h3, h4, h5, h6⟩, h7⟩, h8⟩, h9⟩ := h
    rw [X.frames, List.length_cons] at h2 h3
    have q1 := X.heapSize
    have q2 := X.used
    simp only [hF, hU, List.length_cons, State.stackLimits_setFrames, State.stackBytes_setFrames, hl9, hb9]
    refine ⟨⟨⟨⟨by omega, by omega, by omega, by omega, by omega, h6⟩, ?_⟩, ?_⟩, X.book⟩
    · show T.heap.size + R'.cells ≤ e.platform.maxCells
      omega
    · show T.slotsUsed + R'.slots ≤ e.platform.maxSlots
      omega
  · rw [State.stackLimits_setFrames]; rfl
  · rw [State.stackBytes_setFrames]; rfl
  · refine ⟨?_, Nat.le_refl _, Nat.le_refl _, ?_, ?_, fun a c9 h9 => ⟨c9, h9, rfl, rfl, fun _ _ => rfl⟩⟩
    · obtain ⟨t, ht, -⟩ := State.frames_cons hr
      show T.setVm s.vm = { ((T.setVm s.vm).setFrames (.invoking m args :: below)).setFrames (T.setVm s.vm).frames with heap := T.heap, slotsUsed := T.slotsUsed }
      rw [State.setFrames_setFrames, State.setFrames_self ht]
      rfl
    · show T.slotsUsed = T.slotsUsed + ((T.heap.toList.drop T.heap.size).map (·.slots.size)).sum
      rw [List.drop_eq_nil_of_le (Nat.le_of_eq Array.length_toList)]
      rfl
    · show ((T.heap.toList.drop T.heap.size).map (·.slots.size)).sum ≤ 0
      rw [List.drop_eq_nil_of_le (Nat.le_of_eq Array.length_toList)]
      exact Nat.le_refl _
/-- 'throw new E()': new; dup; invokespecial; athrow -/
theorem vx_throw0 {cc : ByteArray} {pc : Nat} (hexec : p.tables.exec = Jvm.exec) (hb : c.code = cc) (hl : l.stackTraces = false) {own cls : String} {names : List String} {ik ic mc ms : Nat} {A : Nat → Prop}
    (hown : s.vm.findClass own = some m.cls) (hcls : Bundle.fit cls = true) (hnames : ∀ n ∈ names, Bundle.fit n = true)
    (hk : (Cond.classLink own ik cls).before args s = true) (hini : (Cond.initialized cls).before args s = true) (hat : ∀ w ∈ vx_at0 own ic cls names, w.before args s = true)
    (hgood : ∀ w ∈ Cond.classLink own ik cls :: Cond.initialized cls :: vx_at0 own ic cls names, vx_ot w = true)
    (hU : vx_Zq Bundle.tN "UNASSIGNED_STACK" Bundle.steD A s s.heap) (hN : vx_Zq Bundle.tN "SUPPRESSED_SENTINEL" Bundle.listD A s s.heap) (hS : va_S A s.heap H locs) (hsize : ls.size = c.maxLocals)
    (d0 : decode cc pc = .ok (.new ik, 3)) (d3 : decode cc (pc + 3) = .ok (.dup, 1)) (d4 : decode cc (pc + 4) = .ok (.invokespecial ic, 3)) (d7 : decode cc (pc + 7) = .ok (.athrow, 1))
    (hout : ∀ x ∈ c.exceptionTable.toList, covers x (pc + 7) = false)
    (hRframes : names.length + 3 < R.frames) (hRlocals : (rest.map fun v => v.category).sum + (13 * (names.length + 1) + 42) ≤ R.locals) (hRcells : cells + 1 ≤ R.cells) (hRslots : slots + 6 ≤ R.slots) (hlocks : meth.locks = false)
    (hx : ∀ t : State, s.vm.Alike t.vm → H.size ≤ t.heap.size → (∀ q : Nat, q < H.size → t.heap[q]? = H[q]?) → XC cls s t)
    (hf : ∀ z ∈ locs, free z.base) (hc : cells + 1 ≤ mc) (hs : slots + 6 ≤ ms) :
    W p l e R s m args below meth c H locs cells slots (vx_MQ below Qc XC args s mc ms free) (F0 m pc ls rest) := by
  intro T hT X
  have htr : e.platform.stackTraces = false := (show e.platform.stackTraces = l.stackTraces by rw [X.admits.platform]).trans hl
  have Y := vx_rebase X (R' := { frames := R.frames, locals := R.locals, cells := 1, slots := 6 }) (Nat.le_refl _) (Nat.le_refl _) hRcells hRslots
  obtain ⟨s', hA⟩ : ∃ z, z = (T.setVm s.vm).setFrames (.invoking m args :: below) := ⟨_, rfl⟩
  rw [← hA] at Y
  have hvm : s'.vm = s.vm := by rw [hA]; rfl
  have hhp : s'.heap = H := by rw [hA]; exact hT
  have hW0 : s.WarmedH s'.vm := by rw [hvm]; exact State.WarmedH.refl s
  have hat' : ∀ w ∈ vx_at0 own ic cls names, w.before args s' = true := fun w hw => vx_ot_at hW0 hvm.symm (hgood w (List.mem_cons_of_mem _ (List.mem_cons_of_mem _ hw))) (hat w hw)
  have hk' : (Cond.classLink own ik cls).before args s' = true := vx_ot_at hW0 hvm.symm (hgood _ List.mem_cons_self) hk
  have hini' : (Cond.initialized cls).before args s' = true := vx_ot_at hW0 hvm.symm (hgood _ (List.mem_cons_of_mem _ List.mem_cons_self)) hini
  have hU' : vx_Zq Bundle.tN "UNASSIGNED_STACK" Bundle.steD A s' s'.heap := by rw [hhp]; exact vx_Zq.moved hW0.alike (hU.kept hS.2.1)
  have hN' : vx_Zq Bundle.tN "SUPPRESSED_SENTINEL" Bundle.listD A s' s'.heap := by rw [hhp]; exact vx_Zq.moved hW0.alike (hN.kept hS.2.1)
  have h : ∀ w ∈ Bundle.ownAtoms0 own ic cls names, w.before args s' = true := vx_own hat' (vx_isRefq hU'.1) (vx_isRefq hN'.1) hU'.2.word hN'.2.word
  have hown' : s'.vm.findClass own = some m.cls := by rw [hvm]; exact hown
  have hins : (Cond.instantiable cls 6).before args s' = true := h _ (by simp [Bundle.ownAtoms0])
  obtain ⟨vm₁, cX, kX, hfX, hkX, -, -, X₁, st1⟩ := Y.newCold hexec (own := own) (C := cls) (index := ik) (n := 6) hown' hk' hins hini'
    (g := F0 m pc ls rest) rfl (by rw [hb]; exact d0) (Nat.le_refl _) (Nat.le_refl _)
  generalize hT1 : (T.setVm vm₁).pushCell { cls := cX, slots := kX.instanceTypes.map defaultValue, vm := .none } = T1 at X₁ st1
  have hcat : (Value.ref T.heap.size).category = 1 := rfl
  have hcellA : T1.heap[T.heap.size]? = some (freshCell cX kX) := by rw [← hT1]; exact State.heap_pushCell_size _ _
  have d3' : decode c.code (pc + 3) = .ok (.dup, 1) := by rw [hb]; exact d3
  obtain ⟨U, hsteps, hrun, hend, hW, hsame, ce, hce, hO⟩ := X₁.ctorThrow0 hexec htr (own := own) (cls := cls) (names := names) (ic := ic) hown' hcls hnames h (fun x hx => nomatch hx) hfX hkX hcellA (by rw [hhp, hT]; exact Nat.le_refl _)
    (g := { method := m, pc := pc + 4, locals := ls, stack := .ref T.heap.size :: .ref T.heap.size :: rest, locked := none }) rfl hsize rfl rfl (rest := rest) rfl
    (by rw [hb]; exact d4) (by rw [hb]; exact d7) hout hRframes (by simp only [List.map_cons, List.sum_cons, hcat]; omega) hlocks
  obtain ⟨f1, f2⟩ := vx_frame hsame
  rw [hhp] at f1 f2
  have hWs : s.WarmedH U.vm := State.WarmedH.trans hW0 hW
  have hcl : s.vm.findClass cls = some ce.cls := by
    have h9 := hO.cls
    rw [hvm] at h9
    exact h9
  have hall : s.sameButNew ({ U with vm := s.vm } : State) locs mc ms := by
    subst hA
    obtain ⟨e1, e2⟩ := hsame
    rw [State.setFrames_setFrames] at e1
    have h2 : (T.setVm s.vm).sameButNew ({ U with vm := s.vm } : State) [] (0 + 1) (0 + 6) := ⟨e1, e2⟩
    have h3 := X.same.trans h2
    rw [List.append_nil] at h3
    exact h3.mono hc hs
  refine ⟨U, ?_, .threw T.heap.size, hrun, hend, Or.inr ⟨T.heap.size, rfl, cls, ce, locs, hx U hWs.alike f1 (fun q hq => f2 q hq (fun z hz => nomatch hz)), hce, hO.vm, hcl, hWs, hall, hf⟩⟩
  refine st1 _ ?_
  show Steps p.tables e below (T1.setTop { method := m, pc := pc + 3, locals := ls, stack := .ref T.heap.size :: rest, locked := none }) _
  jvm_step X₁.here [X₁.here.top, hexec, d3', Value.category]
  exact hsteps
/-- 'throw new E("text")': new; dup; ldc; invokespecial; athrow -/
theorem vx_throwS {cc : ByteArray} {pc : Nat} (hexec : p.tables.exec = Jvm.exec) (hb : c.code = cc) (hl : l.stackTraces = false) {own cls text : String} {names : List String} {ik is ic mc ms sa : Nat} {A : Nat → Prop}
    (hown : s.vm.findClass own = some m.cls) (hcls : Bundle.fit cls = true) (hnames : ∀ n ∈ names, Bundle.fit n = true)
    (hk : (Cond.classLink own ik cls).before args s = true) (hini : (Cond.initialized cls).before args s = true) (hstr : vk_R own is text sa s) (hat : ∀ w ∈ vx_atS own ic cls names, w.before args s = true)
    (hgood : ∀ w ∈ Cond.classLink own ik cls :: Cond.initialized cls :: vx_atS own ic cls names, vx_ot w = true)
    (hU : vx_Zq Bundle.tN "UNASSIGNED_STACK" Bundle.steD A s s.heap) (hN : vx_Zq Bundle.tN "SUPPRESSED_SENTINEL" Bundle.listD A s s.heap) (hS : va_S A s.heap H locs) (hsize : ls.size = c.maxLocals)
    (d0 : decode cc pc = .ok (.new ik, 3)) (d3 : decode cc (pc + 3) = .ok (.dup, 1)) (d4 : decode cc (pc + 4) = .ok (.ldc is, 2)) (d6 : decode cc (pc + 6) = .ok (.invokespecial ic, 3)) (d9 : decode cc (pc + 9) = .ok (.athrow, 1))
    (hout : ∀ x ∈ c.exceptionTable.toList, covers x (pc + 9) = false)
    (hRframes : names.length + 3 < R.frames) (hRlocals : (rest.map fun v => v.category).sum + (13 * (names.length + 1) + 43) ≤ R.locals) (hRcells : cells + 1 ≤ R.cells) (hRslots : slots + 6 ≤ R.slots) (hlocks : meth.locks = false)
    (hx : ∀ t : State, s.vm.Alike t.vm → H.size ≤ t.heap.size → (∀ q : Nat, q < H.size → t.heap[q]? = H[q]?) → XC cls s t)
    (hf : ∀ z ∈ locs, free z.base) (hc : cells + 1 ≤ mc) (hs : slots + 6 ≤ ms) :
    W p l e R s m args below meth c H locs cells slots (vx_MQ below Qc XC args s mc ms free) (F0 m pc ls rest) := by
  intro T hT X
  have htr : e.platform.stackTraces = false := (show e.platform.stackTraces = l.stackTraces by rw [X.admits.platform]).trans hl
  have Y := vx_rebase X (R' := { frames := R.frames, locals := R.locals, cells := 1, slots := 6 }) (Nat.le_refl _) (Nat.le_refl _) hRcells hRslots
  obtain ⟨s', hA⟩ : ∃ z, z = (T.setVm s.vm).setFrames (.invoking m args :: below) := ⟨_, rfl⟩
  rw [← hA] at Y
  have hvm : s'.vm = s.vm := by rw [hA]; rfl
  have hhp : s'.heap = H := by rw [hA]; exact hT
  have hW0 : s.WarmedH s'.vm := by rw [hvm]; exact State.WarmedH.refl s
  have hat' : ∀ w ∈ vx_atS own ic cls names, w.before args s' = true := fun w hw => vx_ot_at hW0 hvm.symm (hgood w (List.mem_cons_of_mem _ (List.mem_cons_of_mem _ hw))) (hat w hw)
  have hk' : (Cond.classLink own ik cls).before args s' = true := vx_ot_at hW0 hvm.symm (hgood _ List.mem_cons_self) hk
  have hini' : (Cond.initialized cls).before args s' = true := vx_ot_at hW0 hvm.symm (hgood _ (List.mem_cons_of_mem _ List.mem_cons_self)) hini
  have hU' : vx_Zq Bundle.tN "UNASSIGNED_STACK" Bundle.steD A s' s'.heap := by rw [hhp]; exact vx_Zq.moved hW0.alike (hU.kept hS.2.1)
  have hN' : vx_Zq Bundle.tN "SUPPRESSED_SENTINEL" Bundle.listD A s' s'.heap := by rw [hhp]; exact vx_Zq.moved hW0.alike (hN.kept hS.2.1)
  have h : ∀ w ∈ Bundle.ownAtoms own ic cls names, w.before args s' = true := vx_own hat' (vx_isRefq hU'.1) (vx_isRefq hN'.1) hU'.2.word hN'.2.word
  have hown' : s'.vm.findClass own = some m.cls := by rw [hvm]; exact hown
  have hins : (Cond.instantiable cls 6).before args s' = true := h _ (by simp [Bundle.ownAtoms])
  obtain ⟨vm₁, cX, kX, hfX, hkX, -, -, X₁, st1⟩ := Y.newCold hexec (own := own) (C := cls) (index := ik) (n := 6) hown' hk' hins hini'
    (g := F0 m pc ls rest) rfl (by rw [hb]; exact d0) (Nat.le_refl _) (Nat.le_refl _)
  generalize hT1 : (T.setVm vm₁).pushCell { cls := cX, slots := kX.instanceTypes.map defaultValue, vm := .none } = T1 at X₁ st1
  have hcat : (Value.ref T.heap.size).category = 1 := rfl
  have hcellA : T1.heap[T.heap.size]? = some (freshCell cX kX) := by rw [← hT1]; exact State.heap_pushCell_size _ _
  have d3' : decode c.code (pc + 3) = .ok (.dup, 1) := by rw [hb]; exact d3
  have d4' : decode c.code (pc + 4) = .ok (.ldc is, 2) := by rw [hb]; exact d4
  have hstr' : vk_R own is text sa s' := vk_R.warm hW0 hstr
  obtain ⟨U, hsteps, hrun, hend, hW, hsame, ce, hce, hO⟩ := X₁.ctorThrowS hexec htr (own := own) (cls := cls) (names := names) (ic := ic) hown' hcls hnames h (fun x hx => nomatch hx) hfX hkX hcellA (by rw [hhp, hT]; exact Nat.le_refl _) (msg := .ref sa) rfl
    (g := { method := m, pc := pc + 6, locals := ls, stack := .ref sa :: .ref T.heap.size :: .ref T.heap.size :: rest, locked := none }) rfl hsize rfl rfl (rest := rest) rfl
    (by rw [hb]; exact d6) (by rw [hb]; exact d9) hout hRframes (by simp only [List.map_cons, List.sum_cons, hcat]; omega) hlocks
  obtain ⟨f1, f2⟩ := vx_frame hsame
  rw [hhp] at f1 f2
  have hWs : s.WarmedH U.vm := State.WarmedH.trans hW0 hW
  have hcl : s.vm.findClass cls = some ce.cls := by
    have h9 := hO.cls
    rw [hvm] at h9
    exact h9
  have hall : s.sameButNew ({ U with vm := s.vm } : State) locs mc ms := by
    subst hA
    obtain ⟨e1, e2⟩ := hsame
    rw [State.setFrames_setFrames] at e1
    have h2 : (T.setVm s.vm).sameButNew ({ U with vm := s.vm } : State) [] (0 + 1) (0 + 6) := ⟨e1, e2⟩
    have h3 := X.same.trans h2
    rw [List.append_nil] at h3
    exact h3.mono hc hs
  refine ⟨U, ?_, .threw T.heap.size, hrun, hend, Or.inr ⟨T.heap.size, rfl, cls, ce, locs, hx U hWs.alike f1 (fun q hq => f2 q hq (fun z hz => nomatch hz)), hce, hO.vm, hcl, hWs, hall, hf⟩⟩
  refine st1 _ ?_
  show Steps p.tables e below (T1.setTop { method := m, pc := pc + 3, locals := ls, stack := .ref T.heap.size :: rest, locked := none }) _
  jvm_step X₁.here [X₁.here.top, hexec, d3', Value.category]
  exact X₁.ldcString hexec (own := own) (text := text) (index := is) (a := sa) hown' hstr'.1 hstr'.2
    (g := { method := m, pc := pc + 4, locals := ls, stack := .ref T.heap.size :: .ref T.heap.size :: rest, locked := none }) rfl d4' _ hsteps
/-- 'throw new E("text")', the text by a wide index -/
theorem vx_throwSW {cc : ByteArray} {pc : Nat} (hexec : p.tables.exec = Jvm.exec) (hb : c.code = cc) (hl : l.stackTraces = false) {own cls text : String} {names : List String} {ik is ic mc ms sa : Nat} {A : Nat → Prop}
    (hown : s.vm.findClass own = some m.cls) (hcls : Bundle.fit cls = true) (hnames : ∀ n ∈ names, Bundle.fit n = true)
    (hk : (Cond.classLink own ik cls).before args s = true) (hini : (Cond.initialized cls).before args s = true) (hstr : vk_R own is text sa s) (hat : ∀ w ∈ vx_atS own ic cls names, w.before args s = true)
    (hgood : ∀ w ∈ Cond.classLink own ik cls :: Cond.initialized cls :: vx_atS own ic cls names, vx_ot w = true)
    (hU : vx_Zq Bundle.tN "UNASSIGNED_STACK" Bundle.steD A s s.heap) (hN : vx_Zq Bundle.tN "SUPPRESSED_SENTINEL" Bundle.listD A s s.heap) (hS : va_S A s.heap H locs) (hsize : ls.size = c.maxLocals)
    (d0 : decode cc pc = .ok (.new ik, 3)) (d3 : decode cc (pc + 3) = .ok (.dup, 1)) (d4 : decode cc (pc + 4) = .ok (.ldc_w is, 3)) (d7 : decode cc (pc + 7) = .ok (.invokespecial ic, 3)) (d10 : decode cc (pc + 10) = .ok (.athrow, 1))
    (hout : ∀ x ∈ c.exceptionTable.toList, covers x (pc + 10) = false)
    (hRframes : names.length + 3 < R.frames) (hRlocals : (rest.map fun v => v.category).sum + (13 * (names.length + 1) + 43) ≤ R.locals) (hRcells : cells + 1 ≤ R.cells) (hRslots : slots + 6 ≤ R.slots) (hlocks : meth.locks = false)
    (hx : ∀ t : State, s.vm.Alike t.vm → H.size ≤ t.heap.size → (∀ q : Nat, q < H.size → t.heap[q]? = H[q]?) → XC cls s t)
    (hf : ∀ z ∈ locs, free z.base) (hc : cells + 1 ≤ mc) (hs : slots + 6 ≤ ms) :
    W p l e R s m args below meth c H locs cells slots (vx_MQ below Qc XC args s mc ms free) (F0 m pc ls rest) := by
  intro T hT X
  have htr : e.platform.stackTraces = false := (show e.platform.stackTraces = l.stackTraces by rw [X.admits.platform]).trans hl
  have Y := vx_rebase X (R' := { frames := R.frames, locals := R.locals, cells := 1, slots := 6 }) (Nat.le_refl _) (Nat.le_refl _) hRcells hRslots
  obtain ⟨s', hA⟩ : ∃ z, z = (T.setVm s.vm).setFrames (.invoking m args :: below) := ⟨_, rfl⟩
  rw [← hA] at Y
  have hvm : s'.vm = s.vm := by rw [hA]; rfl
  have hhp : s'.heap = H := by rw [hA]; exact hT
  have hW0 : s.WarmedH s'.vm := by rw [hvm]; exact State.WarmedH.refl s
  have hat' : ∀ w ∈ vx_atS own ic cls names, w.before args s' = true := fun w hw => vx_ot_at hW0 hvm.symm (hgood w (List.mem_cons_of_mem _ (List.mem_cons_of_mem _ hw))) (hat w hw)
  have hk' : (Cond.classLink own ik cls).before args s' = true := vx_ot_at hW0 hvm.symm (hgood _ List.mem_cons_self) hk
  have hini' : (Cond.initialized cls).before args s' = true := vx_ot_at hW0 hvm.symm (hgood _ (List.mem_cons_of_mem _ List.mem_cons_self)) hini
  have hU' : vx_Zq Bundle.tN "UNASSIGNED_STACK" Bundle.steD A s' s'.heap := by rw [hhp]; exact vx_Zq.moved hW0.alike (hU.kept hS.2.1)
  have hN' : vx_Zq Bundle.tN "SUPPRESSED_SENTINEL" Bundle.listD A s' s'.heap := by rw [hhp]; exact vx_Zq.moved hW0.alike (hN.kept hS.2.1)
  have h : ∀ w ∈ Bundle.ownAtoms own ic cls names, w.before args s' = true := vx_own hat' (vx_isRefq hU'.1) (vx_isRefq hN'.1) hU'.2.word hN'.2.word
  have hown' : s'.vm.findClass own = some m.cls := by rw [hvm]; exact hown
  have hins : (Cond.instantiable cls 6).before args s' = true := h _ (by simp [Bundle.ownAtoms])
  obtain ⟨vm₁, cX, kX, hfX, hkX, -, -, X₁, st1⟩ := Y.newCold hexec (own := own) (C := cls) (index := ik) (n := 6) hown' hk' hins hini'
    (g := F0 m pc ls rest) rfl (by rw [hb]; exact d0) (Nat.le_refl _) (Nat.le_refl _)
  generalize hT1 : (T.setVm vm₁).pushCell { cls := cX, slots := kX.instanceTypes.map defaultValue, vm := .none } = T1 at X₁ st1
  have hcat : (Value.ref T.heap.size).category = 1 := rfl
  have hcellA : T1.heap[T.heap.size]? = some (freshCell cX kX) := by rw [← hT1]; exact State.heap_pushCell_size _ _
  have d3' : decode c.code (pc + 3) = .ok (.dup, 1) := by rw [hb]; exact d3
  have d4' : decode c.code (pc + 4) = .ok (.ldc_w is, 3) := by rw [hb]; exact d4
  have hstr' : vk_R own is text sa s' := vk_R.warm hW0 hstr
  obtain ⟨U, hsteps, hrun, hend, hW, hsame, ce, hce, hO⟩ := X₁.ctorThrowS hexec htr (own := own) (cls := cls) (names := names) (ic := ic) hown' hcls hnames h (fun x hx => nomatch hx) hfX hkX hcellA (by rw [hhp, hT]; exact Nat.le_refl _) (msg := .ref sa) rfl
    (g := { method := m, pc := pc + 7, locals := ls, stack := .ref sa :: .ref T.heap.size :: .ref T.heap.size :: rest, locked := none }) rfl hsize rfl rfl (rest := rest) rfl
    (by rw [hb]; exact d7) (by rw [hb]; exact d10) hout hRframes (by simp only [List.map_cons, List.sum_cons, hcat]; omega) hlocks
  obtain ⟨f1, f2⟩ := vx_frame hsame
  rw [hhp] at f1 f2
  have hWs : s.WarmedH U.vm := State.WarmedH.trans hW0 hW
  have hcl : s.vm.findClass cls = some ce.cls := by
    have h9 := hO.cls
    rw [hvm] at h9
    exact h9
  have hall : s.sameButNew ({ U with vm := s.vm } : State) locs mc ms := by
    subst hA
    obtain ⟨e1, e2⟩ := hsame
    rw [State.setFrames_setFrames] at e1
    have h2 : (T.setVm s.vm).sameButNew ({ U with vm := s.vm } : State) [] (0 + 1) (0 + 6) := ⟨e1, e2⟩
    have h3 := X.same.trans h2
    rw [List.append_nil] at h3
    exact h3.mono hc hs
  refine ⟨U, ?_, .threw T.heap.size, hrun, hend, Or.inr ⟨T.heap.size, rfl, cls, ce, locs, hx U hWs.alike f1 (fun q hq => f2 q hq (fun z hz => nomatch hz)), hce, hO.vm, hcl, hWs, hall, hf⟩⟩
  refine st1 _ ?_
  show Steps p.tables e below (T1.setTop { method := m, pc := pc + 3, locals := ls, stack := .ref T.heap.size :: rest, locked := none }) _
  jvm_step X₁.here [X₁.here.top, hexec, d3', Value.category]
  exact X₁.ldcStringW hexec (own := own) (text := text) (index := is) (a := sa) hown' hstr'.1 hstr'.2
    (g := { method := m, pc := pc + 4, locals := ls, stack := .ref T.heap.size :: .ref T.heap.size :: rest, locked := none }) rfl d4' _ hsteps
end Ends
section Bodies
variable {l : Launch}
theorem vx_ofW {y : MethodName} {ws ws' : List Cond} {rm : Room} {Pc : Array Value → State → Prop} {Qc : Array Value → State → Outcome → State → Prop} {XC : String → State → State → Prop} {mc ms : Nat} {free : Addr → Prop} {cc : ByteArray} {maxL : Nat} {ret : Option FieldType}
    (hy : plainName y.cls = true) (hw : ws = Cond.code y cc maxL ret :: ws')
    (body : ∀ p e s m args below meth c s₁, BodyLoose p l y (headSpec ws rm) cc maxL ret e s m args below meth c s₁ → c.maxLocals = maxL → (∀ x ∈ c.exceptionTable.toList, False) → Pc args s →
      W p l e (headSpec ws rm).room s m args below meth c s.heap [] 0 0 (vx_MQ below Qc XC args s mc ms free) (entryFrame m args maxL)) : vx_Met l y ws rm Pc Qc XC mc ms free := by
  refine MetFree.of_bodyS (code := cc) (maxLocals := maxL) (ret := ret) hy ?_ ?_
  · intro args s m h hn
    obtain ⟨meth, c, h1, h2, h3, h4, h5, h6, -, -⟩ := Cond.code_spec hn (atoms_spec (ws := ws) h _ (by rw [hw]; exact List.mem_cons_self))
    exact ⟨meth, c, h1, h2, h3, h4, h5, h6⟩
  · intro p e s m args below meth c s₁ B hml hP _
    have hh0 : s₁.heap = s.heap := by rw [B.state]; rfl
    have ht : ∀ x ∈ c.exceptionTable.toList, False := by
      obtain ⟨meth9, c9, h1, h2, -, -, -, -, h7, -⟩ := Cond.code_spec B.named (atoms_spec (ws := ws) B.pre _ (by rw [hw]; exact List.mem_cons_self))
      cases Option.some.inj (h1.symm.trans B.method)
      cases Option.some.inj (h2.symm.trans (Stand.of_body B).code)
      intro x hx
      rw [Array.isEmpty_iff.mp h7] at hx
      cases hx
    obtain ⟨t, a1, o, b1, b2, b3⟩ := body p e s m args below meth c s₁ B hml ht hP s₁ hh0 (Stand.of_body B)
    exact ⟨t, o, a1, b1, b2, b3⟩
/-- the table of a body with handlers -/
theorem vx_table {p : Program} {x y : MethodName} {S : Spec} {cc bytes : ByteArray} {maxL maxL' : Nat} {ret ret' : Option FieldType} {e : Env} {s s₁ : State} {m : MethodId} {args : Array Value} {below : List Frame} {meth : Method} {c : Code} {hh : List (Nat × Nat × Nat × Nat)}
    (B : BodyLoose p l y S cc maxL ret e s m args below meth c s₁) (h : (Cond.codeWith y bytes maxL' ret' hh).before args s = true) : c.exceptionTable.toList = tableOf hh := by
  obtain ⟨m9, meth9, c9, hn9, h1, h2, -, -, h6, -⟩ := Cond.codeWith_spec h
  cases Option.some.inj (hn9.symm.trans B.named)
  cases Option.some.inj (h1.symm.trans B.method)
  cases Option.some.inj (h2.symm.trans (Stand.of_body B).code)
  rw [← h6, table_eq]
end Bodies
end VXA
/-! ===== END ===== -/
/-! ===== BEGIN a static call of a method with an exception table ===== -/
section VXS
variable {p : Program} {l : Launch} {e : Env} {R : Room} {s : State} {m : MethodId} {args : Array Value} {below : List Frame} {meth : Method} {c : Code} {T : State} {H : Heap} {locs : List Loc} {cells slots : Nat}
abbrev vx_CSW (R : Room) (s : State) (args : Array Value) (own : String) (index : Nat) (y : MethodName) (bytes : ByteArray) (maxL : Nat) (ret : Option FieldType) (hh : List (Nat × Nat × Nat × Nat)) (ws : List Cond) (rm : Room) (mc ms n : Nat) : Prop :=
  (rm.cells = mc ∧ rm.slots = ms ∧ rm.frames + 1 ≤ R.frames ∧ 8 + (maxL + 11) + rm.locals ≤ R.locals ∧ (∀ w ∈ ws, ∀ (a' : Array Value) (U : State), s.WarmedH U.vm → w.before a' U = true) ∧ Cond.codeWith y bytes maxL ret hh ∈ ws) ∧
  (Cond.codeWith y bytes maxL ret hh).before args s = true ∧ (Cond.initialized y.cls).before args s = true ∧ (y.cls ≠ "java/lang/invoke/MethodHandle" ∧ y.cls ≠ "java/lang/invoke/VarHandle") ∧
  (∀ sig, parseMethodDescriptor y.desc = some sig → n = sig.parameters.length) ∧ (Cond.methodLink own index y).before args s = true ∧ (Cond.static y).before args s = true
theorem vx_cwSW {own : String} {index maxL mc ms : Nat} {y : MethodName} {bytes : ByteArray} {ret : Option FieldType} {hh : List (Nat × Nat × Nat × Nat)} {Ts ws ws' : List Cond} {rm : Room} (n : Nat) (ht : ∀ w ∈ Ts, w.before args s = true) (hT : GoodIn Ts (va_wsS own index y ws)) (hw : ws = Cond.codeWith y bytes maxL ret hh :: ws') (hrc : rm.cells = mc) (hrs : rm.slots = ms)
    (hd : y.cls ≠ "java/lang/invoke/MethodHandle" ∧ y.cls ≠ "java/lang/invoke/VarHandle" ∧ (parseMethodDescriptor y.desc).map (fun d => d.parameters.length) = some n) (hR : rm.frames + 1 ≤ R.frames ∧ 8 + (maxL + 11) + rm.locals ≤ R.locals) :
    vx_CSW R s args own index y bytes maxL ret hh ws rm mc ms n := by
  have ok : ∀ w ∈ va_wsS own index y ws, w.before args s = true := fun w h => ht w (hT w h).1
  have hG : GoodIn Ts ws := fun w h => hT w (by unfold va_wsS; exact List.mem_append_right _ h)
  have hc : Cond.codeWith y bytes maxL ret hh ∈ ws := by rw [hw]; exact List.mem_cons_self
  refine ⟨⟨hrc, hrs, hR.1, hR.2, pay_in ht hG, hc⟩, ht _ (hG _ hc).1, ok _ (by simp [va_wsS]), ⟨hd.1, hd.2.1⟩, fun sig h => ?_, ok _ (by simp [va_wsS]), ok _ (by simp [va_wsS])⟩
  have h2 := hd.2.2
  rw [h] at h2
  exact (Option.some.inj h2).symm
theorem vx_callSW (X : Stand p l e R s m args below meth c T locs cells slots) (hexec : p.tables.exec = Jvm.exec) {own : String} {index : Nat} {y : MethodName} {bytes : ByteArray} {maxL : Nat} {ret : Option FieldType} {hh : List (Nat × Nat × Nat × Nat)}
    (hown : s.vm.findClass own = some m.cls) (hlink : (Cond.methodLink own index y).before args s = true) (hstat : (Cond.static y).before args s = true) (hinit : (Cond.initialized y.cls).before args s = true)
    (hcode : (Cond.codeWith y bytes maxL ret hh).before args s = true) (hy : y.cls ≠ "java/lang/invoke/MethodHandle" ∧ y.cls ≠ "java/lang/invoke/VarHandle")
    {W9 : Nat} {Pre : Pt → Array Value → Prop} {Post : Pt → Array Value → Option Value → Pt → Prop} (hK : Back l R p e below s args y 3 W9 Pre Post)
    {g : JFrame} (hg : g.method = m) (hsize : g.locals.size = c.maxLocals) {argsL rest : List Value} (hlen : ∀ sig, parseMethodDescriptor y.desc = some sig → argsL.length = sig.parameters.length)
    (hstack : g.stack = argsL.reverse ++ rest) (hW : 2 * g.monitorRoom + (rest.map fun v => v.category).sum ≤ W9) (hdg : decode c.code g.pc = .ok (.invokestatic index, 3))
    (hpre : ∀ vm₁, s.WarmedH vm₁ → Pre ⟨T.setVm vm₁, locs, cells, slots⟩ argsL.toArray) :
    ∃ (v : Option Value) (vm₁ : Vm) (B : Pt), s.WarmedH vm₁ ∧ Stand p l e R s m args below meth c B.U B.locs B.cells B.slots ∧ Post ⟨T.setVm vm₁, locs, cells, slots⟩ argsL.toArray v B ∧
      ∀ target, Steps p.tables e below (B.U.setTop { g with pc := g.pc + 3, stack := v.toList ++ rest }) target → Steps p.tables e below (T.setTop g) target := by
  obtain ⟨mk, methM, cM, hnamed, hmethM, -, -, -, -, -, -, hsigM⟩ := Cond.codeWith_spec hcode
  have hstatic : methM.isStatic = true := Cond.static_spec hnamed hmethM hstat
  obtain ⟨kP, hkP, -⟩ := className_of_methodNamed hnamed
  have hinitP : kP.init = .initialized := Cond.initialized_spec (findClass_of_methodNamed hnamed) hkP hinit
  obtain ⟨vm₁, X₁, hstep₁⟩ := X.invokestatic hexec hown hlink hnamed hmethM hstatic hkP hinitP hy (g := g) hg (argsL := argsL) (rest := rest) (hlen _ hsigM) hstack hdg
  obtain ⟨v, B, X', hpost, hsteps⟩ := hK m meth c ⟨T.setVm vm₁, locs, cells, slots⟩ { g with stack := rest } (.invokestatic index) mk argsL.toArray X₁ hg hsize hdg hW (X₁.named hnamed) (hpre vm₁ X₁.warmed)
  exact ⟨v, vm₁, B, X₁.warmed, X', hpost, fun target h => hstep₁ _ fun acts => by rw [doInvoke_state]; exact hsteps.trans h⟩
theorem vx_runSW {y : MethodName} {bytes cc : ByteArray} {maxL nL mc ms n index : Nat} {ret : Option FieldType} {hh : List (Nat × Nat × Nat × Nat)} {ws : List Cond} {rm : Room} {Pc : Array Value → State → Prop} {Qc : Array Value → State → Outcome → State → Prop} {free : Addr → Prop} {Ts : List Cond} {own : String} {As rest : List Value} {g : JFrame}
    (S : CallFix p m c cc nL s args Ts own) (hM : Met l y ws rm Pc Qc mc ms free) (cw : vx_CSW R s args own index y bytes maxL ret hh ws rm mc ms n) (hp : PreS s H Pc As)
    (hg : g.method = m) (hn : As.length = n) (hsize : g.locals.size = nL) (hstack : g.stack = As.reverse ++ rest) (hW : 2 * g.monitorRoom + (rest.map fun v => v.category).sum ≤ 8) (hdg : decode cc g.pc = .ok (.invokestatic index, 3)) (hf : cells + mc ≤ R.cells ∧ slots + ms ≤ R.slots) :
    va_Run p l e R s m args below meth c H locs cells slots mc ms g rest (Qc As.toArray) (free) := by
  obtain ⟨⟨hrc, hrs, hfr, hlo, hws, hcw⟩, hcode, hini, hy, hlen, hl, hstt⟩ := cw
  have hK : Back l R p e below s args y 3 8 (PreOf R mc ms Pc) (PostOf Qc mc ms free) := va_backW (hh := hh) (bytes := bytes) (maxL := maxL) (ret := ret) hM hp.1 hrc hrs hfr hlo hws hcw (fun a' U hW => word_at hW (Or.inl (by first | rfl | simp [Cond.onTables, Cond.keeps, Cond.steady])) hini)
  obtain ⟨hx, hb, hml, ho, -⟩ := S
  intro T hT X
  obtain ⟨v, vm₁, ⟨U', l2, c2, s2⟩, hW₁, X', ⟨g', mk, t, L, e1, e2, hq, h1, hL, h2, h3⟩, st⟩ := vx_callSW X hx (hh := hh) (bytes := bytes) (maxL := maxL) (ret := ret) ho hl hstt hini hcode hy hK hg (hsize.trans hml.symm) (argsL := As) (rest := rest) (fun sig h => hn.trans (hlen sig h)) hstack hW (by rw [hb]; exact hdg)
    (fun vm₁ hW₁ => ⟨hf.1, hf.2, hp.2 (T.setVm vm₁) hT hW₁⟩)
  dsimp only [Pt.U, Pt.locs, Pt.cells, Pt.slots] at X' e1 e2 h1 h2 h3 st
  subst h1; subst h2; subst h3
  exact ⟨v, (T.setVm vm₁).calling g' mk As.toArray, t, U', L, hT, X', hL, e1, e2, hq, st⟩
/-- not caught here, past rows that name other classes: it goes on to the caller -/
theorem vx_outP {p : Program} {l : Launch} {e : Env} {R : Room} {s : State} {m : MethodId} {args : Array Value} {below : List Frame} {meth : Method} {c : Code} {H : Heap} {locs : List Loc} {cells slots : Nat} {free : Addr → Prop} {ls : Array Slot} {rest : List Value} {Qc : Array Value → State → Outcome → State → Prop} {XC : String → State → State → Prop}
    {pc : Nat} {own E : String} {ce : Cell} {q : Addr} {mc ms : Nat} (hown : s.vm.findClass own = some m.cls) (hlocks : meth.locks = false)
    (hpass : ∀ z ∈ c.exceptionTable.toList, covers z pc = false ∨ (z.catchType ≠ 0 ∧ ∃ nm : String, (Cond.classLink own z.catchType nm).before args s = true ∧ va_Nc E nm s)) (hcell : H[q]? = some ce) (hv : ce.vm = .none) (hcl : s.vm.findClass E = some ce.cls)
    (hx : ∀ t : State, t.heap = H → s.vm.Alike t.vm → XC E s t) (hf : ∀ z ∈ locs, free z.base) (hc : cells ≤ mc) (hs : slots ≤ ms) :
    vx_W p l e R s m args below meth c H locs cells slots (vx_MQ below Qc XC args s mc ms free) (F0 m pc ls rest) q := by
  intro T hT X
  have hpl : e.platform.magicAccessors = ({} : Platform).magicAccessors := by rw [X.admits.platform]
  obtain ⟨vm', hW', X', st⟩ := X.outThrough hlocks q (g := F0 m pc ls rest) rfl rfl rfl (cell := ce) (by rw [hT]; exact hcell) (by rw [hv]; rfl)
    (by obtain ⟨k9, h9, -⟩ := Vm.findClass_spec hcl; exact ⟨k9, h9⟩) (fun z hz => by
      rcases hpass z hz with h | ⟨hz0, nm, hl1, hn1⟩
      · exact Or.inl h
      · obtain ⟨c6, hc6, hcl6⟩ := Cond.classLink_spec hown hl1 e.platform hpl
        obtain ⟨a8, b8, h1, h2, h3⟩ := hn1
        cases Option.some.inj (h1.symm.trans hcl)
        cases Option.some.inj (h2.symm.trans hc6)
        exact Or.inr ⟨hz0, _, hcl6, h3⟩)
  obtain ⟨g₀, hfr⟩ := X'.frames_eq
  have hcell9 : ((T.setVm vm').setFrames (.throwing q :: below)).heap[q]? = some ce := by
    show T.heap[q]? = some ce
    rw [hT]; exact hcell
  have hend : Ended ((T.setVm vm').setFrames (.throwing q :: below)) below (.threw q) := State.frames_setFrames _ (State.cur_lt_of_frames hfr)
  refine ⟨(T.setVm vm').setFrames (.throwing q :: below), ?_, .threw q, X'.here.running, hend, Or.inr ⟨q, rfl, E, ce, locs, hx _ hT (X'.ends _).1.alike, hcell9, hv, hcl, (X'.ends _).1, (X'.ends _).2.mono hc hs, hf⟩⟩
  rw [X.pushThrowing_eq]
  exact st
/-- a thing of a world lies in the heap -/
theorem vx_lt {D : va_G} {cl : List vw_C} {ws : va_W} {H1 : Heap} (h : va_P D cl ws H1) {k : Nat} {q : Nat × va_E} (hk : ws[k]? = some q) : q.1 < H1.size := (h k q hk).lt
end VXS
/-! ===== END ===== -/
/-! ===== BEGIN methods with a table of their own: called by a name, returning or throwing ===== -/
section VXH
/-! vx_backW, vx_callVX, vx_callSX, vx_callVW, vx_runVW, vx_runVX, vx_runSX, vx_ofWH follow the same proofs as their sisters above (Free/Laws.lean, Shelf42/LK1.lean); vx_outP calls Shelf42/NT130.lean (outThrough). -/
section
variable {l : Launch} {R : Room} {p : Program} {e : Env} {below : List Frame} {s : State} {sargs : Array Value} {y : MethodName} {len W9 : Nat}
theorem vx_backW {ws : List Cond} {rm : Room} {Pc : Array Value → State → Prop} {Qc : Array Value → State → Outcome → State → Prop} {XC : String → State → State → Prop} {mc ms : Nat} {free : Addr → Prop} {bytes : ByteArray} {maxL : Nat} {ret : Option FieldType} {hh : List (Nat × Nat × Nat × Nat)}
    (hM : vx_Met l y ws rm Pc Qc XC mc ms free) (hblind : FrameBlind Pc) (hrc : rm.cells = mc) (hrs : rm.slots = ms)
    (hframes : rm.frames + 1 ≤ R.frames) (hlocals : W9 + (maxL + 11) + rm.locals ≤ R.locals)
    (hws : ∀ w ∈ ws, ∀ a' U, s.WarmedH U.vm → w.before a' U = true) (hcode : Cond.codeWith y bytes maxL ret hh ∈ ws) (hinit : ∀ a' U, s.WarmedH U.vm → (Cond.initialized y.cls).before a' U = true) :
    vx_Back l R p e below s sargs y len W9 (PreOf R mc ms Pc) (PostOf Qc mc ms free) (vx_Post XC mc ms free) := by
  intro m meth c A g ig mk a X hg hsize hdg hW hn hp
  have h1 : (headSpec ws rm).pre.before a A.U = true := atoms_intro fun w hw => hws w hw _ _ X.warmed
  have h2 : (Cond.codeWith y bytes maxL ret hh).before a A.U = true := hws _ hcode _ _ X.warmed
  have h3 : (Cond.initialized y.cls).before a A.U = true := hinit _ _ X.warmed
  have h4 : A.cells + (headSpec ws rm).room.cells ≤ R.cells := by rw [show (headSpec ws rm).room.cells = mc from hrc]; exact hp.1
  have h5 : A.slots + (headSpec ws rm).room.slots ≤ R.slots := by rw [show (headSpec ws rm).room.slots = ms from hrs]; exact hp.2.1
  have hPc : Pc a (A.U.calling g mk a) := hblind _ _ _ _ hp.2.2
  obtain ⟨U, Ls, c0, s0⟩ := A
  dsimp only [Pt.U, Pt.locs, Pt.cells, Pt.slots] at h1 h2 h3 h4 h5 X hn hPc ⊢
  obtain ⟨m9, methY, cY, hn9, hmY, hcY, -, hlY, -⟩ := Cond.codeWith_spec h2
  cases Option.some.inj (hn9.symm.trans hn)
  obtain ⟨kY, hkY, -⟩ := className_of_methodNamed hn
  have hinitY : kY.init = .initialized := Cond.initialized_spec (findClass_of_methodNamed hn) hkY h3
  have h : At U g.method c below := by rw [hg]; exact X.here
  have hlocals9 : W9 + (maxL + 11) + (headSpec ws rm).room.locals ≤ R.locals := hlocals
  have happ : (headSpec ws rm).appliesLoose y e.platform (U.calling g mk a) = true :=
    Spec.appliesLoose_calling (g := g) h hdg hn hkY hinitY
      (X.room_calling (g := g) (R' := (headSpec ws rm).room) hsize hmY hcY hframes (by rw [hlY]; omega) h4 h5) h1
  obtain ⟨mid, hmid⟩ := h.above
  have hfr : (U.setTop g).frames = (.java g :: mid) ++ below := by rw [State.frames_setTop' g h.top, hmid]; rfl
  obtain ⟨o, s₂, hsteps, -, hend, hq⟩ := Steps.callFree hM p X.admits X.cas X.clock (acts := []) hfr happ hPc trivial
  have hq' : vx_Q Qc XC mc ms free a (U.calling g mk a) o s₂ := hq
  rw [State.frames_setTop' g h.top] at hend
  obtain ⟨g₀, hg0⟩ := Option.isSome_iff_exists.mp h.top
  obtain ⟨r, hr⟩ := State.topJava?_eq_some.mp hg0
  have hr' : (({ U with heap := s₂.heap, slotsUsed := s₂.slotsUsed } : State).setVm s₂.vm).frames = .java g₀ :: r := hr
  rcases hq' with ⟨hqc, L, hfe, hL⟩ | ⟨q, rfl, E, ce, L, hx, hce, hcv, hcl, hW₂, hsm, hL⟩
  · obtain ⟨⟨v, rfl⟩, hW₂, e2, q2, q3, q4, q5, q6⟩ := id hfe
    have e3 : s₂ = ({ (U.calling g mk a).setFrames s₂.frames with heap := s₂.heap, slotsUsed := s₂.slotsUsed } : State).setVm s₂.vm := by
      have : s₂ = ({ s₂ with vm := (U.calling g mk a).vm } : State).setVm s₂.vm := rfl
      rw [e2] at this
      exact this
    obtain ⟨c₂, i₂, len₂, hc₂, hd₂, hf₂⟩ := hend
    have hW' : U.WarmedH s₂.vm := hW₂
    have hcc : c₂ = c := by
      have h1 : s₂.code? g.method = U.code? g.method := by
        rw [State.code?_eq, State.code?_eq, hW'.alike.method?]
      exact Option.some.inj (hc₂.symm.trans (h1.trans h.code))
    subst hcc
    have hlen : len₂ = len := by rw [hdg] at hd₂; cases hd₂; rfl
    subst hlen
    have hs₂ : s₂ = (({ U with heap := s₂.heap, slotsUsed := s₂.slotsUsed } : State).setVm s₂.vm).setTop { g with pc := g.pc + len₂, stack := v.toList ++ g.stack } := by
      refine e3.trans ?_
      rw [hf₂, State.calling_eq h.top, State.setFrames_setFrames, State.setTop_of_frames _ hr', hr]
      rfl
    have hsame : U.sameButNew ({ U with heap := s₂.heap, slotsUsed := s₂.slotsUsed } : State) L mc ms := by
      refine ⟨?_, q2, q3, q4, q5, q6⟩
      obtain ⟨t, ht, -⟩ := State.frames_cons hr
      show ({ U with heap := s₂.heap, slotsUsed := s₂.slotsUsed } : State) = { U.setFrames U.frames with heap := s₂.heap, slotsUsed := s₂.slotsUsed }
      rw [State.setFrames_self ht]
    subst hg
    refine Or.inl ⟨v, ⟨(({ U with heap := s₂.heap, slotsUsed := s₂.slotsUsed } : State).setVm s₂.vm), Ls ++ L, c0 + mc, s0 + ms⟩,
      ⟨X.admits, X.cas, X.clock, X.frames, X.room, X.hears, X.method, X.code, (X.here.setHeapUsed s₂.heap s₂.slotsUsed).setVm hW'.alike, X.tail, State.WarmedH.trans X.warmed hW', X.limits, X.bytes, X.same.trans (hsame.setVm s.vm)⟩,
      ⟨g, mk, s₂, L, rfl, rfl, hqc, rfl, hL, rfl, rfl⟩, ?_⟩
    show Steps p.tables e below _ ((({ U with heap := s₂.heap, slotsUsed := s₂.slotsUsed } : State).setVm s₂.vm).setTop { g with pc := g.pc + len₂, stack := v.toList ++ g.stack })
    rw [← hs₂]
    exact hsteps
  · obtain ⟨e2, q2, q3, q4, q5, q6⟩ := id hsm
    have e3 : s₂ = ({ (U.calling g mk a).setFrames s₂.frames with heap := s₂.heap, slotsUsed := s₂.slotsUsed } : State).setVm s₂.vm := by
      have : s₂ = ({ s₂ with vm := (U.calling g mk a).vm } : State).setVm s₂.vm := rfl
      rw [e2] at this
      exact this
    have hf₂ : s₂.frames = .throwing q :: .java g :: U.frames.tail := hend
    have hW' : U.WarmedH s₂.vm := hW₂
    have hs₂ : s₂ = ((({ U with heap := s₂.heap, slotsUsed := s₂.slotsUsed } : State).setVm s₂.vm).setTop g).pushFrame (.throwing q) := by
      refine e3.trans ?_
      rw [hf₂, State.calling_eq h.top, State.setFrames_setFrames, State.pushFrame, State.frames_setTop _ hr', State.setTop_of_frames _ hr', State.setFrames_setFrames, hr]
      rfl
    have hsame : U.sameButNew ({ U with heap := s₂.heap, slotsUsed := s₂.slotsUsed } : State) L mc ms := by
      refine ⟨?_, q2, q3, q4, q5, q6⟩
      obtain ⟨t, ht, -⟩ := State.frames_cons hr
      show ({ U with heap := s₂.heap, slotsUsed := s₂.slotsUsed } : State) = { U.setFrames U.frames with heap := s₂.heap, slotsUsed := s₂.slotsUsed }
      rw [State.setFrames_self ht]
    subst hg
    refine Or.inr ⟨q, ⟨(({ U with heap := s₂.heap, slotsUsed := s₂.slotsUsed } : State).setVm s₂.vm), Ls ++ L, c0 + mc, s0 + ms⟩,
      ⟨X.admits, X.cas, X.clock, X.frames, X.room, X.hears, X.method, X.code, (X.here.setHeapUsed s₂.heap s₂.slotsUsed).setVm hW'.alike, X.tail, State.WarmedH.trans X.warmed hW', X.limits, X.bytes, X.same.trans (hsame.setVm s.vm)⟩,
      ⟨g, mk, s₂, L, E, ce, rfl, rfl, hx, hce, hcv, hcl, rfl, hL, rfl, rfl⟩, ?_⟩
    show Steps p.tables e below _ (((({ U with heap := s₂.heap, slotsUsed := s₂.slotsUsed } : State).setVm s₂.vm).setTop g).pushFrame (.throwing q))
    rw [← hs₂]
    exact hsteps
end
variable {p : Program} {l : Launch} {e : Env} {R : Room} {s : State} {m : MethodId} {args : Array Value} {below : List Frame} {meth : Method} {c : Code} {T : State} {H : Heap} {locs : List Loc} {cells slots : Nat}
theorem vx_callVX (X : Stand p l e R s m args below meth c T locs cells slots) (hexec : p.tables.exec = Jvm.exec) {own C : String} {index : Nat} {y : MethodName} {bytes : ByteArray} {maxL : Nat} {ret : Option FieldType} {hh : List (Nat × Nat × Nat × Nat)}
    (hown : s.vm.findClass own = some m.cls) (hlink : (Cond.methodLink own index y).before args s = true) (hinst : (Cond.instanceMethod y).before args s = true) (hsel : (Cond.selects C y y).before args s = true)
    (hcode : (Cond.codeWith y bytes maxL ret hh).before args s = true) (hy : y.cls ≠ "java/lang/invoke/MethodHandle" ∧ y.cls ≠ "java/lang/invoke/VarHandle")
    {W9 : Nat} {Pre : Pt → Array Value → Prop} {Post : Pt → Array Value → Option Value → Pt → Prop} {PostX : Pt → Array Value → Addr → Pt → Prop} (hK : vx_Back l R p e below s args y 3 W9 Pre Post PostX)
    {b : Addr} {cellB : Cell} (hcell : T.heap[b]? = some cellB) (hobj : cellB.vm.isStatics = false) (hcls : s.vm.findClass C = some cellB.cls)
    {g : JFrame} (hg : g.method = m) (hsize : g.locals.size = c.maxLocals) {argsL rest : List Value} (hlen : ∀ sig, parseMethodDescriptor y.desc = some sig → argsL.length = sig.parameters.length)
    (hstack : g.stack = argsL.reverse ++ .ref b :: rest) (hW : 2 * g.monitorRoom + (rest.map fun v => v.category).sum ≤ W9) (hdg : decode c.code g.pc = .ok (.invokevirtual index, 3))
    (hpre : ∀ vm₁, s.WarmedH vm₁ → Pre ⟨T.setVm vm₁, locs, cells, slots⟩ (Value.ref b :: argsL).toArray) :
    (∃ (v : Option Value) (vm₁ : Vm) (B : Pt), s.WarmedH vm₁ ∧ Stand p l e R s m args below meth c B.U B.locs B.cells B.slots ∧ Post ⟨T.setVm vm₁, locs, cells, slots⟩ (Value.ref b :: argsL).toArray v B ∧
      ∀ target, Steps p.tables e below (B.U.setTop { g with pc := g.pc + 3, stack := v.toList ++ rest }) target → Steps p.tables e below (T.setTop g) target) ∨
    (∃ (q : Addr) (vm₁ : Vm) (B : Pt), s.WarmedH vm₁ ∧ Stand p l e R s m args below meth c B.U B.locs B.cells B.slots ∧ PostX ⟨T.setVm vm₁, locs, cells, slots⟩ (Value.ref b :: argsL).toArray q B ∧
      Steps p.tables e below (T.setTop g) ((B.U.setTop { g with stack := rest }).pushFrame (.throwing q))) := by
  obtain ⟨mk, methM, hnamed, hmethM, hstM, habM⟩ := Cond.instanceMethod_spec hinst
  obtain ⟨m8, methM', cM, hn8, hmethM', -, -, -, -, -, -, hsigM⟩ := Cond.codeWith_spec hcode
  cases Option.some.inj (hn8.symm.trans hnamed)
  cases hmethM.symm.trans hmethM'
  obtain ⟨c2, r2, m2, q1, q2, q3, q4, kP, hkP, hkPi⟩ := Cond.selects_spec hsel
  cases hcls.symm.trans q1
  cases (State.methodFound?_of_named hnamed hy).symm.trans q2
  cases hnamed.symm.trans q3
  have hselP : selectMethod e.platform s.vm cellB.cls mk = .method mk := by rw [Launch.admits_selectMethod X.admits]; exact q4
  obtain ⟨vm₁, X₁, hstep₁⟩ := X.invokevirtual hexec hown hlink hnamed hmethM hstM hkP hkPi hy (a := b) (cell := cellB) hcell
    (fun z h => by rw [h] at hobj; cases hobj) hselP hmethM habM hkP hkPi (g := g) hg (argsL := argsL) (rest := rest) (hlen _ hsigM) hstack hdg
  rcases hK m meth c ⟨T.setVm vm₁, locs, cells, slots⟩ { g with stack := rest } (.invokevirtual index) mk (Value.ref b :: argsL).toArray X₁ hg hsize hdg hW (X₁.named hnamed) (hpre vm₁ X₁.warmed) with ⟨v, B, X', hpost, hsteps⟩ | ⟨q, B, X', hpost, hsteps⟩
  · exact Or.inl ⟨v, vm₁, B, X₁.warmed, X', hpost, fun target h => hstep₁ _ fun acts => by rw [doInvoke_state]; exact hsteps.trans h⟩
  · exact Or.inr ⟨q, vm₁, B, X₁.warmed, X', hpost, hstep₁ _ fun acts => by rw [doInvoke_state]; exact hsteps⟩
theorem vx_callSX (X : Stand p l e R s m args below meth c T locs cells slots) (hexec : p.tables.exec = Jvm.exec) {own : String} {index : Nat} {y : MethodName} {bytes : ByteArray} {maxL : Nat} {ret : Option FieldType} {hh : List (Nat × Nat × Nat × Nat)}
    (hown : s.vm.findClass own = some m.cls) (hlink : (Cond.methodLink own index y).before args s = true) (hstat : (Cond.static y).before args s = true) (hinit : (Cond.initialized y.cls).before args s = true)
    (hcode : (Cond.codeWith y bytes maxL ret hh).before args s = true) (hy : y.cls ≠ "java/lang/invoke/MethodHandle" ∧ y.cls ≠ "java/lang/invoke/VarHandle")
    {W9 : Nat} {Pre : Pt → Array Value → Prop} {Post : Pt → Array Value → Option Value → Pt → Prop} {PostX : Pt → Array Value → Addr → Pt → Prop} (hK : vx_Back l R p e below s args y 3 W9 Pre Post PostX)
    {g : JFrame} (hg : g.method = m) (hsize : g.locals.size = c.maxLocals) {argsL rest : List Value} (hlen : ∀ sig, parseMethodDescriptor y.desc = some sig → argsL.length = sig.parameters.length)
    (hstack : g.stack = argsL.reverse ++ rest) (hW : 2 * g.monitorRoom + (rest.map fun v => v.category).sum ≤ W9) (hdg : decode c.code g.pc = .ok (.invokestatic index, 3))
    (hpre : ∀ vm₁, s.WarmedH vm₁ → Pre ⟨T.setVm vm₁, locs, cells, slots⟩ argsL.toArray) :
    (∃ (v : Option Value) (vm₁ : Vm) (B : Pt), s.WarmedH vm₁ ∧ Stand p l e R s m args below meth c B.U B.locs B.cells B.slots ∧ Post ⟨T.setVm vm₁, locs, cells, slots⟩ argsL.toArray v B ∧
      ∀ target, Steps p.tables e below (B.U.setTop { g with pc := g.pc + 3, stack := v.toList ++ rest }) target → Steps p.tables e below (T.setTop g) target) ∨
    (∃ (q : Addr) (vm₁ : Vm) (B : Pt), s.WarmedH vm₁ ∧ Stand p l e R s m args below meth c B.U B.locs B.cells B.slots ∧ PostX ⟨T.setVm vm₁, locs, cells, slots⟩ argsL.toArray q B ∧
      Steps p.tables e below (T.setTop g) ((B.U.setTop { g with stack := rest }).pushFrame (.throwing q))) := by
  obtain ⟨mk, methM, cM, hnamed, hmethM, -, -, -, -, -, -, hsigM⟩ := Cond.codeWith_spec hcode
  have hstatic : methM.isStatic = true := Cond.static_spec hnamed hmethM hstat
  obtain ⟨kP, hkP, -⟩ := className_of_methodNamed hnamed
  have hinitP : kP.init = .initialized := Cond.initialized_spec (findClass_of_methodNamed hnamed) hkP hinit
  obtain ⟨vm₁, X₁, hstep₁⟩ := X.invokestatic hexec hown hlink hnamed hmethM hstatic hkP hinitP hy (g := g) hg (argsL := argsL) (rest := rest) (hlen _ hsigM) hstack hdg
  rcases hK m meth c ⟨T.setVm vm₁, locs, cells, slots⟩ { g with stack := rest } (.invokestatic index) mk argsL.toArray X₁ hg hsize hdg hW (X₁.named hnamed) (hpre vm₁ X₁.warmed) with ⟨v, B, X', hpost, hsteps⟩ | ⟨q, B, X', hpost, hsteps⟩
  · exact Or.inl ⟨v, vm₁, B, X₁.warmed, X', hpost, fun target h => hstep₁ _ fun acts => by rw [doInvoke_state]; exact hsteps.trans h⟩
  · exact Or.inr ⟨q, vm₁, B, X₁.warmed, X', hpost, hstep₁ _ fun acts => by rw [doInvoke_state]; exact hsteps⟩
theorem vx_callVW (X : Stand p l e R s m args below meth c T locs cells slots) (hexec : p.tables.exec = Jvm.exec) {own C : String} {index : Nat} {y : MethodName} {bytes : ByteArray} {maxL : Nat} {ret : Option FieldType} {hh : List (Nat × Nat × Nat × Nat)}
    (hown : s.vm.findClass own = some m.cls) (hlink : (Cond.methodLink own index y).before args s = true) (hinst : (Cond.instanceMethod y).before args s = true) (hsel : (Cond.selects C y y).before args s = true)
    (hcode : (Cond.codeWith y bytes maxL ret hh).before args s = true) (hy : y.cls ≠ "java/lang/invoke/MethodHandle" ∧ y.cls ≠ "java/lang/invoke/VarHandle")
    {W9 : Nat} {Pre : Pt → Array Value → Prop} {Post : Pt → Array Value → Option Value → Pt → Prop} (hK : Back l R p e below s args y 3 W9 Pre Post)
    {b : Addr} {cellB : Cell} (hcell : T.heap[b]? = some cellB) (hobj : cellB.vm.isStatics = false) (hcls : s.vm.findClass C = some cellB.cls)
    {g : JFrame} (hg : g.method = m) (hsize : g.locals.size = c.maxLocals) {argsL rest : List Value} (hlen : ∀ sig, parseMethodDescriptor y.desc = some sig → argsL.length = sig.parameters.length)
    (hstack : g.stack = argsL.reverse ++ .ref b :: rest) (hW : 2 * g.monitorRoom + (rest.map fun v => v.category).sum ≤ W9) (hdg : decode c.code g.pc = .ok (.invokevirtual index, 3))
    (hpre : ∀ vm₁, s.WarmedH vm₁ → Pre ⟨T.setVm vm₁, locs, cells, slots⟩ (Value.ref b :: argsL).toArray) :
    ∃ (v : Option Value) (vm₁ : Vm) (B : Pt), s.WarmedH vm₁ ∧ Stand p l e R s m args below meth c B.U B.locs B.cells B.slots ∧ Post ⟨T.setVm vm₁, locs, cells, slots⟩ (Value.ref b :: argsL).toArray v B ∧
      ∀ target, Steps p.tables e below (B.U.setTop { g with pc := g.pc + 3, stack := v.toList ++ rest }) target → Steps p.tables e below (T.setTop g) target := by
  obtain ⟨mk, methM, hnamed, hmethM, hstM, habM⟩ := Cond.instanceMethod_spec hinst
  obtain ⟨m8, methM', cM, hn8, hmethM', -, -, -, -, -, -, hsigM⟩ := Cond.codeWith_spec hcode
  cases Option.some.inj (hn8.symm.trans hnamed)
  cases hmethM.symm.trans hmethM'
  obtain ⟨c2, r2, m2, q1, q2, q3, q4, kP, hkP, hkPi⟩ := Cond.selects_spec hsel
  cases hcls.symm.trans q1
  cases (State.methodFound?_of_named hnamed hy).symm.trans q2
  cases hnamed.symm.trans q3
  have hselP : selectMethod e.platform s.vm cellB.cls mk = .method mk := by rw [Launch.admits_selectMethod X.admits]; exact q4
  obtain ⟨vm₁, X₁, hstep₁⟩ := X.invokevirtual hexec hown hlink hnamed hmethM hstM hkP hkPi hy (a := b) (cell := cellB) hcell
    (fun z h => by rw [h] at hobj; cases hobj) hselP hmethM habM hkP hkPi (g := g) hg (argsL := argsL) (rest := rest) (hlen _ hsigM) hstack hdg
  obtain ⟨v, B, X', hpost, hsteps⟩ := hK m meth c ⟨T.setVm vm₁, locs, cells, slots⟩ { g with stack := rest } (.invokevirtual index) mk (Value.ref b :: argsL).toArray X₁ hg hsize hdg hW (X₁.named hnamed) (hpre vm₁ X₁.warmed)
  exact ⟨v, vm₁, B, X₁.warmed, X', hpost, fun target h => hstep₁ _ fun acts => by rw [doInvoke_state]; exact hsteps.trans h⟩
abbrev vx_CVW (R : Room) (s : State) (args : Array Value) (own C : String) (index : Nat) (y : MethodName) (bytes : ByteArray) (maxL : Nat) (ret : Option FieldType) (hh : List (Nat × Nat × Nat × Nat)) (ws : List Cond) (rm : Room) (mc ms n : Nat) : Prop :=
  (rm.cells = mc ∧ rm.slots = ms ∧ rm.frames + 1 ≤ R.frames ∧ 8 + (maxL + 11) + rm.locals ≤ R.locals ∧ (∀ w ∈ ws, ∀ (a' : Array Value) (U : State), s.WarmedH U.vm → w.before a' U = true) ∧ Cond.codeWith y bytes maxL ret hh ∈ ws) ∧
  (Cond.codeWith y bytes maxL ret hh).before args s = true ∧ (Cond.initialized y.cls).before args s = true ∧ (y.cls ≠ "java/lang/invoke/MethodHandle" ∧ y.cls ≠ "java/lang/invoke/VarHandle") ∧
  (∀ sig, parseMethodDescriptor y.desc = some sig → n = sig.parameters.length) ∧ (Cond.methodLink own index y).before args s = true ∧ (Cond.instanceMethod y).before args s = true ∧ (Cond.selects C y y).before args s = true
theorem vx_cwVW {own C : String} {index maxL mc ms : Nat} {y : MethodName} {bytes : ByteArray} {ret : Option FieldType} {hh : List (Nat × Nat × Nat × Nat)} {Ts ws ws' : List Cond} {rm : Room} (n : Nat) (ht : ∀ w ∈ Ts, w.before args s = true) (hT : GoodIn Ts (wsV own index C y ws)) (hw : ws = Cond.codeWith y bytes maxL ret hh :: ws') (hrc : rm.cells = mc) (hrs : rm.slots = ms)
    (hd : y.cls = C ∧ y.cls ≠ "java/lang/invoke/MethodHandle" ∧ y.cls ≠ "java/lang/invoke/VarHandle" ∧ (parseMethodDescriptor y.desc).map (fun d => d.parameters.length) = some n) (hR : rm.frames + 1 ≤ R.frames ∧ 8 + (maxL + 11) + rm.locals ≤ R.locals) :
    vx_CVW R s args own C index y bytes maxL ret hh ws rm mc ms n := by
  obtain ⟨hC, hd⟩ := hd
  subst hC
  have ok : ∀ w ∈ wsV own index y.cls y ws, w.before args s = true := fun w h => ht w (hT w h).1
  have hG : GoodIn Ts ws := fun w h => hT w (by unfold wsV; exact List.mem_append_right _ h)
  have hc : Cond.codeWith y bytes maxL ret hh ∈ ws := by rw [hw]; exact List.mem_cons_self
  refine ⟨⟨hrc, hrs, hR.1, hR.2, pay_in ht hG, hc⟩, ht _ (hG _ hc).1, ok _ (by simp [wsV]), ⟨hd.1, hd.2.1⟩, fun sig h => ?_, ok _ (by simp [wsV]), ok _ (by simp [wsV]), ok _ (by simp [wsV])⟩
  have h2 := hd.2.2
  rw [h] at h2
  exact (Option.some.inj h2).symm
theorem vx_runVW {y : MethodName} {bytes cc : ByteArray} {maxL nL mc ms n index : Nat} {ret : Option FieldType} {hh : List (Nat × Nat × Nat × Nat)} {ws : List Cond} {rm : Room} {Pc : Array Value → State → Prop} {Qc : Array Value → State → Outcome → State → Prop} {free : Addr → Prop} {Ts : List Cond} {own C : String} {b : Addr} {As rest : List Value} {g : JFrame}
    (S : CallFix p m c cc nL s args Ts own) (hM : Met l y ws rm Pc Qc mc ms free) (cw : vx_CVW R s args own C index y bytes maxL ret hh ws rm mc ms n) (hp : PreV s H C b Pc As)
    (hg : g.method = m) (hn : As.length = n) (hsize : g.locals.size = nL) (hstack : g.stack = As.reverse ++ .ref b :: rest) (hW : 2 * g.monitorRoom + (rest.map fun v => v.category).sum ≤ 8) (hdg : decode cc g.pc = .ok (.invokevirtual index, 3)) (hf : cells + mc ≤ R.cells ∧ slots + ms ≤ R.slots) :
    va_Run p l e R s m args below meth c H locs cells slots mc ms g rest (Qc (Value.ref b :: As).toArray) free := by
  obtain ⟨⟨hrc, hrs, hfr, hlo, hws, hcw⟩, hcode, hini, hy, hlen, hl, hin, hse⟩ := cw
  have hK : Back l R p e below s args y 3 8 (PreOf R mc ms Pc) (PostOf Qc mc ms free) := va_backW (hh := hh) (bytes := bytes) (maxL := maxL) (ret := ret) hM hp.1 hrc hrs hfr hlo hws hcw (fun a' U hW => word_at hW (Or.inl (by first | rfl | simp [Cond.onTables, Cond.keeps, Cond.steady])) hini)
  obtain ⟨hx, hb, hml, ho, -⟩ := S
  obtain ⟨-, ⟨cellB, hcB, hoB, hclB⟩, hPc⟩ := hp
  intro T hT X
  obtain ⟨v, vm₁, ⟨U', l2, c2, s2⟩, hW₁, X', ⟨g', mk, t, L, e1, e2, hq, h1, hL, h2, h3⟩, st⟩ := vx_callVW X hx (C := C) (hh := hh) (bytes := bytes) (maxL := maxL) (ret := ret) ho hl hin hse hcode hy hK (by rw [hT]; exact hcB) hoB hclB hg (hsize.trans hml.symm) (argsL := As) (rest := rest) (fun sig h => hn.trans (hlen sig h)) hstack hW (by rw [hb]; exact hdg)
    (fun vm₁ hW₁ => ⟨hf.1, hf.2, hPc (T.setVm vm₁) hT hW₁⟩)
  dsimp only [Pt.U, Pt.locs, Pt.cells, Pt.slots] at X' e1 e2 h1 h2 h3 st
  subst h1; subst h2; subst h3
  exact ⟨v, (T.setVm vm₁).calling g' mk (Value.ref b :: As).toArray, t, U', L, hT, X', hL, e1, e2, hq, st⟩
section
variable {y : MethodName} {bytes cc : ByteArray} {maxL nL mc ms n index : Nat} {ret : Option FieldType} {ws : List Cond} {rm : Room} {Pc : Array Value → State → Prop} {Qc : Array Value → State → Outcome → State → Prop} {XC : String → State → State → Prop} {free : Addr → Prop} {Ts : List Cond} {own C : String} {b : Addr} {As rest : List Value} {g : JFrame}
theorem vx_runVX {hh : List (Nat × Nat × Nat × Nat)} (S : CallFix p m c cc nL s args Ts own) (hM : vx_Met l y ws rm Pc Qc XC mc ms free) (cw : vx_CVW R s args own C index y bytes maxL ret hh ws rm mc ms n) (hp : PreV s H C b Pc As)
    (hg : g.method = m) (hn : As.length = n) (hsize : g.locals.size = nL) (hstack : g.stack = As.reverse ++ .ref b :: rest) (hW : 2 * g.monitorRoom + (rest.map fun v => v.category).sum ≤ 8) (hdg : decode cc g.pc = .ok (.invokevirtual index, 3)) (hf : cells + mc ≤ R.cells ∧ slots + ms ≤ R.slots) :
    vx_Run p l e R s m args below meth c H locs cells slots mc ms g rest (Qc (Value.ref b :: As).toArray) XC free := by
  obtain ⟨⟨hrc, hrs, hfr, hlo, hws, hcw⟩, hcode, hini, hy, hlen, hl, hin, hse⟩ := cw
  have hK : vx_Back l R p e below s args y 3 8 (PreOf R mc ms Pc) (PostOf Qc mc ms free) (vx_Post XC mc ms free) := vx_backW (hh := hh) (bytes := bytes) (maxL := maxL) (ret := ret) hM hp.1 hrc hrs hfr hlo hws hcw (fun a' U hW => word_at hW (Or.inl (by first | rfl | simp [Cond.onTables, Cond.keeps, Cond.steady])) hini)
  obtain ⟨hx, hb, hml, ho, -⟩ := S
  obtain ⟨-, ⟨cellB, hcB, hoB, hclB⟩, hPc⟩ := hp
  intro T hT X
  rcases vx_callVX X hx (C := C) (hh := hh) (bytes := bytes) (maxL := maxL) (ret := ret) ho hl hin hse hcode hy hK (by rw [hT]; exact hcB) hoB hclB hg (hsize.trans hml.symm) (argsL := As) (rest := rest) (fun sig h => hn.trans (hlen sig h)) hstack hW (by rw [hb]; exact hdg)
    (fun vm₁ hW₁ => ⟨hf.1, hf.2, hPc (T.setVm vm₁) hT hW₁⟩) with ⟨v, vm₁, ⟨U', l2, c2, s2⟩, hW₁, X', ⟨g', mk, t, L, e1, e2, hq, h1, hL, h2, h3⟩, st⟩ | ⟨q, vm₁, ⟨U', l2, c2, s2⟩, hW₁, X', ⟨g', mk, t, L, E, ce, e1, e2, hq, hce, hcv, hcl, h1, hL, h2, h3⟩, st⟩
  · dsimp only [Pt.U, Pt.locs, Pt.cells, Pt.slots] at X' e1 e2 h1 h2 h3 st
    subst h1; subst h2; subst h3
    exact Or.inl ⟨v, (T.setVm vm₁).calling g' mk (Value.ref b :: As).toArray, t, U', L, hT, X', hL, e1, e2, hq, st⟩
  · dsimp only [Pt.U, Pt.locs, Pt.cells, Pt.slots] at X' e1 e2 h1 h2 h3 st hcl
    subst h1; subst h2; subst h3
    exact Or.inr ⟨q, (T.setVm vm₁).calling g' mk (Value.ref b :: As).toArray, t, U', L, E, ce, hT, X', hL, e1, e2, hq, hce, hcv, vx_cls hW₁ hcl, st⟩
theorem vx_runSX {hh : List (Nat × Nat × Nat × Nat)} (S : CallFix p m c cc nL s args Ts own) (hM : vx_Met l y ws rm Pc Qc XC mc ms free) (cw : vx_CSW R s args own index y bytes maxL ret hh ws rm mc ms n) (hp : PreS s H Pc As)
    (hg : g.method = m) (hn : As.length = n) (hsize : g.locals.size = nL) (hstack : g.stack = As.reverse ++ rest) (hW : 2 * g.monitorRoom + (rest.map fun v => v.category).sum ≤ 8) (hdg : decode cc g.pc = .ok (.invokestatic index, 3)) (hf : cells + mc ≤ R.cells ∧ slots + ms ≤ R.slots) :
    vx_Run p l e R s m args below meth c H locs cells slots mc ms g rest (Qc As.toArray) XC free := by
  obtain ⟨⟨hrc, hrs, hfr, hlo, hws, hcw⟩, hcode, hini, hy, hlen, hl, hstt⟩ := cw
  have hK : vx_Back l R p e below s args y 3 8 (PreOf R mc ms Pc) (PostOf Qc mc ms free) (vx_Post XC mc ms free) := vx_backW (hh := hh) (bytes := bytes) (maxL := maxL) (ret := ret) hM hp.1 hrc hrs hfr hlo hws hcw (fun a' U hW => word_at hW (Or.inl (by first | rfl | simp [Cond.onTables, Cond.keeps, Cond.steady])) hini)
  obtain ⟨hx, hb, hml, ho, -⟩ := S
  intro T hT X
  rcases vx_callSX X hx (hh := hh) (bytes := bytes) (maxL := maxL) (ret := ret) ho hl hstt hini hcode hy hK hg (hsize.trans hml.symm) (argsL := As) (rest := rest) (fun sig h => hn.trans (hlen sig h)) hstack hW (by rw [hb]; exact hdg)
    (fun vm₁ hW₁ => ⟨hf.1, hf.2, hp.2 (T.setVm vm₁) hT hW₁⟩) with ⟨v, vm₁, ⟨U', l2, c2, s2⟩, hW₁, X', ⟨g', mk, t, L, e1, e2, hq, h1, hL, h2, h3⟩, st⟩ | ⟨q, vm₁, ⟨U', l2, c2, s2⟩, hW₁, X', ⟨g', mk, t, L, E, ce, e1, e2, hq, hce, hcv, hcl, h1, hL, h2, h3⟩, st⟩
  · dsimp only [Pt.U, Pt.locs, Pt.cells, Pt.slots] at X' e1 e2 h1 h2 h3 st
    subst h1; subst h2; subst h3
    exact Or.inl ⟨v, (T.setVm vm₁).calling g' mk As.toArray, t, U', L, hT, X', hL, e1, e2, hq, st⟩
  · dsimp only [Pt.U, Pt.locs, Pt.cells, Pt.slots] at X' e1 e2 h1 h2 h3 st hcl
    subst h1; subst h2; subst h3
    exact Or.inr ⟨q, (T.setVm vm₁).calling g' mk As.toArray, t, U', L, E, ce, hT, X', hL, e1, e2, hq, hce, hcv, vx_cls hW₁ hcl, st⟩
end
end VXH
theorem vx_ofWH {l : Launch} {y : MethodName} {ws ws' : List Cond} {rm : Room} {Pc : Array Value → State → Prop} {Qc : Array Value → State → Outcome → State → Prop} {XC : String → State → State → Prop} {mc ms : Nat} {free : Addr → Prop} {cc : ByteArray} {maxL : Nat} {ret : Option FieldType} {hh : List (Nat × Nat × Nat × Nat)}
    (hy : plainName y.cls = true) (hw : ws = Cond.codeWith y cc maxL ret hh :: ws')
    (body : ∀ p e s m args below meth c s₁, BodyLoose p l y (headSpec ws rm) cc maxL ret e s m args below meth c s₁ → c.maxLocals = maxL → Pc args s →
      W p l e (headSpec ws rm).room s m args below meth c s.heap [] 0 0 (vx_MQ below Qc XC args s mc ms free) (entryFrame m args maxL)) : vx_Met l y ws rm Pc Qc XC mc ms free := by
  refine MetFree.of_bodyS (code := cc) (maxLocals := maxL) (ret := ret) hy ?_ ?_
  · intro args s m h hn
    obtain ⟨m9, meth, c, hn9, h1, h2, h3, h4, -, h5, h6, -⟩ := Cond.codeWith_spec (atoms_spec (ws := ws) h _ (by rw [hw]; exact List.mem_cons_self))
    cases hn.symm.trans hn9
    exact ⟨meth, c, h1, h2, h3, h4, h5, h6⟩
  · intro p e s m args below meth c s₁ B hml hP _
    have hh0 : s₁.heap = s.heap := by rw [B.state]; rfl
    obtain ⟨t, a1, o, b1, b2, b3⟩ := body p e s m args below meth c s₁ B hml hP s₁ hh0 (Stand.of_body B)
    exact ⟨t, o, a1, b1, b2, b3⟩
/-! ===== END ===== -/
end
section
/-! own names: classes, fields, methods (names.py) -/
def R0 : String := "ServiceDesk$Rows"
def T0 : u_T := fun k => match k with
  | 0 => ("ServiceDesk$Rows", "numbers", "[I", true)
  | _ => ("ServiceDesk$Rows", "kept", "I", false)
def ty0 : Nat → FieldType := fun k => match k with
  | 0 => .array .int
  | _ => .int
theorem nm0 : ∀ a, a < 2 → ∀ b, b < 2 → a ≠ b → (T0 a).2.1 ≠ (T0 b).2.1 := by decide +kernel
theorem tyok0 : ∀ k, k < 2 → parseFieldDescriptor (T0 k).2.2.1 = some (ty0 k) := by decide +kernel
def R1 : String := "ServiceDesk$Subjects"
def T1 : u_T := fun k => match k with
  | 0 => ("ServiceDesk$Subjects", "made", "[I", true)
  | 1 => ("ServiceDesk$Subjects", "aboves", "[I", true)
  | 2 => ("ServiceDesk$Subjects", "open", "[Z", true)
  | 3 => ("ServiceDesk$Subjects", "sums", "[I", true)
  | 4 => ("ServiceDesk$Subjects", "lengths", "[I", true)
  | _ => ("ServiceDesk$Subjects", "bytes", "[B", true)
def ty1 : Nat → FieldType := fun k => match k with
  | 0 => .array .int
  | 1 => .array .int
  | 2 => .array .boolean
  | 3 => .array .int
  | 4 => .array .int
  | _ => .array .byte
theorem nm1 : ∀ a, a < 6 → ∀ b, b < 6 → a ≠ b → (T1 a).2.1 ≠ (T1 b).2.1 := by decide +kernel
theorem tyok1 : ∀ k, k < 6 → parseFieldDescriptor (T1 k).2.2.1 = some (ty1 k) := by decide +kernel
def R2 : String := "ServiceDesk$Verbs"
def T2 : u_T := fun k => match k with
  | 0 => ("ServiceDesk$Verbs", "modes", "[I", true)
  | 1 => ("ServiceDesk$Verbs", "as", "[I", true)
  | _ => ("ServiceDesk$Verbs", "bs", "[I", true)
def ty2 : Nat → FieldType := fun k => match k with
  | 0 => .array .int
  | 1 => .array .int
  | _ => .array .int
theorem nm2 : ∀ a, a < 3 → ∀ b, b < 3 → a ≠ b → (T2 a).2.1 ≠ (T2 b).2.1 := by decide +kernel
theorem tyok2 : ∀ k, k < 3 → parseFieldDescriptor (T2 k).2.2.1 = some (ty2 k) := by decide +kernel
def R3 : String := "ServiceDesk"
def T3 : u_T := fun k => match k with
  | 0 => ("ServiceDesk", "kindAbove", "[I", true)
  | 1 => ("ServiceDesk", "verbs", "LServiceDesk$Verbs;", true)
  | 2 => ("ServiceDesk", "subjects", "LServiceDesk$Subjects;", true)
  | 3 => ("ServiceDesk", "rows", "LServiceDesk$Rows;", true)
  | 4 => ("ServiceDesk", "clock", "I", false)
  | _ => ("ServiceDesk", "turns", "I", false)
def ty3 : Nat → FieldType := fun k => match k with
  | 0 => .array .int
  | 1 => .object "ServiceDesk$Verbs"
  | 2 => .object "ServiceDesk$Subjects"
  | 3 => .object "ServiceDesk$Rows"
  | 4 => .int
  | _ => .int
theorem nm3 : ∀ a, a < 6 → ∀ b, b < 6 → a ≠ b → (T3 a).2.1 ≠ (T3 b).2.1 := by decide +kernel
theorem tyok3 : ∀ k, k < 6 → parseFieldDescriptor (T3 k).2.2.1 = some (ty3 k) := by decide +kernel
def R4 : String := "ServiceDeskModel"
def T4 : u_T := fun k => match k with
  | 0 => ("ServiceDeskModel", "thrown", "I", false)
  | 1 => ("ServiceDeskModel", "above", "[I", true)
  | 2 => ("ServiceDeskModel", "made", "[I", true)
  | 3 => ("ServiceDeskModel", "under", "[I", true)
  | 4 => ("ServiceDeskModel", "open", "[Z", true)
  | 5 => ("ServiceDeskModel", "sum", "[J", true)
  | 6 => ("ServiceDeskModel", "length", "[I", true)
  | 7 => ("ServiceDeskModel", "text", "[I", true)
  | 8 => ("ServiceDeskModel", "mode", "[I", true)
  | 9 => ("ServiceDeskModel", "first", "[I", true)
  | 10 => ("ServiceDeskModel", "second", "[I", true)
  | 11 => ("ServiceDeskModel", "turns", "I", false)
  | 12 => ("ServiceDeskModel", "clock", "I", false)
  | 13 => ("ServiceDeskModel", "rows", "I", false)
  | 14 => ("ServiceDeskModel", "row", "[I", true)
  | 15 => ("ServiceDeskModel", "changes", "I", false)
  | _ => ("ServiceDeskModel", "changed", "J", false)
def ty4 : Nat → FieldType := fun k => match k with
  | 0 => .int
  | 1 => .array .int
  | 2 => .array .int
  | 3 => .array .int
  | 4 => .array .boolean
  | 5 => .array .long
  | 6 => .array .int
  | 7 => .array .int
  | 8 => .array .int
  | 9 => .array .int
  | 10 => .array .int
  | 11 => .int
  | 12 => .int
  | 13 => .int
  | 14 => .array .int
  | 15 => .int
  | _ => .long
theorem nm4 : ∀ a, a < 17 → ∀ b, b < 17 → a ≠ b → (T4 a).2.1 ≠ (T4 b).2.1 := by decide +kernel
theorem tyok4 : ∀ k, k < 17 → parseFieldDescriptor (T4 k).2.2.1 = some (ty4 k) := by decide +kernel
abbrev vwCl : List vw_C := [(R0, T0, 2), (R1, T1, 6), (R2, T2, 3), (R3, T3, 6), (R4, T4, 17)]
def y_d_init : MethodName := ⟨"ServiceDesk", "<init>", "()V"⟩
abbrev b_d_init : ByteArray := prog_1_method_1_code
def y_O_init : MethodName := ⟨"java/lang/Object", "<init>", "()V"⟩
abbrev b_O_init : ByteArray := object_method_1_code
def y_w_init : MethodName := ⟨"ServiceDesk$Verbs", "<init>", "()V"⟩
abbrev b_w_init : ByteArray := prog_4_method_1_code
def y_s_init : MethodName := ⟨"ServiceDesk$Subjects", "<init>", "()V"⟩
abbrev b_s_init : ByteArray := prog_3_method_1_code
def y_r_init : MethodName := ⟨"ServiceDesk$Rows", "<init>", "()V"⟩
abbrev b_r_init : ByteArray := prog_2_method_1_code
def y_J_fill : MethodName := ⟨"java/util/Arrays", "fill", "([II)V"⟩
abbrev b_J_fill : ByteArray := prog_15_method_103_code
def y_d_book : MethodName := ⟨"ServiceDesk", "book", "()I"⟩
abbrev b_d_book : ByteArray := prog_1_method_14_code
def y_d_stir : MethodName := ⟨"ServiceDesk", "stir", "(II)I"⟩
abbrev b_d_stir : ByteArray := prog_1_method_15_code
def y_s_stirKind : MethodName := ⟨"ServiceDesk$Subjects", "stirKind", "(II)I"⟩
abbrev b_s_stirKind : ByteArray := prog_3_method_11_code
def y_d_slotOf : MethodName := ⟨"ServiceDesk", "slotOf", "(II)I"⟩
abbrev b_d_slotOf : ByteArray := prog_1_method_22_code
def y_s_stirOne : MethodName := ⟨"ServiceDesk$Subjects", "stirOne", "(II)I"⟩
abbrev b_s_stirOne : ByteArray := prog_3_method_12_code
def y_s_byteAt : MethodName := ⟨"ServiceDesk$Subjects", "byteAt", "(II)I"⟩
abbrev b_s_byteAt : ByteArray := prog_3_method_4_code
def y_r_stirAll : MethodName := ⟨"ServiceDesk$Rows", "stirAll", "(I)I"⟩
abbrev b_r_stirAll : ByteArray := prog_2_method_3_code
def y_L_under : MethodName := ⟨"ServiceDeskLaw", "under", "(LServiceDesk;II)I"⟩
abbrev b_L_under : ByteArray := method_3_code
def y_d_under : MethodName := ⟨"ServiceDesk", "under", "(II)V"⟩
abbrev b_d_under : ByteArray := prog_1_method_2_code
def y_d_isKind : MethodName := ⟨"ServiceDesk", "isKind", "(I)Z"⟩
abbrev b_d_isKind : ByteArray := prog_1_method_16_code
def y_d_isAtOrUnder : MethodName := ⟨"ServiceDesk", "isAtOrUnder", "(II)Z"⟩
abbrev b_d_isAtOrUnder : ByteArray := prog_1_method_21_code
def y_L_make : MethodName := ⟨"ServiceDeskLaw", "make", "(LServiceDesk;II[J)I"⟩
abbrev b_L_make : ByteArray := method_4_code
def y_d_make : MethodName := ⟨"ServiceDesk", "make", "(II)I"⟩
abbrev b_d_make : ByteArray := prog_1_method_3_code
def y_d_canBeAbove : MethodName := ⟨"ServiceDesk", "canBeAbove", "(II)Z"⟩
abbrev b_d_canBeAbove : ByteArray := prog_1_method_20_code
def y_d_isSubject : MethodName := ⟨"ServiceDesk", "isSubject", "(II)Z"⟩
abbrev b_d_isSubject : ByteArray := prog_1_method_19_code
def y_d_slotOrNone : MethodName := ⟨"ServiceDesk", "slotOrNone", "(II)I"⟩
abbrev b_d_slotOrNone : ByteArray := prog_1_method_23_code
def y_s_add : MethodName := ⟨"ServiceDesk$Subjects", "add", "(II)I"⟩
abbrev b_s_add : ByteArray := prog_3_method_2_code
def y_L_verb : MethodName := ⟨"ServiceDeskLaw", "verb", "(LServiceDesk;IIIII)I"⟩
abbrev b_L_verb : ByteArray := method_5_code
def y_d_verb : MethodName := ⟨"ServiceDesk", "verb", "(IIIII)V"⟩
abbrev b_d_verb : ByteArray := prog_1_method_4_code
def y_d_isVerb : MethodName := ⟨"ServiceDesk", "isVerb", "(I)Z"⟩
abbrev b_d_isVerb : ByteArray := prog_1_method_17_code
def y_d_isWithin : MethodName := ⟨"ServiceDesk", "isWithin", "(JJ)Z"⟩
abbrev b_d_isWithin : ByteArray := prog_1_method_18_code
def y_w_set : MethodName := ⟨"ServiceDesk$Verbs", "set", "(IIII)V"⟩
abbrev b_w_set : ByteArray := prog_4_method_2_code
def y_L_call : MethodName := ⟨"ServiceDeskLaw", "call", "(LServiceDesk;IIII[J)I"⟩
abbrev b_L_call : ByteArray := method_6_code
def y_d_call : MethodName := ⟨"ServiceDesk", "call", "(IIII)J"⟩
abbrev b_d_call : ByteArray := prog_1_method_5_code
def y_d_refusalOf : MethodName := ⟨"ServiceDesk", "refusalOf", "(IIII)I"⟩
abbrev b_d_refusalOf : ByteArray := prog_1_method_25_code
def y_r_tell : MethodName := ⟨"ServiceDesk$Rows", "tell", "(IIIII)V"⟩
abbrev b_r_tell : ByteArray := prog_2_method_2_code
def y_d_refuse : MethodName := ⟨"ServiceDesk", "refuse", "(I)V"⟩
abbrev b_d_refuse : ByteArray := prog_1_method_26_code
def y_d_answerTo : MethodName := ⟨"ServiceDesk", "answerTo", "(IIII)J"⟩
abbrev b_d_answerTo : ByteArray := prog_1_method_27_code
def y_d_sumOrFailure : MethodName := ⟨"ServiceDesk", "sumOrFailure", "(J)J"⟩
abbrev b_d_sumOrFailure : ByteArray := prog_1_method_28_code
def y_d_slotAbove : MethodName := ⟨"ServiceDesk", "slotAbove", "(II)I"⟩
abbrev b_d_slotAbove : ByteArray := prog_1_method_24_code
def y_d_answerToPass : MethodName := ⟨"ServiceDesk", "answerToPass", "(II)J"⟩
abbrev b_d_answerToPass : ByteArray := prog_1_method_29_code
def y_d_answerToClose : MethodName := ⟨"ServiceDesk", "answerToClose", "(II)J"⟩
abbrev b_d_answerToClose : ByteArray := prog_1_method_30_code
def y_d_openOnesUnder : MethodName := ⟨"ServiceDesk", "openOnesUnder", "(II)I"⟩
abbrev b_d_openOnesUnder : ByteArray := prog_1_method_33_code
def y_s_openUnder : MethodName := ⟨"ServiceDesk$Subjects", "openUnder", "(II)I"⟩
abbrev b_s_openUnder : ByteArray := prog_3_method_8_code
def y_s_openOf : MethodName := ⟨"ServiceDesk$Subjects", "openOf", "(I)I"⟩
abbrev b_s_openOf : ByteArray := prog_3_method_7_code
def y_d_carryOut : MethodName := ⟨"ServiceDesk", "carryOut", "(IIIJ)V"⟩
abbrev b_d_carryOut : ByteArray := prog_1_method_31_code
def y_d_setSum : MethodName := ⟨"ServiceDesk", "setSum", "(IJ)V"⟩
abbrev b_d_setSum : ByteArray := prog_1_method_32_code
def y_L_simulate : MethodName := ⟨"ServiceDeskLaw", "simulate", "(LServiceDesk;IIII[J)I"⟩
abbrev b_L_simulate : ByteArray := method_7_code
def y_d_simulate : MethodName := ⟨"ServiceDesk", "simulate", "(IIII)J"⟩
abbrev b_d_simulate : ByteArray := prog_1_method_6_code
def y_L_text : MethodName := ⟨"ServiceDeskLaw", "text", "(LServiceDesk;IIJI[J)I"⟩
abbrev b_L_text : ByteArray := method_8_code
def y_d_text : MethodName := ⟨"ServiceDesk", "text", "(IIJI)I"⟩
abbrev b_d_text : ByteArray := prog_1_method_7_code
def y_s_lengthen : MethodName := ⟨"ServiceDesk$Subjects", "lengthen", "(IJI)I"⟩
abbrev b_s_lengthen : ByteArray := prog_3_method_3_code
def y_s_byteOf : MethodName := ⟨"ServiceDesk$Subjects", "byteOf", "(JII)I"⟩
abbrev b_s_byteOf : ByteArray := prog_3_method_6_code
def y_L_textAt : MethodName := ⟨"ServiceDeskLaw", "textAt", "(LServiceDesk;III[J)I"⟩
abbrev b_L_textAt : ByteArray := method_9_code
def y_d_textAt : MethodName := ⟨"ServiceDesk", "textAt", "(III)I"⟩
abbrev b_d_textAt : ByteArray := prog_1_method_8_code
def y_L_find : MethodName := ⟨"ServiceDeskLaw", "find", "(LServiceDesk;IJI[J)I"⟩
abbrev b_L_find : ByteArray := method_10_code
def y_d_find : MethodName := ⟨"ServiceDesk", "find", "(IJI)I"⟩
abbrev b_d_find : ByteArray := prog_1_method_9_code
def y_s_hasJust : MethodName := ⟨"ServiceDesk$Subjects", "hasJust", "(IJI)Z"⟩
abbrev b_s_hasJust : ByteArray := prog_3_method_5_code
def y_L_subject : MethodName := ⟨"ServiceDeskLaw", "subject", "(LServiceDesk;III[J)I"⟩
abbrev b_L_subject : ByteArray := method_11_code
def y_d_subject : MethodName := ⟨"ServiceDesk", "subject", "(III)I"⟩
abbrev b_d_subject : ByteArray := prog_1_method_10_code
def y_L_row : MethodName := ⟨"ServiceDeskLaw", "row", "(LServiceDesk;II[J)I"⟩
abbrev b_L_row : ByteArray := method_12_code
def y_d_row : MethodName := ⟨"ServiceDesk", "row", "(II)I"⟩
abbrev b_d_row : ByteArray := prog_1_method_11_code
def y_L_tick : MethodName := ⟨"ServiceDeskLaw", "tick", "(LServiceDesk;I[J)I"⟩
abbrev b_L_tick : ByteArray := method_13_code
def y_d_tick : MethodName := ⟨"ServiceDesk", "tick", "(I)I"⟩
abbrev b_d_tick : ByteArray := prog_1_method_12_code
def y_L_count : MethodName := ⟨"ServiceDeskLaw", "count", "(LServiceDesk;I[J)I"⟩
abbrev b_L_count : ByteArray := method_14_code
def y_d_count : MethodName := ⟨"ServiceDesk", "count", "(I)I"⟩
abbrev b_d_count : ByteArray := prog_1_method_13_code
def y_s_madeInAll : MethodName := ⟨"ServiceDesk$Subjects", "madeInAll", "()I"⟩
abbrev b_s_madeInAll : ByteArray := prog_3_method_9_code
def y_s_openInAll : MethodName := ⟨"ServiceDesk$Subjects", "openInAll", "()I"⟩
abbrev b_s_openInAll : ByteArray := prog_3_method_10_code
def y_m_init : MethodName := ⟨"ServiceDeskModel", "<init>", "()V"⟩
abbrev b_m_init : ByteArray := prog_6_method_1_code
def y_m_thrown : MethodName := ⟨"ServiceDeskModel", "thrown", "()I"⟩
abbrev b_m_thrown : ByteArray := prog_6_method_2_code
def y_m_under : MethodName := ⟨"ServiceDeskModel", "under", "(II)V"⟩
abbrev b_m_under : ByteArray := prog_6_method_8_code
def y_m_isKind : MethodName := ⟨"ServiceDeskModel", "isKind", "(I)Z"⟩
abbrev b_m_isKind : ByteArray := prog_6_method_5_code
def y_m_in : MethodName := ⟨"ServiceDeskModel", "in", "(III)Z"⟩
abbrev b_m_in : ByteArray := prog_6_method_4_code
def y_m_reaches : MethodName := ⟨"ServiceDeskModel", "reaches", "(II)Z"⟩
abbrev b_m_reaches : ByteArray := prog_6_method_7_code
def y_m_throwing : MethodName := ⟨"ServiceDeskModel", "throwing", "(ZZZZ)Z"⟩
abbrev b_m_throwing : ByteArray := prog_6_method_3_code
def y_m_make : MethodName := ⟨"ServiceDeskModel", "make", "(II)I"⟩
abbrev b_m_make : ByteArray := prog_6_method_9_code
def y_m_isSubject : MethodName := ⟨"ServiceDeskModel", "isSubject", "(II)Z"⟩
abbrev b_m_isSubject : ByteArray := prog_6_method_6_code
def y_m_verb : MethodName := ⟨"ServiceDeskModel", "verb", "(IIIII)V"⟩
abbrev b_m_verb : ByteArray := prog_6_method_10_code
def y_m_call : MethodName := ⟨"ServiceDeskModel", "call", "(IIII)J"⟩
abbrev b_m_call : ByteArray := prog_6_method_18_code
def y_m_refuses : MethodName := ⟨"ServiceDeskModel", "refuses", "(IIII)Z"⟩
abbrev b_m_refuses : ByteArray := prog_6_method_17_code
def y_m_tell : MethodName := ⟨"ServiceDeskModel", "tell", "(IIII)V"⟩
abbrev b_m_tell : ByteArray := prog_6_method_16_code
def y_m_workOut : MethodName := ⟨"ServiceDeskModel", "workOut", "(IIII)J"⟩
abbrev b_m_workOut : ByteArray := prog_6_method_15_code
def y_m_change : MethodName := ⟨"ServiceDeskModel", "change", "(IJ)J"⟩
abbrev b_m_change : ByteArray := prog_6_method_12_code
def y_m_isSum : MethodName := ⟨"ServiceDeskModel", "isSum", "(J)Z"⟩
abbrev b_m_isSum : ByteArray := prog_6_method_11_code
def y_m_openUnder : MethodName := ⟨"ServiceDeskModel", "openUnder", "(II)I"⟩
abbrev b_m_openUnder : ByteArray := prog_6_method_13_code
def y_m_openOf : MethodName := ⟨"ServiceDeskModel", "openOf", "(I)I"⟩
abbrev b_m_openOf : ByteArray := prog_6_method_14_code
def y_m_simulate : MethodName := ⟨"ServiceDeskModel", "simulate", "(IIII)J"⟩
abbrev b_m_simulate : ByteArray := prog_6_method_19_code
def y_m_text : MethodName := ⟨"ServiceDeskModel", "text", "(IIJI)I"⟩
abbrev b_m_text : ByteArray := prog_6_method_20_code
def y_m_textAt : MethodName := ⟨"ServiceDeskModel", "textAt", "(III)I"⟩
abbrev b_m_textAt : ByteArray := prog_6_method_21_code
def y_m_find : MethodName := ⟨"ServiceDeskModel", "find", "(IJI)I"⟩
abbrev b_m_find : ByteArray := prog_6_method_22_code
def y_m_subject : MethodName := ⟨"ServiceDeskModel", "subject", "(III)I"⟩
abbrev b_m_subject : ByteArray := prog_6_method_23_code
def y_m_row : MethodName := ⟨"ServiceDeskModel", "row", "(II)I"⟩
abbrev b_m_row : ByteArray := prog_6_method_24_code
def y_m_tick : MethodName := ⟨"ServiceDeskModel", "tick", "(I)I"⟩
abbrev b_m_tick : ByteArray := prog_6_method_25_code
def y_m_count : MethodName := ⟨"ServiceDeskModel", "count", "(I)I"⟩
abbrev b_m_count : ByteArray := prog_6_method_26_code
def y_m_book : MethodName := ⟨"ServiceDeskModel", "book", "()I"⟩
abbrev b_m_book : ByteArray := prog_6_method_28_code
def y_m_with : MethodName := ⟨"ServiceDeskModel", "with", "(II)I"⟩
abbrev b_m_with : ByteArray := prog_6_method_27_code
def y_L_law : MethodName := ⟨"ServiceDeskLaw", "law", "([I)Z"⟩
abbrev b_L_law : ByteArray := code
end
section
/-! the words of the tables, each by its place (names.py) -/
theorem mw_0 : Cond.initialized "ServiceDeskLaw" ∈ lw_tbl := List.mem_of_getElem? (i := 35) (by decide +kernel)
theorem mw_1 : Cond.initialized "ServiceDesk" ∈ lw_tbl := List.mem_of_getElem? (i := 36) (by decide +kernel)
theorem mw_2 : Cond.initialized "ServiceDesk$Verbs" ∈ lw_tbl := List.mem_of_getElem? (i := 37) (by decide +kernel)
theorem mw_3 : Cond.initialized "ServiceDesk$Subjects" ∈ lw_tbl := List.mem_of_getElem? (i := 38) (by decide +kernel)
theorem mw_4 : Cond.initialized "ServiceDesk$Rows" ∈ lw_tbl := List.mem_of_getElem? (i := 39) (by decide +kernel)
theorem mw_5 : Cond.initialized "java/util/Arrays" ∈ lw_tbl := List.mem_of_getElem? (i := 40) (by decide +kernel)
theorem mw_6 : Cond.initialized "ServiceDeskModel" ∈ lw_tbl := List.mem_of_getElem? (i := 41) (by decide +kernel)
theorem mw_7 : Cond.initialized "java/lang/Throwable" ∈ lw_tbl := List.mem_of_getElem? (i := 42) (by decide +kernel)
theorem mw_8 : Cond.initialized "java/lang/Exception" ∈ lw_tbl := List.mem_of_getElem? (i := 43) (by decide +kernel)
theorem mw_9 : Cond.initialized "java/lang/RuntimeException" ∈ lw_tbl := List.mem_of_getElem? (i := 44) (by decide +kernel)
theorem mw_10 : Cond.initialized "java/lang/IllegalArgumentException" ∈ lw_tbl := List.mem_of_getElem? (i := 45) (by decide +kernel)
theorem mw_11 : Cond.initialized "java/lang/IllegalStateException" ∈ lw_tbl := List.mem_of_getElem? (i := 46) (by decide +kernel)
theorem mw_12 : Cond.initialized "java/lang/UnsupportedOperationException" ∈ lw_tbl := List.mem_of_getElem? (i := 47) (by decide +kernel)
theorem mw_13 : Cond.initialized "java/lang/IndexOutOfBoundsException" ∈ lw_tbl := List.mem_of_getElem? (i := 48) (by decide +kernel)
theorem mw_14 : Cond.classLink "ServiceDeskLaw" 8 "ServiceDesk" ∈ lw_tbl := List.mem_of_getElem? (i := 49) (by decide +kernel)
theorem mw_15 : Cond.instantiable "ServiceDesk" 6 ∈ lw_tbl := List.mem_of_getElem? (i := 50) (by decide +kernel)
theorem mw_16 : Cond.methodLink "ServiceDeskLaw" 61 y_d_init ∈ lw_tbl := List.mem_of_getElem? (i := 51) (by decide +kernel)
theorem mw_17 : Cond.instanceMethod y_d_init ∈ lw_tbl := List.mem_of_getElem? (i := 52) (by decide +kernel)
set_option maxRecDepth 20000 in
theorem mw_18 : Cond.code y_d_init b_d_init 1 none ∈ lw_tbl := List.mem_of_getElem? (i := 53) (by rfl)
theorem mw_19 : Cond.methodLink "ServiceDesk" 3 y_O_init ∈ lw_tbl := List.mem_of_getElem? (i := 54) (by decide +kernel)
theorem mw_20 : Cond.instanceMethod y_O_init ∈ lw_tbl := List.mem_of_getElem? (i := 55) (by decide +kernel)
set_option maxRecDepth 20000 in
theorem mw_21 : Cond.code y_O_init b_O_init 1 none ∈ lw_tbl := List.mem_of_getElem? (i := 56) (by rfl)
theorem mw_22 : Cond.classLink "ServiceDesk" 13 "ServiceDesk$Verbs" ∈ lw_tbl := List.mem_of_getElem? (i := 57) (by decide +kernel)
theorem mw_23 : Cond.instantiable "ServiceDesk$Verbs" 3 ∈ lw_tbl := List.mem_of_getElem? (i := 58) (by decide +kernel)
theorem mw_24 : Cond.methodLinkNest "ServiceDesk" 15 y_w_init "ServiceDesk" ∈ lw_tbl := List.mem_of_getElem? (i := 59) (by decide +kernel)
theorem mw_25 : Cond.instanceMethod y_w_init ∈ lw_tbl := List.mem_of_getElem? (i := 60) (by decide +kernel)
set_option maxRecDepth 20000 in
theorem mw_26 : Cond.code y_w_init b_w_init 1 none ∈ lw_tbl := List.mem_of_getElem? (i := 61) (by rfl)
theorem mw_27 : Cond.methodLink "ServiceDesk$Verbs" 3 y_O_init ∈ lw_tbl := List.mem_of_getElem? (i := 62) (by decide +kernel)
theorem mw_28 : Cond.fieldLink "ServiceDesk$Verbs" 9 "ServiceDesk$Verbs" "modes" "[I" ∈ lw_tbl := List.mem_of_getElem? (i := 63) (by decide +kernel)
theorem mw_29 : Cond.fieldLinkNest "ServiceDesk" 208 "ServiceDesk$Verbs" "modes" "[I" "ServiceDesk" ∈ lw_tbl := List.mem_of_getElem? (i := 64) (by decide +kernel)
theorem mw_30 : Cond.fieldLink "ServiceDesk$Verbs" 15 "ServiceDesk$Verbs" "as" "[I" ∈ lw_tbl := List.mem_of_getElem? (i := 65) (by decide +kernel)
theorem mw_31 : Cond.fieldLinkNest "ServiceDesk" 217 "ServiceDesk$Verbs" "as" "[I" "ServiceDesk" ∈ lw_tbl := List.mem_of_getElem? (i := 66) (by decide +kernel)
theorem mw_32 : Cond.fieldLink "ServiceDesk$Verbs" 18 "ServiceDesk$Verbs" "bs" "[I" ∈ lw_tbl := List.mem_of_getElem? (i := 67) (by decide +kernel)
theorem mw_33 : Cond.fieldLinkNest "ServiceDesk" 220 "ServiceDesk$Verbs" "bs" "[I" "ServiceDesk" ∈ lw_tbl := List.mem_of_getElem? (i := 68) (by decide +kernel)
theorem mw_41 : Cond.arrayClass .int ∈ lw_tbl := List.mem_of_getElem? (i := 76) (by decide +kernel)
theorem mw_42 : Cond.classLink "ServiceDesk" 20 "ServiceDesk$Subjects" ∈ lw_tbl := List.mem_of_getElem? (i := 77) (by decide +kernel)
theorem mw_43 : Cond.instantiable "ServiceDesk$Subjects" 6 ∈ lw_tbl := List.mem_of_getElem? (i := 78) (by decide +kernel)
theorem mw_44 : Cond.methodLinkNest "ServiceDesk" 22 y_s_init "ServiceDesk" ∈ lw_tbl := List.mem_of_getElem? (i := 79) (by decide +kernel)
theorem mw_45 : Cond.instanceMethod y_s_init ∈ lw_tbl := List.mem_of_getElem? (i := 80) (by decide +kernel)
set_option maxRecDepth 20000 in
theorem mw_46 : Cond.code y_s_init b_s_init 1 none ∈ lw_tbl := List.mem_of_getElem? (i := 81) (by rfl)
theorem mw_47 : Cond.methodLink "ServiceDesk$Subjects" 3 y_O_init ∈ lw_tbl := List.mem_of_getElem? (i := 82) (by decide +kernel)
theorem mw_48 : Cond.fieldLink "ServiceDesk$Subjects" 9 "ServiceDesk$Subjects" "made" "[I" ∈ lw_tbl := List.mem_of_getElem? (i := 83) (by decide +kernel)
theorem mw_49 : Cond.fieldLinkNest "ServiceDesk" 51 "ServiceDesk$Subjects" "made" "[I" "ServiceDesk" ∈ lw_tbl := List.mem_of_getElem? (i := 84) (by decide +kernel)
theorem mw_50 : Cond.fieldLink "ServiceDesk$Subjects" 15 "ServiceDesk$Subjects" "aboves" "[I" ∈ lw_tbl := List.mem_of_getElem? (i := 85) (by decide +kernel)
theorem mw_51 : Cond.fieldLinkNest "ServiceDesk" 164 "ServiceDesk$Subjects" "aboves" "[I" "ServiceDesk" ∈ lw_tbl := List.mem_of_getElem? (i := 86) (by decide +kernel)
theorem mw_52 : Cond.fieldLink "ServiceDesk$Subjects" 18 "ServiceDesk$Subjects" "open" "[Z" ∈ lw_tbl := List.mem_of_getElem? (i := 87) (by decide +kernel)
theorem mw_53 : Cond.fieldLinkNest "ServiceDesk" 72 "ServiceDesk$Subjects" "open" "[Z" "ServiceDesk" ∈ lw_tbl := List.mem_of_getElem? (i := 88) (by decide +kernel)
theorem mw_54 : Cond.fieldLink "ServiceDesk$Subjects" 22 "ServiceDesk$Subjects" "sums" "[I" ∈ lw_tbl := List.mem_of_getElem? (i := 89) (by decide +kernel)
theorem mw_55 : Cond.fieldLinkNest "ServiceDesk" 167 "ServiceDesk$Subjects" "sums" "[I" "ServiceDesk" ∈ lw_tbl := List.mem_of_getElem? (i := 90) (by decide +kernel)
theorem mw_56 : Cond.fieldLink "ServiceDesk$Subjects" 25 "ServiceDesk$Subjects" "lengths" "[I" ∈ lw_tbl := List.mem_of_getElem? (i := 91) (by decide +kernel)
theorem mw_57 : Cond.fieldLinkNest "ServiceDesk" 144 "ServiceDesk$Subjects" "lengths" "[I" "ServiceDesk" ∈ lw_tbl := List.mem_of_getElem? (i := 92) (by decide +kernel)
theorem mw_58 : Cond.fieldLink "ServiceDesk$Subjects" 28 "ServiceDesk$Subjects" "bytes" "[B" ∈ lw_tbl := List.mem_of_getElem? (i := 93) (by decide +kernel)
theorem mw_72 : Cond.arrayClass .boolean ∈ lw_tbl := List.mem_of_getElem? (i := 107) (by decide +kernel)
theorem mw_73 : Cond.arrayClass .byte ∈ lw_tbl := List.mem_of_getElem? (i := 108) (by decide +kernel)
theorem mw_74 : Cond.classLink "ServiceDesk" 27 "ServiceDesk$Rows" ∈ lw_tbl := List.mem_of_getElem? (i := 109) (by decide +kernel)
theorem mw_75 : Cond.instantiable "ServiceDesk$Rows" 2 ∈ lw_tbl := List.mem_of_getElem? (i := 110) (by decide +kernel)
theorem mw_76 : Cond.methodLinkNest "ServiceDesk" 29 y_r_init "ServiceDesk" ∈ lw_tbl := List.mem_of_getElem? (i := 111) (by decide +kernel)
theorem mw_77 : Cond.instanceMethod y_r_init ∈ lw_tbl := List.mem_of_getElem? (i := 112) (by decide +kernel)
set_option maxRecDepth 20000 in
theorem mw_78 : Cond.code y_r_init b_r_init 1 none ∈ lw_tbl := List.mem_of_getElem? (i := 113) (by rfl)
theorem mw_79 : Cond.methodLink "ServiceDesk$Rows" 3 y_O_init ∈ lw_tbl := List.mem_of_getElem? (i := 114) (by decide +kernel)
theorem mw_80 : Cond.fieldLink "ServiceDesk$Rows" 9 "ServiceDesk$Rows" "numbers" "[I" ∈ lw_tbl := List.mem_of_getElem? (i := 115) (by decide +kernel)
theorem mw_81 : Cond.fieldLinkNest "ServiceDesk" 178 "ServiceDesk$Rows" "numbers" "[I" "ServiceDesk" ∈ lw_tbl := List.mem_of_getElem? (i := 116) (by decide +kernel)
theorem mw_82 : Cond.fieldLink "ServiceDesk$Rows" 15 "ServiceDesk$Rows" "kept" "I" ∈ lw_tbl := List.mem_of_getElem? (i := 117) (by decide +kernel)
theorem mw_83 : Cond.fieldLinkNest "ServiceDesk" 173 "ServiceDesk$Rows" "kept" "I" "ServiceDesk" ∈ lw_tbl := List.mem_of_getElem? (i := 118) (by decide +kernel)
theorem mw_89 : Cond.methodLink "ServiceDesk" 34 y_J_fill ∈ lw_tbl := List.mem_of_getElem? (i := 124) (by decide +kernel)
theorem mw_90 : Cond.static y_J_fill ∈ lw_tbl := List.mem_of_getElem? (i := 125) (by decide +kernel)
set_option maxRecDepth 20000 in
theorem mw_91 : Cond.code y_J_fill b_J_fill 4 none ∈ lw_tbl := List.mem_of_getElem? (i := 126) (by rfl)
theorem mw_92 : Cond.fieldLink "ServiceDesk" 9 "ServiceDesk" "kindAbove" "[I" ∈ lw_tbl := List.mem_of_getElem? (i := 127) (by decide +kernel)
theorem mw_93 : Cond.fieldLink "ServiceDesk" 16 "ServiceDesk" "verbs" "LServiceDesk$Verbs;" ∈ lw_tbl := List.mem_of_getElem? (i := 128) (by decide +kernel)
theorem mw_94 : Cond.fieldLink "ServiceDesk" 23 "ServiceDesk" "subjects" "LServiceDesk$Subjects;" ∈ lw_tbl := List.mem_of_getElem? (i := 129) (by decide +kernel)
theorem mw_95 : Cond.fieldLink "ServiceDesk" 30 "ServiceDesk" "rows" "LServiceDesk$Rows;" ∈ lw_tbl := List.mem_of_getElem? (i := 130) (by decide +kernel)
theorem mw_96 : Cond.fieldLink "ServiceDesk" 183 "ServiceDesk" "clock" "I" ∈ lw_tbl := List.mem_of_getElem? (i := 131) (by decide +kernel)
theorem mw_97 : Cond.fieldLink "ServiceDesk" 106 "ServiceDesk" "turns" "I" ∈ lw_tbl := List.mem_of_getElem? (i := 132) (by decide +kernel)
theorem mw_111 : Cond.methodLink "ServiceDeskLaw" 117 y_d_book ∈ lw_tbl := List.mem_of_getElem? (i := 146) (by decide +kernel)
theorem mw_112 : Cond.instanceMethod y_d_book ∈ lw_tbl := List.mem_of_getElem? (i := 147) (by decide +kernel)
theorem mw_113 : Cond.selects "ServiceDesk" y_d_book y_d_book ∈ lw_tbl := List.mem_of_getElem? (i := 148) (by decide +kernel)
set_option maxRecDepth 20000 in
theorem mw_114 : Cond.code y_d_book b_d_book 3 (some .int) ∈ lw_tbl := List.mem_of_getElem? (i := 149) (by rfl)
theorem mw_115 : Cond.methodLink "ServiceDesk" 197 y_d_stir ∈ lw_tbl := List.mem_of_getElem? (i := 150) (by decide +kernel)
theorem mw_116 : Cond.static y_d_stir ∈ lw_tbl := List.mem_of_getElem? (i := 151) (by decide +kernel)
set_option maxRecDepth 20000 in
theorem mw_117 : Cond.code y_d_stir b_d_stir 3 (some .int) ∈ lw_tbl := List.mem_of_getElem? (i := 152) (by rfl)
theorem mw_118 : Cond.constant "ServiceDesk" 207 (-2048144789) ∈ lw_tbl := List.mem_of_getElem? (i := 153) (by decide +kernel)
theorem mw_119 : Cond.methodLinkNest "ServiceDesk" 200 y_s_stirKind "ServiceDesk" ∈ lw_tbl := List.mem_of_getElem? (i := 154) (by decide +kernel)
theorem mw_120 : Cond.privateMethod y_s_stirKind ∈ lw_tbl := List.mem_of_getElem? (i := 155) (by decide +kernel)
theorem mw_121 : Cond.instanceMethod y_s_stirKind ∈ lw_tbl := List.mem_of_getElem? (i := 156) (by decide +kernel)
set_option maxRecDepth 20000 in
theorem mw_122 : Cond.code y_s_stirKind b_s_stirKind 5 (some .int) ∈ lw_tbl := List.mem_of_getElem? (i := 157) (by rfl)
theorem mw_123 : Cond.methodLinkNest "ServiceDesk$Subjects" 32 y_d_slotOf "ServiceDesk" ∈ lw_tbl := List.mem_of_getElem? (i := 158) (by decide +kernel)
theorem mw_124 : Cond.static y_d_slotOf ∈ lw_tbl := List.mem_of_getElem? (i := 159) (by decide +kernel)
set_option maxRecDepth 20000 in
theorem mw_125 : Cond.code y_d_slotOf b_d_slotOf 2 (some .int) ∈ lw_tbl := List.mem_of_getElem? (i := 160) (by rfl)
theorem mw_126 : Cond.methodLink "ServiceDesk$Subjects" 47 y_s_stirOne ∈ lw_tbl := List.mem_of_getElem? (i := 161) (by decide +kernel)
theorem mw_127 : Cond.privateMethod y_s_stirOne ∈ lw_tbl := List.mem_of_getElem? (i := 162) (by decide +kernel)
theorem mw_128 : Cond.instanceMethod y_s_stirOne ∈ lw_tbl := List.mem_of_getElem? (i := 163) (by decide +kernel)
set_option maxRecDepth 20000 in
theorem mw_129 : Cond.code y_s_stirOne b_s_stirOne 5 (some .int) ∈ lw_tbl := List.mem_of_getElem? (i := 164) (by rfl)
theorem mw_130 : Cond.methodLinkNest "ServiceDesk$Subjects" 50 y_d_stir "ServiceDesk" ∈ lw_tbl := List.mem_of_getElem? (i := 165) (by decide +kernel)
theorem mw_131 : Cond.methodLink "ServiceDesk$Subjects" 40 y_s_byteAt ∈ lw_tbl := List.mem_of_getElem? (i := 166) (by decide +kernel)
theorem mw_132 : Cond.privateMethod y_s_byteAt ∈ lw_tbl := List.mem_of_getElem? (i := 167) (by decide +kernel)
theorem mw_133 : Cond.instanceMethod y_s_byteAt ∈ lw_tbl := List.mem_of_getElem? (i := 168) (by decide +kernel)
set_option maxRecDepth 20000 in
theorem mw_134 : Cond.code y_s_byteAt b_s_byteAt 3 (some .int) ∈ lw_tbl := List.mem_of_getElem? (i := 169) (by rfl)
theorem mw_135 : Cond.methodLinkNest "ServiceDesk" 203 y_r_stirAll "ServiceDesk" ∈ lw_tbl := List.mem_of_getElem? (i := 170) (by decide +kernel)
theorem mw_136 : Cond.privateMethod y_r_stirAll ∈ lw_tbl := List.mem_of_getElem? (i := 171) (by decide +kernel)
theorem mw_137 : Cond.instanceMethod y_r_stirAll ∈ lw_tbl := List.mem_of_getElem? (i := 172) (by decide +kernel)
set_option maxRecDepth 20000 in
theorem mw_138 : Cond.code y_r_stirAll b_r_stirAll 4 (some .int) ∈ lw_tbl := List.mem_of_getElem? (i := 173) (by rfl)
theorem mw_139 : Cond.methodLinkNest "ServiceDesk$Rows" 19 y_d_stir "ServiceDesk" ∈ lw_tbl := List.mem_of_getElem? (i := 174) (by decide +kernel)
theorem mw_140 : Cond.methodLink "ServiceDeskLaw" 65 y_L_under ∈ lw_tbl := List.mem_of_getElem? (i := 175) (by decide +kernel)
theorem mw_141 : Cond.static y_L_under ∈ lw_tbl := List.mem_of_getElem? (i := 176) (by decide +kernel)
set_option maxRecDepth 20000 in
theorem mw_142 : Cond.codeWith y_L_under b_L_under 4 (some .int) [(0, 6, 9, 13), (0, 6, 12, 15)] ∈ lw_tbl := List.mem_of_getElem? (i := 177) (by rfl)
theorem mw_143 : Cond.classLink "ServiceDeskLaw" 13 "java/lang/IllegalArgumentException" ∈ lw_tbl := List.mem_of_getElem? (i := 178) (by decide +kernel)
theorem mw_144 : Cond.classLink "ServiceDeskLaw" 15 "java/lang/IllegalStateException" ∈ lw_tbl := List.mem_of_getElem? (i := 179) (by decide +kernel)
theorem mw_145 : Cond.methodLink "ServiceDeskLaw" 7 y_d_under ∈ lw_tbl := List.mem_of_getElem? (i := 180) (by decide +kernel)
theorem mw_146 : Cond.instanceMethod y_d_under ∈ lw_tbl := List.mem_of_getElem? (i := 181) (by decide +kernel)
theorem mw_147 : Cond.selects "ServiceDesk" y_d_under y_d_under ∈ lw_tbl := List.mem_of_getElem? (i := 182) (by decide +kernel)
set_option maxRecDepth 20000 in
theorem mw_148 : Cond.code y_d_under b_d_under 3 none ∈ lw_tbl := List.mem_of_getElem? (i := 183) (by rfl)
theorem mw_149 : Cond.methodLink "ServiceDesk" 40 y_d_isKind ∈ lw_tbl := List.mem_of_getElem? (i := 184) (by decide +kernel)
theorem mw_150 : Cond.static y_d_isKind ∈ lw_tbl := List.mem_of_getElem? (i := 185) (by decide +kernel)
set_option maxRecDepth 20000 in
theorem mw_151 : Cond.code y_d_isKind b_d_isKind 1 (some .boolean) ∈ lw_tbl := List.mem_of_getElem? (i := 186) (by rfl)
theorem mw_152 : Cond.classLink "ServiceDesk" 44 "java/lang/IllegalArgumentException" ∈ lw_tbl := List.mem_of_getElem? (i := 187) (by decide +kernel)
theorem mw_153 : Cond.instantiable "java/lang/IllegalArgumentException" 6 ∈ lw_tbl := List.mem_of_getElem? (i := 188) (by decide +kernel)
theorem mw_154 : Cond.castable "java/lang/IllegalArgumentException" "java/lang/IllegalArgumentException" ∈ lw_tbl := List.mem_of_getElem? (i := 189) (by decide +kernel)
theorem mw_161 : Cond.selects "java/lang/IllegalArgumentException" ⟨"java/lang/Throwable", "fillInStackTrace", "(I)Ljava/lang/Throwable;"⟩ ⟨"java/lang/Throwable", "fillInStackTrace", "(I)Ljava/lang/Throwable;"⟩ ∈ lw_tbl := List.mem_of_getElem? (i := 196) (by decide +kernel)
theorem mw_162 : Cond.selects "java/lang/IllegalArgumentException" ⟨"java/lang/Throwable", "fillInStackTrace", "()Ljava/lang/Throwable;"⟩ ⟨"java/lang/Throwable", "fillInStackTrace", "()Ljava/lang/Throwable;"⟩ ∈ lw_tbl := List.mem_of_getElem? (i := 197) (by decide +kernel)
theorem mw_173 : Cond.fieldLink "java/lang/Throwable" 198 "java/lang/Throwable" "backtrace" "Ljava/lang/Object;" ∈ lw_tbl := List.mem_of_getElem? (i := 208) (by decide +kernel)
theorem mw_175 : Cond.instanceMethod ⟨"java/lang/Throwable", "<init>", "()V"⟩ ∈ lw_tbl := List.mem_of_getElem? (i := 210) (by decide +kernel)
theorem mw_177 : Cond.methodLink "java/lang/Throwable" 1 y_O_init ∈ lw_tbl := List.mem_of_getElem? (i := 212) (by decide +kernel)
theorem mw_178 : Cond.fieldLink "java/lang/Throwable" 13 "java/lang/Throwable" "UNASSIGNED_STACK" "[Ljava/lang/StackTraceElement;" ∈ lw_tbl := List.mem_of_getElem? (i := 213) (by decide +kernel)
theorem mw_179 : Cond.laysStatic "java/lang/Throwable" "UNASSIGNED_STACK" "[Ljava/lang/StackTraceElement;" ∈ lw_tbl := List.mem_of_getElem? (i := 214) (by decide +kernel)
theorem mw_180 : Cond.fieldLink "java/lang/Throwable" 20 "java/lang/Throwable" "SUPPRESSED_SENTINEL" "Ljava/util/List;" ∈ lw_tbl := List.mem_of_getElem? (i := 215) (by decide +kernel)
theorem mw_181 : Cond.laysStatic "java/lang/Throwable" "SUPPRESSED_SENTINEL" "Ljava/util/List;" ∈ lw_tbl := List.mem_of_getElem? (i := 216) (by decide +kernel)
theorem mw_182 : Cond.methodLink "java/lang/Throwable" 27 ⟨"java/lang/Throwable", "fillInStackTrace", "()Ljava/lang/Throwable;"⟩ ∈ lw_tbl := List.mem_of_getElem? (i := 217) (by decide +kernel)
theorem mw_183 : Cond.instanceMethod ⟨"java/lang/Throwable", "fillInStackTrace", "()Ljava/lang/Throwable;"⟩ ∈ lw_tbl := List.mem_of_getElem? (i := 218) (by decide +kernel)
theorem mw_185 : Cond.selects "java/lang/IllegalStateException" ⟨"java/lang/Throwable", "fillInStackTrace", "()Ljava/lang/Throwable;"⟩ ⟨"java/lang/Throwable", "fillInStackTrace", "()Ljava/lang/Throwable;"⟩ ∈ lw_tbl := List.mem_of_getElem? (i := 220) (by decide +kernel)
theorem mw_186 : Cond.selects "java/lang/IndexOutOfBoundsException" ⟨"java/lang/Throwable", "fillInStackTrace", "()Ljava/lang/Throwable;"⟩ ⟨"java/lang/Throwable", "fillInStackTrace", "()Ljava/lang/Throwable;"⟩ ∈ lw_tbl := List.mem_of_getElem? (i := 221) (by decide +kernel)
theorem mw_187 : Cond.selects "java/lang/UnsupportedOperationException" ⟨"java/lang/Throwable", "fillInStackTrace", "()Ljava/lang/Throwable;"⟩ ⟨"java/lang/Throwable", "fillInStackTrace", "()Ljava/lang/Throwable;"⟩ ∈ lw_tbl := List.mem_of_getElem? (i := 222) (by decide +kernel)
theorem mw_189 : Cond.methodLink "java/lang/Throwable" 202 ⟨"java/lang/Throwable", "fillInStackTrace", "(I)Ljava/lang/Throwable;"⟩ ∈ lw_tbl := List.mem_of_getElem? (i := 224) (by decide +kernel)
theorem mw_190 : Cond.privateMethod ⟨"java/lang/Throwable", "fillInStackTrace", "(I)Ljava/lang/Throwable;"⟩ ∈ lw_tbl := List.mem_of_getElem? (i := 225) (by decide +kernel)
theorem mw_191 : Cond.instanceMethod ⟨"java/lang/Throwable", "fillInStackTrace", "(I)Ljava/lang/Throwable;"⟩ ∈ lw_tbl := List.mem_of_getElem? (i := 226) (by decide +kernel)
theorem mw_192 : Cond.instantiable "java/lang/Throwable" 6 ∈ lw_tbl := List.mem_of_getElem? (i := 227) (by decide +kernel)
theorem mw_194 : Cond.stringRef "ServiceDesk" 46 "no such kind" ∈ lw_tbl := List.mem_of_getElem? (i := 229) (by decide +kernel)
theorem mw_195 : Cond.methodLink "ServiceDesk" 48 ⟨"java/lang/IllegalArgumentException", "<init>", "(Ljava/lang/String;)V"⟩ ∈ lw_tbl := List.mem_of_getElem? (i := 230) (by decide +kernel)
theorem mw_196 : Cond.instanceMethod ⟨"java/lang/IllegalArgumentException", "<init>", "(Ljava/lang/String;)V"⟩ ∈ lw_tbl := List.mem_of_getElem? (i := 231) (by decide +kernel)
theorem mw_198 : Cond.methodLink "java/lang/IllegalArgumentException" 7 ⟨"java/lang/RuntimeException", "<init>", "(Ljava/lang/String;)V"⟩ ∈ lw_tbl := List.mem_of_getElem? (i := 233) (by decide +kernel)
theorem mw_199 : Cond.instanceMethod ⟨"java/lang/RuntimeException", "<init>", "(Ljava/lang/String;)V"⟩ ∈ lw_tbl := List.mem_of_getElem? (i := 234) (by decide +kernel)
theorem mw_201 : Cond.methodLink "java/lang/RuntimeException" 7 ⟨"java/lang/Exception", "<init>", "(Ljava/lang/String;)V"⟩ ∈ lw_tbl := List.mem_of_getElem? (i := 236) (by decide +kernel)
theorem mw_202 : Cond.instanceMethod ⟨"java/lang/Exception", "<init>", "(Ljava/lang/String;)V"⟩ ∈ lw_tbl := List.mem_of_getElem? (i := 237) (by decide +kernel)
theorem mw_204 : Cond.methodLink "java/lang/Exception" 7 ⟨"java/lang/Throwable", "<init>", "(Ljava/lang/String;)V"⟩ ∈ lw_tbl := List.mem_of_getElem? (i := 239) (by decide +kernel)
theorem mw_205 : Cond.instanceMethod ⟨"java/lang/Throwable", "<init>", "(Ljava/lang/String;)V"⟩ ∈ lw_tbl := List.mem_of_getElem? (i := 240) (by decide +kernel)
theorem mw_208 : Cond.fieldLink "java/lang/Throwable" 31 "java/lang/Throwable" "detailMessage" "Ljava/lang/String;" ∈ lw_tbl := List.mem_of_getElem? (i := 243) (by decide +kernel)
theorem mw_209 : Cond.fieldLink "java/lang/Throwable" 7 "java/lang/Throwable" "cause" "Ljava/lang/Throwable;" ∈ lw_tbl := List.mem_of_getElem? (i := 244) (by decide +kernel)
theorem mw_210 : Cond.fieldLink "java/lang/Throwable" 17 "java/lang/Throwable" "stackTrace" "[Ljava/lang/StackTraceElement;" ∈ lw_tbl := List.mem_of_getElem? (i := 245) (by decide +kernel)
theorem mw_211 : Cond.fieldLink "java/lang/Throwable" 24 "java/lang/Throwable" "suppressedExceptions" "Ljava/util/List;" ∈ lw_tbl := List.mem_of_getElem? (i := 246) (by decide +kernel)
theorem mw_220 : Cond.methodLink "ServiceDesk" 54 y_d_isAtOrUnder ∈ lw_tbl := List.mem_of_getElem? (i := 255) (by decide +kernel)
theorem mw_221 : Cond.privateMethod y_d_isAtOrUnder ∈ lw_tbl := List.mem_of_getElem? (i := 256) (by decide +kernel)
theorem mw_222 : Cond.instanceMethod y_d_isAtOrUnder ∈ lw_tbl := List.mem_of_getElem? (i := 257) (by decide +kernel)
set_option maxRecDepth 20000 in
theorem mw_223 : Cond.code y_d_isAtOrUnder b_d_isAtOrUnder 5 (some .boolean) ∈ lw_tbl := List.mem_of_getElem? (i := 258) (by rfl)
theorem mw_224 : Cond.classLink "ServiceDesk" 58 "java/lang/IllegalStateException" ∈ lw_tbl := List.mem_of_getElem? (i := 259) (by decide +kernel)
theorem mw_225 : Cond.instantiable "java/lang/IllegalStateException" 6 ∈ lw_tbl := List.mem_of_getElem? (i := 260) (by decide +kernel)
theorem mw_226 : Cond.castable "java/lang/IllegalStateException" "java/lang/IllegalStateException" ∈ lw_tbl := List.mem_of_getElem? (i := 261) (by decide +kernel)
theorem mw_227 : Cond.selects "java/lang/IllegalStateException" ⟨"java/lang/Throwable", "fillInStackTrace", "(I)Ljava/lang/Throwable;"⟩ ⟨"java/lang/Throwable", "fillInStackTrace", "(I)Ljava/lang/Throwable;"⟩ ∈ lw_tbl := List.mem_of_getElem? (i := 262) (by decide +kernel)
theorem mw_233 : Cond.stringRef "ServiceDesk" 60 "the kind has subjects or would be under itself" ∈ lw_tbl := List.mem_of_getElem? (i := 268) (by decide +kernel)
theorem mw_234 : Cond.methodLink "ServiceDesk" 62 ⟨"java/lang/IllegalStateException", "<init>", "(Ljava/lang/String;)V"⟩ ∈ lw_tbl := List.mem_of_getElem? (i := 269) (by decide +kernel)
theorem mw_235 : Cond.instanceMethod ⟨"java/lang/IllegalStateException", "<init>", "(Ljava/lang/String;)V"⟩ ∈ lw_tbl := List.mem_of_getElem? (i := 270) (by decide +kernel)
theorem mw_237 : Cond.methodLink "java/lang/IllegalStateException" 7 ⟨"java/lang/RuntimeException", "<init>", "(Ljava/lang/String;)V"⟩ ∈ lw_tbl := List.mem_of_getElem? (i := 272) (by decide +kernel)
theorem mw_240 : Cond.methodLink "ServiceDeskLaw" 75 y_L_make ∈ lw_tbl := List.mem_of_getElem? (i := 275) (by decide +kernel)
theorem mw_241 : Cond.static y_L_make ∈ lw_tbl := List.mem_of_getElem? (i := 276) (by decide +kernel)
set_option maxRecDepth 20000 in
theorem mw_242 : Cond.codeWith y_L_make b_L_make 5 (some .int) [(0, 10, 13, 13), (0, 10, 17, 15), (0, 10, 21, 21)] ∈ lw_tbl := List.mem_of_getElem? (i := 277) (by rfl)
theorem mw_243 : Cond.classLink "ServiceDeskLaw" 21 "java/lang/UnsupportedOperationException" ∈ lw_tbl := List.mem_of_getElem? (i := 278) (by decide +kernel)
theorem mw_244 : Cond.methodLink "ServiceDeskLaw" 17 y_d_make ∈ lw_tbl := List.mem_of_getElem? (i := 279) (by decide +kernel)
theorem mw_245 : Cond.instanceMethod y_d_make ∈ lw_tbl := List.mem_of_getElem? (i := 280) (by decide +kernel)
theorem mw_246 : Cond.selects "ServiceDesk" y_d_make y_d_make ∈ lw_tbl := List.mem_of_getElem? (i := 281) (by decide +kernel)
set_option maxRecDepth 20000 in
theorem mw_247 : Cond.code y_d_make b_d_make 4 (some .int) ∈ lw_tbl := List.mem_of_getElem? (i := 282) (by rfl)
theorem mw_248 : Cond.methodLink "ServiceDesk" 63 y_d_canBeAbove ∈ lw_tbl := List.mem_of_getElem? (i := 283) (by decide +kernel)
theorem mw_249 : Cond.privateMethod y_d_canBeAbove ∈ lw_tbl := List.mem_of_getElem? (i := 284) (by decide +kernel)
theorem mw_250 : Cond.instanceMethod y_d_canBeAbove ∈ lw_tbl := List.mem_of_getElem? (i := 285) (by decide +kernel)
set_option maxRecDepth 20000 in
theorem mw_251 : Cond.code y_d_canBeAbove b_d_canBeAbove 4 (some .boolean) ∈ lw_tbl := List.mem_of_getElem? (i := 286) (by rfl)
theorem mw_252 : Cond.methodLink "ServiceDesk" 132 y_d_isSubject ∈ lw_tbl := List.mem_of_getElem? (i := 287) (by decide +kernel)
theorem mw_253 : Cond.privateMethod y_d_isSubject ∈ lw_tbl := List.mem_of_getElem? (i := 288) (by decide +kernel)
theorem mw_254 : Cond.instanceMethod y_d_isSubject ∈ lw_tbl := List.mem_of_getElem? (i := 289) (by decide +kernel)
set_option maxRecDepth 20000 in
theorem mw_255 : Cond.code y_d_isSubject b_d_isSubject 3 (some .boolean) ∈ lw_tbl := List.mem_of_getElem? (i := 290) (by rfl)
theorem mw_256 : Cond.stringRef "ServiceDesk" 66 "no such kind, or no such subject to be under" ∈ lw_tbl := List.mem_of_getElem? (i := 291) (by decide +kernel)
theorem mw_257 : Cond.methodLink "ServiceDesk" 68 y_d_slotOrNone ∈ lw_tbl := List.mem_of_getElem? (i := 292) (by decide +kernel)
theorem mw_258 : Cond.privateMethod y_d_slotOrNone ∈ lw_tbl := List.mem_of_getElem? (i := 293) (by decide +kernel)
theorem mw_259 : Cond.instanceMethod y_d_slotOrNone ∈ lw_tbl := List.mem_of_getElem? (i := 294) (by decide +kernel)
set_option maxRecDepth 20000 in
theorem mw_260 : Cond.code y_d_slotOrNone b_d_slotOrNone 3 (some .int) ∈ lw_tbl := List.mem_of_getElem? (i := 295) (by rfl)
theorem mw_261 : Cond.methodLink "ServiceDesk" 139 y_d_slotOf ∈ lw_tbl := List.mem_of_getElem? (i := 296) (by decide +kernel)
theorem mw_262 : Cond.stringRef "ServiceDesk" 76 "the subject to be under is closed" ∈ lw_tbl := List.mem_of_getElem? (i := 297) (by decide +kernel)
theorem mw_263 : Cond.classLink "ServiceDesk" 78 "java/lang/UnsupportedOperationException" ∈ lw_tbl := List.mem_of_getElem? (i := 298) (by decide +kernel)
theorem mw_264 : Cond.instantiable "java/lang/UnsupportedOperationException" 6 ∈ lw_tbl := List.mem_of_getElem? (i := 299) (by decide +kernel)
theorem mw_265 : Cond.castable "java/lang/UnsupportedOperationException" "java/lang/UnsupportedOperationException" ∈ lw_tbl := List.mem_of_getElem? (i := 300) (by decide +kernel)
theorem mw_266 : Cond.selects "java/lang/UnsupportedOperationException" ⟨"java/lang/Throwable", "fillInStackTrace", "(I)Ljava/lang/Throwable;"⟩ ⟨"java/lang/Throwable", "fillInStackTrace", "(I)Ljava/lang/Throwable;"⟩ ∈ lw_tbl := List.mem_of_getElem? (i := 301) (by decide +kernel)
theorem mw_272 : Cond.stringRef "ServiceDesk" 80 "no room for one more subject" ∈ lw_tbl := List.mem_of_getElem? (i := 307) (by decide +kernel)
theorem mw_273 : Cond.methodLink "ServiceDesk" 82 ⟨"java/lang/UnsupportedOperationException", "<init>", "(Ljava/lang/String;)V"⟩ ∈ lw_tbl := List.mem_of_getElem? (i := 308) (by decide +kernel)
theorem mw_274 : Cond.instanceMethod ⟨"java/lang/UnsupportedOperationException", "<init>", "(Ljava/lang/String;)V"⟩ ∈ lw_tbl := List.mem_of_getElem? (i := 309) (by decide +kernel)
theorem mw_276 : Cond.methodLink "java/lang/UnsupportedOperationException" 7 ⟨"java/lang/RuntimeException", "<init>", "(Ljava/lang/String;)V"⟩ ∈ lw_tbl := List.mem_of_getElem? (i := 311) (by decide +kernel)
theorem mw_279 : Cond.methodLinkNest "ServiceDesk" 83 y_s_add "ServiceDesk" ∈ lw_tbl := List.mem_of_getElem? (i := 314) (by decide +kernel)
theorem mw_280 : Cond.privateMethod y_s_add ∈ lw_tbl := List.mem_of_getElem? (i := 315) (by decide +kernel)
theorem mw_281 : Cond.instanceMethod y_s_add ∈ lw_tbl := List.mem_of_getElem? (i := 316) (by decide +kernel)
set_option maxRecDepth 20000 in
theorem mw_282 : Cond.code y_s_add b_s_add 5 (some .int) ∈ lw_tbl := List.mem_of_getElem? (i := 317) (by rfl)
theorem mw_283 : Cond.methodLink "ServiceDeskLaw" 79 y_L_verb ∈ lw_tbl := List.mem_of_getElem? (i := 318) (by decide +kernel)
theorem mw_284 : Cond.static y_L_verb ∈ lw_tbl := List.mem_of_getElem? (i := 319) (by decide +kernel)
set_option maxRecDepth 20000 in
theorem mw_285 : Cond.codeWith y_L_verb b_L_verb 7 (some .int) [(0, 11, 14, 13), (0, 11, 18, 27)] ∈ lw_tbl := List.mem_of_getElem? (i := 320) (by rfl)
theorem mw_286 : Cond.classLink "ServiceDeskLaw" 27 "java/lang/IndexOutOfBoundsException" ∈ lw_tbl := List.mem_of_getElem? (i := 321) (by decide +kernel)
theorem mw_287 : Cond.methodLink "ServiceDeskLaw" 23 y_d_verb ∈ lw_tbl := List.mem_of_getElem? (i := 322) (by decide +kernel)
theorem mw_288 : Cond.instanceMethod y_d_verb ∈ lw_tbl := List.mem_of_getElem? (i := 323) (by decide +kernel)
theorem mw_289 : Cond.selects "ServiceDesk" y_d_verb y_d_verb ∈ lw_tbl := List.mem_of_getElem? (i := 324) (by decide +kernel)
set_option maxRecDepth 20000 in
theorem mw_290 : Cond.code y_d_verb b_d_verb 6 none ∈ lw_tbl := List.mem_of_getElem? (i := 325) (by rfl)
theorem mw_291 : Cond.methodLink "ServiceDesk" 86 y_d_isVerb ∈ lw_tbl := List.mem_of_getElem? (i := 326) (by decide +kernel)
theorem mw_292 : Cond.static y_d_isVerb ∈ lw_tbl := List.mem_of_getElem? (i := 327) (by decide +kernel)
set_option maxRecDepth 20000 in
theorem mw_293 : Cond.code y_d_isVerb b_d_isVerb 1 (some .boolean) ∈ lw_tbl := List.mem_of_getElem? (i := 328) (by rfl)
theorem mw_294 : Cond.stringRef "ServiceDesk" 89 "no such kind, verb or mode" ∈ lw_tbl := List.mem_of_getElem? (i := 329) (by decide +kernel)
theorem mw_295 : Cond.constantLong "ServiceDesk" 91 (1000) ∈ lw_tbl := List.mem_of_getElem? (i := 330) (by decide +kernel)
theorem mw_296 : Cond.methodLink "ServiceDesk" 93 y_d_isWithin ∈ lw_tbl := List.mem_of_getElem? (i := 331) (by decide +kernel)
theorem mw_297 : Cond.static y_d_isWithin ∈ lw_tbl := List.mem_of_getElem? (i := 332) (by decide +kernel)
set_option maxRecDepth 20000 in
theorem mw_298 : Cond.code y_d_isWithin b_d_isWithin 4 (some .boolean) ∈ lw_tbl := List.mem_of_getElem? (i := 333) (by rfl)
theorem mw_299 : Cond.classLink "ServiceDesk" 97 "java/lang/IndexOutOfBoundsException" ∈ lw_tbl := List.mem_of_getElem? (i := 334) (by decide +kernel)
theorem mw_300 : Cond.instantiable "java/lang/IndexOutOfBoundsException" 6 ∈ lw_tbl := List.mem_of_getElem? (i := 335) (by decide +kernel)
theorem mw_301 : Cond.castable "java/lang/IndexOutOfBoundsException" "java/lang/IndexOutOfBoundsException" ∈ lw_tbl := List.mem_of_getElem? (i := 336) (by decide +kernel)
theorem mw_302 : Cond.selects "java/lang/IndexOutOfBoundsException" ⟨"java/lang/Throwable", "fillInStackTrace", "(I)Ljava/lang/Throwable;"⟩ ⟨"java/lang/Throwable", "fillInStackTrace", "(I)Ljava/lang/Throwable;"⟩ ∈ lw_tbl := List.mem_of_getElem? (i := 337) (by decide +kernel)
theorem mw_308 : Cond.stringRef "ServiceDesk" 99 "a or b is out of range" ∈ lw_tbl := List.mem_of_getElem? (i := 343) (by decide +kernel)
theorem mw_309 : Cond.methodLink "ServiceDesk" 101 ⟨"java/lang/IndexOutOfBoundsException", "<init>", "(Ljava/lang/String;)V"⟩ ∈ lw_tbl := List.mem_of_getElem? (i := 344) (by decide +kernel)
theorem mw_310 : Cond.instanceMethod ⟨"java/lang/IndexOutOfBoundsException", "<init>", "(Ljava/lang/String;)V"⟩ ∈ lw_tbl := List.mem_of_getElem? (i := 345) (by decide +kernel)
theorem mw_312 : Cond.methodLink "java/lang/IndexOutOfBoundsException" 7 ⟨"java/lang/RuntimeException", "<init>", "(Ljava/lang/String;)V"⟩ ∈ lw_tbl := List.mem_of_getElem? (i := 347) (by decide +kernel)
theorem mw_315 : Cond.methodLinkNest "ServiceDesk" 102 y_w_set "ServiceDesk" ∈ lw_tbl := List.mem_of_getElem? (i := 350) (by decide +kernel)
theorem mw_316 : Cond.privateMethod y_w_set ∈ lw_tbl := List.mem_of_getElem? (i := 351) (by decide +kernel)
theorem mw_317 : Cond.instanceMethod y_w_set ∈ lw_tbl := List.mem_of_getElem? (i := 352) (by decide +kernel)
set_option maxRecDepth 20000 in
theorem mw_318 : Cond.code y_w_set b_w_set 5 none ∈ lw_tbl := List.mem_of_getElem? (i := 353) (by rfl)
theorem mw_319 : Cond.methodLink "ServiceDeskLaw" 83 y_L_call ∈ lw_tbl := List.mem_of_getElem? (i := 354) (by decide +kernel)
theorem mw_320 : Cond.static y_L_call ∈ lw_tbl := List.mem_of_getElem? (i := 355) (by decide +kernel)
set_option maxRecDepth 20000 in
theorem mw_321 : Cond.codeWith y_L_call b_L_call 7 (some .int) [(0, 13, 16, 13), (0, 13, 20, 27), (0, 13, 24, 15)] ∈ lw_tbl := List.mem_of_getElem? (i := 356) (by rfl)
theorem mw_322 : Cond.methodLink "ServiceDeskLaw" 29 y_d_call ∈ lw_tbl := List.mem_of_getElem? (i := 357) (by decide +kernel)
theorem mw_323 : Cond.instanceMethod y_d_call ∈ lw_tbl := List.mem_of_getElem? (i := 358) (by decide +kernel)
theorem mw_324 : Cond.selects "ServiceDesk" y_d_call y_d_call ∈ lw_tbl := List.mem_of_getElem? (i := 359) (by decide +kernel)
set_option maxRecDepth 20000 in
theorem mw_325 : Cond.code y_d_call b_d_call 8 (some .long) ∈ lw_tbl := List.mem_of_getElem? (i := 360) (by rfl)
theorem mw_326 : Cond.methodLink "ServiceDesk" 110 y_d_refusalOf ∈ lw_tbl := List.mem_of_getElem? (i := 361) (by decide +kernel)
theorem mw_327 : Cond.privateMethod y_d_refusalOf ∈ lw_tbl := List.mem_of_getElem? (i := 362) (by decide +kernel)
theorem mw_328 : Cond.instanceMethod y_d_refusalOf ∈ lw_tbl := List.mem_of_getElem? (i := 363) (by decide +kernel)
set_option maxRecDepth 20000 in
theorem mw_329 : Cond.code y_d_refusalOf b_d_refusalOf 5 (some .int) ∈ lw_tbl := List.mem_of_getElem? (i := 364) (by rfl)
theorem mw_330 : Cond.constantLong "ServiceDesk" 211 (1000000) ∈ lw_tbl := List.mem_of_getElem? (i := 365) (by decide +kernel)
theorem mw_331 : Cond.methodLinkNest "ServiceDesk" 114 y_r_tell "ServiceDesk" ∈ lw_tbl := List.mem_of_getElem? (i := 366) (by decide +kernel)
theorem mw_332 : Cond.privateMethod y_r_tell ∈ lw_tbl := List.mem_of_getElem? (i := 367) (by decide +kernel)
theorem mw_333 : Cond.instanceMethod y_r_tell ∈ lw_tbl := List.mem_of_getElem? (i := 368) (by decide +kernel)
set_option maxRecDepth 20000 in
theorem mw_334 : Cond.code y_r_tell b_r_tell 7 none ∈ lw_tbl := List.mem_of_getElem? (i := 369) (by rfl)
theorem mw_335 : Cond.methodLink "ServiceDesk" 118 y_d_refuse ∈ lw_tbl := List.mem_of_getElem? (i := 370) (by decide +kernel)
theorem mw_336 : Cond.static y_d_refuse ∈ lw_tbl := List.mem_of_getElem? (i := 371) (by decide +kernel)
set_option maxRecDepth 20000 in
theorem mw_337 : Cond.code y_d_refuse b_d_refuse 1 none ∈ lw_tbl := List.mem_of_getElem? (i := 372) (by rfl)
theorem mw_338 : Cond.stringRef "ServiceDesk" 213 "no such kind, subject or verb" ∈ lw_tbl := List.mem_of_getElem? (i := 373) (by decide +kernel)
theorem mw_339 : Cond.stringRef "ServiceDesk" 215 "the argument is out of range" ∈ lw_tbl := List.mem_of_getElem? (i := 374) (by decide +kernel)
theorem mw_340 : Cond.stringRef "ServiceDesk" 142 "the subject is closed" ∈ lw_tbl := List.mem_of_getElem? (i := 375) (by decide +kernel)
theorem mw_341 : Cond.methodLink "ServiceDesk" 122 y_d_answerTo ∈ lw_tbl := List.mem_of_getElem? (i := 376) (by decide +kernel)
theorem mw_342 : Cond.privateMethod y_d_answerTo ∈ lw_tbl := List.mem_of_getElem? (i := 377) (by decide +kernel)
theorem mw_343 : Cond.instanceMethod y_d_answerTo ∈ lw_tbl := List.mem_of_getElem? (i := 378) (by decide +kernel)
set_option maxRecDepth 20000 in
theorem mw_344 : Cond.code y_d_answerTo b_d_answerTo 12 (some .long) ∈ lw_tbl := List.mem_of_getElem? (i := 379) (by rfl)
theorem mw_345 : Cond.methodLink "ServiceDesk" 223 y_d_sumOrFailure ∈ lw_tbl := List.mem_of_getElem? (i := 380) (by decide +kernel)
theorem mw_346 : Cond.static y_d_sumOrFailure ∈ lw_tbl := List.mem_of_getElem? (i := 381) (by decide +kernel)
set_option maxRecDepth 20000 in
theorem mw_347 : Cond.code y_d_sumOrFailure b_d_sumOrFailure 2 (some .long) ∈ lw_tbl := List.mem_of_getElem? (i := 382) (by rfl)
theorem mw_348 : Cond.constantLong "ServiceDesk" 241 (1000000000) ∈ lw_tbl := List.mem_of_getElem? (i := 383) (by decide +kernel)
theorem mw_349 : Cond.constantLong "ServiceDesk" 243 (-9000000000009) ∈ lw_tbl := List.mem_of_getElem? (i := 384) (by decide +kernel)
theorem mw_350 : Cond.constantLong "ServiceDesk" 126 (-9000000000000) ∈ lw_tbl := List.mem_of_getElem? (i := 385) (by decide +kernel)
theorem mw_351 : Cond.constantLong "ServiceDesk" 227 (7) ∈ lw_tbl := List.mem_of_getElem? (i := 386) (by decide +kernel)
theorem mw_352 : Cond.constantLong "ServiceDesk" 229 (-9000000000010) ∈ lw_tbl := List.mem_of_getElem? (i := 387) (by decide +kernel)
theorem mw_353 : Cond.methodLink "ServiceDesk" 231 y_d_slotAbove ∈ lw_tbl := List.mem_of_getElem? (i := 388) (by decide +kernel)
theorem mw_354 : Cond.privateMethod y_d_slotAbove ∈ lw_tbl := List.mem_of_getElem? (i := 389) (by decide +kernel)
theorem mw_355 : Cond.instanceMethod y_d_slotAbove ∈ lw_tbl := List.mem_of_getElem? (i := 390) (by decide +kernel)
set_option maxRecDepth 20000 in
theorem mw_356 : Cond.code y_d_slotAbove b_d_slotAbove 3 (some .int) ∈ lw_tbl := List.mem_of_getElem? (i := 391) (by rfl)
theorem mw_357 : Cond.methodLink "ServiceDesk" 234 y_d_answerToPass ∈ lw_tbl := List.mem_of_getElem? (i := 392) (by decide +kernel)
theorem mw_358 : Cond.privateMethod y_d_answerToPass ∈ lw_tbl := List.mem_of_getElem? (i := 393) (by decide +kernel)
theorem mw_359 : Cond.instanceMethod y_d_answerToPass ∈ lw_tbl := List.mem_of_getElem? (i := 394) (by decide +kernel)
set_option maxRecDepth 20000 in
theorem mw_360 : Cond.code y_d_answerToPass b_d_answerToPass 3 (some .long) ∈ lw_tbl := List.mem_of_getElem? (i := 395) (by rfl)
theorem mw_361 : Cond.constantLong "ServiceDesk" 245 (-9000000000011) ∈ lw_tbl := List.mem_of_getElem? (i := 396) (by decide +kernel)
theorem mw_362 : Cond.methodLink "ServiceDesk" 238 y_d_answerToClose ∈ lw_tbl := List.mem_of_getElem? (i := 397) (by decide +kernel)
theorem mw_363 : Cond.privateMethod y_d_answerToClose ∈ lw_tbl := List.mem_of_getElem? (i := 398) (by decide +kernel)
theorem mw_364 : Cond.instanceMethod y_d_answerToClose ∈ lw_tbl := List.mem_of_getElem? (i := 399) (by decide +kernel)
set_option maxRecDepth 20000 in
theorem mw_365 : Cond.code y_d_answerToClose b_d_answerToClose 3 (some .long) ∈ lw_tbl := List.mem_of_getElem? (i := 400) (by rfl)
theorem mw_366 : Cond.methodLink "ServiceDesk" 170 y_d_openOnesUnder ∈ lw_tbl := List.mem_of_getElem? (i := 401) (by decide +kernel)
theorem mw_367 : Cond.privateMethod y_d_openOnesUnder ∈ lw_tbl := List.mem_of_getElem? (i := 402) (by decide +kernel)
theorem mw_368 : Cond.instanceMethod y_d_openOnesUnder ∈ lw_tbl := List.mem_of_getElem? (i := 403) (by decide +kernel)
set_option maxRecDepth 20000 in
theorem mw_369 : Cond.code y_d_openOnesUnder b_d_openOnesUnder 5 (some .int) ∈ lw_tbl := List.mem_of_getElem? (i := 404) (by rfl)
theorem mw_370 : Cond.methodLinkNest "ServiceDesk" 256 y_s_openUnder "ServiceDesk" ∈ lw_tbl := List.mem_of_getElem? (i := 405) (by decide +kernel)
theorem mw_371 : Cond.privateMethod y_s_openUnder ∈ lw_tbl := List.mem_of_getElem? (i := 406) (by decide +kernel)
theorem mw_372 : Cond.instanceMethod y_s_openUnder ∈ lw_tbl := List.mem_of_getElem? (i := 407) (by decide +kernel)
set_option maxRecDepth 20000 in
theorem mw_373 : Cond.code y_s_openUnder b_s_openUnder 6 (some .int) ∈ lw_tbl := List.mem_of_getElem? (i := 408) (by rfl)
theorem mw_374 : Cond.constantLong "ServiceDesk" 247 (-9000000000012) ∈ lw_tbl := List.mem_of_getElem? (i := 409) (by decide +kernel)
theorem mw_375 : Cond.methodLinkNest "ServiceDesk" 249 y_s_openOf "ServiceDesk" ∈ lw_tbl := List.mem_of_getElem? (i := 410) (by decide +kernel)
theorem mw_376 : Cond.privateMethod y_s_openOf ∈ lw_tbl := List.mem_of_getElem? (i := 411) (by decide +kernel)
theorem mw_377 : Cond.instanceMethod y_s_openOf ∈ lw_tbl := List.mem_of_getElem? (i := 412) (by decide +kernel)
set_option maxRecDepth 20000 in
theorem mw_378 : Cond.code y_s_openOf b_s_openOf 4 (some .int) ∈ lw_tbl := List.mem_of_getElem? (i := 413) (by rfl)
theorem mw_379 : Cond.methodLink "ServiceDesk" 128 y_d_carryOut ∈ lw_tbl := List.mem_of_getElem? (i := 414) (by decide +kernel)
theorem mw_380 : Cond.privateMethod y_d_carryOut ∈ lw_tbl := List.mem_of_getElem? (i := 415) (by decide +kernel)
theorem mw_381 : Cond.instanceMethod y_d_carryOut ∈ lw_tbl := List.mem_of_getElem? (i := 416) (by decide +kernel)
set_option maxRecDepth 20000 in
theorem mw_382 : Cond.code y_d_carryOut b_d_carryOut 6 none ∈ lw_tbl := List.mem_of_getElem? (i := 417) (by rfl)
theorem mw_383 : Cond.methodLink "ServiceDesk" 252 y_d_setSum ∈ lw_tbl := List.mem_of_getElem? (i := 418) (by decide +kernel)
theorem mw_384 : Cond.privateMethod y_d_setSum ∈ lw_tbl := List.mem_of_getElem? (i := 419) (by decide +kernel)
theorem mw_385 : Cond.instanceMethod y_d_setSum ∈ lw_tbl := List.mem_of_getElem? (i := 420) (by decide +kernel)
set_option maxRecDepth 20000 in
theorem mw_386 : Cond.code y_d_setSum b_d_setSum 4 none ∈ lw_tbl := List.mem_of_getElem? (i := 421) (by rfl)
theorem mw_387 : Cond.methodLink "ServiceDeskLaw" 87 y_L_simulate ∈ lw_tbl := List.mem_of_getElem? (i := 422) (by decide +kernel)
theorem mw_388 : Cond.static y_L_simulate ∈ lw_tbl := List.mem_of_getElem? (i := 423) (by decide +kernel)
set_option maxRecDepth 20000 in
theorem mw_389 : Cond.codeWith y_L_simulate b_L_simulate 7 (some .int) [(0, 13, 16, 13), (0, 13, 20, 27), (0, 13, 24, 15)] ∈ lw_tbl := List.mem_of_getElem? (i := 424) (by rfl)
theorem mw_390 : Cond.methodLink "ServiceDeskLaw" 33 y_d_simulate ∈ lw_tbl := List.mem_of_getElem? (i := 425) (by decide +kernel)
theorem mw_391 : Cond.instanceMethod y_d_simulate ∈ lw_tbl := List.mem_of_getElem? (i := 426) (by decide +kernel)
theorem mw_392 : Cond.selects "ServiceDesk" y_d_simulate y_d_simulate ∈ lw_tbl := List.mem_of_getElem? (i := 427) (by decide +kernel)
set_option maxRecDepth 20000 in
theorem mw_393 : Cond.code y_d_simulate b_d_simulate 5 (some .long) ∈ lw_tbl := List.mem_of_getElem? (i := 428) (by rfl)
theorem mw_394 : Cond.methodLink "ServiceDeskLaw" 92 y_L_text ∈ lw_tbl := List.mem_of_getElem? (i := 429) (by decide +kernel)
theorem mw_395 : Cond.static y_L_text ∈ lw_tbl := List.mem_of_getElem? (i := 430) (by decide +kernel)
set_option maxRecDepth 20000 in
theorem mw_396 : Cond.codeWith y_L_text b_L_text 8 (some .int) [(0, 14, 17, 13), (0, 14, 21, 27), (0, 14, 25, 15), (0, 14, 29, 21)] ∈ lw_tbl := List.mem_of_getElem? (i := 431) (by rfl)
theorem mw_397 : Cond.methodLink "ServiceDeskLaw" 36 y_d_text ∈ lw_tbl := List.mem_of_getElem? (i := 432) (by decide +kernel)
theorem mw_398 : Cond.instanceMethod y_d_text ∈ lw_tbl := List.mem_of_getElem? (i := 433) (by decide +kernel)
theorem mw_399 : Cond.selects "ServiceDesk" y_d_text y_d_text ∈ lw_tbl := List.mem_of_getElem? (i := 434) (by decide +kernel)
set_option maxRecDepth 20000 in
theorem mw_400 : Cond.code y_d_text b_d_text 7 (some .int) ∈ lw_tbl := List.mem_of_getElem? (i := 435) (by rfl)
theorem mw_401 : Cond.stringRef "ServiceDesk" 135 "no such kind or subject" ∈ lw_tbl := List.mem_of_getElem? (i := 436) (by decide +kernel)
theorem mw_402 : Cond.stringRef "ServiceDesk" 137 "n is out of range" ∈ lw_tbl := List.mem_of_getElem? (i := 437) (by decide +kernel)
theorem mw_403 : Cond.stringRef "ServiceDesk" 147 "no room for the text" ∈ lw_tbl := List.mem_of_getElem? (i := 438) (by decide +kernel)
theorem mw_404 : Cond.methodLinkNest "ServiceDesk" 149 y_s_lengthen "ServiceDesk" ∈ lw_tbl := List.mem_of_getElem? (i := 439) (by decide +kernel)
theorem mw_405 : Cond.privateMethod y_s_lengthen ∈ lw_tbl := List.mem_of_getElem? (i := 440) (by decide +kernel)
theorem mw_406 : Cond.instanceMethod y_s_lengthen ∈ lw_tbl := List.mem_of_getElem? (i := 441) (by decide +kernel)
set_option maxRecDepth 20000 in
theorem mw_407 : Cond.code y_s_lengthen b_s_lengthen 7 (some .int) ∈ lw_tbl := List.mem_of_getElem? (i := 442) (by rfl)
theorem mw_408 : Cond.methodLink "ServiceDesk$Subjects" 36 y_s_byteOf ∈ lw_tbl := List.mem_of_getElem? (i := 443) (by decide +kernel)
theorem mw_409 : Cond.static y_s_byteOf ∈ lw_tbl := List.mem_of_getElem? (i := 444) (by decide +kernel)
set_option maxRecDepth 20000 in
theorem mw_410 : Cond.code y_s_byteOf b_s_byteOf 4 (some .int) ∈ lw_tbl := List.mem_of_getElem? (i := 445) (by rfl)
theorem mw_411 : Cond.methodLink "ServiceDeskLaw" 96 y_L_textAt ∈ lw_tbl := List.mem_of_getElem? (i := 446) (by decide +kernel)
theorem mw_412 : Cond.static y_L_textAt ∈ lw_tbl := List.mem_of_getElem? (i := 447) (by decide +kernel)
set_option maxRecDepth 20000 in
theorem mw_413 : Cond.codeWith y_L_textAt b_L_textAt 6 (some .int) [(0, 12, 15, 13), (0, 12, 19, 27)] ∈ lw_tbl := List.mem_of_getElem? (i := 448) (by rfl)
theorem mw_414 : Cond.methodLink "ServiceDeskLaw" 40 y_d_textAt ∈ lw_tbl := List.mem_of_getElem? (i := 449) (by decide +kernel)
theorem mw_415 : Cond.instanceMethod y_d_textAt ∈ lw_tbl := List.mem_of_getElem? (i := 450) (by decide +kernel)
theorem mw_416 : Cond.selects "ServiceDesk" y_d_textAt y_d_textAt ∈ lw_tbl := List.mem_of_getElem? (i := 451) (by decide +kernel)
set_option maxRecDepth 20000 in
theorem mw_417 : Cond.code y_d_textAt b_d_textAt 5 (some .int) ∈ lw_tbl := List.mem_of_getElem? (i := 452) (by rfl)
theorem mw_418 : Cond.stringRef "ServiceDesk" 153 "i is below 0" ∈ lw_tbl := List.mem_of_getElem? (i := 453) (by decide +kernel)
theorem mw_419 : Cond.methodLinkNest "ServiceDesk" 155 y_s_byteAt "ServiceDesk" ∈ lw_tbl := List.mem_of_getElem? (i := 454) (by decide +kernel)
theorem mw_420 : Cond.methodLink "ServiceDeskLaw" 100 y_L_find ∈ lw_tbl := List.mem_of_getElem? (i := 455) (by decide +kernel)
theorem mw_421 : Cond.static y_L_find ∈ lw_tbl := List.mem_of_getElem? (i := 456) (by decide +kernel)
set_option maxRecDepth 20000 in
theorem mw_422 : Cond.codeWith y_L_find b_L_find 7 (some .int) [(0, 13, 16, 13), (0, 13, 20, 27)] ∈ lw_tbl := List.mem_of_getElem? (i := 457) (by rfl)
theorem mw_423 : Cond.methodLink "ServiceDeskLaw" 44 y_d_find ∈ lw_tbl := List.mem_of_getElem? (i := 458) (by decide +kernel)
theorem mw_424 : Cond.instanceMethod y_d_find ∈ lw_tbl := List.mem_of_getElem? (i := 459) (by decide +kernel)
theorem mw_425 : Cond.selects "ServiceDesk" y_d_find y_d_find ∈ lw_tbl := List.mem_of_getElem? (i := 460) (by decide +kernel)
set_option maxRecDepth 20000 in
theorem mw_426 : Cond.code y_d_find b_d_find 7 (some .int) ∈ lw_tbl := List.mem_of_getElem? (i := 461) (by rfl)
theorem mw_427 : Cond.methodLinkNest "ServiceDesk" 158 y_s_hasJust "ServiceDesk" ∈ lw_tbl := List.mem_of_getElem? (i := 462) (by decide +kernel)
theorem mw_428 : Cond.privateMethod y_s_hasJust ∈ lw_tbl := List.mem_of_getElem? (i := 463) (by decide +kernel)
theorem mw_429 : Cond.instanceMethod y_s_hasJust ∈ lw_tbl := List.mem_of_getElem? (i := 464) (by decide +kernel)
set_option maxRecDepth 20000 in
theorem mw_430 : Cond.code y_s_hasJust b_s_hasJust 6 (some .boolean) ∈ lw_tbl := List.mem_of_getElem? (i := 465) (by rfl)
theorem mw_431 : Cond.methodLink "ServiceDeskLaw" 104 y_L_subject ∈ lw_tbl := List.mem_of_getElem? (i := 466) (by decide +kernel)
theorem mw_432 : Cond.static y_L_subject ∈ lw_tbl := List.mem_of_getElem? (i := 467) (by decide +kernel)
set_option maxRecDepth 20000 in
theorem mw_433 : Cond.codeWith y_L_subject b_L_subject 6 (some .int) [(0, 12, 15, 13)] ∈ lw_tbl := List.mem_of_getElem? (i := 468) (by rfl)
theorem mw_434 : Cond.methodLink "ServiceDeskLaw" 48 y_d_subject ∈ lw_tbl := List.mem_of_getElem? (i := 469) (by decide +kernel)
theorem mw_435 : Cond.instanceMethod y_d_subject ∈ lw_tbl := List.mem_of_getElem? (i := 470) (by decide +kernel)
theorem mw_436 : Cond.selects "ServiceDesk" y_d_subject y_d_subject ∈ lw_tbl := List.mem_of_getElem? (i := 471) (by decide +kernel)
set_option maxRecDepth 20000 in
theorem mw_437 : Cond.code y_d_subject b_d_subject 5 (some .int) ∈ lw_tbl := List.mem_of_getElem? (i := 472) (by rfl)
theorem mw_438 : Cond.stringRef "ServiceDesk" 162 "no such kind, subject or what" ∈ lw_tbl := List.mem_of_getElem? (i := 473) (by decide +kernel)
theorem mw_439 : Cond.methodLink "ServiceDeskLaw" 107 y_L_row ∈ lw_tbl := List.mem_of_getElem? (i := 474) (by decide +kernel)
theorem mw_440 : Cond.static y_L_row ∈ lw_tbl := List.mem_of_getElem? (i := 475) (by decide +kernel)
set_option maxRecDepth 20000 in
theorem mw_441 : Cond.codeWith y_L_row b_L_row 5 (some .int) [(0, 10, 13, 13)] ∈ lw_tbl := List.mem_of_getElem? (i := 476) (by rfl)
theorem mw_442 : Cond.methodLink "ServiceDeskLaw" 51 y_d_row ∈ lw_tbl := List.mem_of_getElem? (i := 477) (by decide +kernel)
theorem mw_443 : Cond.instanceMethod y_d_row ∈ lw_tbl := List.mem_of_getElem? (i := 478) (by decide +kernel)
theorem mw_444 : Cond.selects "ServiceDesk" y_d_row y_d_row ∈ lw_tbl := List.mem_of_getElem? (i := 479) (by decide +kernel)
set_option maxRecDepth 20000 in
theorem mw_445 : Cond.code y_d_row b_d_row 3 (some .int) ∈ lw_tbl := List.mem_of_getElem? (i := 480) (by rfl)
theorem mw_446 : Cond.stringRef "ServiceDesk" 176 "no such row or what" ∈ lw_tbl := List.mem_of_getElem? (i := 481) (by decide +kernel)
theorem mw_447 : Cond.methodLink "ServiceDeskLaw" 110 y_L_tick ∈ lw_tbl := List.mem_of_getElem? (i := 482) (by decide +kernel)
theorem mw_448 : Cond.static y_L_tick ∈ lw_tbl := List.mem_of_getElem? (i := 483) (by decide +kernel)
set_option maxRecDepth 20000 in
theorem mw_449 : Cond.codeWith y_L_tick b_L_tick 4 (some .int) [(0, 9, 12, 27)] ∈ lw_tbl := List.mem_of_getElem? (i := 484) (by rfl)
theorem mw_450 : Cond.methodLink "ServiceDeskLaw" 54 y_d_tick ∈ lw_tbl := List.mem_of_getElem? (i := 485) (by decide +kernel)
theorem mw_451 : Cond.instanceMethod y_d_tick ∈ lw_tbl := List.mem_of_getElem? (i := 486) (by decide +kernel)
theorem mw_452 : Cond.selects "ServiceDesk" y_d_tick y_d_tick ∈ lw_tbl := List.mem_of_getElem? (i := 487) (by decide +kernel)
set_option maxRecDepth 20000 in
theorem mw_453 : Cond.code y_d_tick b_d_tick 2 (some .int) ∈ lw_tbl := List.mem_of_getElem? (i := 488) (by rfl)
theorem mw_454 : Cond.constant "ServiceDesk" 181 (100000) ∈ lw_tbl := List.mem_of_getElem? (i := 489) (by decide +kernel)
theorem mw_455 : Cond.constant "ServiceDesk" 182 (1000000000) ∈ lw_tbl := List.mem_of_getElem? (i := 490) (by decide +kernel)
theorem mw_456 : Cond.stringRef "ServiceDesk" 186 "n is out of range, or the clock would be" ∈ lw_tbl := List.mem_of_getElem? (i := 491) (by decide +kernel)
theorem mw_457 : Cond.methodLink "ServiceDeskLaw" 114 y_L_count ∈ lw_tbl := List.mem_of_getElem? (i := 492) (by decide +kernel)
theorem mw_458 : Cond.static y_L_count ∈ lw_tbl := List.mem_of_getElem? (i := 493) (by decide +kernel)
set_option maxRecDepth 20000 in
theorem mw_459 : Cond.codeWith y_L_count b_L_count 4 (some .int) [(0, 9, 12, 13)] ∈ lw_tbl := List.mem_of_getElem? (i := 494) (by rfl)
theorem mw_460 : Cond.methodLink "ServiceDeskLaw" 58 y_d_count ∈ lw_tbl := List.mem_of_getElem? (i := 495) (by decide +kernel)
theorem mw_461 : Cond.instanceMethod y_d_count ∈ lw_tbl := List.mem_of_getElem? (i := 496) (by decide +kernel)
theorem mw_462 : Cond.selects "ServiceDesk" y_d_count y_d_count ∈ lw_tbl := List.mem_of_getElem? (i := 497) (by decide +kernel)
set_option maxRecDepth 20000 in
theorem mw_463 : Cond.code y_d_count b_d_count 2 (some .int) ∈ lw_tbl := List.mem_of_getElem? (i := 498) (by rfl)
theorem mw_464 : Cond.methodLinkNest "ServiceDesk" 188 y_s_madeInAll "ServiceDesk" ∈ lw_tbl := List.mem_of_getElem? (i := 499) (by decide +kernel)
theorem mw_465 : Cond.privateMethod y_s_madeInAll ∈ lw_tbl := List.mem_of_getElem? (i := 500) (by decide +kernel)
theorem mw_466 : Cond.instanceMethod y_s_madeInAll ∈ lw_tbl := List.mem_of_getElem? (i := 501) (by decide +kernel)
set_option maxRecDepth 20000 in
theorem mw_467 : Cond.code y_s_madeInAll b_s_madeInAll 3 (some .int) ∈ lw_tbl := List.mem_of_getElem? (i := 502) (by rfl)
theorem mw_468 : Cond.methodLinkNest "ServiceDesk" 192 y_s_openInAll "ServiceDesk" ∈ lw_tbl := List.mem_of_getElem? (i := 503) (by decide +kernel)
theorem mw_469 : Cond.privateMethod y_s_openInAll ∈ lw_tbl := List.mem_of_getElem? (i := 504) (by decide +kernel)
theorem mw_470 : Cond.instanceMethod y_s_openInAll ∈ lw_tbl := List.mem_of_getElem? (i := 505) (by decide +kernel)
set_option maxRecDepth 20000 in
theorem mw_471 : Cond.code y_s_openInAll b_s_openInAll 3 (some .int) ∈ lw_tbl := List.mem_of_getElem? (i := 506) (by rfl)
theorem mw_472 : Cond.methodLink "ServiceDesk$Subjects" 43 y_s_openOf ∈ lw_tbl := List.mem_of_getElem? (i := 507) (by decide +kernel)
theorem mw_473 : Cond.stringRef "ServiceDesk" 195 "no such what" ∈ lw_tbl := List.mem_of_getElem? (i := 508) (by decide +kernel)
theorem mw_474 : Cond.classLink "ServiceDeskLaw" 62 "ServiceDeskModel" ∈ lw_tbl := List.mem_of_getElem? (i := 509) (by decide +kernel)
theorem mw_475 : Cond.instantiable "ServiceDeskModel" 17 ∈ lw_tbl := List.mem_of_getElem? (i := 510) (by decide +kernel)
theorem mw_476 : Cond.methodLink "ServiceDeskLaw" 64 y_m_init ∈ lw_tbl := List.mem_of_getElem? (i := 511) (by decide +kernel)
theorem mw_477 : Cond.instanceMethod y_m_init ∈ lw_tbl := List.mem_of_getElem? (i := 512) (by decide +kernel)
set_option maxRecDepth 20000 in
theorem mw_478 : Cond.code y_m_init b_m_init 1 none ∈ lw_tbl := List.mem_of_getElem? (i := 513) (by rfl)
theorem mw_479 : Cond.methodLink "ServiceDeskModel" 1 y_O_init ∈ lw_tbl := List.mem_of_getElem? (i := 514) (by decide +kernel)
theorem mw_480 : Cond.fieldLink "ServiceDeskModel" 45 "ServiceDeskModel" "thrown" "I" ∈ lw_tbl := List.mem_of_getElem? (i := 515) (by decide +kernel)
theorem mw_481 : Cond.fieldLink "ServiceDeskModel" 7 "ServiceDeskModel" "above" "[I" ∈ lw_tbl := List.mem_of_getElem? (i := 516) (by decide +kernel)
theorem mw_482 : Cond.fieldLink "ServiceDeskModel" 13 "ServiceDeskModel" "made" "[I" ∈ lw_tbl := List.mem_of_getElem? (i := 517) (by decide +kernel)
theorem mw_483 : Cond.fieldLink "ServiceDeskModel" 16 "ServiceDeskModel" "under" "[I" ∈ lw_tbl := List.mem_of_getElem? (i := 518) (by decide +kernel)
theorem mw_484 : Cond.fieldLink "ServiceDeskModel" 19 "ServiceDeskModel" "open" "[Z" ∈ lw_tbl := List.mem_of_getElem? (i := 519) (by decide +kernel)
theorem mw_485 : Cond.fieldLink "ServiceDeskModel" 23 "ServiceDeskModel" "sum" "[J" ∈ lw_tbl := List.mem_of_getElem? (i := 520) (by decide +kernel)
theorem mw_486 : Cond.fieldLink "ServiceDeskModel" 27 "ServiceDeskModel" "length" "[I" ∈ lw_tbl := List.mem_of_getElem? (i := 521) (by decide +kernel)
theorem mw_487 : Cond.fieldLink "ServiceDeskModel" 30 "ServiceDeskModel" "text" "[I" ∈ lw_tbl := List.mem_of_getElem? (i := 522) (by decide +kernel)
theorem mw_488 : Cond.fieldLink "ServiceDeskModel" 33 "ServiceDeskModel" "mode" "[I" ∈ lw_tbl := List.mem_of_getElem? (i := 523) (by decide +kernel)
theorem mw_489 : Cond.fieldLink "ServiceDeskModel" 36 "ServiceDeskModel" "first" "[I" ∈ lw_tbl := List.mem_of_getElem? (i := 524) (by decide +kernel)
theorem mw_490 : Cond.fieldLink "ServiceDeskModel" 39 "ServiceDeskModel" "second" "[I" ∈ lw_tbl := List.mem_of_getElem? (i := 525) (by decide +kernel)
theorem mw_491 : Cond.fieldLink "ServiceDeskModel" 107 "ServiceDeskModel" "turns" "I" ∈ lw_tbl := List.mem_of_getElem? (i := 526) (by decide +kernel)
theorem mw_492 : Cond.fieldLink "ServiceDeskModel" 130 "ServiceDeskModel" "clock" "I" ∈ lw_tbl := List.mem_of_getElem? (i := 527) (by decide +kernel)
theorem mw_493 : Cond.fieldLink "ServiceDeskModel" 110 "ServiceDeskModel" "rows" "I" ∈ lw_tbl := List.mem_of_getElem? (i := 528) (by decide +kernel)
theorem mw_494 : Cond.fieldLink "ServiceDeskModel" 42 "ServiceDeskModel" "row" "[I" ∈ lw_tbl := List.mem_of_getElem? (i := 529) (by decide +kernel)
theorem mw_495 : Cond.fieldLink "ServiceDeskModel" 78 "ServiceDeskModel" "changes" "I" ∈ lw_tbl := List.mem_of_getElem? (i := 530) (by decide +kernel)
theorem mw_496 : Cond.fieldLink "ServiceDeskModel" 81 "ServiceDeskModel" "changed" "J" ∈ lw_tbl := List.mem_of_getElem? (i := 531) (by decide +kernel)
theorem mw_532 : Cond.arrayClass .long ∈ lw_tbl := List.mem_of_getElem? (i := 567) (by decide +kernel)
theorem mw_533 : Cond.methodLink "ServiceDeskLaw" 71 y_m_thrown ∈ lw_tbl := List.mem_of_getElem? (i := 568) (by decide +kernel)
theorem mw_534 : Cond.instanceMethod y_m_thrown ∈ lw_tbl := List.mem_of_getElem? (i := 569) (by decide +kernel)
theorem mw_535 : Cond.selects "ServiceDeskModel" y_m_thrown y_m_thrown ∈ lw_tbl := List.mem_of_getElem? (i := 570) (by decide +kernel)
set_option maxRecDepth 20000 in
theorem mw_536 : Cond.code y_m_thrown b_m_thrown 1 (some .int) ∈ lw_tbl := List.mem_of_getElem? (i := 571) (by rfl)
theorem mw_537 : Cond.methodLink "ServiceDeskLaw" 70 y_m_under ∈ lw_tbl := List.mem_of_getElem? (i := 572) (by decide +kernel)
theorem mw_538 : Cond.instanceMethod y_m_under ∈ lw_tbl := List.mem_of_getElem? (i := 573) (by decide +kernel)
theorem mw_539 : Cond.selects "ServiceDeskModel" y_m_under y_m_under ∈ lw_tbl := List.mem_of_getElem? (i := 574) (by decide +kernel)
set_option maxRecDepth 20000 in
theorem mw_540 : Cond.code y_m_under b_m_under 4 none ∈ lw_tbl := List.mem_of_getElem? (i := 575) (by rfl)
theorem mw_541 : Cond.methodLink "ServiceDeskModel" 53 y_m_isKind ∈ lw_tbl := List.mem_of_getElem? (i := 576) (by decide +kernel)
theorem mw_542 : Cond.static y_m_isKind ∈ lw_tbl := List.mem_of_getElem? (i := 577) (by decide +kernel)
set_option maxRecDepth 20000 in
theorem mw_543 : Cond.code y_m_isKind b_m_isKind 1 (some .boolean) ∈ lw_tbl := List.mem_of_getElem? (i := 578) (by rfl)
theorem mw_544 : Cond.methodLink "ServiceDeskModel" 49 y_m_in ∈ lw_tbl := List.mem_of_getElem? (i := 579) (by decide +kernel)
theorem mw_545 : Cond.static y_m_in ∈ lw_tbl := List.mem_of_getElem? (i := 580) (by decide +kernel)
set_option maxRecDepth 20000 in
theorem mw_546 : Cond.code y_m_in b_m_in 3 (some .boolean) ∈ lw_tbl := List.mem_of_getElem? (i := 581) (by rfl)
theorem mw_547 : Cond.methodLink "ServiceDeskModel" 57 y_m_reaches ∈ lw_tbl := List.mem_of_getElem? (i := 582) (by decide +kernel)
theorem mw_548 : Cond.privateMethod y_m_reaches ∈ lw_tbl := List.mem_of_getElem? (i := 583) (by decide +kernel)
theorem mw_549 : Cond.instanceMethod y_m_reaches ∈ lw_tbl := List.mem_of_getElem? (i := 584) (by decide +kernel)
set_option maxRecDepth 20000 in
theorem mw_550 : Cond.code y_m_reaches b_m_reaches 4 (some .boolean) ∈ lw_tbl := List.mem_of_getElem? (i := 585) (by rfl)
theorem mw_551 : Cond.methodLink "ServiceDeskModel" 61 y_m_throwing ∈ lw_tbl := List.mem_of_getElem? (i := 586) (by decide +kernel)
theorem mw_552 : Cond.privateMethod y_m_throwing ∈ lw_tbl := List.mem_of_getElem? (i := 587) (by decide +kernel)
theorem mw_553 : Cond.instanceMethod y_m_throwing ∈ lw_tbl := List.mem_of_getElem? (i := 588) (by decide +kernel)
set_option maxRecDepth 20000 in
theorem mw_554 : Cond.code y_m_throwing b_m_throwing 5 (some .boolean) ∈ lw_tbl := List.mem_of_getElem? (i := 589) (by rfl)
theorem mw_555 : Cond.methodLink "ServiceDeskLaw" 78 y_m_make ∈ lw_tbl := List.mem_of_getElem? (i := 590) (by decide +kernel)
theorem mw_556 : Cond.instanceMethod y_m_make ∈ lw_tbl := List.mem_of_getElem? (i := 591) (by decide +kernel)
theorem mw_557 : Cond.selects "ServiceDeskModel" y_m_make y_m_make ∈ lw_tbl := List.mem_of_getElem? (i := 592) (by decide +kernel)
set_option maxRecDepth 20000 in
theorem mw_558 : Cond.code y_m_make b_m_make 6 (some .int) ∈ lw_tbl := List.mem_of_getElem? (i := 593) (by rfl)
theorem mw_559 : Cond.methodLink "ServiceDeskModel" 65 y_m_isSubject ∈ lw_tbl := List.mem_of_getElem? (i := 594) (by decide +kernel)
theorem mw_560 : Cond.privateMethod y_m_isSubject ∈ lw_tbl := List.mem_of_getElem? (i := 595) (by decide +kernel)
theorem mw_561 : Cond.instanceMethod y_m_isSubject ∈ lw_tbl := List.mem_of_getElem? (i := 596) (by decide +kernel)
set_option maxRecDepth 20000 in
theorem mw_562 : Cond.code y_m_isSubject b_m_isSubject 3 (some .boolean) ∈ lw_tbl := List.mem_of_getElem? (i := 597) (by rfl)
theorem mw_563 : Cond.methodLink "ServiceDeskLaw" 82 y_m_verb ∈ lw_tbl := List.mem_of_getElem? (i := 598) (by decide +kernel)
theorem mw_564 : Cond.instanceMethod y_m_verb ∈ lw_tbl := List.mem_of_getElem? (i := 599) (by decide +kernel)
theorem mw_565 : Cond.selects "ServiceDeskModel" y_m_verb y_m_verb ∈ lw_tbl := List.mem_of_getElem? (i := 600) (by decide +kernel)
set_option maxRecDepth 20000 in
theorem mw_566 : Cond.code y_m_verb b_m_verb 7 none ∈ lw_tbl := List.mem_of_getElem? (i := 601) (by rfl)
theorem mw_567 : Cond.methodLink "ServiceDeskLaw" 86 y_m_call ∈ lw_tbl := List.mem_of_getElem? (i := 602) (by decide +kernel)
theorem mw_568 : Cond.instanceMethod y_m_call ∈ lw_tbl := List.mem_of_getElem? (i := 603) (by decide +kernel)
theorem mw_569 : Cond.selects "ServiceDeskModel" y_m_call y_m_call ∈ lw_tbl := List.mem_of_getElem? (i := 604) (by decide +kernel)
set_option maxRecDepth 20000 in
theorem mw_570 : Cond.code y_m_call b_m_call 8 (some .long) ∈ lw_tbl := List.mem_of_getElem? (i := 605) (by rfl)
theorem mw_571 : Cond.methodLink "ServiceDeskModel" 115 y_m_refuses ∈ lw_tbl := List.mem_of_getElem? (i := 606) (by decide +kernel)
theorem mw_572 : Cond.privateMethod y_m_refuses ∈ lw_tbl := List.mem_of_getElem? (i := 607) (by decide +kernel)
theorem mw_573 : Cond.instanceMethod y_m_refuses ∈ lw_tbl := List.mem_of_getElem? (i := 608) (by decide +kernel)
set_option maxRecDepth 20000 in
theorem mw_574 : Cond.code y_m_refuses b_m_refuses 6 (some .boolean) ∈ lw_tbl := List.mem_of_getElem? (i := 609) (by rfl)
theorem mw_575 : Cond.constant "ServiceDeskModel" 113 (-1000000) ∈ lw_tbl := List.mem_of_getElem? (i := 610) (by decide +kernel)
theorem mw_576 : Cond.constant "ServiceDeskModel" 114 (1000000) ∈ lw_tbl := List.mem_of_getElem? (i := 611) (by decide +kernel)
theorem mw_577 : Cond.methodLink "ServiceDeskModel" 119 y_m_tell ∈ lw_tbl := List.mem_of_getElem? (i := 612) (by decide +kernel)
theorem mw_578 : Cond.privateMethod y_m_tell ∈ lw_tbl := List.mem_of_getElem? (i := 613) (by decide +kernel)
theorem mw_579 : Cond.instanceMethod y_m_tell ∈ lw_tbl := List.mem_of_getElem? (i := 614) (by decide +kernel)
set_option maxRecDepth 20000 in
theorem mw_580 : Cond.code y_m_tell b_m_tell 5 none ∈ lw_tbl := List.mem_of_getElem? (i := 615) (by rfl)
theorem mw_581 : Cond.methodLink "ServiceDeskModel" 123 y_m_workOut ∈ lw_tbl := List.mem_of_getElem? (i := 616) (by decide +kernel)
theorem mw_582 : Cond.privateMethod y_m_workOut ∈ lw_tbl := List.mem_of_getElem? (i := 617) (by decide +kernel)
theorem mw_583 : Cond.instanceMethod y_m_workOut ∈ lw_tbl := List.mem_of_getElem? (i := 618) (by decide +kernel)
set_option maxRecDepth 20000 in
theorem mw_584 : Cond.code y_m_workOut b_m_workOut 10 (some .long) ∈ lw_tbl := List.mem_of_getElem? (i := 619) (by rfl)
theorem mw_585 : Cond.methodLink "ServiceDeskModel" 85 y_m_change ∈ lw_tbl := List.mem_of_getElem? (i := 620) (by decide +kernel)
theorem mw_586 : Cond.privateMethod y_m_change ∈ lw_tbl := List.mem_of_getElem? (i := 621) (by decide +kernel)
theorem mw_587 : Cond.instanceMethod y_m_change ∈ lw_tbl := List.mem_of_getElem? (i := 622) (by decide +kernel)
set_option maxRecDepth 20000 in
theorem mw_588 : Cond.code y_m_change b_m_change 4 (some .long) ∈ lw_tbl := List.mem_of_getElem? (i := 623) (by rfl)
theorem mw_589 : Cond.methodLink "ServiceDeskModel" 72 y_m_isSum ∈ lw_tbl := List.mem_of_getElem? (i := 624) (by decide +kernel)
theorem mw_590 : Cond.static y_m_isSum ∈ lw_tbl := List.mem_of_getElem? (i := 625) (by decide +kernel)
set_option maxRecDepth 20000 in
theorem mw_591 : Cond.code y_m_isSum b_m_isSum 2 (some .boolean) ∈ lw_tbl := List.mem_of_getElem? (i := 626) (by rfl)
theorem mw_592 : Cond.constantLong "ServiceDeskModel" 68 (-1000000000) ∈ lw_tbl := List.mem_of_getElem? (i := 627) (by decide +kernel)
theorem mw_593 : Cond.constantLong "ServiceDeskModel" 70 (1000000000) ∈ lw_tbl := List.mem_of_getElem? (i := 628) (by decide +kernel)
theorem mw_594 : Cond.constantLong "ServiceDeskModel" 76 (-9000000000009) ∈ lw_tbl := List.mem_of_getElem? (i := 629) (by decide +kernel)
theorem mw_595 : Cond.constantLong "ServiceDeskModel" 89 (-9000000000001) ∈ lw_tbl := List.mem_of_getElem? (i := 630) (by decide +kernel)
theorem mw_596 : Cond.constantLong "ServiceDeskModel" 91 (7) ∈ lw_tbl := List.mem_of_getElem? (i := 631) (by decide +kernel)
theorem mw_597 : Cond.constantLong "ServiceDeskModel" 93 (-9000000000010) ∈ lw_tbl := List.mem_of_getElem? (i := 632) (by decide +kernel)
theorem mw_598 : Cond.constantLong "ServiceDeskModel" 95 (-9000000000011) ∈ lw_tbl := List.mem_of_getElem? (i := 633) (by decide +kernel)
theorem mw_599 : Cond.methodLink "ServiceDeskModel" 97 y_m_openUnder ∈ lw_tbl := List.mem_of_getElem? (i := 634) (by decide +kernel)
theorem mw_600 : Cond.privateMethod y_m_openUnder ∈ lw_tbl := List.mem_of_getElem? (i := 635) (by decide +kernel)
theorem mw_601 : Cond.instanceMethod y_m_openUnder ∈ lw_tbl := List.mem_of_getElem? (i := 636) (by decide +kernel)
set_option maxRecDepth 20000 in
theorem mw_602 : Cond.code y_m_openUnder b_m_openUnder 6 (some .int) ∈ lw_tbl := List.mem_of_getElem? (i := 637) (by rfl)
theorem mw_603 : Cond.constantLong "ServiceDeskModel" 101 (-9000000000012) ∈ lw_tbl := List.mem_of_getElem? (i := 638) (by decide +kernel)
theorem mw_604 : Cond.methodLink "ServiceDeskModel" 103 y_m_openOf ∈ lw_tbl := List.mem_of_getElem? (i := 639) (by decide +kernel)
theorem mw_605 : Cond.privateMethod y_m_openOf ∈ lw_tbl := List.mem_of_getElem? (i := 640) (by decide +kernel)
theorem mw_606 : Cond.instanceMethod y_m_openOf ∈ lw_tbl := List.mem_of_getElem? (i := 641) (by decide +kernel)
set_option maxRecDepth 20000 in
theorem mw_607 : Cond.code y_m_openOf b_m_openOf 4 (some .int) ∈ lw_tbl := List.mem_of_getElem? (i := 642) (by rfl)
theorem mw_608 : Cond.constantLong "ServiceDeskModel" 127 (-9000000000000) ∈ lw_tbl := List.mem_of_getElem? (i := 643) (by decide +kernel)
theorem mw_609 : Cond.methodLink "ServiceDeskLaw" 89 y_m_simulate ∈ lw_tbl := List.mem_of_getElem? (i := 644) (by decide +kernel)
theorem mw_610 : Cond.instanceMethod y_m_simulate ∈ lw_tbl := List.mem_of_getElem? (i := 645) (by decide +kernel)
theorem mw_611 : Cond.selects "ServiceDeskModel" y_m_simulate y_m_simulate ∈ lw_tbl := List.mem_of_getElem? (i := 646) (by decide +kernel)
set_option maxRecDepth 20000 in
theorem mw_612 : Cond.code y_m_simulate b_m_simulate 5 (some .long) ∈ lw_tbl := List.mem_of_getElem? (i := 647) (by rfl)
theorem mw_613 : Cond.methodLink "ServiceDeskLaw" 95 y_m_text ∈ lw_tbl := List.mem_of_getElem? (i := 648) (by decide +kernel)
theorem mw_614 : Cond.instanceMethod y_m_text ∈ lw_tbl := List.mem_of_getElem? (i := 649) (by decide +kernel)
theorem mw_615 : Cond.selects "ServiceDeskModel" y_m_text y_m_text ∈ lw_tbl := List.mem_of_getElem? (i := 650) (by decide +kernel)
set_option maxRecDepth 20000 in
theorem mw_616 : Cond.code y_m_text b_m_text 10 (some .int) ∈ lw_tbl := List.mem_of_getElem? (i := 651) (by rfl)
theorem mw_617 : Cond.methodLink "ServiceDeskLaw" 99 y_m_textAt ∈ lw_tbl := List.mem_of_getElem? (i := 652) (by decide +kernel)
theorem mw_618 : Cond.instanceMethod y_m_textAt ∈ lw_tbl := List.mem_of_getElem? (i := 653) (by decide +kernel)
theorem mw_619 : Cond.selects "ServiceDeskModel" y_m_textAt y_m_textAt ∈ lw_tbl := List.mem_of_getElem? (i := 654) (by decide +kernel)
set_option maxRecDepth 20000 in
theorem mw_620 : Cond.code y_m_textAt b_m_textAt 5 (some .int) ∈ lw_tbl := List.mem_of_getElem? (i := 655) (by rfl)
theorem mw_621 : Cond.methodLink "ServiceDeskLaw" 103 y_m_find ∈ lw_tbl := List.mem_of_getElem? (i := 656) (by decide +kernel)
theorem mw_622 : Cond.instanceMethod y_m_find ∈ lw_tbl := List.mem_of_getElem? (i := 657) (by decide +kernel)
theorem mw_623 : Cond.selects "ServiceDeskModel" y_m_find y_m_find ∈ lw_tbl := List.mem_of_getElem? (i := 658) (by decide +kernel)
set_option maxRecDepth 20000 in
theorem mw_624 : Cond.code y_m_find b_m_find 9 (some .int) ∈ lw_tbl := List.mem_of_getElem? (i := 659) (by rfl)
theorem mw_625 : Cond.methodLink "ServiceDeskLaw" 106 y_m_subject ∈ lw_tbl := List.mem_of_getElem? (i := 660) (by decide +kernel)
theorem mw_626 : Cond.instanceMethod y_m_subject ∈ lw_tbl := List.mem_of_getElem? (i := 661) (by decide +kernel)
theorem mw_627 : Cond.selects "ServiceDeskModel" y_m_subject y_m_subject ∈ lw_tbl := List.mem_of_getElem? (i := 662) (by decide +kernel)
set_option maxRecDepth 20000 in
theorem mw_628 : Cond.code y_m_subject b_m_subject 5 (some .int) ∈ lw_tbl := List.mem_of_getElem? (i := 663) (by rfl)
theorem mw_629 : Cond.methodLink "ServiceDeskLaw" 109 y_m_row ∈ lw_tbl := List.mem_of_getElem? (i := 664) (by decide +kernel)
theorem mw_630 : Cond.instanceMethod y_m_row ∈ lw_tbl := List.mem_of_getElem? (i := 665) (by decide +kernel)
theorem mw_631 : Cond.selects "ServiceDeskModel" y_m_row y_m_row ∈ lw_tbl := List.mem_of_getElem? (i := 666) (by decide +kernel)
set_option maxRecDepth 20000 in
theorem mw_632 : Cond.code y_m_row b_m_row 3 (some .int) ∈ lw_tbl := List.mem_of_getElem? (i := 667) (by rfl)
theorem mw_633 : Cond.methodLink "ServiceDeskLaw" 113 y_m_tick ∈ lw_tbl := List.mem_of_getElem? (i := 668) (by decide +kernel)
theorem mw_634 : Cond.instanceMethod y_m_tick ∈ lw_tbl := List.mem_of_getElem? (i := 669) (by decide +kernel)
theorem mw_635 : Cond.selects "ServiceDeskModel" y_m_tick y_m_tick ∈ lw_tbl := List.mem_of_getElem? (i := 670) (by decide +kernel)
set_option maxRecDepth 20000 in
theorem mw_636 : Cond.code y_m_tick b_m_tick 2 (some .int) ∈ lw_tbl := List.mem_of_getElem? (i := 671) (by rfl)
theorem mw_637 : Cond.constant "ServiceDeskModel" 129 (100000) ∈ lw_tbl := List.mem_of_getElem? (i := 672) (by decide +kernel)
theorem mw_638 : Cond.constant "ServiceDeskModel" 133 (1000000000) ∈ lw_tbl := List.mem_of_getElem? (i := 673) (by decide +kernel)
theorem mw_639 : Cond.methodLink "ServiceDeskLaw" 116 y_m_count ∈ lw_tbl := List.mem_of_getElem? (i := 674) (by decide +kernel)
theorem mw_640 : Cond.instanceMethod y_m_count ∈ lw_tbl := List.mem_of_getElem? (i := 675) (by decide +kernel)
theorem mw_641 : Cond.selects "ServiceDeskModel" y_m_count y_m_count ∈ lw_tbl := List.mem_of_getElem? (i := 676) (by decide +kernel)
set_option maxRecDepth 20000 in
theorem mw_642 : Cond.code y_m_count b_m_count 5 (some .int) ∈ lw_tbl := List.mem_of_getElem? (i := 677) (by rfl)
theorem mw_643 : Cond.methodLink "ServiceDeskLaw" 120 y_m_book ∈ lw_tbl := List.mem_of_getElem? (i := 678) (by decide +kernel)
theorem mw_644 : Cond.instanceMethod y_m_book ∈ lw_tbl := List.mem_of_getElem? (i := 679) (by decide +kernel)
theorem mw_645 : Cond.selects "ServiceDeskModel" y_m_book y_m_book ∈ lw_tbl := List.mem_of_getElem? (i := 680) (by decide +kernel)
set_option maxRecDepth 20000 in
theorem mw_646 : Cond.code y_m_book b_m_book 6 (some .int) ∈ lw_tbl := List.mem_of_getElem? (i := 681) (by rfl)
theorem mw_647 : Cond.methodLink "ServiceDeskModel" 135 y_m_with ∈ lw_tbl := List.mem_of_getElem? (i := 682) (by decide +kernel)
theorem mw_648 : Cond.static y_m_with ∈ lw_tbl := List.mem_of_getElem? (i := 683) (by decide +kernel)
set_option maxRecDepth 20000 in
theorem mw_649 : Cond.code y_m_with b_m_with 3 (some .int) ∈ lw_tbl := List.mem_of_getElem? (i := 684) (by rfl)
theorem mw_650 : Cond.constant "ServiceDeskModel" 134 (-2048144789) ∈ lw_tbl := List.mem_of_getElem? (i := 685) (by decide +kernel)
theorem mw_651 : Cond.constantLong "ServiceDeskLaw" 90 (4294967295) ∈ lw_tbl := List.mem_of_getElem? (i := 686) (by decide +kernel)
theorem mp_0 : Cond.selects "ServiceDesk$Subjects" y_s_stirKind y_s_stirKind ∈ lw_tbl := List.mem_of_getElem? (i := 0) (by decide +kernel)
theorem mp_1 : Cond.selects "ServiceDesk$Subjects" y_s_stirOne y_s_stirOne ∈ lw_tbl := List.mem_of_getElem? (i := 1) (by decide +kernel)
theorem mp_2 : Cond.selects "ServiceDesk$Subjects" y_s_byteAt y_s_byteAt ∈ lw_tbl := List.mem_of_getElem? (i := 2) (by decide +kernel)
theorem mp_3 : Cond.selects "ServiceDesk$Rows" y_r_stirAll y_r_stirAll ∈ lw_tbl := List.mem_of_getElem? (i := 3) (by decide +kernel)
theorem mp_4 : Cond.selects "java/lang/Throwable" ⟨"java/lang/Throwable", "fillInStackTrace", "(I)Ljava/lang/Throwable;"⟩ ⟨"java/lang/Throwable", "fillInStackTrace", "(I)Ljava/lang/Throwable;"⟩ ∈ lw_tbl := List.mem_of_getElem? (i := 4) (by decide +kernel)
theorem mp_5 : Cond.selects "ServiceDesk" y_d_isAtOrUnder y_d_isAtOrUnder ∈ lw_tbl := List.mem_of_getElem? (i := 5) (by decide +kernel)
theorem mp_6 : Cond.selects "ServiceDesk" y_d_canBeAbove y_d_canBeAbove ∈ lw_tbl := List.mem_of_getElem? (i := 6) (by decide +kernel)
theorem mp_7 : Cond.selects "ServiceDesk" y_d_isSubject y_d_isSubject ∈ lw_tbl := List.mem_of_getElem? (i := 7) (by decide +kernel)
theorem mp_8 : Cond.selects "ServiceDesk" y_d_slotOrNone y_d_slotOrNone ∈ lw_tbl := List.mem_of_getElem? (i := 8) (by decide +kernel)
theorem mp_9 : Cond.selects "ServiceDesk$Subjects" y_s_add y_s_add ∈ lw_tbl := List.mem_of_getElem? (i := 9) (by decide +kernel)
theorem mp_10 : Cond.selects "ServiceDesk$Verbs" y_w_set y_w_set ∈ lw_tbl := List.mem_of_getElem? (i := 10) (by decide +kernel)
theorem mp_11 : Cond.selects "ServiceDesk" y_d_refusalOf y_d_refusalOf ∈ lw_tbl := List.mem_of_getElem? (i := 11) (by decide +kernel)
theorem mp_12 : Cond.selects "ServiceDesk$Rows" y_r_tell y_r_tell ∈ lw_tbl := List.mem_of_getElem? (i := 12) (by decide +kernel)
theorem mp_13 : Cond.selects "ServiceDesk" y_d_answerTo y_d_answerTo ∈ lw_tbl := List.mem_of_getElem? (i := 13) (by decide +kernel)
theorem mp_14 : Cond.selects "ServiceDesk" y_d_slotAbove y_d_slotAbove ∈ lw_tbl := List.mem_of_getElem? (i := 14) (by decide +kernel)
theorem mp_15 : Cond.selects "ServiceDesk" y_d_answerToPass y_d_answerToPass ∈ lw_tbl := List.mem_of_getElem? (i := 15) (by decide +kernel)
theorem mp_16 : Cond.selects "ServiceDesk" y_d_answerToClose y_d_answerToClose ∈ lw_tbl := List.mem_of_getElem? (i := 16) (by decide +kernel)
theorem mp_17 : Cond.selects "ServiceDesk" y_d_openOnesUnder y_d_openOnesUnder ∈ lw_tbl := List.mem_of_getElem? (i := 17) (by decide +kernel)
theorem mp_18 : Cond.selects "ServiceDesk$Subjects" y_s_openUnder y_s_openUnder ∈ lw_tbl := List.mem_of_getElem? (i := 18) (by decide +kernel)
theorem mp_19 : Cond.selects "ServiceDesk$Subjects" y_s_openOf y_s_openOf ∈ lw_tbl := List.mem_of_getElem? (i := 19) (by decide +kernel)
theorem mp_20 : Cond.selects "ServiceDesk" y_d_carryOut y_d_carryOut ∈ lw_tbl := List.mem_of_getElem? (i := 20) (by decide +kernel)
theorem mp_21 : Cond.selects "ServiceDesk" y_d_setSum y_d_setSum ∈ lw_tbl := List.mem_of_getElem? (i := 21) (by decide +kernel)
theorem mp_22 : Cond.selects "ServiceDesk$Subjects" y_s_lengthen y_s_lengthen ∈ lw_tbl := List.mem_of_getElem? (i := 22) (by decide +kernel)
theorem mp_23 : Cond.selects "ServiceDesk$Subjects" y_s_hasJust y_s_hasJust ∈ lw_tbl := List.mem_of_getElem? (i := 23) (by decide +kernel)
theorem mp_24 : Cond.selects "ServiceDesk$Subjects" y_s_madeInAll y_s_madeInAll ∈ lw_tbl := List.mem_of_getElem? (i := 24) (by decide +kernel)
theorem mp_25 : Cond.selects "ServiceDesk$Subjects" y_s_openInAll y_s_openInAll ∈ lw_tbl := List.mem_of_getElem? (i := 25) (by decide +kernel)
theorem mp_26 : Cond.selects "ServiceDeskModel" y_m_reaches y_m_reaches ∈ lw_tbl := List.mem_of_getElem? (i := 26) (by decide +kernel)
theorem mp_27 : Cond.selects "ServiceDeskModel" y_m_throwing y_m_throwing ∈ lw_tbl := List.mem_of_getElem? (i := 27) (by decide +kernel)
theorem mp_28 : Cond.selects "ServiceDeskModel" y_m_isSubject y_m_isSubject ∈ lw_tbl := List.mem_of_getElem? (i := 28) (by decide +kernel)
theorem mp_29 : Cond.selects "ServiceDeskModel" y_m_refuses y_m_refuses ∈ lw_tbl := List.mem_of_getElem? (i := 29) (by decide +kernel)
theorem mp_30 : Cond.selects "ServiceDeskModel" y_m_tell y_m_tell ∈ lw_tbl := List.mem_of_getElem? (i := 30) (by decide +kernel)
theorem mp_31 : Cond.selects "ServiceDeskModel" y_m_workOut y_m_workOut ∈ lw_tbl := List.mem_of_getElem? (i := 31) (by decide +kernel)
theorem mp_32 : Cond.selects "ServiceDeskModel" y_m_change y_m_change ∈ lw_tbl := List.mem_of_getElem? (i := 32) (by decide +kernel)
theorem mp_33 : Cond.selects "ServiceDeskModel" y_m_openUnder y_m_openUnder ∈ lw_tbl := List.mem_of_getElem? (i := 33) (by decide +kernel)
theorem mp_34 : Cond.selects "ServiceDeskModel" y_m_openOf y_m_openOf ∈ lw_tbl := List.mem_of_getElem? (i := 34) (by decide +kernel)
end
section
theorem z_d_init_0 : decode b_d_init 0 = .ok (.aload_n 0, 1) := by decide +kernel
theorem z_d_init_1 : decode b_d_init 1 = .ok (.invokespecial 3, 3) := by decide +kernel
theorem z_d_init_4 : decode b_d_init 4 = .ok (.aload_n 0, 1) := by decide +kernel
theorem z_d_init_5 : decode b_d_init 5 = .ok (.bipush 8, 2) := by decide +kernel
theorem z_d_init_7 : decode b_d_init 7 = .ok (.newarray .int, 2) := by decide +kernel
theorem z_d_init_9 : decode b_d_init 9 = .ok (.putfield 9, 3) := by decide +kernel
theorem z_d_init_12 : decode b_d_init 12 = .ok (.aload_n 0, 1) := by decide +kernel
theorem z_d_init_13 : decode b_d_init 13 = .ok (.new 13, 3) := by decide +kernel
theorem z_d_init_16 : decode b_d_init 16 = .ok (.dup, 1) := by decide +kernel
theorem z_d_init_17 : decode b_d_init 17 = .ok (.invokespecial 15, 3) := by decide +kernel
theorem z_d_init_20 : decode b_d_init 20 = .ok (.putfield 16, 3) := by decide +kernel
theorem z_d_init_23 : decode b_d_init 23 = .ok (.aload_n 0, 1) := by decide +kernel
theorem z_d_init_24 : decode b_d_init 24 = .ok (.new 20, 3) := by decide +kernel
theorem z_d_init_27 : decode b_d_init 27 = .ok (.dup, 1) := by decide +kernel
theorem z_d_init_28 : decode b_d_init 28 = .ok (.invokespecial 22, 3) := by decide +kernel
theorem z_d_init_31 : decode b_d_init 31 = .ok (.putfield 23, 3) := by decide +kernel
theorem z_d_init_34 : decode b_d_init 34 = .ok (.aload_n 0, 1) := by decide +kernel
theorem z_d_init_35 : decode b_d_init 35 = .ok (.new 27, 3) := by decide +kernel
theorem z_d_init_38 : decode b_d_init 38 = .ok (.dup, 1) := by decide +kernel
theorem z_d_init_39 : decode b_d_init 39 = .ok (.invokespecial 29, 3) := by decide +kernel
theorem z_d_init_42 : decode b_d_init 42 = .ok (.putfield 30, 3) := by decide +kernel
theorem z_d_init_45 : decode b_d_init 45 = .ok (.aload_n 0, 1) := by decide +kernel
theorem z_d_init_46 : decode b_d_init 46 = .ok (.getfield 9, 3) := by decide +kernel
theorem z_d_init_49 : decode b_d_init 49 = .ok (.iconst (-1), 1) := by decide +kernel
theorem z_d_init_50 : decode b_d_init 50 = .ok (.invokestatic 34, 3) := by decide +kernel
theorem z_d_init_53 : decode b_d_init 53 = .ok (.return_, 1) := by decide +kernel
theorem z_w_init_0 : decode b_w_init 0 = .ok (.aload_n 0, 1) := by decide +kernel
theorem z_w_init_1 : decode b_w_init 1 = .ok (.invokespecial 3, 3) := by decide +kernel
theorem z_w_init_4 : decode b_w_init 4 = .ok (.aload_n 0, 1) := by decide +kernel
theorem z_w_init_5 : decode b_w_init 5 = .ok (.bipush 64, 2) := by decide +kernel
theorem z_w_init_7 : decode b_w_init 7 = .ok (.newarray .int, 2) := by decide +kernel
theorem z_w_init_9 : decode b_w_init 9 = .ok (.putfield 9, 3) := by decide +kernel
theorem z_w_init_12 : decode b_w_init 12 = .ok (.aload_n 0, 1) := by decide +kernel
theorem z_w_init_13 : decode b_w_init 13 = .ok (.bipush 64, 2) := by decide +kernel
theorem z_w_init_15 : decode b_w_init 15 = .ok (.newarray .int, 2) := by decide +kernel
theorem z_w_init_17 : decode b_w_init 17 = .ok (.putfield 15, 3) := by decide +kernel
theorem z_w_init_20 : decode b_w_init 20 = .ok (.aload_n 0, 1) := by decide +kernel
theorem z_w_init_21 : decode b_w_init 21 = .ok (.bipush 64, 2) := by decide +kernel
theorem z_w_init_23 : decode b_w_init 23 = .ok (.newarray .int, 2) := by decide +kernel
theorem z_w_init_25 : decode b_w_init 25 = .ok (.putfield 18, 3) := by decide +kernel
theorem z_w_init_28 : decode b_w_init 28 = .ok (.return_, 1) := by decide +kernel
theorem z_s_init_0 : decode b_s_init 0 = .ok (.aload_n 0, 1) := by decide +kernel
theorem z_s_init_1 : decode b_s_init 1 = .ok (.invokespecial 3, 3) := by decide +kernel
theorem z_s_init_4 : decode b_s_init 4 = .ok (.aload_n 0, 1) := by decide +kernel
theorem z_s_init_5 : decode b_s_init 5 = .ok (.bipush 8, 2) := by decide +kernel
theorem z_s_init_7 : decode b_s_init 7 = .ok (.newarray .int, 2) := by decide +kernel
theorem z_s_init_9 : decode b_s_init 9 = .ok (.putfield 9, 3) := by decide +kernel
theorem z_s_init_12 : decode b_s_init 12 = .ok (.aload_n 0, 1) := by decide +kernel
theorem z_s_init_13 : decode b_s_init 13 = .ok (.sipush 240, 3) := by decide +kernel
theorem z_s_init_16 : decode b_s_init 16 = .ok (.newarray .int, 2) := by decide +kernel
theorem z_s_init_18 : decode b_s_init 18 = .ok (.putfield 15, 3) := by decide +kernel
theorem z_s_init_21 : decode b_s_init 21 = .ok (.aload_n 0, 1) := by decide +kernel
theorem z_s_init_22 : decode b_s_init 22 = .ok (.sipush 240, 3) := by decide +kernel
theorem z_s_init_25 : decode b_s_init 25 = .ok (.newarray .boolean, 2) := by decide +kernel
theorem z_s_init_27 : decode b_s_init 27 = .ok (.putfield 18, 3) := by decide +kernel
theorem z_s_init_30 : decode b_s_init 30 = .ok (.aload_n 0, 1) := by decide +kernel
theorem z_s_init_31 : decode b_s_init 31 = .ok (.sipush 240, 3) := by decide +kernel
theorem z_s_init_34 : decode b_s_init 34 = .ok (.newarray .int, 2) := by decide +kernel
theorem z_s_init_36 : decode b_s_init 36 = .ok (.putfield 22, 3) := by decide +kernel
theorem z_s_init_39 : decode b_s_init 39 = .ok (.aload_n 0, 1) := by decide +kernel
theorem z_s_init_40 : decode b_s_init 40 = .ok (.sipush 240, 3) := by decide +kernel
theorem z_s_init_43 : decode b_s_init 43 = .ok (.newarray .int, 2) := by decide +kernel
theorem z_s_init_45 : decode b_s_init 45 = .ok (.putfield 25, 3) := by decide +kernel
theorem z_s_init_48 : decode b_s_init 48 = .ok (.aload_n 0, 1) := by decide +kernel
theorem z_s_init_49 : decode b_s_init 49 = .ok (.sipush 3840, 3) := by decide +kernel
theorem z_s_init_52 : decode b_s_init 52 = .ok (.newarray .byte, 2) := by decide +kernel
theorem z_s_init_54 : decode b_s_init 54 = .ok (.putfield 28, 3) := by decide +kernel
theorem z_s_init_57 : decode b_s_init 57 = .ok (.return_, 1) := by decide +kernel
theorem z_r_init_0 : decode b_r_init 0 = .ok (.aload_n 0, 1) := by decide +kernel
theorem z_r_init_1 : decode b_r_init 1 = .ok (.invokespecial 3, 3) := by decide +kernel
theorem z_r_init_4 : decode b_r_init 4 = .ok (.aload_n 0, 1) := by decide +kernel
theorem z_r_init_5 : decode b_r_init 5 = .ok (.sipush 400, 3) := by decide +kernel
theorem z_r_init_8 : decode b_r_init 8 = .ok (.newarray .int, 2) := by decide +kernel
theorem z_r_init_10 : decode b_r_init 10 = .ok (.putfield 9, 3) := by decide +kernel
theorem z_r_init_13 : decode b_r_init 13 = .ok (.return_, 1) := by decide +kernel
theorem z_J_fill_0 : decode b_J_fill 0 = .ok (.iconst 0, 1) := by decide +kernel
theorem z_J_fill_1 : decode b_J_fill 1 = .ok (.istore_n 2, 1) := by decide +kernel
theorem z_J_fill_2 : decode b_J_fill 2 = .ok (.aload_n 0, 1) := by decide +kernel
theorem z_J_fill_3 : decode b_J_fill 3 = .ok (.arraylength, 1) := by decide +kernel
theorem z_J_fill_4 : decode b_J_fill 4 = .ok (.istore_n 3, 1) := by decide +kernel
theorem z_J_fill_5 : decode b_J_fill 5 = .ok (.iload_n 2, 1) := by decide +kernel
theorem z_J_fill_6 : decode b_J_fill 6 = .ok (.iload_n 3, 1) := by decide +kernel
theorem z_J_fill_7 : decode b_J_fill 7 = .ok (.if_icmp .ge 13, 3) := by decide +kernel
theorem z_J_fill_10 : decode b_J_fill 10 = .ok (.aload_n 0, 1) := by decide +kernel
theorem z_J_fill_11 : decode b_J_fill 11 = .ok (.iload_n 2, 1) := by decide +kernel
theorem z_J_fill_12 : decode b_J_fill 12 = .ok (.iload_n 1, 1) := by decide +kernel
theorem z_J_fill_13 : decode b_J_fill 13 = .ok (.iastore, 1) := by decide +kernel
theorem z_J_fill_14 : decode b_J_fill 14 = .ok (.iinc 2 1, 3) := by decide +kernel
theorem z_J_fill_17 : decode b_J_fill 17 = .ok (.goto (-12), 3) := by decide +kernel
theorem z_J_fill_20 : decode b_J_fill 20 = .ok (.return_, 1) := by decide +kernel
theorem z_d_book_0 : decode b_d_book 0 = .ok (.iconst 0, 1) := by decide +kernel
theorem z_d_book_1 : decode b_d_book 1 = .ok (.aload_n 0, 1) := by decide +kernel
theorem z_d_book_2 : decode b_d_book 2 = .ok (.getfield 183, 3) := by decide +kernel
theorem z_d_book_5 : decode b_d_book 5 = .ok (.invokestatic 197, 3) := by decide +kernel
theorem z_d_book_8 : decode b_d_book 8 = .ok (.aload_n 0, 1) := by decide +kernel
theorem z_d_book_9 : decode b_d_book 9 = .ok (.getfield 106, 3) := by decide +kernel
theorem z_d_book_12 : decode b_d_book 12 = .ok (.invokestatic 197, 3) := by decide +kernel
theorem z_d_book_15 : decode b_d_book 15 = .ok (.istore_n 1, 1) := by decide +kernel
theorem z_d_book_16 : decode b_d_book 16 = .ok (.iconst 0, 1) := by decide +kernel
theorem z_d_book_17 : decode b_d_book 17 = .ok (.istore_n 2, 1) := by decide +kernel
theorem z_d_book_18 : decode b_d_book 18 = .ok (.iload_n 2, 1) := by decide +kernel
theorem z_d_book_19 : decode b_d_book 19 = .ok (.bipush 8, 2) := by decide +kernel
theorem z_d_book_21 : decode b_d_book 21 = .ok (.if_icmp .ge 28, 3) := by decide +kernel
theorem z_d_book_24 : decode b_d_book 24 = .ok (.aload_n 0, 1) := by decide +kernel
theorem z_d_book_25 : decode b_d_book 25 = .ok (.getfield 23, 3) := by decide +kernel
theorem z_d_book_28 : decode b_d_book 28 = .ok (.iload_n 1, 1) := by decide +kernel
theorem z_d_book_29 : decode b_d_book 29 = .ok (.aload_n 0, 1) := by decide +kernel
theorem z_d_book_30 : decode b_d_book 30 = .ok (.getfield 9, 3) := by decide +kernel
theorem z_d_book_33 : decode b_d_book 33 = .ok (.iload_n 2, 1) := by decide +kernel
theorem z_d_book_34 : decode b_d_book 34 = .ok (.iaload, 1) := by decide +kernel
theorem z_d_book_35 : decode b_d_book 35 = .ok (.invokestatic 197, 3) := by decide +kernel
theorem z_d_book_38 : decode b_d_book 38 = .ok (.iload_n 2, 1) := by decide +kernel
theorem z_d_book_39 : decode b_d_book 39 = .ok (.invokevirtual 200, 3) := by decide +kernel
theorem z_d_book_42 : decode b_d_book 42 = .ok (.istore_n 1, 1) := by decide +kernel
theorem z_d_book_43 : decode b_d_book 43 = .ok (.iinc 2 1, 3) := by decide +kernel
theorem z_d_book_46 : decode b_d_book 46 = .ok (.goto (-28), 3) := by decide +kernel
theorem z_d_book_49 : decode b_d_book 49 = .ok (.aload_n 0, 1) := by decide +kernel
theorem z_d_book_50 : decode b_d_book 50 = .ok (.getfield 30, 3) := by decide +kernel
theorem z_d_book_53 : decode b_d_book 53 = .ok (.iload_n 1, 1) := by decide +kernel
theorem z_d_book_54 : decode b_d_book 54 = .ok (.invokevirtual 203, 3) := by decide +kernel
theorem z_d_book_57 : decode b_d_book 57 = .ok (.ireturn, 1) := by decide +kernel
theorem z_d_stir_0 : decode b_d_stir 0 = .ok (.iload_n 0, 1) := by decide +kernel
theorem z_d_stir_1 : decode b_d_stir 1 = .ok (.iload_n 1, 1) := by decide +kernel
theorem z_d_stir_2 : decode b_d_stir 2 = .ok (.ixor, 1) := by decide +kernel
theorem z_d_stir_3 : decode b_d_stir 3 = .ok (.istore_n 2, 1) := by decide +kernel
theorem z_d_stir_4 : decode b_d_stir 4 = .ok (.iload_n 2, 1) := by decide +kernel
theorem z_d_stir_5 : decode b_d_stir 5 = .ok (.iconst 5, 1) := by decide +kernel
theorem z_d_stir_6 : decode b_d_stir 6 = .ok (.ishl, 1) := by decide +kernel
theorem z_d_stir_7 : decode b_d_stir 7 = .ok (.iload_n 2, 1) := by decide +kernel
theorem z_d_stir_8 : decode b_d_stir 8 = .ok (.bipush 27, 2) := by decide +kernel
theorem z_d_stir_10 : decode b_d_stir 10 = .ok (.iushr, 1) := by decide +kernel
theorem z_d_stir_11 : decode b_d_stir 11 = .ok (.ior, 1) := by decide +kernel
theorem z_d_stir_12 : decode b_d_stir 12 = .ok (.ldc 207, 2) := by decide +kernel
theorem z_d_stir_14 : decode b_d_stir 14 = .ok (.imul, 1) := by decide +kernel
theorem z_d_stir_15 : decode b_d_stir 15 = .ok (.ireturn, 1) := by decide +kernel
theorem z_s_stirKind_0 : decode b_s_stirKind 0 = .ok (.iload_n 1, 1) := by decide +kernel
theorem z_s_stirKind_1 : decode b_s_stirKind 1 = .ok (.istore_n 3, 1) := by decide +kernel
theorem z_s_stirKind_2 : decode b_s_stirKind 2 = .ok (.iconst 0, 1) := by decide +kernel
theorem z_s_stirKind_3 : decode b_s_stirKind 3 = .ok (.istore 4, 2) := by decide +kernel
theorem z_s_stirKind_5 : decode b_s_stirKind 5 = .ok (.iload 4, 2) := by decide +kernel
theorem z_s_stirKind_7 : decode b_s_stirKind 7 = .ok (.aload_n 0, 1) := by decide +kernel
theorem z_s_stirKind_8 : decode b_s_stirKind 8 = .ok (.getfield 9, 3) := by decide +kernel
theorem z_s_stirKind_11 : decode b_s_stirKind 11 = .ok (.iload_n 2, 1) := by decide +kernel
theorem z_s_stirKind_12 : decode b_s_stirKind 12 = .ok (.iaload, 1) := by decide +kernel
theorem z_s_stirKind_13 : decode b_s_stirKind 13 = .ok (.if_icmp .ge 21, 3) := by decide +kernel
theorem z_s_stirKind_16 : decode b_s_stirKind 16 = .ok (.aload_n 0, 1) := by decide +kernel
theorem z_s_stirKind_17 : decode b_s_stirKind 17 = .ok (.iload_n 3, 1) := by decide +kernel
theorem z_s_stirKind_18 : decode b_s_stirKind 18 = .ok (.iload_n 2, 1) := by decide +kernel
theorem z_s_stirKind_19 : decode b_s_stirKind 19 = .ok (.iload 4, 2) := by decide +kernel
theorem z_s_stirKind_21 : decode b_s_stirKind 21 = .ok (.invokestatic 32, 3) := by decide +kernel
theorem z_s_stirKind_24 : decode b_s_stirKind 24 = .ok (.invokevirtual 47, 3) := by decide +kernel
theorem z_s_stirKind_27 : decode b_s_stirKind 27 = .ok (.istore_n 3, 1) := by decide +kernel
theorem z_s_stirKind_28 : decode b_s_stirKind 28 = .ok (.iinc 4 1, 3) := by decide +kernel
theorem z_s_stirKind_31 : decode b_s_stirKind 31 = .ok (.goto (-26), 3) := by decide +kernel
theorem z_s_stirKind_34 : decode b_s_stirKind 34 = .ok (.iload_n 3, 1) := by decide +kernel
theorem z_s_stirKind_35 : decode b_s_stirKind 35 = .ok (.ireturn, 1) := by decide +kernel
theorem z_d_slotOf_0 : decode b_d_slotOf 0 = .ok (.iload_n 0, 1) := by decide +kernel
theorem z_d_slotOf_1 : decode b_d_slotOf 1 = .ok (.bipush 30, 2) := by decide +kernel
theorem z_d_slotOf_3 : decode b_d_slotOf 3 = .ok (.imul, 1) := by decide +kernel
theorem z_d_slotOf_4 : decode b_d_slotOf 4 = .ok (.iload_n 1, 1) := by decide +kernel
theorem z_d_slotOf_5 : decode b_d_slotOf 5 = .ok (.iadd, 1) := by decide +kernel
theorem z_d_slotOf_6 : decode b_d_slotOf 6 = .ok (.ireturn, 1) := by decide +kernel
theorem z_s_stirOne_0 : decode b_s_stirOne 0 = .ok (.iload_n 1, 1) := by decide +kernel
theorem z_s_stirOne_1 : decode b_s_stirOne 1 = .ok (.aload_n 0, 1) := by decide +kernel
theorem z_s_stirOne_2 : decode b_s_stirOne 2 = .ok (.getfield 15, 3) := by decide +kernel
theorem z_s_stirOne_5 : decode b_s_stirOne 5 = .ok (.iload_n 2, 1) := by decide +kernel
theorem z_s_stirOne_6 : decode b_s_stirOne 6 = .ok (.iaload, 1) := by decide +kernel
theorem z_s_stirOne_7 : decode b_s_stirOne 7 = .ok (.invokestatic 50, 3) := by decide +kernel
theorem z_s_stirOne_10 : decode b_s_stirOne 10 = .ok (.aload_n 0, 1) := by decide +kernel
theorem z_s_stirOne_11 : decode b_s_stirOne 11 = .ok (.getfield 18, 3) := by decide +kernel
theorem z_s_stirOne_14 : decode b_s_stirOne 14 = .ok (.iload_n 2, 1) := by decide +kernel
theorem z_s_stirOne_15 : decode b_s_stirOne 15 = .ok (.baload, 1) := by decide +kernel
theorem z_s_stirOne_16 : decode b_s_stirOne 16 = .ok (.ifCond .eq 7, 3) := by decide +kernel
theorem z_s_stirOne_19 : decode b_s_stirOne 19 = .ok (.iconst 1, 1) := by decide +kernel
theorem z_s_stirOne_20 : decode b_s_stirOne 20 = .ok (.goto 4, 3) := by decide +kernel
theorem z_s_stirOne_23 : decode b_s_stirOne 23 = .ok (.iconst 0, 1) := by decide +kernel
theorem z_s_stirOne_24 : decode b_s_stirOne 24 = .ok (.invokestatic 50, 3) := by decide +kernel
theorem z_s_stirOne_27 : decode b_s_stirOne 27 = .ok (.aload_n 0, 1) := by decide +kernel
theorem z_s_stirOne_28 : decode b_s_stirOne 28 = .ok (.getfield 22, 3) := by decide +kernel
theorem z_s_stirOne_31 : decode b_s_stirOne 31 = .ok (.iload_n 2, 1) := by decide +kernel
theorem z_s_stirOne_32 : decode b_s_stirOne 32 = .ok (.iaload, 1) := by decide +kernel
theorem z_s_stirOne_33 : decode b_s_stirOne 33 = .ok (.invokestatic 50, 3) := by decide +kernel
theorem z_s_stirOne_36 : decode b_s_stirOne 36 = .ok (.istore_n 3, 1) := by decide +kernel
theorem z_s_stirOne_37 : decode b_s_stirOne 37 = .ok (.iconst 0, 1) := by decide +kernel
theorem z_s_stirOne_38 : decode b_s_stirOne 38 = .ok (.istore 4, 2) := by decide +kernel
theorem z_s_stirOne_40 : decode b_s_stirOne 40 = .ok (.iload 4, 2) := by decide +kernel
theorem z_s_stirOne_42 : decode b_s_stirOne 42 = .ok (.aload_n 0, 1) := by decide +kernel
theorem z_s_stirOne_43 : decode b_s_stirOne 43 = .ok (.getfield 25, 3) := by decide +kernel
theorem z_s_stirOne_46 : decode b_s_stirOne 46 = .ok (.iload_n 2, 1) := by decide +kernel
theorem z_s_stirOne_47 : decode b_s_stirOne 47 = .ok (.iaload, 1) := by decide +kernel
theorem z_s_stirOne_48 : decode b_s_stirOne 48 = .ok (.if_icmp .ge 21, 3) := by decide +kernel
theorem z_s_stirOne_51 : decode b_s_stirOne 51 = .ok (.iload_n 3, 1) := by decide +kernel
theorem z_s_stirOne_52 : decode b_s_stirOne 52 = .ok (.aload_n 0, 1) := by decide +kernel
theorem z_s_stirOne_53 : decode b_s_stirOne 53 = .ok (.iload_n 2, 1) := by decide +kernel
theorem z_s_stirOne_54 : decode b_s_stirOne 54 = .ok (.iload 4, 2) := by decide +kernel
theorem z_s_stirOne_56 : decode b_s_stirOne 56 = .ok (.invokevirtual 40, 3) := by decide +kernel
theorem z_s_stirOne_59 : decode b_s_stirOne 59 = .ok (.invokestatic 50, 3) := by decide +kernel
theorem z_s_stirOne_62 : decode b_s_stirOne 62 = .ok (.istore_n 3, 1) := by decide +kernel
theorem z_s_stirOne_63 : decode b_s_stirOne 63 = .ok (.iinc 4 1, 3) := by decide +kernel
theorem z_s_stirOne_66 : decode b_s_stirOne 66 = .ok (.goto (-26), 3) := by decide +kernel
theorem z_s_stirOne_69 : decode b_s_stirOne 69 = .ok (.iload_n 3, 1) := by decide +kernel
theorem z_s_stirOne_70 : decode b_s_stirOne 70 = .ok (.ireturn, 1) := by decide +kernel
theorem z_s_byteAt_0 : decode b_s_byteAt 0 = .ok (.aload_n 0, 1) := by decide +kernel
theorem z_s_byteAt_1 : decode b_s_byteAt 1 = .ok (.getfield 28, 3) := by decide +kernel
theorem z_s_byteAt_4 : decode b_s_byteAt 4 = .ok (.iload_n 1, 1) := by decide +kernel
theorem z_s_byteAt_5 : decode b_s_byteAt 5 = .ok (.bipush 16, 2) := by decide +kernel
theorem z_s_byteAt_7 : decode b_s_byteAt 7 = .ok (.imul, 1) := by decide +kernel
theorem z_s_byteAt_8 : decode b_s_byteAt 8 = .ok (.iload_n 2, 1) := by decide +kernel
theorem z_s_byteAt_9 : decode b_s_byteAt 9 = .ok (.iadd, 1) := by decide +kernel
theorem z_s_byteAt_10 : decode b_s_byteAt 10 = .ok (.baload, 1) := by decide +kernel
theorem z_s_byteAt_11 : decode b_s_byteAt 11 = .ok (.sipush 255, 3) := by decide +kernel
theorem z_s_byteAt_14 : decode b_s_byteAt 14 = .ok (.iand, 1) := by decide +kernel
theorem z_s_byteAt_15 : decode b_s_byteAt 15 = .ok (.ireturn, 1) := by decide +kernel
theorem z_r_stirAll_0 : decode b_r_stirAll 0 = .ok (.iload_n 1, 1) := by decide +kernel
theorem z_r_stirAll_1 : decode b_r_stirAll 1 = .ok (.istore_n 2, 1) := by decide +kernel
theorem z_r_stirAll_2 : decode b_r_stirAll 2 = .ok (.iconst 0, 1) := by decide +kernel
theorem z_r_stirAll_3 : decode b_r_stirAll 3 = .ok (.istore_n 3, 1) := by decide +kernel
theorem z_r_stirAll_4 : decode b_r_stirAll 4 = .ok (.iload_n 3, 1) := by decide +kernel
theorem z_r_stirAll_5 : decode b_r_stirAll 5 = .ok (.aload_n 0, 1) := by decide +kernel
theorem z_r_stirAll_6 : decode b_r_stirAll 6 = .ok (.getfield 15, 3) := by decide +kernel
theorem z_r_stirAll_9 : decode b_r_stirAll 9 = .ok (.iconst 5, 1) := by decide +kernel
theorem z_r_stirAll_10 : decode b_r_stirAll 10 = .ok (.imul, 1) := by decide +kernel
theorem z_r_stirAll_11 : decode b_r_stirAll 11 = .ok (.if_icmp .ge 20, 3) := by decide +kernel
theorem z_r_stirAll_14 : decode b_r_stirAll 14 = .ok (.iload_n 2, 1) := by decide +kernel
theorem z_r_stirAll_15 : decode b_r_stirAll 15 = .ok (.aload_n 0, 1) := by decide +kernel
theorem z_r_stirAll_16 : decode b_r_stirAll 16 = .ok (.getfield 9, 3) := by decide +kernel
theorem z_r_stirAll_19 : decode b_r_stirAll 19 = .ok (.iload_n 3, 1) := by decide +kernel
theorem z_r_stirAll_20 : decode b_r_stirAll 20 = .ok (.iaload, 1) := by decide +kernel
theorem z_r_stirAll_21 : decode b_r_stirAll 21 = .ok (.invokestatic 19, 3) := by decide +kernel
theorem z_r_stirAll_24 : decode b_r_stirAll 24 = .ok (.istore_n 2, 1) := by decide +kernel
theorem z_r_stirAll_25 : decode b_r_stirAll 25 = .ok (.iinc 3 1, 3) := by decide +kernel
theorem z_r_stirAll_28 : decode b_r_stirAll 28 = .ok (.goto (-24), 3) := by decide +kernel
theorem z_r_stirAll_31 : decode b_r_stirAll 31 = .ok (.iload_n 2, 1) := by decide +kernel
theorem z_r_stirAll_32 : decode b_r_stirAll 32 = .ok (.ireturn, 1) := by decide +kernel
theorem z_d_under_0 : decode b_d_under 0 = .ok (.iload_n 1, 1) := by decide +kernel
theorem z_d_under_1 : decode b_d_under 1 = .ok (.invokestatic 40, 3) := by decide +kernel
theorem z_d_under_4 : decode b_d_under 4 = .ok (.ifCond .eq 15, 3) := by decide +kernel
theorem z_d_under_7 : decode b_d_under 7 = .ok (.iload_n 2, 1) := by decide +kernel
theorem z_d_under_8 : decode b_d_under 8 = .ok (.iconst (-1), 1) := by decide +kernel
theorem z_d_under_9 : decode b_d_under 9 = .ok (.if_icmp .eq 20, 3) := by decide +kernel
theorem z_d_under_12 : decode b_d_under 12 = .ok (.iload_n 2, 1) := by decide +kernel
theorem z_d_under_13 : decode b_d_under 13 = .ok (.invokestatic 40, 3) := by decide +kernel
theorem z_d_under_16 : decode b_d_under 16 = .ok (.ifCond .ne 13, 3) := by decide +kernel
theorem z_d_under_19 : decode b_d_under 19 = .ok (.new 44, 3) := by decide +kernel
theorem z_d_under_22 : decode b_d_under 22 = .ok (.dup, 1) := by decide +kernel
theorem z_d_under_23 : decode b_d_under 23 = .ok (.ldc 46, 2) := by decide +kernel
theorem z_d_under_25 : decode b_d_under 25 = .ok (.invokespecial 48, 3) := by decide +kernel
theorem z_d_under_28 : decode b_d_under 28 = .ok (.athrow, 1) := by decide +kernel
theorem z_d_under_29 : decode b_d_under 29 = .ok (.aload_n 0, 1) := by decide +kernel
theorem z_d_under_30 : decode b_d_under 30 = .ok (.getfield 23, 3) := by decide +kernel
theorem z_d_under_33 : decode b_d_under 33 = .ok (.getfield 51, 3) := by decide +kernel
theorem z_d_under_36 : decode b_d_under 36 = .ok (.iload_n 1, 1) := by decide +kernel
theorem z_d_under_37 : decode b_d_under 37 = .ok (.iaload, 1) := by decide +kernel
theorem z_d_under_38 : decode b_d_under 38 = .ok (.ifCond .gt 12, 3) := by decide +kernel
theorem z_d_under_41 : decode b_d_under 41 = .ok (.aload_n 0, 1) := by decide +kernel
theorem z_d_under_42 : decode b_d_under 42 = .ok (.iload_n 2, 1) := by decide +kernel
theorem z_d_under_43 : decode b_d_under 43 = .ok (.iload_n 1, 1) := by decide +kernel
theorem z_d_under_44 : decode b_d_under 44 = .ok (.invokevirtual 54, 3) := by decide +kernel
theorem z_d_under_47 : decode b_d_under 47 = .ok (.ifCond .eq 13, 3) := by decide +kernel
theorem z_d_under_50 : decode b_d_under 50 = .ok (.new 58, 3) := by decide +kernel
theorem z_d_under_53 : decode b_d_under 53 = .ok (.dup, 1) := by decide +kernel
theorem z_d_under_54 : decode b_d_under 54 = .ok (.ldc 60, 2) := by decide +kernel
theorem z_d_under_56 : decode b_d_under 56 = .ok (.invokespecial 62, 3) := by decide +kernel
theorem z_d_under_59 : decode b_d_under 59 = .ok (.athrow, 1) := by decide +kernel
theorem z_d_under_60 : decode b_d_under 60 = .ok (.aload_n 0, 1) := by decide +kernel
theorem z_d_under_61 : decode b_d_under 61 = .ok (.getfield 9, 3) := by decide +kernel
theorem z_d_under_64 : decode b_d_under 64 = .ok (.iload_n 1, 1) := by decide +kernel
theorem z_d_under_65 : decode b_d_under 65 = .ok (.iload_n 2, 1) := by decide +kernel
theorem z_d_under_66 : decode b_d_under 66 = .ok (.iastore, 1) := by decide +kernel
theorem z_d_under_67 : decode b_d_under 67 = .ok (.return_, 1) := by decide +kernel
theorem z_d_isKind_0 : decode b_d_isKind 0 = .ok (.iload_n 0, 1) := by decide +kernel
theorem z_d_isKind_1 : decode b_d_isKind 1 = .ok (.ifCond .lt 13, 3) := by decide +kernel
theorem z_d_isKind_4 : decode b_d_isKind 4 = .ok (.iload_n 0, 1) := by decide +kernel
theorem z_d_isKind_5 : decode b_d_isKind 5 = .ok (.bipush 8, 2) := by decide +kernel
theorem z_d_isKind_7 : decode b_d_isKind 7 = .ok (.if_icmp .ge 7, 3) := by decide +kernel
theorem z_d_isKind_10 : decode b_d_isKind 10 = .ok (.iconst 1, 1) := by decide +kernel
theorem z_d_isKind_11 : decode b_d_isKind 11 = .ok (.goto 4, 3) := by decide +kernel
theorem z_d_isKind_14 : decode b_d_isKind 14 = .ok (.iconst 0, 1) := by decide +kernel
theorem z_d_isKind_15 : decode b_d_isKind 15 = .ok (.ireturn, 1) := by decide +kernel
theorem z_d_isAtOrUnder_0 : decode b_d_isAtOrUnder 0 = .ok (.iload_n 1, 1) := by decide +kernel
theorem z_d_isAtOrUnder_1 : decode b_d_isAtOrUnder 1 = .ok (.istore_n 3, 1) := by decide +kernel
theorem z_d_isAtOrUnder_2 : decode b_d_isAtOrUnder 2 = .ok (.iconst 0, 1) := by decide +kernel
theorem z_d_isAtOrUnder_3 : decode b_d_isAtOrUnder 3 = .ok (.istore 4, 2) := by decide +kernel
theorem z_d_isAtOrUnder_5 : decode b_d_isAtOrUnder 5 = .ok (.iload 4, 2) := by decide +kernel
theorem z_d_isAtOrUnder_7 : decode b_d_isAtOrUnder 7 = .ok (.bipush 8, 2) := by decide +kernel
theorem z_d_isAtOrUnder_9 : decode b_d_isAtOrUnder 9 = .ok (.if_icmp .ge 28, 3) := by decide +kernel
theorem z_d_isAtOrUnder_12 : decode b_d_isAtOrUnder 12 = .ok (.iload_n 3, 1) := by decide +kernel
theorem z_d_isAtOrUnder_13 : decode b_d_isAtOrUnder 13 = .ok (.iconst (-1), 1) := by decide +kernel
theorem z_d_isAtOrUnder_14 : decode b_d_isAtOrUnder 14 = .ok (.if_icmp .eq 23, 3) := by decide +kernel
theorem z_d_isAtOrUnder_17 : decode b_d_isAtOrUnder 17 = .ok (.iload_n 3, 1) := by decide +kernel
theorem z_d_isAtOrUnder_18 : decode b_d_isAtOrUnder 18 = .ok (.iload_n 2, 1) := by decide +kernel
theorem z_d_isAtOrUnder_19 : decode b_d_isAtOrUnder 19 = .ok (.if_icmp .ne 5, 3) := by decide +kernel
theorem z_d_isAtOrUnder_22 : decode b_d_isAtOrUnder 22 = .ok (.iconst 1, 1) := by decide +kernel
theorem z_d_isAtOrUnder_23 : decode b_d_isAtOrUnder 23 = .ok (.ireturn, 1) := by decide +kernel
theorem z_d_isAtOrUnder_24 : decode b_d_isAtOrUnder 24 = .ok (.aload_n 0, 1) := by decide +kernel
theorem z_d_isAtOrUnder_25 : decode b_d_isAtOrUnder 25 = .ok (.getfield 9, 3) := by decide +kernel
theorem z_d_isAtOrUnder_28 : decode b_d_isAtOrUnder 28 = .ok (.iload_n 3, 1) := by decide +kernel
theorem z_d_isAtOrUnder_29 : decode b_d_isAtOrUnder 29 = .ok (.iaload, 1) := by decide +kernel
theorem z_d_isAtOrUnder_30 : decode b_d_isAtOrUnder 30 = .ok (.istore_n 3, 1) := by decide +kernel
theorem z_d_isAtOrUnder_31 : decode b_d_isAtOrUnder 31 = .ok (.iinc 4 1, 3) := by decide +kernel
theorem z_d_isAtOrUnder_34 : decode b_d_isAtOrUnder 34 = .ok (.goto (-29), 3) := by decide +kernel
theorem z_d_isAtOrUnder_37 : decode b_d_isAtOrUnder 37 = .ok (.iconst 0, 1) := by decide +kernel
theorem z_d_isAtOrUnder_38 : decode b_d_isAtOrUnder 38 = .ok (.ireturn, 1) := by decide +kernel
theorem z_d_make_0 : decode b_d_make 0 = .ok (.iload_n 1, 1) := by decide +kernel
theorem z_d_make_1 : decode b_d_make 1 = .ok (.invokestatic 40, 3) := by decide +kernel
theorem z_d_make_4 : decode b_d_make 4 = .ok (.ifCond .eq 12, 3) := by decide +kernel
theorem z_d_make_7 : decode b_d_make 7 = .ok (.aload_n 0, 1) := by decide +kernel
theorem z_d_make_8 : decode b_d_make 8 = .ok (.iload_n 1, 1) := by decide +kernel
theorem z_d_make_9 : decode b_d_make 9 = .ok (.iload_n 2, 1) := by decide +kernel
theorem z_d_make_10 : decode b_d_make 10 = .ok (.invokevirtual 63, 3) := by decide +kernel
theorem z_d_make_13 : decode b_d_make 13 = .ok (.ifCond .ne 13, 3) := by decide +kernel
theorem z_d_make_16 : decode b_d_make 16 = .ok (.new 44, 3) := by decide +kernel
theorem z_d_make_19 : decode b_d_make 19 = .ok (.dup, 1) := by decide +kernel
theorem z_d_make_20 : decode b_d_make 20 = .ok (.ldc 66, 2) := by decide +kernel
theorem z_d_make_22 : decode b_d_make 22 = .ok (.invokespecial 48, 3) := by decide +kernel
theorem z_d_make_25 : decode b_d_make 25 = .ok (.athrow, 1) := by decide +kernel
theorem z_d_make_26 : decode b_d_make 26 = .ok (.aload_n 0, 1) := by decide +kernel
theorem z_d_make_27 : decode b_d_make 27 = .ok (.aload_n 0, 1) := by decide +kernel
theorem z_d_make_28 : decode b_d_make 28 = .ok (.getfield 9, 3) := by decide +kernel
theorem z_d_make_31 : decode b_d_make 31 = .ok (.iload_n 1, 1) := by decide +kernel
theorem z_d_make_32 : decode b_d_make 32 = .ok (.iaload, 1) := by decide +kernel
theorem z_d_make_33 : decode b_d_make 33 = .ok (.iload_n 2, 1) := by decide +kernel
theorem z_d_make_34 : decode b_d_make 34 = .ok (.invokevirtual 68, 3) := by decide +kernel
theorem z_d_make_37 : decode b_d_make 37 = .ok (.istore_n 3, 1) := by decide +kernel
theorem z_d_make_38 : decode b_d_make 38 = .ok (.iload_n 3, 1) := by decide +kernel
theorem z_d_make_39 : decode b_d_make 39 = .ok (.iconst (-1), 1) := by decide +kernel
theorem z_d_make_40 : decode b_d_make 40 = .ok (.if_icmp .eq 25, 3) := by decide +kernel
theorem z_d_make_43 : decode b_d_make 43 = .ok (.aload_n 0, 1) := by decide +kernel
theorem z_d_make_44 : decode b_d_make 44 = .ok (.getfield 23, 3) := by decide +kernel
theorem z_d_make_47 : decode b_d_make 47 = .ok (.getfield 72, 3) := by decide +kernel
theorem z_d_make_50 : decode b_d_make 50 = .ok (.iload_n 3, 1) := by decide +kernel
theorem z_d_make_51 : decode b_d_make 51 = .ok (.baload, 1) := by decide +kernel
theorem z_d_make_52 : decode b_d_make 52 = .ok (.ifCond .ne 13, 3) := by decide +kernel
theorem z_d_make_55 : decode b_d_make 55 = .ok (.new 58, 3) := by decide +kernel
theorem z_d_make_58 : decode b_d_make 58 = .ok (.dup, 1) := by decide +kernel
theorem z_d_make_59 : decode b_d_make 59 = .ok (.ldc 76, 2) := by decide +kernel
theorem z_d_make_61 : decode b_d_make 61 = .ok (.invokespecial 62, 3) := by decide +kernel
theorem z_d_make_64 : decode b_d_make 64 = .ok (.athrow, 1) := by decide +kernel
theorem z_d_make_65 : decode b_d_make 65 = .ok (.aload_n 0, 1) := by decide +kernel
theorem z_d_make_66 : decode b_d_make 66 = .ok (.getfield 23, 3) := by decide +kernel
theorem z_d_make_69 : decode b_d_make 69 = .ok (.getfield 51, 3) := by decide +kernel
theorem z_d_make_72 : decode b_d_make 72 = .ok (.iload_n 1, 1) := by decide +kernel
theorem z_d_make_73 : decode b_d_make 73 = .ok (.iaload, 1) := by decide +kernel
theorem z_d_make_74 : decode b_d_make 74 = .ok (.bipush 30, 2) := by decide +kernel
theorem z_d_make_76 : decode b_d_make 76 = .ok (.if_icmp .lt 13, 3) := by decide +kernel
theorem z_d_make_79 : decode b_d_make 79 = .ok (.new 78, 3) := by decide +kernel
theorem z_d_make_82 : decode b_d_make 82 = .ok (.dup, 1) := by decide +kernel
theorem z_d_make_83 : decode b_d_make 83 = .ok (.ldc 80, 2) := by decide +kernel
theorem z_d_make_85 : decode b_d_make 85 = .ok (.invokespecial 82, 3) := by decide +kernel
theorem z_d_make_88 : decode b_d_make 88 = .ok (.athrow, 1) := by decide +kernel
theorem z_d_make_89 : decode b_d_make 89 = .ok (.aload_n 0, 1) := by decide +kernel
theorem z_d_make_90 : decode b_d_make 90 = .ok (.getfield 23, 3) := by decide +kernel
theorem z_d_make_93 : decode b_d_make 93 = .ok (.iload_n 1, 1) := by decide +kernel
theorem z_d_make_94 : decode b_d_make 94 = .ok (.iload_n 2, 1) := by decide +kernel
theorem z_d_make_95 : decode b_d_make 95 = .ok (.invokevirtual 83, 3) := by decide +kernel
theorem z_d_make_98 : decode b_d_make 98 = .ok (.ireturn, 1) := by decide +kernel
theorem z_d_canBeAbove_0 : decode b_d_canBeAbove 0 = .ok (.aload_n 0, 1) := by decide +kernel
theorem z_d_canBeAbove_1 : decode b_d_canBeAbove 1 = .ok (.getfield 9, 3) := by decide +kernel
theorem z_d_canBeAbove_4 : decode b_d_canBeAbove 4 = .ok (.iload_n 1, 1) := by decide +kernel
theorem z_d_canBeAbove_5 : decode b_d_canBeAbove 5 = .ok (.iaload, 1) := by decide +kernel
theorem z_d_canBeAbove_6 : decode b_d_canBeAbove 6 = .ok (.istore_n 3, 1) := by decide +kernel
theorem z_d_canBeAbove_7 : decode b_d_canBeAbove 7 = .ok (.iload_n 3, 1) := by decide +kernel
theorem z_d_canBeAbove_8 : decode b_d_canBeAbove 8 = .ok (.iconst (-1), 1) := by decide +kernel
theorem z_d_canBeAbove_9 : decode b_d_canBeAbove 9 = .ok (.if_icmp .ne 16, 3) := by decide +kernel
theorem z_d_canBeAbove_12 : decode b_d_canBeAbove 12 = .ok (.iload_n 2, 1) := by decide +kernel
theorem z_d_canBeAbove_13 : decode b_d_canBeAbove 13 = .ok (.iconst (-1), 1) := by decide +kernel
theorem z_d_canBeAbove_14 : decode b_d_canBeAbove 14 = .ok (.if_icmp .ne 7, 3) := by decide +kernel
theorem z_d_canBeAbove_17 : decode b_d_canBeAbove 17 = .ok (.iconst 1, 1) := by decide +kernel
theorem z_d_canBeAbove_18 : decode b_d_canBeAbove 18 = .ok (.goto 13, 3) := by decide +kernel
theorem z_d_canBeAbove_21 : decode b_d_canBeAbove 21 = .ok (.iconst 0, 1) := by decide +kernel
theorem z_d_canBeAbove_22 : decode b_d_canBeAbove 22 = .ok (.goto 9, 3) := by decide +kernel
theorem z_d_canBeAbove_25 : decode b_d_canBeAbove 25 = .ok (.aload_n 0, 1) := by decide +kernel
theorem z_d_canBeAbove_26 : decode b_d_canBeAbove 26 = .ok (.iload_n 3, 1) := by decide +kernel
theorem z_d_canBeAbove_27 : decode b_d_canBeAbove 27 = .ok (.iload_n 2, 1) := by decide +kernel
theorem z_d_canBeAbove_28 : decode b_d_canBeAbove 28 = .ok (.invokevirtual 132, 3) := by decide +kernel
theorem z_d_canBeAbove_31 : decode b_d_canBeAbove 31 = .ok (.ireturn, 1) := by decide +kernel
theorem z_d_isSubject_0 : decode b_d_isSubject 0 = .ok (.iload_n 1, 1) := by decide +kernel
theorem z_d_isSubject_1 : decode b_d_isSubject 1 = .ok (.invokestatic 40, 3) := by decide +kernel
theorem z_d_isSubject_4 : decode b_d_isSubject 4 = .ok (.ifCond .eq 24, 3) := by decide +kernel
theorem z_d_isSubject_7 : decode b_d_isSubject 7 = .ok (.iload_n 2, 1) := by decide +kernel
theorem z_d_isSubject_8 : decode b_d_isSubject 8 = .ok (.ifCond .lt 20, 3) := by decide +kernel
theorem z_d_isSubject_11 : decode b_d_isSubject 11 = .ok (.iload_n 2, 1) := by decide +kernel
theorem z_d_isSubject_12 : decode b_d_isSubject 12 = .ok (.aload_n 0, 1) := by decide +kernel
theorem z_d_isSubject_13 : decode b_d_isSubject 13 = .ok (.getfield 23, 3) := by decide +kernel
theorem z_d_isSubject_16 : decode b_d_isSubject 16 = .ok (.getfield 51, 3) := by decide +kernel
theorem z_d_isSubject_19 : decode b_d_isSubject 19 = .ok (.iload_n 1, 1) := by decide +kernel
theorem z_d_isSubject_20 : decode b_d_isSubject 20 = .ok (.iaload, 1) := by decide +kernel
theorem z_d_isSubject_21 : decode b_d_isSubject 21 = .ok (.if_icmp .ge 7, 3) := by decide +kernel
theorem z_d_isSubject_24 : decode b_d_isSubject 24 = .ok (.iconst 1, 1) := by decide +kernel
theorem z_d_isSubject_25 : decode b_d_isSubject 25 = .ok (.goto 4, 3) := by decide +kernel
theorem z_d_isSubject_28 : decode b_d_isSubject 28 = .ok (.iconst 0, 1) := by decide +kernel
theorem z_d_isSubject_29 : decode b_d_isSubject 29 = .ok (.ireturn, 1) := by decide +kernel
theorem z_d_slotOrNone_0 : decode b_d_slotOrNone 0 = .ok (.aload_n 0, 1) := by decide +kernel
theorem z_d_slotOrNone_1 : decode b_d_slotOrNone 1 = .ok (.iload_n 1, 1) := by decide +kernel
theorem z_d_slotOrNone_2 : decode b_d_slotOrNone 2 = .ok (.iload_n 2, 1) := by decide +kernel
theorem z_d_slotOrNone_3 : decode b_d_slotOrNone 3 = .ok (.invokevirtual 132, 3) := by decide +kernel
theorem z_d_slotOrNone_6 : decode b_d_slotOrNone 6 = .ok (.ifCond .eq 11, 3) := by decide +kernel
theorem z_d_slotOrNone_9 : decode b_d_slotOrNone 9 = .ok (.iload_n 1, 1) := by decide +kernel
theorem z_d_slotOrNone_10 : decode b_d_slotOrNone 10 = .ok (.iload_n 2, 1) := by decide +kernel
theorem z_d_slotOrNone_11 : decode b_d_slotOrNone 11 = .ok (.invokestatic 139, 3) := by decide +kernel
theorem z_d_slotOrNone_14 : decode b_d_slotOrNone 14 = .ok (.goto 4, 3) := by decide +kernel
theorem z_d_slotOrNone_17 : decode b_d_slotOrNone 17 = .ok (.iconst (-1), 1) := by decide +kernel
theorem z_d_slotOrNone_18 : decode b_d_slotOrNone 18 = .ok (.ireturn, 1) := by decide +kernel
theorem z_s_add_0 : decode b_s_add 0 = .ok (.aload_n 0, 1) := by decide +kernel
theorem z_s_add_1 : decode b_s_add 1 = .ok (.getfield 9, 3) := by decide +kernel
theorem z_s_add_4 : decode b_s_add 4 = .ok (.iload_n 1, 1) := by decide +kernel
theorem z_s_add_5 : decode b_s_add 5 = .ok (.iaload, 1) := by decide +kernel
theorem z_s_add_6 : decode b_s_add 6 = .ok (.istore_n 3, 1) := by decide +kernel
theorem z_s_add_7 : decode b_s_add 7 = .ok (.iload_n 1, 1) := by decide +kernel
theorem z_s_add_8 : decode b_s_add 8 = .ok (.iload_n 3, 1) := by decide +kernel
theorem z_s_add_9 : decode b_s_add 9 = .ok (.invokestatic 32, 3) := by decide +kernel
theorem z_s_add_12 : decode b_s_add 12 = .ok (.istore 4, 2) := by decide +kernel
theorem z_s_add_14 : decode b_s_add 14 = .ok (.aload_n 0, 1) := by decide +kernel
theorem z_s_add_15 : decode b_s_add 15 = .ok (.getfield 15, 3) := by decide +kernel
theorem z_s_add_18 : decode b_s_add 18 = .ok (.iload 4, 2) := by decide +kernel
theorem z_s_add_20 : decode b_s_add 20 = .ok (.iload_n 2, 1) := by decide +kernel
theorem z_s_add_21 : decode b_s_add 21 = .ok (.iastore, 1) := by decide +kernel
theorem z_s_add_22 : decode b_s_add 22 = .ok (.aload_n 0, 1) := by decide +kernel
theorem z_s_add_23 : decode b_s_add 23 = .ok (.getfield 18, 3) := by decide +kernel
theorem z_s_add_26 : decode b_s_add 26 = .ok (.iload 4, 2) := by decide +kernel
theorem z_s_add_28 : decode b_s_add 28 = .ok (.iconst 1, 1) := by decide +kernel
theorem z_s_add_29 : decode b_s_add 29 = .ok (.bastore, 1) := by decide +kernel
theorem z_s_add_30 : decode b_s_add 30 = .ok (.aload_n 0, 1) := by decide +kernel
theorem z_s_add_31 : decode b_s_add 31 = .ok (.getfield 9, 3) := by decide +kernel
theorem z_s_add_34 : decode b_s_add 34 = .ok (.iload_n 1, 1) := by decide +kernel
theorem z_s_add_35 : decode b_s_add 35 = .ok (.iload_n 3, 1) := by decide +kernel
theorem z_s_add_36 : decode b_s_add 36 = .ok (.iconst 1, 1) := by decide +kernel
theorem z_s_add_37 : decode b_s_add 37 = .ok (.iadd, 1) := by decide +kernel
theorem z_s_add_38 : decode b_s_add 38 = .ok (.iastore, 1) := by decide +kernel
theorem z_s_add_39 : decode b_s_add 39 = .ok (.iload_n 3, 1) := by decide +kernel
theorem z_s_add_40 : decode b_s_add 40 = .ok (.ireturn, 1) := by decide +kernel
theorem z_d_verb_0 : decode b_d_verb 0 = .ok (.iload_n 1, 1) := by decide +kernel
theorem z_d_verb_1 : decode b_d_verb 1 = .ok (.invokestatic 40, 3) := by decide +kernel
theorem z_d_verb_4 : decode b_d_verb 4 = .ok (.ifCond .eq 20, 3) := by decide +kernel
theorem z_d_verb_7 : decode b_d_verb 7 = .ok (.iload_n 2, 1) := by decide +kernel
theorem z_d_verb_8 : decode b_d_verb 8 = .ok (.invokestatic 86, 3) := by decide +kernel
theorem z_d_verb_11 : decode b_d_verb 11 = .ok (.ifCond .eq 13, 3) := by decide +kernel
theorem z_d_verb_14 : decode b_d_verb 14 = .ok (.iload_n 3, 1) := by decide +kernel
theorem z_d_verb_15 : decode b_d_verb 15 = .ok (.ifCond .lt 9, 3) := by decide +kernel
theorem z_d_verb_18 : decode b_d_verb 18 = .ok (.iload_n 3, 1) := by decide +kernel
theorem z_d_verb_19 : decode b_d_verb 19 = .ok (.bipush 8, 2) := by decide +kernel
theorem z_d_verb_21 : decode b_d_verb 21 = .ok (.if_icmp .lt 13, 3) := by decide +kernel
theorem z_d_verb_24 : decode b_d_verb 24 = .ok (.new 44, 3) := by decide +kernel
theorem z_d_verb_27 : decode b_d_verb 27 = .ok (.dup, 1) := by decide +kernel
theorem z_d_verb_28 : decode b_d_verb 28 = .ok (.ldc 89, 2) := by decide +kernel
theorem z_d_verb_30 : decode b_d_verb 30 = .ok (.invokespecial 48, 3) := by decide +kernel
theorem z_d_verb_33 : decode b_d_verb 33 = .ok (.athrow, 1) := by decide +kernel
theorem z_d_verb_34 : decode b_d_verb 34 = .ok (.iload 4, 2) := by decide +kernel
theorem z_d_verb_36 : decode b_d_verb 36 = .ok (.i2l, 1) := by decide +kernel
theorem z_d_verb_37 : decode b_d_verb 37 = .ok (.ldc2_w 91, 3) := by decide +kernel
theorem z_d_verb_40 : decode b_d_verb 40 = .ok (.invokestatic 93, 3) := by decide +kernel
theorem z_d_verb_43 : decode b_d_verb 43 = .ok (.ifCond .eq 15, 3) := by decide +kernel
theorem z_d_verb_46 : decode b_d_verb 46 = .ok (.iload 5, 2) := by decide +kernel
theorem z_d_verb_48 : decode b_d_verb 48 = .ok (.i2l, 1) := by decide +kernel
theorem z_d_verb_49 : decode b_d_verb 49 = .ok (.ldc2_w 91, 3) := by decide +kernel
theorem z_d_verb_52 : decode b_d_verb 52 = .ok (.invokestatic 93, 3) := by decide +kernel
theorem z_d_verb_55 : decode b_d_verb 55 = .ok (.ifCond .ne 13, 3) := by decide +kernel
theorem z_d_verb_58 : decode b_d_verb 58 = .ok (.new 97, 3) := by decide +kernel
theorem z_d_verb_61 : decode b_d_verb 61 = .ok (.dup, 1) := by decide +kernel
theorem z_d_verb_62 : decode b_d_verb 62 = .ok (.ldc 99, 2) := by decide +kernel
theorem z_d_verb_64 : decode b_d_verb 64 = .ok (.invokespecial 101, 3) := by decide +kernel
theorem z_d_verb_67 : decode b_d_verb 67 = .ok (.athrow, 1) := by decide +kernel
theorem z_d_verb_68 : decode b_d_verb 68 = .ok (.aload_n 0, 1) := by decide +kernel
theorem z_d_verb_69 : decode b_d_verb 69 = .ok (.getfield 16, 3) := by decide +kernel
theorem z_d_verb_72 : decode b_d_verb 72 = .ok (.iload_n 1, 1) := by decide +kernel
theorem z_d_verb_73 : decode b_d_verb 73 = .ok (.bipush 8, 2) := by decide +kernel
theorem z_d_verb_75 : decode b_d_verb 75 = .ok (.imul, 1) := by decide +kernel
theorem z_d_verb_76 : decode b_d_verb 76 = .ok (.iload_n 2, 1) := by decide +kernel
theorem z_d_verb_77 : decode b_d_verb 77 = .ok (.iadd, 1) := by decide +kernel
theorem z_d_verb_78 : decode b_d_verb 78 = .ok (.iload_n 3, 1) := by decide +kernel
theorem z_d_verb_79 : decode b_d_verb 79 = .ok (.iload 4, 2) := by decide +kernel
theorem z_d_verb_81 : decode b_d_verb 81 = .ok (.iload 5, 2) := by decide +kernel
theorem z_d_verb_83 : decode b_d_verb 83 = .ok (.invokevirtual 102, 3) := by decide +kernel
theorem z_d_verb_86 : decode b_d_verb 86 = .ok (.return_, 1) := by decide +kernel
theorem z_d_isVerb_0 : decode b_d_isVerb 0 = .ok (.iload_n 0, 1) := by decide +kernel
theorem z_d_isVerb_1 : decode b_d_isVerb 1 = .ok (.ifCond .lt 13, 3) := by decide +kernel
theorem z_d_isVerb_4 : decode b_d_isVerb 4 = .ok (.iload_n 0, 1) := by decide +kernel
theorem z_d_isVerb_5 : decode b_d_isVerb 5 = .ok (.bipush 8, 2) := by decide +kernel
theorem z_d_isVerb_7 : decode b_d_isVerb 7 = .ok (.if_icmp .ge 7, 3) := by decide +kernel
theorem z_d_isVerb_10 : decode b_d_isVerb 10 = .ok (.iconst 1, 1) := by decide +kernel
theorem z_d_isVerb_11 : decode b_d_isVerb 11 = .ok (.goto 4, 3) := by decide +kernel
theorem z_d_isVerb_14 : decode b_d_isVerb 14 = .ok (.iconst 0, 1) := by decide +kernel
theorem z_d_isVerb_15 : decode b_d_isVerb 15 = .ok (.ireturn, 1) := by decide +kernel
theorem z_d_isWithin_0 : decode b_d_isWithin 0 = .ok (.lload_n 0, 1) := by decide +kernel
theorem z_d_isWithin_1 : decode b_d_isWithin 1 = .ok (.lload_n 2, 1) := by decide +kernel
theorem z_d_isWithin_2 : decode b_d_isWithin 2 = .ok (.lneg, 1) := by decide +kernel
theorem z_d_isWithin_3 : decode b_d_isWithin 3 = .ok (.lcmp, 1) := by decide +kernel
theorem z_d_isWithin_4 : decode b_d_isWithin 4 = .ok (.ifCond .lt 13, 3) := by decide +kernel
theorem z_d_isWithin_7 : decode b_d_isWithin 7 = .ok (.lload_n 0, 1) := by decide +kernel
theorem z_d_isWithin_8 : decode b_d_isWithin 8 = .ok (.lload_n 2, 1) := by decide +kernel
theorem z_d_isWithin_9 : decode b_d_isWithin 9 = .ok (.lcmp, 1) := by decide +kernel
theorem z_d_isWithin_10 : decode b_d_isWithin 10 = .ok (.ifCond .gt 7, 3) := by decide +kernel
theorem z_d_isWithin_13 : decode b_d_isWithin 13 = .ok (.iconst 1, 1) := by decide +kernel
theorem z_d_isWithin_14 : decode b_d_isWithin 14 = .ok (.goto 4, 3) := by decide +kernel
theorem z_d_isWithin_17 : decode b_d_isWithin 17 = .ok (.iconst 0, 1) := by decide +kernel
theorem z_d_isWithin_18 : decode b_d_isWithin 18 = .ok (.ireturn, 1) := by decide +kernel
theorem z_w_set_0 : decode b_w_set 0 = .ok (.aload_n 0, 1) := by decide +kernel
theorem z_w_set_1 : decode b_w_set 1 = .ok (.getfield 9, 3) := by decide +kernel
theorem z_w_set_4 : decode b_w_set 4 = .ok (.iload_n 1, 1) := by decide +kernel
theorem z_w_set_5 : decode b_w_set 5 = .ok (.iload_n 2, 1) := by decide +kernel
theorem z_w_set_6 : decode b_w_set 6 = .ok (.iastore, 1) := by decide +kernel
theorem z_w_set_7 : decode b_w_set 7 = .ok (.aload_n 0, 1) := by decide +kernel
theorem z_w_set_8 : decode b_w_set 8 = .ok (.getfield 15, 3) := by decide +kernel
theorem z_w_set_11 : decode b_w_set 11 = .ok (.iload_n 1, 1) := by decide +kernel
theorem z_w_set_12 : decode b_w_set 12 = .ok (.iload_n 3, 1) := by decide +kernel
theorem z_w_set_13 : decode b_w_set 13 = .ok (.iastore, 1) := by decide +kernel
theorem z_w_set_14 : decode b_w_set 14 = .ok (.aload_n 0, 1) := by decide +kernel
theorem z_w_set_15 : decode b_w_set 15 = .ok (.getfield 18, 3) := by decide +kernel
theorem z_w_set_18 : decode b_w_set 18 = .ok (.iload_n 1, 1) := by decide +kernel
theorem z_w_set_19 : decode b_w_set 19 = .ok (.iload 4, 2) := by decide +kernel
theorem z_w_set_21 : decode b_w_set 21 = .ok (.iastore, 1) := by decide +kernel
theorem z_w_set_22 : decode b_w_set 22 = .ok (.return_, 1) := by decide +kernel
theorem z_d_call_0 : decode b_d_call 0 = .ok (.aload_n 0, 1) := by decide +kernel
theorem z_d_call_1 : decode b_d_call 1 = .ok (.dup, 1) := by decide +kernel
theorem z_d_call_2 : decode b_d_call 2 = .ok (.getfield 106, 3) := by decide +kernel
theorem z_d_call_5 : decode b_d_call 5 = .ok (.iconst 1, 1) := by decide +kernel
theorem z_d_call_6 : decode b_d_call 6 = .ok (.iadd, 1) := by decide +kernel
theorem z_d_call_7 : decode b_d_call 7 = .ok (.putfield 106, 3) := by decide +kernel
theorem z_d_call_10 : decode b_d_call 10 = .ok (.aload_n 0, 1) := by decide +kernel
theorem z_d_call_11 : decode b_d_call 11 = .ok (.iload_n 1, 1) := by decide +kernel
theorem z_d_call_12 : decode b_d_call 12 = .ok (.iload_n 2, 1) := by decide +kernel
theorem z_d_call_13 : decode b_d_call 13 = .ok (.iload_n 3, 1) := by decide +kernel
theorem z_d_call_14 : decode b_d_call 14 = .ok (.iload 4, 2) := by decide +kernel
theorem z_d_call_16 : decode b_d_call 16 = .ok (.invokevirtual 110, 3) := by decide +kernel
theorem z_d_call_19 : decode b_d_call 19 = .ok (.istore 5, 2) := by decide +kernel
theorem z_d_call_21 : decode b_d_call 21 = .ok (.iload 5, 2) := by decide +kernel
theorem z_d_call_23 : decode b_d_call 23 = .ok (.ifCond .eq 19, 3) := by decide +kernel
theorem z_d_call_26 : decode b_d_call 26 = .ok (.aload_n 0, 1) := by decide +kernel
theorem z_d_call_27 : decode b_d_call 27 = .ok (.getfield 30, 3) := by decide +kernel
theorem z_d_call_30 : decode b_d_call 30 = .ok (.aload_n 0, 1) := by decide +kernel
theorem z_d_call_31 : decode b_d_call 31 = .ok (.getfield 106, 3) := by decide +kernel
theorem z_d_call_34 : decode b_d_call 34 = .ok (.iload_n 1, 1) := by decide +kernel
theorem z_d_call_35 : decode b_d_call 35 = .ok (.iload_n 2, 1) := by decide +kernel
theorem z_d_call_36 : decode b_d_call 36 = .ok (.iload_n 3, 1) := by decide +kernel
theorem z_d_call_37 : decode b_d_call 37 = .ok (.iload 5, 2) := by decide +kernel
theorem z_d_call_39 : decode b_d_call 39 = .ok (.invokevirtual 114, 3) := by decide +kernel
theorem z_d_call_42 : decode b_d_call 42 = .ok (.iload 5, 2) := by decide +kernel
theorem z_d_call_44 : decode b_d_call 44 = .ok (.invokestatic 118, 3) := by decide +kernel
theorem z_d_call_47 : decode b_d_call 47 = .ok (.aload_n 0, 1) := by decide +kernel
theorem z_d_call_48 : decode b_d_call 48 = .ok (.iload_n 1, 1) := by decide +kernel
theorem z_d_call_49 : decode b_d_call 49 = .ok (.iload_n 2, 1) := by decide +kernel
theorem z_d_call_50 : decode b_d_call 50 = .ok (.iload_n 3, 1) := by decide +kernel
theorem z_d_call_51 : decode b_d_call 51 = .ok (.iload 4, 2) := by decide +kernel
theorem z_d_call_53 : decode b_d_call 53 = .ok (.invokevirtual 122, 3) := by decide +kernel
theorem z_d_call_56 : decode b_d_call 56 = .ok (.lstore 6, 2) := by decide +kernel
theorem z_d_call_58 : decode b_d_call 58 = .ok (.lload 6, 2) := by decide +kernel
theorem z_d_call_60 : decode b_d_call 60 = .ok (.ldc2_w 126, 3) := by decide +kernel
theorem z_d_call_63 : decode b_d_call 63 = .ok (.lcmp, 1) := by decide +kernel
theorem z_d_call_64 : decode b_d_call 64 = .ok (.ifCond .ge 27, 3) := by decide +kernel
theorem z_d_call_67 : decode b_d_call 67 = .ok (.aload_n 0, 1) := by decide +kernel
theorem z_d_call_68 : decode b_d_call 68 = .ok (.getfield 30, 3) := by decide +kernel
theorem z_d_call_71 : decode b_d_call 71 = .ok (.aload_n 0, 1) := by decide +kernel
theorem z_d_call_72 : decode b_d_call 72 = .ok (.getfield 106, 3) := by decide +kernel
theorem z_d_call_75 : decode b_d_call 75 = .ok (.iload_n 1, 1) := by decide +kernel
theorem z_d_call_76 : decode b_d_call 76 = .ok (.iload_n 2, 1) := by decide +kernel
theorem z_d_call_77 : decode b_d_call 77 = .ok (.iload_n 3, 1) := by decide +kernel
theorem z_d_call_78 : decode b_d_call 78 = .ok (.ldc2_w 126, 3) := by decide +kernel
theorem z_d_call_81 : decode b_d_call 81 = .ok (.lload 6, 2) := by decide +kernel
theorem z_d_call_83 : decode b_d_call 83 = .ok (.lsub, 1) := by decide +kernel
theorem z_d_call_84 : decode b_d_call 84 = .ok (.l2i, 1) := by decide +kernel
theorem z_d_call_85 : decode b_d_call 85 = .ok (.invokevirtual 114, 3) := by decide +kernel
theorem z_d_call_88 : decode b_d_call 88 = .ok (.goto 12, 3) := by decide +kernel
theorem z_d_call_91 : decode b_d_call 91 = .ok (.aload_n 0, 1) := by decide +kernel
theorem z_d_call_92 : decode b_d_call 92 = .ok (.iload_n 1, 1) := by decide +kernel
theorem z_d_call_93 : decode b_d_call 93 = .ok (.iload_n 2, 1) := by decide +kernel
theorem z_d_call_94 : decode b_d_call 94 = .ok (.iload_n 3, 1) := by decide +kernel
theorem z_d_call_95 : decode b_d_call 95 = .ok (.lload 6, 2) := by decide +kernel
theorem z_d_call_97 : decode b_d_call 97 = .ok (.invokevirtual 128, 3) := by decide +kernel
theorem z_d_call_100 : decode b_d_call 100 = .ok (.lload 6, 2) := by decide +kernel
theorem z_d_call_102 : decode b_d_call 102 = .ok (.lreturn, 1) := by decide +kernel
theorem z_d_refusalOf_0 : decode b_d_refusalOf 0 = .ok (.aload_n 0, 1) := by decide +kernel
theorem z_d_refusalOf_1 : decode b_d_refusalOf 1 = .ok (.iload_n 1, 1) := by decide +kernel
theorem z_d_refusalOf_2 : decode b_d_refusalOf 2 = .ok (.iload_n 2, 1) := by decide +kernel
theorem z_d_refusalOf_3 : decode b_d_refusalOf 3 = .ok (.invokevirtual 132, 3) := by decide +kernel
theorem z_d_refusalOf_6 : decode b_d_refusalOf 6 = .ok (.ifCond .eq 27, 3) := by decide +kernel
theorem z_d_refusalOf_9 : decode b_d_refusalOf 9 = .ok (.iload_n 3, 1) := by decide +kernel
theorem z_d_refusalOf_10 : decode b_d_refusalOf 10 = .ok (.invokestatic 86, 3) := by decide +kernel
theorem z_d_refusalOf_13 : decode b_d_refusalOf 13 = .ok (.ifCond .eq 20, 3) := by decide +kernel
theorem z_d_refusalOf_16 : decode b_d_refusalOf 16 = .ok (.aload_n 0, 1) := by decide +kernel
theorem z_d_refusalOf_17 : decode b_d_refusalOf 17 = .ok (.getfield 16, 3) := by decide +kernel
theorem z_d_refusalOf_20 : decode b_d_refusalOf 20 = .ok (.getfield 208, 3) := by decide +kernel
theorem z_d_refusalOf_23 : decode b_d_refusalOf 23 = .ok (.iload_n 1, 1) := by decide +kernel
theorem z_d_refusalOf_24 : decode b_d_refusalOf 24 = .ok (.bipush 8, 2) := by decide +kernel
theorem z_d_refusalOf_26 : decode b_d_refusalOf 26 = .ok (.imul, 1) := by decide +kernel
theorem z_d_refusalOf_27 : decode b_d_refusalOf 27 = .ok (.iload_n 3, 1) := by decide +kernel
theorem z_d_refusalOf_28 : decode b_d_refusalOf 28 = .ok (.iadd, 1) := by decide +kernel
theorem z_d_refusalOf_29 : decode b_d_refusalOf 29 = .ok (.iaload, 1) := by decide +kernel
theorem z_d_refusalOf_30 : decode b_d_refusalOf 30 = .ok (.ifCond .ne 6, 3) := by decide +kernel
theorem z_d_refusalOf_33 : decode b_d_refusalOf 33 = .ok (.bipush 13, 2) := by decide +kernel
theorem z_d_refusalOf_35 : decode b_d_refusalOf 35 = .ok (.ireturn, 1) := by decide +kernel
theorem z_d_refusalOf_36 : decode b_d_refusalOf 36 = .ok (.iload 4, 2) := by decide +kernel
theorem z_d_refusalOf_38 : decode b_d_refusalOf 38 = .ok (.i2l, 1) := by decide +kernel
theorem z_d_refusalOf_39 : decode b_d_refusalOf 39 = .ok (.ldc2_w 211, 3) := by decide +kernel
theorem z_d_refusalOf_42 : decode b_d_refusalOf 42 = .ok (.invokestatic 93, 3) := by decide +kernel
theorem z_d_refusalOf_45 : decode b_d_refusalOf 45 = .ok (.ifCond .ne 6, 3) := by decide +kernel
theorem z_d_refusalOf_48 : decode b_d_refusalOf 48 = .ok (.bipush 14, 2) := by decide +kernel
theorem z_d_refusalOf_50 : decode b_d_refusalOf 50 = .ok (.ireturn, 1) := by decide +kernel
theorem z_d_refusalOf_51 : decode b_d_refusalOf 51 = .ok (.aload_n 0, 1) := by decide +kernel
theorem z_d_refusalOf_52 : decode b_d_refusalOf 52 = .ok (.getfield 23, 3) := by decide +kernel
theorem z_d_refusalOf_55 : decode b_d_refusalOf 55 = .ok (.getfield 72, 3) := by decide +kernel
theorem z_d_refusalOf_58 : decode b_d_refusalOf 58 = .ok (.iload_n 1, 1) := by decide +kernel
theorem z_d_refusalOf_59 : decode b_d_refusalOf 59 = .ok (.iload_n 2, 1) := by decide +kernel
theorem z_d_refusalOf_60 : decode b_d_refusalOf 60 = .ok (.invokestatic 139, 3) := by decide +kernel
theorem z_d_refusalOf_63 : decode b_d_refusalOf 63 = .ok (.baload, 1) := by decide +kernel
theorem z_d_refusalOf_64 : decode b_d_refusalOf 64 = .ok (.ifCond .eq 7, 3) := by decide +kernel
theorem z_d_refusalOf_67 : decode b_d_refusalOf 67 = .ok (.iconst 0, 1) := by decide +kernel
theorem z_d_refusalOf_68 : decode b_d_refusalOf 68 = .ok (.goto 5, 3) := by decide +kernel
theorem z_d_refusalOf_71 : decode b_d_refusalOf 71 = .ok (.bipush 15, 2) := by decide +kernel
theorem z_d_refusalOf_73 : decode b_d_refusalOf 73 = .ok (.ireturn, 1) := by decide +kernel
theorem z_r_tell_0 : decode b_r_tell 0 = .ok (.aload_n 0, 1) := by decide +kernel
theorem z_r_tell_1 : decode b_r_tell 1 = .ok (.getfield 15, 3) := by decide +kernel
theorem z_r_tell_4 : decode b_r_tell 4 = .ok (.bipush 80, 2) := by decide +kernel
theorem z_r_tell_6 : decode b_r_tell 6 = .ok (.if_icmp .lt 4, 3) := by decide +kernel
theorem z_r_tell_9 : decode b_r_tell 9 = .ok (.return_, 1) := by decide +kernel
theorem z_r_tell_10 : decode b_r_tell 10 = .ok (.aload_n 0, 1) := by decide +kernel
theorem z_r_tell_11 : decode b_r_tell 11 = .ok (.getfield 15, 3) := by decide +kernel
theorem z_r_tell_14 : decode b_r_tell 14 = .ok (.iconst 5, 1) := by decide +kernel
theorem z_r_tell_15 : decode b_r_tell 15 = .ok (.imul, 1) := by decide +kernel
theorem z_r_tell_16 : decode b_r_tell 16 = .ok (.istore 6, 2) := by decide +kernel
theorem z_r_tell_18 : decode b_r_tell 18 = .ok (.aload_n 0, 1) := by decide +kernel
theorem z_r_tell_19 : decode b_r_tell 19 = .ok (.getfield 9, 3) := by decide +kernel
theorem z_r_tell_22 : decode b_r_tell 22 = .ok (.iload 6, 2) := by decide +kernel
theorem z_r_tell_24 : decode b_r_tell 24 = .ok (.iload_n 1, 1) := by decide +kernel
theorem z_r_tell_25 : decode b_r_tell 25 = .ok (.iastore, 1) := by decide +kernel
theorem z_r_tell_26 : decode b_r_tell 26 = .ok (.aload_n 0, 1) := by decide +kernel
theorem z_r_tell_27 : decode b_r_tell 27 = .ok (.getfield 9, 3) := by decide +kernel
theorem z_r_tell_30 : decode b_r_tell 30 = .ok (.iload 6, 2) := by decide +kernel
theorem z_r_tell_32 : decode b_r_tell 32 = .ok (.iconst 1, 1) := by decide +kernel
theorem z_r_tell_33 : decode b_r_tell 33 = .ok (.iadd, 1) := by decide +kernel
theorem z_r_tell_34 : decode b_r_tell 34 = .ok (.iload_n 2, 1) := by decide +kernel
theorem z_r_tell_35 : decode b_r_tell 35 = .ok (.iastore, 1) := by decide +kernel
theorem z_r_tell_36 : decode b_r_tell 36 = .ok (.aload_n 0, 1) := by decide +kernel
theorem z_r_tell_37 : decode b_r_tell 37 = .ok (.getfield 9, 3) := by decide +kernel
theorem z_r_tell_40 : decode b_r_tell 40 = .ok (.iload 6, 2) := by decide +kernel
theorem z_r_tell_42 : decode b_r_tell 42 = .ok (.iconst 2, 1) := by decide +kernel
theorem z_r_tell_43 : decode b_r_tell 43 = .ok (.iadd, 1) := by decide +kernel
theorem z_r_tell_44 : decode b_r_tell 44 = .ok (.iload_n 3, 1) := by decide +kernel
theorem z_r_tell_45 : decode b_r_tell 45 = .ok (.iastore, 1) := by decide +kernel
theorem z_r_tell_46 : decode b_r_tell 46 = .ok (.aload_n 0, 1) := by decide +kernel
theorem z_r_tell_47 : decode b_r_tell 47 = .ok (.getfield 9, 3) := by decide +kernel
theorem z_r_tell_50 : decode b_r_tell 50 = .ok (.iload 6, 2) := by decide +kernel
theorem z_r_tell_52 : decode b_r_tell 52 = .ok (.iconst 3, 1) := by decide +kernel
theorem z_r_tell_53 : decode b_r_tell 53 = .ok (.iadd, 1) := by decide +kernel
theorem z_r_tell_54 : decode b_r_tell 54 = .ok (.iload 4, 2) := by decide +kernel
theorem z_r_tell_56 : decode b_r_tell 56 = .ok (.iastore, 1) := by decide +kernel
theorem z_r_tell_57 : decode b_r_tell 57 = .ok (.aload_n 0, 1) := by decide +kernel
theorem z_r_tell_58 : decode b_r_tell 58 = .ok (.getfield 9, 3) := by decide +kernel
theorem z_r_tell_61 : decode b_r_tell 61 = .ok (.iload 6, 2) := by decide +kernel
theorem z_r_tell_63 : decode b_r_tell 63 = .ok (.iconst 4, 1) := by decide +kernel
theorem z_r_tell_64 : decode b_r_tell 64 = .ok (.iadd, 1) := by decide +kernel
theorem z_r_tell_65 : decode b_r_tell 65 = .ok (.iload 5, 2) := by decide +kernel
theorem z_r_tell_67 : decode b_r_tell 67 = .ok (.iastore, 1) := by decide +kernel
theorem z_r_tell_68 : decode b_r_tell 68 = .ok (.aload_n 0, 1) := by decide +kernel
theorem z_r_tell_69 : decode b_r_tell 69 = .ok (.dup, 1) := by decide +kernel
theorem z_r_tell_70 : decode b_r_tell 70 = .ok (.getfield 15, 3) := by decide +kernel
theorem z_r_tell_73 : decode b_r_tell 73 = .ok (.iconst 1, 1) := by decide +kernel
theorem z_r_tell_74 : decode b_r_tell 74 = .ok (.iadd, 1) := by decide +kernel
theorem z_r_tell_75 : decode b_r_tell 75 = .ok (.putfield 15, 3) := by decide +kernel
theorem z_r_tell_78 : decode b_r_tell 78 = .ok (.return_, 1) := by decide +kernel
theorem z_d_refuse_0 : decode b_d_refuse 0 = .ok (.iload_n 0, 1) := by decide +kernel
theorem z_d_refuse_1 : decode b_d_refuse 1 = .ok (.bipush 13, 2) := by decide +kernel
theorem z_d_refuse_3 : decode b_d_refuse 3 = .ok (.if_icmp .ne 13, 3) := by decide +kernel
theorem z_d_refuse_6 : decode b_d_refuse 6 = .ok (.new 44, 3) := by decide +kernel
theorem z_d_refuse_9 : decode b_d_refuse 9 = .ok (.dup, 1) := by decide +kernel
theorem z_d_refuse_10 : decode b_d_refuse 10 = .ok (.ldc 213, 2) := by decide +kernel
theorem z_d_refuse_12 : decode b_d_refuse 12 = .ok (.invokespecial 48, 3) := by decide +kernel
theorem z_d_refuse_15 : decode b_d_refuse 15 = .ok (.athrow, 1) := by decide +kernel
theorem z_d_refuse_16 : decode b_d_refuse 16 = .ok (.iload_n 0, 1) := by decide +kernel
theorem z_d_refuse_17 : decode b_d_refuse 17 = .ok (.bipush 14, 2) := by decide +kernel
theorem z_d_refuse_19 : decode b_d_refuse 19 = .ok (.if_icmp .ne 13, 3) := by decide +kernel
theorem z_d_refuse_22 : decode b_d_refuse 22 = .ok (.new 97, 3) := by decide +kernel
theorem z_d_refuse_25 : decode b_d_refuse 25 = .ok (.dup, 1) := by decide +kernel
theorem z_d_refuse_26 : decode b_d_refuse 26 = .ok (.ldc 215, 2) := by decide +kernel
theorem z_d_refuse_28 : decode b_d_refuse 28 = .ok (.invokespecial 101, 3) := by decide +kernel
theorem z_d_refuse_31 : decode b_d_refuse 31 = .ok (.athrow, 1) := by decide +kernel
theorem z_d_refuse_32 : decode b_d_refuse 32 = .ok (.iload_n 0, 1) := by decide +kernel
theorem z_d_refuse_33 : decode b_d_refuse 33 = .ok (.bipush 15, 2) := by decide +kernel
theorem z_d_refuse_35 : decode b_d_refuse 35 = .ok (.if_icmp .ne 13, 3) := by decide +kernel
theorem z_d_refuse_38 : decode b_d_refuse 38 = .ok (.new 58, 3) := by decide +kernel
theorem z_d_refuse_41 : decode b_d_refuse 41 = .ok (.dup, 1) := by decide +kernel
theorem z_d_refuse_42 : decode b_d_refuse 42 = .ok (.ldc 142, 2) := by decide +kernel
theorem z_d_refuse_44 : decode b_d_refuse 44 = .ok (.invokespecial 62, 3) := by decide +kernel
theorem z_d_refuse_47 : decode b_d_refuse 47 = .ok (.athrow, 1) := by decide +kernel
theorem z_d_refuse_48 : decode b_d_refuse 48 = .ok (.return_, 1) := by decide +kernel
theorem z_d_answerTo_0 : decode b_d_answerTo 0 = .ok (.iload_n 1, 1) := by decide +kernel
theorem z_d_answerTo_1 : decode b_d_answerTo 1 = .ok (.bipush 8, 2) := by decide +kernel
theorem z_d_answerTo_3 : decode b_d_answerTo 3 = .ok (.imul, 1) := by decide +kernel
theorem z_d_answerTo_4 : decode b_d_answerTo 4 = .ok (.iload_n 3, 1) := by decide +kernel
theorem z_d_answerTo_5 : decode b_d_answerTo 5 = .ok (.iadd, 1) := by decide +kernel
theorem z_d_answerTo_6 : decode b_d_answerTo 6 = .ok (.istore 5, 2) := by decide +kernel
theorem z_d_answerTo_8 : decode b_d_answerTo 8 = .ok (.aload_n 0, 1) := by decide +kernel
theorem z_d_answerTo_9 : decode b_d_answerTo 9 = .ok (.getfield 16, 3) := by decide +kernel
theorem z_d_answerTo_12 : decode b_d_answerTo 12 = .ok (.getfield 217, 3) := by decide +kernel
theorem z_d_answerTo_15 : decode b_d_answerTo 15 = .ok (.iload 5, 2) := by decide +kernel
theorem z_d_answerTo_17 : decode b_d_answerTo 17 = .ok (.iaload, 1) := by decide +kernel
theorem z_d_answerTo_18 : decode b_d_answerTo 18 = .ok (.i2l, 1) := by decide +kernel
theorem z_d_answerTo_19 : decode b_d_answerTo 19 = .ok (.lstore 6, 2) := by decide +kernel
theorem z_d_answerTo_21 : decode b_d_answerTo 21 = .ok (.aload_n 0, 1) := by decide +kernel
theorem z_d_answerTo_22 : decode b_d_answerTo 22 = .ok (.getfield 16, 3) := by decide +kernel
theorem z_d_answerTo_25 : decode b_d_answerTo 25 = .ok (.getfield 220, 3) := by decide +kernel
theorem z_d_answerTo_28 : decode b_d_answerTo 28 = .ok (.iload 5, 2) := by decide +kernel
theorem z_d_answerTo_30 : decode b_d_answerTo 30 = .ok (.iaload, 1) := by decide +kernel
theorem z_d_answerTo_31 : decode b_d_answerTo 31 = .ok (.i2l, 1) := by decide +kernel
theorem z_d_answerTo_32 : decode b_d_answerTo 32 = .ok (.lstore 8, 2) := by decide +kernel
theorem z_d_answerTo_34 : decode b_d_answerTo 34 = .ok (.aload_n 0, 1) := by decide +kernel
theorem z_d_answerTo_35 : decode b_d_answerTo 35 = .ok (.getfield 23, 3) := by decide +kernel
theorem z_d_answerTo_38 : decode b_d_answerTo 38 = .ok (.getfield 167, 3) := by decide +kernel
theorem z_d_answerTo_41 : decode b_d_answerTo 41 = .ok (.iload_n 1, 1) := by decide +kernel
theorem z_d_answerTo_42 : decode b_d_answerTo 42 = .ok (.iload_n 2, 1) := by decide +kernel
theorem z_d_answerTo_43 : decode b_d_answerTo 43 = .ok (.invokestatic 139, 3) := by decide +kernel
theorem z_d_answerTo_46 : decode b_d_answerTo 46 = .ok (.iaload, 1) := by decide +kernel
theorem z_d_answerTo_47 : decode b_d_answerTo 47 = .ok (.i2l, 1) := by decide +kernel
theorem z_d_answerTo_48 : decode b_d_answerTo 48 = .ok (.lstore 10, 2) := by decide +kernel
theorem z_d_answerTo_50 : decode b_d_answerTo 50 = .ok (.aload_n 0, 1) := by decide +kernel
theorem z_d_answerTo_51 : decode b_d_answerTo 51 = .ok (.getfield 16, 3) := by decide +kernel
theorem z_d_answerTo_54 : decode b_d_answerTo 54 = .ok (.getfield 208, 3) := by decide +kernel
theorem z_d_answerTo_57 : decode b_d_answerTo 57 = .ok (.iload 5, 2) := by decide +kernel
theorem z_d_answerTo_59 : decode b_d_answerTo 59 = .ok (.iaload, 1) := by decide +kernel
theorem z_d_answerTo_60 : decode b_d_answerTo 60 = .ok (.tableswitch 125 1 6 #[40, 49, 65, 78, 91, 112], 40) := by decide +kernel
theorem z_d_answerTo_100 : decode b_d_answerTo 100 = .ok (.lload 6, 2) := by decide +kernel
theorem z_d_answerTo_102 : decode b_d_answerTo 102 = .ok (.iload_n 2, 1) := by decide +kernel
theorem z_d_answerTo_103 : decode b_d_answerTo 103 = .ok (.i2l, 1) := by decide +kernel
theorem z_d_answerTo_104 : decode b_d_answerTo 104 = .ok (.lmul, 1) := by decide +kernel
theorem z_d_answerTo_105 : decode b_d_answerTo 105 = .ok (.lload 8, 2) := by decide +kernel
theorem z_d_answerTo_107 : decode b_d_answerTo 107 = .ok (.ladd, 1) := by decide +kernel
theorem z_d_answerTo_108 : decode b_d_answerTo 108 = .ok (.lreturn, 1) := by decide +kernel
theorem z_d_answerTo_109 : decode b_d_answerTo 109 = .ok (.lload 10, 2) := by decide +kernel
theorem z_d_answerTo_111 : decode b_d_answerTo 111 = .ok (.iload 4, 2) := by decide +kernel
theorem z_d_answerTo_113 : decode b_d_answerTo 113 = .ok (.i2l, 1) := by decide +kernel
theorem z_d_answerTo_114 : decode b_d_answerTo 114 = .ok (.lload 6, 2) := by decide +kernel
theorem z_d_answerTo_116 : decode b_d_answerTo 116 = .ok (.lmul, 1) := by decide +kernel
theorem z_d_answerTo_117 : decode b_d_answerTo 117 = .ok (.ladd, 1) := by decide +kernel
theorem z_d_answerTo_118 : decode b_d_answerTo 118 = .ok (.lload 8, 2) := by decide +kernel
theorem z_d_answerTo_120 : decode b_d_answerTo 120 = .ok (.ladd, 1) := by decide +kernel
theorem z_d_answerTo_121 : decode b_d_answerTo 121 = .ok (.invokestatic 223, 3) := by decide +kernel
theorem z_d_answerTo_124 : decode b_d_answerTo 124 = .ok (.lreturn, 1) := by decide +kernel
theorem z_d_answerTo_125 : decode b_d_answerTo 125 = .ok (.lload 10, 2) := by decide +kernel
theorem z_d_answerTo_127 : decode b_d_answerTo 127 = .ok (.lload 6, 2) := by decide +kernel
theorem z_d_answerTo_129 : decode b_d_answerTo 129 = .ok (.lmul, 1) := by decide +kernel
theorem z_d_answerTo_130 : decode b_d_answerTo 130 = .ok (.lload 8, 2) := by decide +kernel
theorem z_d_answerTo_132 : decode b_d_answerTo 132 = .ok (.ladd, 1) := by decide +kernel
theorem z_d_answerTo_133 : decode b_d_answerTo 133 = .ok (.iload 4, 2) := by decide +kernel
theorem z_d_answerTo_135 : decode b_d_answerTo 135 = .ok (.i2l, 1) := by decide +kernel
theorem z_d_answerTo_136 : decode b_d_answerTo 136 = .ok (.ladd, 1) := by decide +kernel
theorem z_d_answerTo_137 : decode b_d_answerTo 137 = .ok (.lreturn, 1) := by decide +kernel
theorem z_d_answerTo_138 : decode b_d_answerTo 138 = .ok (.ldc2_w 126, 3) := by decide +kernel
theorem z_d_answerTo_141 : decode b_d_answerTo 141 = .ok (.lconst 1, 1) := by decide +kernel
theorem z_d_answerTo_142 : decode b_d_answerTo 142 = .ok (.lload 6, 2) := by decide +kernel
theorem z_d_answerTo_144 : decode b_d_answerTo 144 = .ok (.ldc2_w 227, 3) := by decide +kernel
theorem z_d_answerTo_147 : decode b_d_answerTo 147 = .ok (.land, 1) := by decide +kernel
theorem z_d_answerTo_148 : decode b_d_answerTo 148 = .ok (.ladd, 1) := by decide +kernel
theorem z_d_answerTo_149 : decode b_d_answerTo 149 = .ok (.lsub, 1) := by decide +kernel
theorem z_d_answerTo_150 : decode b_d_answerTo 150 = .ok (.lreturn, 1) := by decide +kernel
theorem z_d_answerTo_151 : decode b_d_answerTo 151 = .ok (.iload 4, 2) := by decide +kernel
theorem z_d_answerTo_153 : decode b_d_answerTo 153 = .ok (.ifCond .ne 9, 3) := by decide +kernel
theorem z_d_answerTo_156 : decode b_d_answerTo 156 = .ok (.ldc2_w 229, 3) := by decide +kernel
theorem z_d_answerTo_159 : decode b_d_answerTo 159 = .ok (.goto 12, 3) := by decide +kernel
theorem z_d_answerTo_162 : decode b_d_answerTo 162 = .ok (.lload 10, 2) := by decide +kernel
theorem z_d_answerTo_164 : decode b_d_answerTo 164 = .ok (.iload 4, 2) := by decide +kernel
theorem z_d_answerTo_166 : decode b_d_answerTo 166 = .ok (.i2l, 1) := by decide +kernel
theorem z_d_answerTo_167 : decode b_d_answerTo 167 = .ok (.ldiv, 1) := by decide +kernel
theorem z_d_answerTo_168 : decode b_d_answerTo 168 = .ok (.lload 8, 2) := by decide +kernel
theorem z_d_answerTo_170 : decode b_d_answerTo 170 = .ok (.ladd, 1) := by decide +kernel
theorem z_d_answerTo_171 : decode b_d_answerTo 171 = .ok (.lreturn, 1) := by decide +kernel
theorem z_d_answerTo_172 : decode b_d_answerTo 172 = .ok (.aload_n 0, 1) := by decide +kernel
theorem z_d_answerTo_173 : decode b_d_answerTo 173 = .ok (.aload_n 0, 1) := by decide +kernel
theorem z_d_answerTo_174 : decode b_d_answerTo 174 = .ok (.iload_n 1, 1) := by decide +kernel
theorem z_d_answerTo_175 : decode b_d_answerTo 175 = .ok (.iload_n 2, 1) := by decide +kernel
theorem z_d_answerTo_176 : decode b_d_answerTo 176 = .ok (.invokevirtual 231, 3) := by decide +kernel
theorem z_d_answerTo_179 : decode b_d_answerTo 179 = .ok (.iload 4, 2) := by decide +kernel
theorem z_d_answerTo_181 : decode b_d_answerTo 181 = .ok (.invokevirtual 234, 3) := by decide +kernel
theorem z_d_answerTo_184 : decode b_d_answerTo 184 = .ok (.lreturn, 1) := by decide +kernel
theorem z_d_answerTo_185 : decode b_d_answerTo 185 = .ok (.aload_n 0, 1) := by decide +kernel
theorem z_d_answerTo_186 : decode b_d_answerTo 186 = .ok (.iload_n 1, 1) := by decide +kernel
theorem z_d_answerTo_187 : decode b_d_answerTo 187 = .ok (.iload_n 2, 1) := by decide +kernel
theorem z_d_answerTo_188 : decode b_d_answerTo 188 = .ok (.invokevirtual 238, 3) := by decide +kernel
theorem z_d_answerTo_191 : decode b_d_answerTo 191 = .ok (.lreturn, 1) := by decide +kernel
theorem z_d_sumOrFailure_0 : decode b_d_sumOrFailure 0 = .ok (.lload_n 0, 1) := by decide +kernel
theorem z_d_sumOrFailure_1 : decode b_d_sumOrFailure 1 = .ok (.ldc2_w 241, 3) := by decide +kernel
theorem z_d_sumOrFailure_4 : decode b_d_sumOrFailure 4 = .ok (.invokestatic 93, 3) := by decide +kernel
theorem z_d_sumOrFailure_7 : decode b_d_sumOrFailure 7 = .ok (.ifCond .eq 7, 3) := by decide +kernel
theorem z_d_sumOrFailure_10 : decode b_d_sumOrFailure 10 = .ok (.lload_n 0, 1) := by decide +kernel
theorem z_d_sumOrFailure_11 : decode b_d_sumOrFailure 11 = .ok (.goto 6, 3) := by decide +kernel
theorem z_d_sumOrFailure_14 : decode b_d_sumOrFailure 14 = .ok (.ldc2_w 243, 3) := by decide +kernel
theorem z_d_sumOrFailure_17 : decode b_d_sumOrFailure 17 = .ok (.lreturn, 1) := by decide +kernel
theorem z_d_slotAbove_0 : decode b_d_slotAbove 0 = .ok (.aload_n 0, 1) := by decide +kernel
theorem z_d_slotAbove_1 : decode b_d_slotAbove 1 = .ok (.aload_n 0, 1) := by decide +kernel
theorem z_d_slotAbove_2 : decode b_d_slotAbove 2 = .ok (.getfield 9, 3) := by decide +kernel
theorem z_d_slotAbove_5 : decode b_d_slotAbove 5 = .ok (.iload_n 1, 1) := by decide +kernel
theorem z_d_slotAbove_6 : decode b_d_slotAbove 6 = .ok (.iaload, 1) := by decide +kernel
theorem z_d_slotAbove_7 : decode b_d_slotAbove 7 = .ok (.aload_n 0, 1) := by decide +kernel
theorem z_d_slotAbove_8 : decode b_d_slotAbove 8 = .ok (.getfield 23, 3) := by decide +kernel
theorem z_d_slotAbove_11 : decode b_d_slotAbove 11 = .ok (.getfield 164, 3) := by decide +kernel
theorem z_d_slotAbove_14 : decode b_d_slotAbove 14 = .ok (.iload_n 1, 1) := by decide +kernel
theorem z_d_slotAbove_15 : decode b_d_slotAbove 15 = .ok (.iload_n 2, 1) := by decide +kernel
theorem z_d_slotAbove_16 : decode b_d_slotAbove 16 = .ok (.invokestatic 139, 3) := by decide +kernel
theorem z_d_slotAbove_19 : decode b_d_slotAbove 19 = .ok (.iaload, 1) := by decide +kernel
theorem z_d_slotAbove_20 : decode b_d_slotAbove 20 = .ok (.invokevirtual 68, 3) := by decide +kernel
theorem z_d_slotAbove_23 : decode b_d_slotAbove 23 = .ok (.ireturn, 1) := by decide +kernel
theorem z_d_answerToPass_0 : decode b_d_answerToPass 0 = .ok (.iload_n 1, 1) := by decide +kernel
theorem z_d_answerToPass_1 : decode b_d_answerToPass 1 = .ok (.iconst (-1), 1) := by decide +kernel
theorem z_d_answerToPass_2 : decode b_d_answerToPass 2 = .ok (.if_icmp .ne 7, 3) := by decide +kernel
theorem z_d_answerToPass_5 : decode b_d_answerToPass 5 = .ok (.ldc2_w 245, 3) := by decide +kernel
theorem z_d_answerToPass_8 : decode b_d_answerToPass 8 = .ok (.lreturn, 1) := by decide +kernel
theorem z_d_answerToPass_9 : decode b_d_answerToPass 9 = .ok (.aload_n 0, 1) := by decide +kernel
theorem z_d_answerToPass_10 : decode b_d_answerToPass 10 = .ok (.getfield 23, 3) := by decide +kernel
theorem z_d_answerToPass_13 : decode b_d_answerToPass 13 = .ok (.getfield 167, 3) := by decide +kernel
theorem z_d_answerToPass_16 : decode b_d_answerToPass 16 = .ok (.iload_n 1, 1) := by decide +kernel
theorem z_d_answerToPass_17 : decode b_d_answerToPass 17 = .ok (.iaload, 1) := by decide +kernel
theorem z_d_answerToPass_18 : decode b_d_answerToPass 18 = .ok (.i2l, 1) := by decide +kernel
theorem z_d_answerToPass_19 : decode b_d_answerToPass 19 = .ok (.iload_n 2, 1) := by decide +kernel
theorem z_d_answerToPass_20 : decode b_d_answerToPass 20 = .ok (.i2l, 1) := by decide +kernel
theorem z_d_answerToPass_21 : decode b_d_answerToPass 21 = .ok (.ladd, 1) := by decide +kernel
theorem z_d_answerToPass_22 : decode b_d_answerToPass 22 = .ok (.invokestatic 223, 3) := by decide +kernel
theorem z_d_answerToPass_25 : decode b_d_answerToPass 25 = .ok (.lreturn, 1) := by decide +kernel
theorem z_d_answerToClose_0 : decode b_d_answerToClose 0 = .ok (.aload_n 0, 1) := by decide +kernel
theorem z_d_answerToClose_1 : decode b_d_answerToClose 1 = .ok (.iload_n 1, 1) := by decide +kernel
theorem z_d_answerToClose_2 : decode b_d_answerToClose 2 = .ok (.iload_n 2, 1) := by decide +kernel
theorem z_d_answerToClose_3 : decode b_d_answerToClose 3 = .ok (.invokevirtual 170, 3) := by decide +kernel
theorem z_d_answerToClose_6 : decode b_d_answerToClose 6 = .ok (.ifCond .le 7, 3) := by decide +kernel
theorem z_d_answerToClose_9 : decode b_d_answerToClose 9 = .ok (.ldc2_w 247, 3) := by decide +kernel
theorem z_d_answerToClose_12 : decode b_d_answerToClose 12 = .ok (.lreturn, 1) := by decide +kernel
theorem z_d_answerToClose_13 : decode b_d_answerToClose 13 = .ok (.aload_n 0, 1) := by decide +kernel
theorem z_d_answerToClose_14 : decode b_d_answerToClose 14 = .ok (.getfield 23, 3) := by decide +kernel
theorem z_d_answerToClose_17 : decode b_d_answerToClose 17 = .ok (.iload_n 1, 1) := by decide +kernel
theorem z_d_answerToClose_18 : decode b_d_answerToClose 18 = .ok (.invokevirtual 249, 3) := by decide +kernel
theorem z_d_answerToClose_21 : decode b_d_answerToClose 21 = .ok (.iconst 1, 1) := by decide +kernel
theorem z_d_answerToClose_22 : decode b_d_answerToClose 22 = .ok (.isub, 1) := by decide +kernel
theorem z_d_answerToClose_23 : decode b_d_answerToClose 23 = .ok (.i2l, 1) := by decide +kernel
theorem z_d_answerToClose_24 : decode b_d_answerToClose 24 = .ok (.lreturn, 1) := by decide +kernel
theorem z_d_openOnesUnder_0 : decode b_d_openOnesUnder 0 = .ok (.iconst 0, 1) := by decide +kernel
theorem z_d_openOnesUnder_1 : decode b_d_openOnesUnder 1 = .ok (.istore_n 3, 1) := by decide +kernel
theorem z_d_openOnesUnder_2 : decode b_d_openOnesUnder 2 = .ok (.iconst 0, 1) := by decide +kernel
theorem z_d_openOnesUnder_3 : decode b_d_openOnesUnder 3 = .ok (.istore 4, 2) := by decide +kernel
theorem z_d_openOnesUnder_5 : decode b_d_openOnesUnder 5 = .ok (.iload 4, 2) := by decide +kernel
theorem z_d_openOnesUnder_7 : decode b_d_openOnesUnder 7 = .ok (.bipush 8, 2) := by decide +kernel
theorem z_d_openOnesUnder_9 : decode b_d_openOnesUnder 9 = .ok (.if_icmp .ge 33, 3) := by decide +kernel
theorem z_d_openOnesUnder_12 : decode b_d_openOnesUnder 12 = .ok (.aload_n 0, 1) := by decide +kernel
theorem z_d_openOnesUnder_13 : decode b_d_openOnesUnder 13 = .ok (.getfield 9, 3) := by decide +kernel
theorem z_d_openOnesUnder_16 : decode b_d_openOnesUnder 16 = .ok (.iload 4, 2) := by decide +kernel
theorem z_d_openOnesUnder_18 : decode b_d_openOnesUnder 18 = .ok (.iaload, 1) := by decide +kernel
theorem z_d_openOnesUnder_19 : decode b_d_openOnesUnder 19 = .ok (.iload_n 1, 1) := by decide +kernel
theorem z_d_openOnesUnder_20 : decode b_d_openOnesUnder 20 = .ok (.if_icmp .ne 16, 3) := by decide +kernel
theorem z_d_openOnesUnder_23 : decode b_d_openOnesUnder 23 = .ok (.iload_n 3, 1) := by decide +kernel
theorem z_d_openOnesUnder_24 : decode b_d_openOnesUnder 24 = .ok (.aload_n 0, 1) := by decide +kernel
theorem z_d_openOnesUnder_25 : decode b_d_openOnesUnder 25 = .ok (.getfield 23, 3) := by decide +kernel
theorem z_d_openOnesUnder_28 : decode b_d_openOnesUnder 28 = .ok (.iload 4, 2) := by decide +kernel
theorem z_d_openOnesUnder_30 : decode b_d_openOnesUnder 30 = .ok (.iload_n 2, 1) := by decide +kernel
theorem z_d_openOnesUnder_31 : decode b_d_openOnesUnder 31 = .ok (.invokevirtual 256, 3) := by decide +kernel
theorem z_d_openOnesUnder_34 : decode b_d_openOnesUnder 34 = .ok (.iadd, 1) := by decide +kernel
theorem z_d_openOnesUnder_35 : decode b_d_openOnesUnder 35 = .ok (.istore_n 3, 1) := by decide +kernel
theorem z_d_openOnesUnder_36 : decode b_d_openOnesUnder 36 = .ok (.iinc 4 1, 3) := by decide +kernel
theorem z_d_openOnesUnder_39 : decode b_d_openOnesUnder 39 = .ok (.goto (-34), 3) := by decide +kernel
theorem z_d_openOnesUnder_42 : decode b_d_openOnesUnder 42 = .ok (.iload_n 3, 1) := by decide +kernel
theorem z_d_openOnesUnder_43 : decode b_d_openOnesUnder 43 = .ok (.ireturn, 1) := by decide +kernel
theorem z_s_openUnder_0 : decode b_s_openUnder 0 = .ok (.iconst 0, 1) := by decide +kernel
theorem z_s_openUnder_1 : decode b_s_openUnder 1 = .ok (.istore_n 3, 1) := by decide +kernel
theorem z_s_openUnder_2 : decode b_s_openUnder 2 = .ok (.iconst 0, 1) := by decide +kernel
theorem z_s_openUnder_3 : decode b_s_openUnder 3 = .ok (.istore 4, 2) := by decide +kernel
theorem z_s_openUnder_5 : decode b_s_openUnder 5 = .ok (.iload 4, 2) := by decide +kernel
theorem z_s_openUnder_7 : decode b_s_openUnder 7 = .ok (.aload_n 0, 1) := by decide +kernel
theorem z_s_openUnder_8 : decode b_s_openUnder 8 = .ok (.getfield 9, 3) := by decide +kernel
theorem z_s_openUnder_11 : decode b_s_openUnder 11 = .ok (.iload_n 1, 1) := by decide +kernel
theorem z_s_openUnder_12 : decode b_s_openUnder 12 = .ok (.iaload, 1) := by decide +kernel
theorem z_s_openUnder_13 : decode b_s_openUnder 13 = .ok (.if_icmp .ge 41, 3) := by decide +kernel
theorem z_s_openUnder_16 : decode b_s_openUnder 16 = .ok (.iload_n 1, 1) := by decide +kernel
theorem z_s_openUnder_17 : decode b_s_openUnder 17 = .ok (.iload 4, 2) := by decide +kernel
theorem z_s_openUnder_19 : decode b_s_openUnder 19 = .ok (.invokestatic 32, 3) := by decide +kernel
theorem z_s_openUnder_22 : decode b_s_openUnder 22 = .ok (.istore 5, 2) := by decide +kernel
theorem z_s_openUnder_24 : decode b_s_openUnder 24 = .ok (.aload_n 0, 1) := by decide +kernel
theorem z_s_openUnder_25 : decode b_s_openUnder 25 = .ok (.getfield 18, 3) := by decide +kernel
theorem z_s_openUnder_28 : decode b_s_openUnder 28 = .ok (.iload 5, 2) := by decide +kernel
theorem z_s_openUnder_30 : decode b_s_openUnder 30 = .ok (.baload, 1) := by decide +kernel
theorem z_s_openUnder_31 : decode b_s_openUnder 31 = .ok (.ifCond .eq 17, 3) := by decide +kernel
theorem z_s_openUnder_34 : decode b_s_openUnder 34 = .ok (.aload_n 0, 1) := by decide +kernel
theorem z_s_openUnder_35 : decode b_s_openUnder 35 = .ok (.getfield 15, 3) := by decide +kernel
theorem z_s_openUnder_38 : decode b_s_openUnder 38 = .ok (.iload 5, 2) := by decide +kernel
theorem z_s_openUnder_40 : decode b_s_openUnder 40 = .ok (.iaload, 1) := by decide +kernel
theorem z_s_openUnder_41 : decode b_s_openUnder 41 = .ok (.iload_n 2, 1) := by decide +kernel
theorem z_s_openUnder_42 : decode b_s_openUnder 42 = .ok (.if_icmp .ne 6, 3) := by decide +kernel
theorem z_s_openUnder_45 : decode b_s_openUnder 45 = .ok (.iinc 3 1, 3) := by decide +kernel
theorem z_s_openUnder_48 : decode b_s_openUnder 48 = .ok (.iinc 4 1, 3) := by decide +kernel
theorem z_s_openUnder_51 : decode b_s_openUnder 51 = .ok (.goto (-46), 3) := by decide +kernel
theorem z_s_openUnder_54 : decode b_s_openUnder 54 = .ok (.iload_n 3, 1) := by decide +kernel
theorem z_s_openUnder_55 : decode b_s_openUnder 55 = .ok (.ireturn, 1) := by decide +kernel
theorem z_s_openOf_0 : decode b_s_openOf 0 = .ok (.iconst 0, 1) := by decide +kernel
theorem z_s_openOf_1 : decode b_s_openOf 1 = .ok (.istore_n 2, 1) := by decide +kernel
theorem z_s_openOf_2 : decode b_s_openOf 2 = .ok (.iconst 0, 1) := by decide +kernel
theorem z_s_openOf_3 : decode b_s_openOf 3 = .ok (.istore_n 3, 1) := by decide +kernel
theorem z_s_openOf_4 : decode b_s_openOf 4 = .ok (.iload_n 3, 1) := by decide +kernel
theorem z_s_openOf_5 : decode b_s_openOf 5 = .ok (.aload_n 0, 1) := by decide +kernel
theorem z_s_openOf_6 : decode b_s_openOf 6 = .ok (.getfield 9, 3) := by decide +kernel
theorem z_s_openOf_9 : decode b_s_openOf 9 = .ok (.iload_n 1, 1) := by decide +kernel
theorem z_s_openOf_10 : decode b_s_openOf 10 = .ok (.iaload, 1) := by decide +kernel
theorem z_s_openOf_11 : decode b_s_openOf 11 = .ok (.if_icmp .ge 25, 3) := by decide +kernel
theorem z_s_openOf_14 : decode b_s_openOf 14 = .ok (.aload_n 0, 1) := by decide +kernel
theorem z_s_openOf_15 : decode b_s_openOf 15 = .ok (.getfield 18, 3) := by decide +kernel
theorem z_s_openOf_18 : decode b_s_openOf 18 = .ok (.iload_n 1, 1) := by decide +kernel
theorem z_s_openOf_19 : decode b_s_openOf 19 = .ok (.iload_n 3, 1) := by decide +kernel
theorem z_s_openOf_20 : decode b_s_openOf 20 = .ok (.invokestatic 32, 3) := by decide +kernel
theorem z_s_openOf_23 : decode b_s_openOf 23 = .ok (.baload, 1) := by decide +kernel
theorem z_s_openOf_24 : decode b_s_openOf 24 = .ok (.ifCond .eq 6, 3) := by decide +kernel
theorem z_s_openOf_27 : decode b_s_openOf 27 = .ok (.iinc 2 1, 3) := by decide +kernel
theorem z_s_openOf_30 : decode b_s_openOf 30 = .ok (.iinc 3 1, 3) := by decide +kernel
theorem z_s_openOf_33 : decode b_s_openOf 33 = .ok (.goto (-29), 3) := by decide +kernel
theorem z_s_openOf_36 : decode b_s_openOf 36 = .ok (.iload_n 2, 1) := by decide +kernel
theorem z_s_openOf_37 : decode b_s_openOf 37 = .ok (.ireturn, 1) := by decide +kernel
theorem z_d_carryOut_0 : decode b_d_carryOut 0 = .ok (.aload_n 0, 1) := by decide +kernel
theorem z_d_carryOut_1 : decode b_d_carryOut 1 = .ok (.getfield 16, 3) := by decide +kernel
theorem z_d_carryOut_4 : decode b_d_carryOut 4 = .ok (.getfield 208, 3) := by decide +kernel
theorem z_d_carryOut_7 : decode b_d_carryOut 7 = .ok (.iload_n 1, 1) := by decide +kernel
theorem z_d_carryOut_8 : decode b_d_carryOut 8 = .ok (.bipush 8, 2) := by decide +kernel
theorem z_d_carryOut_10 : decode b_d_carryOut 10 = .ok (.imul, 1) := by decide +kernel
theorem z_d_carryOut_11 : decode b_d_carryOut 11 = .ok (.iload_n 3, 1) := by decide +kernel
theorem z_d_carryOut_12 : decode b_d_carryOut 12 = .ok (.iadd, 1) := by decide +kernel
theorem z_d_carryOut_13 : decode b_d_carryOut 13 = .ok (.iaload, 1) := by decide +kernel
theorem z_d_carryOut_14 : decode b_d_carryOut 14 = .ok (.lookupswitch 80 #[(2, 34), (6, 48), (7, 63)], 34) := by decide +kernel
theorem z_d_carryOut_48 : decode b_d_carryOut 48 = .ok (.aload_n 0, 1) := by decide +kernel
theorem z_d_carryOut_49 : decode b_d_carryOut 49 = .ok (.iload_n 1, 1) := by decide +kernel
theorem z_d_carryOut_50 : decode b_d_carryOut 50 = .ok (.iload_n 2, 1) := by decide +kernel
theorem z_d_carryOut_51 : decode b_d_carryOut 51 = .ok (.invokestatic 139, 3) := by decide +kernel
theorem z_d_carryOut_54 : decode b_d_carryOut 54 = .ok (.lload 4, 2) := by decide +kernel
theorem z_d_carryOut_56 : decode b_d_carryOut 56 = .ok (.invokevirtual 252, 3) := by decide +kernel
theorem z_d_carryOut_59 : decode b_d_carryOut 59 = .ok (.goto 35, 3) := by decide +kernel
theorem z_d_carryOut_62 : decode b_d_carryOut 62 = .ok (.aload_n 0, 1) := by decide +kernel
theorem z_d_carryOut_63 : decode b_d_carryOut 63 = .ok (.aload_n 0, 1) := by decide +kernel
theorem z_d_carryOut_64 : decode b_d_carryOut 64 = .ok (.iload_n 1, 1) := by decide +kernel
theorem z_d_carryOut_65 : decode b_d_carryOut 65 = .ok (.iload_n 2, 1) := by decide +kernel
theorem z_d_carryOut_66 : decode b_d_carryOut 66 = .ok (.invokevirtual 231, 3) := by decide +kernel
theorem z_d_carryOut_69 : decode b_d_carryOut 69 = .ok (.lload 4, 2) := by decide +kernel
theorem z_d_carryOut_71 : decode b_d_carryOut 71 = .ok (.invokevirtual 252, 3) := by decide +kernel
theorem z_d_carryOut_74 : decode b_d_carryOut 74 = .ok (.goto 20, 3) := by decide +kernel
theorem z_d_carryOut_77 : decode b_d_carryOut 77 = .ok (.aload_n 0, 1) := by decide +kernel
theorem z_d_carryOut_78 : decode b_d_carryOut 78 = .ok (.getfield 23, 3) := by decide +kernel
theorem z_d_carryOut_81 : decode b_d_carryOut 81 = .ok (.getfield 72, 3) := by decide +kernel
theorem z_d_carryOut_84 : decode b_d_carryOut 84 = .ok (.iload_n 1, 1) := by decide +kernel
theorem z_d_carryOut_85 : decode b_d_carryOut 85 = .ok (.iload_n 2, 1) := by decide +kernel
theorem z_d_carryOut_86 : decode b_d_carryOut 86 = .ok (.invokestatic 139, 3) := by decide +kernel
theorem z_d_carryOut_89 : decode b_d_carryOut 89 = .ok (.iconst 0, 1) := by decide +kernel
theorem z_d_carryOut_90 : decode b_d_carryOut 90 = .ok (.bastore, 1) := by decide +kernel
theorem z_d_carryOut_91 : decode b_d_carryOut 91 = .ok (.goto 3, 3) := by decide +kernel
theorem z_d_carryOut_94 : decode b_d_carryOut 94 = .ok (.return_, 1) := by decide +kernel
theorem z_d_setSum_0 : decode b_d_setSum 0 = .ok (.iload_n 1, 1) := by decide +kernel
theorem z_d_setSum_1 : decode b_d_setSum 1 = .ok (.iconst (-1), 1) := by decide +kernel
theorem z_d_setSum_2 : decode b_d_setSum 2 = .ok (.if_icmp .eq 14, 3) := by decide +kernel
theorem z_d_setSum_5 : decode b_d_setSum 5 = .ok (.aload_n 0, 1) := by decide +kernel
theorem z_d_setSum_6 : decode b_d_setSum 6 = .ok (.getfield 23, 3) := by decide +kernel
theorem z_d_setSum_9 : decode b_d_setSum 9 = .ok (.getfield 167, 3) := by decide +kernel
theorem z_d_setSum_12 : decode b_d_setSum 12 = .ok (.iload_n 1, 1) := by decide +kernel
theorem z_d_setSum_13 : decode b_d_setSum 13 = .ok (.lload_n 2, 1) := by decide +kernel
theorem z_d_setSum_14 : decode b_d_setSum 14 = .ok (.l2i, 1) := by decide +kernel
theorem z_d_setSum_15 : decode b_d_setSum 15 = .ok (.iastore, 1) := by decide +kernel
theorem z_d_setSum_16 : decode b_d_setSum 16 = .ok (.return_, 1) := by decide +kernel
theorem z_d_simulate_0 : decode b_d_simulate 0 = .ok (.aload_n 0, 1) := by decide +kernel
theorem z_d_simulate_1 : decode b_d_simulate 1 = .ok (.iload_n 1, 1) := by decide +kernel
theorem z_d_simulate_2 : decode b_d_simulate 2 = .ok (.iload_n 2, 1) := by decide +kernel
theorem z_d_simulate_3 : decode b_d_simulate 3 = .ok (.iload_n 3, 1) := by decide +kernel
theorem z_d_simulate_4 : decode b_d_simulate 4 = .ok (.iload 4, 2) := by decide +kernel
theorem z_d_simulate_6 : decode b_d_simulate 6 = .ok (.invokevirtual 110, 3) := by decide +kernel
theorem z_d_simulate_9 : decode b_d_simulate 9 = .ok (.invokestatic 118, 3) := by decide +kernel
theorem z_d_simulate_12 : decode b_d_simulate 12 = .ok (.aload_n 0, 1) := by decide +kernel
theorem z_d_simulate_13 : decode b_d_simulate 13 = .ok (.iload_n 1, 1) := by decide +kernel
theorem z_d_simulate_14 : decode b_d_simulate 14 = .ok (.iload_n 2, 1) := by decide +kernel
theorem z_d_simulate_15 : decode b_d_simulate 15 = .ok (.iload_n 3, 1) := by decide +kernel
theorem z_d_simulate_16 : decode b_d_simulate 16 = .ok (.iload 4, 2) := by decide +kernel
theorem z_d_simulate_18 : decode b_d_simulate 18 = .ok (.invokevirtual 122, 3) := by decide +kernel
theorem z_d_simulate_21 : decode b_d_simulate 21 = .ok (.lreturn, 1) := by decide +kernel
theorem z_d_text_0 : decode b_d_text 0 = .ok (.aload_n 0, 1) := by decide +kernel
theorem z_d_text_1 : decode b_d_text 1 = .ok (.iload_n 1, 1) := by decide +kernel
theorem z_d_text_2 : decode b_d_text 2 = .ok (.iload_n 2, 1) := by decide +kernel
theorem z_d_text_3 : decode b_d_text 3 = .ok (.invokevirtual 132, 3) := by decide +kernel
theorem z_d_text_6 : decode b_d_text 6 = .ok (.ifCond .ne 13, 3) := by decide +kernel
theorem z_d_text_9 : decode b_d_text 9 = .ok (.new 44, 3) := by decide +kernel
theorem z_d_text_12 : decode b_d_text 12 = .ok (.dup, 1) := by decide +kernel
theorem z_d_text_13 : decode b_d_text 13 = .ok (.ldc 135, 2) := by decide +kernel
theorem z_d_text_15 : decode b_d_text 15 = .ok (.invokespecial 48, 3) := by decide +kernel
theorem z_d_text_18 : decode b_d_text 18 = .ok (.athrow, 1) := by decide +kernel
theorem z_d_text_19 : decode b_d_text 19 = .ok (.iload 5, 2) := by decide +kernel
theorem z_d_text_21 : decode b_d_text 21 = .ok (.iconst 1, 1) := by decide +kernel
theorem z_d_text_22 : decode b_d_text 22 = .ok (.if_icmp .lt 10, 3) := by decide +kernel
theorem z_d_text_25 : decode b_d_text 25 = .ok (.iload 5, 2) := by decide +kernel
theorem z_d_text_27 : decode b_d_text 27 = .ok (.bipush 8, 2) := by decide +kernel
theorem z_d_text_29 : decode b_d_text 29 = .ok (.if_icmp .le 13, 3) := by decide +kernel
theorem z_d_text_32 : decode b_d_text 32 = .ok (.new 97, 3) := by decide +kernel
theorem z_d_text_35 : decode b_d_text 35 = .ok (.dup, 1) := by decide +kernel
theorem z_d_text_36 : decode b_d_text 36 = .ok (.ldc 137, 2) := by decide +kernel
theorem z_d_text_38 : decode b_d_text 38 = .ok (.invokespecial 101, 3) := by decide +kernel
theorem z_d_text_41 : decode b_d_text 41 = .ok (.athrow, 1) := by decide +kernel
theorem z_d_text_42 : decode b_d_text 42 = .ok (.iload_n 1, 1) := by decide +kernel
theorem z_d_text_43 : decode b_d_text 43 = .ok (.iload_n 2, 1) := by decide +kernel
theorem z_d_text_44 : decode b_d_text 44 = .ok (.invokestatic 139, 3) := by decide +kernel
theorem z_d_text_47 : decode b_d_text 47 = .ok (.istore 6, 2) := by decide +kernel
theorem z_d_text_49 : decode b_d_text 49 = .ok (.aload_n 0, 1) := by decide +kernel
theorem z_d_text_50 : decode b_d_text 50 = .ok (.getfield 23, 3) := by decide +kernel
theorem z_d_text_53 : decode b_d_text 53 = .ok (.getfield 72, 3) := by decide +kernel
theorem z_d_text_56 : decode b_d_text 56 = .ok (.iload 6, 2) := by decide +kernel
theorem z_d_text_58 : decode b_d_text 58 = .ok (.baload, 1) := by decide +kernel
theorem z_d_text_59 : decode b_d_text 59 = .ok (.ifCond .ne 13, 3) := by decide +kernel
theorem z_d_text_62 : decode b_d_text 62 = .ok (.new 58, 3) := by decide +kernel
theorem z_d_text_65 : decode b_d_text 65 = .ok (.dup, 1) := by decide +kernel
theorem z_d_text_66 : decode b_d_text 66 = .ok (.ldc 142, 2) := by decide +kernel
theorem z_d_text_68 : decode b_d_text 68 = .ok (.invokespecial 62, 3) := by decide +kernel
theorem z_d_text_71 : decode b_d_text 71 = .ok (.athrow, 1) := by decide +kernel
theorem z_d_text_72 : decode b_d_text 72 = .ok (.aload_n 0, 1) := by decide +kernel
theorem z_d_text_73 : decode b_d_text 73 = .ok (.getfield 23, 3) := by decide +kernel
theorem z_d_text_76 : decode b_d_text 76 = .ok (.getfield 144, 3) := by decide +kernel
theorem z_d_text_79 : decode b_d_text 79 = .ok (.iload 6, 2) := by decide +kernel
theorem z_d_text_81 : decode b_d_text 81 = .ok (.iaload, 1) := by decide +kernel
theorem z_d_text_82 : decode b_d_text 82 = .ok (.iload 5, 2) := by decide +kernel
theorem z_d_text_84 : decode b_d_text 84 = .ok (.iadd, 1) := by decide +kernel
theorem z_d_text_85 : decode b_d_text 85 = .ok (.bipush 16, 2) := by decide +kernel
theorem z_d_text_87 : decode b_d_text 87 = .ok (.if_icmp .le 13, 3) := by decide +kernel
theorem z_d_text_90 : decode b_d_text 90 = .ok (.new 78, 3) := by decide +kernel
theorem z_d_text_93 : decode b_d_text 93 = .ok (.dup, 1) := by decide +kernel
theorem z_d_text_94 : decode b_d_text 94 = .ok (.ldc 147, 2) := by decide +kernel
theorem z_d_text_96 : decode b_d_text 96 = .ok (.invokespecial 82, 3) := by decide +kernel
theorem z_d_text_99 : decode b_d_text 99 = .ok (.athrow, 1) := by decide +kernel
theorem z_d_text_100 : decode b_d_text 100 = .ok (.aload_n 0, 1) := by decide +kernel
theorem z_d_text_101 : decode b_d_text 101 = .ok (.getfield 23, 3) := by decide +kernel
theorem z_d_text_104 : decode b_d_text 104 = .ok (.iload 6, 2) := by decide +kernel
theorem z_d_text_106 : decode b_d_text 106 = .ok (.lload_n 3, 1) := by decide +kernel
theorem z_d_text_107 : decode b_d_text 107 = .ok (.iload 5, 2) := by decide +kernel
theorem z_d_text_109 : decode b_d_text 109 = .ok (.invokevirtual 149, 3) := by decide +kernel
theorem z_d_text_112 : decode b_d_text 112 = .ok (.ireturn, 1) := by decide +kernel
theorem z_s_lengthen_0 : decode b_s_lengthen 0 = .ok (.iload_n 1, 1) := by decide +kernel
theorem z_s_lengthen_1 : decode b_s_lengthen 1 = .ok (.bipush 16, 2) := by decide +kernel
theorem z_s_lengthen_3 : decode b_s_lengthen 3 = .ok (.imul, 1) := by decide +kernel
theorem z_s_lengthen_4 : decode b_s_lengthen 4 = .ok (.aload_n 0, 1) := by decide +kernel
theorem z_s_lengthen_5 : decode b_s_lengthen 5 = .ok (.getfield 25, 3) := by decide +kernel
theorem z_s_lengthen_8 : decode b_s_lengthen 8 = .ok (.iload_n 1, 1) := by decide +kernel
theorem z_s_lengthen_9 : decode b_s_lengthen 9 = .ok (.iaload, 1) := by decide +kernel
theorem z_s_lengthen_10 : decode b_s_lengthen 10 = .ok (.iadd, 1) := by decide +kernel
theorem z_s_lengthen_11 : decode b_s_lengthen 11 = .ok (.istore 5, 2) := by decide +kernel
theorem z_s_lengthen_13 : decode b_s_lengthen 13 = .ok (.iconst 0, 1) := by decide +kernel
theorem z_s_lengthen_14 : decode b_s_lengthen 14 = .ok (.istore 6, 2) := by decide +kernel
theorem z_s_lengthen_16 : decode b_s_lengthen 16 = .ok (.iload 6, 2) := by decide +kernel
theorem z_s_lengthen_18 : decode b_s_lengthen 18 = .ok (.iload 4, 2) := by decide +kernel
theorem z_s_lengthen_20 : decode b_s_lengthen 20 = .ok (.if_icmp .ge 28, 3) := by decide +kernel
theorem z_s_lengthen_23 : decode b_s_lengthen 23 = .ok (.aload_n 0, 1) := by decide +kernel
theorem z_s_lengthen_24 : decode b_s_lengthen 24 = .ok (.getfield 28, 3) := by decide +kernel
theorem z_s_lengthen_27 : decode b_s_lengthen 27 = .ok (.iload 5, 2) := by decide +kernel
theorem z_s_lengthen_29 : decode b_s_lengthen 29 = .ok (.iload 6, 2) := by decide +kernel
theorem z_s_lengthen_31 : decode b_s_lengthen 31 = .ok (.iadd, 1) := by decide +kernel
theorem z_s_lengthen_32 : decode b_s_lengthen 32 = .ok (.lload_n 2, 1) := by decide +kernel
theorem z_s_lengthen_33 : decode b_s_lengthen 33 = .ok (.iload 4, 2) := by decide +kernel
theorem z_s_lengthen_35 : decode b_s_lengthen 35 = .ok (.iload 6, 2) := by decide +kernel
theorem z_s_lengthen_37 : decode b_s_lengthen 37 = .ok (.invokestatic 36, 3) := by decide +kernel
theorem z_s_lengthen_40 : decode b_s_lengthen 40 = .ok (.i2b, 1) := by decide +kernel
theorem z_s_lengthen_41 : decode b_s_lengthen 41 = .ok (.bastore, 1) := by decide +kernel
theorem z_s_lengthen_42 : decode b_s_lengthen 42 = .ok (.iinc 6 1, 3) := by decide +kernel
theorem z_s_lengthen_45 : decode b_s_lengthen 45 = .ok (.goto (-29), 3) := by decide +kernel
theorem z_s_lengthen_48 : decode b_s_lengthen 48 = .ok (.aload_n 0, 1) := by decide +kernel
theorem z_s_lengthen_49 : decode b_s_lengthen 49 = .ok (.getfield 25, 3) := by decide +kernel
theorem z_s_lengthen_52 : decode b_s_lengthen 52 = .ok (.iload_n 1, 1) := by decide +kernel
theorem z_s_lengthen_53 : decode b_s_lengthen 53 = .ok (.dup2, 1) := by decide +kernel
theorem z_s_lengthen_54 : decode b_s_lengthen 54 = .ok (.iaload, 1) := by decide +kernel
theorem z_s_lengthen_55 : decode b_s_lengthen 55 = .ok (.iload 4, 2) := by decide +kernel
theorem z_s_lengthen_57 : decode b_s_lengthen 57 = .ok (.iadd, 1) := by decide +kernel
theorem z_s_lengthen_58 : decode b_s_lengthen 58 = .ok (.iastore, 1) := by decide +kernel
theorem z_s_lengthen_59 : decode b_s_lengthen 59 = .ok (.aload_n 0, 1) := by decide +kernel
theorem z_s_lengthen_60 : decode b_s_lengthen 60 = .ok (.getfield 25, 3) := by decide +kernel
theorem z_s_lengthen_63 : decode b_s_lengthen 63 = .ok (.iload_n 1, 1) := by decide +kernel
theorem z_s_lengthen_64 : decode b_s_lengthen 64 = .ok (.iaload, 1) := by decide +kernel
theorem z_s_lengthen_65 : decode b_s_lengthen 65 = .ok (.ireturn, 1) := by decide +kernel
theorem z_s_byteOf_0 : decode b_s_byteOf 0 = .ok (.lload_n 0, 1) := by decide +kernel
theorem z_s_byteOf_1 : decode b_s_byteOf 1 = .ok (.bipush 8, 2) := by decide +kernel
theorem z_s_byteOf_3 : decode b_s_byteOf 3 = .ok (.iload_n 2, 1) := by decide +kernel
theorem z_s_byteOf_4 : decode b_s_byteOf 4 = .ok (.iconst 1, 1) := by decide +kernel
theorem z_s_byteOf_5 : decode b_s_byteOf 5 = .ok (.isub, 1) := by decide +kernel
theorem z_s_byteOf_6 : decode b_s_byteOf 6 = .ok (.iload_n 3, 1) := by decide +kernel
theorem z_s_byteOf_7 : decode b_s_byteOf 7 = .ok (.isub, 1) := by decide +kernel
theorem z_s_byteOf_8 : decode b_s_byteOf 8 = .ok (.imul, 1) := by decide +kernel
theorem z_s_byteOf_9 : decode b_s_byteOf 9 = .ok (.lushr, 1) := by decide +kernel
theorem z_s_byteOf_10 : decode b_s_byteOf 10 = .ok (.l2i, 1) := by decide +kernel
theorem z_s_byteOf_11 : decode b_s_byteOf 11 = .ok (.sipush 255, 3) := by decide +kernel
theorem z_s_byteOf_14 : decode b_s_byteOf 14 = .ok (.iand, 1) := by decide +kernel
theorem z_s_byteOf_15 : decode b_s_byteOf 15 = .ok (.ireturn, 1) := by decide +kernel
theorem z_d_textAt_0 : decode b_d_textAt 0 = .ok (.aload_n 0, 1) := by decide +kernel
theorem z_d_textAt_1 : decode b_d_textAt 1 = .ok (.iload_n 1, 1) := by decide +kernel
theorem z_d_textAt_2 : decode b_d_textAt 2 = .ok (.iload_n 2, 1) := by decide +kernel
theorem z_d_textAt_3 : decode b_d_textAt 3 = .ok (.invokevirtual 132, 3) := by decide +kernel
theorem z_d_textAt_6 : decode b_d_textAt 6 = .ok (.ifCond .ne 13, 3) := by decide +kernel
theorem z_d_textAt_9 : decode b_d_textAt 9 = .ok (.new 44, 3) := by decide +kernel
theorem z_d_textAt_12 : decode b_d_textAt 12 = .ok (.dup, 1) := by decide +kernel
theorem z_d_textAt_13 : decode b_d_textAt 13 = .ok (.ldc 135, 2) := by decide +kernel
theorem z_d_textAt_15 : decode b_d_textAt 15 = .ok (.invokespecial 48, 3) := by decide +kernel
theorem z_d_textAt_18 : decode b_d_textAt 18 = .ok (.athrow, 1) := by decide +kernel
theorem z_d_textAt_19 : decode b_d_textAt 19 = .ok (.iload_n 3, 1) := by decide +kernel
theorem z_d_textAt_20 : decode b_d_textAt 20 = .ok (.ifCond .ge 13, 3) := by decide +kernel
theorem z_d_textAt_23 : decode b_d_textAt 23 = .ok (.new 97, 3) := by decide +kernel
theorem z_d_textAt_26 : decode b_d_textAt 26 = .ok (.dup, 1) := by decide +kernel
theorem z_d_textAt_27 : decode b_d_textAt 27 = .ok (.ldc 153, 2) := by decide +kernel
theorem z_d_textAt_29 : decode b_d_textAt 29 = .ok (.invokespecial 101, 3) := by decide +kernel
theorem z_d_textAt_32 : decode b_d_textAt 32 = .ok (.athrow, 1) := by decide +kernel
theorem z_d_textAt_33 : decode b_d_textAt 33 = .ok (.iload_n 1, 1) := by decide +kernel
theorem z_d_textAt_34 : decode b_d_textAt 34 = .ok (.iload_n 2, 1) := by decide +kernel
theorem z_d_textAt_35 : decode b_d_textAt 35 = .ok (.invokestatic 139, 3) := by decide +kernel
theorem z_d_textAt_38 : decode b_d_textAt 38 = .ok (.istore 4, 2) := by decide +kernel
theorem z_d_textAt_40 : decode b_d_textAt 40 = .ok (.iload_n 3, 1) := by decide +kernel
theorem z_d_textAt_41 : decode b_d_textAt 41 = .ok (.aload_n 0, 1) := by decide +kernel
theorem z_d_textAt_42 : decode b_d_textAt 42 = .ok (.getfield 23, 3) := by decide +kernel
theorem z_d_textAt_45 : decode b_d_textAt 45 = .ok (.getfield 144, 3) := by decide +kernel
theorem z_d_textAt_48 : decode b_d_textAt 48 = .ok (.iload 4, 2) := by decide +kernel
theorem z_d_textAt_50 : decode b_d_textAt 50 = .ok (.iaload, 1) := by decide +kernel
theorem z_d_textAt_51 : decode b_d_textAt 51 = .ok (.if_icmp .ge 16, 3) := by decide +kernel
theorem z_d_textAt_54 : decode b_d_textAt 54 = .ok (.aload_n 0, 1) := by decide +kernel
theorem z_d_textAt_55 : decode b_d_textAt 55 = .ok (.getfield 23, 3) := by decide +kernel
theorem z_d_textAt_58 : decode b_d_textAt 58 = .ok (.iload 4, 2) := by decide +kernel
theorem z_d_textAt_60 : decode b_d_textAt 60 = .ok (.iload_n 3, 1) := by decide +kernel
theorem z_d_textAt_61 : decode b_d_textAt 61 = .ok (.invokevirtual 155, 3) := by decide +kernel
theorem z_d_textAt_64 : decode b_d_textAt 64 = .ok (.goto 4, 3) := by decide +kernel
theorem z_d_textAt_67 : decode b_d_textAt 67 = .ok (.iconst (-1), 1) := by decide +kernel
theorem z_d_textAt_68 : decode b_d_textAt 68 = .ok (.ireturn, 1) := by decide +kernel
theorem z_d_find_0 : decode b_d_find 0 = .ok (.iload_n 1, 1) := by decide +kernel
theorem z_d_find_1 : decode b_d_find 1 = .ok (.invokestatic 40, 3) := by decide +kernel
theorem z_d_find_4 : decode b_d_find 4 = .ok (.ifCond .ne 13, 3) := by decide +kernel
theorem z_d_find_7 : decode b_d_find 7 = .ok (.new 44, 3) := by decide +kernel
theorem z_d_find_10 : decode b_d_find 10 = .ok (.dup, 1) := by decide +kernel
theorem z_d_find_11 : decode b_d_find 11 = .ok (.ldc 46, 2) := by decide +kernel
theorem z_d_find_13 : decode b_d_find 13 = .ok (.invokespecial 48, 3) := by decide +kernel
theorem z_d_find_16 : decode b_d_find 16 = .ok (.athrow, 1) := by decide +kernel
theorem z_d_find_17 : decode b_d_find 17 = .ok (.iload 4, 2) := by decide +kernel
theorem z_d_find_19 : decode b_d_find 19 = .ok (.ifCond .lt 10, 3) := by decide +kernel
theorem z_d_find_22 : decode b_d_find 22 = .ok (.iload 4, 2) := by decide +kernel
theorem z_d_find_24 : decode b_d_find 24 = .ok (.bipush 8, 2) := by decide +kernel
theorem z_d_find_26 : decode b_d_find 26 = .ok (.if_icmp .le 13, 3) := by decide +kernel
theorem z_d_find_29 : decode b_d_find 29 = .ok (.new 97, 3) := by decide +kernel
theorem z_d_find_32 : decode b_d_find 32 = .ok (.dup, 1) := by decide +kernel
theorem z_d_find_33 : decode b_d_find 33 = .ok (.ldc 137, 2) := by decide +kernel
theorem z_d_find_35 : decode b_d_find 35 = .ok (.invokespecial 101, 3) := by decide +kernel
theorem z_d_find_38 : decode b_d_find 38 = .ok (.athrow, 1) := by decide +kernel
theorem z_d_find_39 : decode b_d_find 39 = .ok (.iconst 0, 1) := by decide +kernel
theorem z_d_find_40 : decode b_d_find 40 = .ok (.istore 5, 2) := by decide +kernel
theorem z_d_find_42 : decode b_d_find 42 = .ok (.iload 5, 2) := by decide +kernel
theorem z_d_find_44 : decode b_d_find 44 = .ok (.aload_n 0, 1) := by decide +kernel
theorem z_d_find_45 : decode b_d_find 45 = .ok (.getfield 23, 3) := by decide +kernel
theorem z_d_find_48 : decode b_d_find 48 = .ok (.getfield 51, 3) := by decide +kernel
theorem z_d_find_51 : decode b_d_find 51 = .ok (.iload_n 1, 1) := by decide +kernel
theorem z_d_find_52 : decode b_d_find 52 = .ok (.iaload, 1) := by decide +kernel
theorem z_d_find_53 : decode b_d_find 53 = .ok (.if_icmp .ge 48, 3) := by decide +kernel
theorem z_d_find_56 : decode b_d_find 56 = .ok (.iload_n 1, 1) := by decide +kernel
theorem z_d_find_57 : decode b_d_find 57 = .ok (.iload 5, 2) := by decide +kernel
theorem z_d_find_59 : decode b_d_find 59 = .ok (.invokestatic 139, 3) := by decide +kernel
theorem z_d_find_62 : decode b_d_find 62 = .ok (.istore 6, 2) := by decide +kernel
theorem z_d_find_64 : decode b_d_find 64 = .ok (.aload_n 0, 1) := by decide +kernel
theorem z_d_find_65 : decode b_d_find 65 = .ok (.getfield 23, 3) := by decide +kernel
theorem z_d_find_68 : decode b_d_find 68 = .ok (.getfield 72, 3) := by decide +kernel
theorem z_d_find_71 : decode b_d_find 71 = .ok (.iload 6, 2) := by decide +kernel
theorem z_d_find_73 : decode b_d_find 73 = .ok (.baload, 1) := by decide +kernel
theorem z_d_find_74 : decode b_d_find 74 = .ok (.ifCond .eq 21, 3) := by decide +kernel
theorem z_d_find_77 : decode b_d_find 77 = .ok (.aload_n 0, 1) := by decide +kernel
theorem z_d_find_78 : decode b_d_find 78 = .ok (.getfield 23, 3) := by decide +kernel
theorem z_d_find_81 : decode b_d_find 81 = .ok (.iload 6, 2) := by decide +kernel
theorem z_d_find_83 : decode b_d_find 83 = .ok (.lload_n 2, 1) := by decide +kernel
theorem z_d_find_84 : decode b_d_find 84 = .ok (.iload 4, 2) := by decide +kernel
theorem z_d_find_86 : decode b_d_find 86 = .ok (.invokevirtual 158, 3) := by decide +kernel
theorem z_d_find_89 : decode b_d_find 89 = .ok (.ifCond .eq 6, 3) := by decide +kernel
theorem z_d_find_92 : decode b_d_find 92 = .ok (.iload 5, 2) := by decide +kernel
theorem z_d_find_94 : decode b_d_find 94 = .ok (.ireturn, 1) := by decide +kernel
theorem z_d_find_95 : decode b_d_find 95 = .ok (.iinc 5 1, 3) := by decide +kernel
theorem z_d_find_98 : decode b_d_find 98 = .ok (.goto (-56), 3) := by decide +kernel
theorem z_d_find_101 : decode b_d_find 101 = .ok (.iconst (-1), 1) := by decide +kernel
theorem z_d_find_102 : decode b_d_find 102 = .ok (.ireturn, 1) := by decide +kernel
theorem z_s_hasJust_0 : decode b_s_hasJust 0 = .ok (.aload_n 0, 1) := by decide +kernel
theorem z_s_hasJust_1 : decode b_s_hasJust 1 = .ok (.getfield 25, 3) := by decide +kernel
theorem z_s_hasJust_4 : decode b_s_hasJust 4 = .ok (.iload_n 1, 1) := by decide +kernel
theorem z_s_hasJust_5 : decode b_s_hasJust 5 = .ok (.iaload, 1) := by decide +kernel
theorem z_s_hasJust_6 : decode b_s_hasJust 6 = .ok (.iload 4, 2) := by decide +kernel
theorem z_s_hasJust_8 : decode b_s_hasJust 8 = .ok (.if_icmp .eq 5, 3) := by decide +kernel
theorem z_s_hasJust_11 : decode b_s_hasJust 11 = .ok (.iconst 0, 1) := by decide +kernel
theorem z_s_hasJust_12 : decode b_s_hasJust 12 = .ok (.ireturn, 1) := by decide +kernel
theorem z_s_hasJust_13 : decode b_s_hasJust 13 = .ok (.iconst 0, 1) := by decide +kernel
theorem z_s_hasJust_14 : decode b_s_hasJust 14 = .ok (.istore 5, 2) := by decide +kernel
theorem z_s_hasJust_16 : decode b_s_hasJust 16 = .ok (.iload 5, 2) := by decide +kernel
theorem z_s_hasJust_18 : decode b_s_hasJust 18 = .ok (.iload 4, 2) := by decide +kernel
theorem z_s_hasJust_20 : decode b_s_hasJust 20 = .ok (.if_icmp .ge 29, 3) := by decide +kernel
theorem z_s_hasJust_23 : decode b_s_hasJust 23 = .ok (.aload_n 0, 1) := by decide +kernel
theorem z_s_hasJust_24 : decode b_s_hasJust 24 = .ok (.iload_n 1, 1) := by decide +kernel
theorem z_s_hasJust_25 : decode b_s_hasJust 25 = .ok (.iload 5, 2) := by decide +kernel
theorem z_s_hasJust_27 : decode b_s_hasJust 27 = .ok (.invokevirtual 40, 3) := by decide +kernel
theorem z_s_hasJust_30 : decode b_s_hasJust 30 = .ok (.lload_n 2, 1) := by decide +kernel
theorem z_s_hasJust_31 : decode b_s_hasJust 31 = .ok (.iload 4, 2) := by decide +kernel
theorem z_s_hasJust_33 : decode b_s_hasJust 33 = .ok (.iload 5, 2) := by decide +kernel
theorem z_s_hasJust_35 : decode b_s_hasJust 35 = .ok (.invokestatic 36, 3) := by decide +kernel
theorem z_s_hasJust_38 : decode b_s_hasJust 38 = .ok (.if_icmp .eq 5, 3) := by decide +kernel
theorem z_s_hasJust_41 : decode b_s_hasJust 41 = .ok (.iconst 0, 1) := by decide +kernel
theorem z_s_hasJust_42 : decode b_s_hasJust 42 = .ok (.ireturn, 1) := by decide +kernel
theorem z_s_hasJust_43 : decode b_s_hasJust 43 = .ok (.iinc 5 1, 3) := by decide +kernel
theorem z_s_hasJust_46 : decode b_s_hasJust 46 = .ok (.goto (-30), 3) := by decide +kernel
theorem z_s_hasJust_49 : decode b_s_hasJust 49 = .ok (.iconst 1, 1) := by decide +kernel
theorem z_s_hasJust_50 : decode b_s_hasJust 50 = .ok (.ireturn, 1) := by decide +kernel
theorem z_d_subject_0 : decode b_d_subject 0 = .ok (.aload_n 0, 1) := by decide +kernel
theorem z_d_subject_1 : decode b_d_subject 1 = .ok (.iload_n 1, 1) := by decide +kernel
theorem z_d_subject_2 : decode b_d_subject 2 = .ok (.iload_n 2, 1) := by decide +kernel
theorem z_d_subject_3 : decode b_d_subject 3 = .ok (.invokevirtual 132, 3) := by decide +kernel
theorem z_d_subject_6 : decode b_d_subject 6 = .ok (.ifCond .eq 12, 3) := by decide +kernel
theorem z_d_subject_9 : decode b_d_subject 9 = .ok (.iload_n 3, 1) := by decide +kernel
theorem z_d_subject_10 : decode b_d_subject 10 = .ok (.ifCond .lt 8, 3) := by decide +kernel
theorem z_d_subject_13 : decode b_d_subject 13 = .ok (.iload_n 3, 1) := by decide +kernel
theorem z_d_subject_14 : decode b_d_subject 14 = .ok (.iconst 3, 1) := by decide +kernel
theorem z_d_subject_15 : decode b_d_subject 15 = .ok (.if_icmp .le 13, 3) := by decide +kernel
theorem z_d_subject_18 : decode b_d_subject 18 = .ok (.new 44, 3) := by decide +kernel
theorem z_d_subject_21 : decode b_d_subject 21 = .ok (.dup, 1) := by decide +kernel
theorem z_d_subject_22 : decode b_d_subject 22 = .ok (.ldc 162, 2) := by decide +kernel
theorem z_d_subject_24 : decode b_d_subject 24 = .ok (.invokespecial 48, 3) := by decide +kernel
theorem z_d_subject_27 : decode b_d_subject 27 = .ok (.athrow, 1) := by decide +kernel
theorem z_d_subject_28 : decode b_d_subject 28 = .ok (.iload_n 1, 1) := by decide +kernel
theorem z_d_subject_29 : decode b_d_subject 29 = .ok (.iload_n 2, 1) := by decide +kernel
theorem z_d_subject_30 : decode b_d_subject 30 = .ok (.invokestatic 139, 3) := by decide +kernel
theorem z_d_subject_33 : decode b_d_subject 33 = .ok (.istore 4, 2) := by decide +kernel
theorem z_d_subject_35 : decode b_d_subject 35 = .ok (.iload_n 3, 1) := by decide +kernel
theorem z_d_subject_36 : decode b_d_subject 36 = .ok (.tableswitch 69 0 2 #[28, 39, 58], 28) := by decide +kernel
theorem z_d_subject_64 : decode b_d_subject 64 = .ok (.aload_n 0, 1) := by decide +kernel
theorem z_d_subject_65 : decode b_d_subject 65 = .ok (.getfield 23, 3) := by decide +kernel
theorem z_d_subject_68 : decode b_d_subject 68 = .ok (.getfield 164, 3) := by decide +kernel
theorem z_d_subject_71 : decode b_d_subject 71 = .ok (.iload 4, 2) := by decide +kernel
theorem z_d_subject_73 : decode b_d_subject 73 = .ok (.iaload, 1) := by decide +kernel
theorem z_d_subject_74 : decode b_d_subject 74 = .ok (.ireturn, 1) := by decide +kernel
theorem z_d_subject_75 : decode b_d_subject 75 = .ok (.aload_n 0, 1) := by decide +kernel
theorem z_d_subject_76 : decode b_d_subject 76 = .ok (.getfield 23, 3) := by decide +kernel
theorem z_d_subject_79 : decode b_d_subject 79 = .ok (.getfield 72, 3) := by decide +kernel
theorem z_d_subject_82 : decode b_d_subject 82 = .ok (.iload 4, 2) := by decide +kernel
theorem z_d_subject_84 : decode b_d_subject 84 = .ok (.baload, 1) := by decide +kernel
theorem z_d_subject_85 : decode b_d_subject 85 = .ok (.ifCond .eq 7, 3) := by decide +kernel
theorem z_d_subject_88 : decode b_d_subject 88 = .ok (.iconst 1, 1) := by decide +kernel
theorem z_d_subject_89 : decode b_d_subject 89 = .ok (.goto 4, 3) := by decide +kernel
theorem z_d_subject_92 : decode b_d_subject 92 = .ok (.iconst 0, 1) := by decide +kernel
theorem z_d_subject_93 : decode b_d_subject 93 = .ok (.ireturn, 1) := by decide +kernel
theorem z_d_subject_94 : decode b_d_subject 94 = .ok (.aload_n 0, 1) := by decide +kernel
theorem z_d_subject_95 : decode b_d_subject 95 = .ok (.getfield 23, 3) := by decide +kernel
theorem z_d_subject_98 : decode b_d_subject 98 = .ok (.getfield 167, 3) := by decide +kernel
theorem z_d_subject_101 : decode b_d_subject 101 = .ok (.iload 4, 2) := by decide +kernel
theorem z_d_subject_103 : decode b_d_subject 103 = .ok (.iaload, 1) := by decide +kernel
theorem z_d_subject_104 : decode b_d_subject 104 = .ok (.ireturn, 1) := by decide +kernel
theorem z_d_subject_105 : decode b_d_subject 105 = .ok (.aload_n 0, 1) := by decide +kernel
theorem z_d_subject_106 : decode b_d_subject 106 = .ok (.iload_n 1, 1) := by decide +kernel
theorem z_d_subject_107 : decode b_d_subject 107 = .ok (.iload_n 2, 1) := by decide +kernel
theorem z_d_subject_108 : decode b_d_subject 108 = .ok (.invokevirtual 170, 3) := by decide +kernel
theorem z_d_subject_111 : decode b_d_subject 111 = .ok (.ireturn, 1) := by decide +kernel
theorem z_d_row_0 : decode b_d_row 0 = .ok (.iload_n 1, 1) := by decide +kernel
theorem z_d_row_1 : decode b_d_row 1 = .ok (.ifCond .lt 23, 3) := by decide +kernel
theorem z_d_row_4 : decode b_d_row 4 = .ok (.iload_n 1, 1) := by decide +kernel
theorem z_d_row_5 : decode b_d_row 5 = .ok (.aload_n 0, 1) := by decide +kernel
theorem z_d_row_6 : decode b_d_row 6 = .ok (.getfield 30, 3) := by decide +kernel
theorem z_d_row_9 : decode b_d_row 9 = .ok (.getfield 173, 3) := by decide +kernel
theorem z_d_row_12 : decode b_d_row 12 = .ok (.if_icmp .ge 12, 3) := by decide +kernel
theorem z_d_row_15 : decode b_d_row 15 = .ok (.iload_n 2, 1) := by decide +kernel
theorem z_d_row_16 : decode b_d_row 16 = .ok (.ifCond .lt 8, 3) := by decide +kernel
theorem z_d_row_19 : decode b_d_row 19 = .ok (.iload_n 2, 1) := by decide +kernel
theorem z_d_row_20 : decode b_d_row 20 = .ok (.iconst 5, 1) := by decide +kernel
theorem z_d_row_21 : decode b_d_row 21 = .ok (.if_icmp .lt 13, 3) := by decide +kernel
theorem z_d_row_24 : decode b_d_row 24 = .ok (.new 44, 3) := by decide +kernel
theorem z_d_row_27 : decode b_d_row 27 = .ok (.dup, 1) := by decide +kernel
theorem z_d_row_28 : decode b_d_row 28 = .ok (.ldc 176, 2) := by decide +kernel
theorem z_d_row_30 : decode b_d_row 30 = .ok (.invokespecial 48, 3) := by decide +kernel
theorem z_d_row_33 : decode b_d_row 33 = .ok (.athrow, 1) := by decide +kernel
theorem z_d_row_34 : decode b_d_row 34 = .ok (.aload_n 0, 1) := by decide +kernel
theorem z_d_row_35 : decode b_d_row 35 = .ok (.getfield 30, 3) := by decide +kernel
theorem z_d_row_38 : decode b_d_row 38 = .ok (.getfield 178, 3) := by decide +kernel
theorem z_d_row_41 : decode b_d_row 41 = .ok (.iload_n 1, 1) := by decide +kernel
theorem z_d_row_42 : decode b_d_row 42 = .ok (.iconst 5, 1) := by decide +kernel
theorem z_d_row_43 : decode b_d_row 43 = .ok (.imul, 1) := by decide +kernel
theorem z_d_row_44 : decode b_d_row 44 = .ok (.iload_n 2, 1) := by decide +kernel
theorem z_d_row_45 : decode b_d_row 45 = .ok (.iadd, 1) := by decide +kernel
theorem z_d_row_46 : decode b_d_row 46 = .ok (.iaload, 1) := by decide +kernel
theorem z_d_row_47 : decode b_d_row 47 = .ok (.ireturn, 1) := by decide +kernel
theorem z_d_tick_0 : decode b_d_tick 0 = .ok (.iload_n 1, 1) := by decide +kernel
theorem z_d_tick_1 : decode b_d_tick 1 = .ok (.iconst 1, 1) := by decide +kernel
theorem z_d_tick_2 : decode b_d_tick 2 = .ok (.if_icmp .lt 20, 3) := by decide +kernel
theorem z_d_tick_5 : decode b_d_tick 5 = .ok (.iload_n 1, 1) := by decide +kernel
theorem z_d_tick_6 : decode b_d_tick 6 = .ok (.ldc 181, 2) := by decide +kernel
theorem z_d_tick_8 : decode b_d_tick 8 = .ok (.if_icmp .gt 14, 3) := by decide +kernel
theorem z_d_tick_11 : decode b_d_tick 11 = .ok (.iload_n 1, 1) := by decide +kernel
theorem z_d_tick_12 : decode b_d_tick 12 = .ok (.ldc 182, 2) := by decide +kernel
theorem z_d_tick_14 : decode b_d_tick 14 = .ok (.aload_n 0, 1) := by decide +kernel
theorem z_d_tick_15 : decode b_d_tick 15 = .ok (.getfield 183, 3) := by decide +kernel
theorem z_d_tick_18 : decode b_d_tick 18 = .ok (.isub, 1) := by decide +kernel
theorem z_d_tick_19 : decode b_d_tick 19 = .ok (.if_icmp .le 13, 3) := by decide +kernel
theorem z_d_tick_22 : decode b_d_tick 22 = .ok (.new 97, 3) := by decide +kernel
theorem z_d_tick_25 : decode b_d_tick 25 = .ok (.dup, 1) := by decide +kernel
theorem z_d_tick_26 : decode b_d_tick 26 = .ok (.ldc 186, 2) := by decide +kernel
theorem z_d_tick_28 : decode b_d_tick 28 = .ok (.invokespecial 101, 3) := by decide +kernel
theorem z_d_tick_31 : decode b_d_tick 31 = .ok (.athrow, 1) := by decide +kernel
theorem z_d_tick_32 : decode b_d_tick 32 = .ok (.aload_n 0, 1) := by decide +kernel
theorem z_d_tick_33 : decode b_d_tick 33 = .ok (.dup, 1) := by decide +kernel
theorem z_d_tick_34 : decode b_d_tick 34 = .ok (.getfield 183, 3) := by decide +kernel
theorem z_d_tick_37 : decode b_d_tick 37 = .ok (.iload_n 1, 1) := by decide +kernel
theorem z_d_tick_38 : decode b_d_tick 38 = .ok (.iadd, 1) := by decide +kernel
theorem z_d_tick_39 : decode b_d_tick 39 = .ok (.putfield 183, 3) := by decide +kernel
theorem z_d_tick_42 : decode b_d_tick 42 = .ok (.aload_n 0, 1) := by decide +kernel
theorem z_d_tick_43 : decode b_d_tick 43 = .ok (.getfield 183, 3) := by decide +kernel
theorem z_d_tick_46 : decode b_d_tick 46 = .ok (.ireturn, 1) := by decide +kernel
theorem z_d_count_0 : decode b_d_count 0 = .ok (.iload_n 1, 1) := by decide +kernel
theorem z_d_count_1 : decode b_d_count 1 = .ok (.tableswitch 60 0 3 #[31, 36, 44, 52], 31) := by decide +kernel
theorem z_d_count_32 : decode b_d_count 32 = .ok (.aload_n 0, 1) := by decide +kernel
theorem z_d_count_33 : decode b_d_count 33 = .ok (.getfield 106, 3) := by decide +kernel
theorem z_d_count_36 : decode b_d_count 36 = .ok (.ireturn, 1) := by decide +kernel
theorem z_d_count_37 : decode b_d_count 37 = .ok (.aload_n 0, 1) := by decide +kernel
theorem z_d_count_38 : decode b_d_count 38 = .ok (.getfield 30, 3) := by decide +kernel
theorem z_d_count_41 : decode b_d_count 41 = .ok (.getfield 173, 3) := by decide +kernel
theorem z_d_count_44 : decode b_d_count 44 = .ok (.ireturn, 1) := by decide +kernel
theorem z_d_count_45 : decode b_d_count 45 = .ok (.aload_n 0, 1) := by decide +kernel
theorem z_d_count_46 : decode b_d_count 46 = .ok (.getfield 23, 3) := by decide +kernel
theorem z_d_count_49 : decode b_d_count 49 = .ok (.invokevirtual 188, 3) := by decide +kernel
theorem z_d_count_52 : decode b_d_count 52 = .ok (.ireturn, 1) := by decide +kernel
theorem z_d_count_53 : decode b_d_count 53 = .ok (.aload_n 0, 1) := by decide +kernel
theorem z_d_count_54 : decode b_d_count 54 = .ok (.getfield 23, 3) := by decide +kernel
theorem z_d_count_57 : decode b_d_count 57 = .ok (.invokevirtual 192, 3) := by decide +kernel
theorem z_d_count_60 : decode b_d_count 60 = .ok (.ireturn, 1) := by decide +kernel
theorem z_d_count_61 : decode b_d_count 61 = .ok (.new 44, 3) := by decide +kernel
theorem z_d_count_64 : decode b_d_count 64 = .ok (.dup, 1) := by decide +kernel
theorem z_d_count_65 : decode b_d_count 65 = .ok (.ldc 195, 2) := by decide +kernel
theorem z_d_count_67 : decode b_d_count 67 = .ok (.invokespecial 48, 3) := by decide +kernel
theorem z_d_count_70 : decode b_d_count 70 = .ok (.athrow, 1) := by decide +kernel
theorem z_s_madeInAll_0 : decode b_s_madeInAll 0 = .ok (.iconst 0, 1) := by decide +kernel
theorem z_s_madeInAll_1 : decode b_s_madeInAll 1 = .ok (.istore_n 1, 1) := by decide +kernel
theorem z_s_madeInAll_2 : decode b_s_madeInAll 2 = .ok (.iconst 0, 1) := by decide +kernel
theorem z_s_madeInAll_3 : decode b_s_madeInAll 3 = .ok (.istore_n 2, 1) := by decide +kernel
theorem z_s_madeInAll_4 : decode b_s_madeInAll 4 = .ok (.iload_n 2, 1) := by decide +kernel
theorem z_s_madeInAll_5 : decode b_s_madeInAll 5 = .ok (.bipush 8, 2) := by decide +kernel
theorem z_s_madeInAll_7 : decode b_s_madeInAll 7 = .ok (.if_icmp .ge 18, 3) := by decide +kernel
theorem z_s_madeInAll_10 : decode b_s_madeInAll 10 = .ok (.iload_n 1, 1) := by decide +kernel
theorem z_s_madeInAll_11 : decode b_s_madeInAll 11 = .ok (.aload_n 0, 1) := by decide +kernel
theorem z_s_madeInAll_12 : decode b_s_madeInAll 12 = .ok (.getfield 9, 3) := by decide +kernel
theorem z_s_madeInAll_15 : decode b_s_madeInAll 15 = .ok (.iload_n 2, 1) := by decide +kernel
theorem z_s_madeInAll_16 : decode b_s_madeInAll 16 = .ok (.iaload, 1) := by decide +kernel
theorem z_s_madeInAll_17 : decode b_s_madeInAll 17 = .ok (.iadd, 1) := by decide +kernel
theorem z_s_madeInAll_18 : decode b_s_madeInAll 18 = .ok (.istore_n 1, 1) := by decide +kernel
theorem z_s_madeInAll_19 : decode b_s_madeInAll 19 = .ok (.iinc 2 1, 3) := by decide +kernel
theorem z_s_madeInAll_22 : decode b_s_madeInAll 22 = .ok (.goto (-18), 3) := by decide +kernel
theorem z_s_madeInAll_25 : decode b_s_madeInAll 25 = .ok (.iload_n 1, 1) := by decide +kernel
theorem z_s_madeInAll_26 : decode b_s_madeInAll 26 = .ok (.ireturn, 1) := by decide +kernel
theorem z_s_openInAll_0 : decode b_s_openInAll 0 = .ok (.iconst 0, 1) := by decide +kernel
theorem z_s_openInAll_1 : decode b_s_openInAll 1 = .ok (.istore_n 1, 1) := by decide +kernel
theorem z_s_openInAll_2 : decode b_s_openInAll 2 = .ok (.iconst 0, 1) := by decide +kernel
theorem z_s_openInAll_3 : decode b_s_openInAll 3 = .ok (.istore_n 2, 1) := by decide +kernel
theorem z_s_openInAll_4 : decode b_s_openInAll 4 = .ok (.iload_n 2, 1) := by decide +kernel
theorem z_s_openInAll_5 : decode b_s_openInAll 5 = .ok (.bipush 8, 2) := by decide +kernel
theorem z_s_openInAll_7 : decode b_s_openInAll 7 = .ok (.if_icmp .ge 17, 3) := by decide +kernel
theorem z_s_openInAll_10 : decode b_s_openInAll 10 = .ok (.iload_n 1, 1) := by decide +kernel
theorem z_s_openInAll_11 : decode b_s_openInAll 11 = .ok (.aload_n 0, 1) := by decide +kernel
theorem z_s_openInAll_12 : decode b_s_openInAll 12 = .ok (.iload_n 2, 1) := by decide +kernel
theorem z_s_openInAll_13 : decode b_s_openInAll 13 = .ok (.invokevirtual 43, 3) := by decide +kernel
theorem z_s_openInAll_16 : decode b_s_openInAll 16 = .ok (.iadd, 1) := by decide +kernel
theorem z_s_openInAll_17 : decode b_s_openInAll 17 = .ok (.istore_n 1, 1) := by decide +kernel
theorem z_s_openInAll_18 : decode b_s_openInAll 18 = .ok (.iinc 2 1, 3) := by decide +kernel
theorem z_s_openInAll_21 : decode b_s_openInAll 21 = .ok (.goto (-17), 3) := by decide +kernel
theorem z_s_openInAll_24 : decode b_s_openInAll 24 = .ok (.iload_n 1, 1) := by decide +kernel
theorem z_s_openInAll_25 : decode b_s_openInAll 25 = .ok (.ireturn, 1) := by decide +kernel
end
section
theorem z_m_init_0 : decode b_m_init 0 = .ok (.aload_n 0, 1) := by decide +kernel
theorem z_m_init_1 : decode b_m_init 1 = .ok (.invokespecial 1, 3) := by decide +kernel
theorem z_m_init_4 : decode b_m_init 4 = .ok (.aload_n 0, 1) := by decide +kernel
theorem z_m_init_5 : decode b_m_init 5 = .ok (.bipush 8, 2) := by decide +kernel
theorem z_m_init_7 : decode b_m_init 7 = .ok (.newarray .int, 2) := by decide +kernel
theorem z_m_init_9 : decode b_m_init 9 = .ok (.dup, 1) := by decide +kernel
theorem z_m_init_10 : decode b_m_init 10 = .ok (.iconst 0, 1) := by decide +kernel
theorem z_m_init_11 : decode b_m_init 11 = .ok (.iconst (-1), 1) := by decide +kernel
theorem z_m_init_12 : decode b_m_init 12 = .ok (.iastore, 1) := by decide +kernel
theorem z_m_init_13 : decode b_m_init 13 = .ok (.dup, 1) := by decide +kernel
theorem z_m_init_14 : decode b_m_init 14 = .ok (.iconst 1, 1) := by decide +kernel
theorem z_m_init_15 : decode b_m_init 15 = .ok (.iconst (-1), 1) := by decide +kernel
theorem z_m_init_16 : decode b_m_init 16 = .ok (.iastore, 1) := by decide +kernel
theorem z_m_init_17 : decode b_m_init 17 = .ok (.dup, 1) := by decide +kernel
theorem z_m_init_18 : decode b_m_init 18 = .ok (.iconst 2, 1) := by decide +kernel
theorem z_m_init_19 : decode b_m_init 19 = .ok (.iconst (-1), 1) := by decide +kernel
theorem z_m_init_20 : decode b_m_init 20 = .ok (.iastore, 1) := by decide +kernel
theorem z_m_init_21 : decode b_m_init 21 = .ok (.dup, 1) := by decide +kernel
theorem z_m_init_22 : decode b_m_init 22 = .ok (.iconst 3, 1) := by decide +kernel
theorem z_m_init_23 : decode b_m_init 23 = .ok (.iconst (-1), 1) := by decide +kernel
theorem z_m_init_24 : decode b_m_init 24 = .ok (.iastore, 1) := by decide +kernel
theorem z_m_init_25 : decode b_m_init 25 = .ok (.dup, 1) := by decide +kernel
theorem z_m_init_26 : decode b_m_init 26 = .ok (.iconst 4, 1) := by decide +kernel
theorem z_m_init_27 : decode b_m_init 27 = .ok (.iconst (-1), 1) := by decide +kernel
theorem z_m_init_28 : decode b_m_init 28 = .ok (.iastore, 1) := by decide +kernel
theorem z_m_init_29 : decode b_m_init 29 = .ok (.dup, 1) := by decide +kernel
theorem z_m_init_30 : decode b_m_init 30 = .ok (.iconst 5, 1) := by decide +kernel
theorem z_m_init_31 : decode b_m_init 31 = .ok (.iconst (-1), 1) := by decide +kernel
theorem z_m_init_32 : decode b_m_init 32 = .ok (.iastore, 1) := by decide +kernel
theorem z_m_init_33 : decode b_m_init 33 = .ok (.dup, 1) := by decide +kernel
theorem z_m_init_34 : decode b_m_init 34 = .ok (.bipush 6, 2) := by decide +kernel
theorem z_m_init_36 : decode b_m_init 36 = .ok (.iconst (-1), 1) := by decide +kernel
theorem z_m_init_37 : decode b_m_init 37 = .ok (.iastore, 1) := by decide +kernel
theorem z_m_init_38 : decode b_m_init 38 = .ok (.dup, 1) := by decide +kernel
theorem z_m_init_39 : decode b_m_init 39 = .ok (.bipush 7, 2) := by decide +kernel
theorem z_m_init_41 : decode b_m_init 41 = .ok (.iconst (-1), 1) := by decide +kernel
theorem z_m_init_42 : decode b_m_init 42 = .ok (.iastore, 1) := by decide +kernel
theorem z_m_init_43 : decode b_m_init 43 = .ok (.putfield 7, 3) := by decide +kernel
theorem z_m_init_46 : decode b_m_init 46 = .ok (.aload_n 0, 1) := by decide +kernel
theorem z_m_init_47 : decode b_m_init 47 = .ok (.bipush 8, 2) := by decide +kernel
theorem z_m_init_49 : decode b_m_init 49 = .ok (.newarray .int, 2) := by decide +kernel
theorem z_m_init_51 : decode b_m_init 51 = .ok (.putfield 13, 3) := by decide +kernel
theorem z_m_init_54 : decode b_m_init 54 = .ok (.aload_n 0, 1) := by decide +kernel
theorem z_m_init_55 : decode b_m_init 55 = .ok (.sipush 240, 3) := by decide +kernel
theorem z_m_init_58 : decode b_m_init 58 = .ok (.newarray .int, 2) := by decide +kernel
theorem z_m_init_60 : decode b_m_init 60 = .ok (.putfield 16, 3) := by decide +kernel
theorem z_m_init_63 : decode b_m_init 63 = .ok (.aload_n 0, 1) := by decide +kernel
theorem z_m_init_64 : decode b_m_init 64 = .ok (.sipush 240, 3) := by decide +kernel
theorem z_m_init_67 : decode b_m_init 67 = .ok (.newarray .boolean, 2) := by decide +kernel
theorem z_m_init_69 : decode b_m_init 69 = .ok (.putfield 19, 3) := by decide +kernel
theorem z_m_init_72 : decode b_m_init 72 = .ok (.aload_n 0, 1) := by decide +kernel
theorem z_m_init_73 : decode b_m_init 73 = .ok (.sipush 240, 3) := by decide +kernel
theorem z_m_init_76 : decode b_m_init 76 = .ok (.newarray .long, 2) := by decide +kernel
theorem z_m_init_78 : decode b_m_init 78 = .ok (.putfield 23, 3) := by decide +kernel
theorem z_m_init_81 : decode b_m_init 81 = .ok (.aload_n 0, 1) := by decide +kernel
theorem z_m_init_82 : decode b_m_init 82 = .ok (.sipush 240, 3) := by decide +kernel
theorem z_m_init_85 : decode b_m_init 85 = .ok (.newarray .int, 2) := by decide +kernel
theorem z_m_init_87 : decode b_m_init 87 = .ok (.putfield 27, 3) := by decide +kernel
theorem z_m_init_90 : decode b_m_init 90 = .ok (.aload_n 0, 1) := by decide +kernel
theorem z_m_init_91 : decode b_m_init 91 = .ok (.sipush 3840, 3) := by decide +kernel
theorem z_m_init_94 : decode b_m_init 94 = .ok (.newarray .int, 2) := by decide +kernel
theorem z_m_init_96 : decode b_m_init 96 = .ok (.putfield 30, 3) := by decide +kernel
theorem z_m_init_99 : decode b_m_init 99 = .ok (.aload_n 0, 1) := by decide +kernel
theorem z_m_init_100 : decode b_m_init 100 = .ok (.bipush 64, 2) := by decide +kernel
theorem z_m_init_102 : decode b_m_init 102 = .ok (.newarray .int, 2) := by decide +kernel
theorem z_m_init_104 : decode b_m_init 104 = .ok (.putfield 33, 3) := by decide +kernel
theorem z_m_init_107 : decode b_m_init 107 = .ok (.aload_n 0, 1) := by decide +kernel
theorem z_m_init_108 : decode b_m_init 108 = .ok (.bipush 64, 2) := by decide +kernel
theorem z_m_init_110 : decode b_m_init 110 = .ok (.newarray .int, 2) := by decide +kernel
theorem z_m_init_112 : decode b_m_init 112 = .ok (.putfield 36, 3) := by decide +kernel
theorem z_m_init_115 : decode b_m_init 115 = .ok (.aload_n 0, 1) := by decide +kernel
theorem z_m_init_116 : decode b_m_init 116 = .ok (.bipush 64, 2) := by decide +kernel
theorem z_m_init_118 : decode b_m_init 118 = .ok (.newarray .int, 2) := by decide +kernel
theorem z_m_init_120 : decode b_m_init 120 = .ok (.putfield 39, 3) := by decide +kernel
theorem z_m_init_123 : decode b_m_init 123 = .ok (.aload_n 0, 1) := by decide +kernel
theorem z_m_init_124 : decode b_m_init 124 = .ok (.sipush 400, 3) := by decide +kernel
theorem z_m_init_127 : decode b_m_init 127 = .ok (.newarray .int, 2) := by decide +kernel
theorem z_m_init_129 : decode b_m_init 129 = .ok (.putfield 42, 3) := by decide +kernel
theorem z_m_init_132 : decode b_m_init 132 = .ok (.return_, 1) := by decide +kernel
theorem z_m_thrown_0 : decode b_m_thrown 0 = .ok (.aload_n 0, 1) := by decide +kernel
theorem z_m_thrown_1 : decode b_m_thrown 1 = .ok (.getfield 45, 3) := by decide +kernel
theorem z_m_thrown_4 : decode b_m_thrown 4 = .ok (.ireturn, 1) := by decide +kernel
theorem z_m_under_0 : decode b_m_under 0 = .ok (.iload_n 1, 1) := by decide +kernel
theorem z_m_under_1 : decode b_m_under 1 = .ok (.invokestatic 53, 3) := by decide +kernel
theorem z_m_under_4 : decode b_m_under 4 = .ok (.ifCond .eq 13, 3) := by decide +kernel
theorem z_m_under_7 : decode b_m_under 7 = .ok (.iload_n 2, 1) := by decide +kernel
theorem z_m_under_8 : decode b_m_under 8 = .ok (.iconst (-1), 1) := by decide +kernel
theorem z_m_under_9 : decode b_m_under 9 = .ok (.bipush 7, 2) := by decide +kernel
theorem z_m_under_11 : decode b_m_under 11 = .ok (.invokestatic 49, 3) := by decide +kernel
theorem z_m_under_14 : decode b_m_under 14 = .ok (.ifCond .ne 7, 3) := by decide +kernel
theorem z_m_under_17 : decode b_m_under 17 = .ok (.iconst 1, 1) := by decide +kernel
theorem z_m_under_18 : decode b_m_under 18 = .ok (.goto 4, 3) := by decide +kernel
theorem z_m_under_21 : decode b_m_under 21 = .ok (.iconst 0, 1) := by decide +kernel
theorem z_m_under_22 : decode b_m_under 22 = .ok (.istore_n 3, 1) := by decide +kernel
theorem z_m_under_23 : decode b_m_under 23 = .ok (.aload_n 0, 1) := by decide +kernel
theorem z_m_under_24 : decode b_m_under 24 = .ok (.iload_n 3, 1) := by decide +kernel
theorem z_m_under_25 : decode b_m_under 25 = .ok (.iload_n 3, 1) := by decide +kernel
theorem z_m_under_26 : decode b_m_under 26 = .ok (.ifCond .ne 29, 3) := by decide +kernel
theorem z_m_under_29 : decode b_m_under 29 = .ok (.aload_n 0, 1) := by decide +kernel
theorem z_m_under_30 : decode b_m_under 30 = .ok (.getfield 13, 3) := by decide +kernel
theorem z_m_under_33 : decode b_m_under 33 = .ok (.iload_n 1, 1) := by decide +kernel
theorem z_m_under_34 : decode b_m_under 34 = .ok (.iaload, 1) := by decide +kernel
theorem z_m_under_35 : decode b_m_under 35 = .ok (.ifCond .gt 16, 3) := by decide +kernel
theorem z_m_under_38 : decode b_m_under 38 = .ok (.iload_n 2, 1) := by decide +kernel
theorem z_m_under_39 : decode b_m_under 39 = .ok (.ifCond .lt 16, 3) := by decide +kernel
theorem z_m_under_42 : decode b_m_under 42 = .ok (.aload_n 0, 1) := by decide +kernel
theorem z_m_under_43 : decode b_m_under 43 = .ok (.iload_n 2, 1) := by decide +kernel
theorem z_m_under_44 : decode b_m_under 44 = .ok (.iload_n 1, 1) := by decide +kernel
theorem z_m_under_45 : decode b_m_under 45 = .ok (.invokevirtual 57, 3) := by decide +kernel
theorem z_m_under_48 : decode b_m_under 48 = .ok (.ifCond .eq 7, 3) := by decide +kernel
theorem z_m_under_51 : decode b_m_under 51 = .ok (.iconst 1, 1) := by decide +kernel
theorem z_m_under_52 : decode b_m_under 52 = .ok (.goto 4, 3) := by decide +kernel
theorem z_m_under_55 : decode b_m_under 55 = .ok (.iconst 0, 1) := by decide +kernel
theorem z_m_under_56 : decode b_m_under 56 = .ok (.iconst 0, 1) := by decide +kernel
theorem z_m_under_57 : decode b_m_under 57 = .ok (.iconst 0, 1) := by decide +kernel
theorem z_m_under_58 : decode b_m_under 58 = .ok (.invokevirtual 61, 3) := by decide +kernel
theorem z_m_under_61 : decode b_m_under 61 = .ok (.ifCond .eq 4, 3) := by decide +kernel
theorem z_m_under_64 : decode b_m_under 64 = .ok (.return_, 1) := by decide +kernel
theorem z_m_under_65 : decode b_m_under 65 = .ok (.aload_n 0, 1) := by decide +kernel
theorem z_m_under_66 : decode b_m_under 66 = .ok (.getfield 7, 3) := by decide +kernel
theorem z_m_under_69 : decode b_m_under 69 = .ok (.iload_n 1, 1) := by decide +kernel
theorem z_m_under_70 : decode b_m_under 70 = .ok (.iload_n 2, 1) := by decide +kernel
theorem z_m_under_71 : decode b_m_under 71 = .ok (.iastore, 1) := by decide +kernel
theorem z_m_under_72 : decode b_m_under 72 = .ok (.return_, 1) := by decide +kernel
theorem z_m_isKind_0 : decode b_m_isKind 0 = .ok (.iload_n 0, 1) := by decide +kernel
theorem z_m_isKind_1 : decode b_m_isKind 1 = .ok (.iconst 0, 1) := by decide +kernel
theorem z_m_isKind_2 : decode b_m_isKind 2 = .ok (.bipush 7, 2) := by decide +kernel
theorem z_m_isKind_4 : decode b_m_isKind 4 = .ok (.invokestatic 49, 3) := by decide +kernel
theorem z_m_isKind_7 : decode b_m_isKind 7 = .ok (.ireturn, 1) := by decide +kernel
theorem z_m_in_0 : decode b_m_in 0 = .ok (.iload_n 0, 1) := by decide +kernel
theorem z_m_in_1 : decode b_m_in 1 = .ok (.iload_n 1, 1) := by decide +kernel
theorem z_m_in_2 : decode b_m_in 2 = .ok (.if_icmp .lt 12, 3) := by decide +kernel
theorem z_m_in_5 : decode b_m_in 5 = .ok (.iload_n 0, 1) := by decide +kernel
theorem z_m_in_6 : decode b_m_in 6 = .ok (.iload_n 2, 1) := by decide +kernel
theorem z_m_in_7 : decode b_m_in 7 = .ok (.if_icmp .gt 7, 3) := by decide +kernel
theorem z_m_in_10 : decode b_m_in 10 = .ok (.iconst 1, 1) := by decide +kernel
theorem z_m_in_11 : decode b_m_in 11 = .ok (.goto 4, 3) := by decide +kernel
theorem z_m_in_14 : decode b_m_in 14 = .ok (.iconst 0, 1) := by decide +kernel
theorem z_m_in_15 : decode b_m_in 15 = .ok (.ireturn, 1) := by decide +kernel
theorem z_m_reaches_0 : decode b_m_reaches 0 = .ok (.iload_n 1, 1) := by decide +kernel
theorem z_m_reaches_1 : decode b_m_reaches 1 = .ok (.istore_n 3, 1) := by decide +kernel
theorem z_m_reaches_2 : decode b_m_reaches 2 = .ok (.iload_n 3, 1) := by decide +kernel
theorem z_m_reaches_3 : decode b_m_reaches 3 = .ok (.ifCond .lt 18, 3) := by decide +kernel
theorem z_m_reaches_6 : decode b_m_reaches 6 = .ok (.iload_n 3, 1) := by decide +kernel
theorem z_m_reaches_7 : decode b_m_reaches 7 = .ok (.iload_n 2, 1) := by decide +kernel
theorem z_m_reaches_8 : decode b_m_reaches 8 = .ok (.if_icmp .eq 13, 3) := by decide +kernel
theorem z_m_reaches_11 : decode b_m_reaches 11 = .ok (.aload_n 0, 1) := by decide +kernel
theorem z_m_reaches_12 : decode b_m_reaches 12 = .ok (.getfield 7, 3) := by decide +kernel
theorem z_m_reaches_15 : decode b_m_reaches 15 = .ok (.iload_n 3, 1) := by decide +kernel
theorem z_m_reaches_16 : decode b_m_reaches 16 = .ok (.iaload, 1) := by decide +kernel
theorem z_m_reaches_17 : decode b_m_reaches 17 = .ok (.istore_n 3, 1) := by decide +kernel
theorem z_m_reaches_18 : decode b_m_reaches 18 = .ok (.goto (-16), 3) := by decide +kernel
theorem z_m_reaches_21 : decode b_m_reaches 21 = .ok (.iload_n 3, 1) := by decide +kernel
theorem z_m_reaches_22 : decode b_m_reaches 22 = .ok (.iload_n 2, 1) := by decide +kernel
theorem z_m_reaches_23 : decode b_m_reaches 23 = .ok (.if_icmp .ne 7, 3) := by decide +kernel
theorem z_m_reaches_26 : decode b_m_reaches 26 = .ok (.iconst 1, 1) := by decide +kernel
theorem z_m_reaches_27 : decode b_m_reaches 27 = .ok (.goto 4, 3) := by decide +kernel
theorem z_m_reaches_30 : decode b_m_reaches 30 = .ok (.iconst 0, 1) := by decide +kernel
theorem z_m_reaches_31 : decode b_m_reaches 31 = .ok (.ireturn, 1) := by decide +kernel
theorem z_m_throwing_0 : decode b_m_throwing 0 = .ok (.aload_n 0, 1) := by decide +kernel
theorem z_m_throwing_1 : decode b_m_throwing 1 = .ok (.iload_n 1, 1) := by decide +kernel
theorem z_m_throwing_2 : decode b_m_throwing 2 = .ok (.ifCond .eq 7, 3) := by decide +kernel
theorem z_m_throwing_5 : decode b_m_throwing 5 = .ok (.iconst 1, 1) := by decide +kernel
theorem z_m_throwing_6 : decode b_m_throwing 6 = .ok (.goto 29, 3) := by decide +kernel
theorem z_m_throwing_9 : decode b_m_throwing 9 = .ok (.iload_n 2, 1) := by decide +kernel
theorem z_m_throwing_10 : decode b_m_throwing 10 = .ok (.ifCond .eq 7, 3) := by decide +kernel
theorem z_m_throwing_13 : decode b_m_throwing 13 = .ok (.iconst 2, 1) := by decide +kernel
theorem z_m_throwing_14 : decode b_m_throwing 14 = .ok (.goto 21, 3) := by decide +kernel
theorem z_m_throwing_17 : decode b_m_throwing 17 = .ok (.iload_n 3, 1) := by decide +kernel
theorem z_m_throwing_18 : decode b_m_throwing 18 = .ok (.ifCond .eq 7, 3) := by decide +kernel
theorem z_m_throwing_21 : decode b_m_throwing 21 = .ok (.iconst 3, 1) := by decide +kernel
theorem z_m_throwing_22 : decode b_m_throwing 22 = .ok (.goto 13, 3) := by decide +kernel
theorem z_m_throwing_25 : decode b_m_throwing 25 = .ok (.iload 4, 2) := by decide +kernel
theorem z_m_throwing_27 : decode b_m_throwing 27 = .ok (.ifCond .eq 7, 3) := by decide +kernel
theorem z_m_throwing_30 : decode b_m_throwing 30 = .ok (.iconst 4, 1) := by decide +kernel
theorem z_m_throwing_31 : decode b_m_throwing 31 = .ok (.goto 4, 3) := by decide +kernel
theorem z_m_throwing_34 : decode b_m_throwing 34 = .ok (.iconst 0, 1) := by decide +kernel
theorem z_m_throwing_35 : decode b_m_throwing 35 = .ok (.putfield 45, 3) := by decide +kernel
theorem z_m_throwing_38 : decode b_m_throwing 38 = .ok (.aload_n 0, 1) := by decide +kernel
theorem z_m_throwing_39 : decode b_m_throwing 39 = .ok (.getfield 45, 3) := by decide +kernel
theorem z_m_throwing_42 : decode b_m_throwing 42 = .ok (.ifCond .le 7, 3) := by decide +kernel
theorem z_m_throwing_45 : decode b_m_throwing 45 = .ok (.iconst 1, 1) := by decide +kernel
theorem z_m_throwing_46 : decode b_m_throwing 46 = .ok (.goto 4, 3) := by decide +kernel
theorem z_m_throwing_49 : decode b_m_throwing 49 = .ok (.iconst 0, 1) := by decide +kernel
theorem z_m_throwing_50 : decode b_m_throwing 50 = .ok (.ireturn, 1) := by decide +kernel
theorem z_m_make_0 : decode b_m_make 0 = .ok (.iload_n 1, 1) := by decide +kernel
theorem z_m_make_1 : decode b_m_make 1 = .ok (.invokestatic 53, 3) := by decide +kernel
theorem z_m_make_4 : decode b_m_make 4 = .ok (.ifCond .ne 7, 3) := by decide +kernel
theorem z_m_make_7 : decode b_m_make 7 = .ok (.iconst 1, 1) := by decide +kernel
theorem z_m_make_8 : decode b_m_make 8 = .ok (.goto 4, 3) := by decide +kernel
theorem z_m_make_11 : decode b_m_make 11 = .ok (.iconst 0, 1) := by decide +kernel
theorem z_m_make_12 : decode b_m_make 12 = .ok (.istore_n 3, 1) := by decide +kernel
theorem z_m_make_13 : decode b_m_make 13 = .ok (.iload_n 3, 1) := by decide +kernel
theorem z_m_make_14 : decode b_m_make 14 = .ok (.ifCond .ne 16, 3) := by decide +kernel
theorem z_m_make_17 : decode b_m_make 17 = .ok (.aload_n 0, 1) := by decide +kernel
theorem z_m_make_18 : decode b_m_make 18 = .ok (.getfield 7, 3) := by decide +kernel
theorem z_m_make_21 : decode b_m_make 21 = .ok (.iload_n 1, 1) := by decide +kernel
theorem z_m_make_22 : decode b_m_make 22 = .ok (.iaload, 1) := by decide +kernel
theorem z_m_make_23 : decode b_m_make 23 = .ok (.ifCond .lt 7, 3) := by decide +kernel
theorem z_m_make_26 : decode b_m_make 26 = .ok (.iconst 1, 1) := by decide +kernel
theorem z_m_make_27 : decode b_m_make 27 = .ok (.goto 4, 3) := by decide +kernel
theorem z_m_make_30 : decode b_m_make 30 = .ok (.iconst 0, 1) := by decide +kernel
theorem z_m_make_31 : decode b_m_make 31 = .ok (.istore 4, 2) := by decide +kernel
theorem z_m_make_33 : decode b_m_make 33 = .ok (.iload_n 3, 1) := by decide +kernel
theorem z_m_make_34 : decode b_m_make 34 = .ok (.ifCond .ne 30, 3) := by decide +kernel
theorem z_m_make_37 : decode b_m_make 37 = .ok (.iload 4, 2) := by decide +kernel
theorem z_m_make_39 : decode b_m_make 39 = .ok (.ifCond .eq 20, 3) := by decide +kernel
theorem z_m_make_42 : decode b_m_make 42 = .ok (.aload_n 0, 1) := by decide +kernel
theorem z_m_make_43 : decode b_m_make 43 = .ok (.aload_n 0, 1) := by decide +kernel
theorem z_m_make_44 : decode b_m_make 44 = .ok (.getfield 7, 3) := by decide +kernel
theorem z_m_make_47 : decode b_m_make 47 = .ok (.iload_n 1, 1) := by decide +kernel
theorem z_m_make_48 : decode b_m_make 48 = .ok (.iaload, 1) := by decide +kernel
theorem z_m_make_49 : decode b_m_make 49 = .ok (.iload_n 2, 1) := by decide +kernel
theorem z_m_make_50 : decode b_m_make 50 = .ok (.invokevirtual 65, 3) := by decide +kernel
theorem z_m_make_53 : decode b_m_make 53 = .ok (.ifCond .ne 15, 3) := by decide +kernel
theorem z_m_make_56 : decode b_m_make 56 = .ok (.goto 8, 3) := by decide +kernel
theorem z_m_make_59 : decode b_m_make 59 = .ok (.iload_n 2, 1) := by decide +kernel
theorem z_m_make_60 : decode b_m_make 60 = .ok (.iconst (-1), 1) := by decide +kernel
theorem z_m_make_61 : decode b_m_make 61 = .ok (.if_icmp .eq 7, 3) := by decide +kernel
theorem z_m_make_64 : decode b_m_make 64 = .ok (.iconst 1, 1) := by decide +kernel
theorem z_m_make_65 : decode b_m_make 65 = .ok (.goto 4, 3) := by decide +kernel
theorem z_m_make_68 : decode b_m_make 68 = .ok (.iconst 0, 1) := by decide +kernel
theorem z_m_make_69 : decode b_m_make 69 = .ok (.istore_n 3, 1) := by decide +kernel
theorem z_m_make_70 : decode b_m_make 70 = .ok (.aload_n 0, 1) := by decide +kernel
theorem z_m_make_71 : decode b_m_make 71 = .ok (.iload_n 3, 1) := by decide +kernel
theorem z_m_make_72 : decode b_m_make 72 = .ok (.iload_n 3, 1) := by decide +kernel
theorem z_m_make_73 : decode b_m_make 73 = .ok (.ifCond .ne 31, 3) := by decide +kernel
theorem z_m_make_76 : decode b_m_make 76 = .ok (.iload 4, 2) := by decide +kernel
theorem z_m_make_78 : decode b_m_make 78 = .ok (.ifCond .eq 26, 3) := by decide +kernel
theorem z_m_make_81 : decode b_m_make 81 = .ok (.aload_n 0, 1) := by decide +kernel
theorem z_m_make_82 : decode b_m_make 82 = .ok (.getfield 19, 3) := by decide +kernel
theorem z_m_make_85 : decode b_m_make 85 = .ok (.bipush 30, 2) := by decide +kernel
theorem z_m_make_87 : decode b_m_make 87 = .ok (.aload_n 0, 1) := by decide +kernel
theorem z_m_make_88 : decode b_m_make 88 = .ok (.getfield 7, 3) := by decide +kernel
theorem z_m_make_91 : decode b_m_make 91 = .ok (.iload_n 1, 1) := by decide +kernel
theorem z_m_make_92 : decode b_m_make 92 = .ok (.iaload, 1) := by decide +kernel
theorem z_m_make_93 : decode b_m_make 93 = .ok (.imul, 1) := by decide +kernel
theorem z_m_make_94 : decode b_m_make 94 = .ok (.iload_n 2, 1) := by decide +kernel
theorem z_m_make_95 : decode b_m_make 95 = .ok (.iadd, 1) := by decide +kernel
theorem z_m_make_96 : decode b_m_make 96 = .ok (.baload, 1) := by decide +kernel
theorem z_m_make_97 : decode b_m_make 97 = .ok (.ifCond .ne 7, 3) := by decide +kernel
theorem z_m_make_100 : decode b_m_make 100 = .ok (.iconst 1, 1) := by decide +kernel
theorem z_m_make_101 : decode b_m_make 101 = .ok (.goto 4, 3) := by decide +kernel
theorem z_m_make_104 : decode b_m_make 104 = .ok (.iconst 0, 1) := by decide +kernel
theorem z_m_make_105 : decode b_m_make 105 = .ok (.iload_n 3, 1) := by decide +kernel
theorem z_m_make_106 : decode b_m_make 106 = .ok (.ifCond .ne 18, 3) := by decide +kernel
theorem z_m_make_109 : decode b_m_make 109 = .ok (.aload_n 0, 1) := by decide +kernel
theorem z_m_make_110 : decode b_m_make 110 = .ok (.getfield 13, 3) := by decide +kernel
theorem z_m_make_113 : decode b_m_make 113 = .ok (.iload_n 1, 1) := by decide +kernel
theorem z_m_make_114 : decode b_m_make 114 = .ok (.iaload, 1) := by decide +kernel
theorem z_m_make_115 : decode b_m_make 115 = .ok (.bipush 30, 2) := by decide +kernel
theorem z_m_make_117 : decode b_m_make 117 = .ok (.if_icmp .ne 7, 3) := by decide +kernel
theorem z_m_make_120 : decode b_m_make 120 = .ok (.iconst 1, 1) := by decide +kernel
theorem z_m_make_121 : decode b_m_make 121 = .ok (.goto 4, 3) := by decide +kernel
theorem z_m_make_124 : decode b_m_make 124 = .ok (.iconst 0, 1) := by decide +kernel
theorem z_m_make_125 : decode b_m_make 125 = .ok (.iconst 0, 1) := by decide +kernel
theorem z_m_make_126 : decode b_m_make 126 = .ok (.invokevirtual 61, 3) := by decide +kernel
theorem z_m_make_129 : decode b_m_make 129 = .ok (.ifCond .eq 5, 3) := by decide +kernel
theorem z_m_make_132 : decode b_m_make 132 = .ok (.iconst 0, 1) := by decide +kernel
theorem z_m_make_133 : decode b_m_make 133 = .ok (.ireturn, 1) := by decide +kernel
theorem z_m_make_134 : decode b_m_make 134 = .ok (.bipush 30, 2) := by decide +kernel
theorem z_m_make_136 : decode b_m_make 136 = .ok (.iload_n 1, 1) := by decide +kernel
theorem z_m_make_137 : decode b_m_make 137 = .ok (.imul, 1) := by decide +kernel
theorem z_m_make_138 : decode b_m_make 138 = .ok (.aload_n 0, 1) := by decide +kernel
theorem z_m_make_139 : decode b_m_make 139 = .ok (.getfield 13, 3) := by decide +kernel
theorem z_m_make_142 : decode b_m_make 142 = .ok (.iload_n 1, 1) := by decide +kernel
theorem z_m_make_143 : decode b_m_make 143 = .ok (.iaload, 1) := by decide +kernel
theorem z_m_make_144 : decode b_m_make 144 = .ok (.iadd, 1) := by decide +kernel
theorem z_m_make_145 : decode b_m_make 145 = .ok (.istore 5, 2) := by decide +kernel
theorem z_m_make_147 : decode b_m_make 147 = .ok (.aload_n 0, 1) := by decide +kernel
theorem z_m_make_148 : decode b_m_make 148 = .ok (.getfield 16, 3) := by decide +kernel
theorem z_m_make_151 : decode b_m_make 151 = .ok (.iload 5, 2) := by decide +kernel
theorem z_m_make_153 : decode b_m_make 153 = .ok (.iload_n 2, 1) := by decide +kernel
theorem z_m_make_154 : decode b_m_make 154 = .ok (.iastore, 1) := by decide +kernel
theorem z_m_make_155 : decode b_m_make 155 = .ok (.aload_n 0, 1) := by decide +kernel
theorem z_m_make_156 : decode b_m_make 156 = .ok (.getfield 19, 3) := by decide +kernel
theorem z_m_make_159 : decode b_m_make 159 = .ok (.iload 5, 2) := by decide +kernel
theorem z_m_make_161 : decode b_m_make 161 = .ok (.iconst 1, 1) := by decide +kernel
theorem z_m_make_162 : decode b_m_make 162 = .ok (.bastore, 1) := by decide +kernel
theorem z_m_make_163 : decode b_m_make 163 = .ok (.aload_n 0, 1) := by decide +kernel
theorem z_m_make_164 : decode b_m_make 164 = .ok (.getfield 13, 3) := by decide +kernel
theorem z_m_make_167 : decode b_m_make 167 = .ok (.iload_n 1, 1) := by decide +kernel
theorem z_m_make_168 : decode b_m_make 168 = .ok (.dup2, 1) := by decide +kernel
theorem z_m_make_169 : decode b_m_make 169 = .ok (.iaload, 1) := by decide +kernel
theorem z_m_make_170 : decode b_m_make 170 = .ok (.iconst 1, 1) := by decide +kernel
theorem z_m_make_171 : decode b_m_make 171 = .ok (.iadd, 1) := by decide +kernel
theorem z_m_make_172 : decode b_m_make 172 = .ok (.iastore, 1) := by decide +kernel
theorem z_m_make_173 : decode b_m_make 173 = .ok (.aload_n 0, 1) := by decide +kernel
theorem z_m_make_174 : decode b_m_make 174 = .ok (.getfield 13, 3) := by decide +kernel
theorem z_m_make_177 : decode b_m_make 177 = .ok (.iload_n 1, 1) := by decide +kernel
theorem z_m_make_178 : decode b_m_make 178 = .ok (.iaload, 1) := by decide +kernel
theorem z_m_make_179 : decode b_m_make 179 = .ok (.iconst 1, 1) := by decide +kernel
theorem z_m_make_180 : decode b_m_make 180 = .ok (.isub, 1) := by decide +kernel
theorem z_m_make_181 : decode b_m_make 181 = .ok (.ireturn, 1) := by decide +kernel
theorem z_m_isSubject_0 : decode b_m_isSubject 0 = .ok (.iload_n 1, 1) := by decide +kernel
theorem z_m_isSubject_1 : decode b_m_isSubject 1 = .ok (.invokestatic 53, 3) := by decide +kernel
theorem z_m_isSubject_4 : decode b_m_isSubject 4 = .ok (.ifCond .eq 23, 3) := by decide +kernel
theorem z_m_isSubject_7 : decode b_m_isSubject 7 = .ok (.iload_n 2, 1) := by decide +kernel
theorem z_m_isSubject_8 : decode b_m_isSubject 8 = .ok (.iconst 0, 1) := by decide +kernel
theorem z_m_isSubject_9 : decode b_m_isSubject 9 = .ok (.aload_n 0, 1) := by decide +kernel
theorem z_m_isSubject_10 : decode b_m_isSubject 10 = .ok (.getfield 13, 3) := by decide +kernel
theorem z_m_isSubject_13 : decode b_m_isSubject 13 = .ok (.iload_n 1, 1) := by decide +kernel
theorem z_m_isSubject_14 : decode b_m_isSubject 14 = .ok (.iaload, 1) := by decide +kernel
theorem z_m_isSubject_15 : decode b_m_isSubject 15 = .ok (.iconst 1, 1) := by decide +kernel
theorem z_m_isSubject_16 : decode b_m_isSubject 16 = .ok (.isub, 1) := by decide +kernel
theorem z_m_isSubject_17 : decode b_m_isSubject 17 = .ok (.invokestatic 49, 3) := by decide +kernel
theorem z_m_isSubject_20 : decode b_m_isSubject 20 = .ok (.ifCond .eq 7, 3) := by decide +kernel
theorem z_m_isSubject_23 : decode b_m_isSubject 23 = .ok (.iconst 1, 1) := by decide +kernel
theorem z_m_isSubject_24 : decode b_m_isSubject 24 = .ok (.goto 4, 3) := by decide +kernel
theorem z_m_isSubject_27 : decode b_m_isSubject 27 = .ok (.iconst 0, 1) := by decide +kernel
theorem z_m_isSubject_28 : decode b_m_isSubject 28 = .ok (.ireturn, 1) := by decide +kernel
theorem z_m_verb_0 : decode b_m_verb 0 = .ok (.iload_n 1, 1) := by decide +kernel
theorem z_m_verb_1 : decode b_m_verb 1 = .ok (.invokestatic 53, 3) := by decide +kernel
theorem z_m_verb_4 : decode b_m_verb 4 = .ok (.ifCond .eq 23, 3) := by decide +kernel
theorem z_m_verb_7 : decode b_m_verb 7 = .ok (.iload_n 2, 1) := by decide +kernel
theorem z_m_verb_8 : decode b_m_verb 8 = .ok (.iconst 0, 1) := by decide +kernel
theorem z_m_verb_9 : decode b_m_verb 9 = .ok (.bipush 7, 2) := by decide +kernel
theorem z_m_verb_11 : decode b_m_verb 11 = .ok (.invokestatic 49, 3) := by decide +kernel
theorem z_m_verb_14 : decode b_m_verb 14 = .ok (.ifCond .eq 13, 3) := by decide +kernel
theorem z_m_verb_17 : decode b_m_verb 17 = .ok (.iload_n 3, 1) := by decide +kernel
theorem z_m_verb_18 : decode b_m_verb 18 = .ok (.iconst 0, 1) := by decide +kernel
theorem z_m_verb_19 : decode b_m_verb 19 = .ok (.bipush 7, 2) := by decide +kernel
theorem z_m_verb_21 : decode b_m_verb 21 = .ok (.invokestatic 49, 3) := by decide +kernel
theorem z_m_verb_24 : decode b_m_verb 24 = .ok (.ifCond .ne 7, 3) := by decide +kernel
theorem z_m_verb_27 : decode b_m_verb 27 = .ok (.iconst 1, 1) := by decide +kernel
theorem z_m_verb_28 : decode b_m_verb 28 = .ok (.goto 4, 3) := by decide +kernel
theorem z_m_verb_31 : decode b_m_verb 31 = .ok (.iconst 0, 1) := by decide +kernel
theorem z_m_verb_32 : decode b_m_verb 32 = .ok (.istore 6, 2) := by decide +kernel
theorem z_m_verb_34 : decode b_m_verb 34 = .ok (.aload_n 0, 1) := by decide +kernel
theorem z_m_verb_35 : decode b_m_verb 35 = .ok (.iload 6, 2) := by decide +kernel
theorem z_m_verb_37 : decode b_m_verb 37 = .ok (.iload 4, 2) := by decide +kernel
theorem z_m_verb_39 : decode b_m_verb 39 = .ok (.sipush (-1000), 3) := by decide +kernel
theorem z_m_verb_42 : decode b_m_verb 42 = .ok (.sipush 1000, 3) := by decide +kernel
theorem z_m_verb_45 : decode b_m_verb 45 = .ok (.invokestatic 49, 3) := by decide +kernel
theorem z_m_verb_48 : decode b_m_verb 48 = .ok (.ifCond .eq 17, 3) := by decide +kernel
theorem z_m_verb_51 : decode b_m_verb 51 = .ok (.iload 5, 2) := by decide +kernel
theorem z_m_verb_53 : decode b_m_verb 53 = .ok (.sipush (-1000), 3) := by decide +kernel
theorem z_m_verb_56 : decode b_m_verb 56 = .ok (.sipush 1000, 3) := by decide +kernel
theorem z_m_verb_59 : decode b_m_verb 59 = .ok (.invokestatic 49, 3) := by decide +kernel
theorem z_m_verb_62 : decode b_m_verb 62 = .ok (.ifCond .ne 7, 3) := by decide +kernel
theorem z_m_verb_65 : decode b_m_verb 65 = .ok (.iconst 1, 1) := by decide +kernel
theorem z_m_verb_66 : decode b_m_verb 66 = .ok (.goto 4, 3) := by decide +kernel
theorem z_m_verb_69 : decode b_m_verb 69 = .ok (.iconst 0, 1) := by decide +kernel
theorem z_m_verb_70 : decode b_m_verb 70 = .ok (.iconst 0, 1) := by decide +kernel
theorem z_m_verb_71 : decode b_m_verb 71 = .ok (.iconst 0, 1) := by decide +kernel
theorem z_m_verb_72 : decode b_m_verb 72 = .ok (.invokevirtual 61, 3) := by decide +kernel
theorem z_m_verb_75 : decode b_m_verb 75 = .ok (.ifCond .eq 4, 3) := by decide +kernel
theorem z_m_verb_78 : decode b_m_verb 78 = .ok (.return_, 1) := by decide +kernel
theorem z_m_verb_79 : decode b_m_verb 79 = .ok (.aload_n 0, 1) := by decide +kernel
theorem z_m_verb_80 : decode b_m_verb 80 = .ok (.getfield 33, 3) := by decide +kernel
theorem z_m_verb_83 : decode b_m_verb 83 = .ok (.bipush 8, 2) := by decide +kernel
theorem z_m_verb_85 : decode b_m_verb 85 = .ok (.iload_n 1, 1) := by decide +kernel
theorem z_m_verb_86 : decode b_m_verb 86 = .ok (.imul, 1) := by decide +kernel
theorem z_m_verb_87 : decode b_m_verb 87 = .ok (.iload_n 2, 1) := by decide +kernel
theorem z_m_verb_88 : decode b_m_verb 88 = .ok (.iadd, 1) := by decide +kernel
theorem z_m_verb_89 : decode b_m_verb 89 = .ok (.iload_n 3, 1) := by decide +kernel
theorem z_m_verb_90 : decode b_m_verb 90 = .ok (.iastore, 1) := by decide +kernel
theorem z_m_verb_91 : decode b_m_verb 91 = .ok (.aload_n 0, 1) := by decide +kernel
theorem z_m_verb_92 : decode b_m_verb 92 = .ok (.getfield 36, 3) := by decide +kernel
theorem z_m_verb_95 : decode b_m_verb 95 = .ok (.bipush 8, 2) := by decide +kernel
theorem z_m_verb_97 : decode b_m_verb 97 = .ok (.iload_n 1, 1) := by decide +kernel
theorem z_m_verb_98 : decode b_m_verb 98 = .ok (.imul, 1) := by decide +kernel
theorem z_m_verb_99 : decode b_m_verb 99 = .ok (.iload_n 2, 1) := by decide +kernel
theorem z_m_verb_100 : decode b_m_verb 100 = .ok (.iadd, 1) := by decide +kernel
theorem z_m_verb_101 : decode b_m_verb 101 = .ok (.iload 4, 2) := by decide +kernel
theorem z_m_verb_103 : decode b_m_verb 103 = .ok (.iastore, 1) := by decide +kernel
theorem z_m_verb_104 : decode b_m_verb 104 = .ok (.aload_n 0, 1) := by decide +kernel
theorem z_m_verb_105 : decode b_m_verb 105 = .ok (.getfield 39, 3) := by decide +kernel
theorem z_m_verb_108 : decode b_m_verb 108 = .ok (.bipush 8, 2) := by decide +kernel
theorem z_m_verb_110 : decode b_m_verb 110 = .ok (.iload_n 1, 1) := by decide +kernel
theorem z_m_verb_111 : decode b_m_verb 111 = .ok (.imul, 1) := by decide +kernel
theorem z_m_verb_112 : decode b_m_verb 112 = .ok (.iload_n 2, 1) := by decide +kernel
theorem z_m_verb_113 : decode b_m_verb 113 = .ok (.iadd, 1) := by decide +kernel
theorem z_m_verb_114 : decode b_m_verb 114 = .ok (.iload 5, 2) := by decide +kernel
theorem z_m_verb_116 : decode b_m_verb 116 = .ok (.iastore, 1) := by decide +kernel
theorem z_m_verb_117 : decode b_m_verb 117 = .ok (.return_, 1) := by decide +kernel
theorem z_m_call_0 : decode b_m_call 0 = .ok (.aload_n 0, 1) := by decide +kernel
theorem z_m_call_1 : decode b_m_call 1 = .ok (.iload_n 1, 1) := by decide +kernel
theorem z_m_call_2 : decode b_m_call 2 = .ok (.iload_n 2, 1) := by decide +kernel
theorem z_m_call_3 : decode b_m_call 3 = .ok (.iload_n 3, 1) := by decide +kernel
theorem z_m_call_4 : decode b_m_call 4 = .ok (.iload 4, 2) := by decide +kernel
theorem z_m_call_6 : decode b_m_call 6 = .ok (.invokevirtual 115, 3) := by decide +kernel
theorem z_m_call_9 : decode b_m_call 9 = .ok (.ifCond .eq 19, 3) := by decide +kernel
theorem z_m_call_12 : decode b_m_call 12 = .ok (.aload_n 0, 1) := by decide +kernel
theorem z_m_call_13 : decode b_m_call 13 = .ok (.iload_n 1, 1) := by decide +kernel
theorem z_m_call_14 : decode b_m_call 14 = .ok (.iload_n 2, 1) := by decide +kernel
theorem z_m_call_15 : decode b_m_call 15 = .ok (.iload_n 3, 1) := by decide +kernel
theorem z_m_call_16 : decode b_m_call 16 = .ok (.bipush 12, 2) := by decide +kernel
theorem z_m_call_18 : decode b_m_call 18 = .ok (.aload_n 0, 1) := by decide +kernel
theorem z_m_call_19 : decode b_m_call 19 = .ok (.getfield 45, 3) := by decide +kernel
theorem z_m_call_22 : decode b_m_call 22 = .ok (.iadd, 1) := by decide +kernel
theorem z_m_call_23 : decode b_m_call 23 = .ok (.invokevirtual 119, 3) := by decide +kernel
theorem z_m_call_26 : decode b_m_call 26 = .ok (.lconst 0, 1) := by decide +kernel
theorem z_m_call_27 : decode b_m_call 27 = .ok (.lreturn, 1) := by decide +kernel
theorem z_m_call_28 : decode b_m_call 28 = .ok (.aload_n 0, 1) := by decide +kernel
theorem z_m_call_29 : decode b_m_call 29 = .ok (.iload_n 1, 1) := by decide +kernel
theorem z_m_call_30 : decode b_m_call 30 = .ok (.iload_n 2, 1) := by decide +kernel
theorem z_m_call_31 : decode b_m_call 31 = .ok (.iload_n 3, 1) := by decide +kernel
theorem z_m_call_32 : decode b_m_call 32 = .ok (.iload 4, 2) := by decide +kernel
theorem z_m_call_34 : decode b_m_call 34 = .ok (.invokevirtual 123, 3) := by decide +kernel
theorem z_m_call_37 : decode b_m_call 37 = .ok (.lstore 5, 2) := by decide +kernel
theorem z_m_call_39 : decode b_m_call 39 = .ok (.lload 5, 2) := by decide +kernel
theorem z_m_call_41 : decode b_m_call 41 = .ok (.ldc2_w 127, 3) := by decide +kernel
theorem z_m_call_44 : decode b_m_call 44 = .ok (.lcmp, 1) := by decide +kernel
theorem z_m_call_45 : decode b_m_call 45 = .ok (.ifCond .gt 7, 3) := by decide +kernel
theorem z_m_call_48 : decode b_m_call 48 = .ok (.iconst 1, 1) := by decide +kernel
theorem z_m_call_49 : decode b_m_call 49 = .ok (.goto 4, 3) := by decide +kernel
theorem z_m_call_52 : decode b_m_call 52 = .ok (.iconst 0, 1) := by decide +kernel
theorem z_m_call_53 : decode b_m_call 53 = .ok (.istore 7, 2) := by decide +kernel
theorem z_m_call_55 : decode b_m_call 55 = .ok (.aload_n 0, 1) := by decide +kernel
theorem z_m_call_56 : decode b_m_call 56 = .ok (.iload_n 1, 1) := by decide +kernel
theorem z_m_call_57 : decode b_m_call 57 = .ok (.iload_n 2, 1) := by decide +kernel
theorem z_m_call_58 : decode b_m_call 58 = .ok (.iload_n 3, 1) := by decide +kernel
theorem z_m_call_59 : decode b_m_call 59 = .ok (.iload 7, 2) := by decide +kernel
theorem z_m_call_61 : decode b_m_call 61 = .ok (.ifCond .eq 13, 3) := by decide +kernel
theorem z_m_call_64 : decode b_m_call 64 = .ok (.ldc2_w 127, 3) := by decide +kernel
theorem z_m_call_67 : decode b_m_call 67 = .ok (.lload 5, 2) := by decide +kernel
theorem z_m_call_69 : decode b_m_call 69 = .ok (.lsub, 1) := by decide +kernel
theorem z_m_call_70 : decode b_m_call 70 = .ok (.l2i, 1) := by decide +kernel
theorem z_m_call_71 : decode b_m_call 71 = .ok (.goto 4, 3) := by decide +kernel
theorem z_m_call_74 : decode b_m_call 74 = .ok (.iconst 0, 1) := by decide +kernel
theorem z_m_call_75 : decode b_m_call 75 = .ok (.invokevirtual 119, 3) := by decide +kernel
theorem z_m_call_78 : decode b_m_call 78 = .ok (.iload 7, 2) := by decide +kernel
theorem z_m_call_80 : decode b_m_call 80 = .ok (.ifCond .ne 23, 3) := by decide +kernel
theorem z_m_call_83 : decode b_m_call 83 = .ok (.aload_n 0, 1) := by decide +kernel
theorem z_m_call_84 : decode b_m_call 84 = .ok (.getfield 78, 3) := by decide +kernel
theorem z_m_call_87 : decode b_m_call 87 = .ok (.ifCond .lt 16, 3) := by decide +kernel
theorem z_m_call_90 : decode b_m_call 90 = .ok (.aload_n 0, 1) := by decide +kernel
theorem z_m_call_91 : decode b_m_call 91 = .ok (.getfield 23, 3) := by decide +kernel
theorem z_m_call_94 : decode b_m_call 94 = .ok (.aload_n 0, 1) := by decide +kernel
theorem z_m_call_95 : decode b_m_call 95 = .ok (.getfield 78, 3) := by decide +kernel
theorem z_m_call_98 : decode b_m_call 98 = .ok (.aload_n 0, 1) := by decide +kernel
theorem z_m_call_99 : decode b_m_call 99 = .ok (.getfield 81, 3) := by decide +kernel
theorem z_m_call_102 : decode b_m_call 102 = .ok (.lastore, 1) := by decide +kernel
theorem z_m_call_103 : decode b_m_call 103 = .ok (.iload 7, 2) := by decide +kernel
theorem z_m_call_105 : decode b_m_call 105 = .ok (.ifCond .ne 31, 3) := by decide +kernel
theorem z_m_call_108 : decode b_m_call 108 = .ok (.aload_n 0, 1) := by decide +kernel
theorem z_m_call_109 : decode b_m_call 109 = .ok (.getfield 33, 3) := by decide +kernel
theorem z_m_call_112 : decode b_m_call 112 = .ok (.bipush 8, 2) := by decide +kernel
theorem z_m_call_114 : decode b_m_call 114 = .ok (.iload_n 1, 1) := by decide +kernel
theorem z_m_call_115 : decode b_m_call 115 = .ok (.imul, 1) := by decide +kernel
theorem z_m_call_116 : decode b_m_call 116 = .ok (.iload_n 3, 1) := by decide +kernel
theorem z_m_call_117 : decode b_m_call 117 = .ok (.iadd, 1) := by decide +kernel
theorem z_m_call_118 : decode b_m_call 118 = .ok (.iaload, 1) := by decide +kernel
theorem z_m_call_119 : decode b_m_call 119 = .ok (.bipush 7, 2) := by decide +kernel
theorem z_m_call_121 : decode b_m_call 121 = .ok (.if_icmp .ne 15, 3) := by decide +kernel
theorem z_m_call_124 : decode b_m_call 124 = .ok (.aload_n 0, 1) := by decide +kernel
theorem z_m_call_125 : decode b_m_call 125 = .ok (.getfield 19, 3) := by decide +kernel
theorem z_m_call_128 : decode b_m_call 128 = .ok (.bipush 30, 2) := by decide +kernel
theorem z_m_call_130 : decode b_m_call 130 = .ok (.iload_n 1, 1) := by decide +kernel
theorem z_m_call_131 : decode b_m_call 131 = .ok (.imul, 1) := by decide +kernel
theorem z_m_call_132 : decode b_m_call 132 = .ok (.iload_n 2, 1) := by decide +kernel
theorem z_m_call_133 : decode b_m_call 133 = .ok (.iadd, 1) := by decide +kernel
theorem z_m_call_134 : decode b_m_call 134 = .ok (.iconst 0, 1) := by decide +kernel
theorem z_m_call_135 : decode b_m_call 135 = .ok (.bastore, 1) := by decide +kernel
theorem z_m_call_136 : decode b_m_call 136 = .ok (.lload 5, 2) := by decide +kernel
theorem z_m_call_138 : decode b_m_call 138 = .ok (.lreturn, 1) := by decide +kernel
theorem z_m_refuses_0 : decode b_m_refuses 0 = .ok (.aload_n 0, 1) := by decide +kernel
theorem z_m_refuses_1 : decode b_m_refuses 1 = .ok (.iload_n 1, 1) := by decide +kernel
theorem z_m_refuses_2 : decode b_m_refuses 2 = .ok (.iload_n 2, 1) := by decide +kernel
theorem z_m_refuses_3 : decode b_m_refuses 3 = .ok (.invokevirtual 65, 3) := by decide +kernel
theorem z_m_refuses_6 : decode b_m_refuses 6 = .ok (.ifCond .eq 13, 3) := by decide +kernel
theorem z_m_refuses_9 : decode b_m_refuses 9 = .ok (.iload_n 3, 1) := by decide +kernel
theorem z_m_refuses_10 : decode b_m_refuses 10 = .ok (.iconst 0, 1) := by decide +kernel
theorem z_m_refuses_11 : decode b_m_refuses 11 = .ok (.bipush 7, 2) := by decide +kernel
theorem z_m_refuses_13 : decode b_m_refuses 13 = .ok (.invokestatic 49, 3) := by decide +kernel
theorem z_m_refuses_16 : decode b_m_refuses 16 = .ok (.ifCond .ne 7, 3) := by decide +kernel
theorem z_m_refuses_19 : decode b_m_refuses 19 = .ok (.iconst 1, 1) := by decide +kernel
theorem z_m_refuses_20 : decode b_m_refuses 20 = .ok (.goto 4, 3) := by decide +kernel
theorem z_m_refuses_23 : decode b_m_refuses 23 = .ok (.iconst 0, 1) := by decide +kernel
theorem z_m_refuses_24 : decode b_m_refuses 24 = .ok (.istore 5, 2) := by decide +kernel
theorem z_m_refuses_26 : decode b_m_refuses 26 = .ok (.iload 5, 2) := by decide +kernel
theorem z_m_refuses_28 : decode b_m_refuses 28 = .ok (.ifCond .ne 17, 3) := by decide +kernel
theorem z_m_refuses_31 : decode b_m_refuses 31 = .ok (.aload_n 0, 1) := by decide +kernel
theorem z_m_refuses_32 : decode b_m_refuses 32 = .ok (.getfield 33, 3) := by decide +kernel
theorem z_m_refuses_35 : decode b_m_refuses 35 = .ok (.bipush 8, 2) := by decide +kernel
theorem z_m_refuses_37 : decode b_m_refuses 37 = .ok (.iload_n 1, 1) := by decide +kernel
theorem z_m_refuses_38 : decode b_m_refuses 38 = .ok (.imul, 1) := by decide +kernel
theorem z_m_refuses_39 : decode b_m_refuses 39 = .ok (.iload_n 3, 1) := by decide +kernel
theorem z_m_refuses_40 : decode b_m_refuses 40 = .ok (.iadd, 1) := by decide +kernel
theorem z_m_refuses_41 : decode b_m_refuses 41 = .ok (.iaload, 1) := by decide +kernel
theorem z_m_refuses_42 : decode b_m_refuses 42 = .ok (.ifCond .ne 7, 3) := by decide +kernel
theorem z_m_refuses_45 : decode b_m_refuses 45 = .ok (.iconst 1, 1) := by decide +kernel
theorem z_m_refuses_46 : decode b_m_refuses 46 = .ok (.goto 4, 3) := by decide +kernel
theorem z_m_refuses_49 : decode b_m_refuses 49 = .ok (.iconst 0, 1) := by decide +kernel
theorem z_m_refuses_50 : decode b_m_refuses 50 = .ok (.istore 5, 2) := by decide +kernel
theorem z_m_refuses_52 : decode b_m_refuses 52 = .ok (.aload_n 0, 1) := by decide +kernel
theorem z_m_refuses_53 : decode b_m_refuses 53 = .ok (.iload 5, 2) := by decide +kernel
theorem z_m_refuses_55 : decode b_m_refuses 55 = .ok (.iload 4, 2) := by decide +kernel
theorem z_m_refuses_57 : decode b_m_refuses 57 = .ok (.ldc 113, 2) := by decide +kernel
theorem z_m_refuses_59 : decode b_m_refuses 59 = .ok (.ldc 114, 2) := by decide +kernel
theorem z_m_refuses_61 : decode b_m_refuses 61 = .ok (.invokestatic 49, 3) := by decide +kernel
theorem z_m_refuses_64 : decode b_m_refuses 64 = .ok (.ifCond .ne 7, 3) := by decide +kernel
theorem z_m_refuses_67 : decode b_m_refuses 67 = .ok (.iconst 1, 1) := by decide +kernel
theorem z_m_refuses_68 : decode b_m_refuses 68 = .ok (.goto 4, 3) := by decide +kernel
theorem z_m_refuses_71 : decode b_m_refuses 71 = .ok (.iconst 0, 1) := by decide +kernel
theorem z_m_refuses_72 : decode b_m_refuses 72 = .ok (.iload 5, 2) := by decide +kernel
theorem z_m_refuses_74 : decode b_m_refuses 74 = .ok (.ifCond .ne 30, 3) := by decide +kernel
theorem z_m_refuses_77 : decode b_m_refuses 77 = .ok (.aload_n 0, 1) := by decide +kernel
theorem z_m_refuses_78 : decode b_m_refuses 78 = .ok (.getfield 19, 3) := by decide +kernel
theorem z_m_refuses_81 : decode b_m_refuses 81 = .ok (.iload 5, 2) := by decide +kernel
theorem z_m_refuses_83 : decode b_m_refuses 83 = .ok (.ifCond .eq 7, 3) := by decide +kernel
theorem z_m_refuses_86 : decode b_m_refuses 86 = .ok (.iconst 0, 1) := by decide +kernel
theorem z_m_refuses_87 : decode b_m_refuses 87 = .ok (.goto 9, 3) := by decide +kernel
theorem z_m_refuses_90 : decode b_m_refuses 90 = .ok (.bipush 30, 2) := by decide +kernel
theorem z_m_refuses_92 : decode b_m_refuses 92 = .ok (.iload_n 1, 1) := by decide +kernel
theorem z_m_refuses_93 : decode b_m_refuses 93 = .ok (.imul, 1) := by decide +kernel
theorem z_m_refuses_94 : decode b_m_refuses 94 = .ok (.iload_n 2, 1) := by decide +kernel
theorem z_m_refuses_95 : decode b_m_refuses 95 = .ok (.iadd, 1) := by decide +kernel
theorem z_m_refuses_96 : decode b_m_refuses 96 = .ok (.baload, 1) := by decide +kernel
theorem z_m_refuses_97 : decode b_m_refuses 97 = .ok (.ifCond .ne 7, 3) := by decide +kernel
theorem z_m_refuses_100 : decode b_m_refuses 100 = .ok (.iconst 1, 1) := by decide +kernel
theorem z_m_refuses_101 : decode b_m_refuses 101 = .ok (.goto 4, 3) := by decide +kernel
theorem z_m_refuses_104 : decode b_m_refuses 104 = .ok (.iconst 0, 1) := by decide +kernel
theorem z_m_refuses_105 : decode b_m_refuses 105 = .ok (.iconst 0, 1) := by decide +kernel
theorem z_m_refuses_106 : decode b_m_refuses 106 = .ok (.invokevirtual 61, 3) := by decide +kernel
theorem z_m_refuses_109 : decode b_m_refuses 109 = .ok (.ireturn, 1) := by decide +kernel
theorem z_m_tell_0 : decode b_m_tell 0 = .ok (.aload_n 0, 1) := by decide +kernel
theorem z_m_tell_1 : decode b_m_tell 1 = .ok (.dup, 1) := by decide +kernel
theorem z_m_tell_2 : decode b_m_tell 2 = .ok (.getfield 107, 3) := by decide +kernel
theorem z_m_tell_5 : decode b_m_tell 5 = .ok (.iconst 1, 1) := by decide +kernel
theorem z_m_tell_6 : decode b_m_tell 6 = .ok (.iadd, 1) := by decide +kernel
theorem z_m_tell_7 : decode b_m_tell 7 = .ok (.putfield 107, 3) := by decide +kernel
theorem z_m_tell_10 : decode b_m_tell 10 = .ok (.iload 4, 2) := by decide +kernel
theorem z_m_tell_12 : decode b_m_tell 12 = .ok (.ifCond .eq 12, 3) := by decide +kernel
theorem z_m_tell_15 : decode b_m_tell 15 = .ok (.aload_n 0, 1) := by decide +kernel
theorem z_m_tell_16 : decode b_m_tell 16 = .ok (.getfield 110, 3) := by decide +kernel
theorem z_m_tell_19 : decode b_m_tell 19 = .ok (.bipush 80, 2) := by decide +kernel
theorem z_m_tell_21 : decode b_m_tell 21 = .ok (.if_icmp .ne 4, 3) := by decide +kernel
theorem z_m_tell_24 : decode b_m_tell 24 = .ok (.return_, 1) := by decide +kernel
theorem z_m_tell_25 : decode b_m_tell 25 = .ok (.aload_n 0, 1) := by decide +kernel
theorem z_m_tell_26 : decode b_m_tell 26 = .ok (.getfield 42, 3) := by decide +kernel
theorem z_m_tell_29 : decode b_m_tell 29 = .ok (.iconst 5, 1) := by decide +kernel
theorem z_m_tell_30 : decode b_m_tell 30 = .ok (.aload_n 0, 1) := by decide +kernel
theorem z_m_tell_31 : decode b_m_tell 31 = .ok (.getfield 110, 3) := by decide +kernel
theorem z_m_tell_34 : decode b_m_tell 34 = .ok (.imul, 1) := by decide +kernel
theorem z_m_tell_35 : decode b_m_tell 35 = .ok (.aload_n 0, 1) := by decide +kernel
theorem z_m_tell_36 : decode b_m_tell 36 = .ok (.getfield 107, 3) := by decide +kernel
theorem z_m_tell_39 : decode b_m_tell 39 = .ok (.iastore, 1) := by decide +kernel
theorem z_m_tell_40 : decode b_m_tell 40 = .ok (.aload_n 0, 1) := by decide +kernel
theorem z_m_tell_41 : decode b_m_tell 41 = .ok (.getfield 42, 3) := by decide +kernel
theorem z_m_tell_44 : decode b_m_tell 44 = .ok (.iconst 5, 1) := by decide +kernel
theorem z_m_tell_45 : decode b_m_tell 45 = .ok (.aload_n 0, 1) := by decide +kernel
theorem z_m_tell_46 : decode b_m_tell 46 = .ok (.getfield 110, 3) := by decide +kernel
theorem z_m_tell_49 : decode b_m_tell 49 = .ok (.imul, 1) := by decide +kernel
theorem z_m_tell_50 : decode b_m_tell 50 = .ok (.iconst 1, 1) := by decide +kernel
theorem z_m_tell_51 : decode b_m_tell 51 = .ok (.iadd, 1) := by decide +kernel
theorem z_m_tell_52 : decode b_m_tell 52 = .ok (.iload_n 1, 1) := by decide +kernel
theorem z_m_tell_53 : decode b_m_tell 53 = .ok (.iastore, 1) := by decide +kernel
theorem z_m_tell_54 : decode b_m_tell 54 = .ok (.aload_n 0, 1) := by decide +kernel
theorem z_m_tell_55 : decode b_m_tell 55 = .ok (.getfield 42, 3) := by decide +kernel
theorem z_m_tell_58 : decode b_m_tell 58 = .ok (.iconst 5, 1) := by decide +kernel
theorem z_m_tell_59 : decode b_m_tell 59 = .ok (.aload_n 0, 1) := by decide +kernel
theorem z_m_tell_60 : decode b_m_tell 60 = .ok (.getfield 110, 3) := by decide +kernel
theorem z_m_tell_63 : decode b_m_tell 63 = .ok (.imul, 1) := by decide +kernel
theorem z_m_tell_64 : decode b_m_tell 64 = .ok (.iconst 2, 1) := by decide +kernel
theorem z_m_tell_65 : decode b_m_tell 65 = .ok (.iadd, 1) := by decide +kernel
theorem z_m_tell_66 : decode b_m_tell 66 = .ok (.iload_n 2, 1) := by decide +kernel
theorem z_m_tell_67 : decode b_m_tell 67 = .ok (.iastore, 1) := by decide +kernel
theorem z_m_tell_68 : decode b_m_tell 68 = .ok (.aload_n 0, 1) := by decide +kernel
theorem z_m_tell_69 : decode b_m_tell 69 = .ok (.getfield 42, 3) := by decide +kernel
theorem z_m_tell_72 : decode b_m_tell 72 = .ok (.iconst 5, 1) := by decide +kernel
theorem z_m_tell_73 : decode b_m_tell 73 = .ok (.aload_n 0, 1) := by decide +kernel
theorem z_m_tell_74 : decode b_m_tell 74 = .ok (.getfield 110, 3) := by decide +kernel
theorem z_m_tell_77 : decode b_m_tell 77 = .ok (.imul, 1) := by decide +kernel
theorem z_m_tell_78 : decode b_m_tell 78 = .ok (.iconst 3, 1) := by decide +kernel
theorem z_m_tell_79 : decode b_m_tell 79 = .ok (.iadd, 1) := by decide +kernel
theorem z_m_tell_80 : decode b_m_tell 80 = .ok (.iload_n 3, 1) := by decide +kernel
theorem z_m_tell_81 : decode b_m_tell 81 = .ok (.iastore, 1) := by decide +kernel
theorem z_m_tell_82 : decode b_m_tell 82 = .ok (.aload_n 0, 1) := by decide +kernel
theorem z_m_tell_83 : decode b_m_tell 83 = .ok (.getfield 42, 3) := by decide +kernel
theorem z_m_tell_86 : decode b_m_tell 86 = .ok (.iconst 5, 1) := by decide +kernel
theorem z_m_tell_87 : decode b_m_tell 87 = .ok (.aload_n 0, 1) := by decide +kernel
theorem z_m_tell_88 : decode b_m_tell 88 = .ok (.getfield 110, 3) := by decide +kernel
theorem z_m_tell_91 : decode b_m_tell 91 = .ok (.imul, 1) := by decide +kernel
theorem z_m_tell_92 : decode b_m_tell 92 = .ok (.iconst 4, 1) := by decide +kernel
theorem z_m_tell_93 : decode b_m_tell 93 = .ok (.iadd, 1) := by decide +kernel
theorem z_m_tell_94 : decode b_m_tell 94 = .ok (.iload 4, 2) := by decide +kernel
theorem z_m_tell_96 : decode b_m_tell 96 = .ok (.iastore, 1) := by decide +kernel
theorem z_m_tell_97 : decode b_m_tell 97 = .ok (.aload_n 0, 1) := by decide +kernel
theorem z_m_tell_98 : decode b_m_tell 98 = .ok (.dup, 1) := by decide +kernel
theorem z_m_tell_99 : decode b_m_tell 99 = .ok (.getfield 110, 3) := by decide +kernel
theorem z_m_tell_102 : decode b_m_tell 102 = .ok (.iconst 1, 1) := by decide +kernel
theorem z_m_tell_103 : decode b_m_tell 103 = .ok (.iadd, 1) := by decide +kernel
theorem z_m_tell_104 : decode b_m_tell 104 = .ok (.putfield 110, 3) := by decide +kernel
theorem z_m_tell_107 : decode b_m_tell 107 = .ok (.return_, 1) := by decide +kernel
theorem z_m_workOut_0 : decode b_m_workOut 0 = .ok (.bipush 30, 2) := by decide +kernel
theorem z_m_workOut_2 : decode b_m_workOut 2 = .ok (.iload_n 1, 1) := by decide +kernel
theorem z_m_workOut_3 : decode b_m_workOut 3 = .ok (.imul, 1) := by decide +kernel
theorem z_m_workOut_4 : decode b_m_workOut 4 = .ok (.iload_n 2, 1) := by decide +kernel
theorem z_m_workOut_5 : decode b_m_workOut 5 = .ok (.iadd, 1) := by decide +kernel
theorem z_m_workOut_6 : decode b_m_workOut 6 = .ok (.istore 5, 2) := by decide +kernel
theorem z_m_workOut_8 : decode b_m_workOut 8 = .ok (.aload_n 0, 1) := by decide +kernel
theorem z_m_workOut_9 : decode b_m_workOut 9 = .ok (.getfield 36, 3) := by decide +kernel
theorem z_m_workOut_12 : decode b_m_workOut 12 = .ok (.bipush 8, 2) := by decide +kernel
theorem z_m_workOut_14 : decode b_m_workOut 14 = .ok (.iload_n 1, 1) := by decide +kernel
theorem z_m_workOut_15 : decode b_m_workOut 15 = .ok (.imul, 1) := by decide +kernel
theorem z_m_workOut_16 : decode b_m_workOut 16 = .ok (.iload_n 3, 1) := by decide +kernel
theorem z_m_workOut_17 : decode b_m_workOut 17 = .ok (.iadd, 1) := by decide +kernel
theorem z_m_workOut_18 : decode b_m_workOut 18 = .ok (.iaload, 1) := by decide +kernel
theorem z_m_workOut_19 : decode b_m_workOut 19 = .ok (.i2l, 1) := by decide +kernel
theorem z_m_workOut_20 : decode b_m_workOut 20 = .ok (.lstore 6, 2) := by decide +kernel
theorem z_m_workOut_22 : decode b_m_workOut 22 = .ok (.aload_n 0, 1) := by decide +kernel
theorem z_m_workOut_23 : decode b_m_workOut 23 = .ok (.getfield 39, 3) := by decide +kernel
theorem z_m_workOut_26 : decode b_m_workOut 26 = .ok (.bipush 8, 2) := by decide +kernel
theorem z_m_workOut_28 : decode b_m_workOut 28 = .ok (.iload_n 1, 1) := by decide +kernel
theorem z_m_workOut_29 : decode b_m_workOut 29 = .ok (.imul, 1) := by decide +kernel
theorem z_m_workOut_30 : decode b_m_workOut 30 = .ok (.iload_n 3, 1) := by decide +kernel
theorem z_m_workOut_31 : decode b_m_workOut 31 = .ok (.iadd, 1) := by decide +kernel
theorem z_m_workOut_32 : decode b_m_workOut 32 = .ok (.iaload, 1) := by decide +kernel
theorem z_m_workOut_33 : decode b_m_workOut 33 = .ok (.i2l, 1) := by decide +kernel
theorem z_m_workOut_34 : decode b_m_workOut 34 = .ok (.lstore 8, 2) := by decide +kernel
theorem z_m_workOut_36 : decode b_m_workOut 36 = .ok (.aload_n 0, 1) := by decide +kernel
theorem z_m_workOut_37 : decode b_m_workOut 37 = .ok (.iconst (-1), 1) := by decide +kernel
theorem z_m_workOut_38 : decode b_m_workOut 38 = .ok (.putfield 78, 3) := by decide +kernel
theorem z_m_workOut_41 : decode b_m_workOut 41 = .ok (.aload_n 0, 1) := by decide +kernel
theorem z_m_workOut_42 : decode b_m_workOut 42 = .ok (.getfield 33, 3) := by decide +kernel
theorem z_m_workOut_45 : decode b_m_workOut 45 = .ok (.bipush 8, 2) := by decide +kernel
theorem z_m_workOut_47 : decode b_m_workOut 47 = .ok (.iload_n 1, 1) := by decide +kernel
theorem z_m_workOut_48 : decode b_m_workOut 48 = .ok (.imul, 1) := by decide +kernel
theorem z_m_workOut_49 : decode b_m_workOut 49 = .ok (.iload_n 3, 1) := by decide +kernel
theorem z_m_workOut_50 : decode b_m_workOut 50 = .ok (.iadd, 1) := by decide +kernel
theorem z_m_workOut_51 : decode b_m_workOut 51 = .ok (.iaload, 1) := by decide +kernel
theorem z_m_workOut_52 : decode b_m_workOut 52 = .ok (.tableswitch 191 1 6 #[40, 49, 73, 91, 102, 128], 40) := by decide +kernel
theorem z_m_workOut_92 : decode b_m_workOut 92 = .ok (.lload 6, 2) := by decide +kernel
theorem z_m_workOut_94 : decode b_m_workOut 94 = .ok (.iload_n 2, 1) := by decide +kernel
theorem z_m_workOut_95 : decode b_m_workOut 95 = .ok (.i2l, 1) := by decide +kernel
theorem z_m_workOut_96 : decode b_m_workOut 96 = .ok (.lmul, 1) := by decide +kernel
theorem z_m_workOut_97 : decode b_m_workOut 97 = .ok (.lload 8, 2) := by decide +kernel
theorem z_m_workOut_99 : decode b_m_workOut 99 = .ok (.ladd, 1) := by decide +kernel
theorem z_m_workOut_100 : decode b_m_workOut 100 = .ok (.lreturn, 1) := by decide +kernel
theorem z_m_workOut_101 : decode b_m_workOut 101 = .ok (.aload_n 0, 1) := by decide +kernel
theorem z_m_workOut_102 : decode b_m_workOut 102 = .ok (.iload 5, 2) := by decide +kernel
theorem z_m_workOut_104 : decode b_m_workOut 104 = .ok (.aload_n 0, 1) := by decide +kernel
theorem z_m_workOut_105 : decode b_m_workOut 105 = .ok (.getfield 23, 3) := by decide +kernel
theorem z_m_workOut_108 : decode b_m_workOut 108 = .ok (.iload 5, 2) := by decide +kernel
theorem z_m_workOut_110 : decode b_m_workOut 110 = .ok (.laload, 1) := by decide +kernel
theorem z_m_workOut_111 : decode b_m_workOut 111 = .ok (.iload 4, 2) := by decide +kernel
theorem z_m_workOut_113 : decode b_m_workOut 113 = .ok (.i2l, 1) := by decide +kernel
theorem z_m_workOut_114 : decode b_m_workOut 114 = .ok (.lload 6, 2) := by decide +kernel
theorem z_m_workOut_116 : decode b_m_workOut 116 = .ok (.lmul, 1) := by decide +kernel
theorem z_m_workOut_117 : decode b_m_workOut 117 = .ok (.ladd, 1) := by decide +kernel
theorem z_m_workOut_118 : decode b_m_workOut 118 = .ok (.lload 8, 2) := by decide +kernel
theorem z_m_workOut_120 : decode b_m_workOut 120 = .ok (.ladd, 1) := by decide +kernel
theorem z_m_workOut_121 : decode b_m_workOut 121 = .ok (.invokevirtual 85, 3) := by decide +kernel
theorem z_m_workOut_124 : decode b_m_workOut 124 = .ok (.lreturn, 1) := by decide +kernel
theorem z_m_workOut_125 : decode b_m_workOut 125 = .ok (.aload_n 0, 1) := by decide +kernel
theorem z_m_workOut_126 : decode b_m_workOut 126 = .ok (.getfield 23, 3) := by decide +kernel
theorem z_m_workOut_129 : decode b_m_workOut 129 = .ok (.iload 5, 2) := by decide +kernel
theorem z_m_workOut_131 : decode b_m_workOut 131 = .ok (.laload, 1) := by decide +kernel
theorem z_m_workOut_132 : decode b_m_workOut 132 = .ok (.lload 6, 2) := by decide +kernel
theorem z_m_workOut_134 : decode b_m_workOut 134 = .ok (.lmul, 1) := by decide +kernel
theorem z_m_workOut_135 : decode b_m_workOut 135 = .ok (.lload 8, 2) := by decide +kernel
theorem z_m_workOut_137 : decode b_m_workOut 137 = .ok (.ladd, 1) := by decide +kernel
theorem z_m_workOut_138 : decode b_m_workOut 138 = .ok (.iload 4, 2) := by decide +kernel
theorem z_m_workOut_140 : decode b_m_workOut 140 = .ok (.i2l, 1) := by decide +kernel
theorem z_m_workOut_141 : decode b_m_workOut 141 = .ok (.ladd, 1) := by decide +kernel
theorem z_m_workOut_142 : decode b_m_workOut 142 = .ok (.lreturn, 1) := by decide +kernel
theorem z_m_workOut_143 : decode b_m_workOut 143 = .ok (.ldc2_w 89, 3) := by decide +kernel
theorem z_m_workOut_146 : decode b_m_workOut 146 = .ok (.lload 6, 2) := by decide +kernel
theorem z_m_workOut_148 : decode b_m_workOut 148 = .ok (.ldc2_w 91, 3) := by decide +kernel
theorem z_m_workOut_151 : decode b_m_workOut 151 = .ok (.land, 1) := by decide +kernel
theorem z_m_workOut_152 : decode b_m_workOut 152 = .ok (.lsub, 1) := by decide +kernel
theorem z_m_workOut_153 : decode b_m_workOut 153 = .ok (.lreturn, 1) := by decide +kernel
theorem z_m_workOut_154 : decode b_m_workOut 154 = .ok (.iload 4, 2) := by decide +kernel
theorem z_m_workOut_156 : decode b_m_workOut 156 = .ok (.ifCond .ne 9, 3) := by decide +kernel
theorem z_m_workOut_159 : decode b_m_workOut 159 = .ok (.ldc2_w 93, 3) := by decide +kernel
theorem z_m_workOut_162 : decode b_m_workOut 162 = .ok (.goto 17, 3) := by decide +kernel
theorem z_m_workOut_165 : decode b_m_workOut 165 = .ok (.aload_n 0, 1) := by decide +kernel
theorem z_m_workOut_166 : decode b_m_workOut 166 = .ok (.getfield 23, 3) := by decide +kernel
theorem z_m_workOut_169 : decode b_m_workOut 169 = .ok (.iload 5, 2) := by decide +kernel
theorem z_m_workOut_171 : decode b_m_workOut 171 = .ok (.laload, 1) := by decide +kernel
theorem z_m_workOut_172 : decode b_m_workOut 172 = .ok (.iload 4, 2) := by decide +kernel
theorem z_m_workOut_174 : decode b_m_workOut 174 = .ok (.i2l, 1) := by decide +kernel
theorem z_m_workOut_175 : decode b_m_workOut 175 = .ok (.ldiv, 1) := by decide +kernel
theorem z_m_workOut_176 : decode b_m_workOut 176 = .ok (.lload 8, 2) := by decide +kernel
theorem z_m_workOut_178 : decode b_m_workOut 178 = .ok (.ladd, 1) := by decide +kernel
theorem z_m_workOut_179 : decode b_m_workOut 179 = .ok (.lreturn, 1) := by decide +kernel
theorem z_m_workOut_180 : decode b_m_workOut 180 = .ok (.aload_n 0, 1) := by decide +kernel
theorem z_m_workOut_181 : decode b_m_workOut 181 = .ok (.getfield 7, 3) := by decide +kernel
theorem z_m_workOut_184 : decode b_m_workOut 184 = .ok (.iload_n 1, 1) := by decide +kernel
theorem z_m_workOut_185 : decode b_m_workOut 185 = .ok (.iaload, 1) := by decide +kernel
theorem z_m_workOut_186 : decode b_m_workOut 186 = .ok (.ifCond .ge 9, 3) := by decide +kernel
theorem z_m_workOut_189 : decode b_m_workOut 189 = .ok (.ldc2_w 95, 3) := by decide +kernel
theorem z_m_workOut_192 : decode b_m_workOut 192 = .ok (.goto 50, 3) := by decide +kernel
theorem z_m_workOut_195 : decode b_m_workOut 195 = .ok (.aload_n 0, 1) := by decide +kernel
theorem z_m_workOut_196 : decode b_m_workOut 196 = .ok (.bipush 30, 2) := by decide +kernel
theorem z_m_workOut_198 : decode b_m_workOut 198 = .ok (.aload_n 0, 1) := by decide +kernel
theorem z_m_workOut_199 : decode b_m_workOut 199 = .ok (.getfield 7, 3) := by decide +kernel
theorem z_m_workOut_202 : decode b_m_workOut 202 = .ok (.iload_n 1, 1) := by decide +kernel
theorem z_m_workOut_203 : decode b_m_workOut 203 = .ok (.iaload, 1) := by decide +kernel
theorem z_m_workOut_204 : decode b_m_workOut 204 = .ok (.imul, 1) := by decide +kernel
theorem z_m_workOut_205 : decode b_m_workOut 205 = .ok (.aload_n 0, 1) := by decide +kernel
theorem z_m_workOut_206 : decode b_m_workOut 206 = .ok (.getfield 16, 3) := by decide +kernel
theorem z_m_workOut_209 : decode b_m_workOut 209 = .ok (.iload 5, 2) := by decide +kernel
theorem z_m_workOut_211 : decode b_m_workOut 211 = .ok (.iaload, 1) := by decide +kernel
theorem z_m_workOut_212 : decode b_m_workOut 212 = .ok (.iadd, 1) := by decide +kernel
theorem z_m_workOut_213 : decode b_m_workOut 213 = .ok (.aload_n 0, 1) := by decide +kernel
theorem z_m_workOut_214 : decode b_m_workOut 214 = .ok (.getfield 23, 3) := by decide +kernel
theorem z_m_workOut_217 : decode b_m_workOut 217 = .ok (.bipush 30, 2) := by decide +kernel
theorem z_m_workOut_219 : decode b_m_workOut 219 = .ok (.aload_n 0, 1) := by decide +kernel
theorem z_m_workOut_220 : decode b_m_workOut 220 = .ok (.getfield 7, 3) := by decide +kernel
theorem z_m_workOut_223 : decode b_m_workOut 223 = .ok (.iload_n 1, 1) := by decide +kernel
theorem z_m_workOut_224 : decode b_m_workOut 224 = .ok (.iaload, 1) := by decide +kernel
theorem z_m_workOut_225 : decode b_m_workOut 225 = .ok (.imul, 1) := by decide +kernel
theorem z_m_workOut_226 : decode b_m_workOut 226 = .ok (.aload_n 0, 1) := by decide +kernel
theorem z_m_workOut_227 : decode b_m_workOut 227 = .ok (.getfield 16, 3) := by decide +kernel
theorem z_m_workOut_230 : decode b_m_workOut 230 = .ok (.iload 5, 2) := by decide +kernel
theorem z_m_workOut_232 : decode b_m_workOut 232 = .ok (.iaload, 1) := by decide +kernel
theorem z_m_workOut_233 : decode b_m_workOut 233 = .ok (.iadd, 1) := by decide +kernel
theorem z_m_workOut_234 : decode b_m_workOut 234 = .ok (.laload, 1) := by decide +kernel
theorem z_m_workOut_235 : decode b_m_workOut 235 = .ok (.iload 4, 2) := by decide +kernel
theorem z_m_workOut_237 : decode b_m_workOut 237 = .ok (.i2l, 1) := by decide +kernel
theorem z_m_workOut_238 : decode b_m_workOut 238 = .ok (.ladd, 1) := by decide +kernel
theorem z_m_workOut_239 : decode b_m_workOut 239 = .ok (.invokevirtual 85, 3) := by decide +kernel
theorem z_m_workOut_242 : decode b_m_workOut 242 = .ok (.lreturn, 1) := by decide +kernel
theorem z_m_workOut_243 : decode b_m_workOut 243 = .ok (.aload_n 0, 1) := by decide +kernel
theorem z_m_workOut_244 : decode b_m_workOut 244 = .ok (.iload_n 1, 1) := by decide +kernel
theorem z_m_workOut_245 : decode b_m_workOut 245 = .ok (.iload_n 2, 1) := by decide +kernel
theorem z_m_workOut_246 : decode b_m_workOut 246 = .ok (.invokevirtual 97, 3) := by decide +kernel
theorem z_m_workOut_249 : decode b_m_workOut 249 = .ok (.ifCond .le 9, 3) := by decide +kernel
theorem z_m_workOut_252 : decode b_m_workOut 252 = .ok (.ldc2_w 101, 3) := by decide +kernel
theorem z_m_workOut_255 : decode b_m_workOut 255 = .ok (.goto 11, 3) := by decide +kernel
theorem z_m_workOut_258 : decode b_m_workOut 258 = .ok (.aload_n 0, 1) := by decide +kernel
theorem z_m_workOut_259 : decode b_m_workOut 259 = .ok (.iload_n 1, 1) := by decide +kernel
theorem z_m_workOut_260 : decode b_m_workOut 260 = .ok (.invokevirtual 103, 3) := by decide +kernel
theorem z_m_workOut_263 : decode b_m_workOut 263 = .ok (.iconst 1, 1) := by decide +kernel
theorem z_m_workOut_264 : decode b_m_workOut 264 = .ok (.isub, 1) := by decide +kernel
theorem z_m_workOut_265 : decode b_m_workOut 265 = .ok (.i2l, 1) := by decide +kernel
theorem z_m_workOut_266 : decode b_m_workOut 266 = .ok (.lreturn, 1) := by decide +kernel
theorem z_m_change_0 : decode b_m_change 0 = .ok (.lload_n 2, 1) := by decide +kernel
theorem z_m_change_1 : decode b_m_change 1 = .ok (.invokestatic 72, 3) := by decide +kernel
theorem z_m_change_4 : decode b_m_change 4 = .ok (.ifCond .ne 7, 3) := by decide +kernel
theorem z_m_change_7 : decode b_m_change 7 = .ok (.ldc2_w 76, 3) := by decide +kernel
theorem z_m_change_10 : decode b_m_change 10 = .ok (.lreturn, 1) := by decide +kernel
theorem z_m_change_11 : decode b_m_change 11 = .ok (.aload_n 0, 1) := by decide +kernel
theorem z_m_change_12 : decode b_m_change 12 = .ok (.iload_n 1, 1) := by decide +kernel
theorem z_m_change_13 : decode b_m_change 13 = .ok (.putfield 78, 3) := by decide +kernel
theorem z_m_change_16 : decode b_m_change 16 = .ok (.aload_n 0, 1) := by decide +kernel
theorem z_m_change_17 : decode b_m_change 17 = .ok (.lload_n 2, 1) := by decide +kernel
theorem z_m_change_18 : decode b_m_change 18 = .ok (.putfield 81, 3) := by decide +kernel
theorem z_m_change_21 : decode b_m_change 21 = .ok (.lload_n 2, 1) := by decide +kernel
theorem z_m_change_22 : decode b_m_change 22 = .ok (.lreturn, 1) := by decide +kernel
theorem z_m_isSum_0 : decode b_m_isSum 0 = .ok (.lload_n 0, 1) := by decide +kernel
theorem z_m_isSum_1 : decode b_m_isSum 1 = .ok (.ldc2_w 68, 3) := by decide +kernel
theorem z_m_isSum_4 : decode b_m_isSum 4 = .ok (.lcmp, 1) := by decide +kernel
theorem z_m_isSum_5 : decode b_m_isSum 5 = .ok (.ifCond .lt 15, 3) := by decide +kernel
theorem z_m_isSum_8 : decode b_m_isSum 8 = .ok (.lload_n 0, 1) := by decide +kernel
theorem z_m_isSum_9 : decode b_m_isSum 9 = .ok (.ldc2_w 70, 3) := by decide +kernel
theorem z_m_isSum_12 : decode b_m_isSum 12 = .ok (.lcmp, 1) := by decide +kernel
theorem z_m_isSum_13 : decode b_m_isSum 13 = .ok (.ifCond .gt 7, 3) := by decide +kernel
theorem z_m_isSum_16 : decode b_m_isSum 16 = .ok (.iconst 1, 1) := by decide +kernel
theorem z_m_isSum_17 : decode b_m_isSum 17 = .ok (.goto 4, 3) := by decide +kernel
theorem z_m_isSum_20 : decode b_m_isSum 20 = .ok (.iconst 0, 1) := by decide +kernel
theorem z_m_isSum_21 : decode b_m_isSum 21 = .ok (.ireturn, 1) := by decide +kernel
theorem z_m_openUnder_0 : decode b_m_openUnder 0 = .ok (.iconst 0, 1) := by decide +kernel
theorem z_m_openUnder_1 : decode b_m_openUnder 1 = .ok (.istore_n 3, 1) := by decide +kernel
theorem z_m_openUnder_2 : decode b_m_openUnder 2 = .ok (.iconst 0, 1) := by decide +kernel
theorem z_m_openUnder_3 : decode b_m_openUnder 3 = .ok (.istore 4, 2) := by decide +kernel
theorem z_m_openUnder_5 : decode b_m_openUnder 5 = .ok (.iload 4, 2) := by decide +kernel
theorem z_m_openUnder_7 : decode b_m_openUnder 7 = .ok (.sipush 240, 3) := by decide +kernel
theorem z_m_openUnder_10 : decode b_m_openUnder 10 = .ok (.if_icmp .ge 82, 3) := by decide +kernel
theorem z_m_openUnder_13 : decode b_m_openUnder 13 = .ok (.iload 4, 2) := by decide +kernel
theorem z_m_openUnder_15 : decode b_m_openUnder 15 = .ok (.bipush 30, 2) := by decide +kernel
theorem z_m_openUnder_17 : decode b_m_openUnder 17 = .ok (.irem, 1) := by decide +kernel
theorem z_m_openUnder_18 : decode b_m_openUnder 18 = .ok (.aload_n 0, 1) := by decide +kernel
theorem z_m_openUnder_19 : decode b_m_openUnder 19 = .ok (.getfield 13, 3) := by decide +kernel
theorem z_m_openUnder_22 : decode b_m_openUnder 22 = .ok (.iload 4, 2) := by decide +kernel
theorem z_m_openUnder_24 : decode b_m_openUnder 24 = .ok (.bipush 30, 2) := by decide +kernel
theorem z_m_openUnder_26 : decode b_m_openUnder 26 = .ok (.idiv, 1) := by decide +kernel
theorem z_m_openUnder_27 : decode b_m_openUnder 27 = .ok (.iaload, 1) := by decide +kernel
theorem z_m_openUnder_28 : decode b_m_openUnder 28 = .ok (.if_icmp .ge 32, 3) := by decide +kernel
theorem z_m_openUnder_31 : decode b_m_openUnder 31 = .ok (.aload_n 0, 1) := by decide +kernel
theorem z_m_openUnder_32 : decode b_m_openUnder 32 = .ok (.getfield 7, 3) := by decide +kernel
theorem z_m_openUnder_35 : decode b_m_openUnder 35 = .ok (.iload 4, 2) := by decide +kernel
theorem z_m_openUnder_37 : decode b_m_openUnder 37 = .ok (.bipush 30, 2) := by decide +kernel
theorem z_m_openUnder_39 : decode b_m_openUnder 39 = .ok (.idiv, 1) := by decide +kernel
theorem z_m_openUnder_40 : decode b_m_openUnder 40 = .ok (.iaload, 1) := by decide +kernel
theorem z_m_openUnder_41 : decode b_m_openUnder 41 = .ok (.iload_n 1, 1) := by decide +kernel
theorem z_m_openUnder_42 : decode b_m_openUnder 42 = .ok (.if_icmp .ne 18, 3) := by decide +kernel
theorem z_m_openUnder_45 : decode b_m_openUnder 45 = .ok (.aload_n 0, 1) := by decide +kernel
theorem z_m_openUnder_46 : decode b_m_openUnder 46 = .ok (.getfield 16, 3) := by decide +kernel
theorem z_m_openUnder_49 : decode b_m_openUnder 49 = .ok (.iload 4, 2) := by decide +kernel
theorem z_m_openUnder_51 : decode b_m_openUnder 51 = .ok (.iaload, 1) := by decide +kernel
theorem z_m_openUnder_52 : decode b_m_openUnder 52 = .ok (.iload_n 2, 1) := by decide +kernel
theorem z_m_openUnder_53 : decode b_m_openUnder 53 = .ok (.if_icmp .ne 7, 3) := by decide +kernel
theorem z_m_openUnder_56 : decode b_m_openUnder 56 = .ok (.iconst 1, 1) := by decide +kernel
theorem z_m_openUnder_57 : decode b_m_openUnder 57 = .ok (.goto 4, 3) := by decide +kernel
theorem z_m_openUnder_60 : decode b_m_openUnder 60 = .ok (.iconst 0, 1) := by decide +kernel
theorem z_m_openUnder_61 : decode b_m_openUnder 61 = .ok (.istore 5, 2) := by decide +kernel
theorem z_m_openUnder_63 : decode b_m_openUnder 63 = .ok (.iload_n 3, 1) := by decide +kernel
theorem z_m_openUnder_64 : decode b_m_openUnder 64 = .ok (.iload 5, 2) := by decide +kernel
theorem z_m_openUnder_66 : decode b_m_openUnder 66 = .ok (.ifCond .eq 17, 3) := by decide +kernel
theorem z_m_openUnder_69 : decode b_m_openUnder 69 = .ok (.aload_n 0, 1) := by decide +kernel
theorem z_m_openUnder_70 : decode b_m_openUnder 70 = .ok (.getfield 19, 3) := by decide +kernel
theorem z_m_openUnder_73 : decode b_m_openUnder 73 = .ok (.iload 4, 2) := by decide +kernel
theorem z_m_openUnder_75 : decode b_m_openUnder 75 = .ok (.baload, 1) := by decide +kernel
theorem z_m_openUnder_76 : decode b_m_openUnder 76 = .ok (.ifCond .eq 7, 3) := by decide +kernel
theorem z_m_openUnder_79 : decode b_m_openUnder 79 = .ok (.iconst 1, 1) := by decide +kernel
theorem z_m_openUnder_80 : decode b_m_openUnder 80 = .ok (.goto 4, 3) := by decide +kernel
theorem z_m_openUnder_83 : decode b_m_openUnder 83 = .ok (.iconst 0, 1) := by decide +kernel
theorem z_m_openUnder_84 : decode b_m_openUnder 84 = .ok (.iadd, 1) := by decide +kernel
theorem z_m_openUnder_85 : decode b_m_openUnder 85 = .ok (.istore_n 3, 1) := by decide +kernel
theorem z_m_openUnder_86 : decode b_m_openUnder 86 = .ok (.iinc 4 1, 3) := by decide +kernel
theorem z_m_openUnder_89 : decode b_m_openUnder 89 = .ok (.goto (-84), 3) := by decide +kernel
theorem z_m_openUnder_92 : decode b_m_openUnder 92 = .ok (.iload_n 3, 1) := by decide +kernel
theorem z_m_openUnder_93 : decode b_m_openUnder 93 = .ok (.ireturn, 1) := by decide +kernel
theorem z_m_openOf_0 : decode b_m_openOf 0 = .ok (.iconst 0, 1) := by decide +kernel
theorem z_m_openOf_1 : decode b_m_openOf 1 = .ok (.istore_n 2, 1) := by decide +kernel
theorem z_m_openOf_2 : decode b_m_openOf 2 = .ok (.iconst 0, 1) := by decide +kernel
theorem z_m_openOf_3 : decode b_m_openOf 3 = .ok (.istore_n 3, 1) := by decide +kernel
theorem z_m_openOf_4 : decode b_m_openOf 4 = .ok (.iload_n 3, 1) := by decide +kernel
theorem z_m_openOf_5 : decode b_m_openOf 5 = .ok (.aload_n 0, 1) := by decide +kernel
theorem z_m_openOf_6 : decode b_m_openOf 6 = .ok (.getfield 13, 3) := by decide +kernel
theorem z_m_openOf_9 : decode b_m_openOf 9 = .ok (.iload_n 1, 1) := by decide +kernel
theorem z_m_openOf_10 : decode b_m_openOf 10 = .ok (.iaload, 1) := by decide +kernel
theorem z_m_openOf_11 : decode b_m_openOf 11 = .ok (.if_icmp .ge 31, 3) := by decide +kernel
theorem z_m_openOf_14 : decode b_m_openOf 14 = .ok (.iload_n 2, 1) := by decide +kernel
theorem z_m_openOf_15 : decode b_m_openOf 15 = .ok (.aload_n 0, 1) := by decide +kernel
theorem z_m_openOf_16 : decode b_m_openOf 16 = .ok (.getfield 19, 3) := by decide +kernel
theorem z_m_openOf_19 : decode b_m_openOf 19 = .ok (.bipush 30, 2) := by decide +kernel
theorem z_m_openOf_21 : decode b_m_openOf 21 = .ok (.iload_n 1, 1) := by decide +kernel
theorem z_m_openOf_22 : decode b_m_openOf 22 = .ok (.imul, 1) := by decide +kernel
theorem z_m_openOf_23 : decode b_m_openOf 23 = .ok (.iload_n 3, 1) := by decide +kernel
theorem z_m_openOf_24 : decode b_m_openOf 24 = .ok (.iadd, 1) := by decide +kernel
theorem z_m_openOf_25 : decode b_m_openOf 25 = .ok (.baload, 1) := by decide +kernel
theorem z_m_openOf_26 : decode b_m_openOf 26 = .ok (.ifCond .eq 7, 3) := by decide +kernel
theorem z_m_openOf_29 : decode b_m_openOf 29 = .ok (.iconst 1, 1) := by decide +kernel
theorem z_m_openOf_30 : decode b_m_openOf 30 = .ok (.goto 4, 3) := by decide +kernel
theorem z_m_openOf_33 : decode b_m_openOf 33 = .ok (.iconst 0, 1) := by decide +kernel
theorem z_m_openOf_34 : decode b_m_openOf 34 = .ok (.iadd, 1) := by decide +kernel
theorem z_m_openOf_35 : decode b_m_openOf 35 = .ok (.istore_n 2, 1) := by decide +kernel
theorem z_m_openOf_36 : decode b_m_openOf 36 = .ok (.iinc 3 1, 3) := by decide +kernel
theorem z_m_openOf_39 : decode b_m_openOf 39 = .ok (.goto (-35), 3) := by decide +kernel
theorem z_m_openOf_42 : decode b_m_openOf 42 = .ok (.iload_n 2, 1) := by decide +kernel
theorem z_m_openOf_43 : decode b_m_openOf 43 = .ok (.ireturn, 1) := by decide +kernel
theorem z_m_simulate_0 : decode b_m_simulate 0 = .ok (.aload_n 0, 1) := by decide +kernel
theorem z_m_simulate_1 : decode b_m_simulate 1 = .ok (.iload_n 1, 1) := by decide +kernel
theorem z_m_simulate_2 : decode b_m_simulate 2 = .ok (.iload_n 2, 1) := by decide +kernel
theorem z_m_simulate_3 : decode b_m_simulate 3 = .ok (.iload_n 3, 1) := by decide +kernel
theorem z_m_simulate_4 : decode b_m_simulate 4 = .ok (.iload 4, 2) := by decide +kernel
theorem z_m_simulate_6 : decode b_m_simulate 6 = .ok (.invokevirtual 115, 3) := by decide +kernel
theorem z_m_simulate_9 : decode b_m_simulate 9 = .ok (.ifCond .eq 5, 3) := by decide +kernel
theorem z_m_simulate_12 : decode b_m_simulate 12 = .ok (.lconst 0, 1) := by decide +kernel
theorem z_m_simulate_13 : decode b_m_simulate 13 = .ok (.lreturn, 1) := by decide +kernel
theorem z_m_simulate_14 : decode b_m_simulate 14 = .ok (.aload_n 0, 1) := by decide +kernel
theorem z_m_simulate_15 : decode b_m_simulate 15 = .ok (.iload_n 1, 1) := by decide +kernel
theorem z_m_simulate_16 : decode b_m_simulate 16 = .ok (.iload_n 2, 1) := by decide +kernel
theorem z_m_simulate_17 : decode b_m_simulate 17 = .ok (.iload_n 3, 1) := by decide +kernel
theorem z_m_simulate_18 : decode b_m_simulate 18 = .ok (.iload 4, 2) := by decide +kernel
theorem z_m_simulate_20 : decode b_m_simulate 20 = .ok (.invokevirtual 123, 3) := by decide +kernel
theorem z_m_simulate_23 : decode b_m_simulate 23 = .ok (.lreturn, 1) := by decide +kernel
theorem z_m_text_0 : decode b_m_text 0 = .ok (.aload_n 0, 1) := by decide +kernel
theorem z_m_text_1 : decode b_m_text 1 = .ok (.iload_n 1, 1) := by decide +kernel
theorem z_m_text_2 : decode b_m_text 2 = .ok (.iload_n 2, 1) := by decide +kernel
theorem z_m_text_3 : decode b_m_text 3 = .ok (.invokevirtual 65, 3) := by decide +kernel
theorem z_m_text_6 : decode b_m_text 6 = .ok (.ifCond .ne 7, 3) := by decide +kernel
theorem z_m_text_9 : decode b_m_text 9 = .ok (.iconst 1, 1) := by decide +kernel
theorem z_m_text_10 : decode b_m_text 10 = .ok (.goto 4, 3) := by decide +kernel
theorem z_m_text_13 : decode b_m_text 13 = .ok (.iconst 0, 1) := by decide +kernel
theorem z_m_text_14 : decode b_m_text 14 = .ok (.istore 6, 2) := by decide +kernel
theorem z_m_text_16 : decode b_m_text 16 = .ok (.iload 6, 2) := by decide +kernel
theorem z_m_text_18 : decode b_m_text 18 = .ok (.ifCond .eq 7, 3) := by decide +kernel
theorem z_m_text_21 : decode b_m_text 21 = .ok (.iconst 0, 1) := by decide +kernel
theorem z_m_text_22 : decode b_m_text 22 = .ok (.goto 9, 3) := by decide +kernel
theorem z_m_text_25 : decode b_m_text 25 = .ok (.bipush 30, 2) := by decide +kernel
theorem z_m_text_27 : decode b_m_text 27 = .ok (.iload_n 1, 1) := by decide +kernel
theorem z_m_text_28 : decode b_m_text 28 = .ok (.imul, 1) := by decide +kernel
theorem z_m_text_29 : decode b_m_text 29 = .ok (.iload_n 2, 1) := by decide +kernel
theorem z_m_text_30 : decode b_m_text 30 = .ok (.iadd, 1) := by decide +kernel
theorem z_m_text_31 : decode b_m_text 31 = .ok (.istore 7, 2) := by decide +kernel
theorem z_m_text_33 : decode b_m_text 33 = .ok (.iload 5, 2) := by decide +kernel
theorem z_m_text_35 : decode b_m_text 35 = .ok (.iconst 1, 1) := by decide +kernel
theorem z_m_text_36 : decode b_m_text 36 = .ok (.bipush 8, 2) := by decide +kernel
theorem z_m_text_38 : decode b_m_text 38 = .ok (.invokestatic 49, 3) := by decide +kernel
theorem z_m_text_41 : decode b_m_text 41 = .ok (.ifCond .ne 7, 3) := by decide +kernel
theorem z_m_text_44 : decode b_m_text 44 = .ok (.iconst 1, 1) := by decide +kernel
theorem z_m_text_45 : decode b_m_text 45 = .ok (.goto 4, 3) := by decide +kernel
theorem z_m_text_48 : decode b_m_text 48 = .ok (.iconst 0, 1) := by decide +kernel
theorem z_m_text_49 : decode b_m_text 49 = .ok (.istore 8, 2) := by decide +kernel
theorem z_m_text_51 : decode b_m_text 51 = .ok (.aload_n 0, 1) := by decide +kernel
theorem z_m_text_52 : decode b_m_text 52 = .ok (.iload 6, 2) := by decide +kernel
theorem z_m_text_54 : decode b_m_text 54 = .ok (.iload 8, 2) := by decide +kernel
theorem z_m_text_56 : decode b_m_text 56 = .ok (.iload 6, 2) := by decide +kernel
theorem z_m_text_58 : decode b_m_text 58 = .ok (.ifCond .ne 17, 3) := by decide +kernel
theorem z_m_text_61 : decode b_m_text 61 = .ok (.aload_n 0, 1) := by decide +kernel
theorem z_m_text_62 : decode b_m_text 62 = .ok (.getfield 19, 3) := by decide +kernel
theorem z_m_text_65 : decode b_m_text 65 = .ok (.iload 7, 2) := by decide +kernel
theorem z_m_text_67 : decode b_m_text 67 = .ok (.baload, 1) := by decide +kernel
theorem z_m_text_68 : decode b_m_text 68 = .ok (.ifCond .ne 7, 3) := by decide +kernel
theorem z_m_text_71 : decode b_m_text 71 = .ok (.iconst 1, 1) := by decide +kernel
theorem z_m_text_72 : decode b_m_text 72 = .ok (.goto 4, 3) := by decide +kernel
theorem z_m_text_75 : decode b_m_text 75 = .ok (.iconst 0, 1) := by decide +kernel
theorem z_m_text_76 : decode b_m_text 76 = .ok (.iload 6, 2) := by decide +kernel
theorem z_m_text_78 : decode b_m_text 78 = .ok (.ifCond .ne 27, 3) := by decide +kernel
theorem z_m_text_81 : decode b_m_text 81 = .ok (.iload 8, 2) := by decide +kernel
theorem z_m_text_83 : decode b_m_text 83 = .ok (.ifCond .ne 22, 3) := by decide +kernel
theorem z_m_text_86 : decode b_m_text 86 = .ok (.aload_n 0, 1) := by decide +kernel
theorem z_m_text_87 : decode b_m_text 87 = .ok (.getfield 27, 3) := by decide +kernel
theorem z_m_text_90 : decode b_m_text 90 = .ok (.iload 7, 2) := by decide +kernel
theorem z_m_text_92 : decode b_m_text 92 = .ok (.iaload, 1) := by decide +kernel
theorem z_m_text_93 : decode b_m_text 93 = .ok (.iload 5, 2) := by decide +kernel
theorem z_m_text_95 : decode b_m_text 95 = .ok (.iadd, 1) := by decide +kernel
theorem z_m_text_96 : decode b_m_text 96 = .ok (.bipush 16, 2) := by decide +kernel
theorem z_m_text_98 : decode b_m_text 98 = .ok (.if_icmp .le 7, 3) := by decide +kernel
theorem z_m_text_101 : decode b_m_text 101 = .ok (.iconst 1, 1) := by decide +kernel
theorem z_m_text_102 : decode b_m_text 102 = .ok (.goto 4, 3) := by decide +kernel
theorem z_m_text_105 : decode b_m_text 105 = .ok (.iconst 0, 1) := by decide +kernel
theorem z_m_text_106 : decode b_m_text 106 = .ok (.invokevirtual 61, 3) := by decide +kernel
theorem z_m_text_109 : decode b_m_text 109 = .ok (.ifCond .eq 5, 3) := by decide +kernel
theorem z_m_text_112 : decode b_m_text 112 = .ok (.iconst 0, 1) := by decide +kernel
theorem z_m_text_113 : decode b_m_text 113 = .ok (.ireturn, 1) := by decide +kernel
theorem z_m_text_114 : decode b_m_text 114 = .ok (.iload 5, 2) := by decide +kernel
theorem z_m_text_116 : decode b_m_text 116 = .ok (.iconst 1, 1) := by decide +kernel
theorem z_m_text_117 : decode b_m_text 117 = .ok (.isub, 1) := by decide +kernel
theorem z_m_text_118 : decode b_m_text 118 = .ok (.istore 9, 2) := by decide +kernel
theorem z_m_text_120 : decode b_m_text 120 = .ok (.iload 9, 2) := by decide +kernel
theorem z_m_text_122 : decode b_m_text 122 = .ok (.ifCond .lt 50, 3) := by decide +kernel
theorem z_m_text_125 : decode b_m_text 125 = .ok (.aload_n 0, 1) := by decide +kernel
theorem z_m_text_126 : decode b_m_text 126 = .ok (.getfield 30, 3) := by decide +kernel
theorem z_m_text_129 : decode b_m_text 129 = .ok (.bipush 16, 2) := by decide +kernel
theorem z_m_text_131 : decode b_m_text 131 = .ok (.iload 7, 2) := by decide +kernel
theorem z_m_text_133 : decode b_m_text 133 = .ok (.imul, 1) := by decide +kernel
theorem z_m_text_134 : decode b_m_text 134 = .ok (.aload_n 0, 1) := by decide +kernel
theorem z_m_text_135 : decode b_m_text 135 = .ok (.getfield 27, 3) := by decide +kernel
theorem z_m_text_138 : decode b_m_text 138 = .ok (.iload 7, 2) := by decide +kernel
theorem z_m_text_140 : decode b_m_text 140 = .ok (.iaload, 1) := by decide +kernel
theorem z_m_text_141 : decode b_m_text 141 = .ok (.iadd, 1) := by decide +kernel
theorem z_m_text_142 : decode b_m_text 142 = .ok (.lload_n 3, 1) := by decide +kernel
theorem z_m_text_143 : decode b_m_text 143 = .ok (.bipush 8, 2) := by decide +kernel
theorem z_m_text_145 : decode b_m_text 145 = .ok (.iload 9, 2) := by decide +kernel
theorem z_m_text_147 : decode b_m_text 147 = .ok (.imul, 1) := by decide +kernel
theorem z_m_text_148 : decode b_m_text 148 = .ok (.lshr, 1) := by decide +kernel
theorem z_m_text_149 : decode b_m_text 149 = .ok (.l2i, 1) := by decide +kernel
theorem z_m_text_150 : decode b_m_text 150 = .ok (.sipush 255, 3) := by decide +kernel
theorem z_m_text_153 : decode b_m_text 153 = .ok (.iand, 1) := by decide +kernel
theorem z_m_text_154 : decode b_m_text 154 = .ok (.iastore, 1) := by decide +kernel
theorem z_m_text_155 : decode b_m_text 155 = .ok (.aload_n 0, 1) := by decide +kernel
theorem z_m_text_156 : decode b_m_text 156 = .ok (.getfield 27, 3) := by decide +kernel
theorem z_m_text_159 : decode b_m_text 159 = .ok (.iload 7, 2) := by decide +kernel
theorem z_m_text_161 : decode b_m_text 161 = .ok (.dup2, 1) := by decide +kernel
theorem z_m_text_162 : decode b_m_text 162 = .ok (.iaload, 1) := by decide +kernel
theorem z_m_text_163 : decode b_m_text 163 = .ok (.iconst 1, 1) := by decide +kernel
theorem z_m_text_164 : decode b_m_text 164 = .ok (.iadd, 1) := by decide +kernel
theorem z_m_text_165 : decode b_m_text 165 = .ok (.iastore, 1) := by decide +kernel
theorem z_m_text_166 : decode b_m_text 166 = .ok (.iinc 9 (-1), 3) := by decide +kernel
theorem z_m_text_169 : decode b_m_text 169 = .ok (.goto (-49), 3) := by decide +kernel
theorem z_m_text_172 : decode b_m_text 172 = .ok (.aload_n 0, 1) := by decide +kernel
theorem z_m_text_173 : decode b_m_text 173 = .ok (.getfield 27, 3) := by decide +kernel
theorem z_m_text_176 : decode b_m_text 176 = .ok (.iload 7, 2) := by decide +kernel
theorem z_m_text_178 : decode b_m_text 178 = .ok (.iaload, 1) := by decide +kernel
theorem z_m_text_179 : decode b_m_text 179 = .ok (.ireturn, 1) := by decide +kernel
theorem z_m_textAt_0 : decode b_m_textAt 0 = .ok (.aload_n 0, 1) := by decide +kernel
theorem z_m_textAt_1 : decode b_m_textAt 1 = .ok (.aload_n 0, 1) := by decide +kernel
theorem z_m_textAt_2 : decode b_m_textAt 2 = .ok (.iload_n 1, 1) := by decide +kernel
theorem z_m_textAt_3 : decode b_m_textAt 3 = .ok (.iload_n 2, 1) := by decide +kernel
theorem z_m_textAt_4 : decode b_m_textAt 4 = .ok (.invokevirtual 65, 3) := by decide +kernel
theorem z_m_textAt_7 : decode b_m_textAt 7 = .ok (.ifCond .ne 7, 3) := by decide +kernel
theorem z_m_textAt_10 : decode b_m_textAt 10 = .ok (.iconst 1, 1) := by decide +kernel
theorem z_m_textAt_11 : decode b_m_textAt 11 = .ok (.goto 4, 3) := by decide +kernel
theorem z_m_textAt_14 : decode b_m_textAt 14 = .ok (.iconst 0, 1) := by decide +kernel
theorem z_m_textAt_15 : decode b_m_textAt 15 = .ok (.iload_n 3, 1) := by decide +kernel
theorem z_m_textAt_16 : decode b_m_textAt 16 = .ok (.ifCond .ge 7, 3) := by decide +kernel
theorem z_m_textAt_19 : decode b_m_textAt 19 = .ok (.iconst 1, 1) := by decide +kernel
theorem z_m_textAt_20 : decode b_m_textAt 20 = .ok (.goto 4, 3) := by decide +kernel
theorem z_m_textAt_23 : decode b_m_textAt 23 = .ok (.iconst 0, 1) := by decide +kernel
theorem z_m_textAt_24 : decode b_m_textAt 24 = .ok (.iconst 0, 1) := by decide +kernel
theorem z_m_textAt_25 : decode b_m_textAt 25 = .ok (.iconst 0, 1) := by decide +kernel
theorem z_m_textAt_26 : decode b_m_textAt 26 = .ok (.invokevirtual 61, 3) := by decide +kernel
theorem z_m_textAt_29 : decode b_m_textAt 29 = .ok (.ifCond .eq 5, 3) := by decide +kernel
theorem z_m_textAt_32 : decode b_m_textAt 32 = .ok (.iconst 0, 1) := by decide +kernel
theorem z_m_textAt_33 : decode b_m_textAt 33 = .ok (.ireturn, 1) := by decide +kernel
theorem z_m_textAt_34 : decode b_m_textAt 34 = .ok (.bipush 30, 2) := by decide +kernel
theorem z_m_textAt_36 : decode b_m_textAt 36 = .ok (.iload_n 1, 1) := by decide +kernel
theorem z_m_textAt_37 : decode b_m_textAt 37 = .ok (.imul, 1) := by decide +kernel
theorem z_m_textAt_38 : decode b_m_textAt 38 = .ok (.iload_n 2, 1) := by decide +kernel
theorem z_m_textAt_39 : decode b_m_textAt 39 = .ok (.iadd, 1) := by decide +kernel
theorem z_m_textAt_40 : decode b_m_textAt 40 = .ok (.istore 4, 2) := by decide +kernel
theorem z_m_textAt_42 : decode b_m_textAt 42 = .ok (.iload_n 3, 1) := by decide +kernel
theorem z_m_textAt_43 : decode b_m_textAt 43 = .ok (.aload_n 0, 1) := by decide +kernel
theorem z_m_textAt_44 : decode b_m_textAt 44 = .ok (.getfield 27, 3) := by decide +kernel
theorem z_m_textAt_47 : decode b_m_textAt 47 = .ok (.iload 4, 2) := by decide +kernel
theorem z_m_textAt_49 : decode b_m_textAt 49 = .ok (.iaload, 1) := by decide +kernel
theorem z_m_textAt_50 : decode b_m_textAt 50 = .ok (.if_icmp .ge 18, 3) := by decide +kernel
theorem z_m_textAt_53 : decode b_m_textAt 53 = .ok (.aload_n 0, 1) := by decide +kernel
theorem z_m_textAt_54 : decode b_m_textAt 54 = .ok (.getfield 30, 3) := by decide +kernel
theorem z_m_textAt_57 : decode b_m_textAt 57 = .ok (.bipush 16, 2) := by decide +kernel
theorem z_m_textAt_59 : decode b_m_textAt 59 = .ok (.iload 4, 2) := by decide +kernel
theorem z_m_textAt_61 : decode b_m_textAt 61 = .ok (.imul, 1) := by decide +kernel
theorem z_m_textAt_62 : decode b_m_textAt 62 = .ok (.iload_n 3, 1) := by decide +kernel
theorem z_m_textAt_63 : decode b_m_textAt 63 = .ok (.iadd, 1) := by decide +kernel
theorem z_m_textAt_64 : decode b_m_textAt 64 = .ok (.iaload, 1) := by decide +kernel
theorem z_m_textAt_65 : decode b_m_textAt 65 = .ok (.goto 4, 3) := by decide +kernel
theorem z_m_textAt_68 : decode b_m_textAt 68 = .ok (.iconst (-1), 1) := by decide +kernel
theorem z_m_textAt_69 : decode b_m_textAt 69 = .ok (.ireturn, 1) := by decide +kernel
theorem z_m_find_0 : decode b_m_find 0 = .ok (.aload_n 0, 1) := by decide +kernel
theorem z_m_find_1 : decode b_m_find 1 = .ok (.iload_n 1, 1) := by decide +kernel
theorem z_m_find_2 : decode b_m_find 2 = .ok (.invokestatic 53, 3) := by decide +kernel
theorem z_m_find_5 : decode b_m_find 5 = .ok (.ifCond .ne 7, 3) := by decide +kernel
theorem z_m_find_8 : decode b_m_find 8 = .ok (.iconst 1, 1) := by decide +kernel
theorem z_m_find_9 : decode b_m_find 9 = .ok (.goto 4, 3) := by decide +kernel
theorem z_m_find_12 : decode b_m_find 12 = .ok (.iconst 0, 1) := by decide +kernel
theorem z_m_find_13 : decode b_m_find 13 = .ok (.iload 4, 2) := by decide +kernel
theorem z_m_find_15 : decode b_m_find 15 = .ok (.iconst 0, 1) := by decide +kernel
theorem z_m_find_16 : decode b_m_find 16 = .ok (.bipush 8, 2) := by decide +kernel
theorem z_m_find_18 : decode b_m_find 18 = .ok (.invokestatic 49, 3) := by decide +kernel
theorem z_m_find_21 : decode b_m_find 21 = .ok (.ifCond .ne 7, 3) := by decide +kernel
theorem z_m_find_24 : decode b_m_find 24 = .ok (.iconst 1, 1) := by decide +kernel
theorem z_m_find_25 : decode b_m_find 25 = .ok (.goto 4, 3) := by decide +kernel
theorem z_m_find_28 : decode b_m_find 28 = .ok (.iconst 0, 1) := by decide +kernel
theorem z_m_find_29 : decode b_m_find 29 = .ok (.iconst 0, 1) := by decide +kernel
theorem z_m_find_30 : decode b_m_find 30 = .ok (.iconst 0, 1) := by decide +kernel
theorem z_m_find_31 : decode b_m_find 31 = .ok (.invokevirtual 61, 3) := by decide +kernel
theorem z_m_find_34 : decode b_m_find 34 = .ok (.ifCond .eq 5, 3) := by decide +kernel
theorem z_m_find_37 : decode b_m_find 37 = .ok (.iconst 0, 1) := by decide +kernel
theorem z_m_find_38 : decode b_m_find 38 = .ok (.ireturn, 1) := by decide +kernel
theorem z_m_find_39 : decode b_m_find 39 = .ok (.iconst 0, 1) := by decide +kernel
theorem z_m_find_40 : decode b_m_find 40 = .ok (.istore 5, 2) := by decide +kernel
theorem z_m_find_42 : decode b_m_find 42 = .ok (.iload 5, 2) := by decide +kernel
theorem z_m_find_44 : decode b_m_find 44 = .ok (.aload_n 0, 1) := by decide +kernel
theorem z_m_find_45 : decode b_m_find 45 = .ok (.getfield 13, 3) := by decide +kernel
theorem z_m_find_48 : decode b_m_find 48 = .ok (.iload_n 1, 1) := by decide +kernel
theorem z_m_find_49 : decode b_m_find 49 = .ok (.iaload, 1) := by decide +kernel
theorem z_m_find_50 : decode b_m_find 50 = .ok (.if_icmp .ge 116, 3) := by decide +kernel
theorem z_m_find_53 : decode b_m_find 53 = .ok (.bipush 30, 2) := by decide +kernel
theorem z_m_find_55 : decode b_m_find 55 = .ok (.iload_n 1, 1) := by decide +kernel
theorem z_m_find_56 : decode b_m_find 56 = .ok (.imul, 1) := by decide +kernel
theorem z_m_find_57 : decode b_m_find 57 = .ok (.iload 5, 2) := by decide +kernel
theorem z_m_find_59 : decode b_m_find 59 = .ok (.iadd, 1) := by decide +kernel
theorem z_m_find_60 : decode b_m_find 60 = .ok (.istore 6, 2) := by decide +kernel
theorem z_m_find_62 : decode b_m_find 62 = .ok (.aload_n 0, 1) := by decide +kernel
theorem z_m_find_63 : decode b_m_find 63 = .ok (.getfield 19, 3) := by decide +kernel
theorem z_m_find_66 : decode b_m_find 66 = .ok (.iload 6, 2) := by decide +kernel
theorem z_m_find_68 : decode b_m_find 68 = .ok (.baload, 1) := by decide +kernel
theorem z_m_find_69 : decode b_m_find 69 = .ok (.ifCond .eq 19, 3) := by decide +kernel
theorem z_m_find_72 : decode b_m_find 72 = .ok (.aload_n 0, 1) := by decide +kernel
theorem z_m_find_73 : decode b_m_find 73 = .ok (.getfield 27, 3) := by decide +kernel
theorem z_m_find_76 : decode b_m_find 76 = .ok (.iload 6, 2) := by decide +kernel
theorem z_m_find_78 : decode b_m_find 78 = .ok (.iaload, 1) := by decide +kernel
theorem z_m_find_79 : decode b_m_find 79 = .ok (.iload 4, 2) := by decide +kernel
theorem z_m_find_81 : decode b_m_find 81 = .ok (.if_icmp .ne 7, 3) := by decide +kernel
theorem z_m_find_84 : decode b_m_find 84 = .ok (.iconst 1, 1) := by decide +kernel
theorem z_m_find_85 : decode b_m_find 85 = .ok (.goto 4, 3) := by decide +kernel
theorem z_m_find_88 : decode b_m_find 88 = .ok (.iconst 0, 1) := by decide +kernel
theorem z_m_find_89 : decode b_m_find 89 = .ok (.istore 7, 2) := by decide +kernel
theorem z_m_find_91 : decode b_m_find 91 = .ok (.iconst 0, 1) := by decide +kernel
theorem z_m_find_92 : decode b_m_find 92 = .ok (.istore 8, 2) := by decide +kernel
theorem z_m_find_94 : decode b_m_find 94 = .ok (.iload 8, 2) := by decide +kernel
theorem z_m_find_96 : decode b_m_find 96 = .ok (.iload 4, 2) := by decide +kernel
theorem z_m_find_98 : decode b_m_find 98 = .ok (.if_icmp .ge 54, 3) := by decide +kernel
theorem z_m_find_101 : decode b_m_find 101 = .ok (.iload 7, 2) := by decide +kernel
theorem z_m_find_103 : decode b_m_find 103 = .ok (.ifCond .eq 49, 3) := by decide +kernel
theorem z_m_find_106 : decode b_m_find 106 = .ok (.aload_n 0, 1) := by decide +kernel
theorem z_m_find_107 : decode b_m_find 107 = .ok (.getfield 30, 3) := by decide +kernel
theorem z_m_find_110 : decode b_m_find 110 = .ok (.bipush 16, 2) := by decide +kernel
theorem z_m_find_112 : decode b_m_find 112 = .ok (.iload 6, 2) := by decide +kernel
theorem z_m_find_114 : decode b_m_find 114 = .ok (.imul, 1) := by decide +kernel
theorem z_m_find_115 : decode b_m_find 115 = .ok (.iload 8, 2) := by decide +kernel
theorem z_m_find_117 : decode b_m_find 117 = .ok (.iadd, 1) := by decide +kernel
theorem z_m_find_118 : decode b_m_find 118 = .ok (.iaload, 1) := by decide +kernel
theorem z_m_find_119 : decode b_m_find 119 = .ok (.lload_n 2, 1) := by decide +kernel
theorem z_m_find_120 : decode b_m_find 120 = .ok (.bipush 8, 2) := by decide +kernel
theorem z_m_find_122 : decode b_m_find 122 = .ok (.iload 4, 2) := by decide +kernel
theorem z_m_find_124 : decode b_m_find 124 = .ok (.iconst 1, 1) := by decide +kernel
theorem z_m_find_125 : decode b_m_find 125 = .ok (.isub, 1) := by decide +kernel
theorem z_m_find_126 : decode b_m_find 126 = .ok (.iload 8, 2) := by decide +kernel
theorem z_m_find_128 : decode b_m_find 128 = .ok (.isub, 1) := by decide +kernel
theorem z_m_find_129 : decode b_m_find 129 = .ok (.imul, 1) := by decide +kernel
theorem z_m_find_130 : decode b_m_find 130 = .ok (.lshr, 1) := by decide +kernel
theorem z_m_find_131 : decode b_m_find 131 = .ok (.l2i, 1) := by decide +kernel
theorem z_m_find_132 : decode b_m_find 132 = .ok (.sipush 255, 3) := by decide +kernel
theorem z_m_find_135 : decode b_m_find 135 = .ok (.iand, 1) := by decide +kernel
theorem z_m_find_136 : decode b_m_find 136 = .ok (.if_icmp .ne 7, 3) := by decide +kernel
theorem z_m_find_139 : decode b_m_find 139 = .ok (.iconst 1, 1) := by decide +kernel
theorem z_m_find_140 : decode b_m_find 140 = .ok (.goto 4, 3) := by decide +kernel
theorem z_m_find_143 : decode b_m_find 143 = .ok (.iconst 0, 1) := by decide +kernel
theorem z_m_find_144 : decode b_m_find 144 = .ok (.istore 7, 2) := by decide +kernel
theorem z_m_find_146 : decode b_m_find 146 = .ok (.iinc 8 1, 3) := by decide +kernel
theorem z_m_find_149 : decode b_m_find 149 = .ok (.goto (-55), 3) := by decide +kernel
theorem z_m_find_152 : decode b_m_find 152 = .ok (.iload 7, 2) := by decide +kernel
theorem z_m_find_154 : decode b_m_find 154 = .ok (.ifCond .eq 6, 3) := by decide +kernel
theorem z_m_find_157 : decode b_m_find 157 = .ok (.iload 5, 2) := by decide +kernel
theorem z_m_find_159 : decode b_m_find 159 = .ok (.ireturn, 1) := by decide +kernel
theorem z_m_find_160 : decode b_m_find 160 = .ok (.iinc 5 1, 3) := by decide +kernel
theorem z_m_find_163 : decode b_m_find 163 = .ok (.goto (-121), 3) := by decide +kernel
theorem z_m_find_166 : decode b_m_find 166 = .ok (.iconst (-1), 1) := by decide +kernel
theorem z_m_find_167 : decode b_m_find 167 = .ok (.ireturn, 1) := by decide +kernel
theorem z_m_subject_0 : decode b_m_subject 0 = .ok (.aload_n 0, 1) := by decide +kernel
theorem z_m_subject_1 : decode b_m_subject 1 = .ok (.aload_n 0, 1) := by decide +kernel
theorem z_m_subject_2 : decode b_m_subject 2 = .ok (.iload_n 1, 1) := by decide +kernel
theorem z_m_subject_3 : decode b_m_subject 3 = .ok (.iload_n 2, 1) := by decide +kernel
theorem z_m_subject_4 : decode b_m_subject 4 = .ok (.invokevirtual 65, 3) := by decide +kernel
theorem z_m_subject_7 : decode b_m_subject 7 = .ok (.ifCond .eq 12, 3) := by decide +kernel
theorem z_m_subject_10 : decode b_m_subject 10 = .ok (.iload_n 3, 1) := by decide +kernel
theorem z_m_subject_11 : decode b_m_subject 11 = .ok (.iconst 0, 1) := by decide +kernel
theorem z_m_subject_12 : decode b_m_subject 12 = .ok (.iconst 3, 1) := by decide +kernel
theorem z_m_subject_13 : decode b_m_subject 13 = .ok (.invokestatic 49, 3) := by decide +kernel
theorem z_m_subject_16 : decode b_m_subject 16 = .ok (.ifCond .ne 7, 3) := by decide +kernel
theorem z_m_subject_19 : decode b_m_subject 19 = .ok (.iconst 1, 1) := by decide +kernel
theorem z_m_subject_20 : decode b_m_subject 20 = .ok (.goto 4, 3) := by decide +kernel
theorem z_m_subject_23 : decode b_m_subject 23 = .ok (.iconst 0, 1) := by decide +kernel
theorem z_m_subject_24 : decode b_m_subject 24 = .ok (.iconst 0, 1) := by decide +kernel
theorem z_m_subject_25 : decode b_m_subject 25 = .ok (.iconst 0, 1) := by decide +kernel
theorem z_m_subject_26 : decode b_m_subject 26 = .ok (.iconst 0, 1) := by decide +kernel
theorem z_m_subject_27 : decode b_m_subject 27 = .ok (.invokevirtual 61, 3) := by decide +kernel
theorem z_m_subject_30 : decode b_m_subject 30 = .ok (.ifCond .eq 5, 3) := by decide +kernel
theorem z_m_subject_33 : decode b_m_subject 33 = .ok (.iconst 0, 1) := by decide +kernel
theorem z_m_subject_34 : decode b_m_subject 34 = .ok (.ireturn, 1) := by decide +kernel
theorem z_m_subject_35 : decode b_m_subject 35 = .ok (.bipush 30, 2) := by decide +kernel
theorem z_m_subject_37 : decode b_m_subject 37 = .ok (.iload_n 1, 1) := by decide +kernel
theorem z_m_subject_38 : decode b_m_subject 38 = .ok (.imul, 1) := by decide +kernel
theorem z_m_subject_39 : decode b_m_subject 39 = .ok (.iload_n 2, 1) := by decide +kernel
theorem z_m_subject_40 : decode b_m_subject 40 = .ok (.iadd, 1) := by decide +kernel
theorem z_m_subject_41 : decode b_m_subject 41 = .ok (.istore 4, 2) := by decide +kernel
theorem z_m_subject_43 : decode b_m_subject 43 = .ok (.iload_n 3, 1) := by decide +kernel
theorem z_m_subject_44 : decode b_m_subject 44 = .ok (.ifCond .ne 13, 3) := by decide +kernel
theorem z_m_subject_47 : decode b_m_subject 47 = .ok (.aload_n 0, 1) := by decide +kernel
theorem z_m_subject_48 : decode b_m_subject 48 = .ok (.getfield 16, 3) := by decide +kernel
theorem z_m_subject_51 : decode b_m_subject 51 = .ok (.iload 4, 2) := by decide +kernel
theorem z_m_subject_53 : decode b_m_subject 53 = .ok (.iaload, 1) := by decide +kernel
theorem z_m_subject_54 : decode b_m_subject 54 = .ok (.goto 48, 3) := by decide +kernel
theorem z_m_subject_57 : decode b_m_subject 57 = .ok (.iload_n 3, 1) := by decide +kernel
theorem z_m_subject_58 : decode b_m_subject 58 = .ok (.iconst 1, 1) := by decide +kernel
theorem z_m_subject_59 : decode b_m_subject 59 = .ok (.if_icmp .ne 21, 3) := by decide +kernel
theorem z_m_subject_62 : decode b_m_subject 62 = .ok (.aload_n 0, 1) := by decide +kernel
theorem z_m_subject_63 : decode b_m_subject 63 = .ok (.getfield 19, 3) := by decide +kernel
theorem z_m_subject_66 : decode b_m_subject 66 = .ok (.iload 4, 2) := by decide +kernel
theorem z_m_subject_68 : decode b_m_subject 68 = .ok (.baload, 1) := by decide +kernel
theorem z_m_subject_69 : decode b_m_subject 69 = .ok (.ifCond .eq 7, 3) := by decide +kernel
theorem z_m_subject_72 : decode b_m_subject 72 = .ok (.iconst 1, 1) := by decide +kernel
theorem z_m_subject_73 : decode b_m_subject 73 = .ok (.goto 29, 3) := by decide +kernel
theorem z_m_subject_76 : decode b_m_subject 76 = .ok (.iconst 0, 1) := by decide +kernel
theorem z_m_subject_77 : decode b_m_subject 77 = .ok (.goto 25, 3) := by decide +kernel
theorem z_m_subject_80 : decode b_m_subject 80 = .ok (.iload_n 3, 1) := by decide +kernel
theorem z_m_subject_81 : decode b_m_subject 81 = .ok (.iconst 2, 1) := by decide +kernel
theorem z_m_subject_82 : decode b_m_subject 82 = .ok (.if_icmp .ne 14, 3) := by decide +kernel
theorem z_m_subject_85 : decode b_m_subject 85 = .ok (.aload_n 0, 1) := by decide +kernel
theorem z_m_subject_86 : decode b_m_subject 86 = .ok (.getfield 23, 3) := by decide +kernel
theorem z_m_subject_89 : decode b_m_subject 89 = .ok (.iload 4, 2) := by decide +kernel
theorem z_m_subject_91 : decode b_m_subject 91 = .ok (.laload, 1) := by decide +kernel
theorem z_m_subject_92 : decode b_m_subject 92 = .ok (.l2i, 1) := by decide +kernel
theorem z_m_subject_93 : decode b_m_subject 93 = .ok (.goto 9, 3) := by decide +kernel
theorem z_m_subject_96 : decode b_m_subject 96 = .ok (.aload_n 0, 1) := by decide +kernel
theorem z_m_subject_97 : decode b_m_subject 97 = .ok (.iload_n 1, 1) := by decide +kernel
theorem z_m_subject_98 : decode b_m_subject 98 = .ok (.iload_n 2, 1) := by decide +kernel
theorem z_m_subject_99 : decode b_m_subject 99 = .ok (.invokevirtual 97, 3) := by decide +kernel
theorem z_m_subject_102 : decode b_m_subject 102 = .ok (.ireturn, 1) := by decide +kernel
theorem z_m_row_0 : decode b_m_row 0 = .ok (.aload_n 0, 1) := by decide +kernel
theorem z_m_row_1 : decode b_m_row 1 = .ok (.iload_n 1, 1) := by decide +kernel
theorem z_m_row_2 : decode b_m_row 2 = .ok (.iconst 0, 1) := by decide +kernel
theorem z_m_row_3 : decode b_m_row 3 = .ok (.aload_n 0, 1) := by decide +kernel
theorem z_m_row_4 : decode b_m_row 4 = .ok (.getfield 110, 3) := by decide +kernel
theorem z_m_row_7 : decode b_m_row 7 = .ok (.iconst 1, 1) := by decide +kernel
theorem z_m_row_8 : decode b_m_row 8 = .ok (.isub, 1) := by decide +kernel
theorem z_m_row_9 : decode b_m_row 9 = .ok (.invokestatic 49, 3) := by decide +kernel
theorem z_m_row_12 : decode b_m_row 12 = .ok (.ifCond .eq 12, 3) := by decide +kernel
theorem z_m_row_15 : decode b_m_row 15 = .ok (.iload_n 2, 1) := by decide +kernel
theorem z_m_row_16 : decode b_m_row 16 = .ok (.iconst 0, 1) := by decide +kernel
theorem z_m_row_17 : decode b_m_row 17 = .ok (.iconst 4, 1) := by decide +kernel
theorem z_m_row_18 : decode b_m_row 18 = .ok (.invokestatic 49, 3) := by decide +kernel
theorem z_m_row_21 : decode b_m_row 21 = .ok (.ifCond .ne 7, 3) := by decide +kernel
theorem z_m_row_24 : decode b_m_row 24 = .ok (.iconst 1, 1) := by decide +kernel
theorem z_m_row_25 : decode b_m_row 25 = .ok (.goto 4, 3) := by decide +kernel
theorem z_m_row_28 : decode b_m_row 28 = .ok (.iconst 0, 1) := by decide +kernel
theorem z_m_row_29 : decode b_m_row 29 = .ok (.iconst 0, 1) := by decide +kernel
theorem z_m_row_30 : decode b_m_row 30 = .ok (.iconst 0, 1) := by decide +kernel
theorem z_m_row_31 : decode b_m_row 31 = .ok (.iconst 0, 1) := by decide +kernel
theorem z_m_row_32 : decode b_m_row 32 = .ok (.invokevirtual 61, 3) := by decide +kernel
theorem z_m_row_35 : decode b_m_row 35 = .ok (.ifCond .eq 5, 3) := by decide +kernel
theorem z_m_row_38 : decode b_m_row 38 = .ok (.iconst 0, 1) := by decide +kernel
theorem z_m_row_39 : decode b_m_row 39 = .ok (.ireturn, 1) := by decide +kernel
theorem z_m_row_40 : decode b_m_row 40 = .ok (.aload_n 0, 1) := by decide +kernel
theorem z_m_row_41 : decode b_m_row 41 = .ok (.getfield 42, 3) := by decide +kernel
theorem z_m_row_44 : decode b_m_row 44 = .ok (.iconst 5, 1) := by decide +kernel
theorem z_m_row_45 : decode b_m_row 45 = .ok (.iload_n 1, 1) := by decide +kernel
theorem z_m_row_46 : decode b_m_row 46 = .ok (.imul, 1) := by decide +kernel
theorem z_m_row_47 : decode b_m_row 47 = .ok (.iload_n 2, 1) := by decide +kernel
theorem z_m_row_48 : decode b_m_row 48 = .ok (.iadd, 1) := by decide +kernel
theorem z_m_row_49 : decode b_m_row 49 = .ok (.iaload, 1) := by decide +kernel
theorem z_m_row_50 : decode b_m_row 50 = .ok (.ireturn, 1) := by decide +kernel
theorem z_m_tick_0 : decode b_m_tick 0 = .ok (.aload_n 0, 1) := by decide +kernel
theorem z_m_tick_1 : decode b_m_tick 1 = .ok (.iload_n 1, 1) := by decide +kernel
theorem z_m_tick_2 : decode b_m_tick 2 = .ok (.iconst 1, 1) := by decide +kernel
theorem z_m_tick_3 : decode b_m_tick 3 = .ok (.ldc 129, 2) := by decide +kernel
theorem z_m_tick_5 : decode b_m_tick 5 = .ok (.invokestatic 49, 3) := by decide +kernel
theorem z_m_tick_8 : decode b_m_tick 8 = .ok (.ifCond .eq 14, 3) := by decide +kernel
theorem z_m_tick_11 : decode b_m_tick 11 = .ok (.aload_n 0, 1) := by decide +kernel
theorem z_m_tick_12 : decode b_m_tick 12 = .ok (.getfield 130, 3) := by decide +kernel
theorem z_m_tick_15 : decode b_m_tick 15 = .ok (.iload_n 1, 1) := by decide +kernel
theorem z_m_tick_16 : decode b_m_tick 16 = .ok (.iadd, 1) := by decide +kernel
theorem z_m_tick_17 : decode b_m_tick 17 = .ok (.ldc 133, 2) := by decide +kernel
theorem z_m_tick_19 : decode b_m_tick 19 = .ok (.if_icmp .le 7, 3) := by decide +kernel
theorem z_m_tick_22 : decode b_m_tick 22 = .ok (.iconst 1, 1) := by decide +kernel
theorem z_m_tick_23 : decode b_m_tick 23 = .ok (.goto 4, 3) := by decide +kernel
theorem z_m_tick_26 : decode b_m_tick 26 = .ok (.iconst 0, 1) := by decide +kernel
theorem z_m_tick_27 : decode b_m_tick 27 = .ok (.iconst 0, 1) := by decide +kernel
theorem z_m_tick_28 : decode b_m_tick 28 = .ok (.iconst 0, 1) := by decide +kernel
theorem z_m_tick_29 : decode b_m_tick 29 = .ok (.iconst 0, 1) := by decide +kernel
theorem z_m_tick_30 : decode b_m_tick 30 = .ok (.invokevirtual 61, 3) := by decide +kernel
theorem z_m_tick_33 : decode b_m_tick 33 = .ok (.ifCond .eq 5, 3) := by decide +kernel
theorem z_m_tick_36 : decode b_m_tick 36 = .ok (.iconst 0, 1) := by decide +kernel
theorem z_m_tick_37 : decode b_m_tick 37 = .ok (.ireturn, 1) := by decide +kernel
theorem z_m_tick_38 : decode b_m_tick 38 = .ok (.aload_n 0, 1) := by decide +kernel
theorem z_m_tick_39 : decode b_m_tick 39 = .ok (.dup, 1) := by decide +kernel
theorem z_m_tick_40 : decode b_m_tick 40 = .ok (.getfield 130, 3) := by decide +kernel
theorem z_m_tick_43 : decode b_m_tick 43 = .ok (.iload_n 1, 1) := by decide +kernel
theorem z_m_tick_44 : decode b_m_tick 44 = .ok (.iadd, 1) := by decide +kernel
theorem z_m_tick_45 : decode b_m_tick 45 = .ok (.putfield 130, 3) := by decide +kernel
theorem z_m_tick_48 : decode b_m_tick 48 = .ok (.aload_n 0, 1) := by decide +kernel
theorem z_m_tick_49 : decode b_m_tick 49 = .ok (.getfield 130, 3) := by decide +kernel
theorem z_m_tick_52 : decode b_m_tick 52 = .ok (.ireturn, 1) := by decide +kernel
theorem z_m_count_0 : decode b_m_count 0 = .ok (.aload_n 0, 1) := by decide +kernel
theorem z_m_count_1 : decode b_m_count 1 = .ok (.iload_n 1, 1) := by decide +kernel
theorem z_m_count_2 : decode b_m_count 2 = .ok (.iconst 0, 1) := by decide +kernel
theorem z_m_count_3 : decode b_m_count 3 = .ok (.iconst 3, 1) := by decide +kernel
theorem z_m_count_4 : decode b_m_count 4 = .ok (.invokestatic 49, 3) := by decide +kernel
theorem z_m_count_7 : decode b_m_count 7 = .ok (.ifCond .ne 7, 3) := by decide +kernel
theorem z_m_count_10 : decode b_m_count 10 = .ok (.iconst 1, 1) := by decide +kernel
theorem z_m_count_11 : decode b_m_count 11 = .ok (.goto 4, 3) := by decide +kernel
theorem z_m_count_14 : decode b_m_count 14 = .ok (.iconst 0, 1) := by decide +kernel
theorem z_m_count_15 : decode b_m_count 15 = .ok (.iconst 0, 1) := by decide +kernel
theorem z_m_count_16 : decode b_m_count 16 = .ok (.iconst 0, 1) := by decide +kernel
theorem z_m_count_17 : decode b_m_count 17 = .ok (.iconst 0, 1) := by decide +kernel
theorem z_m_count_18 : decode b_m_count 18 = .ok (.invokevirtual 61, 3) := by decide +kernel
theorem z_m_count_21 : decode b_m_count 21 = .ok (.ifCond .eq 5, 3) := by decide +kernel
theorem z_m_count_24 : decode b_m_count 24 = .ok (.iconst 0, 1) := by decide +kernel
theorem z_m_count_25 : decode b_m_count 25 = .ok (.ireturn, 1) := by decide +kernel
theorem z_m_count_26 : decode b_m_count 26 = .ok (.iconst 0, 1) := by decide +kernel
theorem z_m_count_27 : decode b_m_count 27 = .ok (.istore_n 2, 1) := by decide +kernel
theorem z_m_count_28 : decode b_m_count 28 = .ok (.iconst 0, 1) := by decide +kernel
theorem z_m_count_29 : decode b_m_count 29 = .ok (.istore_n 3, 1) := by decide +kernel
theorem z_m_count_30 : decode b_m_count 30 = .ok (.iconst 0, 1) := by decide +kernel
theorem z_m_count_31 : decode b_m_count 31 = .ok (.istore 4, 2) := by decide +kernel
theorem z_m_count_33 : decode b_m_count 33 = .ok (.iload 4, 2) := by decide +kernel
theorem z_m_count_35 : decode b_m_count 35 = .ok (.bipush 8, 2) := by decide +kernel
theorem z_m_count_37 : decode b_m_count 37 = .ok (.if_icmp .ge 28, 3) := by decide +kernel
theorem z_m_count_40 : decode b_m_count 40 = .ok (.iload_n 2, 1) := by decide +kernel
theorem z_m_count_41 : decode b_m_count 41 = .ok (.aload_n 0, 1) := by decide +kernel
theorem z_m_count_42 : decode b_m_count 42 = .ok (.getfield 13, 3) := by decide +kernel
theorem z_m_count_45 : decode b_m_count 45 = .ok (.iload 4, 2) := by decide +kernel
theorem z_m_count_47 : decode b_m_count 47 = .ok (.iaload, 1) := by decide +kernel
theorem z_m_count_48 : decode b_m_count 48 = .ok (.iadd, 1) := by decide +kernel
theorem z_m_count_49 : decode b_m_count 49 = .ok (.istore_n 2, 1) := by decide +kernel
theorem z_m_count_50 : decode b_m_count 50 = .ok (.iload_n 3, 1) := by decide +kernel
theorem z_m_count_51 : decode b_m_count 51 = .ok (.aload_n 0, 1) := by decide +kernel
theorem z_m_count_52 : decode b_m_count 52 = .ok (.iload 4, 2) := by decide +kernel
theorem z_m_count_54 : decode b_m_count 54 = .ok (.invokevirtual 103, 3) := by decide +kernel
theorem z_m_count_57 : decode b_m_count 57 = .ok (.iadd, 1) := by decide +kernel
theorem z_m_count_58 : decode b_m_count 58 = .ok (.istore_n 3, 1) := by decide +kernel
theorem z_m_count_59 : decode b_m_count 59 = .ok (.iinc 4 1, 3) := by decide +kernel
theorem z_m_count_62 : decode b_m_count 62 = .ok (.goto (-29), 3) := by decide +kernel
theorem z_m_count_65 : decode b_m_count 65 = .ok (.iload_n 1, 1) := by decide +kernel
theorem z_m_count_66 : decode b_m_count 66 = .ok (.ifCond .ne 10, 3) := by decide +kernel
theorem z_m_count_69 : decode b_m_count 69 = .ok (.aload_n 0, 1) := by decide +kernel
theorem z_m_count_70 : decode b_m_count 70 = .ok (.getfield 107, 3) := by decide +kernel
theorem z_m_count_73 : decode b_m_count 73 = .ok (.goto 25, 3) := by decide +kernel
theorem z_m_count_76 : decode b_m_count 76 = .ok (.iload_n 1, 1) := by decide +kernel
theorem z_m_count_77 : decode b_m_count 77 = .ok (.iconst 1, 1) := by decide +kernel
theorem z_m_count_78 : decode b_m_count 78 = .ok (.if_icmp .ne 10, 3) := by decide +kernel
theorem z_m_count_81 : decode b_m_count 81 = .ok (.aload_n 0, 1) := by decide +kernel
theorem z_m_count_82 : decode b_m_count 82 = .ok (.getfield 110, 3) := by decide +kernel
theorem z_m_count_85 : decode b_m_count 85 = .ok (.goto 13, 3) := by decide +kernel
theorem z_m_count_88 : decode b_m_count 88 = .ok (.iload_n 1, 1) := by decide +kernel
theorem z_m_count_89 : decode b_m_count 89 = .ok (.iconst 2, 1) := by decide +kernel
theorem z_m_count_90 : decode b_m_count 90 = .ok (.if_icmp .ne 7, 3) := by decide +kernel
theorem z_m_count_93 : decode b_m_count 93 = .ok (.iload_n 2, 1) := by decide +kernel
theorem z_m_count_94 : decode b_m_count 94 = .ok (.goto 4, 3) := by decide +kernel
theorem z_m_count_97 : decode b_m_count 97 = .ok (.iload_n 3, 1) := by decide +kernel
theorem z_m_count_98 : decode b_m_count 98 = .ok (.ireturn, 1) := by decide +kernel
theorem z_m_book_0 : decode b_m_book 0 = .ok (.aload_n 0, 1) := by decide +kernel
theorem z_m_book_1 : decode b_m_book 1 = .ok (.iconst 0, 1) := by decide +kernel
theorem z_m_book_2 : decode b_m_book 2 = .ok (.putfield 45, 3) := by decide +kernel
theorem z_m_book_5 : decode b_m_book 5 = .ok (.iconst 0, 1) := by decide +kernel
theorem z_m_book_6 : decode b_m_book 6 = .ok (.aload_n 0, 1) := by decide +kernel
theorem z_m_book_7 : decode b_m_book 7 = .ok (.getfield 130, 3) := by decide +kernel
theorem z_m_book_10 : decode b_m_book 10 = .ok (.invokestatic 135, 3) := by decide +kernel
theorem z_m_book_13 : decode b_m_book 13 = .ok (.aload_n 0, 1) := by decide +kernel
theorem z_m_book_14 : decode b_m_book 14 = .ok (.getfield 107, 3) := by decide +kernel
theorem z_m_book_17 : decode b_m_book 17 = .ok (.invokestatic 135, 3) := by decide +kernel
theorem z_m_book_20 : decode b_m_book 20 = .ok (.istore_n 1, 1) := by decide +kernel
theorem z_m_book_21 : decode b_m_book 21 = .ok (.iconst 0, 1) := by decide +kernel
theorem z_m_book_22 : decode b_m_book 22 = .ok (.istore_n 2, 1) := by decide +kernel
theorem z_m_book_23 : decode b_m_book 23 = .ok (.iload_n 2, 1) := by decide +kernel
theorem z_m_book_24 : decode b_m_book 24 = .ok (.bipush 8, 2) := by decide +kernel
theorem z_m_book_26 : decode b_m_book 26 = .ok (.if_icmp .ge 126, 3) := by decide +kernel
theorem z_m_book_29 : decode b_m_book 29 = .ok (.iload_n 1, 1) := by decide +kernel
theorem z_m_book_30 : decode b_m_book 30 = .ok (.aload_n 0, 1) := by decide +kernel
theorem z_m_book_31 : decode b_m_book 31 = .ok (.getfield 7, 3) := by decide +kernel
theorem z_m_book_34 : decode b_m_book 34 = .ok (.iload_n 2, 1) := by decide +kernel
theorem z_m_book_35 : decode b_m_book 35 = .ok (.iaload, 1) := by decide +kernel
theorem z_m_book_36 : decode b_m_book 36 = .ok (.invokestatic 135, 3) := by decide +kernel
theorem z_m_book_39 : decode b_m_book 39 = .ok (.istore_n 1, 1) := by decide +kernel
theorem z_m_book_40 : decode b_m_book 40 = .ok (.iconst 0, 1) := by decide +kernel
theorem z_m_book_41 : decode b_m_book 41 = .ok (.istore_n 3, 1) := by decide +kernel
theorem z_m_book_42 : decode b_m_book 42 = .ok (.iload_n 3, 1) := by decide +kernel
theorem z_m_book_43 : decode b_m_book 43 = .ok (.aload_n 0, 1) := by decide +kernel
theorem z_m_book_44 : decode b_m_book 44 = .ok (.getfield 13, 3) := by decide +kernel
theorem z_m_book_47 : decode b_m_book 47 = .ok (.iload_n 2, 1) := by decide +kernel
theorem z_m_book_48 : decode b_m_book 48 = .ok (.iaload, 1) := by decide +kernel
theorem z_m_book_49 : decode b_m_book 49 = .ok (.if_icmp .ge 97, 3) := by decide +kernel
theorem z_m_book_52 : decode b_m_book 52 = .ok (.bipush 30, 2) := by decide +kernel
theorem z_m_book_54 : decode b_m_book 54 = .ok (.iload_n 2, 1) := by decide +kernel
theorem z_m_book_55 : decode b_m_book 55 = .ok (.imul, 1) := by decide +kernel
theorem z_m_book_56 : decode b_m_book 56 = .ok (.iload_n 3, 1) := by decide +kernel
theorem z_m_book_57 : decode b_m_book 57 = .ok (.iadd, 1) := by decide +kernel
theorem z_m_book_58 : decode b_m_book 58 = .ok (.istore 4, 2) := by decide +kernel
theorem z_m_book_60 : decode b_m_book 60 = .ok (.iload_n 1, 1) := by decide +kernel
theorem z_m_book_61 : decode b_m_book 61 = .ok (.aload_n 0, 1) := by decide +kernel
theorem z_m_book_62 : decode b_m_book 62 = .ok (.getfield 16, 3) := by decide +kernel
theorem z_m_book_65 : decode b_m_book 65 = .ok (.iload 4, 2) := by decide +kernel
theorem z_m_book_67 : decode b_m_book 67 = .ok (.iaload, 1) := by decide +kernel
theorem z_m_book_68 : decode b_m_book 68 = .ok (.invokestatic 135, 3) := by decide +kernel
theorem z_m_book_71 : decode b_m_book 71 = .ok (.aload_n 0, 1) := by decide +kernel
theorem z_m_book_72 : decode b_m_book 72 = .ok (.getfield 19, 3) := by decide +kernel
theorem z_m_book_75 : decode b_m_book 75 = .ok (.iload 4, 2) := by decide +kernel
theorem z_m_book_77 : decode b_m_book 77 = .ok (.baload, 1) := by decide +kernel
theorem z_m_book_78 : decode b_m_book 78 = .ok (.ifCond .eq 7, 3) := by decide +kernel
theorem z_m_book_81 : decode b_m_book 81 = .ok (.iconst 1, 1) := by decide +kernel
theorem z_m_book_82 : decode b_m_book 82 = .ok (.goto 4, 3) := by decide +kernel
theorem z_m_book_85 : decode b_m_book 85 = .ok (.iconst 0, 1) := by decide +kernel
theorem z_m_book_86 : decode b_m_book 86 = .ok (.invokestatic 135, 3) := by decide +kernel
theorem z_m_book_89 : decode b_m_book 89 = .ok (.aload_n 0, 1) := by decide +kernel
theorem z_m_book_90 : decode b_m_book 90 = .ok (.getfield 23, 3) := by decide +kernel
theorem z_m_book_93 : decode b_m_book 93 = .ok (.iload 4, 2) := by decide +kernel
theorem z_m_book_95 : decode b_m_book 95 = .ok (.laload, 1) := by decide +kernel
theorem z_m_book_96 : decode b_m_book 96 = .ok (.l2i, 1) := by decide +kernel
theorem z_m_book_97 : decode b_m_book 97 = .ok (.invokestatic 135, 3) := by decide +kernel
theorem z_m_book_100 : decode b_m_book 100 = .ok (.istore_n 1, 1) := by decide +kernel
theorem z_m_book_101 : decode b_m_book 101 = .ok (.iconst 0, 1) := by decide +kernel
theorem z_m_book_102 : decode b_m_book 102 = .ok (.istore 5, 2) := by decide +kernel
theorem z_m_book_104 : decode b_m_book 104 = .ok (.iload 5, 2) := by decide +kernel
theorem z_m_book_106 : decode b_m_book 106 = .ok (.aload_n 0, 1) := by decide +kernel
theorem z_m_book_107 : decode b_m_book 107 = .ok (.getfield 27, 3) := by decide +kernel
theorem z_m_book_110 : decode b_m_book 110 = .ok (.iload 4, 2) := by decide +kernel
theorem z_m_book_112 : decode b_m_book 112 = .ok (.iaload, 1) := by decide +kernel
theorem z_m_book_113 : decode b_m_book 113 = .ok (.if_icmp .ge 27, 3) := by decide +kernel
theorem z_m_book_116 : decode b_m_book 116 = .ok (.iload_n 1, 1) := by decide +kernel
theorem z_m_book_117 : decode b_m_book 117 = .ok (.aload_n 0, 1) := by decide +kernel
theorem z_m_book_118 : decode b_m_book 118 = .ok (.getfield 30, 3) := by decide +kernel
theorem z_m_book_121 : decode b_m_book 121 = .ok (.bipush 16, 2) := by decide +kernel
theorem z_m_book_123 : decode b_m_book 123 = .ok (.iload 4, 2) := by decide +kernel
theorem z_m_book_125 : decode b_m_book 125 = .ok (.imul, 1) := by decide +kernel
theorem z_m_book_126 : decode b_m_book 126 = .ok (.iload 5, 2) := by decide +kernel
theorem z_m_book_128 : decode b_m_book 128 = .ok (.iadd, 1) := by decide +kernel
theorem z_m_book_129 : decode b_m_book 129 = .ok (.iaload, 1) := by decide +kernel
theorem z_m_book_130 : decode b_m_book 130 = .ok (.invokestatic 135, 3) := by decide +kernel
theorem z_m_book_133 : decode b_m_book 133 = .ok (.istore_n 1, 1) := by decide +kernel
theorem z_m_book_134 : decode b_m_book 134 = .ok (.iinc 5 1, 3) := by decide +kernel
theorem z_m_book_137 : decode b_m_book 137 = .ok (.goto (-33), 3) := by decide +kernel
theorem z_m_book_140 : decode b_m_book 140 = .ok (.iinc 3 1, 3) := by decide +kernel
theorem z_m_book_143 : decode b_m_book 143 = .ok (.goto (-101), 3) := by decide +kernel
theorem z_m_book_146 : decode b_m_book 146 = .ok (.iinc 2 1, 3) := by decide +kernel
theorem z_m_book_149 : decode b_m_book 149 = .ok (.goto (-126), 3) := by decide +kernel
theorem z_m_book_152 : decode b_m_book 152 = .ok (.iconst 0, 1) := by decide +kernel
theorem z_m_book_153 : decode b_m_book 153 = .ok (.istore_n 2, 1) := by decide +kernel
theorem z_m_book_154 : decode b_m_book 154 = .ok (.iload_n 2, 1) := by decide +kernel
theorem z_m_book_155 : decode b_m_book 155 = .ok (.iconst 5, 1) := by decide +kernel
theorem z_m_book_156 : decode b_m_book 156 = .ok (.aload_n 0, 1) := by decide +kernel
theorem z_m_book_157 : decode b_m_book 157 = .ok (.getfield 110, 3) := by decide +kernel
theorem z_m_book_160 : decode b_m_book 160 = .ok (.imul, 1) := by decide +kernel
theorem z_m_book_161 : decode b_m_book 161 = .ok (.if_icmp .ge 20, 3) := by decide +kernel
theorem z_m_book_164 : decode b_m_book 164 = .ok (.iload_n 1, 1) := by decide +kernel
theorem z_m_book_165 : decode b_m_book 165 = .ok (.aload_n 0, 1) := by decide +kernel
theorem z_m_book_166 : decode b_m_book 166 = .ok (.getfield 42, 3) := by decide +kernel
theorem z_m_book_169 : decode b_m_book 169 = .ok (.iload_n 2, 1) := by decide +kernel
theorem z_m_book_170 : decode b_m_book 170 = .ok (.iaload, 1) := by decide +kernel
theorem z_m_book_171 : decode b_m_book 171 = .ok (.invokestatic 135, 3) := by decide +kernel
theorem z_m_book_174 : decode b_m_book 174 = .ok (.istore_n 1, 1) := by decide +kernel
theorem z_m_book_175 : decode b_m_book 175 = .ok (.iinc 2 1, 3) := by decide +kernel
theorem z_m_book_178 : decode b_m_book 178 = .ok (.goto (-24), 3) := by decide +kernel
theorem z_m_book_181 : decode b_m_book 181 = .ok (.iload_n 1, 1) := by decide +kernel
theorem z_m_book_182 : decode b_m_book 182 = .ok (.ireturn, 1) := by decide +kernel
theorem z_m_with_0 : decode b_m_with 0 = .ok (.iload_n 0, 1) := by decide +kernel
theorem z_m_with_1 : decode b_m_with 1 = .ok (.iload_n 1, 1) := by decide +kernel
theorem z_m_with_2 : decode b_m_with 2 = .ok (.ixor, 1) := by decide +kernel
theorem z_m_with_3 : decode b_m_with 3 = .ok (.istore_n 2, 1) := by decide +kernel
theorem z_m_with_4 : decode b_m_with 4 = .ok (.iload_n 2, 1) := by decide +kernel
theorem z_m_with_5 : decode b_m_with 5 = .ok (.iconst 5, 1) := by decide +kernel
theorem z_m_with_6 : decode b_m_with 6 = .ok (.ishl, 1) := by decide +kernel
theorem z_m_with_7 : decode b_m_with 7 = .ok (.iload_n 2, 1) := by decide +kernel
theorem z_m_with_8 : decode b_m_with 8 = .ok (.bipush 27, 2) := by decide +kernel
theorem z_m_with_10 : decode b_m_with 10 = .ok (.iushr, 1) := by decide +kernel
theorem z_m_with_11 : decode b_m_with 11 = .ok (.ior, 1) := by decide +kernel
theorem z_m_with_12 : decode b_m_with 12 = .ok (.ldc 134, 2) := by decide +kernel
theorem z_m_with_14 : decode b_m_with 14 = .ok (.imul, 1) := by decide +kernel
theorem z_m_with_15 : decode b_m_with 15 = .ok (.ireturn, 1) := by decide +kernel
theorem z_L_under_0 : decode b_L_under 0 = .ok (.aload_n 0, 1) := by decide +kernel
theorem z_L_under_1 : decode b_L_under 1 = .ok (.iload_n 1, 1) := by decide +kernel
theorem z_L_under_2 : decode b_L_under 2 = .ok (.iload_n 2, 1) := by decide +kernel
theorem z_L_under_3 : decode b_L_under 3 = .ok (.invokevirtual 7, 3) := by decide +kernel
theorem z_L_under_6 : decode b_L_under 6 = .ok (.goto 9, 3) := by decide +kernel
theorem z_L_under_9 : decode b_L_under 9 = .ok (.astore_n 3, 1) := by decide +kernel
theorem z_L_under_10 : decode b_L_under 10 = .ok (.iconst 1, 1) := by decide +kernel
theorem z_L_under_11 : decode b_L_under 11 = .ok (.ireturn, 1) := by decide +kernel
theorem z_L_under_12 : decode b_L_under 12 = .ok (.astore_n 3, 1) := by decide +kernel
theorem z_L_under_13 : decode b_L_under 13 = .ok (.iconst 2, 1) := by decide +kernel
theorem z_L_under_14 : decode b_L_under 14 = .ok (.ireturn, 1) := by decide +kernel
theorem z_L_under_15 : decode b_L_under 15 = .ok (.iconst 0, 1) := by decide +kernel
theorem z_L_under_16 : decode b_L_under 16 = .ok (.ireturn, 1) := by decide +kernel
theorem z_L_make_0 : decode b_L_make 0 = .ok (.aload_n 3, 1) := by decide +kernel
theorem z_L_make_1 : decode b_L_make 1 = .ok (.iconst 0, 1) := by decide +kernel
theorem z_L_make_2 : decode b_L_make 2 = .ok (.aload_n 0, 1) := by decide +kernel
theorem z_L_make_3 : decode b_L_make 3 = .ok (.iload_n 1, 1) := by decide +kernel
theorem z_L_make_4 : decode b_L_make 4 = .ok (.iload_n 2, 1) := by decide +kernel
theorem z_L_make_5 : decode b_L_make 5 = .ok (.invokevirtual 17, 3) := by decide +kernel
theorem z_L_make_8 : decode b_L_make 8 = .ok (.i2l, 1) := by decide +kernel
theorem z_L_make_9 : decode b_L_make 9 = .ok (.lastore, 1) := by decide +kernel
theorem z_L_make_10 : decode b_L_make 10 = .ok (.goto 15, 3) := by decide +kernel
theorem z_L_make_13 : decode b_L_make 13 = .ok (.astore 4, 2) := by decide +kernel
theorem z_L_make_15 : decode b_L_make 15 = .ok (.iconst 1, 1) := by decide +kernel
theorem z_L_make_16 : decode b_L_make 16 = .ok (.ireturn, 1) := by decide +kernel
theorem z_L_make_17 : decode b_L_make 17 = .ok (.astore 4, 2) := by decide +kernel
theorem z_L_make_19 : decode b_L_make 19 = .ok (.iconst 2, 1) := by decide +kernel
theorem z_L_make_20 : decode b_L_make 20 = .ok (.ireturn, 1) := by decide +kernel
theorem z_L_make_21 : decode b_L_make 21 = .ok (.astore 4, 2) := by decide +kernel
theorem z_L_make_23 : decode b_L_make 23 = .ok (.iconst 3, 1) := by decide +kernel
theorem z_L_make_24 : decode b_L_make 24 = .ok (.ireturn, 1) := by decide +kernel
theorem z_L_make_25 : decode b_L_make 25 = .ok (.iconst 0, 1) := by decide +kernel
theorem z_L_make_26 : decode b_L_make 26 = .ok (.ireturn, 1) := by decide +kernel
theorem z_L_verb_0 : decode b_L_verb 0 = .ok (.aload_n 0, 1) := by decide +kernel
theorem z_L_verb_1 : decode b_L_verb 1 = .ok (.iload_n 1, 1) := by decide +kernel
theorem z_L_verb_2 : decode b_L_verb 2 = .ok (.iload_n 2, 1) := by decide +kernel
theorem z_L_verb_3 : decode b_L_verb 3 = .ok (.iload_n 3, 1) := by decide +kernel
theorem z_L_verb_4 : decode b_L_verb 4 = .ok (.iload 4, 2) := by decide +kernel
theorem z_L_verb_6 : decode b_L_verb 6 = .ok (.iload 5, 2) := by decide +kernel
theorem z_L_verb_8 : decode b_L_verb 8 = .ok (.invokevirtual 23, 3) := by decide +kernel
theorem z_L_verb_11 : decode b_L_verb 11 = .ok (.goto 11, 3) := by decide +kernel
theorem z_L_verb_14 : decode b_L_verb 14 = .ok (.astore 6, 2) := by decide +kernel
theorem z_L_verb_16 : decode b_L_verb 16 = .ok (.iconst 1, 1) := by decide +kernel
theorem z_L_verb_17 : decode b_L_verb 17 = .ok (.ireturn, 1) := by decide +kernel
theorem z_L_verb_18 : decode b_L_verb 18 = .ok (.astore 6, 2) := by decide +kernel
theorem z_L_verb_20 : decode b_L_verb 20 = .ok (.iconst 2, 1) := by decide +kernel
theorem z_L_verb_21 : decode b_L_verb 21 = .ok (.ireturn, 1) := by decide +kernel
theorem z_L_verb_22 : decode b_L_verb 22 = .ok (.iconst 0, 1) := by decide +kernel
theorem z_L_verb_23 : decode b_L_verb 23 = .ok (.ireturn, 1) := by decide +kernel
theorem z_L_call_0 : decode b_L_call 0 = .ok (.aload 5, 2) := by decide +kernel
theorem z_L_call_2 : decode b_L_call 2 = .ok (.iconst 0, 1) := by decide +kernel
theorem z_L_call_3 : decode b_L_call 3 = .ok (.aload_n 0, 1) := by decide +kernel
theorem z_L_call_4 : decode b_L_call 4 = .ok (.iload_n 1, 1) := by decide +kernel
theorem z_L_call_5 : decode b_L_call 5 = .ok (.iload_n 2, 1) := by decide +kernel
theorem z_L_call_6 : decode b_L_call 6 = .ok (.iload_n 3, 1) := by decide +kernel
theorem z_L_call_7 : decode b_L_call 7 = .ok (.iload 4, 2) := by decide +kernel
theorem z_L_call_9 : decode b_L_call 9 = .ok (.invokevirtual 29, 3) := by decide +kernel
theorem z_L_call_12 : decode b_L_call 12 = .ok (.lastore, 1) := by decide +kernel
theorem z_L_call_13 : decode b_L_call 13 = .ok (.goto 15, 3) := by decide +kernel
theorem z_L_call_16 : decode b_L_call 16 = .ok (.astore 6, 2) := by decide +kernel
theorem z_L_call_18 : decode b_L_call 18 = .ok (.iconst 1, 1) := by decide +kernel
theorem z_L_call_19 : decode b_L_call 19 = .ok (.ireturn, 1) := by decide +kernel
theorem z_L_call_20 : decode b_L_call 20 = .ok (.astore 6, 2) := by decide +kernel
theorem z_L_call_22 : decode b_L_call 22 = .ok (.iconst 2, 1) := by decide +kernel
theorem z_L_call_23 : decode b_L_call 23 = .ok (.ireturn, 1) := by decide +kernel
theorem z_L_call_24 : decode b_L_call 24 = .ok (.astore 6, 2) := by decide +kernel
theorem z_L_call_26 : decode b_L_call 26 = .ok (.iconst 3, 1) := by decide +kernel
theorem z_L_call_27 : decode b_L_call 27 = .ok (.ireturn, 1) := by decide +kernel
theorem z_L_call_28 : decode b_L_call 28 = .ok (.iconst 0, 1) := by decide +kernel
theorem z_L_call_29 : decode b_L_call 29 = .ok (.ireturn, 1) := by decide +kernel
theorem z_L_simulate_0 : decode b_L_simulate 0 = .ok (.aload 5, 2) := by decide +kernel
theorem z_L_simulate_2 : decode b_L_simulate 2 = .ok (.iconst 0, 1) := by decide +kernel
theorem z_L_simulate_3 : decode b_L_simulate 3 = .ok (.aload_n 0, 1) := by decide +kernel
theorem z_L_simulate_4 : decode b_L_simulate 4 = .ok (.iload_n 1, 1) := by decide +kernel
theorem z_L_simulate_5 : decode b_L_simulate 5 = .ok (.iload_n 2, 1) := by decide +kernel
theorem z_L_simulate_6 : decode b_L_simulate 6 = .ok (.iload_n 3, 1) := by decide +kernel
theorem z_L_simulate_7 : decode b_L_simulate 7 = .ok (.iload 4, 2) := by decide +kernel
theorem z_L_simulate_9 : decode b_L_simulate 9 = .ok (.invokevirtual 33, 3) := by decide +kernel
theorem z_L_simulate_12 : decode b_L_simulate 12 = .ok (.lastore, 1) := by decide +kernel
theorem z_L_simulate_13 : decode b_L_simulate 13 = .ok (.goto 15, 3) := by decide +kernel
theorem z_L_simulate_16 : decode b_L_simulate 16 = .ok (.astore 6, 2) := by decide +kernel
theorem z_L_simulate_18 : decode b_L_simulate 18 = .ok (.iconst 1, 1) := by decide +kernel
theorem z_L_simulate_19 : decode b_L_simulate 19 = .ok (.ireturn, 1) := by decide +kernel
theorem z_L_simulate_20 : decode b_L_simulate 20 = .ok (.astore 6, 2) := by decide +kernel
theorem z_L_simulate_22 : decode b_L_simulate 22 = .ok (.iconst 2, 1) := by decide +kernel
theorem z_L_simulate_23 : decode b_L_simulate 23 = .ok (.ireturn, 1) := by decide +kernel
theorem z_L_simulate_24 : decode b_L_simulate 24 = .ok (.astore 6, 2) := by decide +kernel
theorem z_L_simulate_26 : decode b_L_simulate 26 = .ok (.iconst 3, 1) := by decide +kernel
theorem z_L_simulate_27 : decode b_L_simulate 27 = .ok (.ireturn, 1) := by decide +kernel
theorem z_L_simulate_28 : decode b_L_simulate 28 = .ok (.iconst 0, 1) := by decide +kernel
theorem z_L_simulate_29 : decode b_L_simulate 29 = .ok (.ireturn, 1) := by decide +kernel
theorem z_L_text_0 : decode b_L_text 0 = .ok (.aload 6, 2) := by decide +kernel
theorem z_L_text_2 : decode b_L_text 2 = .ok (.iconst 0, 1) := by decide +kernel
theorem z_L_text_3 : decode b_L_text 3 = .ok (.aload_n 0, 1) := by decide +kernel
theorem z_L_text_4 : decode b_L_text 4 = .ok (.iload_n 1, 1) := by decide +kernel
theorem z_L_text_5 : decode b_L_text 5 = .ok (.iload_n 2, 1) := by decide +kernel
theorem z_L_text_6 : decode b_L_text 6 = .ok (.lload_n 3, 1) := by decide +kernel
theorem z_L_text_7 : decode b_L_text 7 = .ok (.iload 5, 2) := by decide +kernel
theorem z_L_text_9 : decode b_L_text 9 = .ok (.invokevirtual 36, 3) := by decide +kernel
theorem z_L_text_12 : decode b_L_text 12 = .ok (.i2l, 1) := by decide +kernel
theorem z_L_text_13 : decode b_L_text 13 = .ok (.lastore, 1) := by decide +kernel
theorem z_L_text_14 : decode b_L_text 14 = .ok (.goto 19, 3) := by decide +kernel
theorem z_L_text_17 : decode b_L_text 17 = .ok (.astore 7, 2) := by decide +kernel
theorem z_L_text_19 : decode b_L_text 19 = .ok (.iconst 1, 1) := by decide +kernel
theorem z_L_text_20 : decode b_L_text 20 = .ok (.ireturn, 1) := by decide +kernel
theorem z_L_text_21 : decode b_L_text 21 = .ok (.astore 7, 2) := by decide +kernel
theorem z_L_text_23 : decode b_L_text 23 = .ok (.iconst 2, 1) := by decide +kernel
theorem z_L_text_24 : decode b_L_text 24 = .ok (.ireturn, 1) := by decide +kernel
theorem z_L_text_25 : decode b_L_text 25 = .ok (.astore 7, 2) := by decide +kernel
theorem z_L_text_27 : decode b_L_text 27 = .ok (.iconst 3, 1) := by decide +kernel
theorem z_L_text_28 : decode b_L_text 28 = .ok (.ireturn, 1) := by decide +kernel
theorem z_L_text_29 : decode b_L_text 29 = .ok (.astore 7, 2) := by decide +kernel
theorem z_L_text_31 : decode b_L_text 31 = .ok (.iconst 4, 1) := by decide +kernel
theorem z_L_text_32 : decode b_L_text 32 = .ok (.ireturn, 1) := by decide +kernel
theorem z_L_text_33 : decode b_L_text 33 = .ok (.iconst 0, 1) := by decide +kernel
theorem z_L_text_34 : decode b_L_text 34 = .ok (.ireturn, 1) := by decide +kernel
theorem z_L_textAt_0 : decode b_L_textAt 0 = .ok (.aload 4, 2) := by decide +kernel
theorem z_L_textAt_2 : decode b_L_textAt 2 = .ok (.iconst 0, 1) := by decide +kernel
theorem z_L_textAt_3 : decode b_L_textAt 3 = .ok (.aload_n 0, 1) := by decide +kernel
theorem z_L_textAt_4 : decode b_L_textAt 4 = .ok (.iload_n 1, 1) := by decide +kernel
theorem z_L_textAt_5 : decode b_L_textAt 5 = .ok (.iload_n 2, 1) := by decide +kernel
theorem z_L_textAt_6 : decode b_L_textAt 6 = .ok (.iload_n 3, 1) := by decide +kernel
theorem z_L_textAt_7 : decode b_L_textAt 7 = .ok (.invokevirtual 40, 3) := by decide +kernel
theorem z_L_textAt_10 : decode b_L_textAt 10 = .ok (.i2l, 1) := by decide +kernel
theorem z_L_textAt_11 : decode b_L_textAt 11 = .ok (.lastore, 1) := by decide +kernel
theorem z_L_textAt_12 : decode b_L_textAt 12 = .ok (.goto 11, 3) := by decide +kernel
theorem z_L_textAt_15 : decode b_L_textAt 15 = .ok (.astore 5, 2) := by decide +kernel
theorem z_L_textAt_17 : decode b_L_textAt 17 = .ok (.iconst 1, 1) := by decide +kernel
theorem z_L_textAt_18 : decode b_L_textAt 18 = .ok (.ireturn, 1) := by decide +kernel
theorem z_L_textAt_19 : decode b_L_textAt 19 = .ok (.astore 5, 2) := by decide +kernel
theorem z_L_textAt_21 : decode b_L_textAt 21 = .ok (.iconst 2, 1) := by decide +kernel
theorem z_L_textAt_22 : decode b_L_textAt 22 = .ok (.ireturn, 1) := by decide +kernel
theorem z_L_textAt_23 : decode b_L_textAt 23 = .ok (.iconst 0, 1) := by decide +kernel
theorem z_L_textAt_24 : decode b_L_textAt 24 = .ok (.ireturn, 1) := by decide +kernel
theorem z_L_find_0 : decode b_L_find 0 = .ok (.aload 5, 2) := by decide +kernel
theorem z_L_find_2 : decode b_L_find 2 = .ok (.iconst 0, 1) := by decide +kernel
theorem z_L_find_3 : decode b_L_find 3 = .ok (.aload_n 0, 1) := by decide +kernel
theorem z_L_find_4 : decode b_L_find 4 = .ok (.iload_n 1, 1) := by decide +kernel
theorem z_L_find_5 : decode b_L_find 5 = .ok (.lload_n 2, 1) := by decide +kernel
theorem z_L_find_6 : decode b_L_find 6 = .ok (.iload 4, 2) := by decide +kernel
theorem z_L_find_8 : decode b_L_find 8 = .ok (.invokevirtual 44, 3) := by decide +kernel
theorem z_L_find_11 : decode b_L_find 11 = .ok (.i2l, 1) := by decide +kernel
theorem z_L_find_12 : decode b_L_find 12 = .ok (.lastore, 1) := by decide +kernel
theorem z_L_find_13 : decode b_L_find 13 = .ok (.goto 11, 3) := by decide +kernel
theorem z_L_find_16 : decode b_L_find 16 = .ok (.astore 6, 2) := by decide +kernel
theorem z_L_find_18 : decode b_L_find 18 = .ok (.iconst 1, 1) := by decide +kernel
theorem z_L_find_19 : decode b_L_find 19 = .ok (.ireturn, 1) := by decide +kernel
theorem z_L_find_20 : decode b_L_find 20 = .ok (.astore 6, 2) := by decide +kernel
theorem z_L_find_22 : decode b_L_find 22 = .ok (.iconst 2, 1) := by decide +kernel
theorem z_L_find_23 : decode b_L_find 23 = .ok (.ireturn, 1) := by decide +kernel
theorem z_L_find_24 : decode b_L_find 24 = .ok (.iconst 0, 1) := by decide +kernel
theorem z_L_find_25 : decode b_L_find 25 = .ok (.ireturn, 1) := by decide +kernel
theorem z_L_subject_0 : decode b_L_subject 0 = .ok (.aload 4, 2) := by decide +kernel
theorem z_L_subject_2 : decode b_L_subject 2 = .ok (.iconst 0, 1) := by decide +kernel
theorem z_L_subject_3 : decode b_L_subject 3 = .ok (.aload_n 0, 1) := by decide +kernel
theorem z_L_subject_4 : decode b_L_subject 4 = .ok (.iload_n 1, 1) := by decide +kernel
theorem z_L_subject_5 : decode b_L_subject 5 = .ok (.iload_n 2, 1) := by decide +kernel
theorem z_L_subject_6 : decode b_L_subject 6 = .ok (.iload_n 3, 1) := by decide +kernel
theorem z_L_subject_7 : decode b_L_subject 7 = .ok (.invokevirtual 48, 3) := by decide +kernel
theorem z_L_subject_10 : decode b_L_subject 10 = .ok (.i2l, 1) := by decide +kernel
theorem z_L_subject_11 : decode b_L_subject 11 = .ok (.lastore, 1) := by decide +kernel
theorem z_L_subject_12 : decode b_L_subject 12 = .ok (.goto 7, 3) := by decide +kernel
theorem z_L_subject_15 : decode b_L_subject 15 = .ok (.astore 5, 2) := by decide +kernel
theorem z_L_subject_17 : decode b_L_subject 17 = .ok (.iconst 1, 1) := by decide +kernel
theorem z_L_subject_18 : decode b_L_subject 18 = .ok (.ireturn, 1) := by decide +kernel
theorem z_L_subject_19 : decode b_L_subject 19 = .ok (.iconst 0, 1) := by decide +kernel
theorem z_L_subject_20 : decode b_L_subject 20 = .ok (.ireturn, 1) := by decide +kernel
theorem z_L_row_0 : decode b_L_row 0 = .ok (.aload_n 3, 1) := by decide +kernel
theorem z_L_row_1 : decode b_L_row 1 = .ok (.iconst 0, 1) := by decide +kernel
theorem z_L_row_2 : decode b_L_row 2 = .ok (.aload_n 0, 1) := by decide +kernel
theorem z_L_row_3 : decode b_L_row 3 = .ok (.iload_n 1, 1) := by decide +kernel
theorem z_L_row_4 : decode b_L_row 4 = .ok (.iload_n 2, 1) := by decide +kernel
theorem z_L_row_5 : decode b_L_row 5 = .ok (.invokevirtual 51, 3) := by decide +kernel
theorem z_L_row_8 : decode b_L_row 8 = .ok (.i2l, 1) := by decide +kernel
theorem z_L_row_9 : decode b_L_row 9 = .ok (.lastore, 1) := by decide +kernel
theorem z_L_row_10 : decode b_L_row 10 = .ok (.goto 7, 3) := by decide +kernel
theorem z_L_row_13 : decode b_L_row 13 = .ok (.astore 4, 2) := by decide +kernel
theorem z_L_row_15 : decode b_L_row 15 = .ok (.iconst 1, 1) := by decide +kernel
theorem z_L_row_16 : decode b_L_row 16 = .ok (.ireturn, 1) := by decide +kernel
theorem z_L_row_17 : decode b_L_row 17 = .ok (.iconst 0, 1) := by decide +kernel
theorem z_L_row_18 : decode b_L_row 18 = .ok (.ireturn, 1) := by decide +kernel
theorem z_L_tick_0 : decode b_L_tick 0 = .ok (.aload_n 2, 1) := by decide +kernel
theorem z_L_tick_1 : decode b_L_tick 1 = .ok (.iconst 0, 1) := by decide +kernel
theorem z_L_tick_2 : decode b_L_tick 2 = .ok (.aload_n 0, 1) := by decide +kernel
theorem z_L_tick_3 : decode b_L_tick 3 = .ok (.iload_n 1, 1) := by decide +kernel
theorem z_L_tick_4 : decode b_L_tick 4 = .ok (.invokevirtual 54, 3) := by decide +kernel
theorem z_L_tick_7 : decode b_L_tick 7 = .ok (.i2l, 1) := by decide +kernel
theorem z_L_tick_8 : decode b_L_tick 8 = .ok (.lastore, 1) := by decide +kernel
theorem z_L_tick_9 : decode b_L_tick 9 = .ok (.goto 6, 3) := by decide +kernel
theorem z_L_tick_12 : decode b_L_tick 12 = .ok (.astore_n 3, 1) := by decide +kernel
theorem z_L_tick_13 : decode b_L_tick 13 = .ok (.iconst 1, 1) := by decide +kernel
theorem z_L_tick_14 : decode b_L_tick 14 = .ok (.ireturn, 1) := by decide +kernel
theorem z_L_tick_15 : decode b_L_tick 15 = .ok (.iconst 0, 1) := by decide +kernel
theorem z_L_tick_16 : decode b_L_tick 16 = .ok (.ireturn, 1) := by decide +kernel
theorem z_L_count_0 : decode b_L_count 0 = .ok (.aload_n 2, 1) := by decide +kernel
theorem z_L_count_1 : decode b_L_count 1 = .ok (.iconst 0, 1) := by decide +kernel
theorem z_L_count_2 : decode b_L_count 2 = .ok (.aload_n 0, 1) := by decide +kernel
theorem z_L_count_3 : decode b_L_count 3 = .ok (.iload_n 1, 1) := by decide +kernel
theorem z_L_count_4 : decode b_L_count 4 = .ok (.invokevirtual 58, 3) := by decide +kernel
theorem z_L_count_7 : decode b_L_count 7 = .ok (.i2l, 1) := by decide +kernel
theorem z_L_count_8 : decode b_L_count 8 = .ok (.lastore, 1) := by decide +kernel
theorem z_L_count_9 : decode b_L_count 9 = .ok (.goto 6, 3) := by decide +kernel
theorem z_L_count_12 : decode b_L_count 12 = .ok (.astore_n 3, 1) := by decide +kernel
theorem z_L_count_13 : decode b_L_count 13 = .ok (.iconst 1, 1) := by decide +kernel
theorem z_L_count_14 : decode b_L_count 14 = .ok (.ireturn, 1) := by decide +kernel
theorem z_L_count_15 : decode b_L_count 15 = .ok (.iconst 0, 1) := by decide +kernel
theorem z_L_count_16 : decode b_L_count 16 = .ok (.ireturn, 1) := by decide +kernel
end
section
theorem z_L_law_0 : decode b_L_law 0 = .ok (.new 8, 3) := by decide +kernel
theorem z_L_law_3 : decode b_L_law 3 = .ok (.dup, 1) := by decide +kernel
theorem z_L_law_4 : decode b_L_law 4 = .ok (.invokespecial 61, 3) := by decide +kernel
theorem z_L_law_7 : decode b_L_law 7 = .ok (.astore_n 1, 1) := by decide +kernel
theorem z_L_law_8 : decode b_L_law 8 = .ok (.new 62, 3) := by decide +kernel
theorem z_L_law_11 : decode b_L_law 11 = .ok (.dup, 1) := by decide +kernel
theorem z_L_law_12 : decode b_L_law 12 = .ok (.invokespecial 64, 3) := by decide +kernel
theorem z_L_law_15 : decode b_L_law 15 = .ok (.astore_n 2, 1) := by decide +kernel
theorem z_L_law_16 : decode b_L_law 16 = .ok (.iconst 1, 1) := by decide +kernel
theorem z_L_law_17 : decode b_L_law 17 = .ok (.newarray .long, 2) := by decide +kernel
theorem z_L_law_19 : decode b_L_law 19 = .ok (.astore_n 3, 1) := by decide +kernel
theorem z_L_law_20 : decode b_L_law 20 = .ok (.iconst 0, 1) := by decide +kernel
theorem z_L_law_21 : decode b_L_law 21 = .ok (.istore 4, 2) := by decide +kernel
theorem z_L_law_23 : decode b_L_law 23 = .ok (.iload 4, 2) := by decide +kernel
theorem z_L_law_25 : decode b_L_law 25 = .ok (.aload_n 0, 1) := by decide +kernel
theorem z_L_law_26 : decode b_L_law 26 = .ok (.arraylength, 1) := by decide +kernel
theorem z_L_law_27 : decode b_L_law 27 = .ok (.bipush 6, 2) := by decide +kernel
theorem z_L_law_29 : decode b_L_law 29 = .ok (.isub, 1) := by decide +kernel
theorem z_L_law_30 : decode b_L_law 30 = .ok (.if_icmp .gt 1055, 3) := by decide +kernel
theorem z_L_law_33 : decode b_L_law 33 = .ok (.aload_n 0, 1) := by decide +kernel
theorem z_L_law_34 : decode b_L_law 34 = .ok (.iload 4, 2) := by decide +kernel
theorem z_L_law_36 : decode b_L_law 36 = .ok (.iaload, 1) := by decide +kernel
theorem z_L_law_37 : decode b_L_law 37 = .ok (.bipush 15, 2) := by decide +kernel
theorem z_L_law_39 : decode b_L_law 39 = .ok (.iand, 1) := by decide +kernel
theorem z_L_law_40 : decode b_L_law 40 = .ok (.tableswitch 1039 0 12 #[68, 116, 184, 268, 359, 450, 574, 654, 766, 846, 914, 970, 1026], 68) := by decide +kernel
theorem z_L_law_108 : decode b_L_law 108 = .ok (.aload_n 1, 1) := by decide +kernel
theorem z_L_law_109 : decode b_L_law 109 = .ok (.aload_n 0, 1) := by decide +kernel
theorem z_L_law_110 : decode b_L_law 110 = .ok (.iload 4, 2) := by decide +kernel
theorem z_L_law_112 : decode b_L_law 112 = .ok (.iconst 1, 1) := by decide +kernel
theorem z_L_law_113 : decode b_L_law 113 = .ok (.iadd, 1) := by decide +kernel
theorem z_L_law_114 : decode b_L_law 114 = .ok (.iaload, 1) := by decide +kernel
theorem z_L_law_115 : decode b_L_law 115 = .ok (.aload_n 0, 1) := by decide +kernel
theorem z_L_law_116 : decode b_L_law 116 = .ok (.iload 4, 2) := by decide +kernel
theorem z_L_law_118 : decode b_L_law 118 = .ok (.iconst 2, 1) := by decide +kernel
theorem z_L_law_119 : decode b_L_law 119 = .ok (.iadd, 1) := by decide +kernel
theorem z_L_law_120 : decode b_L_law 120 = .ok (.iaload, 1) := by decide +kernel
theorem z_L_law_121 : decode b_L_law 121 = .ok (.invokestatic 65, 3) := by decide +kernel
theorem z_L_law_124 : decode b_L_law 124 = .ok (.istore 5, 2) := by decide +kernel
theorem z_L_law_126 : decode b_L_law 126 = .ok (.aload_n 2, 1) := by decide +kernel
theorem z_L_law_127 : decode b_L_law 127 = .ok (.aload_n 0, 1) := by decide +kernel
theorem z_L_law_128 : decode b_L_law 128 = .ok (.iload 4, 2) := by decide +kernel
theorem z_L_law_130 : decode b_L_law 130 = .ok (.iconst 1, 1) := by decide +kernel
theorem z_L_law_131 : decode b_L_law 131 = .ok (.iadd, 1) := by decide +kernel
theorem z_L_law_132 : decode b_L_law 132 = .ok (.iaload, 1) := by decide +kernel
theorem z_L_law_133 : decode b_L_law 133 = .ok (.aload_n 0, 1) := by decide +kernel
theorem z_L_law_134 : decode b_L_law 134 = .ok (.iload 4, 2) := by decide +kernel
theorem z_L_law_136 : decode b_L_law 136 = .ok (.iconst 2, 1) := by decide +kernel
theorem z_L_law_137 : decode b_L_law 137 = .ok (.iadd, 1) := by decide +kernel
theorem z_L_law_138 : decode b_L_law 138 = .ok (.iaload, 1) := by decide +kernel
theorem z_L_law_139 : decode b_L_law 139 = .ok (.invokevirtual 70, 3) := by decide +kernel
theorem z_L_law_142 : decode b_L_law 142 = .ok (.aload_n 2, 1) := by decide +kernel
theorem z_L_law_143 : decode b_L_law 143 = .ok (.invokevirtual 71, 3) := by decide +kernel
theorem z_L_law_146 : decode b_L_law 146 = .ok (.iload 5, 2) := by decide +kernel
theorem z_L_law_148 : decode b_L_law 148 = .ok (.if_icmp .eq 5, 3) := by decide +kernel
theorem z_L_law_151 : decode b_L_law 151 = .ok (.iconst 0, 1) := by decide +kernel
theorem z_L_law_152 : decode b_L_law 152 = .ok (.ireturn, 1) := by decide +kernel
theorem z_L_law_153 : decode b_L_law 153 = .ok (.goto 926, 3) := by decide +kernel
theorem z_L_law_156 : decode b_L_law 156 = .ok (.aload_n 1, 1) := by decide +kernel
theorem z_L_law_157 : decode b_L_law 157 = .ok (.aload_n 0, 1) := by decide +kernel
theorem z_L_law_158 : decode b_L_law 158 = .ok (.iload 4, 2) := by decide +kernel
theorem z_L_law_160 : decode b_L_law 160 = .ok (.iconst 1, 1) := by decide +kernel
theorem z_L_law_161 : decode b_L_law 161 = .ok (.iadd, 1) := by decide +kernel
theorem z_L_law_162 : decode b_L_law 162 = .ok (.iaload, 1) := by decide +kernel
theorem z_L_law_163 : decode b_L_law 163 = .ok (.aload_n 0, 1) := by decide +kernel
theorem z_L_law_164 : decode b_L_law 164 = .ok (.iload 4, 2) := by decide +kernel
theorem z_L_law_166 : decode b_L_law 166 = .ok (.iconst 2, 1) := by decide +kernel
theorem z_L_law_167 : decode b_L_law 167 = .ok (.iadd, 1) := by decide +kernel
theorem z_L_law_168 : decode b_L_law 168 = .ok (.iaload, 1) := by decide +kernel
theorem z_L_law_169 : decode b_L_law 169 = .ok (.aload_n 3, 1) := by decide +kernel
theorem z_L_law_170 : decode b_L_law 170 = .ok (.invokestatic 75, 3) := by decide +kernel
theorem z_L_law_173 : decode b_L_law 173 = .ok (.istore 5, 2) := by decide +kernel
theorem z_L_law_175 : decode b_L_law 175 = .ok (.aload_n 2, 1) := by decide +kernel
theorem z_L_law_176 : decode b_L_law 176 = .ok (.aload_n 0, 1) := by decide +kernel
theorem z_L_law_177 : decode b_L_law 177 = .ok (.iload 4, 2) := by decide +kernel
theorem z_L_law_179 : decode b_L_law 179 = .ok (.iconst 1, 1) := by decide +kernel
theorem z_L_law_180 : decode b_L_law 180 = .ok (.iadd, 1) := by decide +kernel
theorem z_L_law_181 : decode b_L_law 181 = .ok (.iaload, 1) := by decide +kernel
theorem z_L_law_182 : decode b_L_law 182 = .ok (.aload_n 0, 1) := by decide +kernel
theorem z_L_law_183 : decode b_L_law 183 = .ok (.iload 4, 2) := by decide +kernel
theorem z_L_law_185 : decode b_L_law 185 = .ok (.iconst 2, 1) := by decide +kernel
theorem z_L_law_186 : decode b_L_law 186 = .ok (.iadd, 1) := by decide +kernel
theorem z_L_law_187 : decode b_L_law 187 = .ok (.iaload, 1) := by decide +kernel
theorem z_L_law_188 : decode b_L_law 188 = .ok (.invokevirtual 78, 3) := by decide +kernel
theorem z_L_law_191 : decode b_L_law 191 = .ok (.istore 6, 2) := by decide +kernel
theorem z_L_law_193 : decode b_L_law 193 = .ok (.aload_n 2, 1) := by decide +kernel
theorem z_L_law_194 : decode b_L_law 194 = .ok (.invokevirtual 71, 3) := by decide +kernel
theorem z_L_law_197 : decode b_L_law 197 = .ok (.iload 5, 2) := by decide +kernel
theorem z_L_law_199 : decode b_L_law 199 = .ok (.if_icmp .eq 5, 3) := by decide +kernel
theorem z_L_law_202 : decode b_L_law 202 = .ok (.iconst 0, 1) := by decide +kernel
theorem z_L_law_203 : decode b_L_law 203 = .ok (.ireturn, 1) := by decide +kernel
theorem z_L_law_204 : decode b_L_law 204 = .ok (.iload 5, 2) := by decide +kernel
theorem z_L_law_206 : decode b_L_law 206 = .ok (.ifCond .ne 15, 3) := by decide +kernel
theorem z_L_law_209 : decode b_L_law 209 = .ok (.aload_n 3, 1) := by decide +kernel
theorem z_L_law_210 : decode b_L_law 210 = .ok (.iconst 0, 1) := by decide +kernel
theorem z_L_law_211 : decode b_L_law 211 = .ok (.laload, 1) := by decide +kernel
theorem z_L_law_212 : decode b_L_law 212 = .ok (.iload 6, 2) := by decide +kernel
theorem z_L_law_214 : decode b_L_law 214 = .ok (.i2l, 1) := by decide +kernel
theorem z_L_law_215 : decode b_L_law 215 = .ok (.lcmp, 1) := by decide +kernel
theorem z_L_law_216 : decode b_L_law 216 = .ok (.ifCond .eq 5, 3) := by decide +kernel
theorem z_L_law_219 : decode b_L_law 219 = .ok (.iconst 0, 1) := by decide +kernel
theorem z_L_law_220 : decode b_L_law 220 = .ok (.ireturn, 1) := by decide +kernel
theorem z_L_law_221 : decode b_L_law 221 = .ok (.goto 858, 3) := by decide +kernel
theorem z_L_law_224 : decode b_L_law 224 = .ok (.aload_n 1, 1) := by decide +kernel
theorem z_L_law_225 : decode b_L_law 225 = .ok (.aload_n 0, 1) := by decide +kernel
theorem z_L_law_226 : decode b_L_law 226 = .ok (.iload 4, 2) := by decide +kernel
theorem z_L_law_228 : decode b_L_law 228 = .ok (.iconst 1, 1) := by decide +kernel
theorem z_L_law_229 : decode b_L_law 229 = .ok (.iadd, 1) := by decide +kernel
theorem z_L_law_230 : decode b_L_law 230 = .ok (.iaload, 1) := by decide +kernel
theorem z_L_law_231 : decode b_L_law 231 = .ok (.aload_n 0, 1) := by decide +kernel
theorem z_L_law_232 : decode b_L_law 232 = .ok (.iload 4, 2) := by decide +kernel
theorem z_L_law_234 : decode b_L_law 234 = .ok (.iconst 2, 1) := by decide +kernel
theorem z_L_law_235 : decode b_L_law 235 = .ok (.iadd, 1) := by decide +kernel
theorem z_L_law_236 : decode b_L_law 236 = .ok (.iaload, 1) := by decide +kernel
theorem z_L_law_237 : decode b_L_law 237 = .ok (.aload_n 0, 1) := by decide +kernel
theorem z_L_law_238 : decode b_L_law 238 = .ok (.iload 4, 2) := by decide +kernel
theorem z_L_law_240 : decode b_L_law 240 = .ok (.iconst 3, 1) := by decide +kernel
theorem z_L_law_241 : decode b_L_law 241 = .ok (.iadd, 1) := by decide +kernel
theorem z_L_law_242 : decode b_L_law 242 = .ok (.iaload, 1) := by decide +kernel
theorem z_L_law_243 : decode b_L_law 243 = .ok (.aload_n 0, 1) := by decide +kernel
theorem z_L_law_244 : decode b_L_law 244 = .ok (.iload 4, 2) := by decide +kernel
theorem z_L_law_246 : decode b_L_law 246 = .ok (.iconst 4, 1) := by decide +kernel
theorem z_L_law_247 : decode b_L_law 247 = .ok (.iadd, 1) := by decide +kernel
theorem z_L_law_248 : decode b_L_law 248 = .ok (.iaload, 1) := by decide +kernel
theorem z_L_law_249 : decode b_L_law 249 = .ok (.aload_n 0, 1) := by decide +kernel
theorem z_L_law_250 : decode b_L_law 250 = .ok (.iload 4, 2) := by decide +kernel
theorem z_L_law_252 : decode b_L_law 252 = .ok (.iconst 5, 1) := by decide +kernel
theorem z_L_law_253 : decode b_L_law 253 = .ok (.iadd, 1) := by decide +kernel
theorem z_L_law_254 : decode b_L_law 254 = .ok (.iaload, 1) := by decide +kernel
theorem z_L_law_255 : decode b_L_law 255 = .ok (.invokestatic 79, 3) := by decide +kernel
theorem z_L_law_258 : decode b_L_law 258 = .ok (.istore 5, 2) := by decide +kernel
theorem z_L_law_260 : decode b_L_law 260 = .ok (.aload_n 2, 1) := by decide +kernel
theorem z_L_law_261 : decode b_L_law 261 = .ok (.aload_n 0, 1) := by decide +kernel
theorem z_L_law_262 : decode b_L_law 262 = .ok (.iload 4, 2) := by decide +kernel
theorem z_L_law_264 : decode b_L_law 264 = .ok (.iconst 1, 1) := by decide +kernel
theorem z_L_law_265 : decode b_L_law 265 = .ok (.iadd, 1) := by decide +kernel
theorem z_L_law_266 : decode b_L_law 266 = .ok (.iaload, 1) := by decide +kernel
theorem z_L_law_267 : decode b_L_law 267 = .ok (.aload_n 0, 1) := by decide +kernel
theorem z_L_law_268 : decode b_L_law 268 = .ok (.iload 4, 2) := by decide +kernel
theorem z_L_law_270 : decode b_L_law 270 = .ok (.iconst 2, 1) := by decide +kernel
theorem z_L_law_271 : decode b_L_law 271 = .ok (.iadd, 1) := by decide +kernel
theorem z_L_law_272 : decode b_L_law 272 = .ok (.iaload, 1) := by decide +kernel
theorem z_L_law_273 : decode b_L_law 273 = .ok (.aload_n 0, 1) := by decide +kernel
theorem z_L_law_274 : decode b_L_law 274 = .ok (.iload 4, 2) := by decide +kernel
theorem z_L_law_276 : decode b_L_law 276 = .ok (.iconst 3, 1) := by decide +kernel
theorem z_L_law_277 : decode b_L_law 277 = .ok (.iadd, 1) := by decide +kernel
theorem z_L_law_278 : decode b_L_law 278 = .ok (.iaload, 1) := by decide +kernel
theorem z_L_law_279 : decode b_L_law 279 = .ok (.aload_n 0, 1) := by decide +kernel
theorem z_L_law_280 : decode b_L_law 280 = .ok (.iload 4, 2) := by decide +kernel
theorem z_L_law_282 : decode b_L_law 282 = .ok (.iconst 4, 1) := by decide +kernel
theorem z_L_law_283 : decode b_L_law 283 = .ok (.iadd, 1) := by decide +kernel
theorem z_L_law_284 : decode b_L_law 284 = .ok (.iaload, 1) := by decide +kernel
theorem z_L_law_285 : decode b_L_law 285 = .ok (.aload_n 0, 1) := by decide +kernel
theorem z_L_law_286 : decode b_L_law 286 = .ok (.iload 4, 2) := by decide +kernel
theorem z_L_law_288 : decode b_L_law 288 = .ok (.iconst 5, 1) := by decide +kernel
theorem z_L_law_289 : decode b_L_law 289 = .ok (.iadd, 1) := by decide +kernel
theorem z_L_law_290 : decode b_L_law 290 = .ok (.iaload, 1) := by decide +kernel
theorem z_L_law_291 : decode b_L_law 291 = .ok (.invokevirtual 82, 3) := by decide +kernel
theorem z_L_law_294 : decode b_L_law 294 = .ok (.aload_n 2, 1) := by decide +kernel
theorem z_L_law_295 : decode b_L_law 295 = .ok (.invokevirtual 71, 3) := by decide +kernel
theorem z_L_law_298 : decode b_L_law 298 = .ok (.iload 5, 2) := by decide +kernel
theorem z_L_law_300 : decode b_L_law 300 = .ok (.if_icmp .eq 5, 3) := by decide +kernel
theorem z_L_law_303 : decode b_L_law 303 = .ok (.iconst 0, 1) := by decide +kernel
theorem z_L_law_304 : decode b_L_law 304 = .ok (.ireturn, 1) := by decide +kernel
theorem z_L_law_305 : decode b_L_law 305 = .ok (.goto 774, 3) := by decide +kernel
theorem z_L_law_308 : decode b_L_law 308 = .ok (.aload_n 1, 1) := by decide +kernel
theorem z_L_law_309 : decode b_L_law 309 = .ok (.aload_n 0, 1) := by decide +kernel
theorem z_L_law_310 : decode b_L_law 310 = .ok (.iload 4, 2) := by decide +kernel
theorem z_L_law_312 : decode b_L_law 312 = .ok (.iconst 1, 1) := by decide +kernel
theorem z_L_law_313 : decode b_L_law 313 = .ok (.iadd, 1) := by decide +kernel
theorem z_L_law_314 : decode b_L_law 314 = .ok (.iaload, 1) := by decide +kernel
theorem z_L_law_315 : decode b_L_law 315 = .ok (.aload_n 0, 1) := by decide +kernel
theorem z_L_law_316 : decode b_L_law 316 = .ok (.iload 4, 2) := by decide +kernel
theorem z_L_law_318 : decode b_L_law 318 = .ok (.iconst 2, 1) := by decide +kernel
theorem z_L_law_319 : decode b_L_law 319 = .ok (.iadd, 1) := by decide +kernel
theorem z_L_law_320 : decode b_L_law 320 = .ok (.iaload, 1) := by decide +kernel
theorem z_L_law_321 : decode b_L_law 321 = .ok (.aload_n 0, 1) := by decide +kernel
theorem z_L_law_322 : decode b_L_law 322 = .ok (.iload 4, 2) := by decide +kernel
theorem z_L_law_324 : decode b_L_law 324 = .ok (.iconst 3, 1) := by decide +kernel
theorem z_L_law_325 : decode b_L_law 325 = .ok (.iadd, 1) := by decide +kernel
theorem z_L_law_326 : decode b_L_law 326 = .ok (.iaload, 1) := by decide +kernel
theorem z_L_law_327 : decode b_L_law 327 = .ok (.aload_n 0, 1) := by decide +kernel
theorem z_L_law_328 : decode b_L_law 328 = .ok (.iload 4, 2) := by decide +kernel
theorem z_L_law_330 : decode b_L_law 330 = .ok (.iconst 4, 1) := by decide +kernel
theorem z_L_law_331 : decode b_L_law 331 = .ok (.iadd, 1) := by decide +kernel
theorem z_L_law_332 : decode b_L_law 332 = .ok (.iaload, 1) := by decide +kernel
theorem z_L_law_333 : decode b_L_law 333 = .ok (.aload_n 3, 1) := by decide +kernel
theorem z_L_law_334 : decode b_L_law 334 = .ok (.invokestatic 83, 3) := by decide +kernel
theorem z_L_law_337 : decode b_L_law 337 = .ok (.istore 5, 2) := by decide +kernel
theorem z_L_law_339 : decode b_L_law 339 = .ok (.aload_n 2, 1) := by decide +kernel
theorem z_L_law_340 : decode b_L_law 340 = .ok (.aload_n 0, 1) := by decide +kernel
theorem z_L_law_341 : decode b_L_law 341 = .ok (.iload 4, 2) := by decide +kernel
theorem z_L_law_343 : decode b_L_law 343 = .ok (.iconst 1, 1) := by decide +kernel
theorem z_L_law_344 : decode b_L_law 344 = .ok (.iadd, 1) := by decide +kernel
theorem z_L_law_345 : decode b_L_law 345 = .ok (.iaload, 1) := by decide +kernel
theorem z_L_law_346 : decode b_L_law 346 = .ok (.aload_n 0, 1) := by decide +kernel
theorem z_L_law_347 : decode b_L_law 347 = .ok (.iload 4, 2) := by decide +kernel
theorem z_L_law_349 : decode b_L_law 349 = .ok (.iconst 2, 1) := by decide +kernel
theorem z_L_law_350 : decode b_L_law 350 = .ok (.iadd, 1) := by decide +kernel
theorem z_L_law_351 : decode b_L_law 351 = .ok (.iaload, 1) := by decide +kernel
theorem z_L_law_352 : decode b_L_law 352 = .ok (.aload_n 0, 1) := by decide +kernel
theorem z_L_law_353 : decode b_L_law 353 = .ok (.iload 4, 2) := by decide +kernel
theorem z_L_law_355 : decode b_L_law 355 = .ok (.iconst 3, 1) := by decide +kernel
theorem z_L_law_356 : decode b_L_law 356 = .ok (.iadd, 1) := by decide +kernel
theorem z_L_law_357 : decode b_L_law 357 = .ok (.iaload, 1) := by decide +kernel
theorem z_L_law_358 : decode b_L_law 358 = .ok (.aload_n 0, 1) := by decide +kernel
theorem z_L_law_359 : decode b_L_law 359 = .ok (.iload 4, 2) := by decide +kernel
theorem z_L_law_361 : decode b_L_law 361 = .ok (.iconst 4, 1) := by decide +kernel
theorem z_L_law_362 : decode b_L_law 362 = .ok (.iadd, 1) := by decide +kernel
theorem z_L_law_363 : decode b_L_law 363 = .ok (.iaload, 1) := by decide +kernel
theorem z_L_law_364 : decode b_L_law 364 = .ok (.invokevirtual 86, 3) := by decide +kernel
theorem z_L_law_367 : decode b_L_law 367 = .ok (.lstore 6, 2) := by decide +kernel
theorem z_L_law_369 : decode b_L_law 369 = .ok (.aload_n 2, 1) := by decide +kernel
theorem z_L_law_370 : decode b_L_law 370 = .ok (.invokevirtual 71, 3) := by decide +kernel
theorem z_L_law_373 : decode b_L_law 373 = .ok (.iload 5, 2) := by decide +kernel
theorem z_L_law_375 : decode b_L_law 375 = .ok (.if_icmp .eq 5, 3) := by decide +kernel
theorem z_L_law_378 : decode b_L_law 378 = .ok (.iconst 0, 1) := by decide +kernel
theorem z_L_law_379 : decode b_L_law 379 = .ok (.ireturn, 1) := by decide +kernel
theorem z_L_law_380 : decode b_L_law 380 = .ok (.iload 5, 2) := by decide +kernel
theorem z_L_law_382 : decode b_L_law 382 = .ok (.ifCond .ne 14, 3) := by decide +kernel
theorem z_L_law_385 : decode b_L_law 385 = .ok (.aload_n 3, 1) := by decide +kernel
theorem z_L_law_386 : decode b_L_law 386 = .ok (.iconst 0, 1) := by decide +kernel
theorem z_L_law_387 : decode b_L_law 387 = .ok (.laload, 1) := by decide +kernel
theorem z_L_law_388 : decode b_L_law 388 = .ok (.lload 6, 2) := by decide +kernel
theorem z_L_law_390 : decode b_L_law 390 = .ok (.lcmp, 1) := by decide +kernel
theorem z_L_law_391 : decode b_L_law 391 = .ok (.ifCond .eq 5, 3) := by decide +kernel
theorem z_L_law_394 : decode b_L_law 394 = .ok (.iconst 0, 1) := by decide +kernel
theorem z_L_law_395 : decode b_L_law 395 = .ok (.ireturn, 1) := by decide +kernel
theorem z_L_law_396 : decode b_L_law 396 = .ok (.goto 683, 3) := by decide +kernel
theorem z_L_law_399 : decode b_L_law 399 = .ok (.aload_n 1, 1) := by decide +kernel
theorem z_L_law_400 : decode b_L_law 400 = .ok (.aload_n 0, 1) := by decide +kernel
theorem z_L_law_401 : decode b_L_law 401 = .ok (.iload 4, 2) := by decide +kernel
theorem z_L_law_403 : decode b_L_law 403 = .ok (.iconst 1, 1) := by decide +kernel
theorem z_L_law_404 : decode b_L_law 404 = .ok (.iadd, 1) := by decide +kernel
theorem z_L_law_405 : decode b_L_law 405 = .ok (.iaload, 1) := by decide +kernel
theorem z_L_law_406 : decode b_L_law 406 = .ok (.aload_n 0, 1) := by decide +kernel
theorem z_L_law_407 : decode b_L_law 407 = .ok (.iload 4, 2) := by decide +kernel
theorem z_L_law_409 : decode b_L_law 409 = .ok (.iconst 2, 1) := by decide +kernel
theorem z_L_law_410 : decode b_L_law 410 = .ok (.iadd, 1) := by decide +kernel
theorem z_L_law_411 : decode b_L_law 411 = .ok (.iaload, 1) := by decide +kernel
theorem z_L_law_412 : decode b_L_law 412 = .ok (.aload_n 0, 1) := by decide +kernel
theorem z_L_law_413 : decode b_L_law 413 = .ok (.iload 4, 2) := by decide +kernel
theorem z_L_law_415 : decode b_L_law 415 = .ok (.iconst 3, 1) := by decide +kernel
theorem z_L_law_416 : decode b_L_law 416 = .ok (.iadd, 1) := by decide +kernel
theorem z_L_law_417 : decode b_L_law 417 = .ok (.iaload, 1) := by decide +kernel
theorem z_L_law_418 : decode b_L_law 418 = .ok (.aload_n 0, 1) := by decide +kernel
theorem z_L_law_419 : decode b_L_law 419 = .ok (.iload 4, 2) := by decide +kernel
theorem z_L_law_421 : decode b_L_law 421 = .ok (.iconst 4, 1) := by decide +kernel
theorem z_L_law_422 : decode b_L_law 422 = .ok (.iadd, 1) := by decide +kernel
theorem z_L_law_423 : decode b_L_law 423 = .ok (.iaload, 1) := by decide +kernel
theorem z_L_law_424 : decode b_L_law 424 = .ok (.aload_n 3, 1) := by decide +kernel
theorem z_L_law_425 : decode b_L_law 425 = .ok (.invokestatic 87, 3) := by decide +kernel
theorem z_L_law_428 : decode b_L_law 428 = .ok (.istore 5, 2) := by decide +kernel
theorem z_L_law_430 : decode b_L_law 430 = .ok (.aload_n 2, 1) := by decide +kernel
theorem z_L_law_431 : decode b_L_law 431 = .ok (.aload_n 0, 1) := by decide +kernel
theorem z_L_law_432 : decode b_L_law 432 = .ok (.iload 4, 2) := by decide +kernel
theorem z_L_law_434 : decode b_L_law 434 = .ok (.iconst 1, 1) := by decide +kernel
theorem z_L_law_435 : decode b_L_law 435 = .ok (.iadd, 1) := by decide +kernel
theorem z_L_law_436 : decode b_L_law 436 = .ok (.iaload, 1) := by decide +kernel
theorem z_L_law_437 : decode b_L_law 437 = .ok (.aload_n 0, 1) := by decide +kernel
theorem z_L_law_438 : decode b_L_law 438 = .ok (.iload 4, 2) := by decide +kernel
theorem z_L_law_440 : decode b_L_law 440 = .ok (.iconst 2, 1) := by decide +kernel
theorem z_L_law_441 : decode b_L_law 441 = .ok (.iadd, 1) := by decide +kernel
theorem z_L_law_442 : decode b_L_law 442 = .ok (.iaload, 1) := by decide +kernel
theorem z_L_law_443 : decode b_L_law 443 = .ok (.aload_n 0, 1) := by decide +kernel
theorem z_L_law_444 : decode b_L_law 444 = .ok (.iload 4, 2) := by decide +kernel
theorem z_L_law_446 : decode b_L_law 446 = .ok (.iconst 3, 1) := by decide +kernel
theorem z_L_law_447 : decode b_L_law 447 = .ok (.iadd, 1) := by decide +kernel
theorem z_L_law_448 : decode b_L_law 448 = .ok (.iaload, 1) := by decide +kernel
theorem z_L_law_449 : decode b_L_law 449 = .ok (.aload_n 0, 1) := by decide +kernel
theorem z_L_law_450 : decode b_L_law 450 = .ok (.iload 4, 2) := by decide +kernel
theorem z_L_law_452 : decode b_L_law 452 = .ok (.iconst 4, 1) := by decide +kernel
theorem z_L_law_453 : decode b_L_law 453 = .ok (.iadd, 1) := by decide +kernel
theorem z_L_law_454 : decode b_L_law 454 = .ok (.iaload, 1) := by decide +kernel
theorem z_L_law_455 : decode b_L_law 455 = .ok (.invokevirtual 89, 3) := by decide +kernel
theorem z_L_law_458 : decode b_L_law 458 = .ok (.lstore 6, 2) := by decide +kernel
theorem z_L_law_460 : decode b_L_law 460 = .ok (.aload_n 2, 1) := by decide +kernel
theorem z_L_law_461 : decode b_L_law 461 = .ok (.invokevirtual 71, 3) := by decide +kernel
theorem z_L_law_464 : decode b_L_law 464 = .ok (.iload 5, 2) := by decide +kernel
theorem z_L_law_466 : decode b_L_law 466 = .ok (.if_icmp .eq 5, 3) := by decide +kernel
theorem z_L_law_469 : decode b_L_law 469 = .ok (.iconst 0, 1) := by decide +kernel
theorem z_L_law_470 : decode b_L_law 470 = .ok (.ireturn, 1) := by decide +kernel
theorem z_L_law_471 : decode b_L_law 471 = .ok (.iload 5, 2) := by decide +kernel
theorem z_L_law_473 : decode b_L_law 473 = .ok (.ifCond .ne 14, 3) := by decide +kernel
theorem z_L_law_476 : decode b_L_law 476 = .ok (.aload_n 3, 1) := by decide +kernel
theorem z_L_law_477 : decode b_L_law 477 = .ok (.iconst 0, 1) := by decide +kernel
theorem z_L_law_478 : decode b_L_law 478 = .ok (.laload, 1) := by decide +kernel
theorem z_L_law_479 : decode b_L_law 479 = .ok (.lload 6, 2) := by decide +kernel
theorem z_L_law_481 : decode b_L_law 481 = .ok (.lcmp, 1) := by decide +kernel
theorem z_L_law_482 : decode b_L_law 482 = .ok (.ifCond .eq 5, 3) := by decide +kernel
theorem z_L_law_485 : decode b_L_law 485 = .ok (.iconst 0, 1) := by decide +kernel
theorem z_L_law_486 : decode b_L_law 486 = .ok (.ireturn, 1) := by decide +kernel
theorem z_L_law_487 : decode b_L_law 487 = .ok (.goto 592, 3) := by decide +kernel
theorem z_L_law_490 : decode b_L_law 490 = .ok (.aload_n 1, 1) := by decide +kernel
theorem z_L_law_491 : decode b_L_law 491 = .ok (.aload_n 0, 1) := by decide +kernel
theorem z_L_law_492 : decode b_L_law 492 = .ok (.iload 4, 2) := by decide +kernel
theorem z_L_law_494 : decode b_L_law 494 = .ok (.iconst 1, 1) := by decide +kernel
theorem z_L_law_495 : decode b_L_law 495 = .ok (.iadd, 1) := by decide +kernel
theorem z_L_law_496 : decode b_L_law 496 = .ok (.iaload, 1) := by decide +kernel
theorem z_L_law_497 : decode b_L_law 497 = .ok (.aload_n 0, 1) := by decide +kernel
theorem z_L_law_498 : decode b_L_law 498 = .ok (.iload 4, 2) := by decide +kernel
theorem z_L_law_500 : decode b_L_law 500 = .ok (.iconst 2, 1) := by decide +kernel
theorem z_L_law_501 : decode b_L_law 501 = .ok (.iadd, 1) := by decide +kernel
theorem z_L_law_502 : decode b_L_law 502 = .ok (.iaload, 1) := by decide +kernel
theorem z_L_law_503 : decode b_L_law 503 = .ok (.aload_n 0, 1) := by decide +kernel
theorem z_L_law_504 : decode b_L_law 504 = .ok (.iload 4, 2) := by decide +kernel
theorem z_L_law_506 : decode b_L_law 506 = .ok (.iconst 3, 1) := by decide +kernel
theorem z_L_law_507 : decode b_L_law 507 = .ok (.iadd, 1) := by decide +kernel
theorem z_L_law_508 : decode b_L_law 508 = .ok (.iaload, 1) := by decide +kernel
theorem z_L_law_509 : decode b_L_law 509 = .ok (.i2l, 1) := by decide +kernel
theorem z_L_law_510 : decode b_L_law 510 = .ok (.bipush 32, 2) := by decide +kernel
theorem z_L_law_512 : decode b_L_law 512 = .ok (.lshl, 1) := by decide +kernel
theorem z_L_law_513 : decode b_L_law 513 = .ok (.aload_n 0, 1) := by decide +kernel
theorem z_L_law_514 : decode b_L_law 514 = .ok (.iload 4, 2) := by decide +kernel
theorem z_L_law_516 : decode b_L_law 516 = .ok (.iconst 4, 1) := by decide +kernel
theorem z_L_law_517 : decode b_L_law 517 = .ok (.iadd, 1) := by decide +kernel
theorem z_L_law_518 : decode b_L_law 518 = .ok (.iaload, 1) := by decide +kernel
theorem z_L_law_519 : decode b_L_law 519 = .ok (.i2l, 1) := by decide +kernel
theorem z_L_law_520 : decode b_L_law 520 = .ok (.ldc2_w 90, 3) := by decide +kernel
theorem z_L_law_523 : decode b_L_law 523 = .ok (.land, 1) := by decide +kernel
theorem z_L_law_524 : decode b_L_law 524 = .ok (.lor, 1) := by decide +kernel
theorem z_L_law_525 : decode b_L_law 525 = .ok (.aload_n 0, 1) := by decide +kernel
theorem z_L_law_526 : decode b_L_law 526 = .ok (.iload 4, 2) := by decide +kernel
theorem z_L_law_528 : decode b_L_law 528 = .ok (.iconst 5, 1) := by decide +kernel
theorem z_L_law_529 : decode b_L_law 529 = .ok (.iadd, 1) := by decide +kernel
theorem z_L_law_530 : decode b_L_law 530 = .ok (.iaload, 1) := by decide +kernel
theorem z_L_law_531 : decode b_L_law 531 = .ok (.aload_n 3, 1) := by decide +kernel
theorem z_L_law_532 : decode b_L_law 532 = .ok (.invokestatic 92, 3) := by decide +kernel
theorem z_L_law_535 : decode b_L_law 535 = .ok (.istore 5, 2) := by decide +kernel
theorem z_L_law_537 : decode b_L_law 537 = .ok (.aload_n 2, 1) := by decide +kernel
theorem z_L_law_538 : decode b_L_law 538 = .ok (.aload_n 0, 1) := by decide +kernel
theorem z_L_law_539 : decode b_L_law 539 = .ok (.iload 4, 2) := by decide +kernel
theorem z_L_law_541 : decode b_L_law 541 = .ok (.iconst 1, 1) := by decide +kernel
theorem z_L_law_542 : decode b_L_law 542 = .ok (.iadd, 1) := by decide +kernel
theorem z_L_law_543 : decode b_L_law 543 = .ok (.iaload, 1) := by decide +kernel
theorem z_L_law_544 : decode b_L_law 544 = .ok (.aload_n 0, 1) := by decide +kernel
theorem z_L_law_545 : decode b_L_law 545 = .ok (.iload 4, 2) := by decide +kernel
theorem z_L_law_547 : decode b_L_law 547 = .ok (.iconst 2, 1) := by decide +kernel
theorem z_L_law_548 : decode b_L_law 548 = .ok (.iadd, 1) := by decide +kernel
theorem z_L_law_549 : decode b_L_law 549 = .ok (.iaload, 1) := by decide +kernel
theorem z_L_law_550 : decode b_L_law 550 = .ok (.aload_n 0, 1) := by decide +kernel
theorem z_L_law_551 : decode b_L_law 551 = .ok (.iload 4, 2) := by decide +kernel
theorem z_L_law_553 : decode b_L_law 553 = .ok (.iconst 3, 1) := by decide +kernel
theorem z_L_law_554 : decode b_L_law 554 = .ok (.iadd, 1) := by decide +kernel
theorem z_L_law_555 : decode b_L_law 555 = .ok (.iaload, 1) := by decide +kernel
theorem z_L_law_556 : decode b_L_law 556 = .ok (.i2l, 1) := by decide +kernel
theorem z_L_law_557 : decode b_L_law 557 = .ok (.bipush 32, 2) := by decide +kernel
theorem z_L_law_559 : decode b_L_law 559 = .ok (.lshl, 1) := by decide +kernel
theorem z_L_law_560 : decode b_L_law 560 = .ok (.aload_n 0, 1) := by decide +kernel
theorem z_L_law_561 : decode b_L_law 561 = .ok (.iload 4, 2) := by decide +kernel
theorem z_L_law_563 : decode b_L_law 563 = .ok (.iconst 4, 1) := by decide +kernel
theorem z_L_law_564 : decode b_L_law 564 = .ok (.iadd, 1) := by decide +kernel
theorem z_L_law_565 : decode b_L_law 565 = .ok (.iaload, 1) := by decide +kernel
theorem z_L_law_566 : decode b_L_law 566 = .ok (.i2l, 1) := by decide +kernel
theorem z_L_law_567 : decode b_L_law 567 = .ok (.ldc2_w 90, 3) := by decide +kernel
theorem z_L_law_570 : decode b_L_law 570 = .ok (.land, 1) := by decide +kernel
theorem z_L_law_571 : decode b_L_law 571 = .ok (.lor, 1) := by decide +kernel
theorem z_L_law_572 : decode b_L_law 572 = .ok (.aload_n 0, 1) := by decide +kernel
theorem z_L_law_573 : decode b_L_law 573 = .ok (.iload 4, 2) := by decide +kernel
theorem z_L_law_575 : decode b_L_law 575 = .ok (.iconst 5, 1) := by decide +kernel
theorem z_L_law_576 : decode b_L_law 576 = .ok (.iadd, 1) := by decide +kernel
theorem z_L_law_577 : decode b_L_law 577 = .ok (.iaload, 1) := by decide +kernel
theorem z_L_law_578 : decode b_L_law 578 = .ok (.invokevirtual 95, 3) := by decide +kernel
theorem z_L_law_581 : decode b_L_law 581 = .ok (.istore 6, 2) := by decide +kernel
theorem z_L_law_583 : decode b_L_law 583 = .ok (.aload_n 2, 1) := by decide +kernel
theorem z_L_law_584 : decode b_L_law 584 = .ok (.invokevirtual 71, 3) := by decide +kernel
theorem z_L_law_587 : decode b_L_law 587 = .ok (.iload 5, 2) := by decide +kernel
theorem z_L_law_589 : decode b_L_law 589 = .ok (.if_icmp .eq 5, 3) := by decide +kernel
theorem z_L_law_592 : decode b_L_law 592 = .ok (.iconst 0, 1) := by decide +kernel
theorem z_L_law_593 : decode b_L_law 593 = .ok (.ireturn, 1) := by decide +kernel
theorem z_L_law_594 : decode b_L_law 594 = .ok (.iload 5, 2) := by decide +kernel
theorem z_L_law_596 : decode b_L_law 596 = .ok (.ifCond .ne 15, 3) := by decide +kernel
theorem z_L_law_599 : decode b_L_law 599 = .ok (.aload_n 3, 1) := by decide +kernel
theorem z_L_law_600 : decode b_L_law 600 = .ok (.iconst 0, 1) := by decide +kernel
theorem z_L_law_601 : decode b_L_law 601 = .ok (.laload, 1) := by decide +kernel
theorem z_L_law_602 : decode b_L_law 602 = .ok (.iload 6, 2) := by decide +kernel
theorem z_L_law_604 : decode b_L_law 604 = .ok (.i2l, 1) := by decide +kernel
theorem z_L_law_605 : decode b_L_law 605 = .ok (.lcmp, 1) := by decide +kernel
theorem z_L_law_606 : decode b_L_law 606 = .ok (.ifCond .eq 5, 3) := by decide +kernel
theorem z_L_law_609 : decode b_L_law 609 = .ok (.iconst 0, 1) := by decide +kernel
theorem z_L_law_610 : decode b_L_law 610 = .ok (.ireturn, 1) := by decide +kernel
theorem z_L_law_611 : decode b_L_law 611 = .ok (.goto 468, 3) := by decide +kernel
theorem z_L_law_614 : decode b_L_law 614 = .ok (.aload_n 1, 1) := by decide +kernel
theorem z_L_law_615 : decode b_L_law 615 = .ok (.aload_n 0, 1) := by decide +kernel
theorem z_L_law_616 : decode b_L_law 616 = .ok (.iload 4, 2) := by decide +kernel
theorem z_L_law_618 : decode b_L_law 618 = .ok (.iconst 1, 1) := by decide +kernel
theorem z_L_law_619 : decode b_L_law 619 = .ok (.iadd, 1) := by decide +kernel
theorem z_L_law_620 : decode b_L_law 620 = .ok (.iaload, 1) := by decide +kernel
theorem z_L_law_621 : decode b_L_law 621 = .ok (.aload_n 0, 1) := by decide +kernel
theorem z_L_law_622 : decode b_L_law 622 = .ok (.iload 4, 2) := by decide +kernel
theorem z_L_law_624 : decode b_L_law 624 = .ok (.iconst 2, 1) := by decide +kernel
theorem z_L_law_625 : decode b_L_law 625 = .ok (.iadd, 1) := by decide +kernel
theorem z_L_law_626 : decode b_L_law 626 = .ok (.iaload, 1) := by decide +kernel
theorem z_L_law_627 : decode b_L_law 627 = .ok (.aload_n 0, 1) := by decide +kernel
theorem z_L_law_628 : decode b_L_law 628 = .ok (.iload 4, 2) := by decide +kernel
theorem z_L_law_630 : decode b_L_law 630 = .ok (.iconst 3, 1) := by decide +kernel
theorem z_L_law_631 : decode b_L_law 631 = .ok (.iadd, 1) := by decide +kernel
theorem z_L_law_632 : decode b_L_law 632 = .ok (.iaload, 1) := by decide +kernel
theorem z_L_law_633 : decode b_L_law 633 = .ok (.aload_n 3, 1) := by decide +kernel
theorem z_L_law_634 : decode b_L_law 634 = .ok (.invokestatic 96, 3) := by decide +kernel
theorem z_L_law_637 : decode b_L_law 637 = .ok (.istore 5, 2) := by decide +kernel
theorem z_L_law_639 : decode b_L_law 639 = .ok (.aload_n 2, 1) := by decide +kernel
theorem z_L_law_640 : decode b_L_law 640 = .ok (.aload_n 0, 1) := by decide +kernel
theorem z_L_law_641 : decode b_L_law 641 = .ok (.iload 4, 2) := by decide +kernel
theorem z_L_law_643 : decode b_L_law 643 = .ok (.iconst 1, 1) := by decide +kernel
theorem z_L_law_644 : decode b_L_law 644 = .ok (.iadd, 1) := by decide +kernel
theorem z_L_law_645 : decode b_L_law 645 = .ok (.iaload, 1) := by decide +kernel
theorem z_L_law_646 : decode b_L_law 646 = .ok (.aload_n 0, 1) := by decide +kernel
theorem z_L_law_647 : decode b_L_law 647 = .ok (.iload 4, 2) := by decide +kernel
theorem z_L_law_649 : decode b_L_law 649 = .ok (.iconst 2, 1) := by decide +kernel
theorem z_L_law_650 : decode b_L_law 650 = .ok (.iadd, 1) := by decide +kernel
theorem z_L_law_651 : decode b_L_law 651 = .ok (.iaload, 1) := by decide +kernel
theorem z_L_law_652 : decode b_L_law 652 = .ok (.aload_n 0, 1) := by decide +kernel
theorem z_L_law_653 : decode b_L_law 653 = .ok (.iload 4, 2) := by decide +kernel
theorem z_L_law_655 : decode b_L_law 655 = .ok (.iconst 3, 1) := by decide +kernel
theorem z_L_law_656 : decode b_L_law 656 = .ok (.iadd, 1) := by decide +kernel
theorem z_L_law_657 : decode b_L_law 657 = .ok (.iaload, 1) := by decide +kernel
theorem z_L_law_658 : decode b_L_law 658 = .ok (.invokevirtual 99, 3) := by decide +kernel
theorem z_L_law_661 : decode b_L_law 661 = .ok (.istore 6, 2) := by decide +kernel
theorem z_L_law_663 : decode b_L_law 663 = .ok (.aload_n 2, 1) := by decide +kernel
theorem z_L_law_664 : decode b_L_law 664 = .ok (.invokevirtual 71, 3) := by decide +kernel
theorem z_L_law_667 : decode b_L_law 667 = .ok (.iload 5, 2) := by decide +kernel
theorem z_L_law_669 : decode b_L_law 669 = .ok (.if_icmp .eq 5, 3) := by decide +kernel
theorem z_L_law_672 : decode b_L_law 672 = .ok (.iconst 0, 1) := by decide +kernel
theorem z_L_law_673 : decode b_L_law 673 = .ok (.ireturn, 1) := by decide +kernel
theorem z_L_law_674 : decode b_L_law 674 = .ok (.iload 5, 2) := by decide +kernel
theorem z_L_law_676 : decode b_L_law 676 = .ok (.ifCond .ne 15, 3) := by decide +kernel
theorem z_L_law_679 : decode b_L_law 679 = .ok (.aload_n 3, 1) := by decide +kernel
theorem z_L_law_680 : decode b_L_law 680 = .ok (.iconst 0, 1) := by decide +kernel
theorem z_L_law_681 : decode b_L_law 681 = .ok (.laload, 1) := by decide +kernel
theorem z_L_law_682 : decode b_L_law 682 = .ok (.iload 6, 2) := by decide +kernel
theorem z_L_law_684 : decode b_L_law 684 = .ok (.i2l, 1) := by decide +kernel
theorem z_L_law_685 : decode b_L_law 685 = .ok (.lcmp, 1) := by decide +kernel
theorem z_L_law_686 : decode b_L_law 686 = .ok (.ifCond .eq 5, 3) := by decide +kernel
theorem z_L_law_689 : decode b_L_law 689 = .ok (.iconst 0, 1) := by decide +kernel
theorem z_L_law_690 : decode b_L_law 690 = .ok (.ireturn, 1) := by decide +kernel
theorem z_L_law_691 : decode b_L_law 691 = .ok (.goto 388, 3) := by decide +kernel
theorem z_L_law_694 : decode b_L_law 694 = .ok (.aload_n 1, 1) := by decide +kernel
theorem z_L_law_695 : decode b_L_law 695 = .ok (.aload_n 0, 1) := by decide +kernel
theorem z_L_law_696 : decode b_L_law 696 = .ok (.iload 4, 2) := by decide +kernel
theorem z_L_law_698 : decode b_L_law 698 = .ok (.iconst 1, 1) := by decide +kernel
theorem z_L_law_699 : decode b_L_law 699 = .ok (.iadd, 1) := by decide +kernel
theorem z_L_law_700 : decode b_L_law 700 = .ok (.iaload, 1) := by decide +kernel
theorem z_L_law_701 : decode b_L_law 701 = .ok (.aload_n 0, 1) := by decide +kernel
theorem z_L_law_702 : decode b_L_law 702 = .ok (.iload 4, 2) := by decide +kernel
theorem z_L_law_704 : decode b_L_law 704 = .ok (.iconst 2, 1) := by decide +kernel
theorem z_L_law_705 : decode b_L_law 705 = .ok (.iadd, 1) := by decide +kernel
theorem z_L_law_706 : decode b_L_law 706 = .ok (.iaload, 1) := by decide +kernel
theorem z_L_law_707 : decode b_L_law 707 = .ok (.i2l, 1) := by decide +kernel
theorem z_L_law_708 : decode b_L_law 708 = .ok (.bipush 32, 2) := by decide +kernel
theorem z_L_law_710 : decode b_L_law 710 = .ok (.lshl, 1) := by decide +kernel
theorem z_L_law_711 : decode b_L_law 711 = .ok (.aload_n 0, 1) := by decide +kernel
theorem z_L_law_712 : decode b_L_law 712 = .ok (.iload 4, 2) := by decide +kernel
theorem z_L_law_714 : decode b_L_law 714 = .ok (.iconst 3, 1) := by decide +kernel
theorem z_L_law_715 : decode b_L_law 715 = .ok (.iadd, 1) := by decide +kernel
theorem z_L_law_716 : decode b_L_law 716 = .ok (.iaload, 1) := by decide +kernel
theorem z_L_law_717 : decode b_L_law 717 = .ok (.i2l, 1) := by decide +kernel
theorem z_L_law_718 : decode b_L_law 718 = .ok (.ldc2_w 90, 3) := by decide +kernel
theorem z_L_law_721 : decode b_L_law 721 = .ok (.land, 1) := by decide +kernel
theorem z_L_law_722 : decode b_L_law 722 = .ok (.lor, 1) := by decide +kernel
theorem z_L_law_723 : decode b_L_law 723 = .ok (.aload_n 0, 1) := by decide +kernel
theorem z_L_law_724 : decode b_L_law 724 = .ok (.iload 4, 2) := by decide +kernel
theorem z_L_law_726 : decode b_L_law 726 = .ok (.iconst 4, 1) := by decide +kernel
theorem z_L_law_727 : decode b_L_law 727 = .ok (.iadd, 1) := by decide +kernel
theorem z_L_law_728 : decode b_L_law 728 = .ok (.iaload, 1) := by decide +kernel
theorem z_L_law_729 : decode b_L_law 729 = .ok (.aload_n 3, 1) := by decide +kernel
theorem z_L_law_730 : decode b_L_law 730 = .ok (.invokestatic 100, 3) := by decide +kernel
theorem z_L_law_733 : decode b_L_law 733 = .ok (.istore 5, 2) := by decide +kernel
theorem z_L_law_735 : decode b_L_law 735 = .ok (.aload_n 2, 1) := by decide +kernel
theorem z_L_law_736 : decode b_L_law 736 = .ok (.aload_n 0, 1) := by decide +kernel
theorem z_L_law_737 : decode b_L_law 737 = .ok (.iload 4, 2) := by decide +kernel
theorem z_L_law_739 : decode b_L_law 739 = .ok (.iconst 1, 1) := by decide +kernel
theorem z_L_law_740 : decode b_L_law 740 = .ok (.iadd, 1) := by decide +kernel
theorem z_L_law_741 : decode b_L_law 741 = .ok (.iaload, 1) := by decide +kernel
theorem z_L_law_742 : decode b_L_law 742 = .ok (.aload_n 0, 1) := by decide +kernel
theorem z_L_law_743 : decode b_L_law 743 = .ok (.iload 4, 2) := by decide +kernel
theorem z_L_law_745 : decode b_L_law 745 = .ok (.iconst 2, 1) := by decide +kernel
theorem z_L_law_746 : decode b_L_law 746 = .ok (.iadd, 1) := by decide +kernel
theorem z_L_law_747 : decode b_L_law 747 = .ok (.iaload, 1) := by decide +kernel
theorem z_L_law_748 : decode b_L_law 748 = .ok (.i2l, 1) := by decide +kernel
theorem z_L_law_749 : decode b_L_law 749 = .ok (.bipush 32, 2) := by decide +kernel
theorem z_L_law_751 : decode b_L_law 751 = .ok (.lshl, 1) := by decide +kernel
theorem z_L_law_752 : decode b_L_law 752 = .ok (.aload_n 0, 1) := by decide +kernel
theorem z_L_law_753 : decode b_L_law 753 = .ok (.iload 4, 2) := by decide +kernel
theorem z_L_law_755 : decode b_L_law 755 = .ok (.iconst 3, 1) := by decide +kernel
theorem z_L_law_756 : decode b_L_law 756 = .ok (.iadd, 1) := by decide +kernel
theorem z_L_law_757 : decode b_L_law 757 = .ok (.iaload, 1) := by decide +kernel
theorem z_L_law_758 : decode b_L_law 758 = .ok (.i2l, 1) := by decide +kernel
theorem z_L_law_759 : decode b_L_law 759 = .ok (.ldc2_w 90, 3) := by decide +kernel
theorem z_L_law_762 : decode b_L_law 762 = .ok (.land, 1) := by decide +kernel
theorem z_L_law_763 : decode b_L_law 763 = .ok (.lor, 1) := by decide +kernel
theorem z_L_law_764 : decode b_L_law 764 = .ok (.aload_n 0, 1) := by decide +kernel
theorem z_L_law_765 : decode b_L_law 765 = .ok (.iload 4, 2) := by decide +kernel
theorem z_L_law_767 : decode b_L_law 767 = .ok (.iconst 4, 1) := by decide +kernel
theorem z_L_law_768 : decode b_L_law 768 = .ok (.iadd, 1) := by decide +kernel
theorem z_L_law_769 : decode b_L_law 769 = .ok (.iaload, 1) := by decide +kernel
theorem z_L_law_770 : decode b_L_law 770 = .ok (.invokevirtual 103, 3) := by decide +kernel
theorem z_L_law_773 : decode b_L_law 773 = .ok (.istore 6, 2) := by decide +kernel
theorem z_L_law_775 : decode b_L_law 775 = .ok (.aload_n 2, 1) := by decide +kernel
theorem z_L_law_776 : decode b_L_law 776 = .ok (.invokevirtual 71, 3) := by decide +kernel
theorem z_L_law_779 : decode b_L_law 779 = .ok (.iload 5, 2) := by decide +kernel
theorem z_L_law_781 : decode b_L_law 781 = .ok (.if_icmp .eq 5, 3) := by decide +kernel
theorem z_L_law_784 : decode b_L_law 784 = .ok (.iconst 0, 1) := by decide +kernel
theorem z_L_law_785 : decode b_L_law 785 = .ok (.ireturn, 1) := by decide +kernel
theorem z_L_law_786 : decode b_L_law 786 = .ok (.iload 5, 2) := by decide +kernel
theorem z_L_law_788 : decode b_L_law 788 = .ok (.ifCond .ne 15, 3) := by decide +kernel
theorem z_L_law_791 : decode b_L_law 791 = .ok (.aload_n 3, 1) := by decide +kernel
theorem z_L_law_792 : decode b_L_law 792 = .ok (.iconst 0, 1) := by decide +kernel
theorem z_L_law_793 : decode b_L_law 793 = .ok (.laload, 1) := by decide +kernel
theorem z_L_law_794 : decode b_L_law 794 = .ok (.iload 6, 2) := by decide +kernel
theorem z_L_law_796 : decode b_L_law 796 = .ok (.i2l, 1) := by decide +kernel
theorem z_L_law_797 : decode b_L_law 797 = .ok (.lcmp, 1) := by decide +kernel
theorem z_L_law_798 : decode b_L_law 798 = .ok (.ifCond .eq 5, 3) := by decide +kernel
theorem z_L_law_801 : decode b_L_law 801 = .ok (.iconst 0, 1) := by decide +kernel
theorem z_L_law_802 : decode b_L_law 802 = .ok (.ireturn, 1) := by decide +kernel
theorem z_L_law_803 : decode b_L_law 803 = .ok (.goto 276, 3) := by decide +kernel
theorem z_L_law_806 : decode b_L_law 806 = .ok (.aload_n 1, 1) := by decide +kernel
theorem z_L_law_807 : decode b_L_law 807 = .ok (.aload_n 0, 1) := by decide +kernel
theorem z_L_law_808 : decode b_L_law 808 = .ok (.iload 4, 2) := by decide +kernel
theorem z_L_law_810 : decode b_L_law 810 = .ok (.iconst 1, 1) := by decide +kernel
theorem z_L_law_811 : decode b_L_law 811 = .ok (.iadd, 1) := by decide +kernel
theorem z_L_law_812 : decode b_L_law 812 = .ok (.iaload, 1) := by decide +kernel
theorem z_L_law_813 : decode b_L_law 813 = .ok (.aload_n 0, 1) := by decide +kernel
theorem z_L_law_814 : decode b_L_law 814 = .ok (.iload 4, 2) := by decide +kernel
theorem z_L_law_816 : decode b_L_law 816 = .ok (.iconst 2, 1) := by decide +kernel
theorem z_L_law_817 : decode b_L_law 817 = .ok (.iadd, 1) := by decide +kernel
theorem z_L_law_818 : decode b_L_law 818 = .ok (.iaload, 1) := by decide +kernel
theorem z_L_law_819 : decode b_L_law 819 = .ok (.aload_n 0, 1) := by decide +kernel
theorem z_L_law_820 : decode b_L_law 820 = .ok (.iload 4, 2) := by decide +kernel
theorem z_L_law_822 : decode b_L_law 822 = .ok (.iconst 3, 1) := by decide +kernel
theorem z_L_law_823 : decode b_L_law 823 = .ok (.iadd, 1) := by decide +kernel
theorem z_L_law_824 : decode b_L_law 824 = .ok (.iaload, 1) := by decide +kernel
theorem z_L_law_825 : decode b_L_law 825 = .ok (.aload_n 3, 1) := by decide +kernel
theorem z_L_law_826 : decode b_L_law 826 = .ok (.invokestatic 104, 3) := by decide +kernel
theorem z_L_law_829 : decode b_L_law 829 = .ok (.istore 5, 2) := by decide +kernel
theorem z_L_law_831 : decode b_L_law 831 = .ok (.aload_n 2, 1) := by decide +kernel
theorem z_L_law_832 : decode b_L_law 832 = .ok (.aload_n 0, 1) := by decide +kernel
theorem z_L_law_833 : decode b_L_law 833 = .ok (.iload 4, 2) := by decide +kernel
theorem z_L_law_835 : decode b_L_law 835 = .ok (.iconst 1, 1) := by decide +kernel
theorem z_L_law_836 : decode b_L_law 836 = .ok (.iadd, 1) := by decide +kernel
theorem z_L_law_837 : decode b_L_law 837 = .ok (.iaload, 1) := by decide +kernel
theorem z_L_law_838 : decode b_L_law 838 = .ok (.aload_n 0, 1) := by decide +kernel
theorem z_L_law_839 : decode b_L_law 839 = .ok (.iload 4, 2) := by decide +kernel
theorem z_L_law_841 : decode b_L_law 841 = .ok (.iconst 2, 1) := by decide +kernel
theorem z_L_law_842 : decode b_L_law 842 = .ok (.iadd, 1) := by decide +kernel
theorem z_L_law_843 : decode b_L_law 843 = .ok (.iaload, 1) := by decide +kernel
theorem z_L_law_844 : decode b_L_law 844 = .ok (.aload_n 0, 1) := by decide +kernel
theorem z_L_law_845 : decode b_L_law 845 = .ok (.iload 4, 2) := by decide +kernel
theorem z_L_law_847 : decode b_L_law 847 = .ok (.iconst 3, 1) := by decide +kernel
theorem z_L_law_848 : decode b_L_law 848 = .ok (.iadd, 1) := by decide +kernel
theorem z_L_law_849 : decode b_L_law 849 = .ok (.iaload, 1) := by decide +kernel
theorem z_L_law_850 : decode b_L_law 850 = .ok (.invokevirtual 106, 3) := by decide +kernel
theorem z_L_law_853 : decode b_L_law 853 = .ok (.istore 6, 2) := by decide +kernel
theorem z_L_law_855 : decode b_L_law 855 = .ok (.aload_n 2, 1) := by decide +kernel
theorem z_L_law_856 : decode b_L_law 856 = .ok (.invokevirtual 71, 3) := by decide +kernel
theorem z_L_law_859 : decode b_L_law 859 = .ok (.iload 5, 2) := by decide +kernel
theorem z_L_law_861 : decode b_L_law 861 = .ok (.if_icmp .eq 5, 3) := by decide +kernel
theorem z_L_law_864 : decode b_L_law 864 = .ok (.iconst 0, 1) := by decide +kernel
theorem z_L_law_865 : decode b_L_law 865 = .ok (.ireturn, 1) := by decide +kernel
theorem z_L_law_866 : decode b_L_law 866 = .ok (.iload 5, 2) := by decide +kernel
theorem z_L_law_868 : decode b_L_law 868 = .ok (.ifCond .ne 15, 3) := by decide +kernel
theorem z_L_law_871 : decode b_L_law 871 = .ok (.aload_n 3, 1) := by decide +kernel
theorem z_L_law_872 : decode b_L_law 872 = .ok (.iconst 0, 1) := by decide +kernel
theorem z_L_law_873 : decode b_L_law 873 = .ok (.laload, 1) := by decide +kernel
theorem z_L_law_874 : decode b_L_law 874 = .ok (.iload 6, 2) := by decide +kernel
theorem z_L_law_876 : decode b_L_law 876 = .ok (.i2l, 1) := by decide +kernel
theorem z_L_law_877 : decode b_L_law 877 = .ok (.lcmp, 1) := by decide +kernel
theorem z_L_law_878 : decode b_L_law 878 = .ok (.ifCond .eq 5, 3) := by decide +kernel
theorem z_L_law_881 : decode b_L_law 881 = .ok (.iconst 0, 1) := by decide +kernel
theorem z_L_law_882 : decode b_L_law 882 = .ok (.ireturn, 1) := by decide +kernel
theorem z_L_law_883 : decode b_L_law 883 = .ok (.goto 196, 3) := by decide +kernel
theorem z_L_law_886 : decode b_L_law 886 = .ok (.aload_n 1, 1) := by decide +kernel
theorem z_L_law_887 : decode b_L_law 887 = .ok (.aload_n 0, 1) := by decide +kernel
theorem z_L_law_888 : decode b_L_law 888 = .ok (.iload 4, 2) := by decide +kernel
theorem z_L_law_890 : decode b_L_law 890 = .ok (.iconst 1, 1) := by decide +kernel
theorem z_L_law_891 : decode b_L_law 891 = .ok (.iadd, 1) := by decide +kernel
theorem z_L_law_892 : decode b_L_law 892 = .ok (.iaload, 1) := by decide +kernel
theorem z_L_law_893 : decode b_L_law 893 = .ok (.aload_n 0, 1) := by decide +kernel
theorem z_L_law_894 : decode b_L_law 894 = .ok (.iload 4, 2) := by decide +kernel
theorem z_L_law_896 : decode b_L_law 896 = .ok (.iconst 2, 1) := by decide +kernel
theorem z_L_law_897 : decode b_L_law 897 = .ok (.iadd, 1) := by decide +kernel
theorem z_L_law_898 : decode b_L_law 898 = .ok (.iaload, 1) := by decide +kernel
theorem z_L_law_899 : decode b_L_law 899 = .ok (.aload_n 3, 1) := by decide +kernel
theorem z_L_law_900 : decode b_L_law 900 = .ok (.invokestatic 107, 3) := by decide +kernel
theorem z_L_law_903 : decode b_L_law 903 = .ok (.istore 5, 2) := by decide +kernel
theorem z_L_law_905 : decode b_L_law 905 = .ok (.aload_n 2, 1) := by decide +kernel
theorem z_L_law_906 : decode b_L_law 906 = .ok (.aload_n 0, 1) := by decide +kernel
theorem z_L_law_907 : decode b_L_law 907 = .ok (.iload 4, 2) := by decide +kernel
theorem z_L_law_909 : decode b_L_law 909 = .ok (.iconst 1, 1) := by decide +kernel
theorem z_L_law_910 : decode b_L_law 910 = .ok (.iadd, 1) := by decide +kernel
theorem z_L_law_911 : decode b_L_law 911 = .ok (.iaload, 1) := by decide +kernel
theorem z_L_law_912 : decode b_L_law 912 = .ok (.aload_n 0, 1) := by decide +kernel
theorem z_L_law_913 : decode b_L_law 913 = .ok (.iload 4, 2) := by decide +kernel
theorem z_L_law_915 : decode b_L_law 915 = .ok (.iconst 2, 1) := by decide +kernel
theorem z_L_law_916 : decode b_L_law 916 = .ok (.iadd, 1) := by decide +kernel
theorem z_L_law_917 : decode b_L_law 917 = .ok (.iaload, 1) := by decide +kernel
theorem z_L_law_918 : decode b_L_law 918 = .ok (.invokevirtual 109, 3) := by decide +kernel
theorem z_L_law_921 : decode b_L_law 921 = .ok (.istore 6, 2) := by decide +kernel
theorem z_L_law_923 : decode b_L_law 923 = .ok (.aload_n 2, 1) := by decide +kernel
theorem z_L_law_924 : decode b_L_law 924 = .ok (.invokevirtual 71, 3) := by decide +kernel
theorem z_L_law_927 : decode b_L_law 927 = .ok (.iload 5, 2) := by decide +kernel
theorem z_L_law_929 : decode b_L_law 929 = .ok (.if_icmp .eq 5, 3) := by decide +kernel
theorem z_L_law_932 : decode b_L_law 932 = .ok (.iconst 0, 1) := by decide +kernel
theorem z_L_law_933 : decode b_L_law 933 = .ok (.ireturn, 1) := by decide +kernel
theorem z_L_law_934 : decode b_L_law 934 = .ok (.iload 5, 2) := by decide +kernel
theorem z_L_law_936 : decode b_L_law 936 = .ok (.ifCond .ne 15, 3) := by decide +kernel
theorem z_L_law_939 : decode b_L_law 939 = .ok (.aload_n 3, 1) := by decide +kernel
theorem z_L_law_940 : decode b_L_law 940 = .ok (.iconst 0, 1) := by decide +kernel
theorem z_L_law_941 : decode b_L_law 941 = .ok (.laload, 1) := by decide +kernel
theorem z_L_law_942 : decode b_L_law 942 = .ok (.iload 6, 2) := by decide +kernel
theorem z_L_law_944 : decode b_L_law 944 = .ok (.i2l, 1) := by decide +kernel
theorem z_L_law_945 : decode b_L_law 945 = .ok (.lcmp, 1) := by decide +kernel
theorem z_L_law_946 : decode b_L_law 946 = .ok (.ifCond .eq 5, 3) := by decide +kernel
theorem z_L_law_949 : decode b_L_law 949 = .ok (.iconst 0, 1) := by decide +kernel
theorem z_L_law_950 : decode b_L_law 950 = .ok (.ireturn, 1) := by decide +kernel
theorem z_L_law_951 : decode b_L_law 951 = .ok (.goto 128, 3) := by decide +kernel
theorem z_L_law_954 : decode b_L_law 954 = .ok (.aload_n 1, 1) := by decide +kernel
theorem z_L_law_955 : decode b_L_law 955 = .ok (.aload_n 0, 1) := by decide +kernel
theorem z_L_law_956 : decode b_L_law 956 = .ok (.iload 4, 2) := by decide +kernel
theorem z_L_law_958 : decode b_L_law 958 = .ok (.iconst 1, 1) := by decide +kernel
theorem z_L_law_959 : decode b_L_law 959 = .ok (.iadd, 1) := by decide +kernel
theorem z_L_law_960 : decode b_L_law 960 = .ok (.iaload, 1) := by decide +kernel
theorem z_L_law_961 : decode b_L_law 961 = .ok (.aload_n 3, 1) := by decide +kernel
theorem z_L_law_962 : decode b_L_law 962 = .ok (.invokestatic 110, 3) := by decide +kernel
theorem z_L_law_965 : decode b_L_law 965 = .ok (.istore 5, 2) := by decide +kernel
theorem z_L_law_967 : decode b_L_law 967 = .ok (.aload_n 2, 1) := by decide +kernel
theorem z_L_law_968 : decode b_L_law 968 = .ok (.aload_n 0, 1) := by decide +kernel
theorem z_L_law_969 : decode b_L_law 969 = .ok (.iload 4, 2) := by decide +kernel
theorem z_L_law_971 : decode b_L_law 971 = .ok (.iconst 1, 1) := by decide +kernel
theorem z_L_law_972 : decode b_L_law 972 = .ok (.iadd, 1) := by decide +kernel
theorem z_L_law_973 : decode b_L_law 973 = .ok (.iaload, 1) := by decide +kernel
theorem z_L_law_974 : decode b_L_law 974 = .ok (.invokevirtual 113, 3) := by decide +kernel
theorem z_L_law_977 : decode b_L_law 977 = .ok (.istore 6, 2) := by decide +kernel
theorem z_L_law_979 : decode b_L_law 979 = .ok (.aload_n 2, 1) := by decide +kernel
theorem z_L_law_980 : decode b_L_law 980 = .ok (.invokevirtual 71, 3) := by decide +kernel
theorem z_L_law_983 : decode b_L_law 983 = .ok (.iload 5, 2) := by decide +kernel
theorem z_L_law_985 : decode b_L_law 985 = .ok (.if_icmp .eq 5, 3) := by decide +kernel
theorem z_L_law_988 : decode b_L_law 988 = .ok (.iconst 0, 1) := by decide +kernel
theorem z_L_law_989 : decode b_L_law 989 = .ok (.ireturn, 1) := by decide +kernel
theorem z_L_law_990 : decode b_L_law 990 = .ok (.iload 5, 2) := by decide +kernel
theorem z_L_law_992 : decode b_L_law 992 = .ok (.ifCond .ne 15, 3) := by decide +kernel
theorem z_L_law_995 : decode b_L_law 995 = .ok (.aload_n 3, 1) := by decide +kernel
theorem z_L_law_996 : decode b_L_law 996 = .ok (.iconst 0, 1) := by decide +kernel
theorem z_L_law_997 : decode b_L_law 997 = .ok (.laload, 1) := by decide +kernel
theorem z_L_law_998 : decode b_L_law 998 = .ok (.iload 6, 2) := by decide +kernel
theorem z_L_law_1000 : decode b_L_law 1000 = .ok (.i2l, 1) := by decide +kernel
theorem z_L_law_1001 : decode b_L_law 1001 = .ok (.lcmp, 1) := by decide +kernel
theorem z_L_law_1002 : decode b_L_law 1002 = .ok (.ifCond .eq 5, 3) := by decide +kernel
theorem z_L_law_1005 : decode b_L_law 1005 = .ok (.iconst 0, 1) := by decide +kernel
theorem z_L_law_1006 : decode b_L_law 1006 = .ok (.ireturn, 1) := by decide +kernel
theorem z_L_law_1007 : decode b_L_law 1007 = .ok (.goto 72, 3) := by decide +kernel
theorem z_L_law_1010 : decode b_L_law 1010 = .ok (.aload_n 1, 1) := by decide +kernel
theorem z_L_law_1011 : decode b_L_law 1011 = .ok (.aload_n 0, 1) := by decide +kernel
theorem z_L_law_1012 : decode b_L_law 1012 = .ok (.iload 4, 2) := by decide +kernel
theorem z_L_law_1014 : decode b_L_law 1014 = .ok (.iconst 1, 1) := by decide +kernel
theorem z_L_law_1015 : decode b_L_law 1015 = .ok (.iadd, 1) := by decide +kernel
theorem z_L_law_1016 : decode b_L_law 1016 = .ok (.iaload, 1) := by decide +kernel
theorem z_L_law_1017 : decode b_L_law 1017 = .ok (.aload_n 3, 1) := by decide +kernel
theorem z_L_law_1018 : decode b_L_law 1018 = .ok (.invokestatic 114, 3) := by decide +kernel
theorem z_L_law_1021 : decode b_L_law 1021 = .ok (.istore 5, 2) := by decide +kernel
theorem z_L_law_1023 : decode b_L_law 1023 = .ok (.aload_n 2, 1) := by decide +kernel
theorem z_L_law_1024 : decode b_L_law 1024 = .ok (.aload_n 0, 1) := by decide +kernel
theorem z_L_law_1025 : decode b_L_law 1025 = .ok (.iload 4, 2) := by decide +kernel
theorem z_L_law_1027 : decode b_L_law 1027 = .ok (.iconst 1, 1) := by decide +kernel
theorem z_L_law_1028 : decode b_L_law 1028 = .ok (.iadd, 1) := by decide +kernel
theorem z_L_law_1029 : decode b_L_law 1029 = .ok (.iaload, 1) := by decide +kernel
theorem z_L_law_1030 : decode b_L_law 1030 = .ok (.invokevirtual 116, 3) := by decide +kernel
theorem z_L_law_1033 : decode b_L_law 1033 = .ok (.istore 6, 2) := by decide +kernel
theorem z_L_law_1035 : decode b_L_law 1035 = .ok (.aload_n 2, 1) := by decide +kernel
theorem z_L_law_1036 : decode b_L_law 1036 = .ok (.invokevirtual 71, 3) := by decide +kernel
theorem z_L_law_1039 : decode b_L_law 1039 = .ok (.iload 5, 2) := by decide +kernel
theorem z_L_law_1041 : decode b_L_law 1041 = .ok (.if_icmp .eq 5, 3) := by decide +kernel
theorem z_L_law_1044 : decode b_L_law 1044 = .ok (.iconst 0, 1) := by decide +kernel
theorem z_L_law_1045 : decode b_L_law 1045 = .ok (.ireturn, 1) := by decide +kernel
theorem z_L_law_1046 : decode b_L_law 1046 = .ok (.iload 5, 2) := by decide +kernel
theorem z_L_law_1048 : decode b_L_law 1048 = .ok (.ifCond .ne 15, 3) := by decide +kernel
theorem z_L_law_1051 : decode b_L_law 1051 = .ok (.aload_n 3, 1) := by decide +kernel
theorem z_L_law_1052 : decode b_L_law 1052 = .ok (.iconst 0, 1) := by decide +kernel
theorem z_L_law_1053 : decode b_L_law 1053 = .ok (.laload, 1) := by decide +kernel
theorem z_L_law_1054 : decode b_L_law 1054 = .ok (.iload 6, 2) := by decide +kernel
theorem z_L_law_1056 : decode b_L_law 1056 = .ok (.i2l, 1) := by decide +kernel
theorem z_L_law_1057 : decode b_L_law 1057 = .ok (.lcmp, 1) := by decide +kernel
theorem z_L_law_1058 : decode b_L_law 1058 = .ok (.ifCond .eq 5, 3) := by decide +kernel
theorem z_L_law_1061 : decode b_L_law 1061 = .ok (.iconst 0, 1) := by decide +kernel
theorem z_L_law_1062 : decode b_L_law 1062 = .ok (.ireturn, 1) := by decide +kernel
theorem z_L_law_1063 : decode b_L_law 1063 = .ok (.goto 16, 3) := by decide +kernel
theorem z_L_law_1066 : decode b_L_law 1066 = .ok (.aload_n 1, 1) := by decide +kernel
theorem z_L_law_1067 : decode b_L_law 1067 = .ok (.invokevirtual 117, 3) := by decide +kernel
theorem z_L_law_1070 : decode b_L_law 1070 = .ok (.aload_n 2, 1) := by decide +kernel
theorem z_L_law_1071 : decode b_L_law 1071 = .ok (.invokevirtual 120, 3) := by decide +kernel
theorem z_L_law_1074 : decode b_L_law 1074 = .ok (.if_icmp .eq 5, 3) := by decide +kernel
theorem z_L_law_1077 : decode b_L_law 1077 = .ok (.iconst 0, 1) := by decide +kernel
theorem z_L_law_1078 : decode b_L_law 1078 = .ok (.ireturn, 1) := by decide +kernel
theorem z_L_law_1079 : decode b_L_law 1079 = .ok (.iinc 4 6, 3) := by decide +kernel
theorem z_L_law_1082 : decode b_L_law 1082 = .ok (.goto (-1059), 3) := by decide +kernel
theorem z_L_law_1085 : decode b_L_law 1085 = .ok (.iconst 1, 1) := by decide +kernel
theorem z_L_law_1086 : decode b_L_law 1086 = .ok (.ireturn, 1) := by decide +kernel
end
section
/-! the words of all tables that are good: one list for every contract -/
def CW : List Cond := lw_tbl.filter goodWord
theorem cw_in {c w : Cond} (h : w ∈ lw_tbl) (hg : goodWord w = true) : w ∈ c :: CW := List.mem_cons_of_mem _ (List.mem_filter.mpr ⟨h, hg⟩)
theorem cw_sub {c : Cond} {ws : List Cond} (h : ∀ w ∈ ws, w ∈ CW) : ∀ w ∈ ws, w ∈ c :: CW := fun w hw => List.mem_cons_of_mem _ (h w hw)
theorem cw_good {c w : Cond} (h : w ∈ lw_tbl) (hg : goodWord w = true) : GoodIn (c :: CW) (w :: CW) := by
  intro x hx
  rcases List.mem_cons.mp hx with rfl | hx
  · exact ⟨cw_in h hg, good_of_word hg⟩
  · exact ⟨List.mem_cons_of_mem _ hx, good_of_word (List.mem_filter.mp hx).2⟩
theorem cw_goodS {c w : Cond} {own : String} {idx : Nat} {y : MethodName} (h : w ∈ lw_tbl) (hg : goodWord w = true) (h1 : Cond.methodLink own idx y ∈ lw_tbl) (h2 : Cond.static y ∈ lw_tbl) (h3 : Cond.initialized y.cls ∈ lw_tbl) : GoodIn (c :: CW) (va_wsS own idx y (w :: CW)) := by
  intro x hx
  rcases List.mem_append.mp hx with hx | hx
  · simp only [List.mem_cons, List.not_mem_nil, or_false] at hx
    rcases hx with rfl | rfl | rfl
    · exact ⟨cw_in h1 rfl, good_of_word rfl⟩
    · exact ⟨cw_in h2 rfl, good_of_word rfl⟩
    · exact ⟨cw_in h3 rfl, good_of_word rfl⟩
  · exact cw_good h hg x hx
theorem cw_goodV {c w : Cond} {own C : String} {idx : Nat} {y : MethodName} (h : w ∈ lw_tbl) (hg : goodWord w = true) (h1 : Cond.methodLink own idx y ∈ lw_tbl) (h2 : Cond.instanceMethod y ∈ lw_tbl) (h3 : Cond.selects C y y ∈ lw_tbl) (h4 : Cond.initialized C ∈ lw_tbl) : GoodIn (c :: CW) (wsV own idx C y (w :: CW)) := by
  intro x hx
  rcases List.mem_append.mp hx with hx | hx
  · simp only [List.mem_cons, List.not_mem_nil, or_false] at hx
    rcases hx with rfl | rfl | rfl | rfl
    · exact ⟨cw_in h1 rfl, good_of_word rfl⟩
    · exact ⟨cw_in h2 rfl, good_of_word rfl⟩
    · exact ⟨cw_in h3 rfl, good_of_word rfl⟩
    · exact ⟨cw_in h4 rfl, good_of_word rfl⟩
  · exact cw_good h hg x hx
/-- a method's descriptor and class, as the rows of calls want them -/
def yD (y : MethodName) (n : Nat) : Prop := y.cls ≠ "java/lang/invoke/MethodHandle" ∧ y.cls ≠ "java/lang/invoke/VarHandle" ∧ (parseMethodDescriptor y.desc).map (fun d => d.parameters.length) = some n
/-- the start of a contract over the common words -/
theorem cx_met {l : Launch} {y : MethodName} {cc : ByteArray} {maxL : Nat} {ret : Option FieldType} {rm : Room} {av : List Value} {Cx : State → Prop} {Qc : Array Value → State → Outcome → State → Prop} {mc ms : Nat} {free : Addr → Prop} (hy : plainName y.cls = true) (hn : (lg_sl av).length ≤ maxL)
    (body : ∀ (p : Program) (e : Env) (s : State) (m : MethodId) (below : List Frame) (meth : Method) (c : Code), p.tables.exec = Jvm.exec → c.code = cc → meth.sig.returnType = ret → c.maxLocals = maxL → (∀ w ∈ (Cond.code y cc maxL ret :: CW), w.before av.toArray s = true) → s.vm.findClass y.cls = some m.cls → meth.locks = false → meth.name = y.name → Cx s → ∀ ls : Array Slot, lv_has ls maxL (lv_args 0 av) →
      W p l e rm s m av.toArray below meth c s.heap [] 0 0 (MQ below Qc av.toArray s mc ms free) (F0 m 0 ls [])) : Met l y (Cond.code y cc maxL ret :: CW) rm (va_Pc av Cx) Qc mc ms free := by
  refine Met.ofW (cc := cc) (maxL := maxL) (ret := ret) hy rfl ?_
  intro p e s m args below meth c s₁ B hml hv
  obtain ⟨rfl, hC⟩ := hv
  have hl := lv_entry av (n := maxL) hn
  rw [lg_entry_eq]
  exact body p e s m below meth c B.exec B.bytes B.returns hml (atoms_spec (ws := Cond.code y cc maxL ret :: CW) B.pre) (findClass_of_methodNamed B.named) B.notSynchronized (name_of_methodNamed B.named B.method).1 hC _ hl
/-! calls of methods that only read -/
section RDC
variable {p : Program} {l : Launch} {e : Env} {R : Room} {s : State} {m : MethodId} {args : Array Value} {below : List Frame} {meth : Method} {c : Code} {H : Heap} {locs : List Loc} {cells slots : Nat} {Q : State → Prop}
variable {own C : String} {idx n maxL nL pc : Nat} {y : MethodName} {bytes cc : ByteArray} {ret : Option FieldType} {rm : Room} {Pc : Array Value → State → Prop} {c0 : Cond} {b : Addr} {As rest st0 : List Value} {ls : Array Slot}
theorem rdVi {post : Int32 → Prop} (S : CallFix p m c cc nL s args (c0 :: CW) own) (hM : Met l y (Cond.code y bytes maxL ret :: CW) rm Pc (vp_Si post) 0 0 (fun _ => False)) (h0 : Cond.code y bytes maxL ret ∈ lw_tbl) (h1 : Cond.methodLink own idx y ∈ lw_tbl) (h2 : Cond.instanceMethod y ∈ lw_tbl) (h3 : Cond.selects C y y ∈ lw_tbl) (h4 : Cond.initialized C ∈ lw_tbl) (hC : y.cls = C) (hd : yD y n)
    (hR : (rm.cells = 0 ∧ rm.slots = 0) ∧ rm.frames + 1 ≤ R.frames ∧ 8 + (maxL + 11) + rm.locals ≤ R.locals) (hcap : cells ≤ R.cells ∧ slots ≤ R.slots) (hp : PreV s H C b Pc As) (hn : As.length = n) (hsz : ls.size = nL) (hst : st0 = As.reverse ++ .ref b :: rest) (hW : (rest.map fun v => v.category).sum ≤ 8) (hdg : decode cc pc = .ok (.invokevirtual idx, 3))
    (kk : ∀ r : Int32, post r → W p l e R s m args below meth c H locs cells slots Q (F0 m (pc + 3) ls (.int r :: rest))) : W p l e R s m args below meth c H locs cells slots Q (F0 m pc ls st0) :=
  vp_callSi (W.runV S hM (cwV n S.2.2.2.2 (cw_goodV h0 rfl h1 h2 h3 h4) rfl hR.1.1 hR.1.2 ⟨hC, hd⟩ hR.2) hp rfl hn hsz hst (lv_room hW) hdg hcap) kk
theorem rdVl {post : Int64 → Prop} (S : CallFix p m c cc nL s args (c0 :: CW) own) (hM : Met l y (Cond.code y bytes maxL ret :: CW) rm Pc (vp_Sl post) 0 0 (fun _ => False)) (h0 : Cond.code y bytes maxL ret ∈ lw_tbl) (h1 : Cond.methodLink own idx y ∈ lw_tbl) (h2 : Cond.instanceMethod y ∈ lw_tbl) (h3 : Cond.selects C y y ∈ lw_tbl) (h4 : Cond.initialized C ∈ lw_tbl) (hC : y.cls = C) (hd : yD y n)
    (hR : (rm.cells = 0 ∧ rm.slots = 0) ∧ rm.frames + 1 ≤ R.frames ∧ 8 + (maxL + 11) + rm.locals ≤ R.locals) (hcap : cells ≤ R.cells ∧ slots ≤ R.slots) (hp : PreV s H C b Pc As) (hn : As.length = n) (hsz : ls.size = nL) (hst : st0 = As.reverse ++ .ref b :: rest) (hW : (rest.map fun v => v.category).sum ≤ 8) (hdg : decode cc pc = .ok (.invokevirtual idx, 3))
    (kk : ∀ r : Int64, post r → W p l e R s m args below meth c H locs cells slots Q (F0 m (pc + 3) ls (.long r :: rest))) : W p l e R s m args below meth c H locs cells slots Q (F0 m pc ls st0) :=
  vp_callSl (W.runV S hM (cwV n S.2.2.2.2 (cw_goodV h0 rfl h1 h2 h3 h4) rfl hR.1.1 hR.1.2 ⟨hC, hd⟩ hR.2) hp rfl hn hsz hst (lv_room hW) hdg hcap) kk
theorem rdSi {post : Int32 → Prop} (S : CallFix p m c cc nL s args (c0 :: CW) own) (hM : Met l y (Cond.code y bytes maxL ret :: CW) rm Pc (vp_Si post) 0 0 (fun _ => False)) (h0 : Cond.code y bytes maxL ret ∈ lw_tbl) (h1 : Cond.methodLink own idx y ∈ lw_tbl) (h2 : Cond.static y ∈ lw_tbl) (h3 : Cond.initialized y.cls ∈ lw_tbl) (hd : yD y n)
    (hR : (rm.cells = 0 ∧ rm.slots = 0) ∧ rm.frames + 1 ≤ R.frames ∧ 8 + (maxL + 11) + rm.locals ≤ R.locals) (hcap : cells ≤ R.cells ∧ slots ≤ R.slots) (hp : PreS s H Pc As) (hn : As.length = n) (hsz : ls.size = nL) (hst : st0 = As.reverse ++ rest) (hW : (rest.map fun v => v.category).sum ≤ 8) (hdg : decode cc pc = .ok (.invokestatic idx, 3))
    (kk : ∀ r : Int32, post r → W p l e R s m args below meth c H locs cells slots Q (F0 m (pc + 3) ls (.int r :: rest))) : W p l e R s m args below meth c H locs cells slots Q (F0 m pc ls st0) :=
  vp_callSi (W.runS S hM (va_cwS n S.2.2.2.2 (cw_goodS h0 rfl h1 h2 h3) rfl hR.1.1 hR.1.2 hd hR.2) hp rfl hn hsz hst (lv_room hW) hdg hcap) kk
theorem rdSl {post : Int64 → Prop} (S : CallFix p m c cc nL s args (c0 :: CW) own) (hM : Met l y (Cond.code y bytes maxL ret :: CW) rm Pc (vp_Sl post) 0 0 (fun _ => False)) (h0 : Cond.code y bytes maxL ret ∈ lw_tbl) (h1 : Cond.methodLink own idx y ∈ lw_tbl) (h2 : Cond.static y ∈ lw_tbl) (h3 : Cond.initialized y.cls ∈ lw_tbl) (hd : yD y n)
    (hR : (rm.cells = 0 ∧ rm.slots = 0) ∧ rm.frames + 1 ≤ R.frames ∧ 8 + (maxL + 11) + rm.locals ≤ R.locals) (hcap : cells ≤ R.cells ∧ slots ≤ R.slots) (hp : PreS s H Pc As) (hn : As.length = n) (hsz : ls.size = nL) (hst : st0 = As.reverse ++ rest) (hW : (rest.map fun v => v.category).sum ≤ 8) (hdg : decode cc pc = .ok (.invokestatic idx, 3))
    (kk : ∀ r : Int64, post r → W p l e R s m args below meth c H locs cells slots Q (F0 m (pc + 3) ls (.long r :: rest))) : W p l e R s m args below meth c H locs cells slots Q (F0 m pc ls st0) :=
  vp_callSl (W.runS S hM (va_cwS n S.2.2.2.2 (cw_goodS h0 rfl h1 h2 h3) rfl hR.1.1 hR.1.2 hd hR.2) hp rfl hn hsz hst (lv_room hW) hdg hcap) kk
theorem rdVNi {host : String} {post : Int32 → Prop} (S : CallFix p m c cc nL s args (c0 :: CW) own) (hM : Met l y (Cond.code y bytes maxL ret :: CW) rm Pc (vp_Si post) 0 0 (fun _ => False)) (h0 : Cond.code y bytes maxL ret ∈ lw_tbl) (h1 : va_Nw (.methodLinkNest own idx y host) s) (h2 : Cond.instanceMethod y ∈ lw_tbl) (h3 : Cond.selects C y y ∈ lw_tbl) (h4 : Cond.initialized y.cls ∈ lw_tbl) (hd : yD y n)
    (hR : (rm.cells = 0 ∧ rm.slots = 0) ∧ rm.frames + 1 ≤ R.frames ∧ 8 + (maxL + 11) + rm.locals ≤ R.locals) (hcap : cells ≤ R.cells ∧ slots ≤ R.slots) (hp : PreV s H C b Pc As) (hn : As.length = n) (hsz : ls.size = nL) (hst : st0 = As.reverse ++ .ref b :: rest) (hW : (rest.map fun v => v.category).sum ≤ 8) (hdg : decode cc pc = .ok (.invokevirtual idx, 3))
    (kk : ∀ r : Int32, post r → W p l e R s m args below meth c H locs cells slots Q (F0 m (pc + 3) ls (.int r :: rest))) : W p l e R s m args below meth c H locs cells slots Q (F0 m pc ls st0) :=
  vp_callSi (va_runVN S hM ⟨va_cnB n S.2.2.2.2 (cw_good h0 rfl) rfl hR.1.1 hR.1.2 h1 (S.2.2.2.2 _ (cw_in h4 rfl)) hd hR.2, S.2.2.2.2 _ (cw_in h2 rfl), S.2.2.2.2 _ (cw_in h3 rfl)⟩ hp rfl hn hsz hst (lv_room hW) hdg hcap).run kk
theorem rdSNi {host : String} {post : Int32 → Prop} (S : CallFix p m c cc nL s args (c0 :: CW) own) (hM : Met l y (Cond.code y bytes maxL ret :: CW) rm Pc (vp_Si post) 0 0 (fun _ => False)) (h0 : Cond.code y bytes maxL ret ∈ lw_tbl) (h1 : va_Nw (.methodLinkNest own idx y host) s) (h2 : Cond.static y ∈ lw_tbl) (h4 : Cond.initialized y.cls ∈ lw_tbl) (hd : yD y n)
    (hR : (rm.cells = 0 ∧ rm.slots = 0) ∧ rm.frames + 1 ≤ R.frames ∧ 8 + (maxL + 11) + rm.locals ≤ R.locals) (hcap : cells ≤ R.cells ∧ slots ≤ R.slots) (hp : PreS s H Pc As) (hn : As.length = n) (hsz : ls.size = nL) (hst : st0 = As.reverse ++ rest) (hW : (rest.map fun v => v.category).sum ≤ 8) (hdg : decode cc pc = .ok (.invokestatic idx, 3))
    (kk : ∀ r : Int32, post r → W p l e R s m args below meth c H locs cells slots Q (F0 m (pc + 3) ls (.int r :: rest))) : W p l e R s m args below meth c H locs cells slots Q (F0 m pc ls st0) :=
  vp_callSi (va_runSN S hM ⟨va_cnB n S.2.2.2.2 (cw_good h0 rfl) rfl hR.1.1 hR.1.2 h1 (S.2.2.2.2 _ (cw_in h4 rfl)) hd hR.2, S.2.2.2.2 _ (cw_in h2 rfl), trivial⟩ hp rfl hn hsz hst (lv_room hW) hdg hcap).run kk
end RDC
/-! reads and writes of arrays by numbers -/
section XAR
variable {p : Program} {l : Launch} {e : Env} {R : Room} {s : State} {m : MethodId} {args : Array Value} {below : List Frame} {meth : Method} {c : Code} {H : Heap} {locs : List Loc} {cells slots : Nat} {Q : State → Prop}
variable {cc : ByteArray} {pc : Nat} {ls : Array Slot} {rest : List Value} {D : va_G} {cl : List vw_C} {A : Nat → Prop} {a : Nat} {tys : List (ClassId × FieldType)} {ws : va_W} {H0 : Heap} {cA : ClassId} {n : Nat}
theorem xa_i (hx : p.tables.exec = Jvm.exec) (hb : c.code = cc) (hK : va_K D cl tys s) (hP : va_P D cl ws H) (q0 t0 : Nat) {f : Nat → Int32} (ha : ws[q0]? = some (a, .inl (cA, n, .inl f))) (ht : tys[t0]? = some (cA, .int)) {k : Nat} {y : Int32} (hk : k < n) (hn : n < 2 ^ 31) (hy : f k = y) (hdg : decode cc pc = .ok (.iaload, 1))
    (kk : W p l e R s m args below meth c H locs cells slots Q (F0 m (pc + 1) ls (.int y :: rest))) : W p l e R s m args below meth c H locs cells slots Q (F0 m pc ls (.int (nI k) :: .ref a :: rest)) := by
  refine va_iald hx hb hK hP q0 t0 ha ht (vp_in_nI hk hn) hdg ?_
  rw [nI_clamp (Nat.lt_trans hk hn), hy]
  exact kk
theorem xa_b (hx : p.tables.exec = Jvm.exec) (hb : c.code = cc) (hK : va_K D cl tys s) (hP : va_P D cl ws H) (q0 t0 : Nat) {f : Nat → Int32} (ha : ws[q0]? = some (a, .inl (cA, n, .inl f))) (ht : tys[t0]? = some (cA, .byte)) {k : Nat} {y : Int32} (hk : k < n) (hn : n < 2 ^ 31) (hy : f k = y) (hdg : decode cc pc = .ok (.baload, 1))
    (kk : W p l e R s m args below meth c H locs cells slots Q (F0 m (pc + 1) ls (.int y :: rest))) : W p l e R s m args below meth c H locs cells slots Q (F0 m pc ls (.int (nI k) :: .ref a :: rest)) := by
  refine va_bald hx hb hK hP q0 t0 ha ht (vp_in_nI hk hn) hdg ?_
  rw [nI_clamp (Nat.lt_trans hk hn), hy]
  exact kk
theorem xa_z (hx : p.tables.exec = Jvm.exec) (hb : c.code = cc) (hK : va_K D cl tys s) (hP : va_P D cl ws H) (q0 t0 : Nat) {f : Nat → Int32} (ha : ws[q0]? = some (a, .inl (cA, n, .inl f))) (ht : tys[t0]? = some (cA, .boolean)) {k : Nat} {y : Int32} (hk : k < n) (hn : n < 2 ^ 31) (hy : f k = y) (hdg : decode cc pc = .ok (.baload, 1))
    (kk : W p l e R s m args below meth c H locs cells slots Q (F0 m (pc + 1) ls (.int y :: rest))) : W p l e R s m args below meth c H locs cells slots Q (F0 m pc ls (.int (nI k) :: .ref a :: rest)) := by
  refine va_zald hx hb hK hP q0 t0 ha ht (vp_in_nI hk hn) hdg ?_
  rw [nI_clamp (Nat.lt_trans hk hn), hy]
  exact kk
theorem xa_l (hx : p.tables.exec = Jvm.exec) (hb : c.code = cc) (hK : va_K D cl tys s) (hP : va_P D cl ws H) (q0 t0 : Nat) {f : Nat → Int64} (ha : ws[q0]? = some (a, .inl (cA, n, .inr (.inl f)))) (ht : tys[t0]? = some (cA, .long)) {k : Nat} {y : Int64} (hk : k < n) (hn : n < 2 ^ 31) (hy : f k = y) (hdg : decode cc pc = .ok (.laload, 1))
    (kk : W p l e R s m args below meth c H locs cells slots Q (F0 m (pc + 1) ls (.long y :: rest))) : W p l e R s m args below meth c H locs cells slots Q (F0 m pc ls (.int (nI k) :: .ref a :: rest)) := by
  refine va_lald hx hb hK hP q0 t0 ha ht (vp_in_nI hk hn) hdg ?_
  rw [nI_clamp (Nat.lt_trans hk hn), hy]
  exact kk
theorem xs_i (hx : p.tables.exec = Jvm.exec) (hb : c.code = cc) (hK : va_K D cl tys s) (hP : va_P D cl ws H) (hD : va_D A ws) (hS : va_S A H0 H locs) (q0 t0 : Nat) {f : Nat → Int32} (ha : ws[q0]? = some (a, .inl (cA, n, .inl f))) (ht : tys[t0]? = some (cA, .int)) {k : Nat} {x : Int32} (hk : k < n) (hn : n < 2 ^ 31) (hdg : decode cc pc = .ok (.iastore, 1))
    (kk : ∀ (H1 : Heap) (locs1 : List Loc), va_P D cl (ws.set q0 (a, .inl (cA, n, .inl (upd f k x)))) H1 → va_D A (ws.set q0 (a, .inl (cA, n, .inl (upd f k x)))) → va_S A H0 H1 locs1 → W p l e R s m args below meth c H1 locs1 cells slots Q (F0 m (pc + 1) ls rest)) : W p l e R s m args below meth c H locs cells slots Q (F0 m pc ls (.int x :: .int (nI k) :: .ref a :: rest)) := by
  refine va_iast hx hb hK hP hD hS q0 t0 ha ht (vp_in_nI hk hn) hdg ?_
  rw [nI_clamp (Nat.lt_trans hk hn)]
  exact kk
theorem xs_b (hx : p.tables.exec = Jvm.exec) (hb : c.code = cc) (hK : va_K D cl tys s) (hP : va_P D cl ws H) (hD : va_D A ws) (hS : va_S A H0 H locs) (q0 t0 : Nat) {f : Nat → Int32} (ha : ws[q0]? = some (a, .inl (cA, n, .inl f))) (ht : tys[t0]? = some (cA, .byte)) {k : Nat} {x y : Int32} (hk : k < n) (hn : n < 2 ^ 31) (hy : vp_nar .byte x = y) (hdg : decode cc pc = .ok (.bastore, 1))
    (kk : ∀ (H1 : Heap) (locs1 : List Loc), va_P D cl (ws.set q0 (a, .inl (cA, n, .inl (upd f k y)))) H1 → va_D A (ws.set q0 (a, .inl (cA, n, .inl (upd f k y)))) → va_S A H0 H1 locs1 → W p l e R s m args below meth c H1 locs1 cells slots Q (F0 m (pc + 1) ls rest)) : W p l e R s m args below meth c H locs cells slots Q (F0 m pc ls (.int x :: .int (nI k) :: .ref a :: rest)) := by
  refine va_bast hx hb hK hP hD hS q0 t0 ha ht (vp_in_nI hk hn) hdg ?_
  rw [nI_clamp (Nat.lt_trans hk hn), hy]
  exact kk
theorem xs_z (hx : p.tables.exec = Jvm.exec) (hb : c.code = cc) (hK : va_K D cl tys s) (hP : va_P D cl ws H) (hD : va_D A ws) (hS : va_S A H0 H locs) (q0 t0 : Nat) {f : Nat → Int32} (ha : ws[q0]? = some (a, .inl (cA, n, .inl f))) (ht : tys[t0]? = some (cA, .boolean)) {k : Nat} {x y : Int32} (hk : k < n) (hn : n < 2 ^ 31) (hy : vp_nar .boolean x = y) (hdg : decode cc pc = .ok (.bastore, 1))
    (kk : ∀ (H1 : Heap) (locs1 : List Loc), va_P D cl (ws.set q0 (a, .inl (cA, n, .inl (upd f k y)))) H1 → va_D A (ws.set q0 (a, .inl (cA, n, .inl (upd f k y)))) → va_S A H0 H1 locs1 → W p l e R s m args below meth c H1 locs1 cells slots Q (F0 m (pc + 1) ls rest)) : W p l e R s m args below meth c H locs cells slots Q (F0 m pc ls (.int x :: .int (nI k) :: .ref a :: rest)) := by
  refine va_zast hx hb hK hP hD hS q0 t0 ha ht (vp_in_nI hk hn) hdg ?_
  rw [nI_clamp (Nat.lt_trans hk hn), hy]
  exact kk
theorem xs_l (hx : p.tables.exec = Jvm.exec) (hb : c.code = cc) (hK : va_K D cl tys s) (hP : va_P D cl ws H) (hD : va_D A ws) (hS : va_S A H0 H locs) (q0 t0 : Nat) {f : Nat → Int64} (ha : ws[q0]? = some (a, .inl (cA, n, .inr (.inl f)))) (ht : tys[t0]? = some (cA, .long)) {k : Nat} {x : Int64} (hk : k < n) (hn : n < 2 ^ 31) (hdg : decode cc pc = .ok (.lastore, 1))
    (kk : ∀ (H1 : Heap) (locs1 : List Loc), va_P D cl (ws.set q0 (a, .inl (cA, n, .inr (.inl (vp_updL f k x))))) H1 → va_D A (ws.set q0 (a, .inl (cA, n, .inr (.inl (vp_updL f k x))))) → va_S A H0 H1 locs1 → W p l e R s m args below meth c H1 locs1 cells slots Q (F0 m (pc + 1) ls rest)) : W p l e R s m args below meth c H locs cells slots Q (F0 m pc ls (.long x :: .int (nI k) :: .ref a :: rest)) := by
  refine va_last hx hb hK hP hD hS q0 t0 ha ht (vp_in_nI hk hn) hdg ?_
  rw [nI_clamp (Nat.lt_trans hk hn)]
  exact kk
/-- a loop that only reads, its locals told by the turn's number -/
theorem rd_loop {nL : Nat} (N : Nat) (LV : Nat → List (Nat × Value)) {head : Nat}
    (step : ∀ (i : Nat) (ls : Array Slot), i ≤ N → lv_has ls nL (LV i) → (∀ ls' : Array Slot, i < N → lv_has ls' nL (LV (i + 1)) → W p l e R s m args below meth c H locs cells slots Q (F0 m head ls' [])) → W p l e R s m args below meth c H locs cells slots Q (F0 m head ls [])) :
    ∀ ls : Array Slot, lv_has ls nL (LV 0) → W p l e R s m args below meth c H locs cells slots Q (F0 m head ls []) := by
  have key : ∀ (n i : Nat) (ls : Array Slot), i ≤ N → N - i < n → lv_has ls nL (LV i) → W p l e R s m args below meth c H locs cells slots Q (F0 m head ls []) := by
    intro n
    induction n with
    | zero => intro i ls _ h _; exact absurd h (Nat.not_lt_zero _)
    | succ n ih => exact fun i ls hi hn hl => step i ls hi hl (fun ls' hlt hl' => ih (i + 1) ls' hlt (by omega) hl')
  exact fun ls hl => key (N + 1) 0 ls (Nat.zero_le _) (by omega) hl
/-- a loop that writes: its world and locals told by the turn's number -/
theorem wr_loop {nL : Nat} (N : Nat) (WV : Nat → va_W) (LV : Nat → List (Nat × Value)) {head : Nat}
    (step : ∀ (i : Nat) (H : Heap) (locs : List Loc) (ls : Array Slot), i ≤ N → va_P D cl (WV i) H → va_D A (WV i) → va_S A H0 H locs → lv_has ls nL (LV i) → (∀ (H' : Heap) (locs' : List Loc) (ls' : Array Slot), i < N → va_P D cl (WV (i + 1)) H' → va_D A (WV (i + 1)) → va_S A H0 H' locs' → lv_has ls' nL (LV (i + 1)) → W p l e R s m args below meth c H' locs' cells slots Q (F0 m head ls' [])) → W p l e R s m args below meth c H locs cells slots Q (F0 m head ls [])) :
    ∀ (H : Heap) (locs : List Loc) (ls : Array Slot), va_P D cl (WV 0) H → va_D A (WV 0) → va_S A H0 H locs → lv_has ls nL (LV 0) → W p l e R s m args below meth c H locs cells slots Q (F0 m head ls []) := by
  have key : ∀ (n i : Nat) (H : Heap) (locs : List Loc) (ls : Array Slot), i ≤ N → N - i < n → va_P D cl (WV i) H → va_D A (WV i) → va_S A H0 H locs → lv_has ls nL (LV i) → W p l e R s m args below meth c H locs cells slots Q (F0 m head ls []) := by
    intro n
    induction n with
    | zero => intro i H locs ls _ h _ _ _ _; exact absurd h (Nat.not_lt_zero _)
    | succ n ih => exact fun i H locs ls hi hn hP hD hS hl => step i H locs ls hi hP hD hS hl (fun H' locs' ls' hlt hP' hD' hS' hl' => ih (i + 1) H' locs' ls' hlt (by omega) hP' hD' hS' hl')
  exact fun H locs ls hP hD hS hl => key (N + 1) 0 H locs ls (Nat.zero_le _) (by omega) hP hD hS hl
end XAR
end
section
theorem yd_d_init : yD y_d_init 0 := ⟨by decide +kernel, by decide +kernel, by decide +kernel⟩
theorem yd_w_init : yD y_w_init 0 := ⟨by decide +kernel, by decide +kernel, by decide +kernel⟩
theorem yd_s_init : yD y_s_init 0 := ⟨by decide +kernel, by decide +kernel, by decide +kernel⟩
theorem yd_r_init : yD y_r_init 0 := ⟨by decide +kernel, by decide +kernel, by decide +kernel⟩
theorem yd_J_fill : yD y_J_fill 2 := ⟨by decide +kernel, by decide +kernel, by decide +kernel⟩
theorem yd_d_book : yD y_d_book 0 := ⟨by decide +kernel, by decide +kernel, by decide +kernel⟩
theorem yd_d_stir : yD y_d_stir 2 := ⟨by decide +kernel, by decide +kernel, by decide +kernel⟩
theorem yd_s_stirKind : yD y_s_stirKind 2 := ⟨by decide +kernel, by decide +kernel, by decide +kernel⟩
theorem yd_d_slotOf : yD y_d_slotOf 2 := ⟨by decide +kernel, by decide +kernel, by decide +kernel⟩
theorem yd_s_stirOne : yD y_s_stirOne 2 := ⟨by decide +kernel, by decide +kernel, by decide +kernel⟩
theorem yd_s_byteAt : yD y_s_byteAt 2 := ⟨by decide +kernel, by decide +kernel, by decide +kernel⟩
theorem yd_r_stirAll : yD y_r_stirAll 1 := ⟨by decide +kernel, by decide +kernel, by decide +kernel⟩
theorem yd_L_under : yD y_L_under 3 := ⟨by decide +kernel, by decide +kernel, by decide +kernel⟩
theorem yd_d_under : yD y_d_under 2 := ⟨by decide +kernel, by decide +kernel, by decide +kernel⟩
theorem yd_d_isKind : yD y_d_isKind 1 := ⟨by decide +kernel, by decide +kernel, by decide +kernel⟩
theorem yd_d_isAtOrUnder : yD y_d_isAtOrUnder 2 := ⟨by decide +kernel, by decide +kernel, by decide +kernel⟩
theorem yd_L_make : yD y_L_make 4 := ⟨by decide +kernel, by decide +kernel, by decide +kernel⟩
theorem yd_d_make : yD y_d_make 2 := ⟨by decide +kernel, by decide +kernel, by decide +kernel⟩
theorem yd_d_canBeAbove : yD y_d_canBeAbove 2 := ⟨by decide +kernel, by decide +kernel, by decide +kernel⟩
theorem yd_d_isSubject : yD y_d_isSubject 2 := ⟨by decide +kernel, by decide +kernel, by decide +kernel⟩
theorem yd_d_slotOrNone : yD y_d_slotOrNone 2 := ⟨by decide +kernel, by decide +kernel, by decide +kernel⟩
theorem yd_s_add : yD y_s_add 2 := ⟨by decide +kernel, by decide +kernel, by decide +kernel⟩
theorem yd_L_verb : yD y_L_verb 6 := ⟨by decide +kernel, by decide +kernel, by decide +kernel⟩
theorem yd_d_verb : yD y_d_verb 5 := ⟨by decide +kernel, by decide +kernel, by decide +kernel⟩
theorem yd_d_isVerb : yD y_d_isVerb 1 := ⟨by decide +kernel, by decide +kernel, by decide +kernel⟩
theorem yd_d_isWithin : yD y_d_isWithin 2 := ⟨by decide +kernel, by decide +kernel, by decide +kernel⟩
theorem yd_w_set : yD y_w_set 4 := ⟨by decide +kernel, by decide +kernel, by decide +kernel⟩
theorem yd_L_call : yD y_L_call 6 := ⟨by decide +kernel, by decide +kernel, by decide +kernel⟩
theorem yd_d_call : yD y_d_call 4 := ⟨by decide +kernel, by decide +kernel, by decide +kernel⟩
theorem yd_d_refusalOf : yD y_d_refusalOf 4 := ⟨by decide +kernel, by decide +kernel, by decide +kernel⟩
theorem yd_r_tell : yD y_r_tell 5 := ⟨by decide +kernel, by decide +kernel, by decide +kernel⟩
theorem yd_d_refuse : yD y_d_refuse 1 := ⟨by decide +kernel, by decide +kernel, by decide +kernel⟩
theorem yd_d_answerTo : yD y_d_answerTo 4 := ⟨by decide +kernel, by decide +kernel, by decide +kernel⟩
theorem yd_d_sumOrFailure : yD y_d_sumOrFailure 1 := ⟨by decide +kernel, by decide +kernel, by decide +kernel⟩
theorem yd_d_slotAbove : yD y_d_slotAbove 2 := ⟨by decide +kernel, by decide +kernel, by decide +kernel⟩
theorem yd_d_answerToPass : yD y_d_answerToPass 2 := ⟨by decide +kernel, by decide +kernel, by decide +kernel⟩
theorem yd_d_answerToClose : yD y_d_answerToClose 2 := ⟨by decide +kernel, by decide +kernel, by decide +kernel⟩
theorem yd_d_openOnesUnder : yD y_d_openOnesUnder 2 := ⟨by decide +kernel, by decide +kernel, by decide +kernel⟩
theorem yd_s_openUnder : yD y_s_openUnder 2 := ⟨by decide +kernel, by decide +kernel, by decide +kernel⟩
theorem yd_s_openOf : yD y_s_openOf 1 := ⟨by decide +kernel, by decide +kernel, by decide +kernel⟩
theorem yd_d_carryOut : yD y_d_carryOut 4 := ⟨by decide +kernel, by decide +kernel, by decide +kernel⟩
theorem yd_d_setSum : yD y_d_setSum 2 := ⟨by decide +kernel, by decide +kernel, by decide +kernel⟩
theorem yd_L_simulate : yD y_L_simulate 6 := ⟨by decide +kernel, by decide +kernel, by decide +kernel⟩
theorem yd_d_simulate : yD y_d_simulate 4 := ⟨by decide +kernel, by decide +kernel, by decide +kernel⟩
theorem yd_L_text : yD y_L_text 6 := ⟨by decide +kernel, by decide +kernel, by decide +kernel⟩
theorem yd_d_text : yD y_d_text 4 := ⟨by decide +kernel, by decide +kernel, by decide +kernel⟩
theorem yd_s_lengthen : yD y_s_lengthen 3 := ⟨by decide +kernel, by decide +kernel, by decide +kernel⟩
theorem yd_s_byteOf : yD y_s_byteOf 3 := ⟨by decide +kernel, by decide +kernel, by decide +kernel⟩
theorem yd_L_textAt : yD y_L_textAt 5 := ⟨by decide +kernel, by decide +kernel, by decide +kernel⟩
theorem yd_d_textAt : yD y_d_textAt 3 := ⟨by decide +kernel, by decide +kernel, by decide +kernel⟩
theorem yd_L_find : yD y_L_find 5 := ⟨by decide +kernel, by decide +kernel, by decide +kernel⟩
theorem yd_d_find : yD y_d_find 3 := ⟨by decide +kernel, by decide +kernel, by decide +kernel⟩
theorem yd_s_hasJust : yD y_s_hasJust 3 := ⟨by decide +kernel, by decide +kernel, by decide +kernel⟩
theorem yd_L_subject : yD y_L_subject 5 := ⟨by decide +kernel, by decide +kernel, by decide +kernel⟩
theorem yd_d_subject : yD y_d_subject 3 := ⟨by decide +kernel, by decide +kernel, by decide +kernel⟩
theorem yd_L_row : yD y_L_row 4 := ⟨by decide +kernel, by decide +kernel, by decide +kernel⟩
theorem yd_d_row : yD y_d_row 2 := ⟨by decide +kernel, by decide +kernel, by decide +kernel⟩
theorem yd_L_tick : yD y_L_tick 3 := ⟨by decide +kernel, by decide +kernel, by decide +kernel⟩
theorem yd_d_tick : yD y_d_tick 1 := ⟨by decide +kernel, by decide +kernel, by decide +kernel⟩
theorem yd_L_count : yD y_L_count 3 := ⟨by decide +kernel, by decide +kernel, by decide +kernel⟩
theorem yd_d_count : yD y_d_count 1 := ⟨by decide +kernel, by decide +kernel, by decide +kernel⟩
theorem yd_s_madeInAll : yD y_s_madeInAll 0 := ⟨by decide +kernel, by decide +kernel, by decide +kernel⟩
theorem yd_s_openInAll : yD y_s_openInAll 0 := ⟨by decide +kernel, by decide +kernel, by decide +kernel⟩
theorem yd_m_init : yD y_m_init 0 := ⟨by decide +kernel, by decide +kernel, by decide +kernel⟩
theorem yd_m_thrown : yD y_m_thrown 0 := ⟨by decide +kernel, by decide +kernel, by decide +kernel⟩
theorem yd_m_under : yD y_m_under 2 := ⟨by decide +kernel, by decide +kernel, by decide +kernel⟩
theorem yd_m_isKind : yD y_m_isKind 1 := ⟨by decide +kernel, by decide +kernel, by decide +kernel⟩
theorem yd_m_in : yD y_m_in 3 := ⟨by decide +kernel, by decide +kernel, by decide +kernel⟩
theorem yd_m_reaches : yD y_m_reaches 2 := ⟨by decide +kernel, by decide +kernel, by decide +kernel⟩
theorem yd_m_throwing : yD y_m_throwing 4 := ⟨by decide +kernel, by decide +kernel, by decide +kernel⟩
theorem yd_m_make : yD y_m_make 2 := ⟨by decide +kernel, by decide +kernel, by decide +kernel⟩
theorem yd_m_isSubject : yD y_m_isSubject 2 := ⟨by decide +kernel, by decide +kernel, by decide +kernel⟩
theorem yd_m_verb : yD y_m_verb 5 := ⟨by decide +kernel, by decide +kernel, by decide +kernel⟩
theorem yd_m_call : yD y_m_call 4 := ⟨by decide +kernel, by decide +kernel, by decide +kernel⟩
theorem yd_m_refuses : yD y_m_refuses 4 := ⟨by decide +kernel, by decide +kernel, by decide +kernel⟩
theorem yd_m_tell : yD y_m_tell 4 := ⟨by decide +kernel, by decide +kernel, by decide +kernel⟩
theorem yd_m_workOut : yD y_m_workOut 4 := ⟨by decide +kernel, by decide +kernel, by decide +kernel⟩
theorem yd_m_change : yD y_m_change 2 := ⟨by decide +kernel, by decide +kernel, by decide +kernel⟩
theorem yd_m_isSum : yD y_m_isSum 1 := ⟨by decide +kernel, by decide +kernel, by decide +kernel⟩
theorem yd_m_openUnder : yD y_m_openUnder 2 := ⟨by decide +kernel, by decide +kernel, by decide +kernel⟩
theorem yd_m_openOf : yD y_m_openOf 1 := ⟨by decide +kernel, by decide +kernel, by decide +kernel⟩
theorem yd_m_simulate : yD y_m_simulate 4 := ⟨by decide +kernel, by decide +kernel, by decide +kernel⟩
theorem yd_m_text : yD y_m_text 4 := ⟨by decide +kernel, by decide +kernel, by decide +kernel⟩
theorem yd_m_textAt : yD y_m_textAt 3 := ⟨by decide +kernel, by decide +kernel, by decide +kernel⟩
theorem yd_m_find : yD y_m_find 3 := ⟨by decide +kernel, by decide +kernel, by decide +kernel⟩
theorem yd_m_subject : yD y_m_subject 3 := ⟨by decide +kernel, by decide +kernel, by decide +kernel⟩
theorem yd_m_row : yD y_m_row 2 := ⟨by decide +kernel, by decide +kernel, by decide +kernel⟩
theorem yd_m_tick : yD y_m_tick 1 := ⟨by decide +kernel, by decide +kernel, by decide +kernel⟩
theorem yd_m_count : yD y_m_count 1 := ⟨by decide +kernel, by decide +kernel, by decide +kernel⟩
theorem yd_m_book : yD y_m_book 0 := ⟨by decide +kernel, by decide +kernel, by decide +kernel⟩
theorem yd_m_with : yD y_m_with 2 := ⟨by decide +kernel, by decide +kernel, by decide +kernel⟩
theorem iT0 : ∀ w ∈ u_ws R0 T0 2, w ∈ lw_tbl := by decide +kernel
theorem iG0 : ∀ w ∈ u_ws R0 T0 2, goodWord w = true := by decide +kernel
theorem iC0 : ∀ w ∈ u_ws R0 T0 2, w ∈ CW := fun w h => List.mem_filter.mpr ⟨iT0 w h, iG0 w h⟩
theorem iT1 : ∀ w ∈ u_ws R1 T1 6, w ∈ lw_tbl := by decide +kernel
theorem iG1 : ∀ w ∈ u_ws R1 T1 6, goodWord w = true := by decide +kernel
theorem iC1 : ∀ w ∈ u_ws R1 T1 6, w ∈ CW := fun w h => List.mem_filter.mpr ⟨iT1 w h, iG1 w h⟩
theorem iT2 : ∀ w ∈ u_ws R2 T2 3, w ∈ lw_tbl := by decide +kernel
theorem iG2 : ∀ w ∈ u_ws R2 T2 3, goodWord w = true := by decide +kernel
theorem iC2 : ∀ w ∈ u_ws R2 T2 3, w ∈ CW := fun w h => List.mem_filter.mpr ⟨iT2 w h, iG2 w h⟩
theorem iT3 : ∀ w ∈ u_ws R3 T3 6, w ∈ lw_tbl := by decide +kernel
theorem iG3 : ∀ w ∈ u_ws R3 T3 6, goodWord w = true := by decide +kernel
theorem iC3 : ∀ w ∈ u_ws R3 T3 6, w ∈ CW := fun w h => List.mem_filter.mpr ⟨iT3 w h, iG3 w h⟩
theorem iT4 : ∀ w ∈ u_ws R4 T4 17, w ∈ lw_tbl := by decide +kernel
theorem iG4 : ∀ w ∈ u_ws R4 T4 17, goodWord w = true := by decide +kernel
theorem iC4 : ∀ w ∈ u_ws R4 T4 17, w ∈ CW := fun w h => List.mem_filter.mpr ⟨iT4 w h, iG4 w h⟩
/-- the links across the nest -/
def nwL : List Cond := [Cond.methodLinkNest "ServiceDesk" 15 y_w_init "ServiceDesk", Cond.fieldLinkNest "ServiceDesk" 208 "ServiceDesk$Verbs" "modes" "[I" "ServiceDesk", Cond.fieldLinkNest "ServiceDesk" 217 "ServiceDesk$Verbs" "as" "[I" "ServiceDesk", Cond.fieldLinkNest "ServiceDesk" 220 "ServiceDesk$Verbs" "bs" "[I" "ServiceDesk", Cond.methodLinkNest "ServiceDesk" 22 y_s_init "ServiceDesk", Cond.fieldLinkNest "ServiceDesk" 51 "ServiceDesk$Subjects" "made" "[I" "ServiceDesk", Cond.fieldLinkNest "ServiceDesk" 164 "ServiceDesk$Subjects" "aboves" "[I" "ServiceDesk", Cond.fieldLinkNest "ServiceDesk" 72 "ServiceDesk$Subjects" "open" "[Z" "ServiceDesk", Cond.fieldLinkNest "ServiceDesk" 167 "ServiceDesk$Subjects" "sums" "[I" "ServiceDesk", Cond.fieldLinkNest "ServiceDesk" 144 "ServiceDesk$Subjects" "lengths" "[I" "ServiceDesk", Cond.methodLinkNest "ServiceDesk" 29 y_r_init "ServiceDesk", Cond.fieldLinkNest "ServiceDesk" 178 "ServiceDesk$Rows" "numbers" "[I" "ServiceDesk", Cond.fieldLinkNest "ServiceDesk" 173 "ServiceDesk$Rows" "kept" "I" "ServiceDesk", Cond.methodLinkNest "ServiceDesk" 200 y_s_stirKind "ServiceDesk", Cond.methodLinkNest "ServiceDesk$Subjects" 32 y_d_slotOf "ServiceDesk", Cond.methodLinkNest "ServiceDesk$Subjects" 50 y_d_stir "ServiceDesk", Cond.methodLinkNest "ServiceDesk" 203 y_r_stirAll "ServiceDesk", Cond.methodLinkNest "ServiceDesk$Rows" 19 y_d_stir "ServiceDesk", Cond.methodLinkNest "ServiceDesk" 83 y_s_add "ServiceDesk", Cond.methodLinkNest "ServiceDesk" 102 y_w_set "ServiceDesk", Cond.methodLinkNest "ServiceDesk" 114 y_r_tell "ServiceDesk", Cond.methodLinkNest "ServiceDesk" 256 y_s_openUnder "ServiceDesk", Cond.methodLinkNest "ServiceDesk" 249 y_s_openOf "ServiceDesk", Cond.methodLinkNest "ServiceDesk" 149 y_s_lengthen "ServiceDesk", Cond.methodLinkNest "ServiceDesk" 155 y_s_byteAt "ServiceDesk", Cond.methodLinkNest "ServiceDesk" 158 y_s_hasJust "ServiceDesk", Cond.methodLinkNest "ServiceDesk" 188 y_s_madeInAll "ServiceDesk", Cond.methodLinkNest "ServiceDesk" 192 y_s_openInAll "ServiceDesk"]
theorem nw_0 : Cond.methodLinkNest "ServiceDesk" 15 y_w_init "ServiceDesk" ∈ nwL := List.mem_of_getElem? (i := 0) rfl
theorem nw_1 : Cond.fieldLinkNest "ServiceDesk" 208 "ServiceDesk$Verbs" "modes" "[I" "ServiceDesk" ∈ nwL := List.mem_of_getElem? (i := 1) rfl
theorem nw_2 : Cond.fieldLinkNest "ServiceDesk" 217 "ServiceDesk$Verbs" "as" "[I" "ServiceDesk" ∈ nwL := List.mem_of_getElem? (i := 2) rfl
theorem nw_3 : Cond.fieldLinkNest "ServiceDesk" 220 "ServiceDesk$Verbs" "bs" "[I" "ServiceDesk" ∈ nwL := List.mem_of_getElem? (i := 3) rfl
theorem nw_4 : Cond.methodLinkNest "ServiceDesk" 22 y_s_init "ServiceDesk" ∈ nwL := List.mem_of_getElem? (i := 4) rfl
theorem nw_5 : Cond.fieldLinkNest "ServiceDesk" 51 "ServiceDesk$Subjects" "made" "[I" "ServiceDesk" ∈ nwL := List.mem_of_getElem? (i := 5) rfl
theorem nw_6 : Cond.fieldLinkNest "ServiceDesk" 164 "ServiceDesk$Subjects" "aboves" "[I" "ServiceDesk" ∈ nwL := List.mem_of_getElem? (i := 6) rfl
theorem nw_7 : Cond.fieldLinkNest "ServiceDesk" 72 "ServiceDesk$Subjects" "open" "[Z" "ServiceDesk" ∈ nwL := List.mem_of_getElem? (i := 7) rfl
theorem nw_8 : Cond.fieldLinkNest "ServiceDesk" 167 "ServiceDesk$Subjects" "sums" "[I" "ServiceDesk" ∈ nwL := List.mem_of_getElem? (i := 8) rfl
theorem nw_9 : Cond.fieldLinkNest "ServiceDesk" 144 "ServiceDesk$Subjects" "lengths" "[I" "ServiceDesk" ∈ nwL := List.mem_of_getElem? (i := 9) rfl
theorem nw_10 : Cond.methodLinkNest "ServiceDesk" 29 y_r_init "ServiceDesk" ∈ nwL := List.mem_of_getElem? (i := 10) rfl
theorem nw_11 : Cond.fieldLinkNest "ServiceDesk" 178 "ServiceDesk$Rows" "numbers" "[I" "ServiceDesk" ∈ nwL := List.mem_of_getElem? (i := 11) rfl
theorem nw_12 : Cond.fieldLinkNest "ServiceDesk" 173 "ServiceDesk$Rows" "kept" "I" "ServiceDesk" ∈ nwL := List.mem_of_getElem? (i := 12) rfl
theorem nw_13 : Cond.methodLinkNest "ServiceDesk" 200 y_s_stirKind "ServiceDesk" ∈ nwL := List.mem_of_getElem? (i := 13) rfl
theorem nw_14 : Cond.methodLinkNest "ServiceDesk$Subjects" 32 y_d_slotOf "ServiceDesk" ∈ nwL := List.mem_of_getElem? (i := 14) rfl
theorem nw_15 : Cond.methodLinkNest "ServiceDesk$Subjects" 50 y_d_stir "ServiceDesk" ∈ nwL := List.mem_of_getElem? (i := 15) rfl
theorem nw_16 : Cond.methodLinkNest "ServiceDesk" 203 y_r_stirAll "ServiceDesk" ∈ nwL := List.mem_of_getElem? (i := 16) rfl
theorem nw_17 : Cond.methodLinkNest "ServiceDesk$Rows" 19 y_d_stir "ServiceDesk" ∈ nwL := List.mem_of_getElem? (i := 17) rfl
theorem nw_18 : Cond.methodLinkNest "ServiceDesk" 83 y_s_add "ServiceDesk" ∈ nwL := List.mem_of_getElem? (i := 18) rfl
theorem nw_19 : Cond.methodLinkNest "ServiceDesk" 102 y_w_set "ServiceDesk" ∈ nwL := List.mem_of_getElem? (i := 19) rfl
theorem nw_20 : Cond.methodLinkNest "ServiceDesk" 114 y_r_tell "ServiceDesk" ∈ nwL := List.mem_of_getElem? (i := 20) rfl
theorem nw_21 : Cond.methodLinkNest "ServiceDesk" 256 y_s_openUnder "ServiceDesk" ∈ nwL := List.mem_of_getElem? (i := 21) rfl
theorem nw_22 : Cond.methodLinkNest "ServiceDesk" 249 y_s_openOf "ServiceDesk" ∈ nwL := List.mem_of_getElem? (i := 22) rfl
theorem nw_23 : Cond.methodLinkNest "ServiceDesk" 149 y_s_lengthen "ServiceDesk" ∈ nwL := List.mem_of_getElem? (i := 23) rfl
theorem nw_24 : Cond.methodLinkNest "ServiceDesk" 155 y_s_byteAt "ServiceDesk" ∈ nwL := List.mem_of_getElem? (i := 24) rfl
theorem nw_25 : Cond.methodLinkNest "ServiceDesk" 158 y_s_hasJust "ServiceDesk" ∈ nwL := List.mem_of_getElem? (i := 25) rfl
theorem nw_26 : Cond.methodLinkNest "ServiceDesk" 188 y_s_madeInAll "ServiceDesk" ∈ nwL := List.mem_of_getElem? (i := 26) rfl
theorem nw_27 : Cond.methodLinkNest "ServiceDesk" 192 y_s_openInAll "ServiceDesk" ∈ nwL := List.mem_of_getElem? (i := 27) rfl
def NW (U : State) : Prop := ∀ w ∈ nwL, va_Nw w U
theorem nw_tbl : ∀ w ∈ nwL, w ∈ lw_tbl := List.forall_mem_cons.mpr ⟨mw_24, List.forall_mem_cons.mpr ⟨mw_29, List.forall_mem_cons.mpr ⟨mw_31, List.forall_mem_cons.mpr ⟨mw_33, List.forall_mem_cons.mpr ⟨mw_44, List.forall_mem_cons.mpr ⟨mw_49, List.forall_mem_cons.mpr ⟨mw_51, List.forall_mem_cons.mpr ⟨mw_53, List.forall_mem_cons.mpr ⟨mw_55, List.forall_mem_cons.mpr ⟨mw_57, List.forall_mem_cons.mpr ⟨mw_76, List.forall_mem_cons.mpr ⟨mw_81, List.forall_mem_cons.mpr ⟨mw_83, List.forall_mem_cons.mpr ⟨mw_119, List.forall_mem_cons.mpr ⟨mw_123, List.forall_mem_cons.mpr ⟨mw_130, List.forall_mem_cons.mpr ⟨mw_135, List.forall_mem_cons.mpr ⟨mw_139, List.forall_mem_cons.mpr ⟨mw_279, List.forall_mem_cons.mpr ⟨mw_315, List.forall_mem_cons.mpr ⟨mw_331, List.forall_mem_cons.mpr ⟨mw_370, List.forall_mem_cons.mpr ⟨mw_375, List.forall_mem_cons.mpr ⟨mw_404, List.forall_mem_cons.mpr ⟨mw_419, List.forall_mem_cons.mpr ⟨mw_427, List.forall_mem_cons.mpr ⟨mw_464, List.forall_mem_cons.mpr ⟨mw_468, fun _ h => absurd h List.not_mem_nil⟩⟩⟩⟩⟩⟩⟩⟩⟩⟩⟩⟩⟩⟩⟩⟩⟩⟩⟩⟩⟩⟩⟩⟩⟩⟩⟩⟩
theorem nw_tabs : ∀ w ∈ nwL, w.onTables = true := List.forall_mem_cons.mpr ⟨rfl, List.forall_mem_cons.mpr ⟨rfl, List.forall_mem_cons.mpr ⟨rfl, List.forall_mem_cons.mpr ⟨rfl, List.forall_mem_cons.mpr ⟨rfl, List.forall_mem_cons.mpr ⟨rfl, List.forall_mem_cons.mpr ⟨rfl, List.forall_mem_cons.mpr ⟨rfl, List.forall_mem_cons.mpr ⟨rfl, List.forall_mem_cons.mpr ⟨rfl, List.forall_mem_cons.mpr ⟨rfl, List.forall_mem_cons.mpr ⟨rfl, List.forall_mem_cons.mpr ⟨rfl, List.forall_mem_cons.mpr ⟨rfl, List.forall_mem_cons.mpr ⟨rfl, List.forall_mem_cons.mpr ⟨rfl, List.forall_mem_cons.mpr ⟨rfl, List.forall_mem_cons.mpr ⟨rfl, List.forall_mem_cons.mpr ⟨rfl, List.forall_mem_cons.mpr ⟨rfl, List.forall_mem_cons.mpr ⟨rfl, List.forall_mem_cons.mpr ⟨rfl, List.forall_mem_cons.mpr ⟨rfl, List.forall_mem_cons.mpr ⟨rfl, List.forall_mem_cons.mpr ⟨rfl, List.forall_mem_cons.mpr ⟨rfl, List.forall_mem_cons.mpr ⟨rfl, List.forall_mem_cons.mpr ⟨rfl, fun _ h => absurd h List.not_mem_nil⟩⟩⟩⟩⟩⟩⟩⟩⟩⟩⟩⟩⟩⟩⟩⟩⟩⟩⟩⟩⟩⟩⟩⟩⟩⟩⟩⟩
theorem NW.of {args : Array Value} {s : State} (hts : ∀ w ∈ lw_tbl, w.before args s = true) : NW s := fun w h => va_Nw.of (nw_tabs w h) (hts w (nw_tbl w h))
theorem NW.same {u U : State} (h : u.vm = U.vm) (hN : NW u) : NW U := fun w hw => va_Nw.same (nw_tabs w hw) h (hN w hw)
theorem NW.warm {s U : State} (hW : s.WarmedH U.vm) (hN : NW s) : NW U := List.forall_mem_cons.mpr ⟨va_Nw.warmM hW (hN _ nw_0), List.forall_mem_cons.mpr ⟨va_Nw.warmF hW (hN _ nw_1), List.forall_mem_cons.mpr ⟨va_Nw.warmF hW (hN _ nw_2), List.forall_mem_cons.mpr ⟨va_Nw.warmF hW (hN _ nw_3), List.forall_mem_cons.mpr ⟨va_Nw.warmM hW (hN _ nw_4), List.forall_mem_cons.mpr ⟨va_Nw.warmF hW (hN _ nw_5), List.forall_mem_cons.mpr ⟨va_Nw.warmF hW (hN _ nw_6), List.forall_mem_cons.mpr ⟨va_Nw.warmF hW (hN _ nw_7), List.forall_mem_cons.mpr ⟨va_Nw.warmF hW (hN _ nw_8), List.forall_mem_cons.mpr ⟨va_Nw.warmF hW (hN _ nw_9), List.forall_mem_cons.mpr ⟨va_Nw.warmM hW (hN _ nw_10), List.forall_mem_cons.mpr ⟨va_Nw.warmF hW (hN _ nw_11), List.forall_mem_cons.mpr ⟨va_Nw.warmF hW (hN _ nw_12), List.forall_mem_cons.mpr ⟨va_Nw.warmM hW (hN _ nw_13), List.forall_mem_cons.mpr ⟨va_Nw.warmM hW (hN _ nw_14), List.forall_mem_cons.mpr ⟨va_Nw.warmM hW (hN _ nw_15), List.forall_mem_cons.mpr ⟨va_Nw.warmM hW (hN _ nw_16), List.forall_mem_cons.mpr ⟨va_Nw.warmM hW (hN _ nw_17), List.forall_mem_cons.mpr ⟨va_Nw.warmM hW (hN _ nw_18), List.forall_mem_cons.mpr ⟨va_Nw.warmM hW (hN _ nw_19), List.forall_mem_cons.mpr ⟨va_Nw.warmM hW (hN _ nw_20), List.forall_mem_cons.mpr ⟨va_Nw.warmM hW (hN _ nw_21), List.forall_mem_cons.mpr ⟨va_Nw.warmM hW (hN _ nw_22), List.forall_mem_cons.mpr ⟨va_Nw.warmM hW (hN _ nw_23), List.forall_mem_cons.mpr ⟨va_Nw.warmM hW (hN _ nw_24), List.forall_mem_cons.mpr ⟨va_Nw.warmM hW (hN _ nw_25), List.forall_mem_cons.mpr ⟨va_Nw.warmM hW (hN _ nw_26), List.forall_mem_cons.mpr ⟨va_Nw.warmM hW (hN _ nw_27), fun _ h => absurd h List.not_mem_nil⟩⟩⟩⟩⟩⟩⟩⟩⟩⟩⟩⟩⟩⟩⟩⟩⟩⟩⟩⟩⟩⟩⟩⟩⟩⟩⟩⟩
/-- what a method that only reads finds: its cells, the tables, the links -/
def RdC (D : va_G) (ws : va_W) (tys : List (ClassId × FieldType)) (U : State) : Prop := va_P D vwCl ws U.heap ∧ va_K D vwCl tys U ∧ NW U
theorem pre_pure {s : State} {H : Heap} {As : List Value} : PreS s H (va_Pc As (fun _ => True)) As := ⟨fun _ _ _ _ h => h, fun _ _ _ => ⟨rfl, trivial⟩⟩
theorem RdC.blind {D : va_G} {ws : va_W} {tys : List (ClassId × FieldType)} {av : List Value} : FrameBlind (va_Pc av (RdC D ws tys)) := fun a U g mk q => ⟨q.1, q.2.1, va_K.moved (u := U) (U := U.calling g mk a) (Vm.Alike.refl U.vm) q.2.2.1, NW.same (u := U) rfl q.2.2.2⟩
theorem RdC.preS {s : State} {H : Heap} {D : va_G} {ws : va_W} {tys : List (ClassId × FieldType)} {As : List Value} (hP : va_P D vwCl ws H) (hK : va_K D vwCl tys s) (hN : NW s) : PreS s H (va_Pc As (RdC D ws tys)) As := ⟨RdC.blind, fun U hU hW => ⟨rfl, by rw [hU]; exact hP, va_K.moved hW.alike hK, hN.warm hW⟩⟩
theorem RdC.preV {s : State} {H : Heap} {D : va_G} {ws : va_W} {tys : List (ClassId × FieldType)} {As : List Value} {b q0 ci : Nat} {q : vw_C} {fs : List Value} (hP : va_P D vwCl ws H) (hK : va_K D vwCl tys s) (hN : NW s) (hc : vwCl[ci]? = some q) (he : ws[q0]? = some (b, .inr (ci, fs))) : PreV s H q.1 b (va_Pc (.ref b :: As) (RdC D ws tys)) As := ⟨RdC.blind, va_recv hK hP hc he, fun U hU hW => ⟨rfl, by rw [hU]; exact hP, va_K.moved hW.alike hK, hN.warm hW⟩⟩
/-! the state of the desk: the kind above each kind; modes, a, b of the verbs; how many are made; of each slot the one above, open, sum, length; the bytes; the rows' numbers; how many rows; clock; turns -/
abbrev St : Type := (Nat → Int32) × (Nat → Int32) × (Nat → Int32) × (Nat → Int32) × (Nat → Int32) × (Nat → Int32) × (Nat → Int32) × (Nat → Int32) × (Nat → Int32) × (Nat → Int32) × (Nat → Int32) × Int32 × Int32 × Int32
abbrev zka (v : St) : Nat → Int32 := v.1
abbrev uka (v : St) (f : Nat → Int32) : St := (f, v.2)
abbrev zmd (v : St) : Nat → Int32 := v.2.1
abbrev umd (v : St) (f : Nat → Int32) : St := (v.1, f, v.2.2)
abbrev zas (v : St) : Nat → Int32 := v.2.2.1
abbrev uas (v : St) (f : Nat → Int32) : St := (v.1, v.2.1, f, v.2.2.2)
abbrev zbs (v : St) : Nat → Int32 := v.2.2.2.1
abbrev ubs (v : St) (f : Nat → Int32) : St := (v.1, v.2.1, v.2.2.1, f, v.2.2.2.2)
abbrev zmk (v : St) : Nat → Int32 := v.2.2.2.2.1
abbrev umk (v : St) (f : Nat → Int32) : St := (v.1, v.2.1, v.2.2.1, v.2.2.2.1, f, v.2.2.2.2.2)
abbrev zab (v : St) : Nat → Int32 := v.2.2.2.2.2.1
abbrev uab (v : St) (f : Nat → Int32) : St := (v.1, v.2.1, v.2.2.1, v.2.2.2.1, v.2.2.2.2.1, f, v.2.2.2.2.2.2)
abbrev zop (v : St) : Nat → Int32 := v.2.2.2.2.2.2.1
abbrev uop (v : St) (f : Nat → Int32) : St := (v.1, v.2.1, v.2.2.1, v.2.2.2.1, v.2.2.2.2.1, v.2.2.2.2.2.1, f, v.2.2.2.2.2.2.2)
abbrev zsm (v : St) : Nat → Int32 := v.2.2.2.2.2.2.2.1
abbrev usm (v : St) (f : Nat → Int32) : St := (v.1, v.2.1, v.2.2.1, v.2.2.2.1, v.2.2.2.2.1, v.2.2.2.2.2.1, v.2.2.2.2.2.2.1, f, v.2.2.2.2.2.2.2.2)
abbrev zln (v : St) : Nat → Int32 := v.2.2.2.2.2.2.2.2.1
abbrev uln (v : St) (f : Nat → Int32) : St := (v.1, v.2.1, v.2.2.1, v.2.2.2.1, v.2.2.2.2.1, v.2.2.2.2.2.1, v.2.2.2.2.2.2.1, v.2.2.2.2.2.2.2.1, f, v.2.2.2.2.2.2.2.2.2)
abbrev ztx (v : St) : Nat → Int32 := v.2.2.2.2.2.2.2.2.2.1
abbrev utx (v : St) (f : Nat → Int32) : St := (v.1, v.2.1, v.2.2.1, v.2.2.2.1, v.2.2.2.2.1, v.2.2.2.2.2.1, v.2.2.2.2.2.2.1, v.2.2.2.2.2.2.2.1, v.2.2.2.2.2.2.2.2.1, f, v.2.2.2.2.2.2.2.2.2.2)
abbrev znu (v : St) : Nat → Int32 := v.2.2.2.2.2.2.2.2.2.2.1
abbrev unu (v : St) (f : Nat → Int32) : St := (v.1, v.2.1, v.2.2.1, v.2.2.2.1, v.2.2.2.2.1, v.2.2.2.2.2.1, v.2.2.2.2.2.2.1, v.2.2.2.2.2.2.2.1, v.2.2.2.2.2.2.2.2.1, v.2.2.2.2.2.2.2.2.2.1, f, v.2.2.2.2.2.2.2.2.2.2.2)
abbrev zkp (v : St) : Int32 := v.2.2.2.2.2.2.2.2.2.2.2.1
abbrev ukp (v : St) (f : Int32) : St := (v.1, v.2.1, v.2.2.1, v.2.2.2.1, v.2.2.2.2.1, v.2.2.2.2.2.1, v.2.2.2.2.2.2.1, v.2.2.2.2.2.2.2.1, v.2.2.2.2.2.2.2.2.1, v.2.2.2.2.2.2.2.2.2.1, v.2.2.2.2.2.2.2.2.2.2.1, f, v.2.2.2.2.2.2.2.2.2.2.2.2)
abbrev zck (v : St) : Int32 := v.2.2.2.2.2.2.2.2.2.2.2.2.1
abbrev uck (v : St) (f : Int32) : St := (v.1, v.2.1, v.2.2.1, v.2.2.2.1, v.2.2.2.2.1, v.2.2.2.2.2.1, v.2.2.2.2.2.2.1, v.2.2.2.2.2.2.2.1, v.2.2.2.2.2.2.2.2.1, v.2.2.2.2.2.2.2.2.2.1, v.2.2.2.2.2.2.2.2.2.2.1, v.2.2.2.2.2.2.2.2.2.2.2.1, f, v.2.2.2.2.2.2.2.2.2.2.2.2.2)
abbrev ztn (v : St) : Int32 := v.2.2.2.2.2.2.2.2.2.2.2.2.2
abbrev utn (v : St) (f : Int32) : St := (v.1, v.2.1, v.2.2.1, v.2.2.2.1, v.2.2.2.2.1, v.2.2.2.2.2.1, v.2.2.2.2.2.2.1, v.2.2.2.2.2.2.2.1, v.2.2.2.2.2.2.2.2.1, v.2.2.2.2.2.2.2.2.2.1, v.2.2.2.2.2.2.2.2.2.2.1, v.2.2.2.2.2.2.2.2.2.2.2.1, v.2.2.2.2.2.2.2.2.2.2.2.2.1, f)
/-- the cells of the desk -/
abbrev wC (q : Nat → Nat) (cI cZ cB : ClassId) (v : St) : va_W := [(q 0, .inr (3, [.ref (q 1), .ref (q 2), .ref (q 6), .ref (q 13), .int (zck v), .int (ztn v)])), (q 1, .inl (cI, 8, .inl (zka v))), (q 2, .inr (2, [.ref (q 3), .ref (q 4), .ref (q 5)])), (q 3, .inl (cI, 64, .inl (zmd v))), (q 4, .inl (cI, 64, .inl (zas v))), (q 5, .inl (cI, 64, .inl (zbs v))), (q 6, .inr (1, [.ref (q 7), .ref (q 8), .ref (q 9), .ref (q 10), .ref (q 11), .ref (q 12)])), (q 7, .inl (cI, 8, .inl (zmk v))), (q 8, .inl (cI, 240, .inl (zab v))), (q 9, .inl (cZ, 240, .inl (zop v))), (q 10, .inl (cI, 240, .inl (zsm v))), (q 11, .inl (cI, 240, .inl (zln v))), (q 12, .inl (cB, 3840, .inl (ztx v))), (q 13, .inr (0, [.ref (q 14), .int (zkp v)])), (q 14, .inl (cI, 400, .inl (znu v)))]
abbrev tyC (cI cZ cB : ClassId) : List (ClassId × FieldType) := [(cI, .int), (cZ, .boolean), (cB, .byte)]
/-- the cells of the reference, of the same state; beside it what was thrown, and the change that is noted -/
abbrev wM (a : Nat → Nat) (cI cZ cL : ClassId) (v : St) (th ch : Int32) (cd : Int64) : va_W := [(a 0, .inr (4, [.int th, .ref (a 1), .ref (a 2), .ref (a 3), .ref (a 4), .ref (a 5), .ref (a 6), .ref (a 7), .ref (a 8), .ref (a 9), .ref (a 10), .int (ztn v), .int (zck v), .int (zkp v), .ref (a 11), .int ch, .long cd])), (a 1, .inl (cI, 8, .inl (zka v))), (a 2, .inl (cI, 8, .inl (zmk v))), (a 3, .inl (cI, 240, .inl (zab v))), (a 4, .inl (cZ, 240, .inl (zop v))), (a 5, .inl (cL, 240, .inr (.inl (fun i => (zsm v i).toInt64)))), (a 6, .inl (cI, 240, .inl (zln v))), (a 7, .inl (cI, 3840, .inl (fun i => ztx v i &&& 255))), (a 8, .inl (cI, 64, .inl (zmd v))), (a 9, .inl (cI, 64, .inl (zas v))), (a 10, .inl (cI, 64, .inl (zbs v))), (a 11, .inl (cI, 400, .inl (znu v)))]
abbrev tyM (cI cZ cL : ClassId) : List (ClassId × FieldType) := [(cI, .int), (cZ, .boolean), (cL, .long)]
/-- how many of a kind are made -/
def mN (v : St) (k : Nat) : Nat := (zmk v k).toNatClampNeg
def lN9 (v : St) (i : Nat) : Nat := (zln v i).toNatClampNeg
def kN (v : St) : Nat := (zkp v).toNatClampNeg
/-- what holds of every state that calls can reach -/
def Ika (v : St) : Prop := ∀ k, k < 8 → zka v k = -1 ∨ ∃ j, j < 8 ∧ zka v k = nI j
def Irk (v : St) : Prop := ∃ rk : Nat → Nat, ∀ k j, k < 8 → j < 8 → zka v k = nI j → rk j < rk k
def Imk (v : St) : Prop := ∀ k, k < 8 → mN v k ≤ 30 ∧ zmk v k = nI (mN v k)
def Iop (v : St) : Prop := ∀ i, i < 240 → zop v i = 0 ∨ zop v i = 1
def Iln (v : St) : Prop := ∀ i, i < 240 → lN9 v i ≤ 16 ∧ zln v i = nI (lN9 v i)
def Ikp (v : St) : Prop := kN v ≤ 80 ∧ zkp v = nI (kN v)
def Imd (v : St) : Prop := ∀ i, i < 64 → ∃ n, n < 8 ∧ zmd v i = nI n
def Ias (v : St) : Prop := ∀ i, i < 64 → (-1000 ≤ (zas v i).toInt ∧ (zas v i).toInt ≤ 1000) ∧ -1000 ≤ (zbs v i).toInt ∧ (zbs v i).toInt ≤ 1000
def Ism (v : St) : Prop := ∀ i, i < 240 → -1000000000 ≤ (zsm v i).toInt ∧ (zsm v i).toInt ≤ 1000000000
def Iab (v : St) : Prop := ∀ k j, k < 8 → j < mN v k → (zka v k = -1 ∧ zab v (k * 30 + j) = -1) ∨ ∃ k2 j2, k2 < 8 ∧ j2 < mN v k2 ∧ zka v k = nI k2 ∧ zab v (k * 30 + j) = nI j2
def Ick (v : St) : Prop := 0 ≤ (zck v).toInt ∧ (zck v).toInt ≤ 1000000000
def Inv (v : St) : Prop := Ika v ∧ Irk v ∧ Imk v ∧ Iop v ∧ Iln v ∧ Ikp v ∧ Imd v ∧ Ias v ∧ Ism v ∧ Iab v ∧ Ick v
theorem Inv.ka {v : St} (h : Inv v) : Ika v := h.1
theorem Inv.rk {v : St} (h : Inv v) : Irk v := h.2.1
theorem Inv.mk {v : St} (h : Inv v) : Imk v := h.2.2.1
theorem Inv.op {v : St} (h : Inv v) : Iop v := h.2.2.2.1
theorem Inv.ln {v : St} (h : Inv v) : Iln v := h.2.2.2.2.1
theorem Inv.kp {v : St} (h : Inv v) : Ikp v := h.2.2.2.2.2.1
theorem Inv.md {v : St} (h : Inv v) : Imd v := h.2.2.2.2.2.2.1
theorem Inv.as {v : St} (h : Inv v) : Ias v := h.2.2.2.2.2.2.2.1
theorem Inv.sm {v : St} (h : Inv v) : Ism v := h.2.2.2.2.2.2.2.2.1
theorem Inv.ab {v : St} (h : Inv v) : Iab v := h.2.2.2.2.2.2.2.2.2.1
theorem Inv.ck {v : St} (h : Inv v) : Ick v := h.2.2.2.2.2.2.2.2.2.2
/-- the kinds, and the numbers of verbs -/
theorem k8_of {x : Int32} (h1 : ¬ x < 0) (h2 : x < 8) : ∃ k, k < 8 ∧ x = nI k := by
  obtain ⟨j, hj, rfl⟩ := nI_of h1
  exact ⟨j, (nI_ltI hj (by decide)).mp h2, rfl⟩
theorem k8_no {x : Int32} (h : x < 0 ∨ 8 ≤ x) : ¬ ∃ k, k < 8 ∧ x = nI k := by
  rintro ⟨k, hk, rfl⟩
  rcases h with h | h
  · exact nI_pos (by omega) h
  · exact nI_ge (a := k) (b := 8) hk (by decide) h
/-- a kind and a number of a subject -/
def isK (x : Int32) : Prop := ∃ k, k < 8 ∧ x = nI k
def isS (v : St) (x y : Int32) : Prop := ∃ k j, k < 8 ∧ j < mN v k ∧ x = nI k ∧ y = nI j
end
section
/-! the sum's step; a byte of packed ones -/
def stirF (s v : Int32) : Int32 := ((s ^^^ v) <<< ((5 : Int32) &&& 31) ||| ((s ^^^ v).toUInt32 >>> ((27 : Int32).toUInt32 &&& Int32.toUInt32 31)).toInt32) * (-2048144789)
def byteF (p : Int64) (n i : Int32) : Int32 := ((p.toUInt64 >>> ((8 * (n - 1 - i)).toInt64.toUInt64 &&& Int64.toUInt64 63)).toInt64).toInt32 &&& 255
/-- a loop that only reads, with what is known of the turn -/
theorem rd_loopI {p : Program} {l : Launch} {e : Env} {R : Room} {s : State} {m : MethodId} {args : Array Value} {below : List Frame} {meth : Method} {c : Code} {H : Heap} {locs : List Loc} {cells slots : Nat} {Q : State → Prop} {nL : Nat} (N : Nat) (I : Nat → Prop) (LV : Nat → List (Nat × Value)) {head : Nat} {st : List Value}
    (step : ∀ (i : Nat) (ls : Array Slot), i ≤ N → I i → lv_has ls nL (LV i) → (∀ ls' : Array Slot, i < N → I (i + 1) → lv_has ls' nL (LV (i + 1)) → W p l e R s m args below meth c H locs cells slots Q (F0 m head ls' st)) → W p l e R s m args below meth c H locs cells slots Q (F0 m head ls st)) :
    ∀ ls : Array Slot, I 0 → lv_has ls nL (LV 0) → W p l e R s m args below meth c H locs cells slots Q (F0 m head ls st) := by
  have key : ∀ (n i : Nat) (ls : Array Slot), i ≤ N → N - i < n → I i → lv_has ls nL (LV i) → W p l e R s m args below meth c H locs cells slots Q (F0 m head ls st) := by
    intro n
    induction n with
    | zero => intro i ls _ h _ _; exact absurd h (Nat.not_lt_zero _)
    | succ n ih => exact fun i ls hi hn hI hl => step i ls hi hI hl (fun ls' hlt hI' hl' => ih (i + 1) ls' hlt (by omega) hI' hl')
  exact fun ls h0 hl => key (N + 1) 0 ls (Nat.zero_le _) (by omega) h0 hl
/-! longs compared -/
theorem lcmp_lt {x y : Int64} : lg_cmp x y < 0 ↔ x < y := by
  unfold lg_cmp
  by_cases h1 : y < x
  · rw [if_pos h1]; exact ⟨fun h => absurd h (by decide), fun h => absurd h (Int64.lt_asymm h1)⟩
  · rw [if_neg h1]
    by_cases h2 : x = y
    · rw [if_pos h2, h2]; exact ⟨fun h => absurd h (by decide), fun h => absurd h (Int64.lt_irrefl)⟩
    · rw [if_neg h2]; exact ⟨fun _ => Int64.lt_of_le_of_ne (Int64.not_lt.mp h1) h2, fun _ => by decide⟩
theorem lcmp_gt {x y : Int64} : 0 < lg_cmp x y ↔ y < x := by
  unfold lg_cmp
  by_cases h1 : y < x
  · rw [if_pos h1]; exact ⟨fun _ => h1, fun _ => by decide⟩
  · rw [if_neg h1]
    by_cases h2 : x = y
    · rw [if_pos h2]; exact ⟨fun h => absurd h (by decide), fun h => absurd h h1⟩
    · rw [if_neg h2]; exact ⟨fun h => absurd h (by decide), fun h => absurd h h1⟩
theorem lcmp_eq {x y : Int64} : lg_cmp x y = 0 ↔ x = y := by
  unfold lg_cmp
  by_cases h1 : y < x
  · rw [if_pos h1]; exact ⟨fun h => absurd h (by decide), fun h => by subst h; exact absurd h1 Int64.lt_irrefl⟩
  · rw [if_neg h1]
    by_cases h2 : x = y
    · rw [if_pos h2]; exact ⟨fun _ => h2, fun _ => rfl⟩
    · rw [if_neg h2]; exact ⟨fun h => absurd h (by decide), fun h => absurd h h2⟩
theorem lcmp_ge {x y : Int64} : 0 ≤ lg_cmp x y ↔ y ≤ x := by
  rw [← Int32.not_lt, lcmp_lt, Int64.not_lt]
theorem lcmp_le {x y : Int64} : lg_cmp x y ≤ 0 ↔ x ≤ y := by
  rw [← Int32.not_lt, lcmp_gt, Int64.not_lt]
/-- how many of a kind's first n are open; of these, under a given one; of all kinds under a kind -/
def opC (v : St) (k : Nat) : Nat → Nat
  | 0 => 0
  | n + 1 => opC v k n + (if zop v (k * 30 + n) = 0 then 0 else 1)
def unC (v : St) (k : Nat) (a : Int32) : Nat → Nat
  | 0 => 0
  | n + 1 => unC v k a n + (if zop v (k * 30 + n) = 0 then 0 else if zab v (k * 30 + n) = a then 1 else 0)
def onC (v : St) (x a : Int32) : Nat → Nat
  | 0 => 0
  | n + 1 => onC v x a n + (if zka v n = x then unC v n a (mN v n) else 0)
/-- the chain of the kinds above x -/
def chA (f : Nat → Int32) (x : Int32) : Nat → Int32
  | 0 => x
  | n + 1 => f (chA f x n).toNatClampNeg
theorem slot_nI (k j : Nat) : nI k * 30 + nI j = nI (k * 30 + j) := by
  rw [show (30 : Int32) = nI 30 from rfl, pk_mul, nI_add]
theorem mul8_nI (k j : Nat) : nI k * 8 + nI j = nI (k * 8 + j) := by
  rw [show (8 : Int32) = nI 8 from rfl, pk_mul, nI_add]
theorem mul16_nI (k j : Nat) : nI k * 16 + nI j = nI (k * 16 + j) := by
  rw [show (16 : Int32) = nI 16 from rfl, pk_mul, nI_add]
end
section
set_option maxHeartbeats 4000000 in
set_option maxRecDepth 100000 in
theorem c_d_stir (l : Launch) (s0 v0 : Int32) : Met l y_d_stir (Cond.code y_d_stir b_d_stir 3 (some .int) :: CW) { frames := 0, cells := 0, slots := 0, locals := 0 } (va_Pc [.int s0, .int v0] (fun _ => True)) (vp_Si (fun r : Int32 => r = stirF s0 v0)) 0 0 (fun _ => False) := by
  refine cx_met (by decide) (Nat.le_of_ble_eq_true rfl) ?_
  intro p e s m below meth c hx hb hr hml hts hown hlocks hnm hC ls hl
  have hown : s.vm.findClass "ServiceDesk" = some m.cls := hown
  have hl : lv_has ls 3 [(0, .int s0), (1, .int v0)] := hl
  refine lv_iload_n hx hb z_d_stir_0 rfl (lv_at hl 0 rfl) ?_
  refine lv_iload_n hx hb z_d_stir_1 rfl (lv_at hl 1 rfl) ?_
  refine lv_ixor hx hb z_d_stir_2 ?_
  refine lv_istore_n (lv' := [(2, .int (s0 ^^^ v0)), (0, .int s0), (1, .int v0)]) hx hb z_d_stir_3 rfl hl (by decide) rfl (fun ls hl => ?_)
  refine lv_iload_n hx hb z_d_stir_4 rfl (lv_at hl 0 rfl) ?_
  refine lv_iconst (v := 5) hx hb z_d_stir_5 (by decide) ?_
  refine lv_ishl hx hb z_d_stir_6 ?_
  refine lv_iload_n hx hb z_d_stir_7 rfl (lv_at hl 0 rfl) ?_
  refine lv_bipush (v := 27) hx hb z_d_stir_8 (by decide) ?_
  refine lv_iushr hx hb z_d_stir_10 rfl ?_
  refine lv_ior hx hb z_d_stir_11 ?_
  refine lv_ldc (v := (-2048144789)) hx hb hown (hts _ (cw_in mw_118 rfl)) z_d_stir_12 ?_
  refine lv_imul hx hb z_d_stir_14 ?_
  exact W.iret (v := (((s0 ^^^ v0) <<< (5 &&& 31)) ||| (((s0 ^^^ v0).toUInt32 >>> ((27 : Int32).toUInt32 &&& Int32.toUInt32 31)).toInt32)) * (-2048144789)) hx hb hr (fun t ht _ => ⟨(((s0 ^^^ v0) <<< (5 &&& 31)) ||| (((s0 ^^^ v0).toUInt32 >>> ((27 : Int32).toUInt32 &&& Int32.toUInt32 31)).toInt32)) * (-2048144789), rfl, rfl, ht⟩) t_nil z_d_stir_15

set_option maxHeartbeats 4000000 in
set_option maxRecDepth 100000 in
theorem c_d_isKind (l : Launch) (x : Int32) : Met l y_d_isKind (Cond.code y_d_isKind b_d_isKind 1 (some .boolean) :: CW) { frames := 0, cells := 0, slots := 0, locals := 0 } (va_Pc [.int x] (fun _ => True)) (vp_Si (fun r : Int32 => (r = 1 ∧ isK x) ∨ (r = 0 ∧ ¬ isK x))) 0 0 (fun _ => False) := by
  refine cx_met (by decide) (Nat.le_of_ble_eq_true rfl) ?_
  intro p e s m below meth c hx hb hr hml hts hown hlocks hnm hC ls hl
  have hown : s.vm.findClass "ServiceDesk" = some m.cls := hown
  have hl : lv_has ls 1 [(0, .int x)] := hl
  refine lv_iload_n hx hb z_d_isKind_0 rfl (lv_at hl 0 rfl) ?_
  refine lv_if_lt (tgt := 14) hx hb z_d_isKind_1 (by decide) (fun c_1 => ?_) (fun c_1 => ?_)
  · refine lv_iconst (v := 0) hx hb z_d_isKind_14 (by decide) ?_
    exact W.zret (v := 0) hx hb hr rfl (fun t ht _ => ⟨0, rfl, Or.inr ⟨rfl, k8_no (Or.inl c_1)⟩, ht⟩) t_nil z_d_isKind_15
  · refine lv_iload_n hx hb z_d_isKind_4 rfl (lv_at hl 0 rfl) ?_
    refine lv_bipush (v := 8) hx hb z_d_isKind_5 (by decide) ?_
    refine lv_icmp_ge (tgt := 14) hx hb z_d_isKind_7 (by decide) (fun c_7 => ?_) (fun c_7 => ?_)
    · refine lv_iconst (v := 0) hx hb z_d_isKind_14 (by decide) ?_
      exact W.zret (v := 0) hx hb hr rfl (fun t ht _ => ⟨0, rfl, Or.inr ⟨rfl, k8_no (Or.inr c_7)⟩, ht⟩) t_nil z_d_isKind_15
    · refine lv_iconst (v := 1) hx hb z_d_isKind_10 (by decide) ?_
      refine lv_goto (tgt := 15) hx hb z_d_isKind_11 (by decide) ?_
      exact W.zret (v := 1) hx hb hr rfl (fun t ht _ => ⟨1, rfl, Or.inl ⟨rfl, k8_of c_1 (Int32.not_le.mp c_7)⟩, ht⟩) t_nil z_d_isKind_15

set_option maxHeartbeats 4000000 in
set_option maxRecDepth 100000 in
theorem c_d_isVerb (l : Launch) (x : Int32) : Met l y_d_isVerb (Cond.code y_d_isVerb b_d_isVerb 1 (some .boolean) :: CW) { frames := 0, cells := 0, slots := 0, locals := 0 } (va_Pc [.int x] (fun _ => True)) (vp_Si (fun r : Int32 => (r = 1 ∧ isK x) ∨ (r = 0 ∧ ¬ isK x))) 0 0 (fun _ => False) := by
  refine cx_met (by decide) (Nat.le_of_ble_eq_true rfl) ?_
  intro p e s m below meth c hx hb hr hml hts hown hlocks hnm hC ls hl
  have hown : s.vm.findClass "ServiceDesk" = some m.cls := hown
  have hl : lv_has ls 1 [(0, .int x)] := hl
  refine lv_iload_n hx hb z_d_isVerb_0 rfl (lv_at hl 0 rfl) ?_
  refine lv_if_lt (tgt := 14) hx hb z_d_isVerb_1 (by decide) (fun c_1 => ?_) (fun c_1 => ?_)
  · refine lv_iconst (v := 0) hx hb z_d_isVerb_14 (by decide) ?_
    exact W.zret (v := 0) hx hb hr rfl (fun t ht _ => ⟨0, rfl, Or.inr ⟨rfl, k8_no (Or.inl c_1)⟩, ht⟩) t_nil z_d_isVerb_15
  · refine lv_iload_n hx hb z_d_isVerb_4 rfl (lv_at hl 0 rfl) ?_
    refine lv_bipush (v := 8) hx hb z_d_isVerb_5 (by decide) ?_
    refine lv_icmp_ge (tgt := 14) hx hb z_d_isVerb_7 (by decide) (fun c_7 => ?_) (fun c_7 => ?_)
    · refine lv_iconst (v := 0) hx hb z_d_isVerb_14 (by decide) ?_
      exact W.zret (v := 0) hx hb hr rfl (fun t ht _ => ⟨0, rfl, Or.inr ⟨rfl, k8_no (Or.inr c_7)⟩, ht⟩) t_nil z_d_isVerb_15
    · refine lv_iconst (v := 1) hx hb z_d_isVerb_10 (by decide) ?_
      refine lv_goto (tgt := 15) hx hb z_d_isVerb_11 (by decide) ?_
      exact W.zret (v := 1) hx hb hr rfl (fun t ht _ => ⟨1, rfl, Or.inl ⟨rfl, k8_of c_1 (Int32.not_le.mp c_7)⟩, ht⟩) t_nil z_d_isVerb_15

set_option maxHeartbeats 4000000 in
set_option maxRecDepth 100000 in
theorem c_d_isWithin (l : Launch) (x mo : Int64) : Met l y_d_isWithin (Cond.code y_d_isWithin b_d_isWithin 4 (some .boolean) :: CW) { frames := 0, cells := 0, slots := 0, locals := 0 } (va_Pc [.long x, .long mo] (fun _ => True)) (vp_Si (fun r : Int32 => (r = 1 ∧ (-mo ≤ x ∧ x ≤ mo)) ∨ (r = 0 ∧ ¬ (-mo ≤ x ∧ x ≤ mo)))) 0 0 (fun _ => False) := by
  refine cx_met (by decide) (Nat.le_of_ble_eq_true rfl) ?_
  intro p e s m below meth c hx hb hr hml hts hown hlocks hnm hC ls hl
  have hown : s.vm.findClass "ServiceDesk" = some m.cls := hown
  have hl : lv_has ls 4 [(0, .long x), (2, .long mo)] := hl
  refine lv_lload_n hx hb z_d_isWithin_0 rfl (lv_at hl 0 rfl) ?_
  refine lv_lload_n hx hb z_d_isWithin_1 rfl (lv_at hl 1 rfl) ?_
  refine lv_lneg hx hb z_d_isWithin_2 ?_
  refine W.lcmp hx hb z_d_isWithin_3 ?_
  refine lv_if_lt (tgt := 17) hx hb z_d_isWithin_4 (by decide) (fun c_4 => ?_) (fun c_4 => ?_)
  · refine lv_iconst (v := 0) hx hb z_d_isWithin_17 (by decide) ?_
    exact W.zret (v := 0) hx hb hr rfl (fun t ht _ => ⟨0, rfl, Or.inr ⟨rfl, fun h => Int64.not_lt.mpr h.1 (lcmp_lt.mp c_4)⟩, ht⟩) t_nil z_d_isWithin_18
  · refine lv_lload_n hx hb z_d_isWithin_7 rfl (lv_at hl 0 rfl) ?_
    refine lv_lload_n hx hb z_d_isWithin_8 rfl (lv_at hl 1 rfl) ?_
    refine W.lcmp hx hb z_d_isWithin_9 ?_
    refine lv_if_gt (tgt := 17) hx hb z_d_isWithin_10 (by decide) (fun c_10 => ?_) (fun c_10 => ?_)
    · refine lv_iconst (v := 0) hx hb z_d_isWithin_17 (by decide) ?_
      exact W.zret (v := 0) hx hb hr rfl (fun t ht _ => ⟨0, rfl, Or.inr ⟨rfl, fun h => Int64.not_lt.mpr h.2 (lcmp_gt.mp c_10)⟩, ht⟩) t_nil z_d_isWithin_18
    · refine lv_iconst (v := 1) hx hb z_d_isWithin_13 (by decide) ?_
      refine lv_goto (tgt := 18) hx hb z_d_isWithin_14 (by decide) ?_
      exact W.zret (v := 1) hx hb hr rfl (fun t ht _ => ⟨1, rfl, Or.inl ⟨rfl, Int64.not_lt.mp (fun h => c_4 (lcmp_lt.mpr h)), Int64.not_lt.mp (fun h => c_10 (lcmp_gt.mpr h))⟩, ht⟩) t_nil z_d_isWithin_18

set_option maxHeartbeats 4000000 in
set_option maxRecDepth 100000 in
theorem c_d_slotOf (l : Launch) (k j : Nat) : Met l y_d_slotOf (Cond.code y_d_slotOf b_d_slotOf 2 (some .int) :: CW) { frames := 0, cells := 0, slots := 0, locals := 0 } (va_Pc [.int (nI k), .int (nI j)] (fun _ => True)) (vp_Si (fun r : Int32 => r = nI (k * 30 + j))) 0 0 (fun _ => False) := by
  refine cx_met (by decide) (Nat.le_of_ble_eq_true rfl) ?_
  intro p e s m below meth c hx hb hr hml hts hown hlocks hnm hC ls hl
  have hown : s.vm.findClass "ServiceDesk" = some m.cls := hown
  have hl : lv_has ls 2 [(0, .int (nI k)), (1, .int (nI j))] := hl
  refine lv_iload_n hx hb z_d_slotOf_0 rfl (lv_at hl 0 rfl) ?_
  refine lv_bipush (v := 30) hx hb z_d_slotOf_1 (by decide) ?_
  refine lv_imul hx hb z_d_slotOf_3 ?_
  refine lv_iload_n hx hb z_d_slotOf_4 rfl (lv_at hl 1 rfl) ?_
  refine lv_iadd hx hb z_d_slotOf_5 ?_
  exact W.iret (v := ((nI k) * 30) + (nI j)) hx hb hr (fun t ht _ => ⟨((nI k) * 30) + (nI j), rfl, (slot_nI k j), ht⟩) t_nil z_d_slotOf_6

set_option maxHeartbeats 4000000 in
set_option maxRecDepth 100000 in
theorem c_s_byteOf (l : Launch) (p0 : Int64) (n0 i0 : Int32) : Met l y_s_byteOf (Cond.code y_s_byteOf b_s_byteOf 4 (some .int) :: CW) { frames := 0, cells := 0, slots := 0, locals := 0 } (va_Pc [.long p0, .int n0, .int i0] (fun _ => True)) (vp_Si (fun r : Int32 => r = byteF p0 n0 i0)) 0 0 (fun _ => False) := by
  refine cx_met (by decide) (Nat.le_of_ble_eq_true rfl) ?_
  intro p e s m below meth c hx hb hr hml hts hown hlocks hnm hC ls hl
  have hown : s.vm.findClass "ServiceDesk$Subjects" = some m.cls := hown
  have hl : lv_has ls 4 [(0, .long p0), (2, .int n0), (3, .int i0)] := hl
  refine lv_lload_n hx hb z_s_byteOf_0 rfl (lv_at hl 0 rfl) ?_
  refine lv_bipush (v := 8) hx hb z_s_byteOf_1 (by decide) ?_
  refine lv_iload_n hx hb z_s_byteOf_3 rfl (lv_at hl 1 rfl) ?_
  refine lv_iconst (v := 1) hx hb z_s_byteOf_4 (by decide) ?_
  refine lv_isub hx hb z_s_byteOf_5 ?_
  refine lv_iload_n hx hb z_s_byteOf_6 rfl (lv_at hl 2 rfl) ?_
  refine lv_isub hx hb z_s_byteOf_7 ?_
  refine lv_imul hx hb z_s_byteOf_8 ?_
  refine lv_lushr hx hb z_s_byteOf_9 rfl ?_
  refine lv_l2i hx hb z_s_byteOf_10 rfl ?_
  refine lv_sipush (v := 255) hx hb z_s_byteOf_11 (by decide) ?_
  refine lv_iand hx hb z_s_byteOf_14 ?_
  exact W.iret (v := (((p0.toUInt64 >>> ((8 * ((n0 - 1) - i0)).toInt64.toUInt64 &&& Int64.toUInt64 63)).toInt64).toInt32) &&& 255) hx hb hr (fun t ht _ => ⟨(((p0.toUInt64 >>> ((8 * ((n0 - 1) - i0)).toInt64.toUInt64 &&& Int64.toUInt64 63)).toInt64).toInt32) &&& 255, rfl, rfl, ht⟩) t_nil z_s_byteOf_15
end
section
theorem nlt_of {a b : Nat} (ha : a < 2 ^ 31) (h : ¬ nI b ≤ nI a) : a < b := Nat.lt_of_not_le (fun q => h (nI_le q ha))
theorem eq_of_nle {a b : Nat} (hab : a ≤ b) (hb : b < 2 ^ 31) (h : nI b ≤ nI a) : a = b := Nat.le_antisymm hab ((nI_leI hb (Nat.lt_of_le_of_lt hab hb)).mp h)
theorem isS_yes {v : St} {k : Nat} {y : Int32} (hi : Inv v) (hk : k < 8) (h1 : ¬ y < 0) (h2 : ¬ nI (mN v k) ≤ y) : isS v (nI k) y := by
  obtain ⟨j, hj, rfl⟩ := nI_of h1
  exact ⟨k, j, hk, nlt_of hj h2, rfl, rfl⟩
theorem isS_no1 {v : St} {x y : Int32} (h : ¬ isK x) : ¬ isS v x y := fun ⟨k, _, hk, _, hx, _⟩ => h ⟨k, hk, hx⟩
theorem mN_lt {v : St} {k : Nat} (hi : Inv v) (hk : k < 8) : mN v k < 2 ^ 31 := Nat.lt_of_le_of_lt (hi.mk k hk).1 (by decide)
theorem isS_no2 {v : St} {x y : Int32} (hi : Inv v) (h : y < 0) : ¬ isS v x y := by
  rintro ⟨k, j, hk, hj, rfl, rfl⟩
  exact nI_pos (Nat.lt_trans hj (mN_lt hi hk)) h
theorem isS_no3 {v : St} {k : Nat} {y : Int32} (hi : Inv v) (hk : k < 8) (h : nI (mN v k) ≤ y) : ¬ isS v (nI k) y := by
  rintro ⟨k2, j, hk2, hj, he, rfl⟩
  have e : k = k2 := (nI_eq (by omega) (by omega)).mp he
  subst e
  exact nI_ge hj (mN_lt hi hk) h
/-- a subject may be under this one -/
def canA (v : St) (k : Nat) (a : Int32) : Prop := (zka v k = -1 ∧ a = -1) ∨ (zka v k ≠ -1 ∧ isS v (zka v k) a)
theorem opC_0 {v : St} {k n : Nat} (h : zop v (k * 30 + n) = 0) : opC v k (n + 1) = opC v k n := by rw [opC, if_pos h, Nat.add_zero]
theorem opC_1 {v : St} {k n : Nat} (h : ¬ zop v (k * 30 + n) = 0) : opC v k (n + 1) = opC v k n + 1 := by rw [opC, if_neg h]
theorem unC_0 {v : St} {k n : Nat} {a : Int32} (h : zop v (k * 30 + n) = 0) : unC v k a (n + 1) = unC v k a n := by rw [unC, if_pos h, Nat.add_zero]
theorem unC_1 {v : St} {k n : Nat} {a : Int32} (h : ¬ zop v (k * 30 + n) = 0) (h2 : ¬ zab v (k * 30 + n) = a) : unC v k a (n + 1) = unC v k a n := by rw [unC, if_neg h, if_neg h2, Nat.add_zero]
theorem unC_2 {v : St} {k n : Nat} {a : Int32} (h : ¬ zop v (k * 30 + n) = 0) (h2 : zab v (k * 30 + n) = a) : unC v k a (n + 1) = unC v k a n + 1 := by rw [unC, if_neg h, if_pos h2]
theorem onC_0 {v : St} {n : Nat} {x a : Int32} (h : ¬ zka v n = x) : onC v x a (n + 1) = onC v x a n := by rw [onC, if_neg h, Nat.add_zero]
theorem onC_1 {v : St} {n : Nat} {x a : Int32} (h : zka v n = x) : onC v x a (n + 1) = onC v x a n + unC v n a (mN v n) := by rw [onC, if_pos h]
theorem unC_le {v : St} {k : Nat} {a : Int32} : ∀ n, unC v k a n ≤ n
  | 0 => Nat.le_refl _
  | n + 1 => by
    have := unC_le (v := v) (k := k) (a := a) n
    rw [unC]
    split
    · omega
    · split <;> omega
theorem opC_le {v : St} {k : Nat} : ∀ n, opC v k n ≤ n
  | 0 => Nat.le_refl _
  | n + 1 => by
    have := opC_le (v := v) (k := k) n
    rw [opC]
    split <;> omega
theorem onC_le {v : St} {x a : Int32} (hi : Inv v) : ∀ n, n ≤ 8 → onC v x a n ≤ 30 * n
  | 0, _ => Nat.le_refl _
  | n + 1, h => by
    have h1 := onC_le (v := v) (x := x) (a := a) hi n (by omega)
    have h2 := unC_le (v := v) (k := n) (a := a) (mN v n)
    have h3 := (hi.mk n (by omega)).1
    rw [onC]
    split <;> omega
/-! what holds of a text, sums over all kinds, the book's sum -/
def hasJ (v : St) (g : Nat) (p0 : Int64) (n : Nat) : Prop := zln v g = nI n ∧ ∀ i, i < n → ztx v (g * 16 + i) &&& 255 = byteF p0 (nI n) (nI i)
def mkS (v : St) : Nat → Nat
  | 0 => 0
  | n + 1 => mkS v n + mN v n
def opS (v : St) : Nat → Nat
  | 0 => 0
  | n + 1 => opS v n + opC v n (mN v n)
def txS (v : St) (g : Nat) (b : Int32) : Nat → Int32
  | 0 => b
  | n + 1 => stirF (txS v g b n) (ztx v (g * 16 + n) &&& 255)
def sOne (v : St) (b : Int32) (g : Nat) : Int32 := txS v g (stirF (stirF (stirF b (zab v g)) (if zop v g = 0 then 0 else 1)) (zsm v g)) (lN9 v g)
def sKi (v : St) (b : Int32) (k : Nat) : Nat → Int32
  | 0 => b
  | n + 1 => sOne v (sKi v b k n) (k * 30 + n)
def sRo (v : St) (b : Int32) : Nat → Int32
  | 0 => b
  | n + 1 => stirF (sRo v b n) (znu v n)
def sBk (v : St) : Nat → Int32
  | 0 => stirF (stirF 0 (zck v)) (ztn v)
  | n + 1 => sKi v (stirF (sBk v n) (zka v n)) n (mN v n)
def bookF (v : St) : Int32 := sRo v (sBk v 8) (kN v * 5)
/-! the chain of kinds -/
theorem pigeon : ∀ (n : Nat) (f : Nat → Nat), (∀ i, i < n + 1 → f i < n) → ∃ i j, i < j ∧ j < n + 1 ∧ f i = f j
  | 0, f, h => absurd (h 0 (by omega)) (Nat.not_lt_zero _)
  | n + 1, f, h => by
    by_cases hx : ∃ i, i < n + 1 ∧ f i = f (n + 1)
    · obtain ⟨i, h1, h2⟩ := hx
      exact ⟨i, n + 1, h1, by omega, h2⟩
    · have hne : ∀ i, i < n + 1 → f i ≠ f (n + 1) := fun i h1 h2 => hx ⟨i, h1, h2⟩
      obtain ⟨i, j, h1, h2, h3⟩ := pigeon n (fun i => if f i < f (n + 1) then f i else f i - 1) (fun i hi => by
        have a := h i (by omega)
        have b := h (n + 1) (by omega)
        have c := hne i hi
        show (if f i < f (n + 1) then f i else f i - 1) < n
        split <;> omega)
      refine ⟨i, j, h1, by omega, ?_⟩
      have a := hne i (by omega)
      have b := hne j h2
      have h3 : (if f i < f (n + 1) then f i else f i - 1) = (if f j < f (n + 1) then f j else f j - 1) := h3
      split at h3 <;> split at h3 <;> omega
/-- g is x, or above it -/
def reaU (v : St) (x g : Int32) : Prop := ∃ n, chA (zka v) x n = g ∧ ∀ j, j < n → chA (zka v) x j ≠ -1
/-- a chain's kinds, as numbers -/
theorem chA_kind {v : St} {x : Int32} (hi : Inv v) (hx : x = -1 ∨ isK x) : ∀ n, (∀ j, j < n → chA (zka v) x j ≠ -1) → chA (zka v) x n = -1 ∨ isK (chA (zka v) x n)
  | 0, _ => hx
  | n + 1, h => by
    rcases chA_kind hi hx n (fun j hj => h j (by omega)) with q | ⟨k, hk, q⟩
    · exact absurd q (h n (by omega))
    · show zka v (chA (zka v) x n).toNatClampNeg = -1 ∨ isK (zka v (chA (zka v) x n).toNatClampNeg)
      rw [q, nI_clamp (by omega)]
      exact hi.ka k hk
theorem chA_rk {v : St} {x : Int32} {rk : Nat → Nat} (hi : Inv v) (hrk : ∀ k j, k < 8 → j < 8 → zka v k = nI j → rk j < rk k) (hx : x = -1 ∨ isK x) (a : Nat) : ∀ d, (∀ j, j < a + d + 1 → chA (zka v) x j ≠ -1) → rk (chA (zka v) x (a + d)).toNatClampNeg ≤ rk (chA (zka v) x a).toNatClampNeg ∧ (0 < d → rk (chA (zka v) x (a + d)).toNatClampNeg < rk (chA (zka v) x a).toNatClampNeg)
  | 0, _ => ⟨Nat.le_refl _, fun h => absurd h (Nat.lt_irrefl _)⟩
  | d + 1, h => by
    have ih := chA_rk hi hrk hx a d (fun j hj => h j (by omega))
    obtain ⟨k, hk, e1⟩ := (chA_kind hi hx (a + d) (fun j hj => h j (by omega))).resolve_left (h (a + d) (by omega))
    obtain ⟨k2, hk2, e2⟩ := (chA_kind hi hx (a + (d + 1)) (fun j hj => h j (by omega))).resolve_left (h (a + (d + 1)) (by omega))
    have e3 : zka v k = nI k2 := by
      have e4 : zka v (chA (zka v) x (a + d)).toNatClampNeg = nI k2 := e2
      rw [e1, nI_clamp (by omega)] at e4
      exact e4
    have hlt := hrk k k2 hk hk2 e3
    rw [e1, nI_clamp (by omega)] at ih
    rw [e2, nI_clamp (by omega)]
    exact ⟨by omega, fun _ => by omega⟩
/-- eight steps that meet neither the end nor the goal: there are none -/
theorem chA_end {v : St} {x : Int32} {g : Nat} (hi : Inv v) (hx : x = -1 ∨ isK x) (hg : g < 8) (h : ∀ j, j < 8 → chA (zka v) x j ≠ -1 ∧ chA (zka v) x j ≠ nI g) : False := by
  obtain ⟨rk, hrk⟩ := hi.rk
  have hk : ∀ j, j < 8 → isK (chA (zka v) x j) := fun j hj => (chA_kind hi hx j (fun i hi' => (h i (by omega)).1)).resolve_left (h j hj).1
  obtain ⟨i, j, h1, h2, h3⟩ := pigeon 8 (fun i => if i < 8 then (chA (zka v) x i).toNatClampNeg else g) (fun i hi' => by
    show (if i < 8 then (chA (zka v) x i).toNatClampNeg else g) < 8
    split
    · next q =>
      obtain ⟨k, hk1, e⟩ := hk i q
      rw [e, nI_clamp (by omega)]; exact hk1
    · exact hg)
  have h3 : (if i < 8 then (chA (zka v) x i).toNatClampNeg else g) = (if j < 8 then (chA (zka v) x j).toNatClampNeg else g) := h3
  rw [if_pos (by omega)] at h3
  by_cases hj : j < 8
  · rw [if_pos hj] at h3
    have h4 := (chA_rk hi hrk hx i (j - i) (fun t ht => (h t (by omega)).1)).2 (by omega)
    rw [show i + (j - i) = j by omega, h3] at h4
    exact Nat.lt_irrefl _ h4
  · rw [if_neg hj] at h3
    obtain ⟨k, hk1, e⟩ := hk i (by omega)
    rw [e, nI_clamp (by omega)] at h3
    exact (h i (by omega)).2 (by rw [e, h3])
theorem reaU_yes {v : St} {x g : Int32} {n : Nat} (h : chA (zka v) x n = g) (hb : ∀ j, j < n → chA (zka v) x j ≠ -1) : reaU v x g := ⟨n, h, hb⟩
theorem reaU_no {v : St} {x g : Int32} {n : Nat} (hg : g ≠ -1) (h : chA (zka v) x n = -1) (hb : ∀ j, j < n → chA (zka v) x j ≠ g) : ¬ reaU v x g := by
  rintro ⟨m, h1, h2⟩
  rcases Nat.lt_trichotomy m n with q | q | q
  · exact hb m q h1
  · subst q; exact hg (h1.symm.trans h)
  · exact h2 n q h
/-! answers -/
def suF (x : Int64) : Int64 := if -1000000000 ≤ x ∧ x ≤ 1000000000 then x else -9000000000009
def anF (v : St) (k j n : Nat) (a : Int32) : Int64 :=
  if zmd v (k * 8 + n) = 1 then (zas v (k * 8 + n)).toInt64 * (nI j).toInt64 + (zbs v (k * 8 + n)).toInt64
  else if zmd v (k * 8 + n) = 2 then suF ((zsm v (k * 30 + j)).toInt64 + a.toInt64 * (zas v (k * 8 + n)).toInt64 + (zbs v (k * 8 + n)).toInt64)
  else if zmd v (k * 8 + n) = 3 then (zsm v (k * 30 + j)).toInt64 * (zas v (k * 8 + n)).toInt64 + (zbs v (k * 8 + n)).toInt64 + a.toInt64
  else if zmd v (k * 8 + n) = 4 then -9000000000000 - (1 + ((zas v (k * 8 + n)).toInt64 &&& 7))
  else if zmd v (k * 8 + n) = 5 then (if a = 0 then -9000000000010 else (zsm v (k * 30 + j)).toInt64 / a.toInt64 + (zbs v (k * 8 + n)).toInt64)
  else if zmd v (k * 8 + n) = 6 then (if zka v k = -1 then -9000000000011 else suF ((zsm v ((zka v k).toNatClampNeg * 30 + (zab v (k * 30 + j)).toNatClampNeg)).toInt64 + a.toInt64))
  else (if 0 < onC v (nI k) (nI j) 8 then -9000000000012 else (nI (opC v k (mN v k)) - 1).toInt64)
/-- a verb's call that is known -/
def okC (v : St) (x y z : Int32) : Prop := ∃ k j n, k < 8 ∧ j < mN v k ∧ n < 8 ∧ x = nI k ∧ y = nI j ∧ z = nI n ∧ zmd v (k * 8 + n) ≠ 0
def aOk (a : Int32) : Prop := -1000000 ≤ a ∧ a ≤ 1000000
theorem aOk_iff {a : Int32} : (-1000000 ≤ a.toInt64 ∧ a.toInt64 ≤ 1000000) ↔ aOk a := by
  unfold aOk
  rw [Int64.le_iff_toInt_le, Int64.le_iff_toInt_le, Int32.le_iff_toInt_le, Int32.le_iff_toInt_le, Int32.toInt_toInt64]
  exact Iff.rfl
end
section
theorem slA_post {v : St} {k j : Nat} {r : Int32} (hi : Inv v) (hk : k < 8) (hj : j < mN v k) (h : (r = -1 ∧ ¬ isS v (zka v k) (zab v (k * 30 + j))) ∨ ∃ k2 j2, k2 < 8 ∧ j2 < mN v k2 ∧ zka v k = nI k2 ∧ zab v (k * 30 + j) = nI j2 ∧ r = nI (k2 * 30 + j2)) : (r = -1 ∧ zka v k = -1) ∨ ∃ k2 j2, k2 < 8 ∧ j2 < mN v k2 ∧ zka v k = nI k2 ∧ zab v (k * 30 + j) = nI j2 ∧ r = nI (k2 * 30 + j2) := by
  rcases h with ⟨h1, h2⟩ | h
  · rcases hi.ab k j hk hj with ⟨h3, _⟩ | ⟨k2, j2, a, b, c, d⟩
    · exact Or.inl ⟨h1, h3⟩
    · exact absurd ⟨k2, j2, a, b, c, d⟩ h2
  · exact Or.inr h
set_option maxHeartbeats 4000000 in
set_option maxRecDepth 100000 in
theorem c_d_isSubject (l : Launch) (dC : Nat → ClassId) (dI : Nat → Nat → Nat) (q : Nat → Nat) (cI cZ cB : ClassId) (v : St) (hi : Inv v) (x y : Int32) : Met l y_d_isSubject (Cond.code y_d_isSubject b_d_isSubject 3 (some .boolean) :: CW) { frames := 1, cells := 0, slots := 0, locals := 20 } (va_Pc [.ref (q 0), .int x, .int y] (RdC (dC, dI) (wC q cI cZ cB v) (tyC cI cZ cB))) (vp_Si (fun r : Int32 => (r = 1 ∧ isS v x y) ∨ (r = 0 ∧ ¬ isS v x y))) 0 0 (fun _ => False) := by
  refine cx_met (by decide) (Nat.le_of_ble_eq_true rfl) ?_
  intro p e s m below meth c hx hb hr hml hts hown hlocks hnm hC ls hl
  obtain ⟨hP, hK, hN⟩ := hC
  have hown : s.vm.findClass "ServiceDesk" = some m.cls := hown
  have hl : lv_has ls 3 [(0, .ref (q 0)), (1, .int x), (2, .int y)] := hl
  refine lv_iload_n hx hb z_d_isSubject_0 rfl (lv_at hl 1 rfl) ?_
  refine rdSi (As := [.int x]) (rest := []) ⟨hx, hb, hml, hown, hts⟩ (c_d_isKind l x) mw_151 mw_149 mw_150 mw_1 yd_d_isKind ⟨⟨rfl, rfl⟩, Nat.le_of_ble_eq_true rfl, Nat.le_of_ble_eq_true rfl⟩ ⟨Nat.zero_le _, Nat.zero_le _⟩ (pre_pure) rfl hl.1 rfl (Nat.le_of_ble_eq_true rfl) z_d_isSubject_1 (fun r_1 h_2 => ?_)
  rcases h_2 with ⟨rfl, h_2⟩ | ⟨rfl, h_2⟩
  · obtain ⟨k, hk, rfl⟩ := h_2
    refine lv_if_eq (tgt := 28) hx hb z_d_isSubject_4 (by decide) (fun c9 => absurd c9 (by decide)) (fun _ => ?_)
    refine lv_iload_n hx hb z_d_isSubject_7 rfl (lv_at hl 2 rfl) ?_
    refine lv_if_lt (tgt := 28) hx hb z_d_isSubject_8 (by decide) (fun c_8 => ?_) (fun c_8 => ?_)
    · refine lv_iconst (v := 0) hx hb z_d_isSubject_28 (by decide) ?_
      exact W.zret (v := 0) hx hb hr rfl (fun t ht _ => ⟨0, rfl, Or.inr ⟨rfl, isS_no2 hi c_8⟩, ht⟩) t_nil z_d_isSubject_29
    · refine lv_iload_n hx hb z_d_isSubject_11 rfl (lv_at hl 2 rfl) ?_
      refine lv_aload_n hx hb z_d_isSubject_12 rfl (lv_at hl 0 rfl) ?_
      refine va_get (D := (dC, dI)) (ci := 3) (v := .ref (q 6)) (C := R3) (T := T3) (N := 6) hx hb hts (cw_sub iC3) hown hK hP 0 rfl rfl 2 (by decide) (hts _ (cw_in mw_94 rfl)) (fun _ h9 => h9) rfl z_d_isSubject_13 ?_
      refine va_getN (D := (dC, dI)) (ci := 1) (v := .ref (q 7)) (C := R1) (T := T1) (N := 6) hx hb hts (cw_sub iC1) hown hK hP 6 rfl rfl 0 (by decide) (va_Nw.use rfl (hN _ nw_5)) (fun _ h9 => h9) rfl z_d_isSubject_16 ?_
      refine lv_iload_n hx hb z_d_isSubject_19 rfl (lv_at hl 1 rfl) ?_
      refine xa_i hx hb hK hP 7 0 rfl rfl (k := k) (y := nI (mN v k)) (hk) (by decide) ((hi.mk k hk).2) z_d_isSubject_20 ?_
      refine lv_icmp_ge (tgt := 28) hx hb z_d_isSubject_21 (by decide) (fun c_21 => ?_) (fun c_21 => ?_)
      · refine lv_iconst (v := 0) hx hb z_d_isSubject_28 (by decide) ?_
        exact W.zret (v := 0) hx hb hr rfl (fun t ht _ => ⟨0, rfl, Or.inr ⟨rfl, isS_no3 hi hk c_21⟩, ht⟩) t_nil z_d_isSubject_29
      · refine lv_iconst (v := 1) hx hb z_d_isSubject_24 (by decide) ?_
        refine lv_goto (tgt := 29) hx hb z_d_isSubject_25 (by decide) ?_
        exact W.zret (v := 1) hx hb hr rfl (fun t ht _ => ⟨1, rfl, Or.inl ⟨rfl, isS_yes hi hk c_8 c_21⟩, ht⟩) t_nil z_d_isSubject_29
  · refine lv_if_eq (tgt := 28) hx hb z_d_isSubject_4 (by decide) (fun _ => ?_) (fun c9 => absurd (by decide) c9)
    refine lv_iconst (v := 0) hx hb z_d_isSubject_28 (by decide) ?_
    exact W.zret (v := 0) hx hb hr rfl (fun t ht _ => ⟨0, rfl, Or.inr ⟨rfl, isS_no1 h_2⟩, ht⟩) t_nil z_d_isSubject_29

set_option maxHeartbeats 4000000 in
set_option maxRecDepth 100000 in
theorem c_d_canBeAbove (l : Launch) (dC : Nat → ClassId) (dI : Nat → Nat → Nat) (q : Nat → Nat) (cI cZ cB : ClassId) (v : St) (hi : Inv v) (k : Nat) (hk : k < 8) (a : Int32) : Met l y_d_canBeAbove (Cond.code y_d_canBeAbove b_d_canBeAbove 4 (some .boolean) :: CW) { frames := 2, cells := 0, slots := 0, locals := 45 } (va_Pc [.ref (q 0), .int (nI k), .int a] (RdC (dC, dI) (wC q cI cZ cB v) (tyC cI cZ cB))) (vp_Si (fun r : Int32 => (r = 1 ∧ canA v k a) ∨ (r = 0 ∧ ¬ canA v k a))) 0 0 (fun _ => False) := by
  refine cx_met (by decide) (Nat.le_of_ble_eq_true rfl) ?_
  intro p e s m below meth c hx hb hr hml hts hown hlocks hnm hC ls hl
  obtain ⟨hP, hK, hN⟩ := hC
  have hown : s.vm.findClass "ServiceDesk" = some m.cls := hown
  have hl : lv_has ls 4 [(0, .ref (q 0)), (1, .int (nI k)), (2, .int a)] := hl
  refine lv_aload_n hx hb z_d_canBeAbove_0 rfl (lv_at hl 0 rfl) ?_
  refine va_get (D := (dC, dI)) (ci := 3) (v := .ref (q 1)) (C := R3) (T := T3) (N := 6) hx hb hts (cw_sub iC3) hown hK hP 0 rfl rfl 0 (by decide) (hts _ (cw_in mw_92 rfl)) (fun _ h9 => h9) rfl z_d_canBeAbove_1 ?_
  refine lv_iload_n hx hb z_d_canBeAbove_4 rfl (lv_at hl 1 rfl) ?_
  refine xa_i hx hb hK hP 1 0 rfl rfl (k := k) (y := zka v k) (hk) (by decide) (rfl) z_d_canBeAbove_5 ?_
  refine lv_istore_n (lv' := [(3, .int (zka v k)), (0, .ref (q 0)), (1, .int (nI k)), (2, .int a)]) hx hb z_d_canBeAbove_6 rfl hl (by decide) rfl (fun ls hl => ?_)
  refine lv_iload_n hx hb z_d_canBeAbove_7 rfl (lv_at hl 0 rfl) ?_
  refine lv_iconst (v := (-1)) hx hb z_d_canBeAbove_8 (by decide) ?_
  refine lv_icmp_ne (tgt := 25) hx hb z_d_canBeAbove_9 (by decide) (fun c_9 => ?_) (fun c_9 => ?_)
  · refine lv_aload_n hx hb z_d_canBeAbove_25 rfl (lv_at hl 1 rfl) ?_
    refine lv_iload_n hx hb z_d_canBeAbove_26 rfl (lv_at hl 0 rfl) ?_
    refine lv_iload_n hx hb z_d_canBeAbove_27 rfl (lv_at hl 3 rfl) ?_
    refine rdVi (As := [.int (zka v k), .int a]) (rest := []) ⟨hx, hb, hml, hown, hts⟩ (c_d_isSubject l dC dI q cI cZ cB v hi (zka v k) a) mw_255 mw_252 mw_254 mp_7 mw_1 rfl yd_d_isSubject ⟨⟨rfl, rfl⟩, Nat.le_of_ble_eq_true rfl, Nat.le_of_ble_eq_true rfl⟩ ⟨Nat.zero_le _, Nat.zero_le _⟩ (RdC.preV hP hK hN (ci := 3) (q0 := 0) rfl rfl) rfl hl.1 rfl (Nat.le_of_ble_eq_true rfl) z_d_canBeAbove_28 (fun r_1 h_2 => ?_)
    rcases h_2 with ⟨rfl, h_2⟩ | ⟨rfl, h_2⟩
    · exact W.zret (v := 1) hx hb hr rfl (fun t ht _ => ⟨1, rfl, Or.inl ⟨rfl, Or.inr ⟨c_9, h_2⟩⟩, ht⟩) t_nil z_d_canBeAbove_31
    · exact W.zret (v := 0) hx hb hr rfl (fun t ht _ => ⟨0, rfl, Or.inr ⟨rfl, fun h => h.elim (fun z => c_9 z.1) (fun z => h_2 z.2)⟩, ht⟩) t_nil z_d_canBeAbove_31
  · refine lv_iload_n hx hb z_d_canBeAbove_12 rfl (lv_at hl 3 rfl) ?_
    refine lv_iconst (v := (-1)) hx hb z_d_canBeAbove_13 (by decide) ?_
    refine lv_icmp_ne (tgt := 21) hx hb z_d_canBeAbove_14 (by decide) (fun c_14 => ?_) (fun c_14 => ?_)
    · refine lv_iconst (v := 0) hx hb z_d_canBeAbove_21 (by decide) ?_
      refine lv_goto (tgt := 31) hx hb z_d_canBeAbove_22 (by decide) ?_
      exact W.zret (v := 0) hx hb hr rfl (fun t ht _ => ⟨0, rfl, Or.inr ⟨rfl, fun h => h.elim (fun z => c_14 z.2) (fun z => z.1 c_9)⟩, ht⟩) t_nil z_d_canBeAbove_31
    · refine lv_iconst (v := 1) hx hb z_d_canBeAbove_17 (by decide) ?_
      refine lv_goto (tgt := 31) hx hb z_d_canBeAbove_18 (by decide) ?_
      exact W.zret (v := 1) hx hb hr rfl (fun t ht _ => ⟨1, rfl, Or.inl ⟨rfl, Or.inl ⟨c_9, c_14⟩⟩, ht⟩) t_nil z_d_canBeAbove_31

set_option maxHeartbeats 4000000 in
set_option maxRecDepth 100000 in
theorem c_d_isAtOrUnder (l : Launch) (dC : Nat → ClassId) (dI : Nat → Nat → Nat) (q : Nat → Nat) (cI cZ cB : ClassId) (v : St) (hi : Inv v) (x : Int32) (hx9 : x = -1 ∨ isK x) (g : Nat) (hg : g < 8) : Met l y_d_isAtOrUnder (Cond.code y_d_isAtOrUnder b_d_isAtOrUnder 5 (some .boolean) :: CW) { frames := 0, cells := 0, slots := 0, locals := 0 } (va_Pc [.ref (q 0), .int x, .int (nI g)] (RdC (dC, dI) (wC q cI cZ cB v) (tyC cI cZ cB))) (vp_Si (fun r : Int32 => (r = 1 ∧ reaU v x (nI g)) ∨ (r = 0 ∧ ¬ reaU v x (nI g)))) 0 0 (fun _ => False) := by
  refine cx_met (by decide) (Nat.le_of_ble_eq_true rfl) ?_
  intro p e s m below meth c hx hb hr hml hts hown hlocks hnm hC ls hl
  obtain ⟨hP, hK, hN⟩ := hC
  have hown : s.vm.findClass "ServiceDesk" = some m.cls := hown
  have hl : lv_has ls 5 [(0, .ref (q 0)), (1, .int x), (2, .int (nI g))] := hl
  refine lv_iload_n hx hb z_d_isAtOrUnder_0 rfl (lv_at hl 1 rfl) ?_
  refine lv_istore_n (lv' := [(3, .int x), (0, .ref (q 0)), (1, .int x), (2, .int (nI g))]) hx hb z_d_isAtOrUnder_1 rfl hl (by decide) rfl (fun ls hl => ?_)
  refine lv_iconst (v := 0) hx hb z_d_isAtOrUnder_2 (by decide) ?_
  refine lv_istore (lv' := [(4, .int 0), (3, .int x), (0, .ref (q 0)), (1, .int x), (2, .int (nI g))]) hx hb z_d_isAtOrUnder_3 hl (by decide) rfl (fun ls hl => ?_)
  refine rd_loopI (nL := 5) (8) (fun i => ∀ j, j < i → chA (zka v) x j ≠ -1 ∧ chA (zka v) x j ≠ nI g) (fun i => [(0, .ref (q 0)), (1, .int x), (2, .int (nI g)), (3, .int (chA (zka v) x i)), (4, .int (nI i))]) ?_ ls (fun j h => absurd h (Nat.not_lt_zero j)) (lv_sub hl [2, 3, 4, 1, 0] rfl)
  intro i ls hle hI hl ih
  have hl : lv_has ls 5 [(0, .ref (q 0)), (1, .int x), (2, .int (nI g)), (3, .int (chA (zka v) x i)), (4, .int (nI i))] := hl
  refine lv_iload hx hb z_d_isAtOrUnder_5 (lv_at hl 4 rfl) ?_
  refine lv_bipush (v := 8) hx hb z_d_isAtOrUnder_7 (by decide) ?_
  refine lv_icmp_ge (tgt := 37) hx hb z_d_isAtOrUnder_9 (by decide) (fun c_9 => ?_) (fun c_9 => ?_)
  · refine lv_iconst (v := 0) hx hb z_d_isAtOrUnder_37 (by decide) ?_
    exact W.zret (v := 0) hx hb hr rfl (fun t ht _ => ⟨0, rfl, (chA_end hi hx9 hg (fun j hj => hI j (by have := eq_of_nle hle (by decide) c_9; omega))).elim, ht⟩) t_nil z_d_isAtOrUnder_38
  · have hlt : i < 8 := nlt_of (b := 8) (by omega) c_9
    refine lv_iload_n hx hb z_d_isAtOrUnder_12 rfl (lv_at hl 3 rfl) ?_
    refine lv_iconst (v := (-1)) hx hb z_d_isAtOrUnder_13 (by decide) ?_
    refine lv_icmp_eq (tgt := 37) hx hb z_d_isAtOrUnder_14 (by decide) (fun c_14 => ?_) (fun c_14 => ?_)
    · refine lv_iconst (v := 0) hx hb z_d_isAtOrUnder_37 (by decide) ?_
      exact W.zret (v := 0) hx hb hr rfl (fun t ht _ => ⟨0, rfl, Or.inr ⟨rfl, reaU_no (fun z => nI_pos (n := g) (by omega) (by rw [z]; decide)) c_14 (fun j hj => (hI j hj).2)⟩, ht⟩) t_nil z_d_isAtOrUnder_38
    · refine lv_iload_n hx hb z_d_isAtOrUnder_17 rfl (lv_at hl 3 rfl) ?_
      refine lv_iload_n hx hb z_d_isAtOrUnder_18 rfl (lv_at hl 2 rfl) ?_
      refine lv_icmp_ne (tgt := 24) hx hb z_d_isAtOrUnder_19 (by decide) (fun c_19 => ?_) (fun c_19 => ?_)
      · obtain ⟨k, hk, e9⟩ := (chA_kind hi hx9 i (fun j hj => (hI j hj).1)).resolve_left c_14
        have e8 : chA (zka v) x (i + 1) = zka v k := by show zka v (chA (zka v) x i).toNatClampNeg = _; rw [e9, nI_clamp (by omega)]
        rw [e9] at hl
        refine lv_aload_n hx hb z_d_isAtOrUnder_24 rfl (lv_at hl 0 rfl) ?_
        refine va_get (D := (dC, dI)) (ci := 3) (v := .ref (q 1)) (C := R3) (T := T3) (N := 6) hx hb hts (cw_sub iC3) hown hK hP 0 rfl rfl 0 (by decide) (hts _ (cw_in mw_92 rfl)) (fun _ h9 => h9) rfl z_d_isAtOrUnder_25 ?_
        refine lv_iload_n hx hb z_d_isAtOrUnder_28 rfl (lv_at hl 3 rfl) ?_
        refine xa_i hx hb hK hP 1 0 rfl rfl (k := k) (y := chA (zka v) x (i + 1)) (hk) (by decide) (e8.symm) z_d_isAtOrUnder_29 ?_
        refine lv_istore_n (lv' := [(3, .int (chA (zka v) x (i + 1))), (0, .ref (q 0)), (1, .int x), (2, .int (nI g)), (4, .int (nI i))]) hx hb z_d_isAtOrUnder_30 rfl hl (by decide) rfl (fun ls hl => ?_)
        refine lv_iinc (v := nI (i + 1)) (lv' := [(4, .int (nI (i + 1))), (3, .int (chA (zka v) x (i + 1))), (0, .ref (q 0)), (1, .int x), (2, .int (nI g))]) hx hb z_d_isAtOrUnder_31 hl (k := 4) rfl (by exact nI_1 i) (by decide) rfl (fun ls hl => ?_)
        refine lv_goto (tgt := 5) hx hb z_d_isAtOrUnder_34 (by decide) ?_
        exact ih ls hlt (fun j hj => (Nat.lt_succ_iff_lt_or_eq.mp hj).elim (fun h => hI j h) (fun h => by rw [h]; exact ⟨c_14, c_19⟩)) (lv_sub hl [2, 3, 4, 1, 0] rfl)
      · refine lv_iconst (v := 1) hx hb z_d_isAtOrUnder_22 (by decide) ?_
        exact W.zret (v := 1) hx hb hr rfl (fun t ht _ => ⟨1, rfl, Or.inl ⟨rfl, reaU_yes c_19 (fun j hj => (hI j hj).1)⟩, ht⟩) t_nil z_d_isAtOrUnder_23

set_option maxHeartbeats 4000000 in
set_option maxRecDepth 100000 in
theorem c_d_slotOrNone (l : Launch) (dC : Nat → ClassId) (dI : Nat → Nat → Nat) (q : Nat → Nat) (cI cZ cB : ClassId) (v : St) (hi : Inv v) (x y : Int32) : Met l y_d_slotOrNone (Cond.code y_d_slotOrNone b_d_slotOrNone 3 (some .int) :: CW) { frames := 2, cells := 0, slots := 0, locals := 45 } (va_Pc [.ref (q 0), .int x, .int y] (RdC (dC, dI) (wC q cI cZ cB v) (tyC cI cZ cB))) (vp_Si (fun r : Int32 => (r = -1 ∧ ¬ isS v x y) ∨ ∃ k j, k < 8 ∧ j < mN v k ∧ x = nI k ∧ y = nI j ∧ r = nI (k * 30 + j))) 0 0 (fun _ => False) := by
  refine cx_met (by decide) (Nat.le_of_ble_eq_true rfl) ?_
  intro p e s m below meth c hx hb hr hml hts hown hlocks hnm hC ls hl
  obtain ⟨hP, hK, hN⟩ := hC
  have hown : s.vm.findClass "ServiceDesk" = some m.cls := hown
  have hl : lv_has ls 3 [(0, .ref (q 0)), (1, .int x), (2, .int y)] := hl
  refine lv_aload_n hx hb z_d_slotOrNone_0 rfl (lv_at hl 0 rfl) ?_
  refine lv_iload_n hx hb z_d_slotOrNone_1 rfl (lv_at hl 1 rfl) ?_
  refine lv_iload_n hx hb z_d_slotOrNone_2 rfl (lv_at hl 2 rfl) ?_
  refine rdVi (As := [.int x, .int y]) (rest := []) ⟨hx, hb, hml, hown, hts⟩ (c_d_isSubject l dC dI q cI cZ cB v hi x y) mw_255 mw_252 mw_254 mp_7 mw_1 rfl yd_d_isSubject ⟨⟨rfl, rfl⟩, Nat.le_of_ble_eq_true rfl, Nat.le_of_ble_eq_true rfl⟩ ⟨Nat.zero_le _, Nat.zero_le _⟩ (RdC.preV hP hK hN (ci := 3) (q0 := 0) rfl rfl) rfl hl.1 rfl (Nat.le_of_ble_eq_true rfl) z_d_slotOrNone_3 (fun r_1 h_2 => ?_)
  rcases h_2 with ⟨rfl, h_2⟩ | ⟨rfl, h_2⟩
  · obtain ⟨k, j, hk, hj, rfl, rfl⟩ := h_2
    refine lv_if_eq (tgt := 17) hx hb z_d_slotOrNone_6 (by decide) (fun c9 => absurd c9 (by decide)) (fun _ => ?_)
    refine lv_iload_n hx hb z_d_slotOrNone_9 rfl (lv_at hl 1 rfl) ?_
    refine lv_iload_n hx hb z_d_slotOrNone_10 rfl (lv_at hl 2 rfl) ?_
    refine rdSi (As := [.int (nI k), .int (nI j)]) (rest := []) ⟨hx, hb, hml, hown, hts⟩ (c_d_slotOf l k j) mw_125 mw_261 mw_124 mw_1 yd_d_slotOf ⟨⟨rfl, rfl⟩, Nat.le_of_ble_eq_true rfl, Nat.le_of_ble_eq_true rfl⟩ ⟨Nat.zero_le _, Nat.zero_le _⟩ (pre_pure) rfl hl.1 rfl (Nat.le_of_ble_eq_true rfl) z_d_slotOrNone_11 (fun r_3 h_4 => ?_)
    subst h_4
    refine lv_goto (tgt := 18) hx hb z_d_slotOrNone_14 (by decide) ?_
    exact W.iret (v := nI (k * 30 + j)) hx hb hr (fun t ht _ => ⟨nI (k * 30 + j), rfl, Or.inr ⟨k, j, hk, hj, rfl, rfl, rfl⟩, ht⟩) t_nil z_d_slotOrNone_18
  · refine lv_if_eq (tgt := 17) hx hb z_d_slotOrNone_6 (by decide) (fun _ => ?_) (fun c9 => absurd (by decide) c9)
    refine lv_iconst (v := (-1)) hx hb z_d_slotOrNone_17 (by decide) ?_
    exact W.iret (v := (-1)) hx hb hr (fun t ht _ => ⟨(-1), rfl, Or.inl ⟨rfl, h_2⟩, ht⟩) t_nil z_d_slotOrNone_18

set_option maxHeartbeats 4000000 in
set_option maxRecDepth 100000 in
theorem c_d_slotAbove (l : Launch) (dC : Nat → ClassId) (dI : Nat → Nat → Nat) (q : Nat → Nat) (cI cZ cB : ClassId) (v : St) (hi : Inv v) (k j : Nat) (hk : k < 8) (hj : j < mN v k) : Met l y_d_slotAbove (Cond.code y_d_slotAbove b_d_slotAbove 3 (some .int) :: CW) { frames := 3, cells := 0, slots := 0, locals := 70 } (va_Pc [.ref (q 0), .int (nI k), .int (nI j)] (RdC (dC, dI) (wC q cI cZ cB v) (tyC cI cZ cB))) (vp_Si (fun r : Int32 => (r = -1 ∧ zka v k = -1) ∨ ∃ k2 j2, k2 < 8 ∧ j2 < mN v k2 ∧ zka v k = nI k2 ∧ zab v (k * 30 + j) = nI j2 ∧ r = nI (k2 * 30 + j2))) 0 0 (fun _ => False) := by
  refine cx_met (by decide) (Nat.le_of_ble_eq_true rfl) ?_
  intro p e s m below meth c hx hb hr hml hts hown hlocks hnm hC ls hl
  obtain ⟨hP, hK, hN⟩ := hC
  have hown : s.vm.findClass "ServiceDesk" = some m.cls := hown
  have hl : lv_has ls 3 [(0, .ref (q 0)), (1, .int (nI k)), (2, .int (nI j))] := hl
  have hM := (hi.mk k hk).1
  refine lv_aload_n hx hb z_d_slotAbove_0 rfl (lv_at hl 0 rfl) ?_
  refine lv_aload_n hx hb z_d_slotAbove_1 rfl (lv_at hl 0 rfl) ?_
  refine va_get (D := (dC, dI)) (ci := 3) (v := .ref (q 1)) (C := R3) (T := T3) (N := 6) hx hb hts (cw_sub iC3) hown hK hP 0 rfl rfl 0 (by decide) (hts _ (cw_in mw_92 rfl)) (fun _ h9 => h9) rfl z_d_slotAbove_2 ?_
  refine lv_iload_n hx hb z_d_slotAbove_5 rfl (lv_at hl 1 rfl) ?_
  refine xa_i hx hb hK hP 1 0 rfl rfl (k := k) (y := zka v k) (hk) (by decide) (rfl) z_d_slotAbove_6 ?_
  refine lv_aload_n hx hb z_d_slotAbove_7 rfl (lv_at hl 0 rfl) ?_
  refine va_get (D := (dC, dI)) (ci := 3) (v := .ref (q 6)) (C := R3) (T := T3) (N := 6) hx hb hts (cw_sub iC3) hown hK hP 0 rfl rfl 2 (by decide) (hts _ (cw_in mw_94 rfl)) (fun _ h9 => h9) rfl z_d_slotAbove_8 ?_
  refine va_getN (D := (dC, dI)) (ci := 1) (v := .ref (q 8)) (C := R1) (T := T1) (N := 6) hx hb hts (cw_sub iC1) hown hK hP 6 rfl rfl 1 (by decide) (va_Nw.use rfl (hN _ nw_6)) (fun _ h9 => h9) rfl z_d_slotAbove_11 ?_
  refine lv_iload_n hx hb z_d_slotAbove_14 rfl (lv_at hl 1 rfl) ?_
  refine lv_iload_n hx hb z_d_slotAbove_15 rfl (lv_at hl 2 rfl) ?_
  refine rdSi (As := [.int (nI k), .int (nI j)]) (rest := [.ref (q 8), .int (zka v k), .ref (q 0)]) ⟨hx, hb, hml, hown, hts⟩ (c_d_slotOf l k j) mw_125 mw_261 mw_124 mw_1 yd_d_slotOf ⟨⟨rfl, rfl⟩, Nat.le_of_ble_eq_true rfl, Nat.le_of_ble_eq_true rfl⟩ ⟨Nat.zero_le _, Nat.zero_le _⟩ (pre_pure) rfl hl.1 rfl (Nat.le_of_ble_eq_true rfl) z_d_slotAbove_16 (fun r_1 h_2 => ?_)
  subst h_2
  refine xa_i hx hb hK hP 8 0 rfl rfl (k := (k * 30 + j)) (y := zab v (k * 30 + j)) (by omega) (by decide) (rfl) z_d_slotAbove_19 ?_
  refine rdVi (As := [.int (zka v k), .int (zab v (k * 30 + j))]) (rest := []) ⟨hx, hb, hml, hown, hts⟩ (c_d_slotOrNone l dC dI q cI cZ cB v hi (zka v k) (zab v (k * 30 + j))) mw_260 mw_257 mw_259 mp_8 mw_1 rfl yd_d_slotOrNone ⟨⟨rfl, rfl⟩, Nat.le_of_ble_eq_true rfl, Nat.le_of_ble_eq_true rfl⟩ ⟨Nat.zero_le _, Nat.zero_le _⟩ (RdC.preV hP hK hN (ci := 3) (q0 := 0) rfl rfl) rfl hl.1 rfl (Nat.le_of_ble_eq_true rfl) z_d_slotAbove_20 (fun r_3 h_4 => ?_)
  exact W.iret (v := r_3) hx hb hr (fun t ht _ => ⟨r_3, rfl, slA_post hi hk hj h_4, ht⟩) t_nil z_d_slotAbove_23

set_option maxHeartbeats 4000000 in
set_option maxRecDepth 100000 in
theorem c_s_byteAt (l : Launch) (dC : Nat → ClassId) (dI : Nat → Nat → Nat) (q : Nat → Nat) (cI cZ cB : ClassId) (v : St) (g i : Nat) (h9 : g * 16 + i < 3840) : Met l y_s_byteAt (Cond.code y_s_byteAt b_s_byteAt 3 (some .int) :: CW) { frames := 0, cells := 0, slots := 0, locals := 0 } (va_Pc [.ref (q 6), .int (nI g), .int (nI i)] (RdC (dC, dI) (wC q cI cZ cB v) (tyC cI cZ cB))) (vp_Si (fun r : Int32 => r = ztx v (g * 16 + i) &&& 255)) 0 0 (fun _ => False) := by
  refine cx_met (by decide) (Nat.le_of_ble_eq_true rfl) ?_
  intro p e s m below meth c hx hb hr hml hts hown hlocks hnm hC ls hl
  obtain ⟨hP, hK, hN⟩ := hC
  have hown : s.vm.findClass "ServiceDesk$Subjects" = some m.cls := hown
  have hl : lv_has ls 3 [(0, .ref (q 6)), (1, .int (nI g)), (2, .int (nI i))] := hl
  refine lv_aload_n hx hb z_s_byteAt_0 rfl (lv_at hl 0 rfl) ?_
  refine va_get (D := (dC, dI)) (ci := 1) (v := .ref (q 12)) (C := R1) (T := T1) (N := 6) hx hb hts (cw_sub iC1) hown hK hP 6 rfl rfl 5 (by decide) (hts _ (cw_in mw_58 rfl)) (fun _ h9 => h9) rfl z_s_byteAt_1 ?_
  refine lv_iload_n hx hb z_s_byteAt_4 rfl (lv_at hl 1 rfl) ?_
  refine lv_bipush (v := 16) hx hb z_s_byteAt_5 (by decide) ?_
  refine lv_imul hx hb z_s_byteAt_7 ?_
  refine lv_iload_n hx hb z_s_byteAt_8 rfl (lv_at hl 2 rfl) ?_
  refine lv_iadd hx hb z_s_byteAt_9 ?_
  rw [mul16_nI]
  refine xa_b hx hb hK hP 12 2 rfl rfl (k := (g * 16 + i)) (y := ztx v (g * 16 + i)) (h9) (by decide) (rfl) z_s_byteAt_10 ?_
  refine lv_sipush (v := 255) hx hb z_s_byteAt_11 (by decide) ?_
  refine lv_iand hx hb z_s_byteAt_14 ?_
  exact W.iret (v := (ztx v (g * 16 + i)) &&& 255) hx hb hr (fun t ht _ => ⟨(ztx v (g * 16 + i)) &&& 255, rfl, rfl, ht⟩) t_nil z_s_byteAt_15

set_option maxHeartbeats 4000000 in
set_option maxRecDepth 100000 in
theorem c_s_openOf (l : Launch) (dC : Nat → ClassId) (dI : Nat → Nat → Nat) (q : Nat → Nat) (cI cZ cB : ClassId) (v : St) (hi : Inv v) (k : Nat) (hk : k < 8) : Met l y_s_openOf (Cond.code y_s_openOf b_s_openOf 4 (some .int) :: CW) { frames := 1, cells := 0, slots := 0, locals := 21 } (va_Pc [.ref (q 6), .int (nI k)] (RdC (dC, dI) (wC q cI cZ cB v) (tyC cI cZ cB))) (vp_Si (fun r : Int32 => r = nI (opC v k (mN v k)))) 0 0 (fun _ => False) := by
  refine cx_met (by decide) (Nat.le_of_ble_eq_true rfl) ?_
  intro p e s m below meth c hx hb hr hml hts hown hlocks hnm hC ls hl
  obtain ⟨hP, hK, hN⟩ := hC
  have hown : s.vm.findClass "ServiceDesk$Subjects" = some m.cls := hown
  have hl : lv_has ls 4 [(0, .ref (q 6)), (1, .int (nI k))] := hl
  have hM := (hi.mk k hk).1
  refine lv_iconst (v := 0) hx hb z_s_openOf_0 (by decide) ?_
  refine lv_istore_n (lv' := [(2, .int 0), (0, .ref (q 6)), (1, .int (nI k))]) hx hb z_s_openOf_1 rfl hl (by decide) rfl (fun ls hl => ?_)
  refine lv_iconst (v := 0) hx hb z_s_openOf_2 (by decide) ?_
  refine lv_istore_n (lv' := [(3, .int 0), (2, .int 0), (0, .ref (q 6)), (1, .int (nI k))]) hx hb z_s_openOf_3 rfl hl (by decide) rfl (fun ls hl => ?_)
  refine rd_loopI (nL := 4) (mN v k) (fun _ => True) (fun i => [(0, .ref (q 6)), (1, .int (nI k)), (2, .int (nI (opC v k i))), (3, .int (nI i))]) ?_ ls trivial (lv_sub hl [2, 3, 1, 0] rfl)
  intro i ls hle hI hl ih
  have hl : lv_has ls 4 [(0, .ref (q 6)), (1, .int (nI k)), (2, .int (nI (opC v k i))), (3, .int (nI i))] := hl
  refine lv_iload_n hx hb z_s_openOf_4 rfl (lv_at hl 3 rfl) ?_
  refine lv_aload_n hx hb z_s_openOf_5 rfl (lv_at hl 0 rfl) ?_
  refine va_get (D := (dC, dI)) (ci := 1) (v := .ref (q 7)) (C := R1) (T := T1) (N := 6) hx hb hts (cw_sub iC1) hown hK hP 6 rfl rfl 0 (by decide) (hts _ (cw_in mw_48 rfl)) (fun _ h9 => h9) rfl z_s_openOf_6 ?_
  refine lv_iload_n hx hb z_s_openOf_9 rfl (lv_at hl 1 rfl) ?_
  refine xa_i hx hb hK hP 7 0 rfl rfl (k := k) (y := nI (mN v k)) (hk) (by decide) ((hi.mk k hk).2) z_s_openOf_10 ?_
  refine lv_icmp_ge (tgt := 36) hx hb z_s_openOf_11 (by decide) (fun c_11 => ?_) (fun c_11 => ?_)
  · refine lv_iload_n hx hb z_s_openOf_36 rfl (lv_at hl 2 rfl) ?_
    exact W.iret (v := nI (opC v k i)) hx hb hr (fun t ht _ => ⟨nI (opC v k i), rfl, by rw [eq_of_nle hle (by omega) c_11], ht⟩) t_nil z_s_openOf_37
  · have hlt : i < mN v k := nlt_of (by omega) c_11
    refine lv_aload_n hx hb z_s_openOf_14 rfl (lv_at hl 0 rfl) ?_
    refine va_get (D := (dC, dI)) (ci := 1) (v := .ref (q 9)) (C := R1) (T := T1) (N := 6) hx hb hts (cw_sub iC1) hown hK hP 6 rfl rfl 2 (by decide) (hts _ (cw_in mw_52 rfl)) (fun _ h9 => h9) rfl z_s_openOf_15 ?_
    refine lv_iload_n hx hb z_s_openOf_18 rfl (lv_at hl 1 rfl) ?_
    refine lv_iload_n hx hb z_s_openOf_19 rfl (lv_at hl 3 rfl) ?_
    refine rdSNi (As := [.int (nI k), .int (nI i)]) (rest := [.ref (q 9)]) ⟨hx, hb, hml, hown, hts⟩ (c_d_slotOf l k i) mw_125 (hN _ nw_14) mw_124 mw_1 yd_d_slotOf ⟨⟨rfl, rfl⟩, Nat.le_of_ble_eq_true rfl, Nat.le_of_ble_eq_true rfl⟩ ⟨Nat.zero_le _, Nat.zero_le _⟩ (pre_pure) rfl hl.1 rfl (Nat.le_of_ble_eq_true rfl) z_s_openOf_20 (fun r_1 h_2 => ?_)
    subst h_2
    refine xa_z hx hb hK hP 9 1 rfl rfl (k := (k * 30 + i)) (y := zop v (k * 30 + i)) (by omega) (by decide) (rfl) z_s_openOf_23 ?_
    refine lv_if_eq (tgt := 30) hx hb z_s_openOf_24 (by decide) (fun c_24 => ?_) (fun c_24 => ?_)
    · refine lv_iinc (v := nI (i + 1)) (lv' := [(3, .int (nI (i + 1))), (0, .ref (q 6)), (1, .int (nI k)), (2, .int (nI (opC v k i)))]) hx hb z_s_openOf_30 hl (k := 3) rfl (by exact nI_1 i) (by decide) rfl (fun ls hl => ?_)
      refine lv_goto (tgt := 4) hx hb z_s_openOf_33 (by decide) ?_
      exact ih ls hlt trivial (by show lv_has ls 4 [(0, .ref (q 6)), (1, .int (nI k)), (2, .int (nI (opC v k (i + 1)))), (3, .int (nI (i + 1)))]; rw [opC_0 c_24]; exact lv_sub hl [1, 2, 3, 0] rfl)
    · refine lv_iinc (v := nI (opC v k i + 1)) (lv' := [(2, .int (nI (opC v k i + 1))), (0, .ref (q 6)), (1, .int (nI k)), (3, .int (nI i))]) hx hb z_s_openOf_27 hl (k := 2) rfl (by exact nI_1 _) (by decide) rfl (fun ls hl => ?_)
      refine lv_iinc (v := nI (i + 1)) (lv' := [(3, .int (nI (i + 1))), (2, .int (nI (opC v k i + 1))), (0, .ref (q 6)), (1, .int (nI k))]) hx hb z_s_openOf_30 hl (k := 3) rfl (by exact nI_1 i) (by decide) rfl (fun ls hl => ?_)
      refine lv_goto (tgt := 4) hx hb z_s_openOf_33 (by decide) ?_
      exact ih ls hlt trivial (by show lv_has ls 4 [(0, .ref (q 6)), (1, .int (nI k)), (2, .int (nI (opC v k (i + 1)))), (3, .int (nI (i + 1)))]; rw [opC_1 c_24]; exact lv_sub hl [2, 3, 1, 0] rfl)

set_option maxHeartbeats 4000000 in
set_option maxRecDepth 100000 in
theorem c_s_openUnder (l : Launch) (dC : Nat → ClassId) (dI : Nat → Nat → Nat) (q : Nat → Nat) (cI cZ cB : ClassId) (v : St) (hi : Inv v) (k : Nat) (hk : k < 8) (a : Int32) : Met l y_s_openUnder (Cond.code y_s_openUnder b_s_openUnder 6 (some .int) :: CW) { frames := 1, cells := 0, slots := 0, locals := 21 } (va_Pc [.ref (q 6), .int (nI k), .int a] (RdC (dC, dI) (wC q cI cZ cB v) (tyC cI cZ cB))) (vp_Si (fun r : Int32 => r = nI (unC v k a (mN v k)))) 0 0 (fun _ => False) := by
  refine cx_met (by decide) (Nat.le_of_ble_eq_true rfl) ?_
  intro p e s m below meth c hx hb hr hml hts hown hlocks hnm hC ls hl
  obtain ⟨hP, hK, hN⟩ := hC
  have hown : s.vm.findClass "ServiceDesk$Subjects" = some m.cls := hown
  have hl : lv_has ls 6 [(0, .ref (q 6)), (1, .int (nI k)), (2, .int a)] := hl
  have hM := (hi.mk k hk).1
  refine lv_iconst (v := 0) hx hb z_s_openUnder_0 (by decide) ?_
  refine lv_istore_n (lv' := [(3, .int 0), (0, .ref (q 6)), (1, .int (nI k)), (2, .int a)]) hx hb z_s_openUnder_1 rfl hl (by decide) rfl (fun ls hl => ?_)
  refine lv_iconst (v := 0) hx hb z_s_openUnder_2 (by decide) ?_
  refine lv_istore (lv' := [(4, .int 0), (3, .int 0), (0, .ref (q 6)), (1, .int (nI k)), (2, .int a)]) hx hb z_s_openUnder_3 hl (by decide) rfl (fun ls hl => ?_)
  refine rd_loopI (nL := 6) (mN v k) (fun _ => True) (fun i => [(0, .ref (q 6)), (1, .int (nI k)), (2, .int a), (3, .int (nI (unC v k a i))), (4, .int (nI i))]) ?_ ls trivial (lv_sub hl [2, 3, 4, 1, 0] rfl)
  intro i ls hle hI hl ih
  have hl : lv_has ls 6 [(0, .ref (q 6)), (1, .int (nI k)), (2, .int a), (3, .int (nI (unC v k a i))), (4, .int (nI i))] := hl
  refine lv_iload hx hb z_s_openUnder_5 (lv_at hl 4 rfl) ?_
  refine lv_aload_n hx hb z_s_openUnder_7 rfl (lv_at hl 0 rfl) ?_
  refine va_get (D := (dC, dI)) (ci := 1) (v := .ref (q 7)) (C := R1) (T := T1) (N := 6) hx hb hts (cw_sub iC1) hown hK hP 6 rfl rfl 0 (by decide) (hts _ (cw_in mw_48 rfl)) (fun _ h9 => h9) rfl z_s_openUnder_8 ?_
  refine lv_iload_n hx hb z_s_openUnder_11 rfl (lv_at hl 1 rfl) ?_
  refine xa_i hx hb hK hP 7 0 rfl rfl (k := k) (y := nI (mN v k)) (hk) (by decide) ((hi.mk k hk).2) z_s_openUnder_12 ?_
  refine lv_icmp_ge (tgt := 54) hx hb z_s_openUnder_13 (by decide) (fun c_13 => ?_) (fun c_13 => ?_)
  · refine lv_iload_n hx hb z_s_openUnder_54 rfl (lv_at hl 3 rfl) ?_
    exact W.iret (v := nI (unC v k a i)) hx hb hr (fun t ht _ => ⟨nI (unC v k a i), rfl, by rw [eq_of_nle hle (by omega) c_13], ht⟩) t_nil z_s_openUnder_55
  · have hlt : i < mN v k := nlt_of (by omega) c_13
    refine lv_iload_n hx hb z_s_openUnder_16 rfl (lv_at hl 1 rfl) ?_
    refine lv_iload hx hb z_s_openUnder_17 (lv_at hl 4 rfl) ?_
    refine rdSNi (As := [.int (nI k), .int (nI i)]) (rest := []) ⟨hx, hb, hml, hown, hts⟩ (c_d_slotOf l k i) mw_125 (hN _ nw_14) mw_124 mw_1 yd_d_slotOf ⟨⟨rfl, rfl⟩, Nat.le_of_ble_eq_true rfl, Nat.le_of_ble_eq_true rfl⟩ ⟨Nat.zero_le _, Nat.zero_le _⟩ (pre_pure) rfl hl.1 rfl (Nat.le_of_ble_eq_true rfl) z_s_openUnder_19 (fun r_1 h_2 => ?_)
    subst h_2
    refine lv_istore (lv' := [(5, .int (nI (k * 30 + i))), (0, .ref (q 6)), (1, .int (nI k)), (2, .int a), (3, .int (nI (unC v k a i))), (4, .int (nI i))]) hx hb z_s_openUnder_22 hl (by decide) rfl (fun ls hl => ?_)
    refine lv_aload_n hx hb z_s_openUnder_24 rfl (lv_at hl 1 rfl) ?_
    refine va_get (D := (dC, dI)) (ci := 1) (v := .ref (q 9)) (C := R1) (T := T1) (N := 6) hx hb hts (cw_sub iC1) hown hK hP 6 rfl rfl 2 (by decide) (hts _ (cw_in mw_52 rfl)) (fun _ h9 => h9) rfl z_s_openUnder_25 ?_
    refine lv_iload hx hb z_s_openUnder_28 (lv_at hl 0 rfl) ?_
    refine xa_z hx hb hK hP 9 1 rfl rfl (k := (k * 30 + i)) (y := zop v (k * 30 + i)) (by omega) (by decide) (rfl) z_s_openUnder_30 ?_
    refine lv_if_eq (tgt := 48) hx hb z_s_openUnder_31 (by decide) (fun c_31 => ?_) (fun c_31 => ?_)
    · refine lv_iinc (v := nI (i + 1)) (lv' := [(4, .int (nI (i + 1))), (5, .int (nI (k * 30 + i))), (0, .ref (q 6)), (1, .int (nI k)), (2, .int a), (3, .int (nI (unC v k a i)))]) hx hb z_s_openUnder_48 hl (k := 5) rfl (by exact nI_1 i) (by decide) rfl (fun ls hl => ?_)
      refine lv_goto (tgt := 5) hx hb z_s_openUnder_51 (by decide) ?_
      exact ih ls hlt trivial (by show lv_has ls 6 [(0, .ref (q 6)), (1, .int (nI k)), (2, .int a), (3, .int (nI (unC v k a (i + 1)))), (4, .int (nI (i + 1)))]; rw [unC_0 c_31]; exact lv_sub hl [2, 3, 4, 5, 0] rfl)
    · refine lv_aload_n hx hb z_s_openUnder_34 rfl (lv_at hl 1 rfl) ?_
      refine va_get (D := (dC, dI)) (ci := 1) (v := .ref (q 8)) (C := R1) (T := T1) (N := 6) hx hb hts (cw_sub iC1) hown hK hP 6 rfl rfl 1 (by decide) (hts _ (cw_in mw_50 rfl)) (fun _ h9 => h9) rfl z_s_openUnder_35 ?_
      refine lv_iload hx hb z_s_openUnder_38 (lv_at hl 0 rfl) ?_
      refine xa_i hx hb hK hP 8 0 rfl rfl (k := (k * 30 + i)) (y := zab v (k * 30 + i)) (by omega) (by decide) (rfl) z_s_openUnder_40 ?_
      refine lv_iload_n hx hb z_s_openUnder_41 rfl (lv_at hl 3 rfl) ?_
      refine lv_icmp_ne (tgt := 48) hx hb z_s_openUnder_42 (by decide) (fun c_42 => ?_) (fun c_42 => ?_)
      · refine lv_iinc (v := nI (i + 1)) (lv' := [(4, .int (nI (i + 1))), (5, .int (nI (k * 30 + i))), (0, .ref (q 6)), (1, .int (nI k)), (2, .int a), (3, .int (nI (unC v k a i)))]) hx hb z_s_openUnder_48 hl (k := 5) rfl (by exact nI_1 i) (by decide) rfl (fun ls hl => ?_)
        refine lv_goto (tgt := 5) hx hb z_s_openUnder_51 (by decide) ?_
        exact ih ls hlt trivial (by show lv_has ls 6 [(0, .ref (q 6)), (1, .int (nI k)), (2, .int a), (3, .int (nI (unC v k a (i + 1)))), (4, .int (nI (i + 1)))]; rw [unC_1 c_31 c_42]; exact lv_sub hl [2, 3, 4, 5, 0] rfl)
      · refine lv_iinc (v := nI (unC v k a i + 1)) (lv' := [(3, .int (nI (unC v k a i + 1))), (5, .int (nI (k * 30 + i))), (0, .ref (q 6)), (1, .int (nI k)), (2, .int a), (4, .int (nI i))]) hx hb z_s_openUnder_45 hl (k := 4) rfl (by exact nI_1 _) (by decide) rfl (fun ls hl => ?_)
        refine lv_iinc (v := nI (i + 1)) (lv' := [(4, .int (nI (i + 1))), (3, .int (nI (unC v k a i + 1))), (5, .int (nI (k * 30 + i))), (0, .ref (q 6)), (1, .int (nI k)), (2, .int a)]) hx hb z_s_openUnder_48 hl (k := 5) rfl (by exact nI_1 i) (by decide) rfl (fun ls hl => ?_)
        refine lv_goto (tgt := 5) hx hb z_s_openUnder_51 (by decide) ?_
        exact ih ls hlt trivial (by show lv_has ls 6 [(0, .ref (q 6)), (1, .int (nI k)), (2, .int a), (3, .int (nI (unC v k a (i + 1)))), (4, .int (nI (i + 1)))]; rw [unC_2 c_31 c_42]; exact lv_sub hl [3, 4, 5, 1, 0] rfl)

set_option maxHeartbeats 4000000 in
set_option maxRecDepth 100000 in
theorem c_d_openOnesUnder (l : Launch) (dC : Nat → ClassId) (dI : Nat → Nat → Nat) (q : Nat → Nat) (cI cZ cB : ClassId) (v : St) (hi : Inv v) (x a : Int32) : Met l y_d_openOnesUnder (Cond.code y_d_openOnesUnder b_d_openOnesUnder 5 (some .int) :: CW) { frames := 2, cells := 0, slots := 0, locals := 46 } (va_Pc [.ref (q 0), .int x, .int a] (RdC (dC, dI) (wC q cI cZ cB v) (tyC cI cZ cB))) (vp_Si (fun r : Int32 => r = nI (onC v x a 8))) 0 0 (fun _ => False) := by
  refine cx_met (by decide) (Nat.le_of_ble_eq_true rfl) ?_
  intro p e s m below meth c hx hb hr hml hts hown hlocks hnm hC ls hl
  obtain ⟨hP, hK, hN⟩ := hC
  have hown : s.vm.findClass "ServiceDesk" = some m.cls := hown
  have hl : lv_has ls 5 [(0, .ref (q 0)), (1, .int x), (2, .int a)] := hl
  refine lv_iconst (v := 0) hx hb z_d_openOnesUnder_0 (by decide) ?_
  refine lv_istore_n (lv' := [(3, .int 0), (0, .ref (q 0)), (1, .int x), (2, .int a)]) hx hb z_d_openOnesUnder_1 rfl hl (by decide) rfl (fun ls hl => ?_)
  refine lv_iconst (v := 0) hx hb z_d_openOnesUnder_2 (by decide) ?_
  refine lv_istore (lv' := [(4, .int 0), (3, .int 0), (0, .ref (q 0)), (1, .int x), (2, .int a)]) hx hb z_d_openOnesUnder_3 hl (by decide) rfl (fun ls hl => ?_)
  refine rd_loopI (nL := 5) (8) (fun _ => True) (fun i => [(0, .ref (q 0)), (1, .int x), (2, .int a), (3, .int (nI (onC v x a i))), (4, .int (nI i))]) ?_ ls trivial (lv_sub hl [2, 3, 4, 1, 0] rfl)
  intro i ls hle hI hl ih
  have hl : lv_has ls 5 [(0, .ref (q 0)), (1, .int x), (2, .int a), (3, .int (nI (onC v x a i))), (4, .int (nI i))] := hl
  refine lv_iload hx hb z_d_openOnesUnder_5 (lv_at hl 4 rfl) ?_
  refine lv_bipush (v := 8) hx hb z_d_openOnesUnder_7 (by decide) ?_
  refine lv_icmp_ge (tgt := 42) hx hb z_d_openOnesUnder_9 (by decide) (fun c_9 => ?_) (fun c_9 => ?_)
  · refine lv_iload_n hx hb z_d_openOnesUnder_42 rfl (lv_at hl 3 rfl) ?_
    exact W.iret (v := nI (onC v x a i)) hx hb hr (fun t ht _ => ⟨nI (onC v x a i), rfl, by rw [eq_of_nle hle (by decide) c_9], ht⟩) t_nil z_d_openOnesUnder_43
  · have hlt : i < 8 := nlt_of (b := 8) (by omega) c_9
    refine lv_aload_n hx hb z_d_openOnesUnder_12 rfl (lv_at hl 0 rfl) ?_
    refine va_get (D := (dC, dI)) (ci := 3) (v := .ref (q 1)) (C := R3) (T := T3) (N := 6) hx hb hts (cw_sub iC3) hown hK hP 0 rfl rfl 0 (by decide) (hts _ (cw_in mw_92 rfl)) (fun _ h9 => h9) rfl z_d_openOnesUnder_13 ?_
    refine lv_iload hx hb z_d_openOnesUnder_16 (lv_at hl 4 rfl) ?_
    refine xa_i hx hb hK hP 1 0 rfl rfl (k := i) (y := zka v i) (hlt) (by decide) (rfl) z_d_openOnesUnder_18 ?_
    refine lv_iload_n hx hb z_d_openOnesUnder_19 rfl (lv_at hl 1 rfl) ?_
    refine lv_icmp_ne (tgt := 36) hx hb z_d_openOnesUnder_20 (by decide) (fun c_20 => ?_) (fun c_20 => ?_)
    · refine lv_iinc (v := nI (i + 1)) (lv' := [(4, .int (nI (i + 1))), (0, .ref (q 0)), (1, .int x), (2, .int a), (3, .int (nI (onC v x a i)))]) hx hb z_d_openOnesUnder_36 hl (k := 4) rfl (by exact nI_1 i) (by decide) rfl (fun ls hl => ?_)
      refine lv_goto (tgt := 5) hx hb z_d_openOnesUnder_39 (by decide) ?_
      exact ih ls hlt trivial (by show lv_has ls 5 [(0, .ref (q 0)), (1, .int x), (2, .int a), (3, .int (nI (onC v x a (i + 1)))), (4, .int (nI (i + 1)))]; rw [onC_0 c_20]; exact lv_sub hl [1, 2, 3, 4, 0] rfl)
    · refine lv_iload_n hx hb z_d_openOnesUnder_23 rfl (lv_at hl 3 rfl) ?_
      refine lv_aload_n hx hb z_d_openOnesUnder_24 rfl (lv_at hl 0 rfl) ?_
      refine va_get (D := (dC, dI)) (ci := 3) (v := .ref (q 6)) (C := R3) (T := T3) (N := 6) hx hb hts (cw_sub iC3) hown hK hP 0 rfl rfl 2 (by decide) (hts _ (cw_in mw_94 rfl)) (fun _ h9 => h9) rfl z_d_openOnesUnder_25 ?_
      refine lv_iload hx hb z_d_openOnesUnder_28 (lv_at hl 4 rfl) ?_
      refine lv_iload_n hx hb z_d_openOnesUnder_30 rfl (lv_at hl 2 rfl) ?_
      refine rdVNi (As := [.int (nI i), .int a]) (rest := [.int (nI (onC v x a i))]) ⟨hx, hb, hml, hown, hts⟩ (c_s_openUnder l dC dI q cI cZ cB v hi i hlt a) mw_373 (hN _ nw_21) mw_372 mp_18 mw_3 yd_s_openUnder ⟨⟨rfl, rfl⟩, Nat.le_of_ble_eq_true rfl, Nat.le_of_ble_eq_true rfl⟩ ⟨Nat.zero_le _, Nat.zero_le _⟩ (RdC.preV hP hK hN (ci := 1) (q0 := 6) rfl rfl) rfl hl.1 rfl (Nat.le_of_ble_eq_true rfl) z_d_openOnesUnder_31 (fun r_1 h_2 => ?_)
      subst h_2
      refine lv_iadd hx hb z_d_openOnesUnder_34 ?_
      rw [nI_add]
      refine lv_istore_n (lv' := [(3, .int (nI (onC v x a i + unC v i a (mN v i)))), (0, .ref (q 0)), (1, .int x), (2, .int a), (4, .int (nI i))]) hx hb z_d_openOnesUnder_35 rfl hl (by decide) rfl (fun ls hl => ?_)
      refine lv_iinc (v := nI (i + 1)) (lv' := [(4, .int (nI (i + 1))), (3, .int (nI (onC v x a i + unC v i a (mN v i)))), (0, .ref (q 0)), (1, .int x), (2, .int a)]) hx hb z_d_openOnesUnder_36 hl (k := 4) rfl (by exact nI_1 i) (by decide) rfl (fun ls hl => ?_)
      refine lv_goto (tgt := 5) hx hb z_d_openOnesUnder_39 (by decide) ?_
      exact ih ls hlt trivial (by show lv_has ls 5 [(0, .ref (q 0)), (1, .int x), (2, .int a), (3, .int (nI (onC v x a (i + 1)))), (4, .int (nI (i + 1)))]; rw [onC_1 c_20]; exact lv_sub hl [2, 3, 4, 1, 0] rfl)
end
section
theorem mul5_nI (k : Nat) : nI k * 5 = nI (k * 5) := by rw [show (5 : Int32) = nI 5 from rfl, pk_mul]
theorem okC_no1 {v : St} {x y z : Int32} (h : ¬ isS v x y) : ¬ okC v x y z := fun ⟨k, j, _, hk, hj, _, hx, hy, _, _⟩ => h ⟨k, j, hk, hj, hx, hy⟩
theorem okC_no2 {v : St} {x y z : Int32} (h : ¬ isK z) : ¬ okC v x y z := fun ⟨_, _, n, _, _, hn, _, _, hz, _⟩ => h ⟨n, hn, hz⟩
theorem okC_no3 {v : St} {k j n : Nat} (hk : k < 8) (hn : n < 8) (h : zmd v (k * 8 + n) = 0) : ¬ okC v (nI k) (nI j) (nI n) := by
  rintro ⟨k2, j2, n2, h1, -, h3, e1, -, e3, h4⟩
  have a : k = k2 := (nI_eq (by omega) (by omega)).mp e1
  have b : n = n2 := (nI_eq (by omega) (by omega)).mp e3
  subst a; subst b
  exact h4 h
theorem pos_of_nle {n : Nat} (h : ¬ nI n ≤ 0) : 0 < n := Nat.pos_of_ne_zero (fun e => h (by rw [e]; decide))
theorem npos_of_le {n : Nat} (hn : n < 2 ^ 31) (h : nI n ≤ 0) : ¬ 0 < n := fun q => nI_nle q hn h
theorem md8 {v : St} {i : Nat} (hi : Inv v) (h : i < 64) : zmd v i = 0 ∨ zmd v i = 1 ∨ zmd v i = 2 ∨ zmd v i = 3 ∨ zmd v i = 4 ∨ zmd v i = 5 ∨ zmd v i = 6 ∨ zmd v i = 7 := by
  obtain ⟨n, hn, e⟩ := hi.md i h
  rw [e]
  rcases (show n = 0 ∨ n = 1 ∨ n = 2 ∨ n = 3 ∨ n = 4 ∨ n = 5 ∨ n = 6 ∨ n = 7 by omega) with rfl | rfl | rfl | rfl | rfl | rfl | rfl | rfl <;> decide
theorem i64_ne0 {a : Int32} (h : ¬ a = 0) : ¬ a.toInt64 = 0 := fun e => h (Int32.toInt_inj.mp (by
  have := congrArg Int64.toInt e
  rw [Int32.toInt_toInt64] at this
  rw [this]; rfl))
section AN
variable {v : St} {k j n : Nat} {a : Int32}
theorem anF_1 (h : zmd v (k * 8 + n) = 1) : anF v k j n a = (zas v (k * 8 + n)).toInt64 * (nI j).toInt64 + (zbs v (k * 8 + n)).toInt64 := by rw [anF, if_pos h]
theorem anF_2 (h : zmd v (k * 8 + n) = 2) : anF v k j n a = suF ((zsm v (k * 30 + j)).toInt64 + a.toInt64 * (zas v (k * 8 + n)).toInt64 + (zbs v (k * 8 + n)).toInt64) := by rw [anF, if_neg (by rw [h]; decide), if_pos h]
theorem anF_3 (h : zmd v (k * 8 + n) = 3) : anF v k j n a = (zsm v (k * 30 + j)).toInt64 * (zas v (k * 8 + n)).toInt64 + (zbs v (k * 8 + n)).toInt64 + a.toInt64 := by rw [anF, if_neg (by rw [h]; decide), if_neg (by rw [h]; decide), if_pos h]
theorem anF_4 (h : zmd v (k * 8 + n) = 4) : anF v k j n a = -9000000000000 - (1 + ((zas v (k * 8 + n)).toInt64 &&& 7)) := by rw [anF, if_neg (by rw [h]; decide), if_neg (by rw [h]; decide), if_neg (by rw [h]; decide), if_pos h]
theorem anF_5 (h : zmd v (k * 8 + n) = 5) : anF v k j n a = (if a = 0 then -9000000000010 else (zsm v (k * 30 + j)).toInt64 / a.toInt64 + (zbs v (k * 8 + n)).toInt64) := by rw [anF, if_neg (by rw [h]; decide), if_neg (by rw [h]; decide), if_neg (by rw [h]; decide), if_neg (by rw [h]; decide), if_pos h]
theorem anF_6 (h : zmd v (k * 8 + n) = 6) : anF v k j n a = (if zka v k = -1 then -9000000000011 else suF ((zsm v ((zka v k).toNatClampNeg * 30 + (zab v (k * 30 + j)).toNatClampNeg)).toInt64 + a.toInt64)) := by rw [anF, if_neg (by rw [h]; decide), if_neg (by rw [h]; decide), if_neg (by rw [h]; decide), if_neg (by rw [h]; decide), if_neg (by rw [h]; decide), if_pos h]
theorem anF_7 (h : zmd v (k * 8 + n) = 0 ∨ zmd v (k * 8 + n) = 7) : anF v k j n a = (if 0 < onC v (nI k) (nI j) 8 then -9000000000012 else (nI (opC v k (mN v k)) - 1).toInt64) := by
  rw [anF]
  rcases h with h | h <;> rw [if_neg (by rw [h]; decide), if_neg (by rw [h]; decide), if_neg (by rw [h]; decide), if_neg (by rw [h]; decide), if_neg (by rw [h]; decide), if_neg (by rw [h]; decide)]
/-- the slot above a subject -/
theorem an6_post {r : Int32} {x : Int64} (hi : Inv v) (h0 : zmd v (k * 8 + n) = 6) (h : (r = -1 ∧ zka v k = -1) ∨ ∃ k2 j2, k2 < 8 ∧ j2 < mN v k2 ∧ zka v k = nI k2 ∧ zab v (k * 30 + j) = nI j2 ∧ r = nI (k2 * 30 + j2)) (h2 : (r = -1 ∧ x = -9000000000011) ∨ ∃ g, g < 240 ∧ r = nI g ∧ x = suF ((zsm v g).toInt64 + a.toInt64)) : x = anF v k j n a := by
  rw [anF_6 h0]
  rcases h with ⟨h1, h3⟩ | ⟨k2, j2, b1, b2, b3, b4, b5⟩
  · rw [if_pos h3]
    rcases h2 with ⟨-, h4⟩ | ⟨g, h4, h5, -⟩
    · exact h4
    · rw [h1] at h5
      exact absurd (show nI g < 0 by rw [← h5]; decide) (nI_pos (by omega))
  · have hM := (hi.mk k2 b1).1
    rw [if_neg (by rw [b3]; intro e; exact absurd (show nI k2 < 0 by rw [e]; decide) (nI_pos (by omega))), b3, b4, nI_clamp (by omega), nI_clamp (by omega)]
    rcases h2 with ⟨h4, -⟩ | ⟨g, h4, h5, h6⟩
    · rw [b5] at h4
      exact absurd (show nI (k2 * 30 + j2) < 0 by rw [h4]; decide) (nI_pos (by omega))
    · rw [b5] at h5
      have e : k2 * 30 + j2 = g := (nI_eq (by omega) (by omega)).mp h5
      rw [h6, e]
theorem an6_arg {r : Int32} (hi : Inv v) (h : (r = -1 ∧ zka v k = -1) ∨ ∃ k2 j2, k2 < 8 ∧ j2 < mN v k2 ∧ zka v k = nI k2 ∧ zab v (k * 30 + j) = nI j2 ∧ r = nI (k2 * 30 + j2)) : r = -1 ∨ ∃ g, g < 240 ∧ r = nI g := by
  rcases h with ⟨h1, -⟩ | ⟨k2, j2, b1, b2, -, -, b5⟩
  · exact Or.inl h1
  · have hM := (hi.mk k2 b1).1
    exact Or.inr ⟨_, by omega, b5⟩
end AN
set_option maxHeartbeats 4000000 in
set_option maxRecDepth 100000 in
theorem c_s_hasJust (l : Launch) (dC : Nat → ClassId) (dI : Nat → Nat → Nat) (q : Nat → Nat) (cI cZ cB : ClassId) (v : St) (g : Nat) (hg : g < 240) (p0 : Int64) (n : Nat) (hn : n ≤ 8) : Met l y_s_hasJust (Cond.code y_s_hasJust b_s_hasJust 6 (some .boolean) :: CW) { frames := 1, cells := 0, slots := 0, locals := 23 } (va_Pc [.ref (q 6), .int (nI g), .long p0, .int (nI n)] (RdC (dC, dI) (wC q cI cZ cB v) (tyC cI cZ cB))) (vp_Si (fun r : Int32 => (r = 1 ∧ hasJ v g p0 n) ∨ (r = 0 ∧ ¬ hasJ v g p0 n))) 0 0 (fun _ => False) := by
  refine cx_met (by decide) (Nat.le_of_ble_eq_true rfl) ?_
  intro p e s m below meth c hx hb hr hml hts hown hlocks hnm hC ls hl
  obtain ⟨hP, hK, hN⟩ := hC
  have hown : s.vm.findClass "ServiceDesk$Subjects" = some m.cls := hown
  have hl : lv_has ls 6 [(0, .ref (q 6)), (1, .int (nI g)), (2, .long p0), (4, .int (nI n))] := hl
  refine lv_aload_n hx hb z_s_hasJust_0 rfl (lv_at hl 0 rfl) ?_
  refine va_get (D := (dC, dI)) (ci := 1) (v := .ref (q 11)) (C := R1) (T := T1) (N := 6) hx hb hts (cw_sub iC1) hown hK hP 6 rfl rfl 4 (by decide) (hts _ (cw_in mw_56 rfl)) (fun _ h9 => h9) rfl z_s_hasJust_1 ?_
  refine lv_iload_n hx hb z_s_hasJust_4 rfl (lv_at hl 1 rfl) ?_
  refine xa_i hx hb hK hP 11 0 rfl rfl (k := g) (y := zln v g) (hg) (by decide) (rfl) z_s_hasJust_5 ?_
  refine lv_iload hx hb z_s_hasJust_6 (lv_at hl 3 rfl) ?_
  refine lv_icmp_eq (tgt := 13) hx hb z_s_hasJust_8 (by decide) (fun c_8 => ?_) (fun c_8 => ?_)
  · refine lv_iconst (v := 0) hx hb z_s_hasJust_13 (by decide) ?_
    refine lv_istore (lv' := [(5, .int 0), (0, .ref (q 6)), (1, .int (nI g)), (2, .long p0), (4, .int (nI n))]) hx hb z_s_hasJust_14 hl (by decide) rfl (fun ls hl => ?_)
    refine rd_loopI (nL := 6) (n) (fun i => ∀ j, j < i → ztx v (g * 16 + j) &&& 255 = byteF p0 (nI n) (nI j)) (fun i => [(0, .ref (q 6)), (1, .int (nI g)), (2, .long p0), (4, .int (nI n)), (5, .int (nI i))]) ?_ ls (fun j h => absurd h (Nat.not_lt_zero j)) (lv_sub hl [1, 2, 3, 4, 0] rfl)
    intro i ls hle hI hl ih
    have hl : lv_has ls 6 [(0, .ref (q 6)), (1, .int (nI g)), (2, .long p0), (4, .int (nI n)), (5, .int (nI i))] := hl
    refine lv_iload hx hb z_s_hasJust_16 (lv_at hl 4 rfl) ?_
    refine lv_iload hx hb z_s_hasJust_18 (lv_at hl 3 rfl) ?_
    refine lv_icmp_ge (tgt := 49) hx hb z_s_hasJust_20 (by decide) (fun c_20 => ?_) (fun c_20 => ?_)
    · refine lv_iconst (v := 1) hx hb z_s_hasJust_49 (by decide) ?_
      exact W.zret (v := 1) hx hb hr rfl (fun t ht _ => ⟨1, rfl, Or.inl ⟨rfl, c_8, fun j hj => hI j (by rw [eq_of_nle hle (by omega) c_20]; exact hj)⟩, ht⟩) t_nil z_s_hasJust_50
    · have hlt : i < n := nlt_of (by omega) c_20
      refine lv_aload_n hx hb z_s_hasJust_23 rfl (lv_at hl 0 rfl) ?_
      refine lv_iload_n hx hb z_s_hasJust_24 rfl (lv_at hl 1 rfl) ?_
      refine lv_iload hx hb z_s_hasJust_25 (lv_at hl 4 rfl) ?_
      refine rdVi (As := [.int (nI g), .int (nI i)]) (rest := []) ⟨hx, hb, hml, hown, hts⟩ (c_s_byteAt l dC dI q cI cZ cB v g i (by omega)) mw_134 mw_131 mw_133 mp_2 mw_3 rfl yd_s_byteAt ⟨⟨rfl, rfl⟩, Nat.le_of_ble_eq_true rfl, Nat.le_of_ble_eq_true rfl⟩ ⟨Nat.zero_le _, Nat.zero_le _⟩ (RdC.preV hP hK hN (ci := 1) (q0 := 6) rfl rfl) rfl hl.1 rfl (Nat.le_of_ble_eq_true rfl) z_s_hasJust_27 (fun r_1 h_2 => ?_)
      subst h_2
      refine lv_lload_n hx hb z_s_hasJust_30 rfl (lv_at hl 2 rfl) ?_
      refine lv_iload hx hb z_s_hasJust_31 (lv_at hl 3 rfl) ?_
      refine lv_iload hx hb z_s_hasJust_33 (lv_at hl 4 rfl) ?_
      refine rdSi (As := [.long p0, .int (nI n), .int (nI i)]) (rest := [.int (ztx v (g * 16 + i) &&& 255)]) ⟨hx, hb, hml, hown, hts⟩ (c_s_byteOf l p0 (nI n) (nI i)) mw_410 mw_408 mw_409 mw_3 yd_s_byteOf ⟨⟨rfl, rfl⟩, Nat.le_of_ble_eq_true rfl, Nat.le_of_ble_eq_true rfl⟩ ⟨Nat.zero_le _, Nat.zero_le _⟩ (pre_pure) rfl hl.1 rfl (Nat.le_of_ble_eq_true rfl) z_s_hasJust_35 (fun r_3 h_4 => ?_)
      subst h_4
      refine lv_icmp_eq (tgt := 43) hx hb z_s_hasJust_38 (by decide) (fun c_38 => ?_) (fun c_38 => ?_)
      · refine lv_iinc (v := nI (i + 1)) (lv' := [(5, .int (nI (i + 1))), (0, .ref (q 6)), (1, .int (nI g)), (2, .long p0), (4, .int (nI n))]) hx hb z_s_hasJust_43 hl (k := 4) rfl (by exact nI_1 i) (by decide) rfl (fun ls hl => ?_)
        refine lv_goto (tgt := 16) hx hb z_s_hasJust_46 (by decide) ?_
        exact ih ls hlt (fun j hj => (Nat.lt_succ_iff_lt_or_eq.mp hj).elim (fun h => hI j h) (fun h => by rw [h]; exact c_38)) (lv_sub hl [1, 2, 3, 4, 0] rfl)
      · refine lv_iconst (v := 0) hx hb z_s_hasJust_41 (by decide) ?_
        exact W.zret (v := 0) hx hb hr rfl (fun t ht _ => ⟨0, rfl, Or.inr ⟨rfl, fun h => c_38 (h.2 i hlt)⟩, ht⟩) t_nil z_s_hasJust_42
  · refine lv_iconst (v := 0) hx hb z_s_hasJust_11 (by decide) ?_
    exact W.zret (v := 0) hx hb hr rfl (fun t ht _ => ⟨0, rfl, Or.inr ⟨rfl, fun h => c_8 h.1⟩, ht⟩) t_nil z_s_hasJust_12

set_option maxHeartbeats 4000000 in
set_option maxRecDepth 100000 in
theorem c_s_madeInAll (l : Launch) (dC : Nat → ClassId) (dI : Nat → Nat → Nat) (q : Nat → Nat) (cI cZ cB : ClassId) (v : St) (hi : Inv v) : Met l y_s_madeInAll (Cond.code y_s_madeInAll b_s_madeInAll 3 (some .int) :: CW) { frames := 0, cells := 0, slots := 0, locals := 0 } (va_Pc [.ref (q 6)] (RdC (dC, dI) (wC q cI cZ cB v) (tyC cI cZ cB))) (vp_Si (fun r : Int32 => r = nI (mkS v 8))) 0 0 (fun _ => False) := by
  refine cx_met (by decide) (Nat.le_of_ble_eq_true rfl) ?_
  intro p e s m below meth c hx hb hr hml hts hown hlocks hnm hC ls hl
  obtain ⟨hP, hK, hN⟩ := hC
  have hown : s.vm.findClass "ServiceDesk$Subjects" = some m.cls := hown
  have hl : lv_has ls 3 [(0, .ref (q 6))] := hl
  refine lv_iconst (v := 0) hx hb z_s_madeInAll_0 (by decide) ?_
  refine lv_istore_n (lv' := [(1, .int 0), (0, .ref (q 6))]) hx hb z_s_madeInAll_1 rfl hl (by decide) rfl (fun ls hl => ?_)
  refine lv_iconst (v := 0) hx hb z_s_madeInAll_2 (by decide) ?_
  refine lv_istore_n (lv' := [(2, .int 0), (1, .int 0), (0, .ref (q 6))]) hx hb z_s_madeInAll_3 rfl hl (by decide) rfl (fun ls hl => ?_)
  refine rd_loopI (nL := 3) (8) (fun _ => True) (fun i => [(0, .ref (q 6)), (1, .int (nI (mkS v i))), (2, .int (nI i))]) ?_ ls trivial (lv_sub hl [2, 1, 0] rfl)
  intro i ls hle hI hl ih
  have hl : lv_has ls 3 [(0, .ref (q 6)), (1, .int (nI (mkS v i))), (2, .int (nI i))] := hl
  refine lv_iload_n hx hb z_s_madeInAll_4 rfl (lv_at hl 2 rfl) ?_
  refine lv_bipush (v := 8) hx hb z_s_madeInAll_5 (by decide) ?_
  refine lv_icmp_ge (tgt := 25) hx hb z_s_madeInAll_7 (by decide) (fun c_7 => ?_) (fun c_7 => ?_)
  · refine lv_iload_n hx hb z_s_madeInAll_25 rfl (lv_at hl 1 rfl) ?_
    exact W.iret (v := nI (mkS v i)) hx hb hr (fun t ht _ => ⟨nI (mkS v i), rfl, by rw [eq_of_nle hle (by decide) c_7], ht⟩) t_nil z_s_madeInAll_26
  · have hlt : i < 8 := nlt_of (b := 8) (by omega) c_7
    refine lv_iload_n hx hb z_s_madeInAll_10 rfl (lv_at hl 1 rfl) ?_
    refine lv_aload_n hx hb z_s_madeInAll_11 rfl (lv_at hl 0 rfl) ?_
    refine va_get (D := (dC, dI)) (ci := 1) (v := .ref (q 7)) (C := R1) (T := T1) (N := 6) hx hb hts (cw_sub iC1) hown hK hP 6 rfl rfl 0 (by decide) (hts _ (cw_in mw_48 rfl)) (fun _ h9 => h9) rfl z_s_madeInAll_12 ?_
    refine lv_iload_n hx hb z_s_madeInAll_15 rfl (lv_at hl 2 rfl) ?_
    refine xa_i hx hb hK hP 7 0 rfl rfl (k := i) (y := nI (mN v i)) (hlt) (by decide) ((hi.mk i hlt).2) z_s_madeInAll_16 ?_
    refine lv_iadd hx hb z_s_madeInAll_17 ?_
    rw [nI_add]
    refine lv_istore_n (lv' := [(1, .int (nI (mkS v i + mN v i))), (0, .ref (q 6)), (2, .int (nI i))]) hx hb z_s_madeInAll_18 rfl hl (by decide) rfl (fun ls hl => ?_)
    refine lv_iinc (v := nI (i + 1)) (lv' := [(2, .int (nI (i + 1))), (1, .int (nI (mkS v i + mN v i))), (0, .ref (q 6))]) hx hb z_s_madeInAll_19 hl (k := 2) rfl (by exact nI_1 i) (by decide) rfl (fun ls hl => ?_)
    refine lv_goto (tgt := 4) hx hb z_s_madeInAll_22 (by decide) ?_
    exact ih ls hlt trivial (by show lv_has ls 3 [(0, .ref (q 6)), (1, .int (nI (mkS v (i + 1)))), (2, .int (nI (i + 1)))]; rw [mkS]; exact lv_sub hl [2, 1, 0] rfl)

set_option maxHeartbeats 4000000 in
set_option maxRecDepth 100000 in
theorem c_s_openInAll (l : Launch) (dC : Nat → ClassId) (dI : Nat → Nat → Nat) (q : Nat → Nat) (cI cZ cB : ClassId) (v : St) (hi : Inv v) : Met l y_s_openInAll (Cond.code y_s_openInAll b_s_openInAll 3 (some .int) :: CW) { frames := 2, cells := 0, slots := 0, locals := 44 } (va_Pc [.ref (q 6)] (RdC (dC, dI) (wC q cI cZ cB v) (tyC cI cZ cB))) (vp_Si (fun r : Int32 => r = nI (opS v 8))) 0 0 (fun _ => False) := by
  refine cx_met (by decide) (Nat.le_of_ble_eq_true rfl) ?_
  intro p e s m below meth c hx hb hr hml hts hown hlocks hnm hC ls hl
  obtain ⟨hP, hK, hN⟩ := hC
  have hown : s.vm.findClass "ServiceDesk$Subjects" = some m.cls := hown
  have hl : lv_has ls 3 [(0, .ref (q 6))] := hl
  refine lv_iconst (v := 0) hx hb z_s_openInAll_0 (by decide) ?_
  refine lv_istore_n (lv' := [(1, .int 0), (0, .ref (q 6))]) hx hb z_s_openInAll_1 rfl hl (by decide) rfl (fun ls hl => ?_)
  refine lv_iconst (v := 0) hx hb z_s_openInAll_2 (by decide) ?_
  refine lv_istore_n (lv' := [(2, .int 0), (1, .int 0), (0, .ref (q 6))]) hx hb z_s_openInAll_3 rfl hl (by decide) rfl (fun ls hl => ?_)
  refine rd_loopI (nL := 3) (8) (fun _ => True) (fun i => [(0, .ref (q 6)), (1, .int (nI (opS v i))), (2, .int (nI i))]) ?_ ls trivial (lv_sub hl [2, 1, 0] rfl)
  intro i ls hle hI hl ih
  have hl : lv_has ls 3 [(0, .ref (q 6)), (1, .int (nI (opS v i))), (2, .int (nI i))] := hl
  refine lv_iload_n hx hb z_s_openInAll_4 rfl (lv_at hl 2 rfl) ?_
  refine lv_bipush (v := 8) hx hb z_s_openInAll_5 (by decide) ?_
  refine lv_icmp_ge (tgt := 24) hx hb z_s_openInAll_7 (by decide) (fun c_7 => ?_) (fun c_7 => ?_)
  · refine lv_iload_n hx hb z_s_openInAll_24 rfl (lv_at hl 1 rfl) ?_
    exact W.iret (v := nI (opS v i)) hx hb hr (fun t ht _ => ⟨nI (opS v i), rfl, by rw [eq_of_nle hle (by decide) c_7], ht⟩) t_nil z_s_openInAll_25
  · have hlt : i < 8 := nlt_of (b := 8) (by omega) c_7
    refine lv_iload_n hx hb z_s_openInAll_10 rfl (lv_at hl 1 rfl) ?_
    refine lv_aload_n hx hb z_s_openInAll_11 rfl (lv_at hl 0 rfl) ?_
    refine lv_iload_n hx hb z_s_openInAll_12 rfl (lv_at hl 2 rfl) ?_
    refine rdVi (As := [.int (nI i)]) (rest := [.int (nI (opS v i))]) ⟨hx, hb, hml, hown, hts⟩ (c_s_openOf l dC dI q cI cZ cB v hi i hlt) mw_378 mw_472 mw_377 mp_19 mw_3 rfl yd_s_openOf ⟨⟨rfl, rfl⟩, Nat.le_of_ble_eq_true rfl, Nat.le_of_ble_eq_true rfl⟩ ⟨Nat.zero_le _, Nat.zero_le _⟩ (RdC.preV hP hK hN (ci := 1) (q0 := 6) rfl rfl) rfl hl.1 rfl (Nat.le_of_ble_eq_true rfl) z_s_openInAll_13 (fun r_1 h_2 => ?_)
    subst h_2
    refine lv_iadd hx hb z_s_openInAll_16 ?_
    rw [nI_add]
    refine lv_istore_n (lv' := [(1, .int (nI (opS v i + opC v i (mN v i)))), (0, .ref (q 6)), (2, .int (nI i))]) hx hb z_s_openInAll_17 rfl hl (by decide) rfl (fun ls hl => ?_)
    refine lv_iinc (v := nI (i + 1)) (lv' := [(2, .int (nI (i + 1))), (1, .int (nI (opS v i + opC v i (mN v i)))), (0, .ref (q 6))]) hx hb z_s_openInAll_18 hl (k := 2) rfl (by exact nI_1 i) (by decide) rfl (fun ls hl => ?_)
    refine lv_goto (tgt := 4) hx hb z_s_openInAll_21 (by decide) ?_
    exact ih ls hlt trivial (by show lv_has ls 3 [(0, .ref (q 6)), (1, .int (nI (opS v (i + 1)))), (2, .int (nI (i + 1)))]; rw [opS]; exact lv_sub hl [2, 1, 0] rfl)

set_option maxHeartbeats 4000000 in
set_option maxRecDepth 100000 in
theorem c_s_stirOne (l : Launch) (dC : Nat → ClassId) (dI : Nat → Nat → Nat) (q : Nat → Nat) (cI cZ cB : ClassId) (v : St) (hi : Inv v) (b : Int32) (g : Nat) (hg : g < 240) : Met l y_s_stirOne (Cond.code y_s_stirOne b_s_stirOne 5 (some .int) :: CW) { frames := 1, cells := 0, slots := 0, locals := 22 } (va_Pc [.ref (q 6), .int b, .int (nI g)] (RdC (dC, dI) (wC q cI cZ cB v) (tyC cI cZ cB))) (vp_Si (fun r : Int32 => r = sOne v b g)) 0 0 (fun _ => False) := by
  refine cx_met (by decide) (Nat.le_of_ble_eq_true rfl) ?_
  intro p e s m below meth c hx hb hr hml hts hown hlocks hnm hC ls hl
  obtain ⟨hP, hK, hN⟩ := hC
  have hown : s.vm.findClass "ServiceDesk$Subjects" = some m.cls := hown
  have hl : lv_has ls 5 [(0, .ref (q 6)), (1, .int b), (2, .int (nI g))] := hl
  have hL := (hi.ln g hg).1
  refine lv_iload_n hx hb z_s_stirOne_0 rfl (lv_at hl 1 rfl) ?_
  refine lv_aload_n hx hb z_s_stirOne_1 rfl (lv_at hl 0 rfl) ?_
  refine va_get (D := (dC, dI)) (ci := 1) (v := .ref (q 8)) (C := R1) (T := T1) (N := 6) hx hb hts (cw_sub iC1) hown hK hP 6 rfl rfl 1 (by decide) (hts _ (cw_in mw_50 rfl)) (fun _ h9 => h9) rfl z_s_stirOne_2 ?_
  refine lv_iload_n hx hb z_s_stirOne_5 rfl (lv_at hl 2 rfl) ?_
  refine xa_i hx hb hK hP 8 0 rfl rfl (k := g) (y := zab v g) (hg) (by decide) (rfl) z_s_stirOne_6 ?_
  refine rdSNi (As := [.int b, .int (zab v g)]) (rest := []) ⟨hx, hb, hml, hown, hts⟩ (c_d_stir l b (zab v g)) mw_117 (hN _ nw_15) mw_116 mw_1 yd_d_stir ⟨⟨rfl, rfl⟩, Nat.le_of_ble_eq_true rfl, Nat.le_of_ble_eq_true rfl⟩ ⟨Nat.zero_le _, Nat.zero_le _⟩ (pre_pure) rfl hl.1 rfl (Nat.le_of_ble_eq_true rfl) z_s_stirOne_7 (fun r_1 h_2 => ?_)
  subst h_2
  refine lv_aload_n hx hb z_s_stirOne_10 rfl (lv_at hl 0 rfl) ?_
  refine va_get (D := (dC, dI)) (ci := 1) (v := .ref (q 9)) (C := R1) (T := T1) (N := 6) hx hb hts (cw_sub iC1) hown hK hP 6 rfl rfl 2 (by decide) (hts _ (cw_in mw_52 rfl)) (fun _ h9 => h9) rfl z_s_stirOne_11 ?_
  refine lv_iload_n hx hb z_s_stirOne_14 rfl (lv_at hl 2 rfl) ?_
  refine xa_z hx hb hK hP 9 1 rfl rfl (k := g) (y := zop v g) (hg) (by decide) (rfl) z_s_stirOne_15 ?_
  refine lv_if_eq (tgt := 23) hx hb z_s_stirOne_16 (by decide) (fun c_16 => ?_) (fun c_16 => ?_)
  · refine lv_iconst (v := 0) hx hb z_s_stirOne_23 (by decide) ?_
    refine rdSNi (As := [.int (stirF b (zab v g)), .int 0]) (rest := []) ⟨hx, hb, hml, hown, hts⟩ (c_d_stir l (stirF b (zab v g)) 0) mw_117 (hN _ nw_15) mw_116 mw_1 yd_d_stir ⟨⟨rfl, rfl⟩, Nat.le_of_ble_eq_true rfl, Nat.le_of_ble_eq_true rfl⟩ ⟨Nat.zero_le _, Nat.zero_le _⟩ (pre_pure) rfl hl.1 rfl (Nat.le_of_ble_eq_true rfl) z_s_stirOne_24 (fun r_3 h_4 => ?_)
    subst h_4
    refine lv_aload_n hx hb z_s_stirOne_27 rfl (lv_at hl 0 rfl) ?_
    refine va_get (D := (dC, dI)) (ci := 1) (v := .ref (q 10)) (C := R1) (T := T1) (N := 6) hx hb hts (cw_sub iC1) hown hK hP 6 rfl rfl 3 (by decide) (hts _ (cw_in mw_54 rfl)) (fun _ h9 => h9) rfl z_s_stirOne_28 ?_
    refine lv_iload_n hx hb z_s_stirOne_31 rfl (lv_at hl 2 rfl) ?_
    refine xa_i hx hb hK hP 10 0 rfl rfl (k := g) (y := zsm v g) (hg) (by decide) (rfl) z_s_stirOne_32 ?_
    refine rdSNi (As := [.int (stirF (stirF b (zab v g)) 0), .int (zsm v g)]) (rest := []) ⟨hx, hb, hml, hown, hts⟩ (c_d_stir l (stirF (stirF b (zab v g)) 0) (zsm v g)) mw_117 (hN _ nw_15) mw_116 mw_1 yd_d_stir ⟨⟨rfl, rfl⟩, Nat.le_of_ble_eq_true rfl, Nat.le_of_ble_eq_true rfl⟩ ⟨Nat.zero_le _, Nat.zero_le _⟩ (pre_pure) rfl hl.1 rfl (Nat.le_of_ble_eq_true rfl) z_s_stirOne_33 (fun r_5 h_6 => ?_)
    subst h_6
    refine lv_istore_n (lv' := [(3, .int (stirF (stirF (stirF b (zab v g)) 0) (zsm v g))), (0, .ref (q 6)), (1, .int b), (2, .int (nI g))]) hx hb z_s_stirOne_36 rfl hl (by decide) rfl (fun ls hl => ?_)
    refine lv_iconst (v := 0) hx hb z_s_stirOne_37 (by decide) ?_
    refine lv_istore (lv' := [(4, .int 0), (3, .int (stirF (stirF (stirF b (zab v g)) 0) (zsm v g))), (0, .ref (q 6)), (1, .int b), (2, .int (nI g))]) hx hb z_s_stirOne_38 hl (by decide) rfl (fun ls hl => ?_)
    refine rd_loopI (nL := 5) (lN9 v g) (fun _ => True) (fun i => [(0, .ref (q 6)), (1, .int b), (2, .int (nI g)), (3, .int (txS v g (stirF (stirF (stirF b (zab v g)) 0) (zsm v g)) i)), (4, .int (nI i))]) ?_ ls trivial (lv_sub hl [2, 3, 4, 1, 0] rfl)
    intro i ls hle hI hl ih
    have hl : lv_has ls 5 [(0, .ref (q 6)), (1, .int b), (2, .int (nI g)), (3, .int (txS v g (stirF (stirF (stirF b (zab v g)) 0) (zsm v g)) i)), (4, .int (nI i))] := hl
    refine lv_iload hx hb z_s_stirOne_40 (lv_at hl 4 rfl) ?_
    refine lv_aload_n hx hb z_s_stirOne_42 rfl (lv_at hl 0 rfl) ?_
    refine va_get (D := (dC, dI)) (ci := 1) (v := .ref (q 11)) (C := R1) (T := T1) (N := 6) hx hb hts (cw_sub iC1) hown hK hP 6 rfl rfl 4 (by decide) (hts _ (cw_in mw_56 rfl)) (fun _ h9 => h9) rfl z_s_stirOne_43 ?_
    refine lv_iload_n hx hb z_s_stirOne_46 rfl (lv_at hl 2 rfl) ?_
    refine xa_i hx hb hK hP 11 0 rfl rfl (k := g) (y := nI (lN9 v g)) (hg) (by decide) ((hi.ln g hg).2) z_s_stirOne_47 ?_
    refine lv_icmp_ge (tgt := 69) hx hb z_s_stirOne_48 (by decide) (fun c_48 => ?_) (fun c_48 => ?_)
    · refine lv_iload_n hx hb z_s_stirOne_69 rfl (lv_at hl 3 rfl) ?_
      exact W.iret (v := txS v g (stirF (stirF (stirF b (zab v g)) 0) (zsm v g)) i) hx hb hr (fun t ht _ => ⟨txS v g (stirF (stirF (stirF b (zab v g)) 0) (zsm v g)) i, rfl, by rw [eq_of_nle hle (by omega) c_48, sOne, if_pos c_16], ht⟩) t_nil z_s_stirOne_70
    · have hlt : i < lN9 v g := nlt_of (by omega) c_48
      refine lv_iload_n hx hb z_s_stirOne_51 rfl (lv_at hl 3 rfl) ?_
      refine lv_aload_n hx hb z_s_stirOne_52 rfl (lv_at hl 0 rfl) ?_
      refine lv_iload_n hx hb z_s_stirOne_53 rfl (lv_at hl 2 rfl) ?_
      refine lv_iload hx hb z_s_stirOne_54 (lv_at hl 4 rfl) ?_
      refine rdVi (As := [.int (nI g), .int (nI i)]) (rest := [.int (txS v g (stirF (stirF (stirF b (zab v g)) 0) (zsm v g)) i)]) ⟨hx, hb, hml, hown, hts⟩ (c_s_byteAt l dC dI q cI cZ cB v g i (by omega)) mw_134 mw_131 mw_133 mp_2 mw_3 rfl yd_s_byteAt ⟨⟨rfl, rfl⟩, Nat.le_of_ble_eq_true rfl, Nat.le_of_ble_eq_true rfl⟩ ⟨Nat.zero_le _, Nat.zero_le _⟩ (RdC.preV hP hK hN (ci := 1) (q0 := 6) rfl rfl) rfl hl.1 rfl (Nat.le_of_ble_eq_true rfl) z_s_stirOne_56 (fun r_7 h_8 => ?_)
      subst h_8
      refine rdSNi (As := [.int (txS v g (stirF (stirF (stirF b (zab v g)) 0) (zsm v g)) i), .int (ztx v (g * 16 + i) &&& 255)]) (rest := []) ⟨hx, hb, hml, hown, hts⟩ (c_d_stir l (txS v g (stirF (stirF (stirF b (zab v g)) 0) (zsm v g)) i) (ztx v (g * 16 + i) &&& 255)) mw_117 (hN _ nw_15) mw_116 mw_1 yd_d_stir ⟨⟨rfl, rfl⟩, Nat.le_of_ble_eq_true rfl, Nat.le_of_ble_eq_true rfl⟩ ⟨Nat.zero_le _, Nat.zero_le _⟩ (pre_pure) rfl hl.1 rfl (Nat.le_of_ble_eq_true rfl) z_s_stirOne_59 (fun r_9 h_10 => ?_)
      subst h_10
      refine lv_istore_n (lv' := [(3, .int (stirF (txS v g (stirF (stirF (stirF b (zab v g)) 0) (zsm v g)) i) (ztx v (g * 16 + i) &&& 255))), (0, .ref (q 6)), (1, .int b), (2, .int (nI g)), (4, .int (nI i))]) hx hb z_s_stirOne_62 rfl hl (by decide) rfl (fun ls hl => ?_)
      refine lv_iinc (v := nI (i + 1)) (lv' := [(4, .int (nI (i + 1))), (3, .int (stirF (txS v g (stirF (stirF (stirF b (zab v g)) 0) (zsm v g)) i) (ztx v (g * 16 + i) &&& 255))), (0, .ref (q 6)), (1, .int b), (2, .int (nI g))]) hx hb z_s_stirOne_63 hl (k := 4) rfl (by exact nI_1 i) (by decide) rfl (fun ls hl => ?_)
      refine lv_goto (tgt := 40) hx hb z_s_stirOne_66 (by decide) ?_
      exact ih ls hlt trivial (by show lv_has ls 5 [(0, .ref (q 6)), (1, .int b), (2, .int (nI g)), (3, .int (txS v g (stirF (stirF (stirF b (zab v g)) 0) (zsm v g)) (i + 1))), (4, .int (nI (i + 1)))]; rw [txS]; exact lv_sub hl [2, 3, 4, 1, 0] rfl)
  · refine lv_iconst (v := 1) hx hb z_s_stirOne_19 (by decide) ?_
    refine lv_goto (tgt := 24) hx hb z_s_stirOne_20 (by decide) ?_
    refine rdSNi (As := [.int (stirF b (zab v g)), .int 1]) (rest := []) ⟨hx, hb, hml, hown, hts⟩ (c_d_stir l (stirF b (zab v g)) 1) mw_117 (hN _ nw_15) mw_116 mw_1 yd_d_stir ⟨⟨rfl, rfl⟩, Nat.le_of_ble_eq_true rfl, Nat.le_of_ble_eq_true rfl⟩ ⟨Nat.zero_le _, Nat.zero_le _⟩ (pre_pure) rfl hl.1 rfl (Nat.le_of_ble_eq_true rfl) z_s_stirOne_24 (fun r_11 h_12 => ?_)
    subst h_12
    refine lv_aload_n hx hb z_s_stirOne_27 rfl (lv_at hl 0 rfl) ?_
    refine va_get (D := (dC, dI)) (ci := 1) (v := .ref (q 10)) (C := R1) (T := T1) (N := 6) hx hb hts (cw_sub iC1) hown hK hP 6 rfl rfl 3 (by decide) (hts _ (cw_in mw_54 rfl)) (fun _ h9 => h9) rfl z_s_stirOne_28 ?_
    refine lv_iload_n hx hb z_s_stirOne_31 rfl (lv_at hl 2 rfl) ?_
    refine xa_i hx hb hK hP 10 0 rfl rfl (k := g) (y := zsm v g) (hg) (by decide) (rfl) z_s_stirOne_32 ?_
    refine rdSNi (As := [.int (stirF (stirF b (zab v g)) 1), .int (zsm v g)]) (rest := []) ⟨hx, hb, hml, hown, hts⟩ (c_d_stir l (stirF (stirF b (zab v g)) 1) (zsm v g)) mw_117 (hN _ nw_15) mw_116 mw_1 yd_d_stir ⟨⟨rfl, rfl⟩, Nat.le_of_ble_eq_true rfl, Nat.le_of_ble_eq_true rfl⟩ ⟨Nat.zero_le _, Nat.zero_le _⟩ (pre_pure) rfl hl.1 rfl (Nat.le_of_ble_eq_true rfl) z_s_stirOne_33 (fun r_13 h_14 => ?_)
    subst h_14
    refine lv_istore_n (lv' := [(3, .int (stirF (stirF (stirF b (zab v g)) 1) (zsm v g))), (0, .ref (q 6)), (1, .int b), (2, .int (nI g))]) hx hb z_s_stirOne_36 rfl hl (by decide) rfl (fun ls hl => ?_)
    refine lv_iconst (v := 0) hx hb z_s_stirOne_37 (by decide) ?_
    refine lv_istore (lv' := [(4, .int 0), (3, .int (stirF (stirF (stirF b (zab v g)) 1) (zsm v g))), (0, .ref (q 6)), (1, .int b), (2, .int (nI g))]) hx hb z_s_stirOne_38 hl (by decide) rfl (fun ls hl => ?_)
    refine rd_loopI (nL := 5) (lN9 v g) (fun _ => True) (fun i => [(0, .ref (q 6)), (1, .int b), (2, .int (nI g)), (3, .int (txS v g (stirF (stirF (stirF b (zab v g)) 1) (zsm v g)) i)), (4, .int (nI i))]) ?_ ls trivial (lv_sub hl [2, 3, 4, 1, 0] rfl)
    intro i ls hle hI hl ih
    have hl : lv_has ls 5 [(0, .ref (q 6)), (1, .int b), (2, .int (nI g)), (3, .int (txS v g (stirF (stirF (stirF b (zab v g)) 1) (zsm v g)) i)), (4, .int (nI i))] := hl
    refine lv_iload hx hb z_s_stirOne_40 (lv_at hl 4 rfl) ?_
    refine lv_aload_n hx hb z_s_stirOne_42 rfl (lv_at hl 0 rfl) ?_
    refine va_get (D := (dC, dI)) (ci := 1) (v := .ref (q 11)) (C := R1) (T := T1) (N := 6) hx hb hts (cw_sub iC1) hown hK hP 6 rfl rfl 4 (by decide) (hts _ (cw_in mw_56 rfl)) (fun _ h9 => h9) rfl z_s_stirOne_43 ?_
    refine lv_iload_n hx hb z_s_stirOne_46 rfl (lv_at hl 2 rfl) ?_
    refine xa_i hx hb hK hP 11 0 rfl rfl (k := g) (y := nI (lN9 v g)) (hg) (by decide) ((hi.ln g hg).2) z_s_stirOne_47 ?_
    refine lv_icmp_ge (tgt := 69) hx hb z_s_stirOne_48 (by decide) (fun c_48 => ?_) (fun c_48 => ?_)
    · refine lv_iload_n hx hb z_s_stirOne_69 rfl (lv_at hl 3 rfl) ?_
      exact W.iret (v := txS v g (stirF (stirF (stirF b (zab v g)) 1) (zsm v g)) i) hx hb hr (fun t ht _ => ⟨txS v g (stirF (stirF (stirF b (zab v g)) 1) (zsm v g)) i, rfl, by rw [eq_of_nle hle (by omega) c_48, sOne, if_neg c_16], ht⟩) t_nil z_s_stirOne_70
    · have hlt : i < lN9 v g := nlt_of (by omega) c_48
      refine lv_iload_n hx hb z_s_stirOne_51 rfl (lv_at hl 3 rfl) ?_
      refine lv_aload_n hx hb z_s_stirOne_52 rfl (lv_at hl 0 rfl) ?_
      refine lv_iload_n hx hb z_s_stirOne_53 rfl (lv_at hl 2 rfl) ?_
      refine lv_iload hx hb z_s_stirOne_54 (lv_at hl 4 rfl) ?_
      refine rdVi (As := [.int (nI g), .int (nI i)]) (rest := [.int (txS v g (stirF (stirF (stirF b (zab v g)) 1) (zsm v g)) i)]) ⟨hx, hb, hml, hown, hts⟩ (c_s_byteAt l dC dI q cI cZ cB v g i (by omega)) mw_134 mw_131 mw_133 mp_2 mw_3 rfl yd_s_byteAt ⟨⟨rfl, rfl⟩, Nat.le_of_ble_eq_true rfl, Nat.le_of_ble_eq_true rfl⟩ ⟨Nat.zero_le _, Nat.zero_le _⟩ (RdC.preV hP hK hN (ci := 1) (q0 := 6) rfl rfl) rfl hl.1 rfl (Nat.le_of_ble_eq_true rfl) z_s_stirOne_56 (fun r_15 h_16 => ?_)
      subst h_16
      refine rdSNi (As := [.int (txS v g (stirF (stirF (stirF b (zab v g)) 1) (zsm v g)) i), .int (ztx v (g * 16 + i) &&& 255)]) (rest := []) ⟨hx, hb, hml, hown, hts⟩ (c_d_stir l (txS v g (stirF (stirF (stirF b (zab v g)) 1) (zsm v g)) i) (ztx v (g * 16 + i) &&& 255)) mw_117 (hN _ nw_15) mw_116 mw_1 yd_d_stir ⟨⟨rfl, rfl⟩, Nat.le_of_ble_eq_true rfl, Nat.le_of_ble_eq_true rfl⟩ ⟨Nat.zero_le _, Nat.zero_le _⟩ (pre_pure) rfl hl.1 rfl (Nat.le_of_ble_eq_true rfl) z_s_stirOne_59 (fun r_17 h_18 => ?_)
      subst h_18
      refine lv_istore_n (lv' := [(3, .int (stirF (txS v g (stirF (stirF (stirF b (zab v g)) 1) (zsm v g)) i) (ztx v (g * 16 + i) &&& 255))), (0, .ref (q 6)), (1, .int b), (2, .int (nI g)), (4, .int (nI i))]) hx hb z_s_stirOne_62 rfl hl (by decide) rfl (fun ls hl => ?_)
      refine lv_iinc (v := nI (i + 1)) (lv' := [(4, .int (nI (i + 1))), (3, .int (stirF (txS v g (stirF (stirF (stirF b (zab v g)) 1) (zsm v g)) i) (ztx v (g * 16 + i) &&& 255))), (0, .ref (q 6)), (1, .int b), (2, .int (nI g))]) hx hb z_s_stirOne_63 hl (k := 4) rfl (by exact nI_1 i) (by decide) rfl (fun ls hl => ?_)
      refine lv_goto (tgt := 40) hx hb z_s_stirOne_66 (by decide) ?_
      exact ih ls hlt trivial (by show lv_has ls 5 [(0, .ref (q 6)), (1, .int b), (2, .int (nI g)), (3, .int (txS v g (stirF (stirF (stirF b (zab v g)) 1) (zsm v g)) (i + 1))), (4, .int (nI (i + 1)))]; rw [txS]; exact lv_sub hl [2, 3, 4, 1, 0] rfl)

set_option maxHeartbeats 4000000 in
set_option maxRecDepth 100000 in
theorem c_s_stirKind (l : Launch) (dC : Nat → ClassId) (dI : Nat → Nat → Nat) (q : Nat → Nat) (cI cZ cB : ClassId) (v : St) (hi : Inv v) (b : Int32) (k : Nat) (hk : k < 8) : Met l y_s_stirKind (Cond.code y_s_stirKind b_s_stirKind 5 (some .int) :: CW) { frames := 2, cells := 0, slots := 0, locals := 46 } (va_Pc [.ref (q 6), .int b, .int (nI k)] (RdC (dC, dI) (wC q cI cZ cB v) (tyC cI cZ cB))) (vp_Si (fun r : Int32 => r = sKi v b k (mN v k))) 0 0 (fun _ => False) := by
  refine cx_met (by decide) (Nat.le_of_ble_eq_true rfl) ?_
  intro p e s m below meth c hx hb hr hml hts hown hlocks hnm hC ls hl
  obtain ⟨hP, hK, hN⟩ := hC
  have hown : s.vm.findClass "ServiceDesk$Subjects" = some m.cls := hown
  have hl : lv_has ls 5 [(0, .ref (q 6)), (1, .int b), (2, .int (nI k))] := hl
  have hM := (hi.mk k hk).1
  refine lv_iload_n hx hb z_s_stirKind_0 rfl (lv_at hl 1 rfl) ?_
  refine lv_istore_n (lv' := [(3, .int b), (0, .ref (q 6)), (1, .int b), (2, .int (nI k))]) hx hb z_s_stirKind_1 rfl hl (by decide) rfl (fun ls hl => ?_)
  refine lv_iconst (v := 0) hx hb z_s_stirKind_2 (by decide) ?_
  refine lv_istore (lv' := [(4, .int 0), (3, .int b), (0, .ref (q 6)), (1, .int b), (2, .int (nI k))]) hx hb z_s_stirKind_3 hl (by decide) rfl (fun ls hl => ?_)
  refine rd_loopI (nL := 5) (mN v k) (fun _ => True) (fun i => [(0, .ref (q 6)), (1, .int b), (2, .int (nI k)), (3, .int (sKi v b k i)), (4, .int (nI i))]) ?_ ls trivial (lv_sub hl [2, 3, 4, 1, 0] rfl)
  intro i ls hle hI hl ih
  have hl : lv_has ls 5 [(0, .ref (q 6)), (1, .int b), (2, .int (nI k)), (3, .int (sKi v b k i)), (4, .int (nI i))] := hl
  refine lv_iload hx hb z_s_stirKind_5 (lv_at hl 4 rfl) ?_
  refine lv_aload_n hx hb z_s_stirKind_7 rfl (lv_at hl 0 rfl) ?_
  refine va_get (D := (dC, dI)) (ci := 1) (v := .ref (q 7)) (C := R1) (T := T1) (N := 6) hx hb hts (cw_sub iC1) hown hK hP 6 rfl rfl 0 (by decide) (hts _ (cw_in mw_48 rfl)) (fun _ h9 => h9) rfl z_s_stirKind_8 ?_
  refine lv_iload_n hx hb z_s_stirKind_11 rfl (lv_at hl 2 rfl) ?_
  refine xa_i hx hb hK hP 7 0 rfl rfl (k := k) (y := nI (mN v k)) (hk) (by decide) ((hi.mk k hk).2) z_s_stirKind_12 ?_
  refine lv_icmp_ge (tgt := 34) hx hb z_s_stirKind_13 (by decide) (fun c_13 => ?_) (fun c_13 => ?_)
  · refine lv_iload_n hx hb z_s_stirKind_34 rfl (lv_at hl 3 rfl) ?_
    exact W.iret (v := sKi v b k i) hx hb hr (fun t ht _ => ⟨sKi v b k i, rfl, by rw [eq_of_nle hle (by omega) c_13], ht⟩) t_nil z_s_stirKind_35
  · have hlt : i < mN v k := nlt_of (by omega) c_13
    refine lv_aload_n hx hb z_s_stirKind_16 rfl (lv_at hl 0 rfl) ?_
    refine lv_iload_n hx hb z_s_stirKind_17 rfl (lv_at hl 3 rfl) ?_
    refine lv_iload_n hx hb z_s_stirKind_18 rfl (lv_at hl 2 rfl) ?_
    refine lv_iload hx hb z_s_stirKind_19 (lv_at hl 4 rfl) ?_
    refine rdSNi (As := [.int (nI k), .int (nI i)]) (rest := [.int (sKi v b k i), .ref (q 6)]) ⟨hx, hb, hml, hown, hts⟩ (c_d_slotOf l k i) mw_125 (hN _ nw_14) mw_124 mw_1 yd_d_slotOf ⟨⟨rfl, rfl⟩, Nat.le_of_ble_eq_true rfl, Nat.le_of_ble_eq_true rfl⟩ ⟨Nat.zero_le _, Nat.zero_le _⟩ (pre_pure) rfl hl.1 rfl (Nat.le_of_ble_eq_true rfl) z_s_stirKind_21 (fun r_1 h_2 => ?_)
    subst h_2
    refine rdVi (As := [.int (sKi v b k i), .int (nI (k * 30 + i))]) (rest := []) ⟨hx, hb, hml, hown, hts⟩ (c_s_stirOne l dC dI q cI cZ cB v hi (sKi v b k i) (k * 30 + i) (by omega)) mw_129 mw_126 mw_128 mp_1 mw_3 rfl yd_s_stirOne ⟨⟨rfl, rfl⟩, Nat.le_of_ble_eq_true rfl, Nat.le_of_ble_eq_true rfl⟩ ⟨Nat.zero_le _, Nat.zero_le _⟩ (RdC.preV hP hK hN (ci := 1) (q0 := 6) rfl rfl) rfl hl.1 rfl (Nat.le_of_ble_eq_true rfl) z_s_stirKind_24 (fun r_3 h_4 => ?_)
    subst h_4
    refine lv_istore_n (lv' := [(3, .int (sOne v (sKi v b k i) (k * 30 + i))), (0, .ref (q 6)), (1, .int b), (2, .int (nI k)), (4, .int (nI i))]) hx hb z_s_stirKind_27 rfl hl (by decide) rfl (fun ls hl => ?_)
    refine lv_iinc (v := nI (i + 1)) (lv' := [(4, .int (nI (i + 1))), (3, .int (sOne v (sKi v b k i) (k * 30 + i))), (0, .ref (q 6)), (1, .int b), (2, .int (nI k))]) hx hb z_s_stirKind_28 hl (k := 4) rfl (by exact nI_1 i) (by decide) rfl (fun ls hl => ?_)
    refine lv_goto (tgt := 5) hx hb z_s_stirKind_31 (by decide) ?_
    exact ih ls hlt trivial (by show lv_has ls 5 [(0, .ref (q 6)), (1, .int b), (2, .int (nI k)), (3, .int (sKi v b k (i + 1))), (4, .int (nI (i + 1)))]; rw [sKi]; exact lv_sub hl [2, 3, 4, 1, 0] rfl)

set_option maxHeartbeats 4000000 in
set_option maxRecDepth 100000 in
theorem c_r_stirAll (l : Launch) (dC : Nat → ClassId) (dI : Nat → Nat → Nat) (q : Nat → Nat) (cI cZ cB : ClassId) (v : St) (hi : Inv v) (b : Int32) : Met l y_r_stirAll (Cond.code y_r_stirAll b_r_stirAll 4 (some .int) :: CW) { frames := 1, cells := 0, slots := 0, locals := 22 } (va_Pc [.ref (q 13), .int b] (RdC (dC, dI) (wC q cI cZ cB v) (tyC cI cZ cB))) (vp_Si (fun r : Int32 => r = sRo v b (kN v * 5))) 0 0 (fun _ => False) := by
  refine cx_met (by decide) (Nat.le_of_ble_eq_true rfl) ?_
  intro p e s m below meth c hx hb hr hml hts hown hlocks hnm hC ls hl
  obtain ⟨hP, hK, hN⟩ := hC
  have hown : s.vm.findClass "ServiceDesk$Rows" = some m.cls := hown
  have hl : lv_has ls 4 [(0, .ref (q 13)), (1, .int b)] := hl
  have hL := hi.kp.1
  refine lv_iload_n hx hb z_r_stirAll_0 rfl (lv_at hl 1 rfl) ?_
  refine lv_istore_n (lv' := [(2, .int b), (0, .ref (q 13)), (1, .int b)]) hx hb z_r_stirAll_1 rfl hl (by decide) rfl (fun ls hl => ?_)
  refine lv_iconst (v := 0) hx hb z_r_stirAll_2 (by decide) ?_
  refine lv_istore_n (lv' := [(3, .int 0), (2, .int b), (0, .ref (q 13)), (1, .int b)]) hx hb z_r_stirAll_3 rfl hl (by decide) rfl (fun ls hl => ?_)
  refine rd_loopI (nL := 4) (kN v * 5) (fun _ => True) (fun i => [(0, .ref (q 13)), (1, .int b), (2, .int (sRo v b i)), (3, .int (nI i))]) ?_ ls trivial (lv_sub hl [2, 3, 1, 0] rfl)
  intro i ls hle hI hl ih
  have hl : lv_has ls 4 [(0, .ref (q 13)), (1, .int b), (2, .int (sRo v b i)), (3, .int (nI i))] := hl
  refine lv_iload_n hx hb z_r_stirAll_4 rfl (lv_at hl 3 rfl) ?_
  refine lv_aload_n hx hb z_r_stirAll_5 rfl (lv_at hl 0 rfl) ?_
  refine va_get (D := (dC, dI)) (ci := 0) (v := .int (zkp v)) (C := R0) (T := T0) (N := 2) hx hb hts (cw_sub iC0) hown hK hP 13 rfl rfl 1 (by decide) (hts _ (cw_in mw_82 rfl)) (fun _ h9 => h9) rfl z_r_stirAll_6 ?_
  rw [hi.kp.2]
  refine lv_iconst (v := 5) hx hb z_r_stirAll_9 (by decide) ?_
  refine lv_imul hx hb z_r_stirAll_10 ?_
  rw [mul5_nI]
  refine lv_icmp_ge (tgt := 31) hx hb z_r_stirAll_11 (by decide) (fun c_11 => ?_) (fun c_11 => ?_)
  · refine lv_iload_n hx hb z_r_stirAll_31 rfl (lv_at hl 2 rfl) ?_
    exact W.iret (v := sRo v b i) hx hb hr (fun t ht _ => ⟨sRo v b i, rfl, by rw [eq_of_nle hle (by omega) c_11], ht⟩) t_nil z_r_stirAll_32
  · have hlt : i < kN v * 5 := nlt_of (by omega) c_11
    refine lv_iload_n hx hb z_r_stirAll_14 rfl (lv_at hl 2 rfl) ?_
    refine lv_aload_n hx hb z_r_stirAll_15 rfl (lv_at hl 0 rfl) ?_
    refine va_get (D := (dC, dI)) (ci := 0) (v := .ref (q 14)) (C := R0) (T := T0) (N := 2) hx hb hts (cw_sub iC0) hown hK hP 13 rfl rfl 0 (by decide) (hts _ (cw_in mw_80 rfl)) (fun _ h9 => h9) rfl z_r_stirAll_16 ?_
    refine lv_iload_n hx hb z_r_stirAll_19 rfl (lv_at hl 3 rfl) ?_
    refine xa_i hx hb hK hP 14 0 rfl rfl (k := i) (y := znu v i) (by omega) (by decide) (rfl) z_r_stirAll_20 ?_
    refine rdSNi (As := [.int (sRo v b i), .int (znu v i)]) (rest := []) ⟨hx, hb, hml, hown, hts⟩ (c_d_stir l (sRo v b i) (znu v i)) mw_117 (hN _ nw_17) mw_116 mw_1 yd_d_stir ⟨⟨rfl, rfl⟩, Nat.le_of_ble_eq_true rfl, Nat.le_of_ble_eq_true rfl⟩ ⟨Nat.zero_le _, Nat.zero_le _⟩ (pre_pure) rfl hl.1 rfl (Nat.le_of_ble_eq_true rfl) z_r_stirAll_21 (fun r_1 h_2 => ?_)
    subst h_2
    refine lv_istore_n (lv' := [(2, .int (stirF (sRo v b i) (znu v i))), (0, .ref (q 13)), (1, .int b), (3, .int (nI i))]) hx hb z_r_stirAll_24 rfl hl (by decide) rfl (fun ls hl => ?_)
    refine lv_iinc (v := nI (i + 1)) (lv' := [(3, .int (nI (i + 1))), (2, .int (stirF (sRo v b i) (znu v i))), (0, .ref (q 13)), (1, .int b)]) hx hb z_r_stirAll_25 hl (k := 3) rfl (by exact nI_1 i) (by decide) rfl (fun ls hl => ?_)
    refine lv_goto (tgt := 4) hx hb z_r_stirAll_28 (by decide) ?_
    exact ih ls hlt trivial (by show lv_has ls 4 [(0, .ref (q 13)), (1, .int b), (2, .int (sRo v b (i + 1))), (3, .int (nI (i + 1)))]; rw [sRo]; exact lv_sub hl [2, 3, 1, 0] rfl)

set_option maxHeartbeats 4000000 in
set_option maxRecDepth 100000 in
theorem c_d_book (l : Launch) (dC : Nat → ClassId) (dI : Nat → Nat → Nat) (q : Nat → Nat) (cI cZ cB : ClassId) (v : St) (hi : Inv v) : Met l y_d_book (Cond.code y_d_book b_d_book 3 (some .int) :: CW) { frames := 3, cells := 0, slots := 0, locals := 72 } (va_Pc [.ref (q 0)] (RdC (dC, dI) (wC q cI cZ cB v) (tyC cI cZ cB))) (vp_Si (fun r : Int32 => r = bookF v)) 0 0 (fun _ => False) := by
  refine cx_met (by decide) (Nat.le_of_ble_eq_true rfl) ?_
  intro p e s m below meth c hx hb hr hml hts hown hlocks hnm hC ls hl
  obtain ⟨hP, hK, hN⟩ := hC
  have hown : s.vm.findClass "ServiceDesk" = some m.cls := hown
  have hl : lv_has ls 3 [(0, .ref (q 0))] := hl
  refine lv_iconst (v := 0) hx hb z_d_book_0 (by decide) ?_
  refine lv_aload_n hx hb z_d_book_1 rfl (lv_at hl 0 rfl) ?_
  refine va_get (D := (dC, dI)) (ci := 3) (v := .int (zck v)) (C := R3) (T := T3) (N := 6) hx hb hts (cw_sub iC3) hown hK hP 0 rfl rfl 4 (by decide) (hts _ (cw_in mw_96 rfl)) (fun _ h9 => h9) rfl z_d_book_2 ?_
  refine rdSi (As := [.int 0, .int (zck v)]) (rest := []) ⟨hx, hb, hml, hown, hts⟩ (c_d_stir l 0 (zck v)) mw_117 mw_115 mw_116 mw_1 yd_d_stir ⟨⟨rfl, rfl⟩, Nat.le_of_ble_eq_true rfl, Nat.le_of_ble_eq_true rfl⟩ ⟨Nat.zero_le _, Nat.zero_le _⟩ (pre_pure) rfl hl.1 rfl (Nat.le_of_ble_eq_true rfl) z_d_book_5 (fun r_1 h_2 => ?_)
  subst h_2
  refine lv_aload_n hx hb z_d_book_8 rfl (lv_at hl 0 rfl) ?_
  refine va_get (D := (dC, dI)) (ci := 3) (v := .int (ztn v)) (C := R3) (T := T3) (N := 6) hx hb hts (cw_sub iC3) hown hK hP 0 rfl rfl 5 (by decide) (hts _ (cw_in mw_97 rfl)) (fun _ h9 => h9) rfl z_d_book_9 ?_
  refine rdSi (As := [.int (stirF 0 (zck v)), .int (ztn v)]) (rest := []) ⟨hx, hb, hml, hown, hts⟩ (c_d_stir l (stirF 0 (zck v)) (ztn v)) mw_117 mw_115 mw_116 mw_1 yd_d_stir ⟨⟨rfl, rfl⟩, Nat.le_of_ble_eq_true rfl, Nat.le_of_ble_eq_true rfl⟩ ⟨Nat.zero_le _, Nat.zero_le _⟩ (pre_pure) rfl hl.1 rfl (Nat.le_of_ble_eq_true rfl) z_d_book_12 (fun r_3 h_4 => ?_)
  subst h_4
  refine lv_istore_n (lv' := [(1, .int (stirF (stirF 0 (zck v)) (ztn v))), (0, .ref (q 0))]) hx hb z_d_book_15 rfl hl (by decide) rfl (fun ls hl => ?_)
  refine lv_iconst (v := 0) hx hb z_d_book_16 (by decide) ?_
  refine lv_istore_n (lv' := [(2, .int 0), (1, .int (stirF (stirF 0 (zck v)) (ztn v))), (0, .ref (q 0))]) hx hb z_d_book_17 rfl hl (by decide) rfl (fun ls hl => ?_)
  refine rd_loopI (nL := 3) (8) (fun _ => True) (fun i => [(0, .ref (q 0)), (1, .int (sBk v i)), (2, .int (nI i))]) ?_ ls trivial (lv_sub hl [2, 1, 0] rfl)
  intro i ls hle hI hl ih
  have hl : lv_has ls 3 [(0, .ref (q 0)), (1, .int (sBk v i)), (2, .int (nI i))] := hl
  refine lv_iload_n hx hb z_d_book_18 rfl (lv_at hl 2 rfl) ?_
  refine lv_bipush (v := 8) hx hb z_d_book_19 (by decide) ?_
  refine lv_icmp_ge (tgt := 49) hx hb z_d_book_21 (by decide) (fun c_21 => ?_) (fun c_21 => ?_)
  · obtain rfl : i = 8 := eq_of_nle hle (by decide) c_21
    refine lv_aload_n hx hb z_d_book_49 rfl (lv_at hl 0 rfl) ?_
    refine va_get (D := (dC, dI)) (ci := 3) (v := .ref (q 13)) (C := R3) (T := T3) (N := 6) hx hb hts (cw_sub iC3) hown hK hP 0 rfl rfl 3 (by decide) (hts _ (cw_in mw_95 rfl)) (fun _ h9 => h9) rfl z_d_book_50 ?_
    refine lv_iload_n hx hb z_d_book_53 rfl (lv_at hl 1 rfl) ?_
    refine rdVNi (As := [.int (sBk v 8)]) (rest := []) ⟨hx, hb, hml, hown, hts⟩ (c_r_stirAll l dC dI q cI cZ cB v hi (sBk v 8)) mw_138 (hN _ nw_16) mw_137 mp_3 mw_4 yd_r_stirAll ⟨⟨rfl, rfl⟩, Nat.le_of_ble_eq_true rfl, Nat.le_of_ble_eq_true rfl⟩ ⟨Nat.zero_le _, Nat.zero_le _⟩ (RdC.preV hP hK hN (ci := 0) (q0 := 13) rfl rfl) rfl hl.1 rfl (Nat.le_of_ble_eq_true rfl) z_d_book_54 (fun r_5 h_6 => ?_)
    subst h_6
    exact W.iret (v := sRo v (sBk v 8) (kN v * 5)) hx hb hr (fun t ht _ => ⟨sRo v (sBk v 8) (kN v * 5), rfl, rfl, ht⟩) t_nil z_d_book_57
  · have hlt : i < 8 := nlt_of (b := 8) (by omega) c_21
    refine lv_aload_n hx hb z_d_book_24 rfl (lv_at hl 0 rfl) ?_
    refine va_get (D := (dC, dI)) (ci := 3) (v := .ref (q 6)) (C := R3) (T := T3) (N := 6) hx hb hts (cw_sub iC3) hown hK hP 0 rfl rfl 2 (by decide) (hts _ (cw_in mw_94 rfl)) (fun _ h9 => h9) rfl z_d_book_25 ?_
    refine lv_iload_n hx hb z_d_book_28 rfl (lv_at hl 1 rfl) ?_
    refine lv_aload_n hx hb z_d_book_29 rfl (lv_at hl 0 rfl) ?_
    refine va_get (D := (dC, dI)) (ci := 3) (v := .ref (q 1)) (C := R3) (T := T3) (N := 6) hx hb hts (cw_sub iC3) hown hK hP 0 rfl rfl 0 (by decide) (hts _ (cw_in mw_92 rfl)) (fun _ h9 => h9) rfl z_d_book_30 ?_
    refine lv_iload_n hx hb z_d_book_33 rfl (lv_at hl 2 rfl) ?_
    refine xa_i hx hb hK hP 1 0 rfl rfl (k := i) (y := zka v i) (hlt) (by decide) (rfl) z_d_book_34 ?_
    refine rdSi (As := [.int (sBk v i), .int (zka v i)]) (rest := [.ref (q 6)]) ⟨hx, hb, hml, hown, hts⟩ (c_d_stir l (sBk v i) (zka v i)) mw_117 mw_115 mw_116 mw_1 yd_d_stir ⟨⟨rfl, rfl⟩, Nat.le_of_ble_eq_true rfl, Nat.le_of_ble_eq_true rfl⟩ ⟨Nat.zero_le _, Nat.zero_le _⟩ (pre_pure) rfl hl.1 rfl (Nat.le_of_ble_eq_true rfl) z_d_book_35 (fun r_7 h_8 => ?_)
    subst h_8
    refine lv_iload_n hx hb z_d_book_38 rfl (lv_at hl 2 rfl) ?_
    refine rdVNi (As := [.int (stirF (sBk v i) (zka v i)), .int (nI i)]) (rest := []) ⟨hx, hb, hml, hown, hts⟩ (c_s_stirKind l dC dI q cI cZ cB v hi (stirF (sBk v i) (zka v i)) i hlt) mw_122 (hN _ nw_13) mw_121 mp_0 mw_3 yd_s_stirKind ⟨⟨rfl, rfl⟩, Nat.le_of_ble_eq_true rfl, Nat.le_of_ble_eq_true rfl⟩ ⟨Nat.zero_le _, Nat.zero_le _⟩ (RdC.preV hP hK hN (ci := 1) (q0 := 6) rfl rfl) rfl hl.1 rfl (Nat.le_of_ble_eq_true rfl) z_d_book_39 (fun r_9 h_10 => ?_)
    subst h_10
    refine lv_istore_n (lv' := [(1, .int (sKi v (stirF (sBk v i) (zka v i)) i (mN v i))), (0, .ref (q 0)), (2, .int (nI i))]) hx hb z_d_book_42 rfl hl (by decide) rfl (fun ls hl => ?_)
    refine lv_iinc (v := nI (i + 1)) (lv' := [(2, .int (nI (i + 1))), (1, .int (sKi v (stirF (sBk v i) (zka v i)) i (mN v i))), (0, .ref (q 0))]) hx hb z_d_book_43 hl (k := 2) rfl (by exact nI_1 i) (by decide) rfl (fun ls hl => ?_)
    refine lv_goto (tgt := 18) hx hb z_d_book_46 (by decide) ?_
    exact ih ls hlt trivial (by show lv_has ls 3 [(0, .ref (q 0)), (1, .int (sBk v (i + 1))), (2, .int (nI (i + 1)))]; rw [sBk]; exact lv_sub hl [2, 1, 0] rfl)

set_option maxHeartbeats 4000000 in
set_option maxRecDepth 100000 in
theorem c_d_refusalOf (l : Launch) (dC : Nat → ClassId) (dI : Nat → Nat → Nat) (q : Nat → Nat) (cI cZ cB : ClassId) (v : St) (hi : Inv v) (x y z a : Int32) : Met l y_d_refusalOf (Cond.code y_d_refusalOf b_d_refusalOf 5 (some .int) :: CW) { frames := 2, cells := 0, slots := 0, locals := 45 } (va_Pc [.ref (q 0), .int x, .int y, .int z, .int a] (RdC (dC, dI) (wC q cI cZ cB v) (tyC cI cZ cB))) (vp_Si (fun r : Int32 => (r = 13 ∧ ¬ okC v x y z) ∨ (r = 14 ∧ okC v x y z ∧ ¬ aOk a) ∨ ∃ k j n, k < 8 ∧ j < mN v k ∧ n < 8 ∧ x = nI k ∧ y = nI j ∧ z = nI n ∧ zmd v (k * 8 + n) ≠ 0 ∧ aOk a ∧ ((r = 15 ∧ zop v (k * 30 + j) = 0) ∨ (r = 0 ∧ zop v (k * 30 + j) ≠ 0)))) 0 0 (fun _ => False) := by
  refine cx_met (by decide) (Nat.le_of_ble_eq_true rfl) ?_
  intro p e s m below meth c hx hb hr hml hts hown hlocks hnm hC ls hl
  obtain ⟨hP, hK, hN⟩ := hC
  have hown : s.vm.findClass "ServiceDesk" = some m.cls := hown
  have hl : lv_has ls 5 [(0, .ref (q 0)), (1, .int x), (2, .int y), (3, .int z), (4, .int a)] := hl
  refine lv_aload_n hx hb z_d_refusalOf_0 rfl (lv_at hl 0 rfl) ?_
  refine lv_iload_n hx hb z_d_refusalOf_1 rfl (lv_at hl 1 rfl) ?_
  refine lv_iload_n hx hb z_d_refusalOf_2 rfl (lv_at hl 2 rfl) ?_
  refine rdVi (As := [.int x, .int y]) (rest := []) ⟨hx, hb, hml, hown, hts⟩ (c_d_isSubject l dC dI q cI cZ cB v hi x y) mw_255 mw_252 mw_254 mp_7 mw_1 rfl yd_d_isSubject ⟨⟨rfl, rfl⟩, Nat.le_of_ble_eq_true rfl, Nat.le_of_ble_eq_true rfl⟩ ⟨Nat.zero_le _, Nat.zero_le _⟩ (RdC.preV hP hK hN (ci := 3) (q0 := 0) rfl rfl) rfl hl.1 rfl (Nat.le_of_ble_eq_true rfl) z_d_refusalOf_3 (fun r_1 h_2 => ?_)
  rcases h_2 with ⟨rfl, h_2⟩ | ⟨rfl, h_2⟩
  · obtain ⟨k, j, hk, hj, rfl, rfl⟩ := h_2
    have hM := (hi.mk k hk).1
    refine lv_if_eq (tgt := 33) hx hb z_d_refusalOf_6 (by decide) (fun c9 => absurd c9 (by decide)) (fun _ => ?_)
    refine lv_iload_n hx hb z_d_refusalOf_9 rfl (lv_at hl 3 rfl) ?_
    refine rdSi (As := [.int z]) (rest := []) ⟨hx, hb, hml, hown, hts⟩ (c_d_isVerb l z) mw_293 mw_291 mw_292 mw_1 yd_d_isVerb ⟨⟨rfl, rfl⟩, Nat.le_of_ble_eq_true rfl, Nat.le_of_ble_eq_true rfl⟩ ⟨Nat.zero_le _, Nat.zero_le _⟩ (pre_pure) rfl hl.1 rfl (Nat.le_of_ble_eq_true rfl) z_d_refusalOf_10 (fun r_3 h_4 => ?_)
    rcases h_4 with ⟨rfl, h_4⟩ | ⟨rfl, h_4⟩
    · obtain ⟨n, hn, rfl⟩ := h_4
      refine lv_if_eq (tgt := 33) hx hb z_d_refusalOf_13 (by decide) (fun c9 => absurd c9 (by decide)) (fun _ => ?_)
      refine lv_aload_n hx hb z_d_refusalOf_16 rfl (lv_at hl 0 rfl) ?_
      refine va_get (D := (dC, dI)) (ci := 3) (v := .ref (q 2)) (C := R3) (T := T3) (N := 6) hx hb hts (cw_sub iC3) hown hK hP 0 rfl rfl 1 (by decide) (hts _ (cw_in mw_93 rfl)) (fun _ h9 => h9) rfl z_d_refusalOf_17 ?_
      refine va_getN (D := (dC, dI)) (ci := 2) (v := .ref (q 3)) (C := R2) (T := T2) (N := 3) hx hb hts (cw_sub iC2) hown hK hP 2 rfl rfl 0 (by decide) (va_Nw.use rfl (hN _ nw_1)) (fun _ h9 => h9) rfl z_d_refusalOf_20 ?_
      refine lv_iload_n hx hb z_d_refusalOf_23 rfl (lv_at hl 1 rfl) ?_
      refine lv_bipush (v := 8) hx hb z_d_refusalOf_24 (by decide) ?_
      refine lv_imul hx hb z_d_refusalOf_26 ?_
      refine lv_iload_n hx hb z_d_refusalOf_27 rfl (lv_at hl 3 rfl) ?_
      refine lv_iadd hx hb z_d_refusalOf_28 ?_
      rw [mul8_nI]
      refine xa_i hx hb hK hP 3 0 rfl rfl (k := (k * 8 + n)) (y := zmd v (k * 8 + n)) (by omega) (by decide) (rfl) z_d_refusalOf_29 ?_
      refine lv_if_ne (tgt := 36) hx hb z_d_refusalOf_30 (by decide) (fun c_30 => ?_) (fun c_30 => ?_)
      · refine lv_iload hx hb z_d_refusalOf_36 (lv_at hl 4 rfl) ?_
        refine lv_i2l hx hb z_d_refusalOf_38 rfl ?_
        refine lv_ldc2 (v := 1000000) hx hb hown (hts _ (cw_in mw_330 rfl)) z_d_refusalOf_39 ?_
        refine rdSi (As := [.long a.toInt64, .long 1000000]) (rest := []) ⟨hx, hb, hml, hown, hts⟩ (c_d_isWithin l a.toInt64 1000000) mw_298 mw_296 mw_297 mw_1 yd_d_isWithin ⟨⟨rfl, rfl⟩, Nat.le_of_ble_eq_true rfl, Nat.le_of_ble_eq_true rfl⟩ ⟨Nat.zero_le _, Nat.zero_le _⟩ (pre_pure) rfl hl.1 rfl (Nat.le_of_ble_eq_true rfl) z_d_refusalOf_42 (fun r_5 h_6 => ?_)
        rcases h_6 with ⟨rfl, h_6⟩ | ⟨rfl, h_6⟩
        · refine lv_if_ne (tgt := 51) hx hb z_d_refusalOf_45 (by decide) (fun _ => ?_) (fun c9 => absurd c9 (by decide))
          refine lv_aload_n hx hb z_d_refusalOf_51 rfl (lv_at hl 0 rfl) ?_
          refine va_get (D := (dC, dI)) (ci := 3) (v := .ref (q 6)) (C := R3) (T := T3) (N := 6) hx hb hts (cw_sub iC3) hown hK hP 0 rfl rfl 2 (by decide) (hts _ (cw_in mw_94 rfl)) (fun _ h9 => h9) rfl z_d_refusalOf_52 ?_
          refine va_getN (D := (dC, dI)) (ci := 1) (v := .ref (q 9)) (C := R1) (T := T1) (N := 6) hx hb hts (cw_sub iC1) hown hK hP 6 rfl rfl 2 (by decide) (va_Nw.use rfl (hN _ nw_7)) (fun _ h9 => h9) rfl z_d_refusalOf_55 ?_
          refine lv_iload_n hx hb z_d_refusalOf_58 rfl (lv_at hl 1 rfl) ?_
          refine lv_iload_n hx hb z_d_refusalOf_59 rfl (lv_at hl 2 rfl) ?_
          refine rdSi (As := [.int (nI k), .int (nI j)]) (rest := [.ref (q 9)]) ⟨hx, hb, hml, hown, hts⟩ (c_d_slotOf l k j) mw_125 mw_261 mw_124 mw_1 yd_d_slotOf ⟨⟨rfl, rfl⟩, Nat.le_of_ble_eq_true rfl, Nat.le_of_ble_eq_true rfl⟩ ⟨Nat.zero_le _, Nat.zero_le _⟩ (pre_pure) rfl hl.1 rfl (Nat.le_of_ble_eq_true rfl) z_d_refusalOf_60 (fun r_7 h_8 => ?_)
          subst h_8
          refine xa_z hx hb hK hP 9 1 rfl rfl (k := (k * 30 + j)) (y := zop v (k * 30 + j)) (by omega) (by decide) (rfl) z_d_refusalOf_63 ?_
          refine lv_if_eq (tgt := 71) hx hb z_d_refusalOf_64 (by decide) (fun c_64 => ?_) (fun c_64 => ?_)
          · refine lv_bipush (v := 15) hx hb z_d_refusalOf_71 (by decide) ?_
            exact W.iret (v := 15) hx hb hr (fun t ht _ => ⟨15, rfl, Or.inr (Or.inr ⟨k, j, n, hk, hj, hn, rfl, rfl, rfl, c_30, aOk_iff.mp h_6, Or.inl ⟨rfl, c_64⟩⟩), ht⟩) t_nil z_d_refusalOf_73
          · refine lv_iconst (v := 0) hx hb z_d_refusalOf_67 (by decide) ?_
            refine lv_goto (tgt := 73) hx hb z_d_refusalOf_68 (by decide) ?_
            exact W.iret (v := 0) hx hb hr (fun t ht _ => ⟨0, rfl, Or.inr (Or.inr ⟨k, j, n, hk, hj, hn, rfl, rfl, rfl, c_30, aOk_iff.mp h_6, Or.inr ⟨rfl, c_64⟩⟩), ht⟩) t_nil z_d_refusalOf_73
        · refine lv_if_ne (tgt := 51) hx hb z_d_refusalOf_45 (by decide) (fun c9 => absurd rfl c9) (fun _ => ?_)
          refine lv_bipush (v := 14) hx hb z_d_refusalOf_48 (by decide) ?_
          exact W.iret (v := 14) hx hb hr (fun t ht _ => ⟨14, rfl, Or.inr (Or.inl ⟨rfl, ⟨k, j, n, hk, hj, hn, rfl, rfl, rfl, c_30⟩, fun h => h_6 (aOk_iff.mpr h)⟩), ht⟩) t_nil z_d_refusalOf_50
      · refine lv_bipush (v := 13) hx hb z_d_refusalOf_33 (by decide) ?_
        exact W.iret (v := 13) hx hb hr (fun t ht _ => ⟨13, rfl, Or.inl ⟨rfl, okC_no3 hk hn c_30⟩, ht⟩) t_nil z_d_refusalOf_35
    · refine lv_if_eq (tgt := 33) hx hb z_d_refusalOf_13 (by decide) (fun _ => ?_) (fun c9 => absurd (by decide) c9)
      refine lv_bipush (v := 13) hx hb z_d_refusalOf_33 (by decide) ?_
      exact W.iret (v := 13) hx hb hr (fun t ht _ => ⟨13, rfl, Or.inl ⟨rfl, okC_no2 h_4⟩, ht⟩) t_nil z_d_refusalOf_35
  · refine lv_if_eq (tgt := 33) hx hb z_d_refusalOf_6 (by decide) (fun _ => ?_) (fun c9 => absurd (by decide) c9)
    refine lv_bipush (v := 13) hx hb z_d_refusalOf_33 (by decide) ?_
    exact W.iret (v := 13) hx hb hr (fun t ht _ => ⟨13, rfl, Or.inl ⟨rfl, okC_no1 h_2⟩, ht⟩) t_nil z_d_refusalOf_35

set_option maxHeartbeats 4000000 in
set_option maxRecDepth 100000 in
theorem c_d_sumOrFailure (l : Launch) (x : Int64) : Met l y_d_sumOrFailure (Cond.code y_d_sumOrFailure b_d_sumOrFailure 2 (some .long) :: CW) { frames := 1, cells := 0, slots := 0, locals := 23 } (va_Pc [.long x] (fun _ => True)) (vp_Sl (fun r : Int64 => r = suF x)) 0 0 (fun _ => False) := by
  refine cx_met (by decide) (Nat.le_of_ble_eq_true rfl) ?_
  intro p e s m below meth c hx hb hr hml hts hown hlocks hnm hC ls hl
  have hown : s.vm.findClass "ServiceDesk" = some m.cls := hown
  have hl : lv_has ls 2 [(0, .long x)] := hl
  refine lv_lload_n hx hb z_d_sumOrFailure_0 rfl (lv_at hl 0 rfl) ?_
  refine lv_ldc2 (v := 1000000000) hx hb hown (hts _ (cw_in mw_348 rfl)) z_d_sumOrFailure_1 ?_
  refine rdSi (As := [.long x, .long 1000000000]) (rest := []) ⟨hx, hb, hml, hown, hts⟩ (c_d_isWithin l x 1000000000) mw_298 mw_296 mw_297 mw_1 yd_d_isWithin ⟨⟨rfl, rfl⟩, Nat.le_of_ble_eq_true rfl, Nat.le_of_ble_eq_true rfl⟩ ⟨Nat.zero_le _, Nat.zero_le _⟩ (pre_pure) rfl hl.1 rfl (Nat.le_of_ble_eq_true rfl) z_d_sumOrFailure_4 (fun r_1 h_2 => ?_)
  rcases h_2 with ⟨rfl, h_2⟩ | ⟨rfl, h_2⟩
  · refine lv_if_eq (tgt := 14) hx hb z_d_sumOrFailure_7 (by decide) (fun c9 => absurd c9 (by decide)) (fun _ => ?_)
    refine lv_lload_n hx hb z_d_sumOrFailure_10 rfl (lv_at hl 0 rfl) ?_
    refine lv_goto (tgt := 17) hx hb z_d_sumOrFailure_11 (by decide) ?_
    exact W.lret (v := x) hx hb hr (fun t ht _ => ⟨x, rfl, by rw [suF, if_pos h_2], ht⟩) t_nil z_d_sumOrFailure_17
  · refine lv_if_eq (tgt := 14) hx hb z_d_sumOrFailure_7 (by decide) (fun _ => ?_) (fun c9 => absurd (by decide) c9)
    refine lv_ldc2 (v := (-9000000000009)) hx hb hown (hts _ (cw_in mw_349 rfl)) z_d_sumOrFailure_14 ?_
    exact W.lret (v := (-9000000000009)) hx hb hr (fun t ht _ => ⟨(-9000000000009), rfl, by rw [suF, if_neg h_2], ht⟩) t_nil z_d_sumOrFailure_17

set_option maxHeartbeats 4000000 in
set_option maxRecDepth 100000 in
theorem c_d_answerToPass (l : Launch) (dC : Nat → ClassId) (dI : Nat → Nat → Nat) (q : Nat → Nat) (cI cZ cB : ClassId) (v : St) (y a : Int32) (h9 : y = -1 ∨ ∃ g, g < 240 ∧ y = nI g) : Met l y_d_answerToPass (Cond.code y_d_answerToPass b_d_answerToPass 3 (some .long) :: CW) { frames := 2, cells := 0, slots := 0, locals := 44 } (va_Pc [.ref (q 0), .int y, .int a] (RdC (dC, dI) (wC q cI cZ cB v) (tyC cI cZ cB))) (vp_Sl (fun r : Int64 => (y = -1 ∧ r = -9000000000011) ∨ ∃ g, g < 240 ∧ y = nI g ∧ r = suF ((zsm v g).toInt64 + a.toInt64))) 0 0 (fun _ => False) := by
  refine cx_met (by decide) (Nat.le_of_ble_eq_true rfl) ?_
  intro p e s m below meth c hx hb hr hml hts hown hlocks hnm hC ls hl
  obtain ⟨hP, hK, hN⟩ := hC
  have hown : s.vm.findClass "ServiceDesk" = some m.cls := hown
  have hl : lv_has ls 3 [(0, .ref (q 0)), (1, .int y), (2, .int a)] := hl
  refine lv_iload_n hx hb z_d_answerToPass_0 rfl (lv_at hl 1 rfl) ?_
  refine lv_iconst (v := (-1)) hx hb z_d_answerToPass_1 (by decide) ?_
  refine lv_icmp_ne (tgt := 9) hx hb z_d_answerToPass_2 (by decide) (fun c_2 => ?_) (fun c_2 => ?_)
  · obtain ⟨g, hg, rfl⟩ := h9.resolve_left c_2
    refine lv_aload_n hx hb z_d_answerToPass_9 rfl (lv_at hl 0 rfl) ?_
    refine va_get (D := (dC, dI)) (ci := 3) (v := .ref (q 6)) (C := R3) (T := T3) (N := 6) hx hb hts (cw_sub iC3) hown hK hP 0 rfl rfl 2 (by decide) (hts _ (cw_in mw_94 rfl)) (fun _ h9 => h9) rfl z_d_answerToPass_10 ?_
    refine va_getN (D := (dC, dI)) (ci := 1) (v := .ref (q 10)) (C := R1) (T := T1) (N := 6) hx hb hts (cw_sub iC1) hown hK hP 6 rfl rfl 3 (by decide) (va_Nw.use rfl (hN _ nw_8)) (fun _ h9 => h9) rfl z_d_answerToPass_13 ?_
    refine lv_iload_n hx hb z_d_answerToPass_16 rfl (lv_at hl 1 rfl) ?_
    refine xa_i hx hb hK hP 10 0 rfl rfl (k := g) (y := zsm v g) (hg) (by decide) (rfl) z_d_answerToPass_17 ?_
    refine lv_i2l hx hb z_d_answerToPass_18 rfl ?_
    refine lv_iload_n hx hb z_d_answerToPass_19 rfl (lv_at hl 2 rfl) ?_
    refine lv_i2l hx hb z_d_answerToPass_20 rfl ?_
    refine lv_ladd hx hb z_d_answerToPass_21 ?_
    refine rdSl (As := [.long (((zsm v g).toInt64) + a.toInt64)]) (rest := []) ⟨hx, hb, hml, hown, hts⟩ (c_d_sumOrFailure l (((zsm v g).toInt64) + a.toInt64)) mw_347 mw_345 mw_346 mw_1 yd_d_sumOrFailure ⟨⟨rfl, rfl⟩, Nat.le_of_ble_eq_true rfl, Nat.le_of_ble_eq_true rfl⟩ ⟨Nat.zero_le _, Nat.zero_le _⟩ (pre_pure) rfl hl.1 rfl (Nat.le_of_ble_eq_true rfl) z_d_answerToPass_22 (fun r_1 h_2 => ?_)
    subst h_2
    exact W.lret (v := suF (((zsm v g).toInt64) + a.toInt64)) hx hb hr (fun t ht _ => ⟨suF (((zsm v g).toInt64) + a.toInt64), rfl, Or.inr ⟨g, hg, rfl, rfl⟩, ht⟩) t_nil z_d_answerToPass_25
  · refine lv_ldc2 (v := (-9000000000011)) hx hb hown (hts _ (cw_in mw_361 rfl)) z_d_answerToPass_5 ?_
    exact W.lret (v := (-9000000000011)) hx hb hr (fun t ht _ => ⟨(-9000000000011), rfl, Or.inl ⟨c_2, rfl⟩, ht⟩) t_nil z_d_answerToPass_8

set_option maxHeartbeats 4000000 in
set_option maxRecDepth 100000 in
theorem c_d_answerToClose (l : Launch) (dC : Nat → ClassId) (dI : Nat → Nat → Nat) (q : Nat → Nat) (cI cZ cB : ClassId) (v : St) (hi : Inv v) (k j : Nat) (hk : k < 8) : Met l y_d_answerToClose (Cond.code y_d_answerToClose b_d_answerToClose 3 (some .long) :: CW) { frames := 3, cells := 0, slots := 0, locals := 72 } (va_Pc [.ref (q 0), .int (nI k), .int (nI j)] (RdC (dC, dI) (wC q cI cZ cB v) (tyC cI cZ cB))) (vp_Sl (fun r : Int64 => r = if 0 < onC v (nI k) (nI j) 8 then -9000000000012 else (nI (opC v k (mN v k)) - 1).toInt64)) 0 0 (fun _ => False) := by
  refine cx_met (by decide) (Nat.le_of_ble_eq_true rfl) ?_
  intro p e s m below meth c hx hb hr hml hts hown hlocks hnm hC ls hl
  obtain ⟨hP, hK, hN⟩ := hC
  have hown : s.vm.findClass "ServiceDesk" = some m.cls := hown
  have hl : lv_has ls 3 [(0, .ref (q 0)), (1, .int (nI k)), (2, .int (nI j))] := hl
  refine lv_aload_n hx hb z_d_answerToClose_0 rfl (lv_at hl 0 rfl) ?_
  refine lv_iload_n hx hb z_d_answerToClose_1 rfl (lv_at hl 1 rfl) ?_
  refine lv_iload_n hx hb z_d_answerToClose_2 rfl (lv_at hl 2 rfl) ?_
  refine rdVi (As := [.int (nI k), .int (nI j)]) (rest := []) ⟨hx, hb, hml, hown, hts⟩ (c_d_openOnesUnder l dC dI q cI cZ cB v hi (nI k) (nI j)) mw_369 mw_366 mw_368 mp_17 mw_1 rfl yd_d_openOnesUnder ⟨⟨rfl, rfl⟩, Nat.le_of_ble_eq_true rfl, Nat.le_of_ble_eq_true rfl⟩ ⟨Nat.zero_le _, Nat.zero_le _⟩ (RdC.preV hP hK hN (ci := 3) (q0 := 0) rfl rfl) rfl hl.1 rfl (Nat.le_of_ble_eq_true rfl) z_d_answerToClose_3 (fun r_1 h_2 => ?_)
  subst h_2
  refine lv_if_le (tgt := 13) hx hb z_d_answerToClose_6 (by decide) (fun c_6 => ?_) (fun c_6 => ?_)
  · refine lv_aload_n hx hb z_d_answerToClose_13 rfl (lv_at hl 0 rfl) ?_
    refine va_get (D := (dC, dI)) (ci := 3) (v := .ref (q 6)) (C := R3) (T := T3) (N := 6) hx hb hts (cw_sub iC3) hown hK hP 0 rfl rfl 2 (by decide) (hts _ (cw_in mw_94 rfl)) (fun _ h9 => h9) rfl z_d_answerToClose_14 ?_
    refine lv_iload_n hx hb z_d_answerToClose_17 rfl (lv_at hl 1 rfl) ?_
    refine rdVNi (As := [.int (nI k)]) (rest := []) ⟨hx, hb, hml, hown, hts⟩ (c_s_openOf l dC dI q cI cZ cB v hi k hk) mw_378 (hN _ nw_22) mw_377 mp_19 mw_3 yd_s_openOf ⟨⟨rfl, rfl⟩, Nat.le_of_ble_eq_true rfl, Nat.le_of_ble_eq_true rfl⟩ ⟨Nat.zero_le _, Nat.zero_le _⟩ (RdC.preV hP hK hN (ci := 1) (q0 := 6) rfl rfl) rfl hl.1 rfl (Nat.le_of_ble_eq_true rfl) z_d_answerToClose_18 (fun r_3 h_4 => ?_)
    subst h_4
    refine lv_iconst (v := 1) hx hb z_d_answerToClose_21 (by decide) ?_
    refine lv_isub hx hb z_d_answerToClose_22 ?_
    refine lv_i2l hx hb z_d_answerToClose_23 rfl ?_
    exact W.lret (v := ((nI (opC v k (mN v k))) - 1).toInt64) hx hb hr (fun t ht _ => ⟨((nI (opC v k (mN v k))) - 1).toInt64, rfl, by rw [if_neg (npos_of_le (by have := onC_le (v := v) (x := nI k) (a := nI j) hi 8 (by omega); omega) c_6)], ht⟩) t_nil z_d_answerToClose_24
  · refine lv_ldc2 (v := (-9000000000012)) hx hb hown (hts _ (cw_in mw_374 rfl)) z_d_answerToClose_9 ?_
    exact W.lret (v := (-9000000000012)) hx hb hr (fun t ht _ => ⟨(-9000000000012), rfl, by rw [if_pos (pos_of_nle c_6)], ht⟩) t_nil z_d_answerToClose_12

set_option maxHeartbeats 4000000 in
set_option maxRecDepth 100000 in
theorem c_d_answerTo (l : Launch) (dC : Nat → ClassId) (dI : Nat → Nat → Nat) (q : Nat → Nat) (cI cZ cB : ClassId) (v : St) (hi : Inv v) (k j n : Nat) (hk : k < 8) (hj : j < mN v k) (hn : n < 8) (a : Int32) : Met l y_d_answerTo (Cond.code y_d_answerTo b_d_answerTo 12 (some .long) :: CW) { frames := 4, cells := 0, slots := 0, locals := 98 } (va_Pc [.ref (q 0), .int (nI k), .int (nI j), .int (nI n), .int a] (RdC (dC, dI) (wC q cI cZ cB v) (tyC cI cZ cB))) (vp_Sl (fun r : Int64 => r = anF v k j n a)) 0 0 (fun _ => False) := by
  refine cx_met (by decide) (Nat.le_of_ble_eq_true rfl) ?_
  intro p e s m below meth c hx hb hr hml hts hown hlocks hnm hC ls hl
  obtain ⟨hP, hK, hN⟩ := hC
  have hown : s.vm.findClass "ServiceDesk" = some m.cls := hown
  have hl : lv_has ls 12 [(0, .ref (q 0)), (1, .int (nI k)), (2, .int (nI j)), (3, .int (nI n)), (4, .int a)] := hl
  have hM := (hi.mk k hk).1
  refine lv_iload_n hx hb z_d_answerTo_0 rfl (lv_at hl 1 rfl) ?_
  refine lv_bipush (v := 8) hx hb z_d_answerTo_1 (by decide) ?_
  refine lv_imul hx hb z_d_answerTo_3 ?_
  refine lv_iload_n hx hb z_d_answerTo_4 rfl (lv_at hl 3 rfl) ?_
  refine lv_iadd hx hb z_d_answerTo_5 ?_
  rw [mul8_nI]
  refine lv_istore (lv' := [(5, .int (nI (k * 8 + n))), (0, .ref (q 0)), (1, .int (nI k)), (2, .int (nI j)), (3, .int (nI n)), (4, .int a)]) hx hb z_d_answerTo_6 hl (by decide) rfl (fun ls hl => ?_)
  refine lv_aload_n hx hb z_d_answerTo_8 rfl (lv_at hl 1 rfl) ?_
  refine va_get (D := (dC, dI)) (ci := 3) (v := .ref (q 2)) (C := R3) (T := T3) (N := 6) hx hb hts (cw_sub iC3) hown hK hP 0 rfl rfl 1 (by decide) (hts _ (cw_in mw_93 rfl)) (fun _ h9 => h9) rfl z_d_answerTo_9 ?_
  refine va_getN (D := (dC, dI)) (ci := 2) (v := .ref (q 4)) (C := R2) (T := T2) (N := 3) hx hb hts (cw_sub iC2) hown hK hP 2 rfl rfl 1 (by decide) (va_Nw.use rfl (hN _ nw_2)) (fun _ h9 => h9) rfl z_d_answerTo_12 ?_
  refine lv_iload hx hb z_d_answerTo_15 (lv_at hl 0 rfl) ?_
  refine xa_i hx hb hK hP 4 0 rfl rfl (k := (k * 8 + n)) (y := zas v (k * 8 + n)) (by omega) (by decide) (rfl) z_d_answerTo_17 ?_
  refine lv_i2l hx hb z_d_answerTo_18 rfl ?_
  refine lv_lstore (lv' := [(6, .long ((zas v (k * 8 + n)).toInt64)), (5, .int (nI (k * 8 + n))), (0, .ref (q 0)), (1, .int (nI k)), (2, .int (nI j)), (3, .int (nI n)), (4, .int a)]) hx hb z_d_answerTo_19 hl (by decide) rfl (fun ls hl => ?_)
  refine lv_aload_n hx hb z_d_answerTo_21 rfl (lv_at hl 2 rfl) ?_
  refine va_get (D := (dC, dI)) (ci := 3) (v := .ref (q 2)) (C := R3) (T := T3) (N := 6) hx hb hts (cw_sub iC3) hown hK hP 0 rfl rfl 1 (by decide) (hts _ (cw_in mw_93 rfl)) (fun _ h9 => h9) rfl z_d_answerTo_22 ?_
  refine va_getN (D := (dC, dI)) (ci := 2) (v := .ref (q 5)) (C := R2) (T := T2) (N := 3) hx hb hts (cw_sub iC2) hown hK hP 2 rfl rfl 2 (by decide) (va_Nw.use rfl (hN _ nw_3)) (fun _ h9 => h9) rfl z_d_answerTo_25 ?_
  refine lv_iload hx hb z_d_answerTo_28 (lv_at hl 1 rfl) ?_
  refine xa_i hx hb hK hP 5 0 rfl rfl (k := (k * 8 + n)) (y := zbs v (k * 8 + n)) (by omega) (by decide) (rfl) z_d_answerTo_30 ?_
  refine lv_i2l hx hb z_d_answerTo_31 rfl ?_
  refine lv_lstore (lv' := [(8, .long ((zbs v (k * 8 + n)).toInt64)), (6, .long ((zas v (k * 8 + n)).toInt64)), (5, .int (nI (k * 8 + n))), (0, .ref (q 0)), (1, .int (nI k)), (2, .int (nI j)), (3, .int (nI n)), (4, .int a)]) hx hb z_d_answerTo_32 hl (by decide) rfl (fun ls hl => ?_)
  refine lv_aload_n hx hb z_d_answerTo_34 rfl (lv_at hl 3 rfl) ?_
  refine va_get (D := (dC, dI)) (ci := 3) (v := .ref (q 6)) (C := R3) (T := T3) (N := 6) hx hb hts (cw_sub iC3) hown hK hP 0 rfl rfl 2 (by decide) (hts _ (cw_in mw_94 rfl)) (fun _ h9 => h9) rfl z_d_answerTo_35 ?_
  refine va_getN (D := (dC, dI)) (ci := 1) (v := .ref (q 10)) (C := R1) (T := T1) (N := 6) hx hb hts (cw_sub iC1) hown hK hP 6 rfl rfl 3 (by decide) (va_Nw.use rfl (hN _ nw_8)) (fun _ h9 => h9) rfl z_d_answerTo_38 ?_
  refine lv_iload_n hx hb z_d_answerTo_41 rfl (lv_at hl 4 rfl) ?_
  refine lv_iload_n hx hb z_d_answerTo_42 rfl (lv_at hl 5 rfl) ?_
  refine rdSi (As := [.int (nI k), .int (nI j)]) (rest := [.ref (q 10)]) ⟨hx, hb, hml, hown, hts⟩ (c_d_slotOf l k j) mw_125 mw_261 mw_124 mw_1 yd_d_slotOf ⟨⟨rfl, rfl⟩, Nat.le_of_ble_eq_true rfl, Nat.le_of_ble_eq_true rfl⟩ ⟨Nat.zero_le _, Nat.zero_le _⟩ (pre_pure) rfl hl.1 rfl (Nat.le_of_ble_eq_true rfl) z_d_answerTo_43 (fun r_1 h_2 => ?_)
  subst h_2
  refine xa_i hx hb hK hP 10 0 rfl rfl (k := (k * 30 + j)) (y := zsm v (k * 30 + j)) (by omega) (by decide) (rfl) z_d_answerTo_46 ?_
  refine lv_i2l hx hb z_d_answerTo_47 rfl ?_
  refine lv_lstore (lv' := [(10, .long ((zsm v (k * 30 + j)).toInt64)), (8, .long ((zbs v (k * 8 + n)).toInt64)), (6, .long ((zas v (k * 8 + n)).toInt64)), (5, .int (nI (k * 8 + n))), (0, .ref (q 0)), (1, .int (nI k)), (2, .int (nI j)), (3, .int (nI n)), (4, .int a)]) hx hb z_d_answerTo_48 hl (by decide) rfl (fun ls hl => ?_)
  refine lv_aload_n hx hb z_d_answerTo_50 rfl (lv_at hl 4 rfl) ?_
  refine va_get (D := (dC, dI)) (ci := 3) (v := .ref (q 2)) (C := R3) (T := T3) (N := 6) hx hb hts (cw_sub iC3) hown hK hP 0 rfl rfl 1 (by decide) (hts _ (cw_in mw_93 rfl)) (fun _ h9 => h9) rfl z_d_answerTo_51 ?_
  refine va_getN (D := (dC, dI)) (ci := 2) (v := .ref (q 3)) (C := R2) (T := T2) (N := 3) hx hb hts (cw_sub iC2) hown hK hP 2 rfl rfl 0 (by decide) (va_Nw.use rfl (hN _ nw_1)) (fun _ h9 => h9) rfl z_d_answerTo_54 ?_
  refine lv_iload hx hb z_d_answerTo_57 (lv_at hl 3 rfl) ?_
  refine xa_i hx hb hK hP 3 0 rfl rfl (k := (k * 8 + n)) (y := zmd v (k * 8 + n)) (by omega) (by decide) (rfl) z_d_answerTo_59 ?_
  rcases md8 hi (show k * 8 + n < 64 by omega) with e9 | e9 | e9 | e9 | e9 | e9 | e9 | e9
  · rw [e9]
    refine lv_tableOut (tgt := 185) hx hb z_d_answerTo_60 (by decide) (by decide) ?_
    refine lv_aload_n hx hb z_d_answerTo_185 rfl (lv_at hl 4 rfl) ?_
    refine lv_iload_n hx hb z_d_answerTo_186 rfl (lv_at hl 5 rfl) ?_
    refine lv_iload_n hx hb z_d_answerTo_187 rfl (lv_at hl 6 rfl) ?_
    refine rdVl (As := [.int (nI k), .int (nI j)]) (rest := []) ⟨hx, hb, hml, hown, hts⟩ (c_d_answerToClose l dC dI q cI cZ cB v hi k j hk) mw_365 mw_362 mw_364 mp_16 mw_1 rfl yd_d_answerToClose ⟨⟨rfl, rfl⟩, Nat.le_of_ble_eq_true rfl, Nat.le_of_ble_eq_true rfl⟩ ⟨Nat.zero_le _, Nat.zero_le _⟩ (RdC.preV hP hK hN (ci := 3) (q0 := 0) rfl rfl) rfl hl.1 rfl (Nat.le_of_ble_eq_true rfl) z_d_answerTo_188 (fun r_3 h_4 => ?_)
    subst h_4
    exact W.lret (v := if 0 < onC v (nI k) (nI j) 8 then -9000000000012 else (nI (opC v k (mN v k)) - 1).toInt64) hx hb hr (fun t ht _ => ⟨if 0 < onC v (nI k) (nI j) 8 then -9000000000012 else (nI (opC v k (mN v k)) - 1).toInt64, rfl, (anF_7 (Or.inl e9)).symm, ht⟩) t_nil z_d_answerTo_191
  · rw [e9]
    refine lv_tableIn (tgt := 100) hx hb z_d_answerTo_60 (by decide) (by decide) rfl (by decide) ?_
    refine lv_lload hx hb z_d_answerTo_100 (lv_at hl 2 rfl) ?_
    refine lv_iload_n hx hb z_d_answerTo_102 rfl (lv_at hl 6 rfl) ?_
    refine lv_i2l hx hb z_d_answerTo_103 rfl ?_
    refine lv_lmul hx hb z_d_answerTo_104 ?_
    refine lv_lload hx hb z_d_answerTo_105 (lv_at hl 1 rfl) ?_
    refine lv_ladd hx hb z_d_answerTo_107 ?_
    exact W.lret (v := (((zas v (k * 8 + n)).toInt64) * ((nI j).toInt64)) + ((zbs v (k * 8 + n)).toInt64)) hx hb hr (fun t ht _ => ⟨(((zas v (k * 8 + n)).toInt64) * ((nI j).toInt64)) + ((zbs v (k * 8 + n)).toInt64), rfl, (anF_1 e9).symm, ht⟩) t_nil z_d_answerTo_108
  · rw [e9]
    refine lv_tableIn (tgt := 109) hx hb z_d_answerTo_60 (by decide) (by decide) rfl (by decide) ?_
    refine lv_lload hx hb z_d_answerTo_109 (lv_at hl 0 rfl) ?_
    refine lv_iload hx hb z_d_answerTo_111 (lv_at hl 8 rfl) ?_
    refine lv_i2l hx hb z_d_answerTo_113 rfl ?_
    refine lv_lload hx hb z_d_answerTo_114 (lv_at hl 2 rfl) ?_
    refine lv_lmul hx hb z_d_answerTo_116 ?_
    refine lv_ladd hx hb z_d_answerTo_117 ?_
    refine lv_lload hx hb z_d_answerTo_118 (lv_at hl 1 rfl) ?_
    refine lv_ladd hx hb z_d_answerTo_120 ?_
    refine rdSl (As := [.long ((((zsm v (k * 30 + j)).toInt64) + (a.toInt64 * ((zas v (k * 8 + n)).toInt64))) + ((zbs v (k * 8 + n)).toInt64))]) (rest := []) ⟨hx, hb, hml, hown, hts⟩ (c_d_sumOrFailure l ((((zsm v (k * 30 + j)).toInt64) + (a.toInt64 * ((zas v (k * 8 + n)).toInt64))) + ((zbs v (k * 8 + n)).toInt64))) mw_347 mw_345 mw_346 mw_1 yd_d_sumOrFailure ⟨⟨rfl, rfl⟩, Nat.le_of_ble_eq_true rfl, Nat.le_of_ble_eq_true rfl⟩ ⟨Nat.zero_le _, Nat.zero_le _⟩ (pre_pure) rfl hl.1 rfl (Nat.le_of_ble_eq_true rfl) z_d_answerTo_121 (fun r_5 h_6 => ?_)
    subst h_6
    exact W.lret (v := suF ((((zsm v (k * 30 + j)).toInt64) + (a.toInt64 * ((zas v (k * 8 + n)).toInt64))) + ((zbs v (k * 8 + n)).toInt64))) hx hb hr (fun t ht _ => ⟨suF ((((zsm v (k * 30 + j)).toInt64) + (a.toInt64 * ((zas v (k * 8 + n)).toInt64))) + ((zbs v (k * 8 + n)).toInt64)), rfl, (anF_2 e9).symm, ht⟩) t_nil z_d_answerTo_124
  · rw [e9]
    refine lv_tableIn (tgt := 125) hx hb z_d_answerTo_60 (by decide) (by decide) rfl (by decide) ?_
    refine lv_lload hx hb z_d_answerTo_125 (lv_at hl 0 rfl) ?_
    refine lv_lload hx hb z_d_answerTo_127 (lv_at hl 2 rfl) ?_
    refine lv_lmul hx hb z_d_answerTo_129 ?_
    refine lv_lload hx hb z_d_answerTo_130 (lv_at hl 1 rfl) ?_
    refine lv_ladd hx hb z_d_answerTo_132 ?_
    refine lv_iload hx hb z_d_answerTo_133 (lv_at hl 8 rfl) ?_
    refine lv_i2l hx hb z_d_answerTo_135 rfl ?_
    refine lv_ladd hx hb z_d_answerTo_136 ?_
    exact W.lret (v := ((((zsm v (k * 30 + j)).toInt64) * ((zas v (k * 8 + n)).toInt64)) + ((zbs v (k * 8 + n)).toInt64)) + a.toInt64) hx hb hr (fun t ht _ => ⟨((((zsm v (k * 30 + j)).toInt64) * ((zas v (k * 8 + n)).toInt64)) + ((zbs v (k * 8 + n)).toInt64)) + a.toInt64, rfl, (anF_3 e9).symm, ht⟩) t_nil z_d_answerTo_137
  · rw [e9]
    refine lv_tableIn (tgt := 138) hx hb z_d_answerTo_60 (by decide) (by decide) rfl (by decide) ?_
    refine lv_ldc2 (v := (-9000000000000)) hx hb hown (hts _ (cw_in mw_350 rfl)) z_d_answerTo_138 ?_
    refine lv_lconst (v := 1) hx hb z_d_answerTo_141 (by decide) ?_
    refine lv_lload hx hb z_d_answerTo_142 (lv_at hl 2 rfl) ?_
    refine lv_ldc2 (v := 7) hx hb hown (hts _ (cw_in mw_351 rfl)) z_d_answerTo_144 ?_
    refine lv_land hx hb z_d_answerTo_147 ?_
    refine lv_ladd hx hb z_d_answerTo_148 ?_
    refine lv_lsub hx hb z_d_answerTo_149 ?_
    exact W.lret (v := (-9000000000000) - (1 + (((zas v (k * 8 + n)).toInt64) &&& 7))) hx hb hr (fun t ht _ => ⟨(-9000000000000) - (1 + (((zas v (k * 8 + n)).toInt64) &&& 7)), rfl, (anF_4 e9).symm, ht⟩) t_nil z_d_answerTo_150
  · rw [e9]
    refine lv_tableIn (tgt := 151) hx hb z_d_answerTo_60 (by decide) (by decide) rfl (by decide) ?_
    refine lv_iload hx hb z_d_answerTo_151 (lv_at hl 8 rfl) ?_
    refine lv_if_ne (tgt := 162) hx hb z_d_answerTo_153 (by decide) (fun c_153 => ?_) (fun c_153 => ?_)
    · refine lv_lload hx hb z_d_answerTo_162 (lv_at hl 0 rfl) ?_
      refine lv_iload hx hb z_d_answerTo_164 (lv_at hl 8 rfl) ?_
      refine lv_i2l hx hb z_d_answerTo_166 rfl ?_
      refine lv_ldiv hx hb z_d_answerTo_167 (i64_ne0 c_153) ?_
      refine lv_lload hx hb z_d_answerTo_168 (lv_at hl 1 rfl) ?_
      refine lv_ladd hx hb z_d_answerTo_170 ?_
      exact W.lret (v := (((zsm v (k * 30 + j)).toInt64) / a.toInt64) + ((zbs v (k * 8 + n)).toInt64)) hx hb hr (fun t ht _ => ⟨(((zsm v (k * 30 + j)).toInt64) / a.toInt64) + ((zbs v (k * 8 + n)).toInt64), rfl, by rw [anF_5 e9, if_neg c_153], ht⟩) t_nil z_d_answerTo_171
    · refine lv_ldc2 (v := (-9000000000010)) hx hb hown (hts _ (cw_in mw_352 rfl)) z_d_answerTo_156 ?_
      refine lv_goto (tgt := 171) hx hb z_d_answerTo_159 (by decide) ?_
      exact W.lret (v := (-9000000000010)) hx hb hr (fun t ht _ => ⟨(-9000000000010), rfl, by rw [anF_5 e9, if_pos c_153], ht⟩) t_nil z_d_answerTo_171
  · rw [e9]
    refine lv_tableIn (tgt := 172) hx hb z_d_answerTo_60 (by decide) (by decide) rfl (by decide) ?_
    refine lv_aload_n hx hb z_d_answerTo_172 rfl (lv_at hl 4 rfl) ?_
    refine lv_aload_n hx hb z_d_answerTo_173 rfl (lv_at hl 4 rfl) ?_
    refine lv_iload_n hx hb z_d_answerTo_174 rfl (lv_at hl 5 rfl) ?_
    refine lv_iload_n hx hb z_d_answerTo_175 rfl (lv_at hl 6 rfl) ?_
    refine rdVi (As := [.int (nI k), .int (nI j)]) (rest := [.ref (q 0)]) ⟨hx, hb, hml, hown, hts⟩ (c_d_slotAbove l dC dI q cI cZ cB v hi k j hk hj) mw_356 mw_353 mw_355 mp_14 mw_1 rfl yd_d_slotAbove ⟨⟨rfl, rfl⟩, Nat.le_of_ble_eq_true rfl, Nat.le_of_ble_eq_true rfl⟩ ⟨Nat.zero_le _, Nat.zero_le _⟩ (RdC.preV hP hK hN (ci := 3) (q0 := 0) rfl rfl) rfl hl.1 rfl (Nat.le_of_ble_eq_true rfl) z_d_answerTo_176 (fun r_7 h_8 => ?_)
    refine lv_iload hx hb z_d_answerTo_179 (lv_at hl 8 rfl) ?_
    refine rdVl (As := [.int r_7, .int a]) (rest := []) ⟨hx, hb, hml, hown, hts⟩ (c_d_answerToPass l dC dI q cI cZ cB v r_7 a (an6_arg hi h_8)) mw_360 mw_357 mw_359 mp_15 mw_1 rfl yd_d_answerToPass ⟨⟨rfl, rfl⟩, Nat.le_of_ble_eq_true rfl, Nat.le_of_ble_eq_true rfl⟩ ⟨Nat.zero_le _, Nat.zero_le _⟩ (RdC.preV hP hK hN (ci := 3) (q0 := 0) rfl rfl) rfl hl.1 rfl (Nat.le_of_ble_eq_true rfl) z_d_answerTo_181 (fun r_9 h_10 => ?_)
    exact W.lret (v := r_9) hx hb hr (fun t ht _ => ⟨r_9, rfl, an6_post hi e9 h_8 h_10, ht⟩) t_nil z_d_answerTo_184
  · rw [e9]
    refine lv_tableOut (tgt := 185) hx hb z_d_answerTo_60 (by decide) (by decide) ?_
    refine lv_aload_n hx hb z_d_answerTo_185 rfl (lv_at hl 4 rfl) ?_
    refine lv_iload_n hx hb z_d_answerTo_186 rfl (lv_at hl 5 rfl) ?_
    refine lv_iload_n hx hb z_d_answerTo_187 rfl (lv_at hl 6 rfl) ?_
    refine rdVl (As := [.int (nI k), .int (nI j)]) (rest := []) ⟨hx, hb, hml, hown, hts⟩ (c_d_answerToClose l dC dI q cI cZ cB v hi k j hk) mw_365 mw_362 mw_364 mp_16 mw_1 rfl yd_d_answerToClose ⟨⟨rfl, rfl⟩, Nat.le_of_ble_eq_true rfl, Nat.le_of_ble_eq_true rfl⟩ ⟨Nat.zero_le _, Nat.zero_le _⟩ (RdC.preV hP hK hN (ci := 3) (q0 := 0) rfl rfl) rfl hl.1 rfl (Nat.le_of_ble_eq_true rfl) z_d_answerTo_188 (fun r_11 h_12 => ?_)
    subst h_12
    exact W.lret (v := if 0 < onC v (nI k) (nI j) 8 then -9000000000012 else (nI (opC v k (mN v k)) - 1).toInt64) hx hb hr (fun t ht _ => ⟨if 0 < onC v (nI k) (nI j) 8 then -9000000000012 else (nI (opC v k (mN v k)) - 1).toInt64, rfl, (anF_7 (Or.inr e9)).symm, ht⟩) t_nil z_d_answerTo_191
end
section
def WrC (D : va_G) (sz : Nat) (ws : va_W) (tys : List (ClassId × FieldType)) (U : State) : Prop := U.heap.size = sz ∧ va_P D vwCl ws U.heap ∧ va_K D vwCl tys U ∧ va_D (fun _ => True) ws ∧ NW U
def WrB (D : va_G) (ws : va_W) (tys : List (ClassId × FieldType)) (A : Nat → Prop) (t : State) : Prop := va_P D vwCl ws t.heap ∧ va_K D vwCl tys t ∧ va_D A ws
theorem WrC.calling {D : va_G} {sz : Nat} {ws : va_W} {tys : List (ClassId × FieldType)} {U : State} {g : JFrame} {mk : MethodId} {a : Array Value} (q : WrC D sz ws tys U) : WrC D sz ws tys (U.calling g mk a) := ⟨q.1, q.2.1, va_K.moved (u := U) (U := U.calling g mk a) (Vm.Alike.refl U.vm) q.2.2.1, q.2.2.2.1, NW.same (u := U) rfl q.2.2.2.2⟩
theorem WrC.of {s U : State} {H : Heap} {A : Nat → Prop} {D : va_G} {ws : va_W} {tys : List (ClassId × FieldType)} (hP : va_P D vwCl ws H) (hK : va_K D vwCl tys s) (hD : va_D A ws) (hN : NW s) (hU : U.heap = H) (hW : s.WarmedH U.vm) : WrC D H.size ws tys U := ⟨by rw [hU], by rw [hU]; exact hP, va_K.moved hW.alike hK, hD.weaken (fun _ _ _ _ => trivial), hN.warm hW⟩
theorem WrC.preV {s : State} {H : Heap} {A : Nat → Prop} {D : va_G} {ws : va_W} {tys : List (ClassId × FieldType)} {As : List Value} {b q0 ci : Nat} {q : vw_C} {fs : List Value} (hP : va_P D vwCl ws H) (hK : va_K D vwCl tys s) (hD : va_D A ws) (hN : NW s) (hc : vwCl[ci]? = some q) (he : ws[q0]? = some (b, .inr (ci, fs))) : PreV s H q.1 b (va_Pc (.ref b :: As) (WrC D H.size ws tys)) As := ⟨fun _ _ _ _ q => ⟨q.1, q.2.calling⟩, va_recv hK hP hc he, fun _ hU hW => ⟨rfl, WrC.of hP hK hD hN hU hW⟩⟩
theorem wr_free {A0 : Nat → Prop} {ws : va_W} {H0 H : Heap} {locs : List Loc} (hD : va_D A0 ws) (hS : va_S A0 H0 H locs) (hA : ∀ q, H0.size ≤ q → A0 q) : ∀ q, va_A ws H.size q → A0 q := by
  rintro q (⟨k, e, hk⟩ | h)
  · exact hD.2 k (q, e) hk
  · exact hA q (Nat.le_trans hS.1 h)
section WRC
variable {p : Program} {l : Launch} {e : Env} {R : Room} {s : State} {m : MethodId} {args : Array Value} {below : List Frame} {meth : Method} {c : Code} {H : Heap} {locs : List Loc} {cells slots : Nat} {Q : State → Prop}
variable {own C : String} {idx n maxL nL pc : Nat} {y : MethodName} {bytes cc : ByteArray} {ret : Option FieldType} {rm : Room} {Pc : Array Value → State → Prop} {c0 : Cond} {b : Addr} {As rest st0 : List Value} {ls : Array Slot}
variable {D : va_G} {tys : List (ClassId × FieldType)} {ws : va_W} {A : Nat → Prop} {H0 : Heap} {S1 : Type} {wf : S1 → va_W}
theorem wrVv {post : S1 → Prop} (S : CallFix p m c cc nL s args (c0 :: CW) own) (hM : Met l y (Cond.code y bytes maxL ret :: CW) rm Pc (va_Qv post (fun u => WrB D (wf u) tys (va_A ws H.size)) (va_A ws H.size)) 0 0 (va_A ws H.size)) (h0 : Cond.code y bytes maxL ret ∈ lw_tbl) (h1 : Cond.methodLink own idx y ∈ lw_tbl) (h2 : Cond.instanceMethod y ∈ lw_tbl) (h3 : Cond.selects C y y ∈ lw_tbl) (h4 : Cond.initialized C ∈ lw_tbl) (hC : y.cls = C) (hd : yD y n)
    (hR : (rm.cells = 0 ∧ rm.slots = 0) ∧ rm.frames + 1 ≤ R.frames ∧ 8 + (maxL + 11) + rm.locals ≤ R.locals) (hcap : cells ≤ R.cells ∧ slots ≤ R.slots) (hp : PreV s H C b Pc As) (hF : ∀ q, va_A ws H.size q → A q) (hS : va_S A H0 H locs) (hn : As.length = n) (hsz : ls.size = nL) (hst : st0 = As.reverse ++ .ref b :: rest) (hW : (rest.map fun v => v.category).sum ≤ 8) (hdg : decode cc pc = .ok (.invokevirtual idx, 3))
    (kk : ∀ (u : S1) (H1 : Heap) (locs1 : List Loc), post u → va_P D vwCl (wf u) H1 → va_D A (wf u) → va_S A H0 H1 locs1 → H.size ≤ H1.size → W p l e R s m args below meth c H1 locs1 cells slots Q (F0 m (pc + 3) ls rest)) : W p l e R s m args below meth c H locs cells slots Q (F0 m pc ls st0) :=
  va_callv (va_runV S hM (cwV n S.2.2.2.2 (cw_goodV h0 rfl h1 h2 h3 h4) rfl hR.1.1 hR.1.2 ⟨hC, hd⟩ hR.2) hp rfl hn hsz hst (lv_room hW) hdg hcap) hS (fun q _ h => hF q h) hF (fun u t H1 locs1 ht _ hw hB hz _ hS1 => kk u H1 locs1 hw (by rw [← ht]; exact hB.1) (hB.2.2.weaken (fun _ _ _ h => hF _ h)) hS1 hz)
theorem wrVNv {host : String} {post : S1 → Prop} (S : CallFix p m c cc nL s args (c0 :: CW) own) (hM : Met l y (Cond.code y bytes maxL ret :: CW) rm Pc (va_Qv post (fun u => WrB D (wf u) tys (va_A ws H.size)) (va_A ws H.size)) 0 0 (va_A ws H.size)) (h0 : Cond.code y bytes maxL ret ∈ lw_tbl) (h1 : va_Nw (.methodLinkNest own idx y host) s) (h2 : Cond.instanceMethod y ∈ lw_tbl) (h3 : Cond.selects C y y ∈ lw_tbl) (h4 : Cond.initialized y.cls ∈ lw_tbl) (hd : yD y n)
    (hR : (rm.cells = 0 ∧ rm.slots = 0) ∧ rm.frames + 1 ≤ R.frames ∧ 8 + (maxL + 11) + rm.locals ≤ R.locals) (hcap : cells ≤ R.cells ∧ slots ≤ R.slots) (hp : PreV s H C b Pc As) (hF : ∀ q, va_A ws H.size q → A q) (hS : va_S A H0 H locs) (hn : As.length = n) (hsz : ls.size = nL) (hst : st0 = As.reverse ++ .ref b :: rest) (hW : (rest.map fun v => v.category).sum ≤ 8) (hdg : decode cc pc = .ok (.invokevirtual idx, 3))
    (kk : ∀ (u : S1) (H1 : Heap) (locs1 : List Loc), post u → va_P D vwCl (wf u) H1 → va_D A (wf u) → va_S A H0 H1 locs1 → H.size ≤ H1.size → W p l e R s m args below meth c H1 locs1 cells slots Q (F0 m (pc + 3) ls rest)) : W p l e R s m args below meth c H locs cells slots Q (F0 m pc ls st0) :=
  va_callv (va_runVN S hM ⟨va_cnB n S.2.2.2.2 (cw_good h0 rfl) rfl hR.1.1 hR.1.2 h1 (S.2.2.2.2 _ (cw_in h4 rfl)) hd hR.2, S.2.2.2.2 _ (cw_in h2 rfl), S.2.2.2.2 _ (cw_in h3 rfl)⟩ hp rfl hn hsz hst (lv_room hW) hdg hcap) hS (fun q _ h => hF q h) hF (fun u t H1 locs1 ht _ hw hB hz _ hS1 => kk u H1 locs1 hw (by rw [← ht]; exact hB.1) (hB.2.2.weaken (fun _ _ _ h => hF _ h)) hS1 hz)
theorem wrVi {post : Int32 → S1 → Prop} (S : CallFix p m c cc nL s args (c0 :: CW) own) (hM : Met l y (Cond.code y bytes maxL ret :: CW) rm Pc (va_Qi post (fun u => WrB D (wf u) tys (va_A ws H.size)) (va_A ws H.size)) 0 0 (va_A ws H.size)) (h0 : Cond.code y bytes maxL ret ∈ lw_tbl) (h1 : Cond.methodLink own idx y ∈ lw_tbl) (h2 : Cond.instanceMethod y ∈ lw_tbl) (h3 : Cond.selects C y y ∈ lw_tbl) (h4 : Cond.initialized C ∈ lw_tbl) (hC : y.cls = C) (hd : yD y n)
    (hR : (rm.cells = 0 ∧ rm.slots = 0) ∧ rm.frames + 1 ≤ R.frames ∧ 8 + (maxL + 11) + rm.locals ≤ R.locals) (hcap : cells ≤ R.cells ∧ slots ≤ R.slots) (hp : PreV s H C b Pc As) (hF : ∀ q, va_A ws H.size q → A q) (hS : va_S A H0 H locs) (hn : As.length = n) (hsz : ls.size = nL) (hst : st0 = As.reverse ++ .ref b :: rest) (hW : (rest.map fun v => v.category).sum ≤ 8) (hdg : decode cc pc = .ok (.invokevirtual idx, 3))
    (kk : ∀ (r : Int32) (u : S1) (H1 : Heap) (locs1 : List Loc), post r u → va_P D vwCl (wf u) H1 → va_D A (wf u) → va_S A H0 H1 locs1 → H.size ≤ H1.size → W p l e R s m args below meth c H1 locs1 cells slots Q (F0 m (pc + 3) ls (.int r :: rest))) : W p l e R s m args below meth c H locs cells slots Q (F0 m pc ls st0) :=
  va_calli (va_runV S hM (cwV n S.2.2.2.2 (cw_goodV h0 rfl h1 h2 h3 h4) rfl hR.1.1 hR.1.2 ⟨hC, hd⟩ hR.2) hp rfl hn hsz hst (lv_room hW) hdg hcap) hS (fun q _ h => hF q h) hF (fun r u t H1 locs1 ht _ hw hB hz _ hS1 => kk r u H1 locs1 hw (by rw [← ht]; exact hB.1) (hB.2.2.weaken (fun _ _ _ h => hF _ h)) hS1 hz)
theorem wrVNi {host : String} {post : Int32 → S1 → Prop} (S : CallFix p m c cc nL s args (c0 :: CW) own) (hM : Met l y (Cond.code y bytes maxL ret :: CW) rm Pc (va_Qi post (fun u => WrB D (wf u) tys (va_A ws H.size)) (va_A ws H.size)) 0 0 (va_A ws H.size)) (h0 : Cond.code y bytes maxL ret ∈ lw_tbl) (h1 : va_Nw (.methodLinkNest own idx y host) s) (h2 : Cond.instanceMethod y ∈ lw_tbl) (h3 : Cond.selects C y y ∈ lw_tbl) (h4 : Cond.initialized y.cls ∈ lw_tbl) (hd : yD y n)
    (hR : (rm.cells = 0 ∧ rm.slots = 0) ∧ rm.frames + 1 ≤ R.frames ∧ 8 + (maxL + 11) + rm.locals ≤ R.locals) (hcap : cells ≤ R.cells ∧ slots ≤ R.slots) (hp : PreV s H C b Pc As) (hF : ∀ q, va_A ws H.size q → A q) (hS : va_S A H0 H locs) (hn : As.length = n) (hsz : ls.size = nL) (hst : st0 = As.reverse ++ .ref b :: rest) (hW : (rest.map fun v => v.category).sum ≤ 8) (hdg : decode cc pc = .ok (.invokevirtual idx, 3))
    (kk : ∀ (r : Int32) (u : S1) (H1 : Heap) (locs1 : List Loc), post r u → va_P D vwCl (wf u) H1 → va_D A (wf u) → va_S A H0 H1 locs1 → H.size ≤ H1.size → W p l e R s m args below meth c H1 locs1 cells slots Q (F0 m (pc + 3) ls (.int r :: rest))) : W p l e R s m args below meth c H locs cells slots Q (F0 m pc ls st0) :=
  va_calli (va_runVN S hM ⟨va_cnB n S.2.2.2.2 (cw_good h0 rfl) rfl hR.1.1 hR.1.2 h1 (S.2.2.2.2 _ (cw_in h4 rfl)) hd hR.2, S.2.2.2.2 _ (cw_in h2 rfl), S.2.2.2.2 _ (cw_in h3 rfl)⟩ hp rfl hn hsz hst (lv_room hW) hdg hcap) hS (fun q _ h => hF q h) hF (fun r u t H1 locs1 ht _ hw hB hz _ hS1 => kk r u H1 locs1 hw (by rw [← ht]; exact hB.1) (hB.2.2.weaken (fun _ _ _ h => hF _ h)) hS1 hz)
theorem wrVl {post : Int64 → S1 → Prop} (S : CallFix p m c cc nL s args (c0 :: CW) own) (hM : Met l y (Cond.code y bytes maxL ret :: CW) rm Pc (va_Ql post (fun u => WrB D (wf u) tys (va_A ws H.size)) (va_A ws H.size)) 0 0 (va_A ws H.size)) (h0 : Cond.code y bytes maxL ret ∈ lw_tbl) (h1 : Cond.methodLink own idx y ∈ lw_tbl) (h2 : Cond.instanceMethod y ∈ lw_tbl) (h3 : Cond.selects C y y ∈ lw_tbl) (h4 : Cond.initialized C ∈ lw_tbl) (hC : y.cls = C) (hd : yD y n)
    (hR : (rm.cells = 0 ∧ rm.slots = 0) ∧ rm.frames + 1 ≤ R.frames ∧ 8 + (maxL + 11) + rm.locals ≤ R.locals) (hcap : cells ≤ R.cells ∧ slots ≤ R.slots) (hp : PreV s H C b Pc As) (hF : ∀ q, va_A ws H.size q → A q) (hS : va_S A H0 H locs) (hn : As.length = n) (hsz : ls.size = nL) (hst : st0 = As.reverse ++ .ref b :: rest) (hW : (rest.map fun v => v.category).sum ≤ 8) (hdg : decode cc pc = .ok (.invokevirtual idx, 3))
    (kk : ∀ (r : Int64) (u : S1) (H1 : Heap) (locs1 : List Loc), post r u → va_P D vwCl (wf u) H1 → va_D A (wf u) → va_S A H0 H1 locs1 → H.size ≤ H1.size → W p l e R s m args below meth c H1 locs1 cells slots Q (F0 m (pc + 3) ls (.long r :: rest))) : W p l e R s m args below meth c H locs cells slots Q (F0 m pc ls st0) :=
  va_calll (va_runV S hM (cwV n S.2.2.2.2 (cw_goodV h0 rfl h1 h2 h3 h4) rfl hR.1.1 hR.1.2 ⟨hC, hd⟩ hR.2) hp rfl hn hsz hst (lv_room hW) hdg hcap) hS (fun q _ h => hF q h) hF (fun r u t H1 locs1 ht _ hw hB hz _ hS1 => kk r u H1 locs1 hw (by rw [← ht]; exact hB.1) (hB.2.2.weaken (fun _ _ _ h => hF _ h)) hS1 hz)
theorem wrVNl {host : String} {post : Int64 → S1 → Prop} (S : CallFix p m c cc nL s args (c0 :: CW) own) (hM : Met l y (Cond.code y bytes maxL ret :: CW) rm Pc (va_Ql post (fun u => WrB D (wf u) tys (va_A ws H.size)) (va_A ws H.size)) 0 0 (va_A ws H.size)) (h0 : Cond.code y bytes maxL ret ∈ lw_tbl) (h1 : va_Nw (.methodLinkNest own idx y host) s) (h2 : Cond.instanceMethod y ∈ lw_tbl) (h3 : Cond.selects C y y ∈ lw_tbl) (h4 : Cond.initialized y.cls ∈ lw_tbl) (hd : yD y n)
    (hR : (rm.cells = 0 ∧ rm.slots = 0) ∧ rm.frames + 1 ≤ R.frames ∧ 8 + (maxL + 11) + rm.locals ≤ R.locals) (hcap : cells ≤ R.cells ∧ slots ≤ R.slots) (hp : PreV s H C b Pc As) (hF : ∀ q, va_A ws H.size q → A q) (hS : va_S A H0 H locs) (hn : As.length = n) (hsz : ls.size = nL) (hst : st0 = As.reverse ++ .ref b :: rest) (hW : (rest.map fun v => v.category).sum ≤ 8) (hdg : decode cc pc = .ok (.invokevirtual idx, 3))
    (kk : ∀ (r : Int64) (u : S1) (H1 : Heap) (locs1 : List Loc), post r u → va_P D vwCl (wf u) H1 → va_D A (wf u) → va_S A H0 H1 locs1 → H.size ≤ H1.size → W p l e R s m args below meth c H1 locs1 cells slots Q (F0 m (pc + 3) ls (.long r :: rest))) : W p l e R s m args below meth c H locs cells slots Q (F0 m pc ls st0) :=
  va_calll (va_runVN S hM ⟨va_cnB n S.2.2.2.2 (cw_good h0 rfl) rfl hR.1.1 hR.1.2 h1 (S.2.2.2.2 _ (cw_in h4 rfl)) hd hR.2, S.2.2.2.2 _ (cw_in h2 rfl), S.2.2.2.2 _ (cw_in h3 rfl)⟩ hp rfl hn hsz hst (lv_room hW) hdg hcap) hS (fun q _ h => hF q h) hF (fun r u t H1 locs1 ht _ hw hB hz _ hS1 => kk r u H1 locs1 hw (by rw [← ht]; exact hB.1) (hB.2.2.weaken (fun _ _ _ h => hF _ h)) hS1 hz)
end WRC
/-! throwing -/
def nxL : List Cond := [Cond.castable "java/lang/IllegalArgumentException" "java/lang/IllegalArgumentException", Cond.castable "java/lang/IndexOutOfBoundsException" "java/lang/IndexOutOfBoundsException", Cond.castable "java/lang/IllegalStateException" "java/lang/IllegalStateException", Cond.castable "java/lang/UnsupportedOperationException" "java/lang/UnsupportedOperationException", Cond.declares ⟨"java/lang/RuntimeException", "<init>", "(Ljava/lang/String;)V"⟩, Cond.declares ⟨"java/lang/Exception", "<init>", "(Ljava/lang/String;)V"⟩, Cond.declares ⟨"java/lang/Throwable", "<init>", "(Ljava/lang/String;)V"⟩]
theorem nx_0 : Cond.castable "java/lang/IllegalArgumentException" "java/lang/IllegalArgumentException" ∈ nxL := List.mem_of_getElem? (i := 0) rfl
theorem nx_1 : Cond.castable "java/lang/IndexOutOfBoundsException" "java/lang/IndexOutOfBoundsException" ∈ nxL := List.mem_of_getElem? (i := 1) rfl
theorem nx_2 : Cond.castable "java/lang/IllegalStateException" "java/lang/IllegalStateException" ∈ nxL := List.mem_of_getElem? (i := 2) rfl
theorem nx_3 : Cond.castable "java/lang/UnsupportedOperationException" "java/lang/UnsupportedOperationException" ∈ nxL := List.mem_of_getElem? (i := 3) rfl
theorem nx_4 : Cond.declares ⟨"java/lang/RuntimeException", "<init>", "(Ljava/lang/String;)V"⟩ ∈ nxL := List.mem_of_getElem? (i := 4) rfl
theorem nx_5 : Cond.declares ⟨"java/lang/Exception", "<init>", "(Ljava/lang/String;)V"⟩ ∈ nxL := List.mem_of_getElem? (i := 5) rfl
theorem nx_6 : Cond.declares ⟨"java/lang/Throwable", "<init>", "(Ljava/lang/String;)V"⟩ ∈ nxL := List.mem_of_getElem? (i := 6) rfl
def NX (U : State) : Prop := ∀ w ∈ nxL, va_Nw w U
theorem nx_tbl : ∀ w ∈ nxL, w ∈ lw_tbl := by decide +kernel
theorem nx_tabs : ∀ w ∈ nxL, w.onTables = true := List.forall_mem_cons.mpr ⟨rfl, List.forall_mem_cons.mpr ⟨rfl, List.forall_mem_cons.mpr ⟨rfl, List.forall_mem_cons.mpr ⟨rfl, List.forall_mem_cons.mpr ⟨rfl, List.forall_mem_cons.mpr ⟨rfl, List.forall_mem_cons.mpr ⟨rfl, fun _ h => absurd h List.not_mem_nil⟩⟩⟩⟩⟩⟩⟩
theorem NX.of {args : Array Value} {s : State} (hts : ∀ w ∈ lw_tbl, w.before args s = true) : NX s := fun w h => va_Nw.of (nx_tabs w h) (hts w (nx_tbl w h))
theorem NX.same {u U : State} (h : u.vm = U.vm) (hN : NX u) : NX U := fun w hw => va_Nw.same (nx_tabs w hw) h (hN w hw)
theorem NX.warm {s U : State} (hW : s.WarmedH U.vm) (hN : NX s) : NX U := List.forall_mem_cons.mpr ⟨va_Nw.warmC hW (hN _ nx_0), List.forall_mem_cons.mpr ⟨va_Nw.warmC hW (hN _ nx_1), List.forall_mem_cons.mpr ⟨va_Nw.warmC hW (hN _ nx_2), List.forall_mem_cons.mpr ⟨va_Nw.warmC hW (hN _ nx_3), List.forall_mem_cons.mpr ⟨va_Nw.warmD hW (hN _ nx_4), List.forall_mem_cons.mpr ⟨va_Nw.warmD hW (hN _ nx_5), List.forall_mem_cons.mpr ⟨va_Nw.warmD hW (hN _ nx_6), fun _ h => absurd h List.not_mem_nil⟩⟩⟩⟩⟩⟩⟩
def strL : List (Nat × String) := [(46, "no such kind"), (60, "the kind has subjects or would be under itself"), (66, "no such kind, or no such subject to be under"), (76, "the subject to be under is closed"), (80, "no room for one more subject"), (89, "no such kind, verb or mode"), (99, "a or b is out of range"), (213, "no such kind, subject or verb"), (215, "the argument is out of range"), (142, "the subject is closed"), (135, "no such kind or subject"), (137, "n is out of range"), (147, "no room for the text"), (153, "i is below 0"), (162, "no such kind, subject or what"), (176, "no such row or what"), (186, "n is out of range, or the clock would be"), (195, "no such what")]
theorem sr_46 : (46, "no such kind") ∈ strL := List.mem_of_getElem? (i := 0) rfl
theorem sr_60 : (60, "the kind has subjects or would be under itself") ∈ strL := List.mem_of_getElem? (i := 1) rfl
theorem sr_66 : (66, "no such kind, or no such subject to be under") ∈ strL := List.mem_of_getElem? (i := 2) rfl
theorem sr_76 : (76, "the subject to be under is closed") ∈ strL := List.mem_of_getElem? (i := 3) rfl
theorem sr_80 : (80, "no room for one more subject") ∈ strL := List.mem_of_getElem? (i := 4) rfl
theorem sr_89 : (89, "no such kind, verb or mode") ∈ strL := List.mem_of_getElem? (i := 5) rfl
theorem sr_99 : (99, "a or b is out of range") ∈ strL := List.mem_of_getElem? (i := 6) rfl
theorem sr_213 : (213, "no such kind, subject or verb") ∈ strL := List.mem_of_getElem? (i := 7) rfl
theorem sr_215 : (215, "the argument is out of range") ∈ strL := List.mem_of_getElem? (i := 8) rfl
theorem sr_142 : (142, "the subject is closed") ∈ strL := List.mem_of_getElem? (i := 9) rfl
theorem sr_135 : (135, "no such kind or subject") ∈ strL := List.mem_of_getElem? (i := 10) rfl
theorem sr_137 : (137, "n is out of range") ∈ strL := List.mem_of_getElem? (i := 11) rfl
theorem sr_147 : (147, "no room for the text") ∈ strL := List.mem_of_getElem? (i := 12) rfl
theorem sr_153 : (153, "i is below 0") ∈ strL := List.mem_of_getElem? (i := 13) rfl
theorem sr_162 : (162, "no such kind, subject or what") ∈ strL := List.mem_of_getElem? (i := 14) rfl
theorem sr_176 : (176, "no such row or what") ∈ strL := List.mem_of_getElem? (i := 15) rfl
theorem sr_186 : (186, "n is out of range, or the clock would be") ∈ strL := List.mem_of_getElem? (i := 16) rfl
theorem sr_195 : (195, "no such what") ∈ strL := List.mem_of_getElem? (i := 17) rfl
def SR (U : State) : Prop := ∀ x ∈ strL, ∃ sa : Nat, vk_R "ServiceDesk" x.1 x.2 sa U
theorem SR.same {u U : State} (h : U.vm = u.vm) (hR : SR u) : SR U := fun x hx => (hR x hx).elim (fun sa h9 => ⟨sa, vk_R.same h h9⟩)
theorem SR.warm {s U : State} (hW : s.WarmedH U.vm) (hR : SR s) : SR U := fun x hx => (hR x hx).elim (fun sa h9 => ⟨sa, vk_R.warm hW h9⟩)
/-- what a method that throws finds: the two statics of Throwable, the links, the texts -/
def XcC (A : Nat → Prop) (U : State) (H : Heap) : Prop := vx_Zq Bundle.tN "UNASSIGNED_STACK" Bundle.steD A U H ∧ vx_Zq Bundle.tN "SUPPRESSED_SENTINEL" Bundle.listD A U H ∧ NX U ∧ SR U
theorem XcC.calling {A : Nat → Prop} {U : State} {g : JFrame} {mk : MethodId} {a : Array Value} (q : XcC A U U.heap) : XcC A (U.calling g mk a) (U.calling g mk a).heap := ⟨vx_Zq.moved (u := U) (Vm.Alike.refl U.vm) q.1, vx_Zq.moved (u := U) (Vm.Alike.refl U.vm) q.2.1, NX.same (u := U) rfl q.2.2.1, SR.same (u := U) rfl q.2.2.2⟩
theorem XcC.to {A B : Nat → Prop} {s U : State} {H : Heap} {locs : List Loc} (h : XcC A s s.heap) (hS : va_S A s.heap H locs) (hAB : ∀ q, B q → A q) (hU : U.heap = H) (hW : s.WarmedH U.vm) : XcC B U U.heap := by
  rw [hU]
  exact ⟨vx_Zq.moved hW.alike ((h.1.kept hS.2.1).narrow hAB), vx_Zq.moved hW.alike ((h.2.1.kept hS.2.1).narrow hAB), h.2.2.1.warm hW, h.2.2.2.warm hW⟩
def TxC (D : va_G) (sz : Nat) (ws : va_W) (tys : List (ClassId × FieldType)) (U : State) : Prop := WrC D sz ws tys U ∧ XcC (va_A ws sz) U U.heap
/-- the start of a contract that may throw, over the common words -/
theorem tx_met {l : Launch} {y : MethodName} {cc : ByteArray} {maxL : Nat} {ret : Option FieldType} {rm : Room} {av : List Value} {Cx : State → Prop} {Qc : Array Value → State → Outcome → State → Prop} {XC : String → State → State → Prop} {mc ms : Nat} {free : Addr → Prop} (hy : plainName y.cls = true) (hn : (lg_sl av).length ≤ maxL)
    (body : ∀ (p : Program) (e : Env) (s : State) (m : MethodId) (below : List Frame) (meth : Method) (c : Code), p.tables.exec = Jvm.exec → c.code = cc → meth.sig.returnType = ret → c.maxLocals = maxL → (∀ w ∈ (Cond.code y cc maxL ret :: CW), w.before av.toArray s = true) → s.vm.findClass y.cls = some m.cls → meth.locks = false → (∀ x ∈ c.exceptionTable.toList, False) → Cx s → ∀ ls : Array Slot, lv_has ls maxL (lv_args 0 av) →
      W p l e rm s m av.toArray below meth c s.heap [] 0 0 (vx_MQ below Qc XC av.toArray s mc ms free) (F0 m 0 ls [])) : vx_Met l y (Cond.code y cc maxL ret :: CW) rm (va_Pc av Cx) Qc XC mc ms free := by
  refine vx_ofW (cc := cc) (maxL := maxL) (ret := ret) hy rfl ?_
  intro p e s m args below meth c s₁ B hml hEx hv
  obtain ⟨rfl, hC⟩ := hv
  have hl := lv_entry av (n := maxL) hn
  rw [lg_entry_eq]
  exact body p e s m below meth c B.exec B.bytes B.returns hml (atoms_spec (ws := Cond.code y cc maxL ret :: CW) B.pre) (findClass_of_methodNamed B.named) B.notSynchronized hEx hC _ hl
theorem xg_0 : ∀ w ∈ (vx_atS "ServiceDesk" 48 "java/lang/IllegalArgumentException" ["java/lang/RuntimeException", "java/lang/Exception"]).filter goodWord, w ∈ lw_tbl := by decide +kernel
theorem xb_0 : ∀ w ∈ (vx_atS "ServiceDesk" 48 "java/lang/IllegalArgumentException" ["java/lang/RuntimeException", "java/lang/Exception"]).filter (fun w => !goodWord w), w ∈ nxL := by decide +kernel
theorem xo_0 : ∀ w ∈ vx_atS "ServiceDesk" 48 "java/lang/IllegalArgumentException" ["java/lang/RuntimeException", "java/lang/Exception"], vx_ot w = true := by decide +kernel
theorem xw_0 {c0 : Cond} {args : Array Value} {s : State} (hts : ∀ w ∈ c0 :: CW, w.before args s = true) (hX : NX s) : ∀ w ∈ vx_atS "ServiceDesk" 48 "java/lang/IllegalArgumentException" ["java/lang/RuntimeException", "java/lang/Exception"], w.before args s = true := vx_hat (B := nxL) (fun w hw => hts w (cw_in (xg_0 w hw) (List.mem_filter.mp hw).2)) xb_0 (fun w hw => (hX w hw).use (nx_tabs w hw))
theorem xg_1 : ∀ w ∈ (vx_atS "ServiceDesk" 101 "java/lang/IndexOutOfBoundsException" ["java/lang/RuntimeException", "java/lang/Exception"]).filter goodWord, w ∈ lw_tbl := by decide +kernel
theorem xb_1 : ∀ w ∈ (vx_atS "ServiceDesk" 101 "java/lang/IndexOutOfBoundsException" ["java/lang/RuntimeException", "java/lang/Exception"]).filter (fun w => !goodWord w), w ∈ nxL := by decide +kernel
theorem xo_1 : ∀ w ∈ vx_atS "ServiceDesk" 101 "java/lang/IndexOutOfBoundsException" ["java/lang/RuntimeException", "java/lang/Exception"], vx_ot w = true := by decide +kernel
theorem xw_1 {c0 : Cond} {args : Array Value} {s : State} (hts : ∀ w ∈ c0 :: CW, w.before args s = true) (hX : NX s) : ∀ w ∈ vx_atS "ServiceDesk" 101 "java/lang/IndexOutOfBoundsException" ["java/lang/RuntimeException", "java/lang/Exception"], w.before args s = true := vx_hat (B := nxL) (fun w hw => hts w (cw_in (xg_1 w hw) (List.mem_filter.mp hw).2)) xb_1 (fun w hw => (hX w hw).use (nx_tabs w hw))
theorem xg_2 : ∀ w ∈ (vx_atS "ServiceDesk" 62 "java/lang/IllegalStateException" ["java/lang/RuntimeException", "java/lang/Exception"]).filter goodWord, w ∈ lw_tbl := by decide +kernel
theorem xb_2 : ∀ w ∈ (vx_atS "ServiceDesk" 62 "java/lang/IllegalStateException" ["java/lang/RuntimeException", "java/lang/Exception"]).filter (fun w => !goodWord w), w ∈ nxL := by decide +kernel
theorem xo_2 : ∀ w ∈ vx_atS "ServiceDesk" 62 "java/lang/IllegalStateException" ["java/lang/RuntimeException", "java/lang/Exception"], vx_ot w = true := by decide +kernel
theorem xw_2 {c0 : Cond} {args : Array Value} {s : State} (hts : ∀ w ∈ c0 :: CW, w.before args s = true) (hX : NX s) : ∀ w ∈ vx_atS "ServiceDesk" 62 "java/lang/IllegalStateException" ["java/lang/RuntimeException", "java/lang/Exception"], w.before args s = true := vx_hat (B := nxL) (fun w hw => hts w (cw_in (xg_2 w hw) (List.mem_filter.mp hw).2)) xb_2 (fun w hw => (hX w hw).use (nx_tabs w hw))
theorem xg_3 : ∀ w ∈ (vx_atS "ServiceDesk" 82 "java/lang/UnsupportedOperationException" ["java/lang/RuntimeException", "java/lang/Exception"]).filter goodWord, w ∈ lw_tbl := by decide +kernel
theorem xb_3 : ∀ w ∈ (vx_atS "ServiceDesk" 82 "java/lang/UnsupportedOperationException" ["java/lang/RuntimeException", "java/lang/Exception"]).filter (fun w => !goodWord w), w ∈ nxL := by decide +kernel
theorem xo_3 : ∀ w ∈ vx_atS "ServiceDesk" 82 "java/lang/UnsupportedOperationException" ["java/lang/RuntimeException", "java/lang/Exception"], vx_ot w = true := by decide +kernel
theorem xw_3 {c0 : Cond} {args : Array Value} {s : State} (hts : ∀ w ∈ c0 :: CW, w.before args s = true) (hX : NX s) : ∀ w ∈ vx_atS "ServiceDesk" 82 "java/lang/UnsupportedOperationException" ["java/lang/RuntimeException", "java/lang/Exception"], w.before args s = true := vx_hat (B := nxL) (fun w hw => hts w (cw_in (xg_3 w hw) (List.mem_filter.mp hw).2)) xb_3 (fun w hw => (hX w hw).use (nx_tabs w hw))
end
section
/-! how calls change the state -/
abbrev setV (v : St) (i : Nat) (m a b : Int32) : St := ubs (uas (umd v (upd (zmd v) i m)) (upd (zas v) i a)) (upd (zbs v) i b)
abbrev addS (v : St) (k : Nat) (a : Int32) : St := umk (uop (uab v (upd (zab v) (k * 30 + mN v k) a)) (upd (zop v) (k * 30 + mN v k) 1)) (upd (zmk v) k (nI (mN v k + 1)))
def lenT (f : Nat → Int32) (b : Nat) (p0 : Int64) (n : Nat) : Nat → Nat → Int32
  | 0 => f
  | i + 1 => upd (lenT f b p0 n i) (b + i) (byteF p0 (nI n) (nI i)).toInt8.toInt32
abbrev lenS (v : St) (g : Nat) (p0 : Int64) (n : Nat) : St := uln (utx v (lenT (ztx v) (g * 16 + lN9 v g) p0 n n)) (upd (zln v) g (nI (lN9 v g + n)))
abbrev telN (f : Nat → Int32) (b : Nat) (t x y z w : Int32) : Nat → Int32 := upd (upd (upd (upd (upd f b t) (b + 1) x) (b + 2) y) (b + 3) z) (b + 4) w
def telS (v : St) (t x y z w : Int32) : St := if 80 ≤ kN v then v else ukp (unu v (telN (znu v) (kN v * 5) t x y z w)) (nI (kN v + 1))
/-- the slot of the one above -/
def abG (v : St) (k j : Nat) : Nat := (zka v k).toNatClampNeg * 30 + (zab v (k * 30 + j)).toNatClampNeg
def carF (v : St) (k j n : Nat) (x : Int64) : St :=
  if zmd v (k * 8 + n) = 2 then usm v (upd (zsm v) (k * 30 + j) x.toInt32)
  else if zmd v (k * 8 + n) = 6 then (if zka v k = -1 then v else usm v (upd (zsm v) (abG v k j) x.toInt32))
  else if zmd v (k * 8 + n) = 7 then uop v (upd (zop v) (k * 30 + j) 0) else v
theorem lenT_s (f : Nat → Int32) (b : Nat) (p0 : Int64) (n i : Nat) : lenT f b p0 n (i + 1) = upd (lenT f b p0 n i) (b + i) (byteF p0 (nI n) (nI i)).toInt8.toInt32 := rfl
section CAR
variable {v : St} {k j n : Nat} {x : Int64}
theorem carF_2 (h : zmd v (k * 8 + n) = 2) : usm v (upd (zsm v) (k * 30 + j) x.toInt32) = carF v k j n x := by rw [carF, if_pos h]
theorem carF_7 (h : zmd v (k * 8 + n) = 7) : uop v (upd (zop v) (k * 30 + j) 0) = carF v k j n x := by rw [carF, if_neg (by rw [h]; decide), if_neg (by rw [h]; decide), if_pos h]
theorem carF_o (h : ¬ zmd v (k * 8 + n) = 2) (h6 : ¬ zmd v (k * 8 + n) = 6) (h7 : ¬ zmd v (k * 8 + n) = 7) : v = carF v k j n x := by rw [carF, if_neg h, if_neg h6, if_neg h7]
theorem carF_6 {u : St} {r : Int32} (hi : Inv v) (h : zmd v (k * 8 + n) = 6) (h1 : (r = -1 ∧ zka v k = -1) ∨ ∃ k2 j2, k2 < 8 ∧ j2 < mN v k2 ∧ zka v k = nI k2 ∧ zab v (k * 30 + j) = nI j2 ∧ r = nI (k2 * 30 + j2)) (h2 : (r = -1 ∧ u = v) ∨ ∃ g, g < 240 ∧ r = nI g ∧ u = usm v (upd (zsm v) g x.toInt32)) : u = carF v k j n x := by
  rw [carF, if_neg (by rw [h]; decide), if_pos h]
  rcases h1 with ⟨h1, h3⟩ | ⟨k2, j2, b1, b2, b3, b4, b5⟩
  · rw [if_pos h3]
    rcases h2 with ⟨-, h4⟩ | ⟨g, h4, h5, -⟩
    · exact h4
    · rw [h1] at h5
      exact absurd (show nI g < 0 by rw [← h5]; decide) (nI_pos (by omega))
  · have hM := (hi.mk k2 b1).1
    rw [if_neg (by rw [b3]; intro e; exact absurd (show nI k2 < 0 by rw [e]; decide) (nI_pos (by omega))), abG, b3, b4, nI_clamp (by omega), nI_clamp (by omega)]
    rcases h2 with ⟨h4, -⟩ | ⟨g, h4, h5, h6⟩
    · rw [b5] at h4
      exact absurd (show nI (k2 * 30 + j2) < 0 by rw [h4]; decide) (nI_pos (by omega))
    · rw [b5] at h5
      have e : k2 * 30 + j2 = g := (nI_eq (by omega) (by omega)).mp h5
      rw [h6, e]
end CAR
end
section
set_option maxHeartbeats 4000000 in
set_option maxRecDepth 100000 in
theorem c_w_set (l : Launch) (dC : Nat → ClassId) (dI : Nat → Nat → Nat) (q : Nat → Nat) (cI cZ cB : ClassId) (v : St) (sz : Nat) (i : Nat) (hi9 : i < 64) (m0 a b : Int32) : Met l y_w_set (Cond.code y_w_set b_w_set 5 none :: CW) { frames := 0, cells := 0, slots := 0, locals := 0 } (va_Pc [.ref (q 2), .int (nI i), .int m0, .int a, .int b] (WrC (dC, dI) sz (wC q cI cZ cB v) (tyC cI cZ cB))) (va_Qv (fun u : St => u = setV v i m0 a b) (fun u => WrB (dC, dI) (wC q cI cZ cB u) (tyC cI cZ cB) (va_A (wC q cI cZ cB v) sz)) (va_A (wC q cI cZ cB v) sz)) 0 0 (va_A (wC q cI cZ cB v) sz) := by
  refine cx_met (by decide) (Nat.le_of_ble_eq_true rfl) ?_
  intro p e s m below meth c hx hb hr hml hts hown hlocks hnm hC ls hl
  obtain ⟨hsz, hP, hK, hD0, hN⟩ := hC
  subst hsz
  have hD := hD0.self (sz := s.heap.size)
  generalize hAe : va_A (wC q cI cZ cB v) s.heap.size = A at hD ⊢
  have hA : ∀ q9 : Nat, s.heap.size ≤ q9 → A q9 := fun q9 h => by rw [← hAe]; exact Or.inr h
  have hS : va_S A s.heap s.heap [] := va_S.rf
  have hown : s.vm.findClass "ServiceDesk$Verbs" = some m.cls := hown
  have hl : lv_has ls 5 [(0, .ref (q 2)), (1, .int (nI i)), (2, .int m0), (3, .int a), (4, .int b)] := hl
  refine lv_aload_n hx hb z_w_set_0 rfl (lv_at hl 0 rfl) ?_
  refine va_get (D := (dC, dI)) (ci := 2) (v := .ref (q 3)) (C := R2) (T := T2) (N := 3) hx hb hts (cw_sub iC2) hown hK hP 2 rfl rfl 0 (by decide) (hts _ (cw_in mw_28 rfl)) (fun _ h9 => h9) rfl z_w_set_1 ?_
  refine lv_iload_n hx hb z_w_set_4 rfl (lv_at hl 1 rfl) ?_
  refine lv_iload_n hx hb z_w_set_5 rfl (lv_at hl 2 rfl) ?_
  refine xs_i hx hb hK hP hD hS 3 0 rfl rfl (k := i) (hi9) (by decide) z_w_set_6 (fun H locs hP hD hS => ?_)
  have hP : va_P (dC, dI) vwCl (wC q cI cZ cB (umd v (upd (zmd v) i m0))) H := hP
  have hD : va_D A (wC q cI cZ cB (umd v (upd (zmd v) i m0))) := hD
  refine lv_aload_n hx hb z_w_set_7 rfl (lv_at hl 0 rfl) ?_
  refine va_get (D := (dC, dI)) (ci := 2) (v := .ref (q 4)) (C := R2) (T := T2) (N := 3) hx hb hts (cw_sub iC2) hown hK hP 2 rfl rfl 1 (by decide) (hts _ (cw_in mw_30 rfl)) (fun _ h9 => h9) rfl z_w_set_8 ?_
  refine lv_iload_n hx hb z_w_set_11 rfl (lv_at hl 1 rfl) ?_
  refine lv_iload_n hx hb z_w_set_12 rfl (lv_at hl 3 rfl) ?_
  refine xs_i hx hb hK hP hD hS 4 0 rfl rfl (k := i) (hi9) (by decide) z_w_set_13 (fun H locs hP hD hS => ?_)
  have hP : va_P (dC, dI) vwCl (wC q cI cZ cB (uas (umd v (upd (zmd v) i m0)) (upd (zas v) i a))) H := hP
  have hD : va_D A (wC q cI cZ cB (uas (umd v (upd (zmd v) i m0)) (upd (zas v) i a))) := hD
  refine lv_aload_n hx hb z_w_set_14 rfl (lv_at hl 0 rfl) ?_
  refine va_get (D := (dC, dI)) (ci := 2) (v := .ref (q 5)) (C := R2) (T := T2) (N := 3) hx hb hts (cw_sub iC2) hown hK hP 2 rfl rfl 2 (by decide) (hts _ (cw_in mw_32 rfl)) (fun _ h9 => h9) rfl z_w_set_15 ?_
  refine lv_iload_n hx hb z_w_set_18 rfl (lv_at hl 1 rfl) ?_
  refine lv_iload hx hb z_w_set_19 (lv_at hl 4 rfl) ?_
  refine xs_i hx hb hK hP hD hS 5 0 rfl rfl (k := i) (hi9) (by decide) z_w_set_21 (fun H locs hP hD hS => ?_)
  have hP : va_P (dC, dI) vwCl (wC q cI cZ cB (ubs (uas (umd v (upd (zmd v) i m0)) (upd (zas v) i a)) (upd (zbs v) i b))) H := hP
  have hD : va_D A (wC q cI cZ cB (ubs (uas (umd v (upd (zmd v) i m0)) (upd (zas v) i a)) (upd (zbs v) i b))) := hD
  exact W.vret hx hb hr (fun t ht hW => ⟨⟨ubs (uas (umd v (upd (zmd v) i m0)) (upd (zas v) i a)) (upd (zbs v) i b), rfl, rfl, by rw [ht]; exact hP, va_K.moved hW.alike hK, hD⟩, hS.F ht⟩) hS.2.2 z_w_set_22

set_option maxHeartbeats 4000000 in
set_option maxRecDepth 100000 in
theorem c_s_add (l : Launch) (dC : Nat → ClassId) (dI : Nat → Nat → Nat) (q : Nat → Nat) (cI cZ cB : ClassId) (v : St) (sz : Nat) (hi : Inv v) (k : Nat) (hk : k < 8) (hM : mN v k < 30) (a : Int32) : Met l y_s_add (Cond.code y_s_add b_s_add 5 (some .int) :: CW) { frames := 1, cells := 0, slots := 0, locals := 21 } (va_Pc [.ref (q 6), .int (nI k), .int a] (WrC (dC, dI) sz (wC q cI cZ cB v) (tyC cI cZ cB))) (va_Qi (fun (r : Int32) (u : St) => r = nI (mN v k) ∧ u = addS v k a) (fun u => WrB (dC, dI) (wC q cI cZ cB u) (tyC cI cZ cB) (va_A (wC q cI cZ cB v) sz)) (va_A (wC q cI cZ cB v) sz)) 0 0 (va_A (wC q cI cZ cB v) sz) := by
  refine cx_met (by decide) (Nat.le_of_ble_eq_true rfl) ?_
  intro p e s m below meth c hx hb hr hml hts hown hlocks hnm hC ls hl
  obtain ⟨hsz, hP, hK, hD0, hN⟩ := hC
  subst hsz
  have hD := hD0.self (sz := s.heap.size)
  generalize hAe : va_A (wC q cI cZ cB v) s.heap.size = A at hD ⊢
  have hA : ∀ q9 : Nat, s.heap.size ≤ q9 → A q9 := fun q9 h => by rw [← hAe]; exact Or.inr h
  have hS : va_S A s.heap s.heap [] := va_S.rf
  have hown : s.vm.findClass "ServiceDesk$Subjects" = some m.cls := hown
  have hl : lv_has ls 5 [(0, .ref (q 6)), (1, .int (nI k)), (2, .int a)] := hl
  refine lv_aload_n hx hb z_s_add_0 rfl (lv_at hl 0 rfl) ?_
  refine va_get (D := (dC, dI)) (ci := 1) (v := .ref (q 7)) (C := R1) (T := T1) (N := 6) hx hb hts (cw_sub iC1) hown hK hP 6 rfl rfl 0 (by decide) (hts _ (cw_in mw_48 rfl)) (fun _ h9 => h9) rfl z_s_add_1 ?_
  refine lv_iload_n hx hb z_s_add_4 rfl (lv_at hl 1 rfl) ?_
  refine xa_i hx hb hK hP 7 0 rfl rfl (k := k) (y := nI (mN v k)) (hk) (by decide) ((hi.mk k hk).2) z_s_add_5 ?_
  refine lv_istore_n (lv' := [(3, .int (nI (mN v k))), (0, .ref (q 6)), (1, .int (nI k)), (2, .int a)]) hx hb z_s_add_6 rfl hl (by decide) rfl (fun ls hl => ?_)
  refine lv_iload_n hx hb z_s_add_7 rfl (lv_at hl 2 rfl) ?_
  refine lv_iload_n hx hb z_s_add_8 rfl (lv_at hl 0 rfl) ?_
  refine rdSNi (As := [.int (nI k), .int (nI (mN v k))]) (rest := []) ⟨hx, hb, hml, hown, hts⟩ (c_d_slotOf l k (mN v k)) mw_125 (hN _ nw_14) mw_124 mw_1 yd_d_slotOf ⟨⟨rfl, rfl⟩, Nat.le_of_ble_eq_true rfl, Nat.le_of_ble_eq_true rfl⟩ ⟨Nat.zero_le _, Nat.zero_le _⟩ (pre_pure) rfl hl.1 rfl (Nat.le_of_ble_eq_true rfl) z_s_add_9 (fun r_1 h_2 => ?_)
  subst h_2
  refine lv_istore (lv' := [(4, .int (nI (k * 30 + (mN v k)))), (3, .int (nI (mN v k))), (0, .ref (q 6)), (1, .int (nI k)), (2, .int a)]) hx hb z_s_add_12 hl (by decide) rfl (fun ls hl => ?_)
  refine lv_aload_n hx hb z_s_add_14 rfl (lv_at hl 2 rfl) ?_
  refine va_get (D := (dC, dI)) (ci := 1) (v := .ref (q 8)) (C := R1) (T := T1) (N := 6) hx hb hts (cw_sub iC1) hown hK hP 6 rfl rfl 1 (by decide) (hts _ (cw_in mw_50 rfl)) (fun _ h9 => h9) rfl z_s_add_15 ?_
  refine lv_iload hx hb z_s_add_18 (lv_at hl 0 rfl) ?_
  refine lv_iload_n hx hb z_s_add_20 rfl (lv_at hl 4 rfl) ?_
  refine xs_i hx hb hK hP hD hS 8 0 rfl rfl (k := (k * 30 + (mN v k))) (by omega) (by decide) z_s_add_21 (fun H locs hP hD hS => ?_)
  have hP : va_P (dC, dI) vwCl (wC q cI cZ cB (uab v (upd (zab v) (k * 30 + (mN v k)) a))) H := hP
  have hD : va_D A (wC q cI cZ cB (uab v (upd (zab v) (k * 30 + (mN v k)) a))) := hD
  refine lv_aload_n hx hb z_s_add_22 rfl (lv_at hl 2 rfl) ?_
  refine va_get (D := (dC, dI)) (ci := 1) (v := .ref (q 9)) (C := R1) (T := T1) (N := 6) hx hb hts (cw_sub iC1) hown hK hP 6 rfl rfl 2 (by decide) (hts _ (cw_in mw_52 rfl)) (fun _ h9 => h9) rfl z_s_add_23 ?_
  refine lv_iload hx hb z_s_add_26 (lv_at hl 0 rfl) ?_
  refine lv_iconst (v := 1) hx hb z_s_add_28 (by decide) ?_
  refine xs_z hx hb hK hP hD hS 9 1 rfl rfl (k := (k * 30 + (mN v k))) (y := 1) (by omega) (by decide) (rfl) z_s_add_29 (fun H locs hP hD hS => ?_)
  have hP : va_P (dC, dI) vwCl (wC q cI cZ cB (uop (uab v (upd (zab v) (k * 30 + (mN v k)) a)) (upd (zop v) (k * 30 + (mN v k)) 1))) H := hP
  have hD : va_D A (wC q cI cZ cB (uop (uab v (upd (zab v) (k * 30 + (mN v k)) a)) (upd (zop v) (k * 30 + (mN v k)) 1))) := hD
  refine lv_aload_n hx hb z_s_add_30 rfl (lv_at hl 2 rfl) ?_
  refine va_get (D := (dC, dI)) (ci := 1) (v := .ref (q 7)) (C := R1) (T := T1) (N := 6) hx hb hts (cw_sub iC1) hown hK hP 6 rfl rfl 0 (by decide) (hts _ (cw_in mw_48 rfl)) (fun _ h9 => h9) rfl z_s_add_31 ?_
  refine lv_iload_n hx hb z_s_add_34 rfl (lv_at hl 3 rfl) ?_
  refine lv_iload_n hx hb z_s_add_35 rfl (lv_at hl 1 rfl) ?_
  refine lv_iconst (v := 1) hx hb z_s_add_36 (by decide) ?_
  refine lv_iadd hx hb z_s_add_37 ?_
  rw [nI_1]
  refine xs_i hx hb hK hP hD hS 7 0 rfl rfl (k := k) (hk) (by decide) z_s_add_38 (fun H locs hP hD hS => ?_)
  have hP : va_P (dC, dI) vwCl (wC q cI cZ cB (umk (uop (uab v (upd (zab v) (k * 30 + (mN v k)) a)) (upd (zop v) (k * 30 + (mN v k)) 1)) (upd (zmk v) k (nI (mN v k + 1))))) H := hP
  have hD : va_D A (wC q cI cZ cB (umk (uop (uab v (upd (zab v) (k * 30 + (mN v k)) a)) (upd (zop v) (k * 30 + (mN v k)) 1)) (upd (zmk v) k (nI (mN v k + 1))))) := hD
  refine lv_iload_n hx hb z_s_add_39 rfl (lv_at hl 1 rfl) ?_
  exact W.iret (v := nI (mN v k)) hx hb hr (fun t ht hW => ⟨⟨nI (mN v k), umk (uop (uab v (upd (zab v) (k * 30 + (mN v k)) a)) (upd (zop v) (k * 30 + (mN v k)) 1)) (upd (zmk v) k (nI (mN v k + 1))), rfl, ⟨rfl, rfl⟩, by rw [ht]; exact hP, va_K.moved hW.alike hK, hD⟩, hS.F ht⟩) hS.2.2 z_s_add_40

set_option maxHeartbeats 4000000 in
set_option maxRecDepth 100000 in
theorem c_r_tell (l : Launch) (dC : Nat → ClassId) (dI : Nat → Nat → Nat) (q : Nat → Nat) (cI cZ cB : ClassId) (v : St) (sz : Nat) (hi : Inv v) (t0 x y z w : Int32) : Met l y_r_tell (Cond.code y_r_tell b_r_tell 7 none :: CW) { frames := 0, cells := 0, slots := 0, locals := 0 } (va_Pc [.ref (q 13), .int t0, .int x, .int y, .int z, .int w] (WrC (dC, dI) sz (wC q cI cZ cB v) (tyC cI cZ cB))) (va_Qv (fun u : St => u = telS v t0 x y z w) (fun u => WrB (dC, dI) (wC q cI cZ cB u) (tyC cI cZ cB) (va_A (wC q cI cZ cB v) sz)) (va_A (wC q cI cZ cB v) sz)) 0 0 (va_A (wC q cI cZ cB v) sz) := by
  refine cx_met (by decide) (Nat.le_of_ble_eq_true rfl) ?_
  intro p e s m below meth c hx hb hr hml hts hown hlocks hnm hC ls hl
  obtain ⟨hsz, hP, hK, hD0, hN⟩ := hC
  subst hsz
  have hD := hD0.self (sz := s.heap.size)
  generalize hAe : va_A (wC q cI cZ cB v) s.heap.size = A at hD ⊢
  have hA : ∀ q9 : Nat, s.heap.size ≤ q9 → A q9 := fun q9 h => by rw [← hAe]; exact Or.inr h
  have hS : va_S A s.heap s.heap [] := va_S.rf
  have hown : s.vm.findClass "ServiceDesk$Rows" = some m.cls := hown
  have hl : lv_has ls 7 [(0, .ref (q 13)), (1, .int t0), (2, .int x), (3, .int y), (4, .int z), (5, .int w)] := hl
  have hL := hi.kp.1
  refine lv_aload_n hx hb z_r_tell_0 rfl (lv_at hl 0 rfl) ?_
  refine va_get (D := (dC, dI)) (ci := 0) (v := .int (zkp v)) (C := R0) (T := T0) (N := 2) hx hb hts (cw_sub iC0) hown hK hP 13 rfl rfl 1 (by decide) (hts _ (cw_in mw_82 rfl)) (fun _ h9 => h9) rfl z_r_tell_1 ?_
  rw [hi.kp.2]
  refine lv_bipush (v := 80) hx hb z_r_tell_4 (by decide) ?_
  refine lv_icmp_lt (tgt := 10) hx hb z_r_tell_6 (by decide) (fun c_6 => ?_) (fun c_6 => ?_)
  · have hL2 : kN v < 80 := (nI_ltI (by omega) (by decide)).mp c_6
    refine lv_aload_n hx hb z_r_tell_10 rfl (lv_at hl 0 rfl) ?_
    refine va_get (D := (dC, dI)) (ci := 0) (v := .int (zkp v)) (C := R0) (T := T0) (N := 2) hx hb hts (cw_sub iC0) hown hK hP 13 rfl rfl 1 (by decide) (hts _ (cw_in mw_82 rfl)) (fun _ h9 => h9) rfl z_r_tell_11 ?_
    rw [hi.kp.2]
    refine lv_iconst (v := 5) hx hb z_r_tell_14 (by decide) ?_
    refine lv_imul hx hb z_r_tell_15 ?_
    rw [mul5_nI]
    refine lv_istore (lv' := [(6, .int (nI (kN v * 5))), (0, .ref (q 13)), (1, .int t0), (2, .int x), (3, .int y), (4, .int z), (5, .int w)]) hx hb z_r_tell_16 hl (by decide) rfl (fun ls hl => ?_)
    refine lv_aload_n hx hb z_r_tell_18 rfl (lv_at hl 1 rfl) ?_
    refine va_get (D := (dC, dI)) (ci := 0) (v := .ref (q 14)) (C := R0) (T := T0) (N := 2) hx hb hts (cw_sub iC0) hown hK hP 13 rfl rfl 0 (by decide) (hts _ (cw_in mw_80 rfl)) (fun _ h9 => h9) rfl z_r_tell_19 ?_
    refine lv_iload hx hb z_r_tell_22 (lv_at hl 0 rfl) ?_
    refine lv_iload_n hx hb z_r_tell_24 rfl (lv_at hl 2 rfl) ?_
    refine xs_i hx hb hK hP hD hS 14 0 rfl rfl (k := (kN v * 5)) (by omega) (by decide) z_r_tell_25 (fun H locs hP hD hS => ?_)
    have hP : va_P (dC, dI) vwCl (wC q cI cZ cB (unu v (upd (znu v) (kN v * 5) t0))) H := hP
    have hD : va_D A (wC q cI cZ cB (unu v (upd (znu v) (kN v * 5) t0))) := hD
    refine lv_aload_n hx hb z_r_tell_26 rfl (lv_at hl 1 rfl) ?_
    refine va_get (D := (dC, dI)) (ci := 0) (v := .ref (q 14)) (C := R0) (T := T0) (N := 2) hx hb hts (cw_sub iC0) hown hK hP 13 rfl rfl 0 (by decide) (hts _ (cw_in mw_80 rfl)) (fun _ h9 => h9) rfl z_r_tell_27 ?_
    refine lv_iload hx hb z_r_tell_30 (lv_at hl 0 rfl) ?_
    refine lv_iconst (v := 1) hx hb z_r_tell_32 (by decide) ?_
    refine lv_iadd hx hb z_r_tell_33 ?_
    rw [show nI (kN v * 5) + 1 = nI (kN v * 5 + 1) from nI_add _ 1]
    refine lv_iload_n hx hb z_r_tell_34 rfl (lv_at hl 3 rfl) ?_
    refine xs_i hx hb hK hP hD hS 14 0 rfl rfl (k := (kN v * 5 + 1)) (by omega) (by decide) z_r_tell_35 (fun H locs hP hD hS => ?_)
    have hP : va_P (dC, dI) vwCl (wC q cI cZ cB (unu (unu v (upd (znu v) (kN v * 5) t0)) (upd (upd (znu v) (kN v * 5) t0) (kN v * 5 + 1) x))) H := hP
    have hD : va_D A (wC q cI cZ cB (unu (unu v (upd (znu v) (kN v * 5) t0)) (upd (upd (znu v) (kN v * 5) t0) (kN v * 5 + 1) x))) := hD
    refine lv_aload_n hx hb z_r_tell_36 rfl (lv_at hl 1 rfl) ?_
    refine va_get (D := (dC, dI)) (ci := 0) (v := .ref (q 14)) (C := R0) (T := T0) (N := 2) hx hb hts (cw_sub iC0) hown hK hP 13 rfl rfl 0 (by decide) (hts _ (cw_in mw_80 rfl)) (fun _ h9 => h9) rfl z_r_tell_37 ?_
    refine lv_iload hx hb z_r_tell_40 (lv_at hl 0 rfl) ?_
    refine lv_iconst (v := 2) hx hb z_r_tell_42 (by decide) ?_
    refine lv_iadd hx hb z_r_tell_43 ?_
    rw [show nI (kN v * 5) + 2 = nI (kN v * 5 + 2) from nI_add _ 2]
    refine lv_iload_n hx hb z_r_tell_44 rfl (lv_at hl 4 rfl) ?_
    refine xs_i hx hb hK hP hD hS 14 0 rfl rfl (k := (kN v * 5 + 2)) (by omega) (by decide) z_r_tell_45 (fun H locs hP hD hS => ?_)
    have hP : va_P (dC, dI) vwCl (wC q cI cZ cB (unu (unu (unu v (upd (znu v) (kN v * 5) t0)) (upd (upd (znu v) (kN v * 5) t0) (kN v * 5 + 1) x)) (upd (upd (upd (znu v) (kN v * 5) t0) (kN v * 5 + 1) x) (kN v * 5 + 2) y))) H := hP
    have hD : va_D A (wC q cI cZ cB (unu (unu (unu v (upd (znu v) (kN v * 5) t0)) (upd (upd (znu v) (kN v * 5) t0) (kN v * 5 + 1) x)) (upd (upd (upd (znu v) (kN v * 5) t0) (kN v * 5 + 1) x) (kN v * 5 + 2) y))) := hD
    refine lv_aload_n hx hb z_r_tell_46 rfl (lv_at hl 1 rfl) ?_
    refine va_get (D := (dC, dI)) (ci := 0) (v := .ref (q 14)) (C := R0) (T := T0) (N := 2) hx hb hts (cw_sub iC0) hown hK hP 13 rfl rfl 0 (by decide) (hts _ (cw_in mw_80 rfl)) (fun _ h9 => h9) rfl z_r_tell_47 ?_
    refine lv_iload hx hb z_r_tell_50 (lv_at hl 0 rfl) ?_
    refine lv_iconst (v := 3) hx hb z_r_tell_52 (by decide) ?_
    refine lv_iadd hx hb z_r_tell_53 ?_
    rw [show nI (kN v * 5) + 3 = nI (kN v * 5 + 3) from nI_add _ 3]
    refine lv_iload hx hb z_r_tell_54 (lv_at hl 5 rfl) ?_
    refine xs_i hx hb hK hP hD hS 14 0 rfl rfl (k := (kN v * 5 + 3)) (by omega) (by decide) z_r_tell_56 (fun H locs hP hD hS => ?_)
    have hP : va_P (dC, dI) vwCl (wC q cI cZ cB (unu (unu (unu (unu v (upd (znu v) (kN v * 5) t0)) (upd (upd (znu v) (kN v * 5) t0) (kN v * 5 + 1) x)) (upd (upd (upd (znu v) (kN v * 5) t0) (kN v * 5 + 1) x) (kN v * 5 + 2) y)) (upd (upd (upd (upd (znu v) (kN v * 5) t0) (kN v * 5 + 1) x) (kN v * 5 + 2) y) (kN v * 5 + 3) z))) H := hP
    have hD : va_D A (wC q cI cZ cB (unu (unu (unu (unu v (upd (znu v) (kN v * 5) t0)) (upd (upd (znu v) (kN v * 5) t0) (kN v * 5 + 1) x)) (upd (upd (upd (znu v) (kN v * 5) t0) (kN v * 5 + 1) x) (kN v * 5 + 2) y)) (upd (upd (upd (upd (znu v) (kN v * 5) t0) (kN v * 5 + 1) x) (kN v * 5 + 2) y) (kN v * 5 + 3) z))) := hD
    refine lv_aload_n hx hb z_r_tell_57 rfl (lv_at hl 1 rfl) ?_
    refine va_get (D := (dC, dI)) (ci := 0) (v := .ref (q 14)) (C := R0) (T := T0) (N := 2) hx hb hts (cw_sub iC0) hown hK hP 13 rfl rfl 0 (by decide) (hts _ (cw_in mw_80 rfl)) (fun _ h9 => h9) rfl z_r_tell_58 ?_
    refine lv_iload hx hb z_r_tell_61 (lv_at hl 0 rfl) ?_
    refine lv_iconst (v := 4) hx hb z_r_tell_63 (by decide) ?_
    refine lv_iadd hx hb z_r_tell_64 ?_
    rw [show nI (kN v * 5) + 4 = nI (kN v * 5 + 4) from nI_add _ 4]
    refine lv_iload hx hb z_r_tell_65 (lv_at hl 6 rfl) ?_
    refine xs_i hx hb hK hP hD hS 14 0 rfl rfl (k := (kN v * 5 + 4)) (by omega) (by decide) z_r_tell_67 (fun H locs hP hD hS => ?_)
    have hP : va_P (dC, dI) vwCl (wC q cI cZ cB (unu (unu (unu (unu (unu v (upd (znu v) (kN v * 5) t0)) (upd (upd (znu v) (kN v * 5) t0) (kN v * 5 + 1) x)) (upd (upd (upd (znu v) (kN v * 5) t0) (kN v * 5 + 1) x) (kN v * 5 + 2) y)) (upd (upd (upd (upd (znu v) (kN v * 5) t0) (kN v * 5 + 1) x) (kN v * 5 + 2) y) (kN v * 5 + 3) z)) (upd (upd (upd (upd (upd (znu v) (kN v * 5) t0) (kN v * 5 + 1) x) (kN v * 5 + 2) y) (kN v * 5 + 3) z) (kN v * 5 + 4) w))) H := hP
    have hD : va_D A (wC q cI cZ cB (unu (unu (unu (unu (unu v (upd (znu v) (kN v * 5) t0)) (upd (upd (znu v) (kN v * 5) t0) (kN v * 5 + 1) x)) (upd (upd (upd (znu v) (kN v * 5) t0) (kN v * 5 + 1) x) (kN v * 5 + 2) y)) (upd (upd (upd (upd (znu v) (kN v * 5) t0) (kN v * 5 + 1) x) (kN v * 5 + 2) y) (kN v * 5 + 3) z)) (upd (upd (upd (upd (upd (znu v) (kN v * 5) t0) (kN v * 5 + 1) x) (kN v * 5 + 2) y) (kN v * 5 + 3) z) (kN v * 5 + 4) w))) := hD
    refine lv_aload_n hx hb z_r_tell_68 rfl (lv_at hl 1 rfl) ?_
    refine lv_dup hx hb z_r_tell_69 rfl ?_
    refine va_get (D := (dC, dI)) (ci := 0) (v := .int (zkp v)) (C := R0) (T := T0) (N := 2) hx hb hts (cw_sub iC0) hown hK hP 13 rfl rfl 1 (by decide) (hts _ (cw_in mw_82 rfl)) (fun _ h9 => h9) rfl z_r_tell_70 ?_
    rw [hi.kp.2]
    refine lv_iconst (v := 1) hx hb z_r_tell_73 (by decide) ?_
    refine lv_iadd hx hb z_r_tell_74 ?_
    rw [nI_1]
    refine va_put (D := (dC, dI)) (ci := 0) (v := .int (nI (kN v + 1))) (ty := .int) (C := R0) (T := T0) (N := 2) hx hb hts (cw_sub iC0) ty0 tyok0 nm0 hown hK hP hD hS 13 rfl rfl 1 (by decide) (hts _ (cw_in mw_82 rfl)) (fun _ h9 => h9) rfl (by decide +kernel) rfl rfl (Nat.le_of_ble_eq_true rfl) z_r_tell_75 (fun H locs hP hD hS => ?_)
    have hP : va_P (dC, dI) vwCl (wC q cI cZ cB (ukp (unu (unu (unu (unu (unu v (upd (znu v) (kN v * 5) t0)) (upd (upd (znu v) (kN v * 5) t0) (kN v * 5 + 1) x)) (upd (upd (upd (znu v) (kN v * 5) t0) (kN v * 5 + 1) x) (kN v * 5 + 2) y)) (upd (upd (upd (upd (znu v) (kN v * 5) t0) (kN v * 5 + 1) x) (kN v * 5 + 2) y) (kN v * 5 + 3) z)) (upd (upd (upd (upd (upd (znu v) (kN v * 5) t0) (kN v * 5 + 1) x) (kN v * 5 + 2) y) (kN v * 5 + 3) z) (kN v * 5 + 4) w)) (nI (kN v + 1)))) H := hP
    have hD : va_D A (wC q cI cZ cB (ukp (unu (unu (unu (unu (unu v (upd (znu v) (kN v * 5) t0)) (upd (upd (znu v) (kN v * 5) t0) (kN v * 5 + 1) x)) (upd (upd (upd (znu v) (kN v * 5) t0) (kN v * 5 + 1) x) (kN v * 5 + 2) y)) (upd (upd (upd (upd (znu v) (kN v * 5) t0) (kN v * 5 + 1) x) (kN v * 5 + 2) y) (kN v * 5 + 3) z)) (upd (upd (upd (upd (upd (znu v) (kN v * 5) t0) (kN v * 5 + 1) x) (kN v * 5 + 2) y) (kN v * 5 + 3) z) (kN v * 5 + 4) w)) (nI (kN v + 1)))) := hD
    exact W.vret hx hb hr (fun t ht hW => ⟨⟨ukp (unu (unu (unu (unu (unu v (upd (znu v) (kN v * 5) t0)) (upd (upd (znu v) (kN v * 5) t0) (kN v * 5 + 1) x)) (upd (upd (upd (znu v) (kN v * 5) t0) (kN v * 5 + 1) x) (kN v * 5 + 2) y)) (upd (upd (upd (upd (znu v) (kN v * 5) t0) (kN v * 5 + 1) x) (kN v * 5 + 2) y) (kN v * 5 + 3) z)) (upd (upd (upd (upd (upd (znu v) (kN v * 5) t0) (kN v * 5 + 1) x) (kN v * 5 + 2) y) (kN v * 5 + 3) z) (kN v * 5 + 4) w)) (nI (kN v + 1)), rfl, by rw [telS, if_neg (by omega)], by rw [ht]; exact hP, va_K.moved hW.alike hK, hD⟩, hS.F ht⟩) hS.2.2 z_r_tell_78
  · exact W.vret hx hb hr (fun t ht hW => ⟨⟨v, rfl, by rw [telS, if_pos (Nat.not_lt.mp (fun h => c_6 (nI_lt (b := 80) h (by decide))))], by rw [ht]; exact hP, va_K.moved hW.alike hK, hD⟩, hS.F ht⟩) hS.2.2 z_r_tell_9

set_option maxHeartbeats 4000000 in
set_option maxRecDepth 100000 in
theorem c_d_setSum (l : Launch) (dC : Nat → ClassId) (dI : Nat → Nat → Nat) (q : Nat → Nat) (cI cZ cB : ClassId) (v : St) (sz : Nat) (y : Int32) (x : Int64) (h9 : y = -1 ∨ ∃ g, g < 240 ∧ y = nI g) : Met l y_d_setSum (Cond.code y_d_setSum b_d_setSum 4 none :: CW) { frames := 0, cells := 0, slots := 0, locals := 0 } (va_Pc [.ref (q 0), .int y, .long x] (WrC (dC, dI) sz (wC q cI cZ cB v) (tyC cI cZ cB))) (va_Qv (fun u : St => (y = -1 ∧ u = v) ∨ ∃ g, g < 240 ∧ y = nI g ∧ u = usm v (upd (zsm v) g x.toInt32)) (fun u => WrB (dC, dI) (wC q cI cZ cB u) (tyC cI cZ cB) (va_A (wC q cI cZ cB v) sz)) (va_A (wC q cI cZ cB v) sz)) 0 0 (va_A (wC q cI cZ cB v) sz) := by
  refine cx_met (by decide) (Nat.le_of_ble_eq_true rfl) ?_
  intro p e s m below meth c hx hb hr hml hts hown hlocks hnm hC ls hl
  obtain ⟨hsz, hP, hK, hD0, hN⟩ := hC
  subst hsz
  have hD := hD0.self (sz := s.heap.size)
  generalize hAe : va_A (wC q cI cZ cB v) s.heap.size = A at hD ⊢
  have hA : ∀ q9 : Nat, s.heap.size ≤ q9 → A q9 := fun q9 h => by rw [← hAe]; exact Or.inr h
  have hS : va_S A s.heap s.heap [] := va_S.rf
  have hown : s.vm.findClass "ServiceDesk" = some m.cls := hown
  have hl : lv_has ls 4 [(0, .ref (q 0)), (1, .int y), (2, .long x)] := hl
  refine lv_iload_n hx hb z_d_setSum_0 rfl (lv_at hl 1 rfl) ?_
  refine lv_iconst (v := (-1)) hx hb z_d_setSum_1 (by decide) ?_
  refine lv_icmp_eq (tgt := 16) hx hb z_d_setSum_2 (by decide) (fun c_2 => ?_) (fun c_2 => ?_)
  · exact W.vret hx hb hr (fun t ht hW => ⟨⟨v, rfl, Or.inl ⟨c_2, rfl⟩, by rw [ht]; exact hP, va_K.moved hW.alike hK, hD⟩, hS.F ht⟩) hS.2.2 z_d_setSum_16
  · obtain ⟨g, hg, rfl⟩ := h9.resolve_left c_2
    refine lv_aload_n hx hb z_d_setSum_5 rfl (lv_at hl 0 rfl) ?_
    refine va_get (D := (dC, dI)) (ci := 3) (v := .ref (q 6)) (C := R3) (T := T3) (N := 6) hx hb hts (cw_sub iC3) hown hK hP 0 rfl rfl 2 (by decide) (hts _ (cw_in mw_94 rfl)) (fun _ h9 => h9) rfl z_d_setSum_6 ?_
    refine va_getN (D := (dC, dI)) (ci := 1) (v := .ref (q 10)) (C := R1) (T := T1) (N := 6) hx hb hts (cw_sub iC1) hown hK hP 6 rfl rfl 3 (by decide) (va_Nw.use rfl (hN _ nw_8)) (fun _ h9 => h9) rfl z_d_setSum_9 ?_
    refine lv_iload_n hx hb z_d_setSum_12 rfl (lv_at hl 1 rfl) ?_
    refine lv_lload_n hx hb z_d_setSum_13 rfl (lv_at hl 2 rfl) ?_
    refine lv_l2i hx hb z_d_setSum_14 rfl ?_
    refine xs_i hx hb hK hP hD hS 10 0 rfl rfl (k := g) (hg) (by decide) z_d_setSum_15 (fun H locs hP hD hS => ?_)
    have hP : va_P (dC, dI) vwCl (wC q cI cZ cB (usm v (upd (zsm v) g x.toInt32))) H := hP
    have hD : va_D A (wC q cI cZ cB (usm v (upd (zsm v) g x.toInt32))) := hD
    exact W.vret hx hb hr (fun t ht hW => ⟨⟨usm v (upd (zsm v) g x.toInt32), rfl, Or.inr ⟨g, hg, rfl, rfl⟩, by rw [ht]; exact hP, va_K.moved hW.alike hK, hD⟩, hS.F ht⟩) hS.2.2 z_d_setSum_16

set_option maxHeartbeats 4000000 in
set_option maxRecDepth 100000 in
theorem c_d_carryOut (l : Launch) (dC : Nat → ClassId) (dI : Nat → Nat → Nat) (q : Nat → Nat) (cI cZ cB : ClassId) (v : St) (sz : Nat) (hi : Inv v) (k j n : Nat) (hk : k < 8) (hj : j < mN v k) (hn : n < 8) (x : Int64) : Met l y_d_carryOut (Cond.code y_d_carryOut b_d_carryOut 6 none :: CW) { frames := 4, cells := 0, slots := 0, locals := 92 } (va_Pc [.ref (q 0), .int (nI k), .int (nI j), .int (nI n), .long x] (WrC (dC, dI) sz (wC q cI cZ cB v) (tyC cI cZ cB))) (va_Qv (fun u : St => u = carF v k j n x) (fun u => WrB (dC, dI) (wC q cI cZ cB u) (tyC cI cZ cB) (va_A (wC q cI cZ cB v) sz)) (va_A (wC q cI cZ cB v) sz)) 0 0 (va_A (wC q cI cZ cB v) sz) := by
  refine cx_met (by decide) (Nat.le_of_ble_eq_true rfl) ?_
  intro p e s m below meth c hx hb hr hml hts hown hlocks hnm hC ls hl
  obtain ⟨hsz, hP, hK, hD0, hN⟩ := hC
  subst hsz
  have hD := hD0.self (sz := s.heap.size)
  generalize hAe : va_A (wC q cI cZ cB v) s.heap.size = A at hD ⊢
  have hA : ∀ q9 : Nat, s.heap.size ≤ q9 → A q9 := fun q9 h => by rw [← hAe]; exact Or.inr h
  have hS : va_S A s.heap s.heap [] := va_S.rf
  have hown : s.vm.findClass "ServiceDesk" = some m.cls := hown
  have hl : lv_has ls 6 [(0, .ref (q 0)), (1, .int (nI k)), (2, .int (nI j)), (3, .int (nI n)), (4, .long x)] := hl
  have hM := (hi.mk k hk).1
  refine lv_aload_n hx hb z_d_carryOut_0 rfl (lv_at hl 0 rfl) ?_
  refine va_get (D := (dC, dI)) (ci := 3) (v := .ref (q 2)) (C := R3) (T := T3) (N := 6) hx hb hts (cw_sub iC3) hown hK hP 0 rfl rfl 1 (by decide) (hts _ (cw_in mw_93 rfl)) (fun _ h9 => h9) rfl z_d_carryOut_1 ?_
  refine va_getN (D := (dC, dI)) (ci := 2) (v := .ref (q 3)) (C := R2) (T := T2) (N := 3) hx hb hts (cw_sub iC2) hown hK hP 2 rfl rfl 0 (by decide) (va_Nw.use rfl (hN _ nw_1)) (fun _ h9 => h9) rfl z_d_carryOut_4 ?_
  refine lv_iload_n hx hb z_d_carryOut_7 rfl (lv_at hl 1 rfl) ?_
  refine lv_bipush (v := 8) hx hb z_d_carryOut_8 (by decide) ?_
  refine lv_imul hx hb z_d_carryOut_10 ?_
  refine lv_iload_n hx hb z_d_carryOut_11 rfl (lv_at hl 3 rfl) ?_
  refine lv_iadd hx hb z_d_carryOut_12 ?_
  rw [mul8_nI]
  refine xa_i hx hb hK hP 3 0 rfl rfl (k := (k * 8 + n)) (y := zmd v (k * 8 + n)) (by omega) (by decide) (rfl) z_d_carryOut_13 ?_
  rcases md8 hi (show k * 8 + n < 64 by omega) with e9 | e9 | e9 | e9 | e9 | e9 | e9 | e9
  · rw [e9]
    refine lv_lookup (off := 80) (tgt := 94) hx hb z_d_carryOut_14 (by decide) (by decide) (by decide) ?_
    exact W.vret hx hb hr (fun t ht hW => ⟨⟨v, rfl, carF_o (by rw [e9]; decide) (by rw [e9]; decide) (by rw [e9]; decide), by rw [ht]; exact hP, va_K.moved hW.alike hK, hD⟩, hS.F ht⟩) hS.2.2 z_d_carryOut_94
  · rw [e9]
    refine lv_lookup (off := 80) (tgt := 94) hx hb z_d_carryOut_14 (by decide) (by decide) (by decide) ?_
    exact W.vret hx hb hr (fun t ht hW => ⟨⟨v, rfl, carF_o (by rw [e9]; decide) (by rw [e9]; decide) (by rw [e9]; decide), by rw [ht]; exact hP, va_K.moved hW.alike hK, hD⟩, hS.F ht⟩) hS.2.2 z_d_carryOut_94
  · rw [e9]
    refine lv_lookup (off := 34) (tgt := 48) hx hb z_d_carryOut_14 (by decide) (by decide) (by decide) ?_
    refine lv_aload_n hx hb z_d_carryOut_48 rfl (lv_at hl 0 rfl) ?_
    refine lv_iload_n hx hb z_d_carryOut_49 rfl (lv_at hl 1 rfl) ?_
    refine lv_iload_n hx hb z_d_carryOut_50 rfl (lv_at hl 2 rfl) ?_
    refine rdSi (As := [.int (nI k), .int (nI j)]) (rest := [.ref (q 0)]) ⟨hx, hb, hml, hown, hts⟩ (c_d_slotOf l k j) mw_125 mw_261 mw_124 mw_1 yd_d_slotOf ⟨⟨rfl, rfl⟩, Nat.le_of_ble_eq_true rfl, Nat.le_of_ble_eq_true rfl⟩ ⟨Nat.zero_le _, Nat.zero_le _⟩ (pre_pure) rfl hl.1 rfl (Nat.le_of_ble_eq_true rfl) z_d_carryOut_51 (fun r_1 h_2 => ?_)
    subst h_2
    refine lv_lload hx hb z_d_carryOut_54 (lv_at hl 4 rfl) ?_
    refine wrVv (As := [.int (nI (k * 30 + j)), .long x]) (rest := []) (wf := fun u => wC q cI cZ cB u) ⟨hx, hb, hml, hown, hts⟩ (c_d_setSum l dC dI q cI cZ cB v s.heap.size (nI (k * 30 + j)) x (Or.inr ⟨k * 30 + j, by omega, rfl⟩)) mw_386 mw_383 mw_385 mp_21 mw_1 rfl yd_d_setSum ⟨⟨rfl, rfl⟩, Nat.le_of_ble_eq_true rfl, Nat.le_of_ble_eq_true rfl⟩ ⟨Nat.le_of_ble_eq_true rfl, Nat.le_of_ble_eq_true rfl⟩ (WrC.preV hP hK hD hN (ci := 3) (q0 := 0) rfl rfl) (wr_free hD hS hA) hS rfl hl.1 rfl (Nat.le_of_ble_eq_true rfl) z_d_carryOut_56 (fun u_4 H locs h_5 hP hD hS hz9 => ?_)
    refine lv_goto (tgt := 94) hx hb z_d_carryOut_59 (by decide) ?_
    exact W.vret hx hb hr (fun t ht hW => ⟨⟨u_4, rfl, (by rcases h_5 with ⟨h8, -⟩ | ⟨g, _, h8, h7⟩; exact absurd (show nI (k * 30 + j) < 0 by rw [h8]; decide) (nI_pos (by omega)); rw [h7, ← (nI_eq (by omega) (by omega)).mp h8]; exact carF_2 e9), by rw [ht]; exact hP, va_K.moved hW.alike hK, hD⟩, hS.F ht⟩) hS.2.2 z_d_carryOut_94
  · rw [e9]
    refine lv_lookup (off := 80) (tgt := 94) hx hb z_d_carryOut_14 (by decide) (by decide) (by decide) ?_
    exact W.vret hx hb hr (fun t ht hW => ⟨⟨v, rfl, carF_o (by rw [e9]; decide) (by rw [e9]; decide) (by rw [e9]; decide), by rw [ht]; exact hP, va_K.moved hW.alike hK, hD⟩, hS.F ht⟩) hS.2.2 z_d_carryOut_94
  · rw [e9]
    refine lv_lookup (off := 80) (tgt := 94) hx hb z_d_carryOut_14 (by decide) (by decide) (by decide) ?_
    exact W.vret hx hb hr (fun t ht hW => ⟨⟨v, rfl, carF_o (by rw [e9]; decide) (by rw [e9]; decide) (by rw [e9]; decide), by rw [ht]; exact hP, va_K.moved hW.alike hK, hD⟩, hS.F ht⟩) hS.2.2 z_d_carryOut_94
  · rw [e9]
    refine lv_lookup (off := 80) (tgt := 94) hx hb z_d_carryOut_14 (by decide) (by decide) (by decide) ?_
    exact W.vret hx hb hr (fun t ht hW => ⟨⟨v, rfl, carF_o (by rw [e9]; decide) (by rw [e9]; decide) (by rw [e9]; decide), by rw [ht]; exact hP, va_K.moved hW.alike hK, hD⟩, hS.F ht⟩) hS.2.2 z_d_carryOut_94
  · rw [e9]
    refine lv_lookup (off := 48) (tgt := 62) hx hb z_d_carryOut_14 (by decide) (by decide) (by decide) ?_
    refine lv_aload_n hx hb z_d_carryOut_62 rfl (lv_at hl 0 rfl) ?_
    refine lv_aload_n hx hb z_d_carryOut_63 rfl (lv_at hl 0 rfl) ?_
    refine lv_iload_n hx hb z_d_carryOut_64 rfl (lv_at hl 1 rfl) ?_
    refine lv_iload_n hx hb z_d_carryOut_65 rfl (lv_at hl 2 rfl) ?_
    refine rdVi (As := [.int (nI k), .int (nI j)]) (rest := [.ref (q 0)]) ⟨hx, hb, hml, hown, hts⟩ (c_d_slotAbove l dC dI q cI cZ cB v hi k j hk hj) mw_356 mw_353 mw_355 mp_14 mw_1 rfl yd_d_slotAbove ⟨⟨rfl, rfl⟩, Nat.le_of_ble_eq_true rfl, Nat.le_of_ble_eq_true rfl⟩ ⟨Nat.zero_le _, Nat.zero_le _⟩ (RdC.preV hP hK hN (ci := 3) (q0 := 0) rfl rfl) rfl hl.1 rfl (Nat.le_of_ble_eq_true rfl) z_d_carryOut_66 (fun r_6 h_7 => ?_)
    refine lv_lload hx hb z_d_carryOut_69 (lv_at hl 4 rfl) ?_
    refine wrVv (As := [.int r_6, .long x]) (rest := []) (wf := fun u => wC q cI cZ cB u) ⟨hx, hb, hml, hown, hts⟩ (c_d_setSum l dC dI q cI cZ cB v s.heap.size r_6 x (an6_arg hi h_7)) mw_386 mw_383 mw_385 mp_21 mw_1 rfl yd_d_setSum ⟨⟨rfl, rfl⟩, Nat.le_of_ble_eq_true rfl, Nat.le_of_ble_eq_true rfl⟩ ⟨Nat.le_of_ble_eq_true rfl, Nat.le_of_ble_eq_true rfl⟩ (WrC.preV hP hK hD hN (ci := 3) (q0 := 0) rfl rfl) (wr_free hD hS hA) hS rfl hl.1 rfl (Nat.le_of_ble_eq_true rfl) z_d_carryOut_71 (fun u_9 H locs h_10 hP hD hS hz9 => ?_)
    refine lv_goto (tgt := 94) hx hb z_d_carryOut_74 (by decide) ?_
    exact W.vret hx hb hr (fun t ht hW => ⟨⟨u_9, rfl, carF_6 hi e9 h_7 h_10, by rw [ht]; exact hP, va_K.moved hW.alike hK, hD⟩, hS.F ht⟩) hS.2.2 z_d_carryOut_94
  · rw [e9]
    refine lv_lookup (off := 63) (tgt := 77) hx hb z_d_carryOut_14 (by decide) (by decide) (by decide) ?_
    refine lv_aload_n hx hb z_d_carryOut_77 rfl (lv_at hl 0 rfl) ?_
    refine va_get (D := (dC, dI)) (ci := 3) (v := .ref (q 6)) (C := R3) (T := T3) (N := 6) hx hb hts (cw_sub iC3) hown hK hP 0 rfl rfl 2 (by decide) (hts _ (cw_in mw_94 rfl)) (fun _ h9 => h9) rfl z_d_carryOut_78 ?_
    refine va_getN (D := (dC, dI)) (ci := 1) (v := .ref (q 9)) (C := R1) (T := T1) (N := 6) hx hb hts (cw_sub iC1) hown hK hP 6 rfl rfl 2 (by decide) (va_Nw.use rfl (hN _ nw_7)) (fun _ h9 => h9) rfl z_d_carryOut_81 ?_
    refine lv_iload_n hx hb z_d_carryOut_84 rfl (lv_at hl 1 rfl) ?_
    refine lv_iload_n hx hb z_d_carryOut_85 rfl (lv_at hl 2 rfl) ?_
    refine rdSi (As := [.int (nI k), .int (nI j)]) (rest := [.ref (q 9)]) ⟨hx, hb, hml, hown, hts⟩ (c_d_slotOf l k j) mw_125 mw_261 mw_124 mw_1 yd_d_slotOf ⟨⟨rfl, rfl⟩, Nat.le_of_ble_eq_true rfl, Nat.le_of_ble_eq_true rfl⟩ ⟨Nat.zero_le _, Nat.zero_le _⟩ (pre_pure) rfl hl.1 rfl (Nat.le_of_ble_eq_true rfl) z_d_carryOut_86 (fun r_11 h_12 => ?_)
    subst h_12
    refine lv_iconst (v := 0) hx hb z_d_carryOut_89 (by decide) ?_
    refine xs_z hx hb hK hP hD hS 9 1 rfl rfl (k := (k * 30 + j)) (y := 0) (by omega) (by decide) (rfl) z_d_carryOut_90 (fun H locs hP hD hS => ?_)
    have hP : va_P (dC, dI) vwCl (wC q cI cZ cB (uop v (upd (zop v) (k * 30 + j) 0))) H := hP
    have hD : va_D A (wC q cI cZ cB (uop v (upd (zop v) (k * 30 + j) 0))) := hD
    refine lv_goto (tgt := 94) hx hb z_d_carryOut_91 (by decide) ?_
    exact W.vret hx hb hr (fun t ht hW => ⟨⟨uop v (upd (zop v) (k * 30 + j) 0), rfl, carF_7 e9, by rw [ht]; exact hP, va_K.moved hW.alike hK, hD⟩, hS.F ht⟩) hS.2.2 z_d_carryOut_94

set_option maxHeartbeats 4000000 in
set_option maxRecDepth 100000 in
theorem c_s_lengthen (l : Launch) (dC : Nat → ClassId) (dI : Nat → Nat → Nat) (q : Nat → Nat) (cI cZ cB : ClassId) (v : St) (sz : Nat) (hi : Inv v) (g : Nat) (hg : g < 240) (p0 : Int64) (n : Nat) (hn : lN9 v g + n ≤ 16) : Met l y_s_lengthen (Cond.code y_s_lengthen b_s_lengthen 7 (some .int) :: CW) { frames := 1, cells := 0, slots := 0, locals := 23 } (va_Pc [.ref (q 6), .int (nI g), .long p0, .int (nI n)] (WrC (dC, dI) sz (wC q cI cZ cB v) (tyC cI cZ cB))) (va_Qi (fun (r : Int32) (u : St) => r = nI (lN9 v g + n) ∧ u = lenS v g p0 n) (fun u => WrB (dC, dI) (wC q cI cZ cB u) (tyC cI cZ cB) (va_A (wC q cI cZ cB v) sz)) (va_A (wC q cI cZ cB v) sz)) 0 0 (va_A (wC q cI cZ cB v) sz) := by
  refine cx_met (by decide) (Nat.le_of_ble_eq_true rfl) ?_
  intro p e s m below meth c hx hb hr hml hts hown hlocks hnm hC ls hl
  obtain ⟨hsz, hP, hK, hD0, hN⟩ := hC
  subst hsz
  have hD := hD0.self (sz := s.heap.size)
  generalize hAe : va_A (wC q cI cZ cB v) s.heap.size = A at hD ⊢
  have hA : ∀ q9 : Nat, s.heap.size ≤ q9 → A q9 := fun q9 h => by rw [← hAe]; exact Or.inr h
  have hS : va_S A s.heap s.heap [] := va_S.rf
  have hown : s.vm.findClass "ServiceDesk$Subjects" = some m.cls := hown
  have hl : lv_has ls 7 [(0, .ref (q 6)), (1, .int (nI g)), (2, .long p0), (4, .int (nI n))] := hl
  refine lv_iload_n hx hb z_s_lengthen_0 rfl (lv_at hl 1 rfl) ?_
  refine lv_bipush (v := 16) hx hb z_s_lengthen_1 (by decide) ?_
  refine lv_imul hx hb z_s_lengthen_3 ?_
  refine lv_aload_n hx hb z_s_lengthen_4 rfl (lv_at hl 0 rfl) ?_
  refine va_get (D := (dC, dI)) (ci := 1) (v := .ref (q 11)) (C := R1) (T := T1) (N := 6) hx hb hts (cw_sub iC1) hown hK hP 6 rfl rfl 4 (by decide) (hts _ (cw_in mw_56 rfl)) (fun _ h9 => h9) rfl z_s_lengthen_5 ?_
  refine lv_iload_n hx hb z_s_lengthen_8 rfl (lv_at hl 1 rfl) ?_
  refine xa_i hx hb hK hP 11 0 rfl rfl (k := g) (y := nI (lN9 v g)) (hg) (by decide) ((hi.ln g hg).2) z_s_lengthen_9 ?_
  refine lv_iadd hx hb z_s_lengthen_10 ?_
  rw [mul16_nI]
  refine lv_istore (lv' := [(5, .int (nI (g * 16 + lN9 v g))), (0, .ref (q 6)), (1, .int (nI g)), (2, .long p0), (4, .int (nI n))]) hx hb z_s_lengthen_11 hl (by decide) rfl (fun ls hl => ?_)
  refine lv_iconst (v := 0) hx hb z_s_lengthen_13 (by decide) ?_
  refine lv_istore (lv' := [(6, .int 0), (5, .int (nI (g * 16 + lN9 v g))), (0, .ref (q 6)), (1, .int (nI g)), (2, .long p0), (4, .int (nI n))]) hx hb z_s_lengthen_14 hl (by decide) rfl (fun ls hl => ?_)
  refine wr_loop (nL := 7) n (fun i => wC q cI cZ cB (utx v (lenT (ztx v) (g * 16 + lN9 v g) p0 n i))) (fun i => [(0, .ref (q 6)), (1, .int (nI g)), (2, .long p0), (4, .int (nI n)), (5, .int (nI (g * 16 + lN9 v g))), (6, .int (nI i))]) ?_ _ _ ls hP hD hS (lv_sub hl [2, 3, 4, 5, 1, 0] rfl)
  intro i H locs ls hle hP hD hS hl ih
  have hl : lv_has ls 7 [(0, .ref (q 6)), (1, .int (nI g)), (2, .long p0), (4, .int (nI n)), (5, .int (nI (g * 16 + lN9 v g))), (6, .int (nI i))] := hl
  have hP : va_P (dC, dI) vwCl (wC q cI cZ cB (utx v (lenT (ztx v) (g * 16 + lN9 v g) p0 n i))) H := hP
  have hD : va_D A (wC q cI cZ cB (utx v (lenT (ztx v) (g * 16 + lN9 v g) p0 n i))) := hD
  refine lv_iload hx hb z_s_lengthen_16 (lv_at hl 5 rfl) ?_
  refine lv_iload hx hb z_s_lengthen_18 (lv_at hl 3 rfl) ?_
  refine lv_icmp_ge (tgt := 48) hx hb z_s_lengthen_20 (by decide) (fun c_20 => ?_) (fun c_20 => ?_)
  · obtain rfl : n = i := (eq_of_nle hle (by omega) c_20).symm
    refine lv_aload_n hx hb z_s_lengthen_48 rfl (lv_at hl 0 rfl) ?_
    refine va_get (D := (dC, dI)) (ci := 1) (v := .ref (q 11)) (C := R1) (T := T1) (N := 6) hx hb hts (cw_sub iC1) hown hK hP 6 rfl rfl 4 (by decide) (hts _ (cw_in mw_56 rfl)) (fun _ h9 => h9) rfl z_s_lengthen_49 ?_
    refine lv_iload_n hx hb z_s_lengthen_52 rfl (lv_at hl 1 rfl) ?_
    refine lv_dup2_11 hx hb z_s_lengthen_53 rfl rfl ?_
    refine xa_i hx hb hK hP 11 0 rfl rfl (k := g) (y := nI (lN9 v g)) (hg) (by decide) ((hi.ln g hg).2) z_s_lengthen_54 ?_
    refine lv_iload hx hb z_s_lengthen_55 (lv_at hl 3 rfl) ?_
    refine lv_iadd hx hb z_s_lengthen_57 ?_
    rw [nI_add]
    refine xs_i hx hb hK hP hD hS 11 0 rfl rfl (k := g) (hg) (by decide) z_s_lengthen_58 (fun H locs hP hD hS => ?_)
    have hP : va_P (dC, dI) vwCl (wC q cI cZ cB (uln (utx v (lenT (ztx v) (g * 16 + lN9 v g) p0 n n)) (upd (zln v) g (nI (lN9 v g + n))))) H := hP
    have hD : va_D A (wC q cI cZ cB (uln (utx v (lenT (ztx v) (g * 16 + lN9 v g) p0 n n)) (upd (zln v) g (nI (lN9 v g + n))))) := hD
    refine lv_aload_n hx hb z_s_lengthen_59 rfl (lv_at hl 0 rfl) ?_
    refine va_get (D := (dC, dI)) (ci := 1) (v := .ref (q 11)) (C := R1) (T := T1) (N := 6) hx hb hts (cw_sub iC1) hown hK hP 6 rfl rfl 4 (by decide) (hts _ (cw_in mw_56 rfl)) (fun _ h9 => h9) rfl z_s_lengthen_60 ?_
    refine lv_iload_n hx hb z_s_lengthen_63 rfl (lv_at hl 1 rfl) ?_
    refine xa_i hx hb hK hP 11 0 rfl rfl (k := g) (y := nI (lN9 v g + n)) (hg) (by decide) (pk_us) z_s_lengthen_64 ?_
    exact W.iret (v := nI (lN9 v g + n)) hx hb hr (fun t ht hW => ⟨⟨nI (lN9 v g + n), uln (utx v (lenT (ztx v) (g * 16 + lN9 v g) p0 n n)) (upd (zln v) g (nI (lN9 v g + n))), rfl, ⟨rfl, rfl⟩, by rw [ht]; exact hP, va_K.moved hW.alike hK, hD⟩, hS.F ht⟩) hS.2.2 z_s_lengthen_65
  · have hlt : i < n := nlt_of (by omega) c_20
    refine lv_aload_n hx hb z_s_lengthen_23 rfl (lv_at hl 0 rfl) ?_
    refine va_get (D := (dC, dI)) (ci := 1) (v := .ref (q 12)) (C := R1) (T := T1) (N := 6) hx hb hts (cw_sub iC1) hown hK hP 6 rfl rfl 5 (by decide) (hts _ (cw_in mw_58 rfl)) (fun _ h9 => h9) rfl z_s_lengthen_24 ?_
    refine lv_iload hx hb z_s_lengthen_27 (lv_at hl 4 rfl) ?_
    refine lv_iload hx hb z_s_lengthen_29 (lv_at hl 5 rfl) ?_
    refine lv_iadd hx hb z_s_lengthen_31 ?_
    rw [nI_add]
    refine lv_lload_n hx hb z_s_lengthen_32 rfl (lv_at hl 2 rfl) ?_
    refine lv_iload hx hb z_s_lengthen_33 (lv_at hl 3 rfl) ?_
    refine lv_iload hx hb z_s_lengthen_35 (lv_at hl 5 rfl) ?_
    refine rdSi (As := [.long p0, .int (nI n), .int (nI i)]) (rest := [.int (nI (g * 16 + lN9 v g + i)), .ref (q 12)]) ⟨hx, hb, hml, hown, hts⟩ (c_s_byteOf l p0 (nI n) (nI i)) mw_410 mw_408 mw_409 mw_3 yd_s_byteOf ⟨⟨rfl, rfl⟩, Nat.le_of_ble_eq_true rfl, Nat.le_of_ble_eq_true rfl⟩ ⟨Nat.zero_le _, Nat.zero_le _⟩ (pre_pure) rfl hl.1 rfl (Nat.le_of_ble_eq_true rfl) z_s_lengthen_37 (fun r_1 h_2 => ?_)
    subst h_2
    refine lv_i2b hx hb z_s_lengthen_40 rfl ?_
    refine xs_b hx hb hK hP hD hS 12 2 rfl rfl (k := (g * 16 + lN9 v g + i)) (y := (byteF p0 (nI n) (nI i)).toInt8.toInt32) (by omega) (by decide) (pk_vb _) z_s_lengthen_41 (fun H locs hP hD hS => ?_)
    have hP : va_P (dC, dI) vwCl (wC q cI cZ cB (utx (utx v (lenT (ztx v) (g * 16 + lN9 v g) p0 n i)) (upd (lenT (ztx v) (g * 16 + lN9 v g) p0 n i) (g * 16 + lN9 v g + i) ((byteF p0 (nI n) (nI i)).toInt8.toInt32)))) H := hP
    have hD : va_D A (wC q cI cZ cB (utx (utx v (lenT (ztx v) (g * 16 + lN9 v g) p0 n i)) (upd (lenT (ztx v) (g * 16 + lN9 v g) p0 n i) (g * 16 + lN9 v g + i) ((byteF p0 (nI n) (nI i)).toInt8.toInt32)))) := hD
    refine lv_iinc (v := nI (i + 1)) (lv' := [(6, .int (nI (i + 1))), (0, .ref (q 6)), (1, .int (nI g)), (2, .long p0), (4, .int (nI n)), (5, .int (nI (g * 16 + lN9 v g)))]) hx hb z_s_lengthen_42 hl (k := 5) rfl (by exact nI_1 i) (by decide) rfl (fun ls hl => ?_)
    refine lv_goto (tgt := 16) hx hb z_s_lengthen_45 (by decide) ?_
    exact ih _ _ ls hlt hP hD hS (lv_sub hl [1, 2, 3, 4, 5, 0] rfl)
end
section
/-! what each call answers: c is 0 when it returns, else which of its exceptions (in the order of the document's face) it throws -/
def wi3 (a : Int32) : Prop := -1000 ≤ a ∧ a ≤ 1000
theorem wi3_iff {a : Int32} : (-1000 ≤ a.toInt64 ∧ a.toInt64 ≤ 1000) ↔ wi3 a := by
  unfold wi3
  rw [Int64.le_iff_toInt_le, Int64.le_iff_toInt_le, Int32.le_iff_toInt_le, Int32.le_iff_toInt_le, Int32.toInt_toInt64]
  exact Iff.rfl
def ynK (y : Int32) : Prop := y = -1 ∨ isK y
def spUnder (v : St) (x y : Int32) (c : Nat) (u : St) : Prop :=
  (c = 1 ∧ u = v ∧ ¬ (isK x ∧ ynK y)) ∨ (c = 2 ∧ u = v ∧ ∃ k, k < 8 ∧ x = nI k ∧ ynK y ∧ (0 < mN v k ∨ reaU v y x)) ∨
  (c = 0 ∧ ∃ k, k < 8 ∧ x = nI k ∧ ynK y ∧ ¬ (0 < mN v k ∨ reaU v y x) ∧ u = uka v (upd (zka v) k y))
def okAb (v : St) (k : Nat) (y : Int32) : Prop := ∀ k2 j2, k2 < 8 → j2 < mN v k2 → zka v k = nI k2 → y = nI j2 → zop v (k2 * 30 + j2) ≠ 0
def spMake (v : St) (x y : Int32) (c : Nat) (r : Int32) (u : St) : Prop :=
  (c = 1 ∧ u = v ∧ ¬ ∃ k, k < 8 ∧ x = nI k ∧ canA v k y) ∨ (c = 2 ∧ u = v ∧ ∃ k, k < 8 ∧ x = nI k ∧ canA v k y ∧ ¬ okAb v k y) ∨
  (c = 3 ∧ u = v ∧ ∃ k, k < 8 ∧ x = nI k ∧ canA v k y ∧ okAb v k y ∧ ¬ mN v k < 30) ∨
  (c = 0 ∧ ∃ k, k < 8 ∧ x = nI k ∧ canA v k y ∧ okAb v k y ∧ mN v k < 30 ∧ r = nI (mN v k) ∧ u = addS v k y)
def spVerb (v : St) (x y z a b : Int32) (c : Nat) (u : St) : Prop :=
  (c = 1 ∧ u = v ∧ ¬ (isK x ∧ isK y ∧ isK z)) ∨ (c = 2 ∧ u = v ∧ (isK x ∧ isK y ∧ isK z) ∧ ¬ (wi3 a ∧ wi3 b)) ∨
  (c = 0 ∧ (wi3 a ∧ wi3 b) ∧ ∃ k n, k < 8 ∧ n < 8 ∧ x = nI k ∧ y = nI n ∧ isK z ∧ u = setV v (k * 8 + n) z a b)
/-- the state when a turn has begun -/
abbrev trn (v : St) : St := utn v (ztn v + 1)
def spCall (v : St) (x y z a : Int32) (c : Nat) (r : Int64) (u : St) : Prop :=
  (c = 1 ∧ ¬ okC v x y z ∧ u = telS (trn v) (ztn v + 1) x y z 13) ∨ (c = 2 ∧ okC v x y z ∧ ¬ aOk a ∧ u = telS (trn v) (ztn v + 1) x y z 14) ∨
  ∃ k j n, k < 8 ∧ j < mN v k ∧ n < 8 ∧ x = nI k ∧ y = nI j ∧ z = nI n ∧ zmd v (k * 8 + n) ≠ 0 ∧ aOk a ∧
    ((c = 3 ∧ zop v (k * 30 + j) = 0 ∧ u = telS (trn v) (ztn v + 1) x y z 15) ∨
     (c = 0 ∧ zop v (k * 30 + j) ≠ 0 ∧ r = anF v k j n a ∧ ((r < -9000000000000 ∧ u = telS (trn v) (ztn v + 1) x y z (-9000000000000 - r).toInt32) ∨ (¬ r < -9000000000000 ∧ u = carF (trn v) k j n r))))
def spSim (v : St) (x y z a : Int32) (c : Nat) (r : Int64) (u : St) : Prop :=
  u = v ∧ ((c = 1 ∧ ¬ okC v x y z) ∨ (c = 2 ∧ okC v x y z ∧ ¬ aOk a) ∨
  ∃ k j n, k < 8 ∧ j < mN v k ∧ n < 8 ∧ x = nI k ∧ y = nI j ∧ z = nI n ∧ zmd v (k * 8 + n) ≠ 0 ∧ aOk a ∧ ((c = 3 ∧ zop v (k * 30 + j) = 0) ∨ (c = 0 ∧ zop v (k * 30 + j) ≠ 0 ∧ r = anF v k j n a)))
def okN (n : Int32) : Prop := ∃ w, 1 ≤ w ∧ w ≤ 8 ∧ n = nI w
def spText (v : St) (x y : Int32) (p0 : Int64) (n : Int32) (c : Nat) (r : Int32) (u : St) : Prop :=
  (c = 1 ∧ u = v ∧ ¬ isS v x y) ∨ (c = 2 ∧ u = v ∧ isS v x y ∧ ¬ okN n) ∨
  ∃ k j w, k < 8 ∧ j < mN v k ∧ x = nI k ∧ y = nI j ∧ (1 ≤ w ∧ w ≤ 8) ∧ n = nI w ∧
    ((c = 3 ∧ u = v ∧ zop v (k * 30 + j) = 0) ∨ (c = 4 ∧ u = v ∧ zop v (k * 30 + j) ≠ 0 ∧ ¬ lN9 v (k * 30 + j) + w ≤ 16) ∨
     (c = 0 ∧ zop v (k * 30 + j) ≠ 0 ∧ lN9 v (k * 30 + j) + w ≤ 16 ∧ r = nI (lN9 v (k * 30 + j) + w) ∧ u = lenS v (k * 30 + j) p0 w))
def spTextAt (v : St) (x y i : Int32) (c : Nat) (r : Int32) (u : St) : Prop :=
  u = v ∧ ((c = 1 ∧ ¬ isS v x y) ∨ (c = 2 ∧ isS v x y ∧ i < 0) ∨ (c = 0 ∧ ∃ k j t, k < 8 ∧ j < mN v k ∧ x = nI k ∧ y = nI j ∧ t < 2 ^ 31 ∧ i = nI t ∧ ((t < lN9 v (k * 30 + j) ∧ r = ztx v ((k * 30 + j) * 16 + t) &&& 255) ∨ (¬ t < lN9 v (k * 30 + j) ∧ r = -1))))
def fOK (v : St) (k : Nat) (p0 : Int64) (n j : Nat) : Prop := zop v (k * 30 + j) ≠ 0 ∧ hasJ v (k * 30 + j) p0 n
def ok08 (n : Int32) : Prop := ∃ w, w ≤ 8 ∧ n = nI w
def spFind (v : St) (x : Int32) (p0 : Int64) (n : Int32) (c : Nat) (r : Int32) (u : St) : Prop :=
  u = v ∧ ((c = 1 ∧ ¬ isK x) ∨ (c = 2 ∧ isK x ∧ ¬ ok08 n) ∨ (c = 0 ∧ ∃ k w, k < 8 ∧ x = nI k ∧ w ≤ 8 ∧ n = nI w ∧ ((∃ j, j < mN v k ∧ fOK v k p0 w j ∧ (∀ i, i < j → ¬ fOK v k p0 w i) ∧ r = nI j) ∨ ((∀ i, i < mN v k → ¬ fOK v k p0 w i) ∧ r = -1))))
def ok03 (w : Int32) : Prop := w = 0 ∨ w = 1 ∨ w = 2 ∨ w = 3
def spSubj (v : St) (x y w : Int32) (c : Nat) (r : Int32) (u : St) : Prop :=
  u = v ∧ ((c = 1 ∧ ¬ (isS v x y ∧ ok03 w)) ∨ (c = 0 ∧ ∃ k j, k < 8 ∧ j < mN v k ∧ x = nI k ∧ y = nI j ∧ ((w = 0 ∧ r = zab v (k * 30 + j)) ∨ (w = 1 ∧ r = if zop v (k * 30 + j) = 0 then 0 else 1) ∨ (w = 2 ∧ r = zsm v (k * 30 + j)) ∨ (w = 3 ∧ r = nI (onC v x y 8)))))
def okR (v : St) (i w : Int32) : Prop := ∃ t z, t < kN v ∧ z < 5 ∧ i = nI t ∧ w = nI z
def spRow (v : St) (i w : Int32) (c : Nat) (r : Int32) (u : St) : Prop :=
  u = v ∧ ((c = 1 ∧ ¬ okR v i w) ∨ (c = 0 ∧ ∃ t z, t < kN v ∧ z < 5 ∧ i = nI t ∧ w = nI z ∧ r = znu v (t * 5 + z)))
def okT (v : St) (n : Int32) : Prop := 1 ≤ n.toInt ∧ n.toInt ≤ 100000 ∧ (zck v).toInt + n.toInt ≤ 1000000000
def spTick (v : St) (n : Int32) (c : Nat) (r : Int32) (u : St) : Prop :=
  (c = 1 ∧ u = v ∧ ¬ okT v n) ∨ (c = 0 ∧ okT v n ∧ r = zck v + n ∧ u = uck v (zck v + n))
def spCount (v : St) (w : Int32) (c : Nat) (r : Int32) (u : St) : Prop :=
  u = v ∧ ((c = 1 ∧ ¬ ok03 w) ∨ (c = 0 ∧ ((w = 0 ∧ r = ztn v) ∨ (w = 1 ∧ r = zkp v) ∨ (w = 2 ∧ r = nI (mkS v 8)) ∨ (w = 3 ∧ r = nI (opS v 8)))))
/-! small rows for them -/
theorem pos_of_lt {n : Nat} (h : 0 < nI n) : 0 < n := Nat.pos_of_ne_zero (fun e => by rw [e] at h; exact absurd h (by decide))
theorem npos_of_nlt {n : Nat} (hn : n < 2 ^ 31) (h : ¬ 0 < nI n) : ¬ 0 < n := fun q => h (nI_lt (a := 0) q hn)
theorem mk_no {v : St} {k : Nat} {y : Int32} (hk : k < 8) (h : ¬ canA v k y) : ¬ ∃ k2, k2 < 8 ∧ nI k = nI k2 ∧ canA v k2 y := by
  rintro ⟨k2, h2, e, hc⟩
  have e2 : k = k2 := (nI_eq (by omega) (by omega)).mp e
  subst e2
  exact h hc
theorem okAb_no {v : St} {k : Nat} {y : Int32} (h : ¬ isS v (zka v k) y) : okAb v k y := fun k2 j2 a b c d => absurd ⟨k2, j2, a, b, c, d⟩ h
theorem okAb_of {v : St} {k k2 j2 : Nat} {y : Int32} (hi : Inv v) (h1 : k2 < 8) (h2 : j2 < mN v k2) (e1 : zka v k = nI k2) (e2 : y = nI j2) (h : ¬ zop v (k2 * 30 + j2) = 0) : okAb v k y := by
  intro k3 j3 a b c d
  have q1 : k2 = k3 := (nI_eq (by omega) (by omega)).mp (e1.symm.trans c)
  subst q1
  have hM := (hi.mk k2 h1).1
  have q2 : j2 = j3 := (nI_eq (by omega) (by omega)).mp (e2.symm.trans d)
  subst q2
  exact h
theorem k8_lt {x : Int32} (h1 : ¬ x < 0) (h2 : x < 8) : isK x := k8_of h1 h2
theorem k8_nlt {x : Int32} (h2 : ¬ x < 8) : ¬ isK x := k8_no (Or.inr (Int32.not_lt.mp h2))
theorem k8_neg {x : Int32} (h2 : x < 0) : ¬ isK x := k8_no (Or.inl h2)
theorem okN_of {n : Int32} (h1 : ¬ n < 1) (h2 : n ≤ 8) : okN n := by
  rw [Int32.lt_iff_toInt_lt] at h1
  obtain ⟨w, hw, rfl⟩ := nI_of (x := n) (by rw [Int32.lt_iff_toInt_lt]; have e1 : (1 : Int32).toInt = 1 := rfl; have e0 : (0 : Int32).toInt = 0 := rfl; rw [e1] at h1; rw [e0]; omega)
  have := (nI_leI hw (by decide)).mp (show nI w ≤ nI 8 from h2)
  rw [nI_toInt hw] at h1
  have e1 : (1 : Int32).toInt = 1 := rfl
  rw [e1] at h1
  exact ⟨w, by omega, this, rfl⟩
theorem okN_no1 {n : Int32} (h : n < 1) : ¬ okN n := by
  rintro ⟨w, h1, h2, rfl⟩
  exact absurd ((nI_ltI (by omega) (by decide)).mp (show nI w < nI 1 from h)) (by omega)
theorem okN_no2 {n : Int32} (h : ¬ n ≤ 8) : ¬ okN n := by
  rintro ⟨w, h1, h2, rfl⟩
  exact h (nI_le (b := 8) h2 (by decide))
theorem ok08_of {n : Int32} (h1 : ¬ n < 0) (h2 : n ≤ 8) : ok08 n := by
  obtain ⟨w, hw, rfl⟩ := nI_of h1
  exact ⟨w, (nI_leI hw (by decide)).mp (show nI w ≤ nI 8 from h2), rfl⟩
theorem ok08_no1 {n : Int32} (h : n < 0) : ¬ ok08 n := by
  rintro ⟨w, h2, rfl⟩
  exact nI_pos (by omega) h
theorem ok08_no2 {n : Int32} (h : ¬ n ≤ 8) : ¬ ok08 n := by
  rintro ⟨w, h2, rfl⟩
  exact h (nI_le (b := 8) h2 (by decide))
theorem ok03_of {n : Int32} (h1 : ¬ n < 0) (h2 : n ≤ 3) : ok03 n := by
  obtain ⟨w, hw, rfl⟩ := nI_of h1
  have := (nI_leI hw (by decide)).mp (show nI w ≤ nI 3 from h2)
  unfold ok03
  rcases (show w = 0 ∨ w = 1 ∨ w = 2 ∨ w = 3 by omega) with rfl | rfl | rfl | rfl <;> decide
theorem ok03_no1 {n : Int32} (h : n < 0) : ¬ ok03 n := by
  rintro (rfl | rfl | rfl | rfl) <;> revert h <;> decide
theorem ok03_no2 {n : Int32} (h : ¬ n ≤ 3) : ¬ ok03 n := by
  rintro (rfl | rfl | rfl | rfl) <;> revert h <;> decide
theorem ix_of {i : Int32} {n : Nat} (h1 : ¬ i < 0) (h2 : ¬ nI n ≤ i) : ∃ t, t < n ∧ i = nI t := by
  obtain ⟨w, hw, rfl⟩ := nI_of h1
  exact ⟨w, nlt_of hw h2, rfl⟩
theorem ix5_of {i : Int32} (h1 : ¬ i < 0) (h2 : i < 5) : ∃ t, t < 5 ∧ i = nI t := by
  obtain ⟨w, hw, rfl⟩ := nI_of h1
  exact ⟨w, (nI_ltI hw (by decide)).mp (show nI w < nI 5 from h2), rfl⟩
theorem mul5a_nI (k j : Nat) : nI k * 5 + nI j = nI (k * 5 + j) := by rw [mul5_nI, nI_add]
theorem okT_of {v : St} {n : Int32} (hi : Inv v) (h1 : ¬ n < 1) (h2 : ¬ 100000 < n) (h3 : n ≤ 1000000000 - zck v) : okT v n := by
  obtain ⟨c1, c2⟩ := hi.ck
  rw [Int32.lt_iff_toInt_lt] at h1 h2
  rw [Int32.le_iff_toInt_le, Int32.toInt_sub] at h3
  have e1 : (1 : Int32).toInt = 1 := rfl
  have e2 : (100000 : Int32).toInt = 100000 := rfl
  have e3 : (1000000000 : Int32).toInt = 1000000000 := rfl
  rw [e1] at h1; rw [e2] at h2; rw [e3] at h3
  rw [Int.bmod_eq_of_le (by omega) (by omega)] at h3
  exact ⟨by omega, by omega, by omega⟩
theorem okT_no1 {v : St} {n : Int32} (h : n < 1) : ¬ okT v n := by
  rw [Int32.lt_iff_toInt_lt] at h
  have e1 : (1 : Int32).toInt = 1 := rfl
  rw [e1] at h
  rintro ⟨a, -, -⟩; omega
theorem okT_no2 {v : St} {n : Int32} (h : 100000 < n) : ¬ okT v n := by
  rw [Int32.lt_iff_toInt_lt] at h
  have e1 : (100000 : Int32).toInt = 100000 := rfl
  rw [e1] at h
  rintro ⟨-, a, -⟩; omega
theorem okT_no3 {v : St} {n : Int32} (hi : Inv v) (h : ¬ n ≤ 1000000000 - zck v) : ¬ okT v n := by
  obtain ⟨c1, c2⟩ := hi.ck
  rw [Int32.le_iff_toInt_le, Int32.toInt_sub] at h
  have e3 : (1000000000 : Int32).toInt = 1000000000 := rfl
  rw [e3, Int.bmod_eq_of_le (by omega) (by omega)] at h
  rintro ⟨-, -, a⟩; omega
theorem w03 (w : Int32) : w = 0 ∨ w = 1 ∨ w = 2 ∨ w = 3 ∨ (¬ ok03 w ∧ (w.toInt < 0 ∨ 3 < w.toInt)) := by
  by_cases h0 : w = 0
  · exact Or.inl h0
  by_cases h1 : w = 1
  · exact Or.inr (Or.inl h1)
  by_cases h2 : w = 2
  · exact Or.inr (Or.inr (Or.inl h2))
  by_cases h3 : w = 3
  · exact Or.inr (Or.inr (Or.inr (Or.inl h3)))
  refine Or.inr (Or.inr (Or.inr (Or.inr ⟨fun h => h.elim h0 (fun h => h.elim h1 (fun h => h.elim h2 h3)), ?_⟩)))
  have a0 := lv_neT h0 (a := 0) rfl
  have a1 := lv_neT h1 (a := 1) rfl
  have a2 := lv_neT h2 (a := 2) rfl
  have a3 := lv_neT h3 (a := 3) rfl
  omega
/-! refuse(): throws, or returns; the caller's cells stay -/
def rfE (x : Int32) (E : String) : Prop := (x = 13 ∧ E = "java/lang/IllegalArgumentException") ∨ (x = 14 ∧ E = "java/lang/IndexOutOfBoundsException") ∨ (x = 15 ∧ E = "java/lang/IllegalStateException")
section TXS
variable {p : Program} {l : Launch} {e : Env} {R : Room} {s : State} {m : MethodId} {args : Array Value} {below : List Frame} {meth : Method} {c : Code} {H : Heap} {locs : List Loc} {cells slots : Nat} {Q : State → Prop}
variable {own : String} {idx maxL nL pc : Nat} {y : MethodName} {bytes cc : ByteArray} {ret : Option FieldType} {rm : Room} {c0 : Cond} {rest st0 : List Value} {ls : Array Slot}
variable {D : va_G} {ws : va_W} {A : Nat → Prop} {x : Int32}
theorem txS_rf (S : CallFix p m c cc nL s args (c0 :: CW) own) (hM : vx_Met l y (Cond.code y bytes maxL ret :: CW) rm (va_Pc [.int x] (fun U => U.heap.size = H.size ∧ XcC (fun q => H.size ≤ q) U U.heap)) (va_Qv (fun _ : Unit => ¬ x = 13 ∧ ¬ x = 14 ∧ ¬ x = 15) (fun _ _ => True) (fun q => H.size ≤ q)) (vx_X (fun _ : Unit => True) (fun E _ _ => rfE x E) (fun q => H.size ≤ q)) 1 6 (fun _ => False)) (h0 : Cond.code y bytes maxL ret ∈ lw_tbl) (h1 : Cond.methodLink own idx y ∈ lw_tbl) (h2 : Cond.static y ∈ lw_tbl) (h3 : Cond.initialized y.cls ∈ lw_tbl) (hd : yD y 1)
    (hR : (rm.cells = 1 ∧ rm.slots = 6) ∧ rm.frames + 1 ≤ R.frames ∧ 8 + (maxL + 11) + rm.locals ≤ R.locals) (hcap : cells + 1 ≤ R.cells ∧ slots + 6 ≤ R.slots) (hP : va_P D vwCl ws H) (hS : va_S A s.heap H locs) (hA : ∀ q, s.heap.size ≤ q → A q) (hX : XcC A s s.heap) (hsz : ls.size = nL) (hst : st0 = .int x :: rest) (hW : (rest.map fun v => v.category).sum ≤ 8) (hdg : decode cc pc = .ok (.invokestatic idx, 3))
    (kx : ∀ (E : String) (ce : Cell) (q9 : Addr) (H1 : Heap) (locs1 : List Loc), rfE x E → va_P D vwCl ws H1 → va_S A s.heap H1 locs1 → H1[q9]? = some ce → ce.vm = .none → s.vm.findClass E = some ce.cls → vx_W p l e R s m args below meth c H1 locs1 (cells + 1) (slots + 6) Q (F0 m pc ls rest) q9)
    (kk : ∀ (H1 : Heap) (locs1 : List Loc), (¬ x = 13 ∧ ¬ x = 14 ∧ ¬ x = 15) → va_P D vwCl ws H1 → va_S A s.heap H1 locs1 → W p l e R s m args below meth c H1 locs1 (cells + 1) (slots + 6) Q (F0 m (pc + 3) ls rest)) : W p l e R s m args below meth c H locs cells slots Q (F0 m pc ls st0) := by
  have hAA : ∀ q, H.size ≤ q → A q := fun q h => hA q (Nat.le_trans hS.1 h)
  refine vx_callv (vx_runS S hM (va_cwS 1 S.2.2.2.2 (cw_goodS h0 rfl h1 h2 h3) rfl hR.1.1 hR.1.2 hd hR.2) ⟨fun _ U _ _ q => ⟨q.1, q.2.1, q.2.2.calling⟩, fun U hU hW9 => ⟨rfl, by rw [hU], hX.to hS hAA hU hW9⟩⟩ rfl rfl hsz hst (lv_room hW) hdg hcap) hS (fun q _ h => hAA q h) (fun q h => h.elim) (fun q _ h => hAA q h) ?_ ?_
  · intro E ce q9 u t H1 locs1 ht ha _ hE hz hk hS1 hce hcv hcl
    exact kx E ce q9 H1 locs1 hE (hP.kept (fun k q hq => hk q.1 (hP k q hq).lt (Nat.not_le.mpr (hP k q hq).lt))) hS1 hce hcv hcl
  · intro u t H1 locs1 ht ha hw _ hz hk hS1
    exact kk H1 locs1 hw (hP.kept (fun k q hq => hk q.1 (hP k q hq).lt (Nat.not_le.mpr (hP k q hq).lt))) hS1
end TXS
end
section
/-! a turn changes no answer -/
theorem opC_trn {v : St} {k : Nat} : ∀ n, opC (trn v) k n = opC v k n
  | 0 => rfl
  | n + 1 => by rw [opC, opC, opC_trn n]
theorem unC_trn {v : St} {k : Nat} {a : Int32} : ∀ n, unC (trn v) k a n = unC v k a n
  | 0 => rfl
  | n + 1 => by rw [unC, unC, unC_trn n]
theorem onC_trn {v : St} {x a : Int32} : ∀ n, onC (trn v) x a n = onC v x a n
  | 0 => rfl
  | n + 1 => by rw [onC, onC, onC_trn n, unC_trn]; rfl
theorem anF_trn {v : St} {k j n : Nat} {a : Int32} : anF (trn v) k j n a = anF v k j n a := by
  unfold anF
  rw [onC_trn, opC_trn]
  rfl
end
section
set_option maxHeartbeats 4000000 in
set_option maxRecDepth 100000 in
theorem c_d_refuse (l : Launch) (sz : Nat) (hl0 : l.stackTraces = false) (x : Int32) : vx_Met l y_d_refuse (Cond.code y_d_refuse b_d_refuse 1 none :: CW) { frames := 6, cells := 1, slots := 6, locals := 82 } (va_Pc [.int x] (fun U => U.heap.size = sz ∧ XcC (fun q => sz ≤ q) U U.heap)) (va_Qv (fun _ : Unit => ¬ x = 13 ∧ ¬ x = 14 ∧ ¬ x = 15) (fun _ _ => True) (fun q => sz ≤ q)) (vx_X (fun _ : Unit => True) (fun E _ _ => rfE x E) (fun q => sz ≤ q)) 1 6 (fun _ => False) := by
  refine tx_met (by decide) (Nat.le_of_ble_eq_true rfl) ?_
  intro p e s m below meth c hx hb hr hml hts hown hlocks hEx hC ls hl
  obtain ⟨hsz, hX⟩ := hC
  subst hsz
  have hS : va_S (fun q9 : Nat => s.heap.size ≤ q9) s.heap s.heap [] := va_S.rf
  have hown : s.vm.findClass "ServiceDesk" = some m.cls := hown
  have hl : lv_has ls 1 [(0, .int x)] := hl
  refine lv_iload_n hx hb z_d_refuse_0 rfl (lv_at hl 0 rfl) ?_
  refine lv_bipush (v := 13) hx hb z_d_refuse_1 (by decide) ?_
  refine lv_icmp_ne (tgt := 16) hx hb z_d_refuse_3 (by decide) (fun c_3 => ?_) (fun c_3 => ?_)
  · refine lv_iload_n hx hb z_d_refuse_16 rfl (lv_at hl 0 rfl) ?_
    refine lv_bipush (v := 14) hx hb z_d_refuse_17 (by decide) ?_
    refine lv_icmp_ne (tgt := 32) hx hb z_d_refuse_19 (by decide) (fun c_19 => ?_) (fun c_19 => ?_)
    · refine lv_iload_n hx hb z_d_refuse_32 rfl (lv_at hl 0 rfl) ?_
      refine lv_bipush (v := 15) hx hb z_d_refuse_33 (by decide) ?_
      refine lv_icmp_ne (tgt := 48) hx hb z_d_refuse_35 (by decide) (fun c_35 => ?_) (fun c_35 => ?_)
      · refine W.widen (k := 1) (n := 6) (Nat.le_of_ble_eq_true rfl) (Nat.le_of_ble_eq_true rfl) ?_
        exact vx_ret (W.vret hx hb hr (fun t ht hW => ⟨⟨(), rfl, ⟨c_3, c_19, c_35⟩, trivial⟩, hS.F ht⟩) (fun _ h9 => by cases h9) z_d_refuse_48)
      · obtain ⟨sa, hsa⟩ := hX.2.2.2 _ sr_142
        exact vx_throwS (own := "ServiceDesk") (cls := "java/lang/IllegalStateException") (names := ["java/lang/RuntimeException", "java/lang/Exception"]) hx hb hl0 hown (by decide +kernel) (by decide +kernel) (hts _ (cw_in mw_224 rfl)) (hts _ (cw_in mw_11 rfl)) hsa (xw_2 hts hX.2.2.1) (List.forall_mem_cons.mpr ⟨rfl, List.forall_mem_cons.mpr ⟨rfl, xo_2⟩⟩) hX.1 hX.2.1 hS (hl.1.trans hml.symm) z_d_refuse_38 z_d_refuse_41 z_d_refuse_42 z_d_refuse_44 z_d_refuse_47 (fun x9 h9 => (hEx x9 h9).elim) (Nat.le_of_ble_eq_true rfl) (Nat.le_of_ble_eq_true rfl) (Nat.le_of_ble_eq_true rfl) (Nat.le_of_ble_eq_true rfl) hlocks (fun t hA0 hZ0 hK0 => ⟨(), trivial, Or.inr (Or.inr ⟨c_35, rfl⟩), hZ0, fun q9 h1 _ => hK0 q9 h1⟩) (fun _ h9 => by cases h9) (Nat.le_of_ble_eq_true rfl) (Nat.le_of_ble_eq_true rfl)
    · obtain ⟨sa, hsa⟩ := hX.2.2.2 _ sr_215
      exact vx_throwS (own := "ServiceDesk") (cls := "java/lang/IndexOutOfBoundsException") (names := ["java/lang/RuntimeException", "java/lang/Exception"]) hx hb hl0 hown (by decide +kernel) (by decide +kernel) (hts _ (cw_in mw_299 rfl)) (hts _ (cw_in mw_13 rfl)) hsa (xw_1 hts hX.2.2.1) (List.forall_mem_cons.mpr ⟨rfl, List.forall_mem_cons.mpr ⟨rfl, xo_1⟩⟩) hX.1 hX.2.1 hS (hl.1.trans hml.symm) z_d_refuse_22 z_d_refuse_25 z_d_refuse_26 z_d_refuse_28 z_d_refuse_31 (fun x9 h9 => (hEx x9 h9).elim) (Nat.le_of_ble_eq_true rfl) (Nat.le_of_ble_eq_true rfl) (Nat.le_of_ble_eq_true rfl) (Nat.le_of_ble_eq_true rfl) hlocks (fun t hA0 hZ0 hK0 => ⟨(), trivial, Or.inr (Or.inl ⟨c_19, rfl⟩), hZ0, fun q9 h1 _ => hK0 q9 h1⟩) (fun _ h9 => by cases h9) (Nat.le_of_ble_eq_true rfl) (Nat.le_of_ble_eq_true rfl)
  · obtain ⟨sa, hsa⟩ := hX.2.2.2 _ sr_213
    exact vx_throwS (own := "ServiceDesk") (cls := "java/lang/IllegalArgumentException") (names := ["java/lang/RuntimeException", "java/lang/Exception"]) hx hb hl0 hown (by decide +kernel) (by decide +kernel) (hts _ (cw_in mw_152 rfl)) (hts _ (cw_in mw_10 rfl)) hsa (xw_0 hts hX.2.2.1) (List.forall_mem_cons.mpr ⟨rfl, List.forall_mem_cons.mpr ⟨rfl, xo_0⟩⟩) hX.1 hX.2.1 hS (hl.1.trans hml.symm) z_d_refuse_6 z_d_refuse_9 z_d_refuse_10 z_d_refuse_12 z_d_refuse_15 (fun x9 h9 => (hEx x9 h9).elim) (Nat.le_of_ble_eq_true rfl) (Nat.le_of_ble_eq_true rfl) (Nat.le_of_ble_eq_true rfl) (Nat.le_of_ble_eq_true rfl) hlocks (fun t hA0 hZ0 hK0 => ⟨(), trivial, Or.inl ⟨c_3, rfl⟩, hZ0, fun q9 h1 _ => hK0 q9 h1⟩) (fun _ h9 => by cases h9) (Nat.le_of_ble_eq_true rfl) (Nat.le_of_ble_eq_true rfl)

set_option maxHeartbeats 4000000 in
set_option maxRecDepth 100000 in
theorem c_d_under (l : Launch) (dC : Nat → ClassId) (dI : Nat → Nat → Nat) (q : Nat → Nat) (cI cZ cB : ClassId) (v : St) (sz : Nat) (hl0 : l.stackTraces = false) (hi : Inv v) (x y : Int32) : vx_Met l y_d_under (Cond.code y_d_under b_d_under 3 none :: CW) { frames := 6, cells := 1, slots := 6, locals := 82 } (va_Pc [.ref (q 0), .int x, .int y] (TxC (dC, dI) sz (wC q cI cZ cB v) (tyC cI cZ cB))) (va_Qv (fun u : St => spUnder v x y 0 u) (fun u => WrB (dC, dI) (wC q cI cZ cB u) (tyC cI cZ cB) (va_A (wC q cI cZ cB v) sz)) (va_A (wC q cI cZ cB v) sz)) (vx_X (fun z9 : Nat × St => spUnder v x y z9.1 z9.2) (fun E z9 t => (E, z9.1) ∈ ([("java/lang/IllegalArgumentException", 1), ("java/lang/IllegalStateException", 2)] : List (String × Nat)) ∧ WrB (dC, dI) (wC q cI cZ cB z9.2) (tyC cI cZ cB) (va_A (wC q cI cZ cB v) sz) t) (va_A (wC q cI cZ cB v) sz)) 1 6 (va_A (wC q cI cZ cB v) sz) := by
  refine tx_met (by decide) (Nat.le_of_ble_eq_true rfl) ?_
  intro p e s m below meth c hx hb hr hml hts hown hlocks hEx hC ls hl
  obtain ⟨⟨hsz, hP, hK, hD0, hN⟩, hX⟩ := hC
  subst hsz
  have hD := hD0.self (sz := s.heap.size)
  generalize hAe : va_A (wC q cI cZ cB v) s.heap.size = A at hD hX ⊢
  have hA : ∀ q9 : Nat, s.heap.size ≤ q9 → A q9 := fun q9 h => by rw [← hAe]; exact Or.inr h
  have hS : va_S A s.heap s.heap [] := va_S.rf
  have hown : s.vm.findClass "ServiceDesk" = some m.cls := hown
  have hl : lv_has ls 3 [(0, .ref (q 0)), (1, .int x), (2, .int y)] := hl
  refine lv_iload_n hx hb z_d_under_0 rfl (lv_at hl 1 rfl) ?_
  refine rdSi (As := [.int x]) (rest := []) ⟨hx, hb, hml, hown, hts⟩ (c_d_isKind l x) mw_151 mw_149 mw_150 mw_1 yd_d_isKind ⟨⟨rfl, rfl⟩, Nat.le_of_ble_eq_true rfl, Nat.le_of_ble_eq_true rfl⟩ ⟨Nat.le_of_ble_eq_true rfl, Nat.le_of_ble_eq_true rfl⟩ (pre_pure) rfl hl.1 rfl (Nat.le_of_ble_eq_true rfl) z_d_under_1 (fun r_1 h_2 => ?_)
  rcases h_2 with ⟨rfl, h_2⟩ | ⟨rfl, h_2⟩
  · obtain ⟨k, hk, rfl⟩ := h_2
    refine lv_if_eq (tgt := 19) hx hb z_d_under_4 (by decide) (fun c9 => absurd c9 (by decide)) (fun _ => ?_)
    refine lv_iload_n hx hb z_d_under_7 rfl (lv_at hl 2 rfl) ?_
    refine lv_iconst (v := (-1)) hx hb z_d_under_8 (by decide) ?_
    refine lv_icmp_eq (tgt := 29) hx hb z_d_under_9 (by decide) (fun c_9 => ?_) (fun c_9 => ?_)
    · refine lv_aload_n hx hb z_d_under_29 rfl (lv_at hl 0 rfl) ?_
      refine va_get (D := (dC, dI)) (ci := 3) (v := .ref (q 6)) (C := R3) (T := T3) (N := 6) hx hb hts (cw_sub iC3) hown hK hP 0 rfl rfl 2 (by decide) (hts _ (cw_in mw_94 rfl)) (fun _ h9 => h9) rfl z_d_under_30 ?_
      refine va_getN (D := (dC, dI)) (ci := 1) (v := .ref (q 7)) (C := R1) (T := T1) (N := 6) hx hb hts (cw_sub iC1) hown hK hP 6 rfl rfl 0 (by decide) (va_Nw.use rfl (hN _ nw_5)) (fun _ h9 => h9) rfl z_d_under_33 ?_
      refine lv_iload_n hx hb z_d_under_36 rfl (lv_at hl 1 rfl) ?_
      refine xa_i hx hb hK hP 7 0 rfl rfl (k := k) (y := nI (mN v k)) (hk) (by decide) ((hi.mk k hk).2) z_d_under_37 ?_
      refine lv_if_gt (tgt := 50) hx hb z_d_under_38 (by decide) (fun c_38 => ?_) (fun c_38 => ?_)
      · obtain ⟨sa_3, hsa_3⟩ := hX.2.2.2 _ sr_60
        exact vx_throwS (own := "ServiceDesk") (cls := "java/lang/IllegalStateException") (names := ["java/lang/RuntimeException", "java/lang/Exception"]) hx hb hl0 hown (by decide +kernel) (by decide +kernel) (hts _ (cw_in mw_224 rfl)) (hts _ (cw_in mw_11 rfl)) hsa_3 (xw_2 hts hX.2.2.1) (List.forall_mem_cons.mpr ⟨rfl, List.forall_mem_cons.mpr ⟨rfl, xo_2⟩⟩) hX.1 hX.2.1 hS (hl.1.trans hml.symm) z_d_under_50 z_d_under_53 z_d_under_54 z_d_under_56 z_d_under_59 (fun x9 h9 => (hEx x9 h9).elim) (Nat.le_of_ble_eq_true rfl) (Nat.le_of_ble_eq_true rfl) (Nat.le_of_ble_eq_true rfl) (Nat.le_of_ble_eq_true rfl) hlocks (fun t hA0 hZ0 hK0 => ⟨(2, v), Or.inr (Or.inl ⟨rfl, rfl, k, hk, rfl, Or.inl c_9, Or.inl (pos_of_lt c_38)⟩), ⟨List.mem_of_getElem? (i := 1) rfl, hP.kept (fun k9 q9 hq9 => hK0 q9.1 (hP k9 q9 hq9).lt), va_K.moved hA0 hK, hD⟩, Nat.le_trans hS.1 hZ0, fun q9 h1 h2 => (hK0 q9 (Nat.lt_of_lt_of_le h1 hS.1)).trans (hS.2.1 q9 h1 h2)⟩) hS.2.2 (Nat.le_of_ble_eq_true rfl) (Nat.le_of_ble_eq_true rfl)
      · refine lv_aload_n hx hb z_d_under_41 rfl (lv_at hl 0 rfl) ?_
        refine lv_iload_n hx hb z_d_under_42 rfl (lv_at hl 2 rfl) ?_
        refine lv_iload_n hx hb z_d_under_43 rfl (lv_at hl 1 rfl) ?_
        refine rdVi (As := [.int y, .int (nI k)]) (rest := []) ⟨hx, hb, hml, hown, hts⟩ (c_d_isAtOrUnder l dC dI q cI cZ cB v hi y (Or.inl c_9) k hk) mw_223 mw_220 mw_222 mp_5 mw_1 rfl yd_d_isAtOrUnder ⟨⟨rfl, rfl⟩, Nat.le_of_ble_eq_true rfl, Nat.le_of_ble_eq_true rfl⟩ ⟨Nat.le_of_ble_eq_true rfl, Nat.le_of_ble_eq_true rfl⟩ (RdC.preV hP hK hN (ci := 3) (q0 := 0) rfl rfl) rfl hl.1 rfl (Nat.le_of_ble_eq_true rfl) z_d_under_44 (fun r_4 h_5 => ?_)
        rcases h_5 with ⟨rfl, h_5⟩ | ⟨rfl, h_5⟩
        · refine lv_if_eq (tgt := 60) hx hb z_d_under_47 (by decide) (fun c9 => absurd c9 (by decide)) (fun _ => ?_)
          obtain ⟨sa_6, hsa_6⟩ := hX.2.2.2 _ sr_60
          exact vx_throwS (own := "ServiceDesk") (cls := "java/lang/IllegalStateException") (names := ["java/lang/RuntimeException", "java/lang/Exception"]) hx hb hl0 hown (by decide +kernel) (by decide +kernel) (hts _ (cw_in mw_224 rfl)) (hts _ (cw_in mw_11 rfl)) hsa_6 (xw_2 hts hX.2.2.1) (List.forall_mem_cons.mpr ⟨rfl, List.forall_mem_cons.mpr ⟨rfl, xo_2⟩⟩) hX.1 hX.2.1 hS (hl.1.trans hml.symm) z_d_under_50 z_d_under_53 z_d_under_54 z_d_under_56 z_d_under_59 (fun x9 h9 => (hEx x9 h9).elim) (Nat.le_of_ble_eq_true rfl) (Nat.le_of_ble_eq_true rfl) (Nat.le_of_ble_eq_true rfl) (Nat.le_of_ble_eq_true rfl) hlocks (fun t hA0 hZ0 hK0 => ⟨(2, v), Or.inr (Or.inl ⟨rfl, rfl, k, hk, rfl, Or.inl c_9, Or.inr h_5⟩), ⟨List.mem_of_getElem? (i := 1) rfl, hP.kept (fun k9 q9 hq9 => hK0 q9.1 (hP k9 q9 hq9).lt), va_K.moved hA0 hK, hD⟩, Nat.le_trans hS.1 hZ0, fun q9 h1 h2 => (hK0 q9 (Nat.lt_of_lt_of_le h1 hS.1)).trans (hS.2.1 q9 h1 h2)⟩) hS.2.2 (Nat.le_of_ble_eq_true rfl) (Nat.le_of_ble_eq_true rfl)
        · refine lv_if_eq (tgt := 60) hx hb z_d_under_47 (by decide) (fun _ => ?_) (fun c9 => absurd (by decide) c9)
          refine lv_aload_n hx hb z_d_under_60 rfl (lv_at hl 0 rfl) ?_
          refine va_get (D := (dC, dI)) (ci := 3) (v := .ref (q 1)) (C := R3) (T := T3) (N := 6) hx hb hts (cw_sub iC3) hown hK hP 0 rfl rfl 0 (by decide) (hts _ (cw_in mw_92 rfl)) (fun _ h9 => h9) rfl z_d_under_61 ?_
          refine lv_iload_n hx hb z_d_under_64 rfl (lv_at hl 1 rfl) ?_
          refine lv_iload_n hx hb z_d_under_65 rfl (lv_at hl 2 rfl) ?_
          refine xs_i hx hb hK hP hD hS 1 0 rfl rfl (k := k) (hk) (by decide) z_d_under_66 (fun H locs hP hD hS => ?_)
          have hP : va_P (dC, dI) vwCl (wC q cI cZ cB (uka v (upd (zka v) k y))) H := hP
          have hD : va_D A (wC q cI cZ cB (uka v (upd (zka v) k y))) := hD
          refine W.widen (k := 1) (n := 6) (Nat.le_of_ble_eq_true rfl) (Nat.le_of_ble_eq_true rfl) ?_
          exact vx_ret (W.vret hx hb hr (fun t ht hW => ⟨⟨uka v (upd (zka v) k y), rfl, Or.inr (Or.inr ⟨rfl, k, hk, rfl, Or.inl c_9, fun h => h.elim (npos_of_nlt (mN_lt hi hk) c_38) h_5, rfl⟩), by rw [ht]; exact hP, va_K.moved hW.alike hK, hD⟩, hS.F ht⟩) hS.2.2 z_d_under_67)
    · refine lv_iload_n hx hb z_d_under_12 rfl (lv_at hl 2 rfl) ?_
      refine rdSi (As := [.int y]) (rest := []) ⟨hx, hb, hml, hown, hts⟩ (c_d_isKind l y) mw_151 mw_149 mw_150 mw_1 yd_d_isKind ⟨⟨rfl, rfl⟩, Nat.le_of_ble_eq_true rfl, Nat.le_of_ble_eq_true rfl⟩ ⟨Nat.le_of_ble_eq_true rfl, Nat.le_of_ble_eq_true rfl⟩ (pre_pure) rfl hl.1 rfl (Nat.le_of_ble_eq_true rfl) z_d_under_13 (fun r_7 h_8 => ?_)
      rcases h_8 with ⟨rfl, h_8⟩ | ⟨rfl, h_8⟩
      · refine lv_if_ne (tgt := 29) hx hb z_d_under_16 (by decide) (fun _ => ?_) (fun c9 => absurd c9 (by decide))
        refine lv_aload_n hx hb z_d_under_29 rfl (lv_at hl 0 rfl) ?_
        refine va_get (D := (dC, dI)) (ci := 3) (v := .ref (q 6)) (C := R3) (T := T3) (N := 6) hx hb hts (cw_sub iC3) hown hK hP 0 rfl rfl 2 (by decide) (hts _ (cw_in mw_94 rfl)) (fun _ h9 => h9) rfl z_d_under_30 ?_
        refine va_getN (D := (dC, dI)) (ci := 1) (v := .ref (q 7)) (C := R1) (T := T1) (N := 6) hx hb hts (cw_sub iC1) hown hK hP 6 rfl rfl 0 (by decide) (va_Nw.use rfl (hN _ nw_5)) (fun _ h9 => h9) rfl z_d_under_33 ?_
        refine lv_iload_n hx hb z_d_under_36 rfl (lv_at hl 1 rfl) ?_
        refine xa_i hx hb hK hP 7 0 rfl rfl (k := k) (y := nI (mN v k)) (hk) (by decide) ((hi.mk k hk).2) z_d_under_37 ?_
        refine lv_if_gt (tgt := 50) hx hb z_d_under_38 (by decide) (fun c_38 => ?_) (fun c_38 => ?_)
        · obtain ⟨sa_9, hsa_9⟩ := hX.2.2.2 _ sr_60
          exact vx_throwS (own := "ServiceDesk") (cls := "java/lang/IllegalStateException") (names := ["java/lang/RuntimeException", "java/lang/Exception"]) hx hb hl0 hown (by decide +kernel) (by decide +kernel) (hts _ (cw_in mw_224 rfl)) (hts _ (cw_in mw_11 rfl)) hsa_9 (xw_2 hts hX.2.2.1) (List.forall_mem_cons.mpr ⟨rfl, List.forall_mem_cons.mpr ⟨rfl, xo_2⟩⟩) hX.1 hX.2.1 hS (hl.1.trans hml.symm) z_d_under_50 z_d_under_53 z_d_under_54 z_d_under_56 z_d_under_59 (fun x9 h9 => (hEx x9 h9).elim) (Nat.le_of_ble_eq_true rfl) (Nat.le_of_ble_eq_true rfl) (Nat.le_of_ble_eq_true rfl) (Nat.le_of_ble_eq_true rfl) hlocks (fun t hA0 hZ0 hK0 => ⟨(2, v), Or.inr (Or.inl ⟨rfl, rfl, k, hk, rfl, Or.inr h_8, Or.inl (pos_of_lt c_38)⟩), ⟨List.mem_of_getElem? (i := 1) rfl, hP.kept (fun k9 q9 hq9 => hK0 q9.1 (hP k9 q9 hq9).lt), va_K.moved hA0 hK, hD⟩, Nat.le_trans hS.1 hZ0, fun q9 h1 h2 => (hK0 q9 (Nat.lt_of_lt_of_le h1 hS.1)).trans (hS.2.1 q9 h1 h2)⟩) hS.2.2 (Nat.le_of_ble_eq_true rfl) (Nat.le_of_ble_eq_true rfl)
        · refine lv_aload_n hx hb z_d_under_41 rfl (lv_at hl 0 rfl) ?_
          refine lv_iload_n hx hb z_d_under_42 rfl (lv_at hl 2 rfl) ?_
          refine lv_iload_n hx hb z_d_under_43 rfl (lv_at hl 1 rfl) ?_
          refine rdVi (As := [.int y, .int (nI k)]) (rest := []) ⟨hx, hb, hml, hown, hts⟩ (c_d_isAtOrUnder l dC dI q cI cZ cB v hi y (Or.inr h_8) k hk) mw_223 mw_220 mw_222 mp_5 mw_1 rfl yd_d_isAtOrUnder ⟨⟨rfl, rfl⟩, Nat.le_of_ble_eq_true rfl, Nat.le_of_ble_eq_true rfl⟩ ⟨Nat.le_of_ble_eq_true rfl, Nat.le_of_ble_eq_true rfl⟩ (RdC.preV hP hK hN (ci := 3) (q0 := 0) rfl rfl) rfl hl.1 rfl (Nat.le_of_ble_eq_true rfl) z_d_under_44 (fun r_10 h_11 => ?_)
          rcases h_11 with ⟨rfl, h_11⟩ | ⟨rfl, h_11⟩
          · refine lv_if_eq (tgt := 60) hx hb z_d_under_47 (by decide) (fun c9 => absurd c9 (by decide)) (fun _ => ?_)
            obtain ⟨sa_12, hsa_12⟩ := hX.2.2.2 _ sr_60
            exact vx_throwS (own := "ServiceDesk") (cls := "java/lang/IllegalStateException") (names := ["java/lang/RuntimeException", "java/lang/Exception"]) hx hb hl0 hown (by decide +kernel) (by decide +kernel) (hts _ (cw_in mw_224 rfl)) (hts _ (cw_in mw_11 rfl)) hsa_12 (xw_2 hts hX.2.2.1) (List.forall_mem_cons.mpr ⟨rfl, List.forall_mem_cons.mpr ⟨rfl, xo_2⟩⟩) hX.1 hX.2.1 hS (hl.1.trans hml.symm) z_d_under_50 z_d_under_53 z_d_under_54 z_d_under_56 z_d_under_59 (fun x9 h9 => (hEx x9 h9).elim) (Nat.le_of_ble_eq_true rfl) (Nat.le_of_ble_eq_true rfl) (Nat.le_of_ble_eq_true rfl) (Nat.le_of_ble_eq_true rfl) hlocks (fun t hA0 hZ0 hK0 => ⟨(2, v), Or.inr (Or.inl ⟨rfl, rfl, k, hk, rfl, Or.inr h_8, Or.inr h_11⟩), ⟨List.mem_of_getElem? (i := 1) rfl, hP.kept (fun k9 q9 hq9 => hK0 q9.1 (hP k9 q9 hq9).lt), va_K.moved hA0 hK, hD⟩, Nat.le_trans hS.1 hZ0, fun q9 h1 h2 => (hK0 q9 (Nat.lt_of_lt_of_le h1 hS.1)).trans (hS.2.1 q9 h1 h2)⟩) hS.2.2 (Nat.le_of_ble_eq_true rfl) (Nat.le_of_ble_eq_true rfl)
          · refine lv_if_eq (tgt := 60) hx hb z_d_under_47 (by decide) (fun _ => ?_) (fun c9 => absurd (by decide) c9)
            refine lv_aload_n hx hb z_d_under_60 rfl (lv_at hl 0 rfl) ?_
            refine va_get (D := (dC, dI)) (ci := 3) (v := .ref (q 1)) (C := R3) (T := T3) (N := 6) hx hb hts (cw_sub iC3) hown hK hP 0 rfl rfl 0 (by decide) (hts _ (cw_in mw_92 rfl)) (fun _ h9 => h9) rfl z_d_under_61 ?_
            refine lv_iload_n hx hb z_d_under_64 rfl (lv_at hl 1 rfl) ?_
            refine lv_iload_n hx hb z_d_under_65 rfl (lv_at hl 2 rfl) ?_
            refine xs_i hx hb hK hP hD hS 1 0 rfl rfl (k := k) (hk) (by decide) z_d_under_66 (fun H locs hP hD hS => ?_)
            have hP : va_P (dC, dI) vwCl (wC q cI cZ cB (uka v (upd (zka v) k y))) H := hP
            have hD : va_D A (wC q cI cZ cB (uka v (upd (zka v) k y))) := hD
            refine W.widen (k := 1) (n := 6) (Nat.le_of_ble_eq_true rfl) (Nat.le_of_ble_eq_true rfl) ?_
            exact vx_ret (W.vret hx hb hr (fun t ht hW => ⟨⟨uka v (upd (zka v) k y), rfl, Or.inr (Or.inr ⟨rfl, k, hk, rfl, Or.inr h_8, fun h => h.elim (npos_of_nlt (mN_lt hi hk) c_38) h_11, rfl⟩), by rw [ht]; exact hP, va_K.moved hW.alike hK, hD⟩, hS.F ht⟩) hS.2.2 z_d_under_67)
      · refine lv_if_ne (tgt := 29) hx hb z_d_under_16 (by decide) (fun c9 => absurd rfl c9) (fun _ => ?_)
        obtain ⟨sa_13, hsa_13⟩ := hX.2.2.2 _ sr_46
        exact vx_throwS (own := "ServiceDesk") (cls := "java/lang/IllegalArgumentException") (names := ["java/lang/RuntimeException", "java/lang/Exception"]) hx hb hl0 hown (by decide +kernel) (by decide +kernel) (hts _ (cw_in mw_152 rfl)) (hts _ (cw_in mw_10 rfl)) hsa_13 (xw_0 hts hX.2.2.1) (List.forall_mem_cons.mpr ⟨rfl, List.forall_mem_cons.mpr ⟨rfl, xo_0⟩⟩) hX.1 hX.2.1 hS (hl.1.trans hml.symm) z_d_under_19 z_d_under_22 z_d_under_23 z_d_under_25 z_d_under_28 (fun x9 h9 => (hEx x9 h9).elim) (Nat.le_of_ble_eq_true rfl) (Nat.le_of_ble_eq_true rfl) (Nat.le_of_ble_eq_true rfl) (Nat.le_of_ble_eq_true rfl) hlocks (fun t hA0 hZ0 hK0 => ⟨(1, v), Or.inl ⟨rfl, rfl, fun h => h.2.elim c_9 h_8⟩, ⟨List.mem_of_getElem? (i := 0) rfl, hP.kept (fun k9 q9 hq9 => hK0 q9.1 (hP k9 q9 hq9).lt), va_K.moved hA0 hK, hD⟩, Nat.le_trans hS.1 hZ0, fun q9 h1 h2 => (hK0 q9 (Nat.lt_of_lt_of_le h1 hS.1)).trans (hS.2.1 q9 h1 h2)⟩) hS.2.2 (Nat.le_of_ble_eq_true rfl) (Nat.le_of_ble_eq_true rfl)
  · refine lv_if_eq (tgt := 19) hx hb z_d_under_4 (by decide) (fun _ => ?_) (fun c9 => absurd (by decide) c9)
    obtain ⟨sa_14, hsa_14⟩ := hX.2.2.2 _ sr_46
    exact vx_throwS (own := "ServiceDesk") (cls := "java/lang/IllegalArgumentException") (names := ["java/lang/RuntimeException", "java/lang/Exception"]) hx hb hl0 hown (by decide +kernel) (by decide +kernel) (hts _ (cw_in mw_152 rfl)) (hts _ (cw_in mw_10 rfl)) hsa_14 (xw_0 hts hX.2.2.1) (List.forall_mem_cons.mpr ⟨rfl, List.forall_mem_cons.mpr ⟨rfl, xo_0⟩⟩) hX.1 hX.2.1 hS (hl.1.trans hml.symm) z_d_under_19 z_d_under_22 z_d_under_23 z_d_under_25 z_d_under_28 (fun x9 h9 => (hEx x9 h9).elim) (Nat.le_of_ble_eq_true rfl) (Nat.le_of_ble_eq_true rfl) (Nat.le_of_ble_eq_true rfl) (Nat.le_of_ble_eq_true rfl) hlocks (fun t hA0 hZ0 hK0 => ⟨(1, v), Or.inl ⟨rfl, rfl, fun h => h_2 h.1⟩, ⟨List.mem_of_getElem? (i := 0) rfl, hP.kept (fun k9 q9 hq9 => hK0 q9.1 (hP k9 q9 hq9).lt), va_K.moved hA0 hK, hD⟩, Nat.le_trans hS.1 hZ0, fun q9 h1 h2 => (hK0 q9 (Nat.lt_of_lt_of_le h1 hS.1)).trans (hS.2.1 q9 h1 h2)⟩) hS.2.2 (Nat.le_of_ble_eq_true rfl) (Nat.le_of_ble_eq_true rfl)

set_option maxHeartbeats 4000000 in
set_option maxRecDepth 100000 in
theorem c_d_make (l : Launch) (dC : Nat → ClassId) (dI : Nat → Nat → Nat) (q : Nat → Nat) (cI cZ cB : ClassId) (v : St) (sz : Nat) (hl0 : l.stackTraces = false) (hi : Inv v) (x y : Int32) : vx_Met l y_d_make (Cond.code y_d_make b_d_make 4 (some .int) :: CW) { frames := 6, cells := 1, slots := 6, locals := 82 } (va_Pc [.ref (q 0), .int x, .int y] (TxC (dC, dI) sz (wC q cI cZ cB v) (tyC cI cZ cB))) (va_Qi (fun (r : Int32) (u : St) => spMake v x y 0 r u) (fun u => WrB (dC, dI) (wC q cI cZ cB u) (tyC cI cZ cB) (va_A (wC q cI cZ cB v) sz)) (va_A (wC q cI cZ cB v) sz)) (vx_X (fun z9 : Nat × St => spMake v x y z9.1 0 z9.2) (fun E z9 t => (E, z9.1) ∈ ([("java/lang/IllegalArgumentException", 1), ("java/lang/IllegalStateException", 2), ("java/lang/UnsupportedOperationException", 3)] : List (String × Nat)) ∧ WrB (dC, dI) (wC q cI cZ cB z9.2) (tyC cI cZ cB) (va_A (wC q cI cZ cB v) sz) t) (va_A (wC q cI cZ cB v) sz)) 1 6 (va_A (wC q cI cZ cB v) sz) := by
  refine tx_met (by decide) (Nat.le_of_ble_eq_true rfl) ?_
  intro p e s m below meth c hx hb hr hml hts hown hlocks hEx hC ls hl
  obtain ⟨⟨hsz, hP, hK, hD0, hN⟩, hX⟩ := hC
  subst hsz
  have hD := hD0.self (sz := s.heap.size)
  generalize hAe : va_A (wC q cI cZ cB v) s.heap.size = A at hD hX ⊢
  have hA : ∀ q9 : Nat, s.heap.size ≤ q9 → A q9 := fun q9 h => by rw [← hAe]; exact Or.inr h
  have hS : va_S A s.heap s.heap [] := va_S.rf
  have hown : s.vm.findClass "ServiceDesk" = some m.cls := hown
  have hl : lv_has ls 4 [(0, .ref (q 0)), (1, .int x), (2, .int y)] := hl
  refine lv_iload_n hx hb z_d_make_0 rfl (lv_at hl 1 rfl) ?_
  refine rdSi (As := [.int x]) (rest := []) ⟨hx, hb, hml, hown, hts⟩ (c_d_isKind l x) mw_151 mw_149 mw_150 mw_1 yd_d_isKind ⟨⟨rfl, rfl⟩, Nat.le_of_ble_eq_true rfl, Nat.le_of_ble_eq_true rfl⟩ ⟨Nat.le_of_ble_eq_true rfl, Nat.le_of_ble_eq_true rfl⟩ (pre_pure) rfl hl.1 rfl (Nat.le_of_ble_eq_true rfl) z_d_make_1 (fun r_1 h_2 => ?_)
  rcases h_2 with ⟨rfl, h_2⟩ | ⟨rfl, h_2⟩
  · obtain ⟨k, hk, rfl⟩ := h_2
    refine lv_if_eq (tgt := 16) hx hb z_d_make_4 (by decide) (fun c9 => absurd c9 (by decide)) (fun _ => ?_)
    refine lv_aload_n hx hb z_d_make_7 rfl (lv_at hl 0 rfl) ?_
    refine lv_iload_n hx hb z_d_make_8 rfl (lv_at hl 1 rfl) ?_
    refine lv_iload_n hx hb z_d_make_9 rfl (lv_at hl 2 rfl) ?_
    refine rdVi (As := [.int (nI k), .int y]) (rest := []) ⟨hx, hb, hml, hown, hts⟩ (c_d_canBeAbove l dC dI q cI cZ cB v hi k hk y) mw_251 mw_248 mw_250 mp_6 mw_1 rfl yd_d_canBeAbove ⟨⟨rfl, rfl⟩, Nat.le_of_ble_eq_true rfl, Nat.le_of_ble_eq_true rfl⟩ ⟨Nat.le_of_ble_eq_true rfl, Nat.le_of_ble_eq_true rfl⟩ (RdC.preV hP hK hN (ci := 3) (q0 := 0) rfl rfl) rfl hl.1 rfl (Nat.le_of_ble_eq_true rfl) z_d_make_10 (fun r_3 h_4 => ?_)
    rcases h_4 with ⟨rfl, h_4⟩ | ⟨rfl, h_4⟩
    · refine lv_if_ne (tgt := 26) hx hb z_d_make_13 (by decide) (fun _ => ?_) (fun c9 => absurd c9 (by decide))
      refine lv_aload_n hx hb z_d_make_26 rfl (lv_at hl 0 rfl) ?_
      refine lv_aload_n hx hb z_d_make_27 rfl (lv_at hl 0 rfl) ?_
      refine va_get (D := (dC, dI)) (ci := 3) (v := .ref (q 1)) (C := R3) (T := T3) (N := 6) hx hb hts (cw_sub iC3) hown hK hP 0 rfl rfl 0 (by decide) (hts _ (cw_in mw_92 rfl)) (fun _ h9 => h9) rfl z_d_make_28 ?_
      refine lv_iload_n hx hb z_d_make_31 rfl (lv_at hl 1 rfl) ?_
      refine xa_i hx hb hK hP 1 0 rfl rfl (k := k) (y := zka v k) (hk) (by decide) (rfl) z_d_make_32 ?_
      refine lv_iload_n hx hb z_d_make_33 rfl (lv_at hl 2 rfl) ?_
      refine rdVi (As := [.int (zka v k), .int y]) (rest := []) ⟨hx, hb, hml, hown, hts⟩ (c_d_slotOrNone l dC dI q cI cZ cB v hi (zka v k) y) mw_260 mw_257 mw_259 mp_8 mw_1 rfl yd_d_slotOrNone ⟨⟨rfl, rfl⟩, Nat.le_of_ble_eq_true rfl, Nat.le_of_ble_eq_true rfl⟩ ⟨Nat.le_of_ble_eq_true rfl, Nat.le_of_ble_eq_true rfl⟩ (RdC.preV hP hK hN (ci := 3) (q0 := 0) rfl rfl) rfl hl.1 rfl (Nat.le_of_ble_eq_true rfl) z_d_make_34 (fun r_5 h_6 => ?_)
      rcases h_6 with ⟨rfl, h_6⟩ | ⟨k2, j2, hk2, hj2, e2, e3, rfl⟩
      · refine lv_istore_n (lv' := [(3, .int (-1)), (0, .ref (q 0)), (1, .int (nI k)), (2, .int y)]) hx hb z_d_make_37 rfl hl (by decide) rfl (fun ls hl => ?_)
        refine lv_iload_n hx hb z_d_make_38 rfl (lv_at hl 0 rfl) ?_
        refine lv_iconst (v := (-1)) hx hb z_d_make_39 (by decide) ?_
        refine lv_icmp_eq (tgt := 65) hx hb z_d_make_40 (by decide) (fun _ => ?_) (fun c9 => absurd (by decide) c9)
        refine lv_aload_n hx hb z_d_make_65 rfl (lv_at hl 1 rfl) ?_
        refine va_get (D := (dC, dI)) (ci := 3) (v := .ref (q 6)) (C := R3) (T := T3) (N := 6) hx hb hts (cw_sub iC3) hown hK hP 0 rfl rfl 2 (by decide) (hts _ (cw_in mw_94 rfl)) (fun _ h9 => h9) rfl z_d_make_66 ?_
        refine va_getN (D := (dC, dI)) (ci := 1) (v := .ref (q 7)) (C := R1) (T := T1) (N := 6) hx hb hts (cw_sub iC1) hown hK hP 6 rfl rfl 0 (by decide) (va_Nw.use rfl (hN _ nw_5)) (fun _ h9 => h9) rfl z_d_make_69 ?_
        refine lv_iload_n hx hb z_d_make_72 rfl (lv_at hl 2 rfl) ?_
        refine xa_i hx hb hK hP 7 0 rfl rfl (k := k) (y := nI (mN v k)) (hk) (by decide) ((hi.mk k hk).2) z_d_make_73 ?_
        refine lv_bipush (v := 30) hx hb z_d_make_74 (by decide) ?_
        refine lv_icmp_lt (tgt := 89) hx hb z_d_make_76 (by decide) (fun c_76 => ?_) (fun c_76 => ?_)
        · refine lv_aload_n hx hb z_d_make_89 rfl (lv_at hl 1 rfl) ?_
          refine va_get (D := (dC, dI)) (ci := 3) (v := .ref (q 6)) (C := R3) (T := T3) (N := 6) hx hb hts (cw_sub iC3) hown hK hP 0 rfl rfl 2 (by decide) (hts _ (cw_in mw_94 rfl)) (fun _ h9 => h9) rfl z_d_make_90 ?_
          refine lv_iload_n hx hb z_d_make_93 rfl (lv_at hl 2 rfl) ?_
          refine lv_iload_n hx hb z_d_make_94 rfl (lv_at hl 3 rfl) ?_
          refine wrVNi (As := [.int (nI k), .int y]) (rest := []) (wf := fun u => wC q cI cZ cB u) ⟨hx, hb, hml, hown, hts⟩ (c_s_add l dC dI q cI cZ cB v s.heap.size hi k hk ((nI_ltI (mN_lt hi hk) (by decide)).mp (show nI (mN v k) < nI 30 from c_76)) y) mw_282 (hN _ nw_18) mw_281 mp_9 mw_3 yd_s_add ⟨⟨rfl, rfl⟩, Nat.le_of_ble_eq_true rfl, Nat.le_of_ble_eq_true rfl⟩ ⟨Nat.le_of_ble_eq_true rfl, Nat.le_of_ble_eq_true rfl⟩ (WrC.preV hP hK hD hN (ci := 1) (q0 := 6) rfl rfl) (wr_free hD hS hA) hS rfl hl.1 rfl (Nat.le_of_ble_eq_true rfl) z_d_make_95 (fun r_7 u_8 H locs h_9 hP hD hS hz9 => ?_)
          obtain ⟨rfl, rfl⟩ := h_9
          refine W.widen (k := 1) (n := 6) (Nat.le_of_ble_eq_true rfl) (Nat.le_of_ble_eq_true rfl) ?_
          exact vx_ret (W.iret (v := nI (mN v k)) hx hb hr (fun t ht hW => ⟨⟨nI (mN v k), addS v k y, rfl, Or.inr (Or.inr (Or.inr ⟨rfl, k, hk, rfl, h_4, okAb_no h_6, (nI_ltI (mN_lt hi hk) (by decide)).mp (show nI (mN v k) < nI 30 from c_76), rfl, rfl⟩)), by rw [ht]; exact hP, va_K.moved hW.alike hK, hD⟩, hS.F ht⟩) hS.2.2 z_d_make_98)
        · obtain ⟨sa_10, hsa_10⟩ := hX.2.2.2 _ sr_80
          exact vx_throwS (own := "ServiceDesk") (cls := "java/lang/UnsupportedOperationException") (names := ["java/lang/RuntimeException", "java/lang/Exception"]) hx hb hl0 hown (by decide +kernel) (by decide +kernel) (hts _ (cw_in mw_263 rfl)) (hts _ (cw_in mw_12 rfl)) hsa_10 (xw_3 hts hX.2.2.1) (List.forall_mem_cons.mpr ⟨rfl, List.forall_mem_cons.mpr ⟨rfl, xo_3⟩⟩) hX.1 hX.2.1 hS (hl.1.trans hml.symm) z_d_make_79 z_d_make_82 z_d_make_83 z_d_make_85 z_d_make_88 (fun x9 h9 => (hEx x9 h9).elim) (Nat.le_of_ble_eq_true rfl) (Nat.le_of_ble_eq_true rfl) (Nat.le_of_ble_eq_true rfl) (Nat.le_of_ble_eq_true rfl) hlocks (fun t hA0 hZ0 hK0 => ⟨(3, v), Or.inr (Or.inr (Or.inl ⟨rfl, rfl, k, hk, rfl, h_4, okAb_no h_6, fun h => c_76 (nI_lt (b := 30) h (by decide))⟩)), ⟨List.mem_of_getElem? (i := 2) rfl, hP.kept (fun k9 q9 hq9 => hK0 q9.1 (hP k9 q9 hq9).lt), va_K.moved hA0 hK, hD⟩, Nat.le_trans hS.1 hZ0, fun q9 h1 h2 => (hK0 q9 (Nat.lt_of_lt_of_le h1 hS.1)).trans (hS.2.1 q9 h1 h2)⟩) hS.2.2 (Nat.le_of_ble_eq_true rfl) (Nat.le_of_ble_eq_true rfl)
      · have hM2 := (hi.mk k2 hk2).1
        refine lv_istore_n (lv' := [(3, .int (nI (k2 * 30 + j2))), (0, .ref (q 0)), (1, .int (nI k)), (2, .int y)]) hx hb z_d_make_37 rfl hl (by decide) rfl (fun ls hl => ?_)
        refine lv_iload_n hx hb z_d_make_38 rfl (lv_at hl 0 rfl) ?_
        refine lv_iconst (v := (-1)) hx hb z_d_make_39 (by decide) ?_
        refine lv_icmp_eq (tgt := 65) hx hb z_d_make_40 (by decide) (fun c_40 => False.elim (absurd (show nI (k2 * 30 + j2) < 0 by rw [c_40]; decide) (nI_pos (by omega)))) (fun c_40 => ?_)
        refine lv_aload_n hx hb z_d_make_43 rfl (lv_at hl 1 rfl) ?_
        refine va_get (D := (dC, dI)) (ci := 3) (v := .ref (q 6)) (C := R3) (T := T3) (N := 6) hx hb hts (cw_sub iC3) hown hK hP 0 rfl rfl 2 (by decide) (hts _ (cw_in mw_94 rfl)) (fun _ h9 => h9) rfl z_d_make_44 ?_
        refine va_getN (D := (dC, dI)) (ci := 1) (v := .ref (q 9)) (C := R1) (T := T1) (N := 6) hx hb hts (cw_sub iC1) hown hK hP 6 rfl rfl 2 (by decide) (va_Nw.use rfl (hN _ nw_7)) (fun _ h9 => h9) rfl z_d_make_47 ?_
        refine lv_iload_n hx hb z_d_make_50 rfl (lv_at hl 0 rfl) ?_
        refine xa_z hx hb hK hP 9 1 rfl rfl (k := (k2 * 30 + j2)) (y := zop v (k2 * 30 + j2)) (by omega) (by decide) (rfl) z_d_make_51 ?_
        refine lv_if_ne (tgt := 65) hx hb z_d_make_52 (by decide) (fun c_52 => ?_) (fun c_52 => ?_)
        · refine lv_aload_n hx hb z_d_make_65 rfl (lv_at hl 1 rfl) ?_
          refine va_get (D := (dC, dI)) (ci := 3) (v := .ref (q 6)) (C := R3) (T := T3) (N := 6) hx hb hts (cw_sub iC3) hown hK hP 0 rfl rfl 2 (by decide) (hts _ (cw_in mw_94 rfl)) (fun _ h9 => h9) rfl z_d_make_66 ?_
          refine va_getN (D := (dC, dI)) (ci := 1) (v := .ref (q 7)) (C := R1) (T := T1) (N := 6) hx hb hts (cw_sub iC1) hown hK hP 6 rfl rfl 0 (by decide) (va_Nw.use rfl (hN _ nw_5)) (fun _ h9 => h9) rfl z_d_make_69 ?_
          refine lv_iload_n hx hb z_d_make_72 rfl (lv_at hl 2 rfl) ?_
          refine xa_i hx hb hK hP 7 0 rfl rfl (k := k) (y := nI (mN v k)) (hk) (by decide) ((hi.mk k hk).2) z_d_make_73 ?_
          refine lv_bipush (v := 30) hx hb z_d_make_74 (by decide) ?_
          refine lv_icmp_lt (tgt := 89) hx hb z_d_make_76 (by decide) (fun c_76 => ?_) (fun c_76 => ?_)
          · refine lv_aload_n hx hb z_d_make_89 rfl (lv_at hl 1 rfl) ?_
            refine va_get (D := (dC, dI)) (ci := 3) (v := .ref (q 6)) (C := R3) (T := T3) (N := 6) hx hb hts (cw_sub iC3) hown hK hP 0 rfl rfl 2 (by decide) (hts _ (cw_in mw_94 rfl)) (fun _ h9 => h9) rfl z_d_make_90 ?_
            refine lv_iload_n hx hb z_d_make_93 rfl (lv_at hl 2 rfl) ?_
            refine lv_iload_n hx hb z_d_make_94 rfl (lv_at hl 3 rfl) ?_
            refine wrVNi (As := [.int (nI k), .int y]) (rest := []) (wf := fun u => wC q cI cZ cB u) ⟨hx, hb, hml, hown, hts⟩ (c_s_add l dC dI q cI cZ cB v s.heap.size hi k hk ((nI_ltI (mN_lt hi hk) (by decide)).mp (show nI (mN v k) < nI 30 from c_76)) y) mw_282 (hN _ nw_18) mw_281 mp_9 mw_3 yd_s_add ⟨⟨rfl, rfl⟩, Nat.le_of_ble_eq_true rfl, Nat.le_of_ble_eq_true rfl⟩ ⟨Nat.le_of_ble_eq_true rfl, Nat.le_of_ble_eq_true rfl⟩ (WrC.preV hP hK hD hN (ci := 1) (q0 := 6) rfl rfl) (wr_free hD hS hA) hS rfl hl.1 rfl (Nat.le_of_ble_eq_true rfl) z_d_make_95 (fun r_11 u_12 H locs h_13 hP hD hS hz9 => ?_)
            obtain ⟨rfl, rfl⟩ := h_13
            refine W.widen (k := 1) (n := 6) (Nat.le_of_ble_eq_true rfl) (Nat.le_of_ble_eq_true rfl) ?_
            exact vx_ret (W.iret (v := nI (mN v k)) hx hb hr (fun t ht hW => ⟨⟨nI (mN v k), addS v k y, rfl, Or.inr (Or.inr (Or.inr ⟨rfl, k, hk, rfl, h_4, okAb_of hi hk2 hj2 e2 e3 c_52, (nI_ltI (mN_lt hi hk) (by decide)).mp (show nI (mN v k) < nI 30 from c_76), rfl, rfl⟩)), by rw [ht]; exact hP, va_K.moved hW.alike hK, hD⟩, hS.F ht⟩) hS.2.2 z_d_make_98)
          · obtain ⟨sa_14, hsa_14⟩ := hX.2.2.2 _ sr_80
            exact vx_throwS (own := "ServiceDesk") (cls := "java/lang/UnsupportedOperationException") (names := ["java/lang/RuntimeException", "java/lang/Exception"]) hx hb hl0 hown (by decide +kernel) (by decide +kernel) (hts _ (cw_in mw_263 rfl)) (hts _ (cw_in mw_12 rfl)) hsa_14 (xw_3 hts hX.2.2.1) (List.forall_mem_cons.mpr ⟨rfl, List.forall_mem_cons.mpr ⟨rfl, xo_3⟩⟩) hX.1 hX.2.1 hS (hl.1.trans hml.symm) z_d_make_79 z_d_make_82 z_d_make_83 z_d_make_85 z_d_make_88 (fun x9 h9 => (hEx x9 h9).elim) (Nat.le_of_ble_eq_true rfl) (Nat.le_of_ble_eq_true rfl) (Nat.le_of_ble_eq_true rfl) (Nat.le_of_ble_eq_true rfl) hlocks (fun t hA0 hZ0 hK0 => ⟨(3, v), Or.inr (Or.inr (Or.inl ⟨rfl, rfl, k, hk, rfl, h_4, okAb_of hi hk2 hj2 e2 e3 c_52, fun h => c_76 (nI_lt (b := 30) h (by decide))⟩)), ⟨List.mem_of_getElem? (i := 2) rfl, hP.kept (fun k9 q9 hq9 => hK0 q9.1 (hP k9 q9 hq9).lt), va_K.moved hA0 hK, hD⟩, Nat.le_trans hS.1 hZ0, fun q9 h1 h2 => (hK0 q9 (Nat.lt_of_lt_of_le h1 hS.1)).trans (hS.2.1 q9 h1 h2)⟩) hS.2.2 (Nat.le_of_ble_eq_true rfl) (Nat.le_of_ble_eq_true rfl)
        · obtain ⟨sa_15, hsa_15⟩ := hX.2.2.2 _ sr_76
          exact vx_throwS (own := "ServiceDesk") (cls := "java/lang/IllegalStateException") (names := ["java/lang/RuntimeException", "java/lang/Exception"]) hx hb hl0 hown (by decide +kernel) (by decide +kernel) (hts _ (cw_in mw_224 rfl)) (hts _ (cw_in mw_11 rfl)) hsa_15 (xw_2 hts hX.2.2.1) (List.forall_mem_cons.mpr ⟨rfl, List.forall_mem_cons.mpr ⟨rfl, xo_2⟩⟩) hX.1 hX.2.1 hS (hl.1.trans hml.symm) z_d_make_55 z_d_make_58 z_d_make_59 z_d_make_61 z_d_make_64 (fun x9 h9 => (hEx x9 h9).elim) (Nat.le_of_ble_eq_true rfl) (Nat.le_of_ble_eq_true rfl) (Nat.le_of_ble_eq_true rfl) (Nat.le_of_ble_eq_true rfl) hlocks (fun t hA0 hZ0 hK0 => ⟨(2, v), Or.inr (Or.inl ⟨rfl, rfl, k, hk, rfl, h_4, fun h => h k2 j2 hk2 hj2 e2 e3 c_52⟩), ⟨List.mem_of_getElem? (i := 1) rfl, hP.kept (fun k9 q9 hq9 => hK0 q9.1 (hP k9 q9 hq9).lt), va_K.moved hA0 hK, hD⟩, Nat.le_trans hS.1 hZ0, fun q9 h1 h2 => (hK0 q9 (Nat.lt_of_lt_of_le h1 hS.1)).trans (hS.2.1 q9 h1 h2)⟩) hS.2.2 (Nat.le_of_ble_eq_true rfl) (Nat.le_of_ble_eq_true rfl)
    · refine lv_if_ne (tgt := 26) hx hb z_d_make_13 (by decide) (fun c9 => absurd rfl c9) (fun _ => ?_)
      obtain ⟨sa_16, hsa_16⟩ := hX.2.2.2 _ sr_66
      exact vx_throwS (own := "ServiceDesk") (cls := "java/lang/IllegalArgumentException") (names := ["java/lang/RuntimeException", "java/lang/Exception"]) hx hb hl0 hown (by decide +kernel) (by decide +kernel) (hts _ (cw_in mw_152 rfl)) (hts _ (cw_in mw_10 rfl)) hsa_16 (xw_0 hts hX.2.2.1) (List.forall_mem_cons.mpr ⟨rfl, List.forall_mem_cons.mpr ⟨rfl, xo_0⟩⟩) hX.1 hX.2.1 hS (hl.1.trans hml.symm) z_d_make_16 z_d_make_19 z_d_make_20 z_d_make_22 z_d_make_25 (fun x9 h9 => (hEx x9 h9).elim) (Nat.le_of_ble_eq_true rfl) (Nat.le_of_ble_eq_true rfl) (Nat.le_of_ble_eq_true rfl) (Nat.le_of_ble_eq_true rfl) hlocks (fun t hA0 hZ0 hK0 => ⟨(1, v), Or.inl ⟨rfl, rfl, mk_no hk h_4⟩, ⟨List.mem_of_getElem? (i := 0) rfl, hP.kept (fun k9 q9 hq9 => hK0 q9.1 (hP k9 q9 hq9).lt), va_K.moved hA0 hK, hD⟩, Nat.le_trans hS.1 hZ0, fun q9 h1 h2 => (hK0 q9 (Nat.lt_of_lt_of_le h1 hS.1)).trans (hS.2.1 q9 h1 h2)⟩) hS.2.2 (Nat.le_of_ble_eq_true rfl) (Nat.le_of_ble_eq_true rfl)
  · refine lv_if_eq (tgt := 16) hx hb z_d_make_4 (by decide) (fun _ => ?_) (fun c9 => absurd (by decide) c9)
    obtain ⟨sa_17, hsa_17⟩ := hX.2.2.2 _ sr_66
    exact vx_throwS (own := "ServiceDesk") (cls := "java/lang/IllegalArgumentException") (names := ["java/lang/RuntimeException", "java/lang/Exception"]) hx hb hl0 hown (by decide +kernel) (by decide +kernel) (hts _ (cw_in mw_152 rfl)) (hts _ (cw_in mw_10 rfl)) hsa_17 (xw_0 hts hX.2.2.1) (List.forall_mem_cons.mpr ⟨rfl, List.forall_mem_cons.mpr ⟨rfl, xo_0⟩⟩) hX.1 hX.2.1 hS (hl.1.trans hml.symm) z_d_make_16 z_d_make_19 z_d_make_20 z_d_make_22 z_d_make_25 (fun x9 h9 => (hEx x9 h9).elim) (Nat.le_of_ble_eq_true rfl) (Nat.le_of_ble_eq_true rfl) (Nat.le_of_ble_eq_true rfl) (Nat.le_of_ble_eq_true rfl) hlocks (fun t hA0 hZ0 hK0 => ⟨(1, v), Or.inl ⟨rfl, rfl, fun ⟨k9, hk9, e9, _⟩ => h_2 ⟨k9, hk9, e9⟩⟩, ⟨List.mem_of_getElem? (i := 0) rfl, hP.kept (fun k9 q9 hq9 => hK0 q9.1 (hP k9 q9 hq9).lt), va_K.moved hA0 hK, hD⟩, Nat.le_trans hS.1 hZ0, fun q9 h1 h2 => (hK0 q9 (Nat.lt_of_lt_of_le h1 hS.1)).trans (hS.2.1 q9 h1 h2)⟩) hS.2.2 (Nat.le_of_ble_eq_true rfl) (Nat.le_of_ble_eq_true rfl)

set_option maxHeartbeats 4000000 in
set_option maxRecDepth 100000 in
theorem c_d_verb (l : Launch) (dC : Nat → ClassId) (dI : Nat → Nat → Nat) (q : Nat → Nat) (cI cZ cB : ClassId) (v : St) (sz : Nat) (hl0 : l.stackTraces = false) (x y z a b : Int32) : vx_Met l y_d_verb (Cond.code y_d_verb b_d_verb 6 none :: CW) { frames := 6, cells := 1, slots := 6, locals := 82 } (va_Pc [.ref (q 0), .int x, .int y, .int z, .int a, .int b] (TxC (dC, dI) sz (wC q cI cZ cB v) (tyC cI cZ cB))) (va_Qv (fun u : St => spVerb v x y z a b 0 u) (fun u => WrB (dC, dI) (wC q cI cZ cB u) (tyC cI cZ cB) (va_A (wC q cI cZ cB v) sz)) (va_A (wC q cI cZ cB v) sz)) (vx_X (fun z9 : Nat × St => spVerb v x y z a b z9.1 z9.2) (fun E z9 t => (E, z9.1) ∈ ([("java/lang/IllegalArgumentException", 1), ("java/lang/IndexOutOfBoundsException", 2)] : List (String × Nat)) ∧ WrB (dC, dI) (wC q cI cZ cB z9.2) (tyC cI cZ cB) (va_A (wC q cI cZ cB v) sz) t) (va_A (wC q cI cZ cB v) sz)) 1 6 (va_A (wC q cI cZ cB v) sz) := by
  refine tx_met (by decide) (Nat.le_of_ble_eq_true rfl) ?_
  intro p e s m below meth c hx hb hr hml hts hown hlocks hEx hC ls hl
  obtain ⟨⟨hsz, hP, hK, hD0, hN⟩, hX⟩ := hC
  subst hsz
  have hD := hD0.self (sz := s.heap.size)
  generalize hAe : va_A (wC q cI cZ cB v) s.heap.size = A at hD hX ⊢
  have hA : ∀ q9 : Nat, s.heap.size ≤ q9 → A q9 := fun q9 h => by rw [← hAe]; exact Or.inr h
  have hS : va_S A s.heap s.heap [] := va_S.rf
  have hown : s.vm.findClass "ServiceDesk" = some m.cls := hown
  have hl : lv_has ls 6 [(0, .ref (q 0)), (1, .int x), (2, .int y), (3, .int z), (4, .int a), (5, .int b)] := hl
  refine lv_iload_n hx hb z_d_verb_0 rfl (lv_at hl 1 rfl) ?_
  refine rdSi (As := [.int x]) (rest := []) ⟨hx, hb, hml, hown, hts⟩ (c_d_isKind l x) mw_151 mw_149 mw_150 mw_1 yd_d_isKind ⟨⟨rfl, rfl⟩, Nat.le_of_ble_eq_true rfl, Nat.le_of_ble_eq_true rfl⟩ ⟨Nat.le_of_ble_eq_true rfl, Nat.le_of_ble_eq_true rfl⟩ (pre_pure) rfl hl.1 rfl (Nat.le_of_ble_eq_true rfl) z_d_verb_1 (fun r_1 h_2 => ?_)
  rcases h_2 with ⟨rfl, h_2⟩ | ⟨rfl, h_2⟩
  · obtain ⟨k, hk, rfl⟩ := h_2
    refine lv_if_eq (tgt := 24) hx hb z_d_verb_4 (by decide) (fun c9 => absurd c9 (by decide)) (fun _ => ?_)
    refine lv_iload_n hx hb z_d_verb_7 rfl (lv_at hl 2 rfl) ?_
    refine rdSi (As := [.int y]) (rest := []) ⟨hx, hb, hml, hown, hts⟩ (c_d_isVerb l y) mw_293 mw_291 mw_292 mw_1 yd_d_isVerb ⟨⟨rfl, rfl⟩, Nat.le_of_ble_eq_true rfl, Nat.le_of_ble_eq_true rfl⟩ ⟨Nat.le_of_ble_eq_true rfl, Nat.le_of_ble_eq_true rfl⟩ (pre_pure) rfl hl.1 rfl (Nat.le_of_ble_eq_true rfl) z_d_verb_8 (fun r_3 h_4 => ?_)
    rcases h_4 with ⟨rfl, h_4⟩ | ⟨rfl, h_4⟩
    · obtain ⟨n, hn, rfl⟩ := h_4
      refine lv_if_eq (tgt := 24) hx hb z_d_verb_11 (by decide) (fun c9 => absurd c9 (by decide)) (fun _ => ?_)
      refine lv_iload_n hx hb z_d_verb_14 rfl (lv_at hl 3 rfl) ?_
      refine lv_if_lt (tgt := 24) hx hb z_d_verb_15 (by decide) (fun c_15 => ?_) (fun c_15 => ?_)
      · obtain ⟨sa_5, hsa_5⟩ := hX.2.2.2 _ sr_89
        exact vx_throwS (own := "ServiceDesk") (cls := "java/lang/IllegalArgumentException") (names := ["java/lang/RuntimeException", "java/lang/Exception"]) hx hb hl0 hown (by decide +kernel) (by decide +kernel) (hts _ (cw_in mw_152 rfl)) (hts _ (cw_in mw_10 rfl)) hsa_5 (xw_0 hts hX.2.2.1) (List.forall_mem_cons.mpr ⟨rfl, List.forall_mem_cons.mpr ⟨rfl, xo_0⟩⟩) hX.1 hX.2.1 hS (hl.1.trans hml.symm) z_d_verb_24 z_d_verb_27 z_d_verb_28 z_d_verb_30 z_d_verb_33 (fun x9 h9 => (hEx x9 h9).elim) (Nat.le_of_ble_eq_true rfl) (Nat.le_of_ble_eq_true rfl) (Nat.le_of_ble_eq_true rfl) (Nat.le_of_ble_eq_true rfl) hlocks (fun t hA0 hZ0 hK0 => ⟨(1, v), Or.inl ⟨rfl, rfl, fun h => k8_neg c_15 h.2.2⟩, ⟨List.mem_of_getElem? (i := 0) rfl, hP.kept (fun k9 q9 hq9 => hK0 q9.1 (hP k9 q9 hq9).lt), va_K.moved hA0 hK, hD⟩, Nat.le_trans hS.1 hZ0, fun q9 h1 h2 => (hK0 q9 (Nat.lt_of_lt_of_le h1 hS.1)).trans (hS.2.1 q9 h1 h2)⟩) hS.2.2 (Nat.le_of_ble_eq_true rfl) (Nat.le_of_ble_eq_true rfl)
      · refine lv_iload_n hx hb z_d_verb_18 rfl (lv_at hl 3 rfl) ?_
        refine lv_bipush (v := 8) hx hb z_d_verb_19 (by decide) ?_
        refine lv_icmp_lt (tgt := 34) hx hb z_d_verb_21 (by decide) (fun c_21 => ?_) (fun c_21 => ?_)
        · refine lv_iload hx hb z_d_verb_34 (lv_at hl 4 rfl) ?_
          refine lv_i2l hx hb z_d_verb_36 rfl ?_
          refine lv_ldc2 (v := 1000) hx hb hown (hts _ (cw_in mw_295 rfl)) z_d_verb_37 ?_
          refine rdSi (As := [.long a.toInt64, .long 1000]) (rest := []) ⟨hx, hb, hml, hown, hts⟩ (c_d_isWithin l a.toInt64 1000) mw_298 mw_296 mw_297 mw_1 yd_d_isWithin ⟨⟨rfl, rfl⟩, Nat.le_of_ble_eq_true rfl, Nat.le_of_ble_eq_true rfl⟩ ⟨Nat.le_of_ble_eq_true rfl, Nat.le_of_ble_eq_true rfl⟩ (pre_pure) rfl hl.1 rfl (Nat.le_of_ble_eq_true rfl) z_d_verb_40 (fun r_6 h_7 => ?_)
          rcases h_7 with ⟨rfl, h_7⟩ | ⟨rfl, h_7⟩
          · refine lv_if_eq (tgt := 58) hx hb z_d_verb_43 (by decide) (fun c9 => absurd c9 (by decide)) (fun _ => ?_)
            refine lv_iload hx hb z_d_verb_46 (lv_at hl 5 rfl) ?_
            refine lv_i2l hx hb z_d_verb_48 rfl ?_
            refine lv_ldc2 (v := 1000) hx hb hown (hts _ (cw_in mw_295 rfl)) z_d_verb_49 ?_
            refine rdSi (As := [.long b.toInt64, .long 1000]) (rest := []) ⟨hx, hb, hml, hown, hts⟩ (c_d_isWithin l b.toInt64 1000) mw_298 mw_296 mw_297 mw_1 yd_d_isWithin ⟨⟨rfl, rfl⟩, Nat.le_of_ble_eq_true rfl, Nat.le_of_ble_eq_true rfl⟩ ⟨Nat.le_of_ble_eq_true rfl, Nat.le_of_ble_eq_true rfl⟩ (pre_pure) rfl hl.1 rfl (Nat.le_of_ble_eq_true rfl) z_d_verb_52 (fun r_8 h_9 => ?_)
            rcases h_9 with ⟨rfl, h_9⟩ | ⟨rfl, h_9⟩
            · refine lv_if_ne (tgt := 68) hx hb z_d_verb_55 (by decide) (fun _ => ?_) (fun c9 => absurd c9 (by decide))
              refine lv_aload_n hx hb z_d_verb_68 rfl (lv_at hl 0 rfl) ?_
              refine va_get (D := (dC, dI)) (ci := 3) (v := .ref (q 2)) (C := R3) (T := T3) (N := 6) hx hb hts (cw_sub iC3) hown hK hP 0 rfl rfl 1 (by decide) (hts _ (cw_in mw_93 rfl)) (fun _ h9 => h9) rfl z_d_verb_69 ?_
              refine lv_iload_n hx hb z_d_verb_72 rfl (lv_at hl 1 rfl) ?_
              refine lv_bipush (v := 8) hx hb z_d_verb_73 (by decide) ?_
              refine lv_imul hx hb z_d_verb_75 ?_
              refine lv_iload_n hx hb z_d_verb_76 rfl (lv_at hl 2 rfl) ?_
              refine lv_iadd hx hb z_d_verb_77 ?_
              rw [mul8_nI]
              refine lv_iload_n hx hb z_d_verb_78 rfl (lv_at hl 3 rfl) ?_
              refine lv_iload hx hb z_d_verb_79 (lv_at hl 4 rfl) ?_
              refine lv_iload hx hb z_d_verb_81 (lv_at hl 5 rfl) ?_
              refine wrVNv (As := [.int (nI (k * 8 + n)), .int z, .int a, .int b]) (rest := []) (wf := fun u => wC q cI cZ cB u) ⟨hx, hb, hml, hown, hts⟩ (c_w_set l dC dI q cI cZ cB v s.heap.size (k * 8 + n) (by omega) z a b) mw_318 (hN _ nw_19) mw_317 mp_10 mw_2 yd_w_set ⟨⟨rfl, rfl⟩, Nat.le_of_ble_eq_true rfl, Nat.le_of_ble_eq_true rfl⟩ ⟨Nat.le_of_ble_eq_true rfl, Nat.le_of_ble_eq_true rfl⟩ (WrC.preV hP hK hD hN (ci := 2) (q0 := 2) rfl rfl) (wr_free hD hS hA) hS rfl hl.1 rfl (Nat.le_of_ble_eq_true rfl) z_d_verb_83 (fun u_11 H locs h_12 hP hD hS hz9 => ?_)
              obtain rfl := h_12
              refine W.widen (k := 1) (n := 6) (Nat.le_of_ble_eq_true rfl) (Nat.le_of_ble_eq_true rfl) ?_
              exact vx_ret (W.vret hx hb hr (fun t ht hW => ⟨⟨setV v (k * 8 + n) z a b, rfl, Or.inr (Or.inr ⟨rfl, ⟨wi3_iff.mp h_7, wi3_iff.mp h_9⟩, k, n, hk, hn, rfl, rfl, k8_lt c_15 c_21, rfl⟩), by rw [ht]; exact hP, va_K.moved hW.alike hK, hD⟩, hS.F ht⟩) hS.2.2 z_d_verb_86)
            · refine lv_if_ne (tgt := 68) hx hb z_d_verb_55 (by decide) (fun c9 => absurd rfl c9) (fun _ => ?_)
              obtain ⟨sa_13, hsa_13⟩ := hX.2.2.2 _ sr_99
              exact vx_throwS (own := "ServiceDesk") (cls := "java/lang/IndexOutOfBoundsException") (names := ["java/lang/RuntimeException", "java/lang/Exception"]) hx hb hl0 hown (by decide +kernel) (by decide +kernel) (hts _ (cw_in mw_299 rfl)) (hts _ (cw_in mw_13 rfl)) hsa_13 (xw_1 hts hX.2.2.1) (List.forall_mem_cons.mpr ⟨rfl, List.forall_mem_cons.mpr ⟨rfl, xo_1⟩⟩) hX.1 hX.2.1 hS (hl.1.trans hml.symm) z_d_verb_58 z_d_verb_61 z_d_verb_62 z_d_verb_64 z_d_verb_67 (fun x9 h9 => (hEx x9 h9).elim) (Nat.le_of_ble_eq_true rfl) (Nat.le_of_ble_eq_true rfl) (Nat.le_of_ble_eq_true rfl) (Nat.le_of_ble_eq_true rfl) hlocks (fun t hA0 hZ0 hK0 => ⟨(2, v), Or.inr (Or.inl ⟨rfl, rfl, ⟨⟨k, hk, rfl⟩, ⟨n, hn, rfl⟩, k8_lt c_15 c_21⟩, fun h => h_9 (wi3_iff.mpr h.2)⟩), ⟨List.mem_of_getElem? (i := 1) rfl, hP.kept (fun k9 q9 hq9 => hK0 q9.1 (hP k9 q9 hq9).lt), va_K.moved hA0 hK, hD⟩, Nat.le_trans hS.1 hZ0, fun q9 h1 h2 => (hK0 q9 (Nat.lt_of_lt_of_le h1 hS.1)).trans (hS.2.1 q9 h1 h2)⟩) hS.2.2 (Nat.le_of_ble_eq_true rfl) (Nat.le_of_ble_eq_true rfl)
          · refine lv_if_eq (tgt := 58) hx hb z_d_verb_43 (by decide) (fun _ => ?_) (fun c9 => absurd (by decide) c9)
            obtain ⟨sa_14, hsa_14⟩ := hX.2.2.2 _ sr_99
            exact vx_throwS (own := "ServiceDesk") (cls := "java/lang/IndexOutOfBoundsException") (names := ["java/lang/RuntimeException", "java/lang/Exception"]) hx hb hl0 hown (by decide +kernel) (by decide +kernel) (hts _ (cw_in mw_299 rfl)) (hts _ (cw_in mw_13 rfl)) hsa_14 (xw_1 hts hX.2.2.1) (List.forall_mem_cons.mpr ⟨rfl, List.forall_mem_cons.mpr ⟨rfl, xo_1⟩⟩) hX.1 hX.2.1 hS (hl.1.trans hml.symm) z_d_verb_58 z_d_verb_61 z_d_verb_62 z_d_verb_64 z_d_verb_67 (fun x9 h9 => (hEx x9 h9).elim) (Nat.le_of_ble_eq_true rfl) (Nat.le_of_ble_eq_true rfl) (Nat.le_of_ble_eq_true rfl) (Nat.le_of_ble_eq_true rfl) hlocks (fun t hA0 hZ0 hK0 => ⟨(2, v), Or.inr (Or.inl ⟨rfl, rfl, ⟨⟨k, hk, rfl⟩, ⟨n, hn, rfl⟩, k8_lt c_15 c_21⟩, fun h => h_7 (wi3_iff.mpr h.1)⟩), ⟨List.mem_of_getElem? (i := 1) rfl, hP.kept (fun k9 q9 hq9 => hK0 q9.1 (hP k9 q9 hq9).lt), va_K.moved hA0 hK, hD⟩, Nat.le_trans hS.1 hZ0, fun q9 h1 h2 => (hK0 q9 (Nat.lt_of_lt_of_le h1 hS.1)).trans (hS.2.1 q9 h1 h2)⟩) hS.2.2 (Nat.le_of_ble_eq_true rfl) (Nat.le_of_ble_eq_true rfl)
        · obtain ⟨sa_15, hsa_15⟩ := hX.2.2.2 _ sr_89
          exact vx_throwS (own := "ServiceDesk") (cls := "java/lang/IllegalArgumentException") (names := ["java/lang/RuntimeException", "java/lang/Exception"]) hx hb hl0 hown (by decide +kernel) (by decide +kernel) (hts _ (cw_in mw_152 rfl)) (hts _ (cw_in mw_10 rfl)) hsa_15 (xw_0 hts hX.2.2.1) (List.forall_mem_cons.mpr ⟨rfl, List.forall_mem_cons.mpr ⟨rfl, xo_0⟩⟩) hX.1 hX.2.1 hS (hl.1.trans hml.symm) z_d_verb_24 z_d_verb_27 z_d_verb_28 z_d_verb_30 z_d_verb_33 (fun x9 h9 => (hEx x9 h9).elim) (Nat.le_of_ble_eq_true rfl) (Nat.le_of_ble_eq_true rfl) (Nat.le_of_ble_eq_true rfl) (Nat.le_of_ble_eq_true rfl) hlocks (fun t hA0 hZ0 hK0 => ⟨(1, v), Or.inl ⟨rfl, rfl, fun h => k8_nlt c_21 h.2.2⟩, ⟨List.mem_of_getElem? (i := 0) rfl, hP.kept (fun k9 q9 hq9 => hK0 q9.1 (hP k9 q9 hq9).lt), va_K.moved hA0 hK, hD⟩, Nat.le_trans hS.1 hZ0, fun q9 h1 h2 => (hK0 q9 (Nat.lt_of_lt_of_le h1 hS.1)).trans (hS.2.1 q9 h1 h2)⟩) hS.2.2 (Nat.le_of_ble_eq_true rfl) (Nat.le_of_ble_eq_true rfl)
    · refine lv_if_eq (tgt := 24) hx hb z_d_verb_11 (by decide) (fun _ => ?_) (fun c9 => absurd (by decide) c9)
      obtain ⟨sa_16, hsa_16⟩ := hX.2.2.2 _ sr_89
      exact vx_throwS (own := "ServiceDesk") (cls := "java/lang/IllegalArgumentException") (names := ["java/lang/RuntimeException", "java/lang/Exception"]) hx hb hl0 hown (by decide +kernel) (by decide +kernel) (hts _ (cw_in mw_152 rfl)) (hts _ (cw_in mw_10 rfl)) hsa_16 (xw_0 hts hX.2.2.1) (List.forall_mem_cons.mpr ⟨rfl, List.forall_mem_cons.mpr ⟨rfl, xo_0⟩⟩) hX.1 hX.2.1 hS (hl.1.trans hml.symm) z_d_verb_24 z_d_verb_27 z_d_verb_28 z_d_verb_30 z_d_verb_33 (fun x9 h9 => (hEx x9 h9).elim) (Nat.le_of_ble_eq_true rfl) (Nat.le_of_ble_eq_true rfl) (Nat.le_of_ble_eq_true rfl) (Nat.le_of_ble_eq_true rfl) hlocks (fun t hA0 hZ0 hK0 => ⟨(1, v), Or.inl ⟨rfl, rfl, fun h => h_4 h.2.1⟩, ⟨List.mem_of_getElem? (i := 0) rfl, hP.kept (fun k9 q9 hq9 => hK0 q9.1 (hP k9 q9 hq9).lt), va_K.moved hA0 hK, hD⟩, Nat.le_trans hS.1 hZ0, fun q9 h1 h2 => (hK0 q9 (Nat.lt_of_lt_of_le h1 hS.1)).trans (hS.2.1 q9 h1 h2)⟩) hS.2.2 (Nat.le_of_ble_eq_true rfl) (Nat.le_of_ble_eq_true rfl)
  · refine lv_if_eq (tgt := 24) hx hb z_d_verb_4 (by decide) (fun _ => ?_) (fun c9 => absurd (by decide) c9)
    obtain ⟨sa_17, hsa_17⟩ := hX.2.2.2 _ sr_89
    exact vx_throwS (own := "ServiceDesk") (cls := "java/lang/IllegalArgumentException") (names := ["java/lang/RuntimeException", "java/lang/Exception"]) hx hb hl0 hown (by decide +kernel) (by decide +kernel) (hts _ (cw_in mw_152 rfl)) (hts _ (cw_in mw_10 rfl)) hsa_17 (xw_0 hts hX.2.2.1) (List.forall_mem_cons.mpr ⟨rfl, List.forall_mem_cons.mpr ⟨rfl, xo_0⟩⟩) hX.1 hX.2.1 hS (hl.1.trans hml.symm) z_d_verb_24 z_d_verb_27 z_d_verb_28 z_d_verb_30 z_d_verb_33 (fun x9 h9 => (hEx x9 h9).elim) (Nat.le_of_ble_eq_true rfl) (Nat.le_of_ble_eq_true rfl) (Nat.le_of_ble_eq_true rfl) (Nat.le_of_ble_eq_true rfl) hlocks (fun t hA0 hZ0 hK0 => ⟨(1, v), Or.inl ⟨rfl, rfl, fun h => h_2 h.1⟩, ⟨List.mem_of_getElem? (i := 0) rfl, hP.kept (fun k9 q9 hq9 => hK0 q9.1 (hP k9 q9 hq9).lt), va_K.moved hA0 hK, hD⟩, Nat.le_trans hS.1 hZ0, fun q9 h1 h2 => (hK0 q9 (Nat.lt_of_lt_of_le h1 hS.1)).trans (hS.2.1 q9 h1 h2)⟩) hS.2.2 (Nat.le_of_ble_eq_true rfl) (Nat.le_of_ble_eq_true rfl)

set_option maxHeartbeats 4000000 in
set_option maxRecDepth 100000 in
theorem c_d_simulate (l : Launch) (dC : Nat → ClassId) (dI : Nat → Nat → Nat) (q : Nat → Nat) (cI cZ cB : ClassId) (v : St) (sz : Nat) (hl0 : l.stackTraces = false) (hi : Inv v) (x y z a : Int32) : vx_Met l y_d_simulate (Cond.code y_d_simulate b_d_simulate 5 (some .long) :: CW) { frames := 7, cells := 1, slots := 6, locals := 129 } (va_Pc [.ref (q 0), .int x, .int y, .int z, .int a] (TxC (dC, dI) sz (wC q cI cZ cB v) (tyC cI cZ cB))) (va_Ql (fun (r : Int64) (u : St) => spSim v x y z a 0 r u) (fun u => WrB (dC, dI) (wC q cI cZ cB u) (tyC cI cZ cB) (va_A (wC q cI cZ cB v) sz)) (va_A (wC q cI cZ cB v) sz)) (vx_X (fun z9 : Nat × St => spSim v x y z a z9.1 0 z9.2) (fun E z9 t => (E, z9.1) ∈ ([("java/lang/IllegalArgumentException", 1), ("java/lang/IndexOutOfBoundsException", 2), ("java/lang/IllegalStateException", 3)] : List (String × Nat)) ∧ WrB (dC, dI) (wC q cI cZ cB z9.2) (tyC cI cZ cB) (va_A (wC q cI cZ cB v) sz) t) (va_A (wC q cI cZ cB v) sz)) 1 6 (va_A (wC q cI cZ cB v) sz) := by
  refine tx_met (by decide) (Nat.le_of_ble_eq_true rfl) ?_
  intro p e s m below meth c hx hb hr hml hts hown hlocks hEx hC ls hl
  obtain ⟨⟨hsz, hP, hK, hD0, hN⟩, hX⟩ := hC
  subst hsz
  have hD := hD0.self (sz := s.heap.size)
  generalize hAe : va_A (wC q cI cZ cB v) s.heap.size = A at hD hX ⊢
  have hA : ∀ q9 : Nat, s.heap.size ≤ q9 → A q9 := fun q9 h => by rw [← hAe]; exact Or.inr h
  have hS : va_S A s.heap s.heap [] := va_S.rf
  have hown : s.vm.findClass "ServiceDesk" = some m.cls := hown
  have hl : lv_has ls 5 [(0, .ref (q 0)), (1, .int x), (2, .int y), (3, .int z), (4, .int a)] := hl
  refine lv_aload_n hx hb z_d_simulate_0 rfl (lv_at hl 0 rfl) ?_
  refine lv_iload_n hx hb z_d_simulate_1 rfl (lv_at hl 1 rfl) ?_
  refine lv_iload_n hx hb z_d_simulate_2 rfl (lv_at hl 2 rfl) ?_
  refine lv_iload_n hx hb z_d_simulate_3 rfl (lv_at hl 3 rfl) ?_
  refine lv_iload hx hb z_d_simulate_4 (lv_at hl 4 rfl) ?_
  refine rdVi (As := [.int x, .int y, .int z, .int a]) (rest := []) ⟨hx, hb, hml, hown, hts⟩ (c_d_refusalOf l dC dI q cI cZ cB v hi x y z a) mw_329 mw_326 mw_328 mp_11 mw_1 rfl yd_d_refusalOf ⟨⟨rfl, rfl⟩, Nat.le_of_ble_eq_true rfl, Nat.le_of_ble_eq_true rfl⟩ ⟨Nat.le_of_ble_eq_true rfl, Nat.le_of_ble_eq_true rfl⟩ (RdC.preV hP hK hN (ci := 3) (q0 := 0) rfl rfl) rfl hl.1 rfl (Nat.le_of_ble_eq_true rfl) z_d_simulate_6 (fun r_1 h_2 => ?_)
  rcases h_2 with ⟨rfl, hn9⟩ | ⟨rfl, ho9, hn9⟩ | ⟨k, j, n, hk, hj, hn, rfl, rfl, rfl, hm9, ha9, ⟨rfl, hc9⟩ | ⟨rfl, hc9⟩⟩
  · refine txS_rf (x := 13) (rest := []) (D := (dC, dI)) (ws := wC q cI cZ cB v) ⟨hx, hb, hml, hown, hts⟩ (c_d_refuse l s.heap.size hl0 13) mw_337 mw_335 mw_336 mw_1 yd_d_refuse ⟨⟨rfl, rfl⟩, Nat.le_of_ble_eq_true rfl, Nat.le_of_ble_eq_true rfl⟩ ⟨Nat.le_of_ble_eq_true rfl, Nat.le_of_ble_eq_true rfl⟩ hP hS hA hX hl.1 rfl (Nat.le_of_ble_eq_true rfl) z_d_simulate_9 (fun E ce q9 H locs hE hP hS hce hcv hcl => ?_) (fun H locs h9 => absurd rfl h9.1)
    obtain rfl : E = "java/lang/IllegalArgumentException" := by rcases hE with ⟨h, e9⟩ | ⟨h, e9⟩ | ⟨h, e9⟩ <;> first | exact e9 | exact absurd h (by decide)
    exact vx_out (fun x9 h9 => (hEx x9 h9).elim) hlocks hce hcv hcl (fun t hT0 hA0 => ⟨(1, v), ⟨rfl, Or.inl ⟨rfl, hn9⟩⟩, ⟨List.mem_of_getElem? (i := 0) rfl, by rw [hT0]; exact hP, va_K.moved hA0 hK, hD⟩, hS.F hT0⟩) hS.2.2 (Nat.le_of_ble_eq_true rfl) (Nat.le_of_ble_eq_true rfl)
  · refine txS_rf (x := 14) (rest := []) (D := (dC, dI)) (ws := wC q cI cZ cB v) ⟨hx, hb, hml, hown, hts⟩ (c_d_refuse l s.heap.size hl0 14) mw_337 mw_335 mw_336 mw_1 yd_d_refuse ⟨⟨rfl, rfl⟩, Nat.le_of_ble_eq_true rfl, Nat.le_of_ble_eq_true rfl⟩ ⟨Nat.le_of_ble_eq_true rfl, Nat.le_of_ble_eq_true rfl⟩ hP hS hA hX hl.1 rfl (Nat.le_of_ble_eq_true rfl) z_d_simulate_9 (fun E ce q9 H locs hE hP hS hce hcv hcl => ?_) (fun H locs h9 => absurd rfl h9.2.1)
    obtain rfl : E = "java/lang/IndexOutOfBoundsException" := by rcases hE with ⟨h, e9⟩ | ⟨h, e9⟩ | ⟨h, e9⟩ <;> first | exact e9 | exact absurd h (by decide)
    exact vx_out (fun x9 h9 => (hEx x9 h9).elim) hlocks hce hcv hcl (fun t hT0 hA0 => ⟨(2, v), ⟨rfl, Or.inr (Or.inl ⟨rfl, ho9, hn9⟩)⟩, ⟨List.mem_of_getElem? (i := 1) rfl, by rw [hT0]; exact hP, va_K.moved hA0 hK, hD⟩, hS.F hT0⟩) hS.2.2 (Nat.le_of_ble_eq_true rfl) (Nat.le_of_ble_eq_true rfl)
  · refine txS_rf (x := 15) (rest := []) (D := (dC, dI)) (ws := wC q cI cZ cB v) ⟨hx, hb, hml, hown, hts⟩ (c_d_refuse l s.heap.size hl0 15) mw_337 mw_335 mw_336 mw_1 yd_d_refuse ⟨⟨rfl, rfl⟩, Nat.le_of_ble_eq_true rfl, Nat.le_of_ble_eq_true rfl⟩ ⟨Nat.le_of_ble_eq_true rfl, Nat.le_of_ble_eq_true rfl⟩ hP hS hA hX hl.1 rfl (Nat.le_of_ble_eq_true rfl) z_d_simulate_9 (fun E ce q9 H locs hE hP hS hce hcv hcl => ?_) (fun H locs h9 => absurd rfl h9.2.2)
    obtain rfl : E = "java/lang/IllegalStateException" := by rcases hE with ⟨h, e9⟩ | ⟨h, e9⟩ | ⟨h, e9⟩ <;> first | exact e9 | exact absurd h (by decide)
    exact vx_out (fun x9 h9 => (hEx x9 h9).elim) hlocks hce hcv hcl (fun t hT0 hA0 => ⟨(3, v), ⟨rfl, Or.inr (Or.inr ⟨k, j, n, hk, hj, hn, rfl, rfl, rfl, hm9, ha9, Or.inl ⟨rfl, hc9⟩⟩)⟩, ⟨List.mem_of_getElem? (i := 2) rfl, by rw [hT0]; exact hP, va_K.moved hA0 hK, hD⟩, hS.F hT0⟩) hS.2.2 (Nat.le_of_ble_eq_true rfl) (Nat.le_of_ble_eq_true rfl)
  · refine txS_rf (x := 0) (rest := []) (D := (dC, dI)) (ws := wC q cI cZ cB v) ⟨hx, hb, hml, hown, hts⟩ (c_d_refuse l s.heap.size hl0 0) mw_337 mw_335 mw_336 mw_1 yd_d_refuse ⟨⟨rfl, rfl⟩, Nat.le_of_ble_eq_true rfl, Nat.le_of_ble_eq_true rfl⟩ ⟨Nat.le_of_ble_eq_true rfl, Nat.le_of_ble_eq_true rfl⟩ hP hS hA hX hl.1 rfl (Nat.le_of_ble_eq_true rfl) z_d_simulate_9 (fun E ce q9 H locs hE => absurd hE (by rintro (⟨h, -⟩ | ⟨h, -⟩ | ⟨h, -⟩) <;> revert h <;> decide)) (fun H locs _ hP hS => ?_)
    refine lv_aload_n hx hb z_d_simulate_12 rfl (lv_at hl 0 rfl) ?_
    refine lv_iload_n hx hb z_d_simulate_13 rfl (lv_at hl 1 rfl) ?_
    refine lv_iload_n hx hb z_d_simulate_14 rfl (lv_at hl 2 rfl) ?_
    refine lv_iload_n hx hb z_d_simulate_15 rfl (lv_at hl 3 rfl) ?_
    refine lv_iload hx hb z_d_simulate_16 (lv_at hl 4 rfl) ?_
    refine rdVl (As := [.int (nI k), .int (nI j), .int (nI n), .int a]) (rest := []) ⟨hx, hb, hml, hown, hts⟩ (c_d_answerTo l dC dI q cI cZ cB v hi k j n hk hj hn a) mw_344 mw_341 mw_343 mp_13 mw_1 rfl yd_d_answerTo ⟨⟨rfl, rfl⟩, Nat.le_of_ble_eq_true rfl, Nat.le_of_ble_eq_true rfl⟩ ⟨Nat.le_of_ble_eq_true rfl, Nat.le_of_ble_eq_true rfl⟩ (RdC.preV hP hK hN (ci := 3) (q0 := 0) rfl rfl) rfl hl.1 rfl (Nat.le_of_ble_eq_true rfl) z_d_simulate_18 (fun r_3 h_4 => ?_)
    subst h_4
    exact vx_ret (W.lret (v := anF v k j n a) hx hb hr (fun t ht hW => ⟨⟨anF v k j n a, v, rfl, ⟨rfl, Or.inr (Or.inr ⟨k, j, n, hk, hj, hn, rfl, rfl, rfl, hm9, ha9, Or.inr ⟨rfl, hc9, rfl⟩⟩)⟩, by rw [ht]; exact hP, va_K.moved hW.alike hK, hD⟩, hS.F ht⟩) hS.2.2 z_d_simulate_21)

set_option maxHeartbeats 4000000 in
set_option maxRecDepth 100000 in
theorem c_d_call (l : Launch) (dC : Nat → ClassId) (dI : Nat → Nat → Nat) (q : Nat → Nat) (cI cZ cB : ClassId) (v : St) (sz : Nat) (hl0 : l.stackTraces = false) (hi : Inv v) (x y z a : Int32) : vx_Met l y_d_call (Cond.code y_d_call b_d_call 8 (some .long) :: CW) { frames := 7, cells := 1, slots := 6, locals := 129 } (va_Pc [.ref (q 0), .int x, .int y, .int z, .int a] (TxC (dC, dI) sz (wC q cI cZ cB v) (tyC cI cZ cB))) (va_Ql (fun (r : Int64) (u : St) => spCall v x y z a 0 r u) (fun u => WrB (dC, dI) (wC q cI cZ cB u) (tyC cI cZ cB) (va_A (wC q cI cZ cB v) sz)) (va_A (wC q cI cZ cB v) sz)) (vx_X (fun z9 : Nat × St => spCall v x y z a z9.1 0 z9.2) (fun E z9 t => (E, z9.1) ∈ ([("java/lang/IllegalArgumentException", 1), ("java/lang/IndexOutOfBoundsException", 2), ("java/lang/IllegalStateException", 3)] : List (String × Nat)) ∧ WrB (dC, dI) (wC q cI cZ cB z9.2) (tyC cI cZ cB) (va_A (wC q cI cZ cB v) sz) t) (va_A (wC q cI cZ cB v) sz)) 1 6 (va_A (wC q cI cZ cB v) sz) := by
  refine tx_met (by decide) (Nat.le_of_ble_eq_true rfl) ?_
  intro p e s m below meth c hx hb hr hml hts hown hlocks hEx hC ls hl
  obtain ⟨⟨hsz, hP, hK, hD0, hN⟩, hX⟩ := hC
  subst hsz
  have hD := hD0.self (sz := s.heap.size)
  generalize hAe : va_A (wC q cI cZ cB v) s.heap.size = A at hD hX ⊢
  have hA : ∀ q9 : Nat, s.heap.size ≤ q9 → A q9 := fun q9 h => by rw [← hAe]; exact Or.inr h
  have hS : va_S A s.heap s.heap [] := va_S.rf
  have hown : s.vm.findClass "ServiceDesk" = some m.cls := hown
  have hl : lv_has ls 8 [(0, .ref (q 0)), (1, .int x), (2, .int y), (3, .int z), (4, .int a)] := hl
  refine lv_aload_n hx hb z_d_call_0 rfl (lv_at hl 0 rfl) ?_
  refine lv_dup hx hb z_d_call_1 rfl ?_
  refine va_get (D := (dC, dI)) (ci := 3) (v := .int (ztn v)) (C := R3) (T := T3) (N := 6) hx hb hts (cw_sub iC3) hown hK hP 0 rfl rfl 5 (by decide) (hts _ (cw_in mw_97 rfl)) (fun _ h9 => h9) rfl z_d_call_2 ?_
  refine lv_iconst (v := 1) hx hb z_d_call_5 (by decide) ?_
  refine lv_iadd hx hb z_d_call_6 ?_
  refine va_put (D := (dC, dI)) (ci := 3) (v := .int ((ztn v) + 1)) (ty := .int) (C := R3) (T := T3) (N := 6) hx hb hts (cw_sub iC3) ty3 tyok3 nm3 hown hK hP hD hS 0 rfl rfl 5 (by decide) (hts _ (cw_in mw_97 rfl)) (fun _ h9 => h9) rfl (by decide +kernel) rfl rfl (Nat.le_of_ble_eq_true rfl) z_d_call_7 (fun H locs hP hD hS => ?_)
  have hP : va_P (dC, dI) vwCl (wC q cI cZ cB (utn v ((ztn v) + 1))) H := hP
  have hD : va_D A (wC q cI cZ cB (utn v ((ztn v) + 1))) := hD
  have hi : Inv (trn v) := hi
  refine lv_aload_n hx hb z_d_call_10 rfl (lv_at hl 0 rfl) ?_
  refine lv_iload_n hx hb z_d_call_11 rfl (lv_at hl 1 rfl) ?_
  refine lv_iload_n hx hb z_d_call_12 rfl (lv_at hl 2 rfl) ?_
  refine lv_iload_n hx hb z_d_call_13 rfl (lv_at hl 3 rfl) ?_
  refine lv_iload hx hb z_d_call_14 (lv_at hl 4 rfl) ?_
  refine rdVi (As := [.int x, .int y, .int z, .int a]) (rest := []) ⟨hx, hb, hml, hown, hts⟩ (c_d_refusalOf l dC dI q cI cZ cB (trn v) hi x y z a) mw_329 mw_326 mw_328 mp_11 mw_1 rfl yd_d_refusalOf ⟨⟨rfl, rfl⟩, Nat.le_of_ble_eq_true rfl, Nat.le_of_ble_eq_true rfl⟩ ⟨Nat.le_of_ble_eq_true rfl, Nat.le_of_ble_eq_true rfl⟩ (RdC.preV hP hK hN (ci := 3) (q0 := 0) rfl rfl) rfl hl.1 rfl (Nat.le_of_ble_eq_true rfl) z_d_call_16 (fun r_1 h_2 => ?_)
  rcases h_2 with ⟨rfl, hn9⟩ | ⟨rfl, ho9, hn9⟩ | ⟨k, j, n, hk, hj, hn, rfl, rfl, rfl, hm9, ha9, ⟨rfl, hc9⟩ | ⟨rfl, hc9⟩⟩
  · refine lv_istore (lv' := [(5, .int 13), (0, .ref (q 0)), (1, .int x), (2, .int y), (3, .int z), (4, .int a)]) hx hb z_d_call_19 hl (by decide) rfl (fun ls hl => ?_)
    refine lv_iload hx hb z_d_call_21 (lv_at hl 0 rfl) ?_
    refine lv_if_eq (tgt := 42) hx hb z_d_call_23 (by decide) (fun c9 => absurd c9 (by decide)) (fun _ => ?_)
    refine lv_aload_n hx hb z_d_call_26 rfl (lv_at hl 1 rfl) ?_
    refine va_get (D := (dC, dI)) (ci := 3) (v := .ref (q 13)) (C := R3) (T := T3) (N := 6) hx hb hts (cw_sub iC3) hown hK hP 0 rfl rfl 3 (by decide) (hts _ (cw_in mw_95 rfl)) (fun _ h9 => h9) rfl z_d_call_27 ?_
    refine lv_aload_n hx hb z_d_call_30 rfl (lv_at hl 1 rfl) ?_
    refine va_get (D := (dC, dI)) (ci := 3) (v := .int (ztn v + 1)) (C := R3) (T := T3) (N := 6) hx hb hts (cw_sub iC3) hown hK hP 0 rfl rfl 5 (by decide) (hts _ (cw_in mw_97 rfl)) (fun _ h9 => h9) rfl z_d_call_31 ?_
    refine lv_iload_n hx hb z_d_call_34 rfl (lv_at hl 2 rfl) ?_
    refine lv_iload_n hx hb z_d_call_35 rfl (lv_at hl 3 rfl) ?_
    refine lv_iload_n hx hb z_d_call_36 rfl (lv_at hl 4 rfl) ?_
    refine lv_iload hx hb z_d_call_37 (lv_at hl 0 rfl) ?_
    refine wrVNv (As := [.int (ztn v + 1), .int x, .int y, .int z, .int 13]) (rest := []) (wf := fun u => wC q cI cZ cB u) ⟨hx, hb, hml, hown, hts⟩ (c_r_tell l dC dI q cI cZ cB (trn v) H.size hi (ztn v + 1) x y z 13) mw_334 (hN _ nw_20) mw_333 mp_12 mw_4 yd_r_tell ⟨⟨rfl, rfl⟩, Nat.le_of_ble_eq_true rfl, Nat.le_of_ble_eq_true rfl⟩ ⟨Nat.le_of_ble_eq_true rfl, Nat.le_of_ble_eq_true rfl⟩ (WrC.preV hP hK hD hN (ci := 0) (q0 := 13) rfl rfl) (wr_free hD hS hA) hS rfl hl.1 rfl (Nat.le_of_ble_eq_true rfl) z_d_call_39 (fun u_4 H locs h_5 hP hD hS hz9 => ?_)
    obtain rfl := h_5
    refine lv_iload hx hb z_d_call_42 (lv_at hl 0 rfl) ?_
    refine txS_rf (x := 13) (rest := []) (D := (dC, dI)) (ws := wC q cI cZ cB (telS (trn v) (ztn v + 1) x y z 13)) ⟨hx, hb, hml, hown, hts⟩ (c_d_refuse l H.size hl0 13) mw_337 mw_335 mw_336 mw_1 yd_d_refuse ⟨⟨rfl, rfl⟩, Nat.le_of_ble_eq_true rfl, Nat.le_of_ble_eq_true rfl⟩ ⟨Nat.le_of_ble_eq_true rfl, Nat.le_of_ble_eq_true rfl⟩ hP hS hA hX hl.1 rfl (Nat.le_of_ble_eq_true rfl) z_d_call_44 (fun E ce q9 H locs hE hP hS hce hcv hcl => ?_) (fun H locs h9 => absurd rfl h9.1)
    obtain rfl : E = "java/lang/IllegalArgumentException" := by rcases hE with ⟨h, e9⟩ | ⟨h, e9⟩ | ⟨h, e9⟩ <;> first | exact e9 | exact absurd h (by decide)
    exact vx_out (fun x9 h9 => (hEx x9 h9).elim) hlocks hce hcv hcl (fun t hT0 hA0 => ⟨(1, telS (trn v) (ztn v + 1) x y z 13), Or.inl ⟨rfl, hn9, rfl⟩, ⟨List.mem_of_getElem? (i := 0) rfl, by rw [hT0]; exact hP, va_K.moved hA0 hK, hD⟩, hS.F hT0⟩) hS.2.2 (Nat.le_of_ble_eq_true rfl) (Nat.le_of_ble_eq_true rfl)
  · refine lv_istore (lv' := [(5, .int 14), (0, .ref (q 0)), (1, .int x), (2, .int y), (3, .int z), (4, .int a)]) hx hb z_d_call_19 hl (by decide) rfl (fun ls hl => ?_)
    refine lv_iload hx hb z_d_call_21 (lv_at hl 0 rfl) ?_
    refine lv_if_eq (tgt := 42) hx hb z_d_call_23 (by decide) (fun c9 => absurd c9 (by decide)) (fun _ => ?_)
    refine lv_aload_n hx hb z_d_call_26 rfl (lv_at hl 1 rfl) ?_
    refine va_get (D := (dC, dI)) (ci := 3) (v := .ref (q 13)) (C := R3) (T := T3) (N := 6) hx hb hts (cw_sub iC3) hown hK hP 0 rfl rfl 3 (by decide) (hts _ (cw_in mw_95 rfl)) (fun _ h9 => h9) rfl z_d_call_27 ?_
    refine lv_aload_n hx hb z_d_call_30 rfl (lv_at hl 1 rfl) ?_
    refine va_get (D := (dC, dI)) (ci := 3) (v := .int (ztn v + 1)) (C := R3) (T := T3) (N := 6) hx hb hts (cw_sub iC3) hown hK hP 0 rfl rfl 5 (by decide) (hts _ (cw_in mw_97 rfl)) (fun _ h9 => h9) rfl z_d_call_31 ?_
    refine lv_iload_n hx hb z_d_call_34 rfl (lv_at hl 2 rfl) ?_
    refine lv_iload_n hx hb z_d_call_35 rfl (lv_at hl 3 rfl) ?_
    refine lv_iload_n hx hb z_d_call_36 rfl (lv_at hl 4 rfl) ?_
    refine lv_iload hx hb z_d_call_37 (lv_at hl 0 rfl) ?_
    refine wrVNv (As := [.int (ztn v + 1), .int x, .int y, .int z, .int 14]) (rest := []) (wf := fun u => wC q cI cZ cB u) ⟨hx, hb, hml, hown, hts⟩ (c_r_tell l dC dI q cI cZ cB (trn v) H.size hi (ztn v + 1) x y z 14) mw_334 (hN _ nw_20) mw_333 mp_12 mw_4 yd_r_tell ⟨⟨rfl, rfl⟩, Nat.le_of_ble_eq_true rfl, Nat.le_of_ble_eq_true rfl⟩ ⟨Nat.le_of_ble_eq_true rfl, Nat.le_of_ble_eq_true rfl⟩ (WrC.preV hP hK hD hN (ci := 0) (q0 := 13) rfl rfl) (wr_free hD hS hA) hS rfl hl.1 rfl (Nat.le_of_ble_eq_true rfl) z_d_call_39 (fun u_7 H locs h_8 hP hD hS hz9 => ?_)
    obtain rfl := h_8
    refine lv_iload hx hb z_d_call_42 (lv_at hl 0 rfl) ?_
    refine txS_rf (x := 14) (rest := []) (D := (dC, dI)) (ws := wC q cI cZ cB (telS (trn v) (ztn v + 1) x y z 14)) ⟨hx, hb, hml, hown, hts⟩ (c_d_refuse l H.size hl0 14) mw_337 mw_335 mw_336 mw_1 yd_d_refuse ⟨⟨rfl, rfl⟩, Nat.le_of_ble_eq_true rfl, Nat.le_of_ble_eq_true rfl⟩ ⟨Nat.le_of_ble_eq_true rfl, Nat.le_of_ble_eq_true rfl⟩ hP hS hA hX hl.1 rfl (Nat.le_of_ble_eq_true rfl) z_d_call_44 (fun E ce q9 H locs hE hP hS hce hcv hcl => ?_) (fun H locs h9 => absurd rfl h9.2.1)
    obtain rfl : E = "java/lang/IndexOutOfBoundsException" := by rcases hE with ⟨h, e9⟩ | ⟨h, e9⟩ | ⟨h, e9⟩ <;> first | exact e9 | exact absurd h (by decide)
    exact vx_out (fun x9 h9 => (hEx x9 h9).elim) hlocks hce hcv hcl (fun t hT0 hA0 => ⟨(2, telS (trn v) (ztn v + 1) x y z 14), Or.inr (Or.inl ⟨rfl, ho9, hn9, rfl⟩), ⟨List.mem_of_getElem? (i := 1) rfl, by rw [hT0]; exact hP, va_K.moved hA0 hK, hD⟩, hS.F hT0⟩) hS.2.2 (Nat.le_of_ble_eq_true rfl) (Nat.le_of_ble_eq_true rfl)
  · refine lv_istore (lv' := [(5, .int 15), (0, .ref (q 0)), (1, .int (nI k)), (2, .int (nI j)), (3, .int (nI n)), (4, .int a)]) hx hb z_d_call_19 hl (by decide) rfl (fun ls hl => ?_)
    refine lv_iload hx hb z_d_call_21 (lv_at hl 0 rfl) ?_
    refine lv_if_eq (tgt := 42) hx hb z_d_call_23 (by decide) (fun c9 => absurd c9 (by decide)) (fun _ => ?_)
    refine lv_aload_n hx hb z_d_call_26 rfl (lv_at hl 1 rfl) ?_
    refine va_get (D := (dC, dI)) (ci := 3) (v := .ref (q 13)) (C := R3) (T := T3) (N := 6) hx hb hts (cw_sub iC3) hown hK hP 0 rfl rfl 3 (by decide) (hts _ (cw_in mw_95 rfl)) (fun _ h9 => h9) rfl z_d_call_27 ?_
    refine lv_aload_n hx hb z_d_call_30 rfl (lv_at hl 1 rfl) ?_
    refine va_get (D := (dC, dI)) (ci := 3) (v := .int (ztn v + 1)) (C := R3) (T := T3) (N := 6) hx hb hts (cw_sub iC3) hown hK hP 0 rfl rfl 5 (by decide) (hts _ (cw_in mw_97 rfl)) (fun _ h9 => h9) rfl z_d_call_31 ?_
    refine lv_iload_n hx hb z_d_call_34 rfl (lv_at hl 2 rfl) ?_
    refine lv_iload_n hx hb z_d_call_35 rfl (lv_at hl 3 rfl) ?_
    refine lv_iload_n hx hb z_d_call_36 rfl (lv_at hl 4 rfl) ?_
    refine lv_iload hx hb z_d_call_37 (lv_at hl 0 rfl) ?_
    refine wrVNv (As := [.int (ztn v + 1), .int (nI k), .int (nI j), .int (nI n), .int 15]) (rest := []) (wf := fun u => wC q cI cZ cB u) ⟨hx, hb, hml, hown, hts⟩ (c_r_tell l dC dI q cI cZ cB (trn v) H.size hi (ztn v + 1) (nI k) (nI j) (nI n) 15) mw_334 (hN _ nw_20) mw_333 mp_12 mw_4 yd_r_tell ⟨⟨rfl, rfl⟩, Nat.le_of_ble_eq_true rfl, Nat.le_of_ble_eq_true rfl⟩ ⟨Nat.le_of_ble_eq_true rfl, Nat.le_of_ble_eq_true rfl⟩ (WrC.preV hP hK hD hN (ci := 0) (q0 := 13) rfl rfl) (wr_free hD hS hA) hS rfl hl.1 rfl (Nat.le_of_ble_eq_true rfl) z_d_call_39 (fun u_10 H locs h_11 hP hD hS hz9 => ?_)
    obtain rfl := h_11
    refine lv_iload hx hb z_d_call_42 (lv_at hl 0 rfl) ?_
    refine txS_rf (x := 15) (rest := []) (D := (dC, dI)) (ws := wC q cI cZ cB (telS (trn v) (ztn v + 1) (nI k) (nI j) (nI n) 15)) ⟨hx, hb, hml, hown, hts⟩ (c_d_refuse l H.size hl0 15) mw_337 mw_335 mw_336 mw_1 yd_d_refuse ⟨⟨rfl, rfl⟩, Nat.le_of_ble_eq_true rfl, Nat.le_of_ble_eq_true rfl⟩ ⟨Nat.le_of_ble_eq_true rfl, Nat.le_of_ble_eq_true rfl⟩ hP hS hA hX hl.1 rfl (Nat.le_of_ble_eq_true rfl) z_d_call_44 (fun E ce q9 H locs hE hP hS hce hcv hcl => ?_) (fun H locs h9 => absurd rfl h9.2.2)
    obtain rfl : E = "java/lang/IllegalStateException" := by rcases hE with ⟨h, e9⟩ | ⟨h, e9⟩ | ⟨h, e9⟩ <;> first | exact e9 | exact absurd h (by decide)
    exact vx_out (fun x9 h9 => (hEx x9 h9).elim) hlocks hce hcv hcl (fun t hT0 hA0 => ⟨(3, telS (trn v) (ztn v + 1) (nI k) (nI j) (nI n) 15), Or.inr (Or.inr ⟨k, j, n, hk, hj, hn, rfl, rfl, rfl, hm9, ha9, Or.inl ⟨rfl, hc9, rfl⟩⟩), ⟨List.mem_of_getElem? (i := 2) rfl, by rw [hT0]; exact hP, va_K.moved hA0 hK, hD⟩, hS.F hT0⟩) hS.2.2 (Nat.le_of_ble_eq_true rfl) (Nat.le_of_ble_eq_true rfl)
  · refine lv_istore (lv' := [(5, .int 0), (0, .ref (q 0)), (1, .int (nI k)), (2, .int (nI j)), (3, .int (nI n)), (4, .int a)]) hx hb z_d_call_19 hl (by decide) rfl (fun ls hl => ?_)
    refine lv_iload hx hb z_d_call_21 (lv_at hl 0 rfl) ?_
    refine lv_if_eq (tgt := 42) hx hb z_d_call_23 (by decide) (fun _ => ?_) (fun c9 => absurd (by decide) c9)
    refine lv_iload hx hb z_d_call_42 (lv_at hl 0 rfl) ?_
    refine txS_rf (x := 0) (rest := []) (D := (dC, dI)) (ws := wC q cI cZ cB (trn v)) ⟨hx, hb, hml, hown, hts⟩ (c_d_refuse l H.size hl0 0) mw_337 mw_335 mw_336 mw_1 yd_d_refuse ⟨⟨rfl, rfl⟩, Nat.le_of_ble_eq_true rfl, Nat.le_of_ble_eq_true rfl⟩ ⟨Nat.le_of_ble_eq_true rfl, Nat.le_of_ble_eq_true rfl⟩ hP hS hA hX hl.1 rfl (Nat.le_of_ble_eq_true rfl) z_d_call_44 (fun E ce q9 H locs hE => absurd hE (by rintro (⟨h, -⟩ | ⟨h, -⟩ | ⟨h, -⟩) <;> revert h <;> decide)) (fun H locs _ hP hS => ?_)
    refine lv_aload_n hx hb z_d_call_47 rfl (lv_at hl 1 rfl) ?_
    refine lv_iload_n hx hb z_d_call_48 rfl (lv_at hl 2 rfl) ?_
    refine lv_iload_n hx hb z_d_call_49 rfl (lv_at hl 3 rfl) ?_
    refine lv_iload_n hx hb z_d_call_50 rfl (lv_at hl 4 rfl) ?_
    refine lv_iload hx hb z_d_call_51 (lv_at hl 5 rfl) ?_
    refine rdVl (As := [.int (nI k), .int (nI j), .int (nI n), .int a]) (rest := []) ⟨hx, hb, hml, hown, hts⟩ (c_d_answerTo l dC dI q cI cZ cB (trn v) hi k j n hk hj hn a) mw_344 mw_341 mw_343 mp_13 mw_1 rfl yd_d_answerTo ⟨⟨rfl, rfl⟩, Nat.le_of_ble_eq_true rfl, Nat.le_of_ble_eq_true rfl⟩ ⟨Nat.le_of_ble_eq_true rfl, Nat.le_of_ble_eq_true rfl⟩ (RdC.preV hP hK hN (ci := 3) (q0 := 0) rfl rfl) rfl hl.1 rfl (Nat.le_of_ble_eq_true rfl) z_d_call_53 (fun r_12 h_13 => ?_)
    rw [anF_trn] at h_13
    subst h_13
    refine lv_lstore (lv' := [(6, .long (anF v k j n a)), (5, .int 0), (0, .ref (q 0)), (1, .int (nI k)), (2, .int (nI j)), (3, .int (nI n)), (4, .int a)]) hx hb z_d_call_56 hl (by decide) rfl (fun ls hl => ?_)
    refine lv_lload hx hb z_d_call_58 (lv_at hl 0 rfl) ?_
    refine lv_ldc2 (v := (-9000000000000)) hx hb hown (hts _ (cw_in mw_350 rfl)) z_d_call_60 ?_
    refine W.lcmp hx hb z_d_call_63 ?_
    refine lv_if_ge (tgt := 91) hx hb z_d_call_64 (by decide) (fun c_64 => ?_) (fun c_64 => ?_)
    · refine lv_aload_n hx hb z_d_call_91 rfl (lv_at hl 2 rfl) ?_
      refine lv_iload_n hx hb z_d_call_92 rfl (lv_at hl 3 rfl) ?_
      refine lv_iload_n hx hb z_d_call_93 rfl (lv_at hl 4 rfl) ?_
      refine lv_iload_n hx hb z_d_call_94 rfl (lv_at hl 5 rfl) ?_
      refine lv_lload hx hb z_d_call_95 (lv_at hl 0 rfl) ?_
      refine wrVv (As := [.int (nI k), .int (nI j), .int (nI n), .long (anF v k j n a)]) (rest := []) (wf := fun u => wC q cI cZ cB u) ⟨hx, hb, hml, hown, hts⟩ (c_d_carryOut l dC dI q cI cZ cB (trn v) H.size hi k j n hk hj hn (anF v k j n a)) mw_382 mw_379 mw_381 mp_20 mw_1 rfl yd_d_carryOut ⟨⟨rfl, rfl⟩, Nat.le_of_ble_eq_true rfl, Nat.le_of_ble_eq_true rfl⟩ ⟨Nat.le_of_ble_eq_true rfl, Nat.le_of_ble_eq_true rfl⟩ (WrC.preV hP hK hD hN (ci := 3) (q0 := 0) rfl rfl) (wr_free hD hS hA) hS rfl hl.1 rfl (Nat.le_of_ble_eq_true rfl) z_d_call_97 (fun u_15 H locs h_16 hP hD hS hz9 => ?_)
      obtain rfl := h_16
      refine lv_lload hx hb z_d_call_100 (lv_at hl 0 rfl) ?_
      exact vx_ret (W.lret (v := anF v k j n a) hx hb hr (fun t ht hW => ⟨⟨anF v k j n a, carF (trn v) k j n (anF v k j n a), rfl, Or.inr (Or.inr ⟨k, j, n, hk, hj, hn, rfl, rfl, rfl, hm9, ha9, Or.inr ⟨rfl, hc9, rfl, Or.inr ⟨fun h => absurd (lcmp_lt.mpr h) (Int32.not_lt.mpr c_64), rfl⟩⟩⟩), by rw [ht]; exact hP, va_K.moved hW.alike hK, hD⟩, hS.F ht⟩) hS.2.2 z_d_call_102)
    · refine lv_aload_n hx hb z_d_call_67 rfl (lv_at hl 2 rfl) ?_
      refine va_get (D := (dC, dI)) (ci := 3) (v := .ref (q 13)) (C := R3) (T := T3) (N := 6) hx hb hts (cw_sub iC3) hown hK hP 0 rfl rfl 3 (by decide) (hts _ (cw_in mw_95 rfl)) (fun _ h9 => h9) rfl z_d_call_68 ?_
      refine lv_aload_n hx hb z_d_call_71 rfl (lv_at hl 2 rfl) ?_
      refine va_get (D := (dC, dI)) (ci := 3) (v := .int (ztn v + 1)) (C := R3) (T := T3) (N := 6) hx hb hts (cw_sub iC3) hown hK hP 0 rfl rfl 5 (by decide) (hts _ (cw_in mw_97 rfl)) (fun _ h9 => h9) rfl z_d_call_72 ?_
      refine lv_iload_n hx hb z_d_call_75 rfl (lv_at hl 3 rfl) ?_
      refine lv_iload_n hx hb z_d_call_76 rfl (lv_at hl 4 rfl) ?_
      refine lv_iload_n hx hb z_d_call_77 rfl (lv_at hl 5 rfl) ?_
      refine lv_ldc2 (v := (-9000000000000)) hx hb hown (hts _ (cw_in mw_350 rfl)) z_d_call_78 ?_
      refine lv_lload hx hb z_d_call_81 (lv_at hl 0 rfl) ?_
      refine lv_lsub hx hb z_d_call_83 ?_
      refine lv_l2i hx hb z_d_call_84 rfl ?_
      refine wrVNv (As := [.int (ztn v + 1), .int (nI k), .int (nI j), .int (nI n), .int (((-9000000000000) - (anF v k j n a)).toInt32)]) (rest := []) (wf := fun u => wC q cI cZ cB u) ⟨hx, hb, hml, hown, hts⟩ (c_r_tell l dC dI q cI cZ cB (trn v) H.size hi (ztn v + 1) (nI k) (nI j) (nI n) (((-9000000000000) - (anF v k j n a)).toInt32)) mw_334 (hN _ nw_20) mw_333 mp_12 mw_4 yd_r_tell ⟨⟨rfl, rfl⟩, Nat.le_of_ble_eq_true rfl, Nat.le_of_ble_eq_true rfl⟩ ⟨Nat.le_of_ble_eq_true rfl, Nat.le_of_ble_eq_true rfl⟩ (WrC.preV hP hK hD hN (ci := 0) (q0 := 13) rfl rfl) (wr_free hD hS hA) hS rfl hl.1 rfl (Nat.le_of_ble_eq_true rfl) z_d_call_85 (fun u_18 H locs h_19 hP hD hS hz9 => ?_)
      obtain rfl := h_19
      refine lv_goto (tgt := 100) hx hb z_d_call_88 (by decide) ?_
      refine lv_lload hx hb z_d_call_100 (lv_at hl 0 rfl) ?_
      exact vx_ret (W.lret (v := anF v k j n a) hx hb hr (fun t ht hW => ⟨⟨anF v k j n a, telS (trn v) (ztn v + 1) (nI k) (nI j) (nI n) (((-9000000000000) - (anF v k j n a)).toInt32), rfl, Or.inr (Or.inr ⟨k, j, n, hk, hj, hn, rfl, rfl, rfl, hm9, ha9, Or.inr ⟨rfl, hc9, rfl, Or.inl ⟨lcmp_lt.mp (Int32.not_le.mp c_64), rfl⟩⟩⟩), by rw [ht]; exact hP, va_K.moved hW.alike hK, hD⟩, hS.F ht⟩) hS.2.2 z_d_call_102)
end
section
theorem okR_no1 {v : St} {i w : Int32} (hi : Inv v) (h : i < 0) : ¬ okR v i w := by
  rintro ⟨t, z, h1, -, rfl, -⟩
  have := hi.kp.1
  exact nI_pos (by omega) h
theorem okR_no2 {v : St} {i w : Int32} (hi : Inv v) (h : nI (kN v) ≤ i) : ¬ okR v i w := by
  rintro ⟨t, z, h1, -, rfl, -⟩
  have := hi.kp.1
  exact nI_ge h1 (by omega) h
theorem okR_no3 {v : St} {i w : Int32} (h : w < 0) : ¬ okR v i w := by
  rintro ⟨t, z, -, h1, -, rfl⟩
  exact nI_pos (by omega) h
theorem okR_no4 {v : St} {i w : Int32} (h : ¬ w < 5) : ¬ okR v i w := by
  rintro ⟨t, z, -, h1, -, rfl⟩
  exact h (nI_lt (b := 5) h1 (by decide))
set_option maxHeartbeats 4000000 in
set_option maxRecDepth 100000 in
theorem c_d_text (l : Launch) (dC : Nat → ClassId) (dI : Nat → Nat → Nat) (q : Nat → Nat) (cI cZ cB : ClassId) (v : St) (sz : Nat) (hl0 : l.stackTraces = false) (hi : Inv v) (x y : Int32) (p0 : Int64) (n0 : Int32) : vx_Met l y_d_text (Cond.code y_d_text b_d_text 7 (some .int) :: CW) { frames := 6, cells := 1, slots := 6, locals := 82 } (va_Pc [.ref (q 0), .int x, .int y, .long p0, .int n0] (TxC (dC, dI) sz (wC q cI cZ cB v) (tyC cI cZ cB))) (va_Qi (fun (r : Int32) (u : St) => spText v x y p0 n0 0 r u) (fun u => WrB (dC, dI) (wC q cI cZ cB u) (tyC cI cZ cB) (va_A (wC q cI cZ cB v) sz)) (va_A (wC q cI cZ cB v) sz)) (vx_X (fun z9 : Nat × St => spText v x y p0 n0 z9.1 0 z9.2) (fun E z9 t => (E, z9.1) ∈ ([("java/lang/IllegalArgumentException", 1), ("java/lang/IndexOutOfBoundsException", 2), ("java/lang/IllegalStateException", 3), ("java/lang/UnsupportedOperationException", 4)] : List (String × Nat)) ∧ WrB (dC, dI) (wC q cI cZ cB z9.2) (tyC cI cZ cB) (va_A (wC q cI cZ cB v) sz) t) (va_A (wC q cI cZ cB v) sz)) 1 6 (va_A (wC q cI cZ cB v) sz) := by
  refine tx_met (by decide) (Nat.le_of_ble_eq_true rfl) ?_
  intro p e s m below meth c hx hb hr hml hts hown hlocks hEx hC ls hl
  obtain ⟨⟨hsz, hP, hK, hD0, hN⟩, hX⟩ := hC
  subst hsz
  have hD := hD0.self (sz := s.heap.size)
  generalize hAe : va_A (wC q cI cZ cB v) s.heap.size = A at hD hX ⊢
  have hA : ∀ q9 : Nat, s.heap.size ≤ q9 → A q9 := fun q9 h => by rw [← hAe]; exact Or.inr h
  have hS : va_S A s.heap s.heap [] := va_S.rf
  have hown : s.vm.findClass "ServiceDesk" = some m.cls := hown
  have hl : lv_has ls 7 [(0, .ref (q 0)), (1, .int x), (2, .int y), (3, .long p0), (5, .int n0)] := hl
  refine lv_aload_n hx hb z_d_text_0 rfl (lv_at hl 0 rfl) ?_
  refine lv_iload_n hx hb z_d_text_1 rfl (lv_at hl 1 rfl) ?_
  refine lv_iload_n hx hb z_d_text_2 rfl (lv_at hl 2 rfl) ?_
  refine rdVi (As := [.int x, .int y]) (rest := []) ⟨hx, hb, hml, hown, hts⟩ (c_d_isSubject l dC dI q cI cZ cB v hi x y) mw_255 mw_252 mw_254 mp_7 mw_1 rfl yd_d_isSubject ⟨⟨rfl, rfl⟩, Nat.le_of_ble_eq_true rfl, Nat.le_of_ble_eq_true rfl⟩ ⟨Nat.le_of_ble_eq_true rfl, Nat.le_of_ble_eq_true rfl⟩ (RdC.preV hP hK hN (ci := 3) (q0 := 0) rfl rfl) rfl hl.1 rfl (Nat.le_of_ble_eq_true rfl) z_d_text_3 (fun r_1 h_2 => ?_)
  rcases h_2 with ⟨rfl, h_2⟩ | ⟨rfl, h_2⟩
  · obtain ⟨k, j, hk, hj, rfl, rfl⟩ := h_2
    have hM := (hi.mk k hk).1
    refine lv_if_ne (tgt := 19) hx hb z_d_text_6 (by decide) (fun _ => ?_) (fun c9 => absurd c9 (by decide))
    refine lv_iload hx hb z_d_text_19 (lv_at hl 4 rfl) ?_
    refine lv_iconst (v := 1) hx hb z_d_text_21 (by decide) ?_
    refine lv_icmp_lt (tgt := 32) hx hb z_d_text_22 (by decide) (fun c_22 => ?_) (fun c_22 => ?_)
    · obtain ⟨sa_3, hsa_3⟩ := hX.2.2.2 _ sr_137
      exact vx_throwS (own := "ServiceDesk") (cls := "java/lang/IndexOutOfBoundsException") (names := ["java/lang/RuntimeException", "java/lang/Exception"]) hx hb hl0 hown (by decide +kernel) (by decide +kernel) (hts _ (cw_in mw_299 rfl)) (hts _ (cw_in mw_13 rfl)) hsa_3 (xw_1 hts hX.2.2.1) (List.forall_mem_cons.mpr ⟨rfl, List.forall_mem_cons.mpr ⟨rfl, xo_1⟩⟩) hX.1 hX.2.1 hS (hl.1.trans hml.symm) z_d_text_32 z_d_text_35 z_d_text_36 z_d_text_38 z_d_text_41 (fun x9 h9 => (hEx x9 h9).elim) (Nat.le_of_ble_eq_true rfl) (Nat.le_of_ble_eq_true rfl) (Nat.le_of_ble_eq_true rfl) (Nat.le_of_ble_eq_true rfl) hlocks (fun t hA0 hZ0 hK0 => ⟨(2, v), Or.inr (Or.inl ⟨rfl, rfl, ⟨k, j, hk, hj, rfl, rfl⟩, okN_no1 c_22⟩), ⟨List.mem_of_getElem? (i := 1) rfl, hP.kept (fun k9 q9 hq9 => hK0 q9.1 (hP k9 q9 hq9).lt), va_K.moved hA0 hK, hD⟩, Nat.le_trans hS.1 hZ0, fun q9 h1 h2 => (hK0 q9 (Nat.lt_of_lt_of_le h1 hS.1)).trans (hS.2.1 q9 h1 h2)⟩) hS.2.2 (Nat.le_of_ble_eq_true rfl) (Nat.le_of_ble_eq_true rfl)
    · refine lv_iload hx hb z_d_text_25 (lv_at hl 4 rfl) ?_
      refine lv_bipush (v := 8) hx hb z_d_text_27 (by decide) ?_
      refine lv_icmp_le (tgt := 42) hx hb z_d_text_29 (by decide) (fun c_29 => ?_) (fun c_29 => ?_)
      · obtain ⟨w0, hw1, hw2, rfl⟩ := okN_of c_22 c_29
        refine lv_iload_n hx hb z_d_text_42 rfl (lv_at hl 1 rfl) ?_
        refine lv_iload_n hx hb z_d_text_43 rfl (lv_at hl 2 rfl) ?_
        refine rdSi (As := [.int (nI k), .int (nI j)]) (rest := []) ⟨hx, hb, hml, hown, hts⟩ (c_d_slotOf l k j) mw_125 mw_261 mw_124 mw_1 yd_d_slotOf ⟨⟨rfl, rfl⟩, Nat.le_of_ble_eq_true rfl, Nat.le_of_ble_eq_true rfl⟩ ⟨Nat.le_of_ble_eq_true rfl, Nat.le_of_ble_eq_true rfl⟩ (pre_pure) rfl hl.1 rfl (Nat.le_of_ble_eq_true rfl) z_d_text_44 (fun r_4 h_5 => ?_)
        subst h_5
        refine lv_istore (lv' := [(6, .int (nI (k * 30 + j))), (0, .ref (q 0)), (1, .int (nI k)), (2, .int (nI j)), (3, .long p0), (5, .int (nI w0))]) hx hb z_d_text_47 hl (by decide) rfl (fun ls hl => ?_)
        have hL := (hi.ln (k * 30 + j) (by omega)).1
        refine lv_aload_n hx hb z_d_text_49 rfl (lv_at hl 1 rfl) ?_
        refine va_get (D := (dC, dI)) (ci := 3) (v := .ref (q 6)) (C := R3) (T := T3) (N := 6) hx hb hts (cw_sub iC3) hown hK hP 0 rfl rfl 2 (by decide) (hts _ (cw_in mw_94 rfl)) (fun _ h9 => h9) rfl z_d_text_50 ?_
        refine va_getN (D := (dC, dI)) (ci := 1) (v := .ref (q 9)) (C := R1) (T := T1) (N := 6) hx hb hts (cw_sub iC1) hown hK hP 6 rfl rfl 2 (by decide) (va_Nw.use rfl (hN _ nw_7)) (fun _ h9 => h9) rfl z_d_text_53 ?_
        refine lv_iload hx hb z_d_text_56 (lv_at hl 0 rfl) ?_
        refine xa_z hx hb hK hP 9 1 rfl rfl (k := (k * 30 + j)) (y := zop v (k * 30 + j)) (by omega) (by decide) (rfl) z_d_text_58 ?_
        refine lv_if_ne (tgt := 72) hx hb z_d_text_59 (by decide) (fun c_59 => ?_) (fun c_59 => ?_)
        · refine lv_aload_n hx hb z_d_text_72 rfl (lv_at hl 1 rfl) ?_
          refine va_get (D := (dC, dI)) (ci := 3) (v := .ref (q 6)) (C := R3) (T := T3) (N := 6) hx hb hts (cw_sub iC3) hown hK hP 0 rfl rfl 2 (by decide) (hts _ (cw_in mw_94 rfl)) (fun _ h9 => h9) rfl z_d_text_73 ?_
          refine va_getN (D := (dC, dI)) (ci := 1) (v := .ref (q 11)) (C := R1) (T := T1) (N := 6) hx hb hts (cw_sub iC1) hown hK hP 6 rfl rfl 4 (by decide) (va_Nw.use rfl (hN _ nw_9)) (fun _ h9 => h9) rfl z_d_text_76 ?_
          refine lv_iload hx hb z_d_text_79 (lv_at hl 0 rfl) ?_
          refine xa_i hx hb hK hP 11 0 rfl rfl (k := (k * 30 + j)) (y := nI (lN9 v (k * 30 + j))) (by omega) (by decide) ((hi.ln (k * 30 + j) (by omega)).2) z_d_text_81 ?_
          refine lv_iload hx hb z_d_text_82 (lv_at hl 5 rfl) ?_
          refine lv_iadd hx hb z_d_text_84 ?_
          rw [nI_add]
          refine lv_bipush (v := 16) hx hb z_d_text_85 (by decide) ?_
          refine lv_icmp_le (tgt := 100) hx hb z_d_text_87 (by decide) (fun c_87 => ?_) (fun c_87 => ?_)
          · refine lv_aload_n hx hb z_d_text_100 rfl (lv_at hl 1 rfl) ?_
            refine va_get (D := (dC, dI)) (ci := 3) (v := .ref (q 6)) (C := R3) (T := T3) (N := 6) hx hb hts (cw_sub iC3) hown hK hP 0 rfl rfl 2 (by decide) (hts _ (cw_in mw_94 rfl)) (fun _ h9 => h9) rfl z_d_text_101 ?_
            refine lv_iload hx hb z_d_text_104 (lv_at hl 0 rfl) ?_
            refine lv_lload_n hx hb z_d_text_106 rfl (lv_at hl 4 rfl) ?_
            refine lv_iload hx hb z_d_text_107 (lv_at hl 5 rfl) ?_
            refine wrVNi (As := [.int (nI (k * 30 + j)), .long p0, .int (nI w0)]) (rest := []) (wf := fun u => wC q cI cZ cB u) ⟨hx, hb, hml, hown, hts⟩ (c_s_lengthen l dC dI q cI cZ cB v s.heap.size hi (k * 30 + j) (by omega) p0 w0 ((nI_leI (by omega) (by decide)).mp (show nI (lN9 v (k * 30 + j) + w0) ≤ nI 16 from c_87))) mw_407 (hN _ nw_23) mw_406 mp_22 mw_3 yd_s_lengthen ⟨⟨rfl, rfl⟩, Nat.le_of_ble_eq_true rfl, Nat.le_of_ble_eq_true rfl⟩ ⟨Nat.le_of_ble_eq_true rfl, Nat.le_of_ble_eq_true rfl⟩ (WrC.preV hP hK hD hN (ci := 1) (q0 := 6) rfl rfl) (wr_free hD hS hA) hS rfl hl.1 rfl (Nat.le_of_ble_eq_true rfl) z_d_text_109 (fun r_6 u_7 H locs h_8 hP hD hS hz9 => ?_)
            obtain ⟨rfl, rfl⟩ := h_8
            refine W.widen (k := 1) (n := 6) (Nat.le_of_ble_eq_true rfl) (Nat.le_of_ble_eq_true rfl) ?_
            exact vx_ret (W.iret (v := nI (lN9 v (k * 30 + j) + w0)) hx hb hr (fun t ht hW => ⟨⟨nI (lN9 v (k * 30 + j) + w0), lenS v (k * 30 + j) p0 w0, rfl, Or.inr (Or.inr ⟨k, j, w0, hk, hj, rfl, rfl, ⟨hw1, hw2⟩, rfl, Or.inr (Or.inr ⟨rfl, c_59, (nI_leI (by omega) (by decide)).mp (show nI (lN9 v (k * 30 + j) + w0) ≤ nI 16 from c_87), rfl, rfl⟩)⟩), by rw [ht]; exact hP, va_K.moved hW.alike hK, hD⟩, hS.F ht⟩) hS.2.2 z_d_text_112)
          · obtain ⟨sa_9, hsa_9⟩ := hX.2.2.2 _ sr_147
            exact vx_throwS (own := "ServiceDesk") (cls := "java/lang/UnsupportedOperationException") (names := ["java/lang/RuntimeException", "java/lang/Exception"]) hx hb hl0 hown (by decide +kernel) (by decide +kernel) (hts _ (cw_in mw_263 rfl)) (hts _ (cw_in mw_12 rfl)) hsa_9 (xw_3 hts hX.2.2.1) (List.forall_mem_cons.mpr ⟨rfl, List.forall_mem_cons.mpr ⟨rfl, xo_3⟩⟩) hX.1 hX.2.1 hS (hl.1.trans hml.symm) z_d_text_90 z_d_text_93 z_d_text_94 z_d_text_96 z_d_text_99 (fun x9 h9 => (hEx x9 h9).elim) (Nat.le_of_ble_eq_true rfl) (Nat.le_of_ble_eq_true rfl) (Nat.le_of_ble_eq_true rfl) (Nat.le_of_ble_eq_true rfl) hlocks (fun t hA0 hZ0 hK0 => ⟨(4, v), Or.inr (Or.inr ⟨k, j, w0, hk, hj, rfl, rfl, ⟨hw1, hw2⟩, rfl, Or.inr (Or.inl ⟨rfl, rfl, c_59, fun h => c_87 (nI_le (b := 16) h (by decide))⟩)⟩), ⟨List.mem_of_getElem? (i := 3) rfl, hP.kept (fun k9 q9 hq9 => hK0 q9.1 (hP k9 q9 hq9).lt), va_K.moved hA0 hK, hD⟩, Nat.le_trans hS.1 hZ0, fun q9 h1 h2 => (hK0 q9 (Nat.lt_of_lt_of_le h1 hS.1)).trans (hS.2.1 q9 h1 h2)⟩) hS.2.2 (Nat.le_of_ble_eq_true rfl) (Nat.le_of_ble_eq_true rfl)
        · obtain ⟨sa_10, hsa_10⟩ := hX.2.2.2 _ sr_142
          exact vx_throwS (own := "ServiceDesk") (cls := "java/lang/IllegalStateException") (names := ["java/lang/RuntimeException", "java/lang/Exception"]) hx hb hl0 hown (by decide +kernel) (by decide +kernel) (hts _ (cw_in mw_224 rfl)) (hts _ (cw_in mw_11 rfl)) hsa_10 (xw_2 hts hX.2.2.1) (List.forall_mem_cons.mpr ⟨rfl, List.forall_mem_cons.mpr ⟨rfl, xo_2⟩⟩) hX.1 hX.2.1 hS (hl.1.trans hml.symm) z_d_text_62 z_d_text_65 z_d_text_66 z_d_text_68 z_d_text_71 (fun x9 h9 => (hEx x9 h9).elim) (Nat.le_of_ble_eq_true rfl) (Nat.le_of_ble_eq_true rfl) (Nat.le_of_ble_eq_true rfl) (Nat.le_of_ble_eq_true rfl) hlocks (fun t hA0 hZ0 hK0 => ⟨(3, v), Or.inr (Or.inr ⟨k, j, w0, hk, hj, rfl, rfl, ⟨hw1, hw2⟩, rfl, Or.inl ⟨rfl, rfl, c_59⟩⟩), ⟨List.mem_of_getElem? (i := 2) rfl, hP.kept (fun k9 q9 hq9 => hK0 q9.1 (hP k9 q9 hq9).lt), va_K.moved hA0 hK, hD⟩, Nat.le_trans hS.1 hZ0, fun q9 h1 h2 => (hK0 q9 (Nat.lt_of_lt_of_le h1 hS.1)).trans (hS.2.1 q9 h1 h2)⟩) hS.2.2 (Nat.le_of_ble_eq_true rfl) (Nat.le_of_ble_eq_true rfl)
      · obtain ⟨sa_11, hsa_11⟩ := hX.2.2.2 _ sr_137
        exact vx_throwS (own := "ServiceDesk") (cls := "java/lang/IndexOutOfBoundsException") (names := ["java/lang/RuntimeException", "java/lang/Exception"]) hx hb hl0 hown (by decide +kernel) (by decide +kernel) (hts _ (cw_in mw_299 rfl)) (hts _ (cw_in mw_13 rfl)) hsa_11 (xw_1 hts hX.2.2.1) (List.forall_mem_cons.mpr ⟨rfl, List.forall_mem_cons.mpr ⟨rfl, xo_1⟩⟩) hX.1 hX.2.1 hS (hl.1.trans hml.symm) z_d_text_32 z_d_text_35 z_d_text_36 z_d_text_38 z_d_text_41 (fun x9 h9 => (hEx x9 h9).elim) (Nat.le_of_ble_eq_true rfl) (Nat.le_of_ble_eq_true rfl) (Nat.le_of_ble_eq_true rfl) (Nat.le_of_ble_eq_true rfl) hlocks (fun t hA0 hZ0 hK0 => ⟨(2, v), Or.inr (Or.inl ⟨rfl, rfl, ⟨k, j, hk, hj, rfl, rfl⟩, okN_no2 c_29⟩), ⟨List.mem_of_getElem? (i := 1) rfl, hP.kept (fun k9 q9 hq9 => hK0 q9.1 (hP k9 q9 hq9).lt), va_K.moved hA0 hK, hD⟩, Nat.le_trans hS.1 hZ0, fun q9 h1 h2 => (hK0 q9 (Nat.lt_of_lt_of_le h1 hS.1)).trans (hS.2.1 q9 h1 h2)⟩) hS.2.2 (Nat.le_of_ble_eq_true rfl) (Nat.le_of_ble_eq_true rfl)
  · refine lv_if_ne (tgt := 19) hx hb z_d_text_6 (by decide) (fun c9 => absurd rfl c9) (fun _ => ?_)
    obtain ⟨sa_12, hsa_12⟩ := hX.2.2.2 _ sr_135
    exact vx_throwS (own := "ServiceDesk") (cls := "java/lang/IllegalArgumentException") (names := ["java/lang/RuntimeException", "java/lang/Exception"]) hx hb hl0 hown (by decide +kernel) (by decide +kernel) (hts _ (cw_in mw_152 rfl)) (hts _ (cw_in mw_10 rfl)) hsa_12 (xw_0 hts hX.2.2.1) (List.forall_mem_cons.mpr ⟨rfl, List.forall_mem_cons.mpr ⟨rfl, xo_0⟩⟩) hX.1 hX.2.1 hS (hl.1.trans hml.symm) z_d_text_9 z_d_text_12 z_d_text_13 z_d_text_15 z_d_text_18 (fun x9 h9 => (hEx x9 h9).elim) (Nat.le_of_ble_eq_true rfl) (Nat.le_of_ble_eq_true rfl) (Nat.le_of_ble_eq_true rfl) (Nat.le_of_ble_eq_true rfl) hlocks (fun t hA0 hZ0 hK0 => ⟨(1, v), Or.inl ⟨rfl, rfl, h_2⟩, ⟨List.mem_of_getElem? (i := 0) rfl, hP.kept (fun k9 q9 hq9 => hK0 q9.1 (hP k9 q9 hq9).lt), va_K.moved hA0 hK, hD⟩, Nat.le_trans hS.1 hZ0, fun q9 h1 h2 => (hK0 q9 (Nat.lt_of_lt_of_le h1 hS.1)).trans (hS.2.1 q9 h1 h2)⟩) hS.2.2 (Nat.le_of_ble_eq_true rfl) (Nat.le_of_ble_eq_true rfl)

set_option maxHeartbeats 4000000 in
set_option maxRecDepth 100000 in
theorem c_d_textAt (l : Launch) (dC : Nat → ClassId) (dI : Nat → Nat → Nat) (q : Nat → Nat) (cI cZ cB : ClassId) (v : St) (sz : Nat) (hl0 : l.stackTraces = false) (hi : Inv v) (x y i0 : Int32) : vx_Met l y_d_textAt (Cond.code y_d_textAt b_d_textAt 5 (some .int) :: CW) { frames := 6, cells := 1, slots := 6, locals := 82 } (va_Pc [.ref (q 0), .int x, .int y, .int i0] (TxC (dC, dI) sz (wC q cI cZ cB v) (tyC cI cZ cB))) (va_Qi (fun (r : Int32) (u : St) => spTextAt v x y i0 0 r u) (fun u => WrB (dC, dI) (wC q cI cZ cB u) (tyC cI cZ cB) (va_A (wC q cI cZ cB v) sz)) (va_A (wC q cI cZ cB v) sz)) (vx_X (fun z9 : Nat × St => spTextAt v x y i0 z9.1 0 z9.2) (fun E z9 t => (E, z9.1) ∈ ([("java/lang/IllegalArgumentException", 1), ("java/lang/IndexOutOfBoundsException", 2)] : List (String × Nat)) ∧ WrB (dC, dI) (wC q cI cZ cB z9.2) (tyC cI cZ cB) (va_A (wC q cI cZ cB v) sz) t) (va_A (wC q cI cZ cB v) sz)) 1 6 (va_A (wC q cI cZ cB v) sz) := by
  refine tx_met (by decide) (Nat.le_of_ble_eq_true rfl) ?_
  intro p e s m below meth c hx hb hr hml hts hown hlocks hEx hC ls hl
  obtain ⟨⟨hsz, hP, hK, hD0, hN⟩, hX⟩ := hC
  subst hsz
  have hD := hD0.self (sz := s.heap.size)
  generalize hAe : va_A (wC q cI cZ cB v) s.heap.size = A at hD hX ⊢
  have hA : ∀ q9 : Nat, s.heap.size ≤ q9 → A q9 := fun q9 h => by rw [← hAe]; exact Or.inr h
  have hS : va_S A s.heap s.heap [] := va_S.rf
  have hown : s.vm.findClass "ServiceDesk" = some m.cls := hown
  have hl : lv_has ls 5 [(0, .ref (q 0)), (1, .int x), (2, .int y), (3, .int i0)] := hl
  refine lv_aload_n hx hb z_d_textAt_0 rfl (lv_at hl 0 rfl) ?_
  refine lv_iload_n hx hb z_d_textAt_1 rfl (lv_at hl 1 rfl) ?_
  refine lv_iload_n hx hb z_d_textAt_2 rfl (lv_at hl 2 rfl) ?_
  refine rdVi (As := [.int x, .int y]) (rest := []) ⟨hx, hb, hml, hown, hts⟩ (c_d_isSubject l dC dI q cI cZ cB v hi x y) mw_255 mw_252 mw_254 mp_7 mw_1 rfl yd_d_isSubject ⟨⟨rfl, rfl⟩, Nat.le_of_ble_eq_true rfl, Nat.le_of_ble_eq_true rfl⟩ ⟨Nat.le_of_ble_eq_true rfl, Nat.le_of_ble_eq_true rfl⟩ (RdC.preV hP hK hN (ci := 3) (q0 := 0) rfl rfl) rfl hl.1 rfl (Nat.le_of_ble_eq_true rfl) z_d_textAt_3 (fun r_1 h_2 => ?_)
  rcases h_2 with ⟨rfl, h_2⟩ | ⟨rfl, h_2⟩
  · obtain ⟨k, j, hk, hj, rfl, rfl⟩ := h_2
    have hM := (hi.mk k hk).1
    refine lv_if_ne (tgt := 19) hx hb z_d_textAt_6 (by decide) (fun _ => ?_) (fun c9 => absurd c9 (by decide))
    refine lv_iload_n hx hb z_d_textAt_19 rfl (lv_at hl 3 rfl) ?_
    refine lv_if_ge (tgt := 33) hx hb z_d_textAt_20 (by decide) (fun c_20 => ?_) (fun c_20 => ?_)
    · obtain ⟨t0, ht0, rfl⟩ := nI_of (Int32.not_lt.mpr c_20)
      have hL := (hi.ln (k * 30 + j) (by omega)).1
      refine lv_iload_n hx hb z_d_textAt_33 rfl (lv_at hl 1 rfl) ?_
      refine lv_iload_n hx hb z_d_textAt_34 rfl (lv_at hl 2 rfl) ?_
      refine rdSi (As := [.int (nI k), .int (nI j)]) (rest := []) ⟨hx, hb, hml, hown, hts⟩ (c_d_slotOf l k j) mw_125 mw_261 mw_124 mw_1 yd_d_slotOf ⟨⟨rfl, rfl⟩, Nat.le_of_ble_eq_true rfl, Nat.le_of_ble_eq_true rfl⟩ ⟨Nat.le_of_ble_eq_true rfl, Nat.le_of_ble_eq_true rfl⟩ (pre_pure) rfl hl.1 rfl (Nat.le_of_ble_eq_true rfl) z_d_textAt_35 (fun r_3 h_4 => ?_)
      subst h_4
      refine lv_istore (lv' := [(4, .int (nI (k * 30 + j))), (0, .ref (q 0)), (1, .int (nI k)), (2, .int (nI j)), (3, .int (nI t0))]) hx hb z_d_textAt_38 hl (by decide) rfl (fun ls hl => ?_)
      refine lv_iload_n hx hb z_d_textAt_40 rfl (lv_at hl 4 rfl) ?_
      refine lv_aload_n hx hb z_d_textAt_41 rfl (lv_at hl 1 rfl) ?_
      refine va_get (D := (dC, dI)) (ci := 3) (v := .ref (q 6)) (C := R3) (T := T3) (N := 6) hx hb hts (cw_sub iC3) hown hK hP 0 rfl rfl 2 (by decide) (hts _ (cw_in mw_94 rfl)) (fun _ h9 => h9) rfl z_d_textAt_42 ?_
      refine va_getN (D := (dC, dI)) (ci := 1) (v := .ref (q 11)) (C := R1) (T := T1) (N := 6) hx hb hts (cw_sub iC1) hown hK hP 6 rfl rfl 4 (by decide) (va_Nw.use rfl (hN _ nw_9)) (fun _ h9 => h9) rfl z_d_textAt_45 ?_
      refine lv_iload hx hb z_d_textAt_48 (lv_at hl 0 rfl) ?_
      refine xa_i hx hb hK hP 11 0 rfl rfl (k := (k * 30 + j)) (y := nI (lN9 v (k * 30 + j))) (by omega) (by decide) ((hi.ln (k * 30 + j) (by omega)).2) z_d_textAt_50 ?_
      refine lv_icmp_ge (tgt := 67) hx hb z_d_textAt_51 (by decide) (fun c_51 => ?_) (fun c_51 => ?_)
      · refine lv_iconst (v := (-1)) hx hb z_d_textAt_67 (by decide) ?_
        refine W.widen (k := 1) (n := 6) (Nat.le_of_ble_eq_true rfl) (Nat.le_of_ble_eq_true rfl) ?_
        exact vx_ret (W.iret (v := (-1)) hx hb hr (fun t ht hW => ⟨⟨(-1), v, rfl, ⟨rfl, Or.inr (Or.inr ⟨rfl, k, j, t0, hk, hj, rfl, rfl, ht0, rfl, Or.inr ⟨Nat.not_lt.mpr ((nI_leI (by omega) ht0).mp c_51), rfl⟩⟩)⟩, by rw [ht]; exact hP, va_K.moved hW.alike hK, hD⟩, hS.F ht⟩) hS.2.2 z_d_textAt_68)
      · have hlt : t0 < lN9 v (k * 30 + j) := nlt_of ht0 c_51
        refine lv_aload_n hx hb z_d_textAt_54 rfl (lv_at hl 1 rfl) ?_
        refine va_get (D := (dC, dI)) (ci := 3) (v := .ref (q 6)) (C := R3) (T := T3) (N := 6) hx hb hts (cw_sub iC3) hown hK hP 0 rfl rfl 2 (by decide) (hts _ (cw_in mw_94 rfl)) (fun _ h9 => h9) rfl z_d_textAt_55 ?_
        refine lv_iload hx hb z_d_textAt_58 (lv_at hl 0 rfl) ?_
        refine lv_iload_n hx hb z_d_textAt_60 rfl (lv_at hl 4 rfl) ?_
        refine rdVNi (As := [.int (nI (k * 30 + j)), .int (nI t0)]) (rest := []) ⟨hx, hb, hml, hown, hts⟩ (c_s_byteAt l dC dI q cI cZ cB v (k * 30 + j) t0 (by omega)) mw_134 (hN _ nw_24) mw_133 mp_2 mw_3 yd_s_byteAt ⟨⟨rfl, rfl⟩, Nat.le_of_ble_eq_true rfl, Nat.le_of_ble_eq_true rfl⟩ ⟨Nat.le_of_ble_eq_true rfl, Nat.le_of_ble_eq_true rfl⟩ (RdC.preV hP hK hN (ci := 1) (q0 := 6) rfl rfl) rfl hl.1 rfl (Nat.le_of_ble_eq_true rfl) z_d_textAt_61 (fun r_5 h_6 => ?_)
        subst h_6
        refine lv_goto (tgt := 68) hx hb z_d_textAt_64 (by decide) ?_
        refine W.widen (k := 1) (n := 6) (Nat.le_of_ble_eq_true rfl) (Nat.le_of_ble_eq_true rfl) ?_
        exact vx_ret (W.iret (v := ztx v ((k * 30 + j) * 16 + t0) &&& 255) hx hb hr (fun t ht hW => ⟨⟨ztx v ((k * 30 + j) * 16 + t0) &&& 255, v, rfl, ⟨rfl, Or.inr (Or.inr ⟨rfl, k, j, t0, hk, hj, rfl, rfl, ht0, rfl, Or.inl ⟨hlt, rfl⟩⟩)⟩, by rw [ht]; exact hP, va_K.moved hW.alike hK, hD⟩, hS.F ht⟩) hS.2.2 z_d_textAt_68)
    · obtain ⟨sa_7, hsa_7⟩ := hX.2.2.2 _ sr_153
      exact vx_throwS (own := "ServiceDesk") (cls := "java/lang/IndexOutOfBoundsException") (names := ["java/lang/RuntimeException", "java/lang/Exception"]) hx hb hl0 hown (by decide +kernel) (by decide +kernel) (hts _ (cw_in mw_299 rfl)) (hts _ (cw_in mw_13 rfl)) hsa_7 (xw_1 hts hX.2.2.1) (List.forall_mem_cons.mpr ⟨rfl, List.forall_mem_cons.mpr ⟨rfl, xo_1⟩⟩) hX.1 hX.2.1 hS (hl.1.trans hml.symm) z_d_textAt_23 z_d_textAt_26 z_d_textAt_27 z_d_textAt_29 z_d_textAt_32 (fun x9 h9 => (hEx x9 h9).elim) (Nat.le_of_ble_eq_true rfl) (Nat.le_of_ble_eq_true rfl) (Nat.le_of_ble_eq_true rfl) (Nat.le_of_ble_eq_true rfl) hlocks (fun t hA0 hZ0 hK0 => ⟨(2, v), ⟨rfl, Or.inr (Or.inl ⟨rfl, ⟨k, j, hk, hj, rfl, rfl⟩, Int32.not_le.mp c_20⟩)⟩, ⟨List.mem_of_getElem? (i := 1) rfl, hP.kept (fun k9 q9 hq9 => hK0 q9.1 (hP k9 q9 hq9).lt), va_K.moved hA0 hK, hD⟩, Nat.le_trans hS.1 hZ0, fun q9 h1 h2 => (hK0 q9 (Nat.lt_of_lt_of_le h1 hS.1)).trans (hS.2.1 q9 h1 h2)⟩) hS.2.2 (Nat.le_of_ble_eq_true rfl) (Nat.le_of_ble_eq_true rfl)
  · refine lv_if_ne (tgt := 19) hx hb z_d_textAt_6 (by decide) (fun c9 => absurd rfl c9) (fun _ => ?_)
    obtain ⟨sa_8, hsa_8⟩ := hX.2.2.2 _ sr_135
    exact vx_throwS (own := "ServiceDesk") (cls := "java/lang/IllegalArgumentException") (names := ["java/lang/RuntimeException", "java/lang/Exception"]) hx hb hl0 hown (by decide +kernel) (by decide +kernel) (hts _ (cw_in mw_152 rfl)) (hts _ (cw_in mw_10 rfl)) hsa_8 (xw_0 hts hX.2.2.1) (List.forall_mem_cons.mpr ⟨rfl, List.forall_mem_cons.mpr ⟨rfl, xo_0⟩⟩) hX.1 hX.2.1 hS (hl.1.trans hml.symm) z_d_textAt_9 z_d_textAt_12 z_d_textAt_13 z_d_textAt_15 z_d_textAt_18 (fun x9 h9 => (hEx x9 h9).elim) (Nat.le_of_ble_eq_true rfl) (Nat.le_of_ble_eq_true rfl) (Nat.le_of_ble_eq_true rfl) (Nat.le_of_ble_eq_true rfl) hlocks (fun t hA0 hZ0 hK0 => ⟨(1, v), ⟨rfl, Or.inl ⟨rfl, h_2⟩⟩, ⟨List.mem_of_getElem? (i := 0) rfl, hP.kept (fun k9 q9 hq9 => hK0 q9.1 (hP k9 q9 hq9).lt), va_K.moved hA0 hK, hD⟩, Nat.le_trans hS.1 hZ0, fun q9 h1 h2 => (hK0 q9 (Nat.lt_of_lt_of_le h1 hS.1)).trans (hS.2.1 q9 h1 h2)⟩) hS.2.2 (Nat.le_of_ble_eq_true rfl) (Nat.le_of_ble_eq_true rfl)

set_option maxHeartbeats 4000000 in
set_option maxRecDepth 100000 in
theorem c_d_find (l : Launch) (dC : Nat → ClassId) (dI : Nat → Nat → Nat) (q : Nat → Nat) (cI cZ cB : ClassId) (v : St) (sz : Nat) (hl0 : l.stackTraces = false) (hi : Inv v) (x : Int32) (p0 : Int64) (n0 : Int32) : vx_Met l y_d_find (Cond.code y_d_find b_d_find 7 (some .int) :: CW) { frames := 6, cells := 1, slots := 6, locals := 82 } (va_Pc [.ref (q 0), .int x, .long p0, .int n0] (TxC (dC, dI) sz (wC q cI cZ cB v) (tyC cI cZ cB))) (va_Qi (fun (r : Int32) (u : St) => spFind v x p0 n0 0 r u) (fun u => WrB (dC, dI) (wC q cI cZ cB u) (tyC cI cZ cB) (va_A (wC q cI cZ cB v) sz)) (va_A (wC q cI cZ cB v) sz)) (vx_X (fun z9 : Nat × St => spFind v x p0 n0 z9.1 0 z9.2) (fun E z9 t => (E, z9.1) ∈ ([("java/lang/IllegalArgumentException", 1), ("java/lang/IndexOutOfBoundsException", 2)] : List (String × Nat)) ∧ WrB (dC, dI) (wC q cI cZ cB z9.2) (tyC cI cZ cB) (va_A (wC q cI cZ cB v) sz) t) (va_A (wC q cI cZ cB v) sz)) 1 6 (va_A (wC q cI cZ cB v) sz) := by
  refine tx_met (by decide) (Nat.le_of_ble_eq_true rfl) ?_
  intro p e s m below meth c hx hb hr hml hts hown hlocks hEx hC ls hl
  obtain ⟨⟨hsz, hP, hK, hD0, hN⟩, hX⟩ := hC
  subst hsz
  have hD := hD0.self (sz := s.heap.size)
  generalize hAe : va_A (wC q cI cZ cB v) s.heap.size = A at hD hX ⊢
  have hA : ∀ q9 : Nat, s.heap.size ≤ q9 → A q9 := fun q9 h => by rw [← hAe]; exact Or.inr h
  have hS : va_S A s.heap s.heap [] := va_S.rf
  have hown : s.vm.findClass "ServiceDesk" = some m.cls := hown
  have hl : lv_has ls 7 [(0, .ref (q 0)), (1, .int x), (2, .long p0), (4, .int n0)] := hl
  refine lv_iload_n hx hb z_d_find_0 rfl (lv_at hl 1 rfl) ?_
  refine rdSi (As := [.int x]) (rest := []) ⟨hx, hb, hml, hown, hts⟩ (c_d_isKind l x) mw_151 mw_149 mw_150 mw_1 yd_d_isKind ⟨⟨rfl, rfl⟩, Nat.le_of_ble_eq_true rfl, Nat.le_of_ble_eq_true rfl⟩ ⟨Nat.le_of_ble_eq_true rfl, Nat.le_of_ble_eq_true rfl⟩ (pre_pure) rfl hl.1 rfl (Nat.le_of_ble_eq_true rfl) z_d_find_1 (fun r_1 h_2 => ?_)
  rcases h_2 with ⟨rfl, h_2⟩ | ⟨rfl, h_2⟩
  · obtain ⟨k, hk, rfl⟩ := h_2
    refine lv_if_ne (tgt := 17) hx hb z_d_find_4 (by decide) (fun _ => ?_) (fun c9 => absurd c9 (by decide))
    refine lv_iload hx hb z_d_find_17 (lv_at hl 3 rfl) ?_
    refine lv_if_lt (tgt := 29) hx hb z_d_find_19 (by decide) (fun c_19 => ?_) (fun c_19 => ?_)
    · obtain ⟨sa_3, hsa_3⟩ := hX.2.2.2 _ sr_137
      exact vx_throwS (own := "ServiceDesk") (cls := "java/lang/IndexOutOfBoundsException") (names := ["java/lang/RuntimeException", "java/lang/Exception"]) hx hb hl0 hown (by decide +kernel) (by decide +kernel) (hts _ (cw_in mw_299 rfl)) (hts _ (cw_in mw_13 rfl)) hsa_3 (xw_1 hts hX.2.2.1) (List.forall_mem_cons.mpr ⟨rfl, List.forall_mem_cons.mpr ⟨rfl, xo_1⟩⟩) hX.1 hX.2.1 hS (hl.1.trans hml.symm) z_d_find_29 z_d_find_32 z_d_find_33 z_d_find_35 z_d_find_38 (fun x9 h9 => (hEx x9 h9).elim) (Nat.le_of_ble_eq_true rfl) (Nat.le_of_ble_eq_true rfl) (Nat.le_of_ble_eq_true rfl) (Nat.le_of_ble_eq_true rfl) hlocks (fun t hA0 hZ0 hK0 => ⟨(2, v), ⟨rfl, Or.inr (Or.inl ⟨rfl, ⟨k, hk, rfl⟩, ok08_no1 c_19⟩)⟩, ⟨List.mem_of_getElem? (i := 1) rfl, hP.kept (fun k9 q9 hq9 => hK0 q9.1 (hP k9 q9 hq9).lt), va_K.moved hA0 hK, hD⟩, Nat.le_trans hS.1 hZ0, fun q9 h1 h2 => (hK0 q9 (Nat.lt_of_lt_of_le h1 hS.1)).trans (hS.2.1 q9 h1 h2)⟩) hS.2.2 (Nat.le_of_ble_eq_true rfl) (Nat.le_of_ble_eq_true rfl)
    · refine lv_iload hx hb z_d_find_22 (lv_at hl 3 rfl) ?_
      refine lv_bipush (v := 8) hx hb z_d_find_24 (by decide) ?_
      refine lv_icmp_le (tgt := 39) hx hb z_d_find_26 (by decide) (fun c_26 => ?_) (fun c_26 => ?_)
      · obtain ⟨w0, hw, rfl⟩ := ok08_of c_19 c_26
        have hM := (hi.mk k hk).1
        refine lv_iconst (v := 0) hx hb z_d_find_39 (by decide) ?_
        refine lv_istore (lv' := [(5, .int 0), (0, .ref (q 0)), (1, .int (nI k)), (2, .long p0), (4, .int (nI w0))]) hx hb z_d_find_40 hl (by decide) rfl (fun ls hl => ?_)
        refine rd_loopI (nL := 7) (mN v k) (fun i => ∀ j, j < i → ¬ fOK v k p0 w0 j) (fun i => [(0, .ref (q 0)), (1, .int (nI k)), (2, .long p0), (4, .int (nI w0)), (5, .int (nI i))]) ?_ ls (fun j h => absurd h (Nat.not_lt_zero j)) (lv_sub hl [1, 2, 3, 4, 0] rfl)
        intro i ls hle hI hl ih
        have hl : lv_has ls 7 [(0, .ref (q 0)), (1, .int (nI k)), (2, .long p0), (4, .int (nI w0)), (5, .int (nI i))] := hl
        refine lv_iload hx hb z_d_find_42 (lv_at hl 4 rfl) ?_
        refine lv_aload_n hx hb z_d_find_44 rfl (lv_at hl 0 rfl) ?_
        refine va_get (D := (dC, dI)) (ci := 3) (v := .ref (q 6)) (C := R3) (T := T3) (N := 6) hx hb hts (cw_sub iC3) hown hK hP 0 rfl rfl 2 (by decide) (hts _ (cw_in mw_94 rfl)) (fun _ h9 => h9) rfl z_d_find_45 ?_
        refine va_getN (D := (dC, dI)) (ci := 1) (v := .ref (q 7)) (C := R1) (T := T1) (N := 6) hx hb hts (cw_sub iC1) hown hK hP 6 rfl rfl 0 (by decide) (va_Nw.use rfl (hN _ nw_5)) (fun _ h9 => h9) rfl z_d_find_48 ?_
        refine lv_iload_n hx hb z_d_find_51 rfl (lv_at hl 1 rfl) ?_
        refine xa_i hx hb hK hP 7 0 rfl rfl (k := k) (y := nI (mN v k)) (hk) (by decide) ((hi.mk k hk).2) z_d_find_52 ?_
        refine lv_icmp_ge (tgt := 101) hx hb z_d_find_53 (by decide) (fun c_53 => ?_) (fun c_53 => ?_)
        · refine lv_iconst (v := (-1)) hx hb z_d_find_101 (by decide) ?_
          refine W.widen (k := 1) (n := 6) (Nat.le_of_ble_eq_true rfl) (Nat.le_of_ble_eq_true rfl) ?_
          exact vx_ret (W.iret (v := (-1)) hx hb hr (fun t ht hW => ⟨⟨(-1), v, rfl, ⟨rfl, Or.inr (Or.inr ⟨rfl, k, w0, hk, rfl, hw, rfl, Or.inr ⟨fun j hj => hI j (by rw [eq_of_nle hle (by omega) c_53]; exact hj), rfl⟩⟩)⟩, by rw [ht]; exact hP, va_K.moved hW.alike hK, hD⟩, hS.F ht⟩) hS.2.2 z_d_find_102)
        · have hlt : i < mN v k := nlt_of (by omega) c_53
          refine lv_iload_n hx hb z_d_find_56 rfl (lv_at hl 1 rfl) ?_
          refine lv_iload hx hb z_d_find_57 (lv_at hl 4 rfl) ?_
          refine rdSi (As := [.int (nI k), .int (nI i)]) (rest := []) ⟨hx, hb, hml, hown, hts⟩ (c_d_slotOf l k i) mw_125 mw_261 mw_124 mw_1 yd_d_slotOf ⟨⟨rfl, rfl⟩, Nat.le_of_ble_eq_true rfl, Nat.le_of_ble_eq_true rfl⟩ ⟨Nat.le_of_ble_eq_true rfl, Nat.le_of_ble_eq_true rfl⟩ (pre_pure) rfl hl.1 rfl (Nat.le_of_ble_eq_true rfl) z_d_find_59 (fun r_4 h_5 => ?_)
          subst h_5
          refine lv_istore (lv' := [(6, .int (nI (k * 30 + i))), (0, .ref (q 0)), (1, .int (nI k)), (2, .long p0), (4, .int (nI w0)), (5, .int (nI i))]) hx hb z_d_find_62 hl (by decide) rfl (fun ls hl => ?_)
          refine lv_aload_n hx hb z_d_find_64 rfl (lv_at hl 1 rfl) ?_
          refine va_get (D := (dC, dI)) (ci := 3) (v := .ref (q 6)) (C := R3) (T := T3) (N := 6) hx hb hts (cw_sub iC3) hown hK hP 0 rfl rfl 2 (by decide) (hts _ (cw_in mw_94 rfl)) (fun _ h9 => h9) rfl z_d_find_65 ?_
          refine va_getN (D := (dC, dI)) (ci := 1) (v := .ref (q 9)) (C := R1) (T := T1) (N := 6) hx hb hts (cw_sub iC1) hown hK hP 6 rfl rfl 2 (by decide) (va_Nw.use rfl (hN _ nw_7)) (fun _ h9 => h9) rfl z_d_find_68 ?_
          refine lv_iload hx hb z_d_find_71 (lv_at hl 0 rfl) ?_
          refine xa_z hx hb hK hP 9 1 rfl rfl (k := (k * 30 + i)) (y := zop v (k * 30 + i)) (by omega) (by decide) (rfl) z_d_find_73 ?_
          refine lv_if_eq (tgt := 95) hx hb z_d_find_74 (by decide) (fun c_74 => ?_) (fun c_74 => ?_)
          · refine lv_iinc (v := nI (i + 1)) (lv' := [(5, .int (nI (i + 1))), (6, .int (nI (k * 30 + i))), (0, .ref (q 0)), (1, .int (nI k)), (2, .long p0), (4, .int (nI w0))]) hx hb z_d_find_95 hl (k := 5) rfl (by exact nI_1 i) (by decide) rfl (fun ls hl => ?_)
            refine lv_goto (tgt := 42) hx hb z_d_find_98 (by decide) ?_
            exact ih ls hlt (fun j hj => (Nat.lt_succ_iff_lt_or_eq.mp hj).elim (fun h => hI j h) (fun h => by rw [h]; exact fun z => z.1 c_74)) (lv_sub hl [2, 3, 4, 5, 0] rfl)
          · refine lv_aload_n hx hb z_d_find_77 rfl (lv_at hl 1 rfl) ?_
            refine va_get (D := (dC, dI)) (ci := 3) (v := .ref (q 6)) (C := R3) (T := T3) (N := 6) hx hb hts (cw_sub iC3) hown hK hP 0 rfl rfl 2 (by decide) (hts _ (cw_in mw_94 rfl)) (fun _ h9 => h9) rfl z_d_find_78 ?_
            refine lv_iload hx hb z_d_find_81 (lv_at hl 0 rfl) ?_
            refine lv_lload_n hx hb z_d_find_83 rfl (lv_at hl 3 rfl) ?_
            refine lv_iload hx hb z_d_find_84 (lv_at hl 4 rfl) ?_
            refine rdVNi (As := [.int (nI (k * 30 + i)), .long p0, .int (nI w0)]) (rest := []) ⟨hx, hb, hml, hown, hts⟩ (c_s_hasJust l dC dI q cI cZ cB v (k * 30 + i) (by omega) p0 w0 hw) mw_430 (hN _ nw_25) mw_429 mp_23 mw_3 yd_s_hasJust ⟨⟨rfl, rfl⟩, Nat.le_of_ble_eq_true rfl, Nat.le_of_ble_eq_true rfl⟩ ⟨Nat.le_of_ble_eq_true rfl, Nat.le_of_ble_eq_true rfl⟩ (RdC.preV hP hK hN (ci := 1) (q0 := 6) rfl rfl) rfl hl.1 rfl (Nat.le_of_ble_eq_true rfl) z_d_find_86 (fun r_6 h_7 => ?_)
            rcases h_7 with ⟨rfl, h_7⟩ | ⟨rfl, h_7⟩
            · refine lv_if_eq (tgt := 95) hx hb z_d_find_89 (by decide) (fun c9 => absurd c9 (by decide)) (fun _ => ?_)
              refine lv_iload hx hb z_d_find_92 (lv_at hl 5 rfl) ?_
              refine W.widen (k := 1) (n := 6) (Nat.le_of_ble_eq_true rfl) (Nat.le_of_ble_eq_true rfl) ?_
              exact vx_ret (W.iret (v := nI i) hx hb hr (fun t ht hW => ⟨⟨nI i, v, rfl, ⟨rfl, Or.inr (Or.inr ⟨rfl, k, w0, hk, rfl, hw, rfl, Or.inl ⟨i, hlt, ⟨c_74, h_7⟩, hI, rfl⟩⟩)⟩, by rw [ht]; exact hP, va_K.moved hW.alike hK, hD⟩, hS.F ht⟩) hS.2.2 z_d_find_94)
            · refine lv_if_eq (tgt := 95) hx hb z_d_find_89 (by decide) (fun _ => ?_) (fun c9 => absurd (by decide) c9)
              refine lv_iinc (v := nI (i + 1)) (lv' := [(5, .int (nI (i + 1))), (6, .int (nI (k * 30 + i))), (0, .ref (q 0)), (1, .int (nI k)), (2, .long p0), (4, .int (nI w0))]) hx hb z_d_find_95 hl (k := 5) rfl (by exact nI_1 i) (by decide) rfl (fun ls hl => ?_)
              refine lv_goto (tgt := 42) hx hb z_d_find_98 (by decide) ?_
              exact ih ls hlt (fun j hj => (Nat.lt_succ_iff_lt_or_eq.mp hj).elim (fun h => hI j h) (fun h => by rw [h]; exact fun z => h_7 z.2)) (lv_sub hl [2, 3, 4, 5, 0] rfl)
      · obtain ⟨sa_8, hsa_8⟩ := hX.2.2.2 _ sr_137
        exact vx_throwS (own := "ServiceDesk") (cls := "java/lang/IndexOutOfBoundsException") (names := ["java/lang/RuntimeException", "java/lang/Exception"]) hx hb hl0 hown (by decide +kernel) (by decide +kernel) (hts _ (cw_in mw_299 rfl)) (hts _ (cw_in mw_13 rfl)) hsa_8 (xw_1 hts hX.2.2.1) (List.forall_mem_cons.mpr ⟨rfl, List.forall_mem_cons.mpr ⟨rfl, xo_1⟩⟩) hX.1 hX.2.1 hS (hl.1.trans hml.symm) z_d_find_29 z_d_find_32 z_d_find_33 z_d_find_35 z_d_find_38 (fun x9 h9 => (hEx x9 h9).elim) (Nat.le_of_ble_eq_true rfl) (Nat.le_of_ble_eq_true rfl) (Nat.le_of_ble_eq_true rfl) (Nat.le_of_ble_eq_true rfl) hlocks (fun t hA0 hZ0 hK0 => ⟨(2, v), ⟨rfl, Or.inr (Or.inl ⟨rfl, ⟨k, hk, rfl⟩, ok08_no2 c_26⟩)⟩, ⟨List.mem_of_getElem? (i := 1) rfl, hP.kept (fun k9 q9 hq9 => hK0 q9.1 (hP k9 q9 hq9).lt), va_K.moved hA0 hK, hD⟩, Nat.le_trans hS.1 hZ0, fun q9 h1 h2 => (hK0 q9 (Nat.lt_of_lt_of_le h1 hS.1)).trans (hS.2.1 q9 h1 h2)⟩) hS.2.2 (Nat.le_of_ble_eq_true rfl) (Nat.le_of_ble_eq_true rfl)
  · refine lv_if_ne (tgt := 17) hx hb z_d_find_4 (by decide) (fun c9 => absurd rfl c9) (fun _ => ?_)
    obtain ⟨sa_9, hsa_9⟩ := hX.2.2.2 _ sr_46
    exact vx_throwS (own := "ServiceDesk") (cls := "java/lang/IllegalArgumentException") (names := ["java/lang/RuntimeException", "java/lang/Exception"]) hx hb hl0 hown (by decide +kernel) (by decide +kernel) (hts _ (cw_in mw_152 rfl)) (hts _ (cw_in mw_10 rfl)) hsa_9 (xw_0 hts hX.2.2.1) (List.forall_mem_cons.mpr ⟨rfl, List.forall_mem_cons.mpr ⟨rfl, xo_0⟩⟩) hX.1 hX.2.1 hS (hl.1.trans hml.symm) z_d_find_7 z_d_find_10 z_d_find_11 z_d_find_13 z_d_find_16 (fun x9 h9 => (hEx x9 h9).elim) (Nat.le_of_ble_eq_true rfl) (Nat.le_of_ble_eq_true rfl) (Nat.le_of_ble_eq_true rfl) (Nat.le_of_ble_eq_true rfl) hlocks (fun t hA0 hZ0 hK0 => ⟨(1, v), ⟨rfl, Or.inl ⟨rfl, h_2⟩⟩, ⟨List.mem_of_getElem? (i := 0) rfl, hP.kept (fun k9 q9 hq9 => hK0 q9.1 (hP k9 q9 hq9).lt), va_K.moved hA0 hK, hD⟩, Nat.le_trans hS.1 hZ0, fun q9 h1 h2 => (hK0 q9 (Nat.lt_of_lt_of_le h1 hS.1)).trans (hS.2.1 q9 h1 h2)⟩) hS.2.2 (Nat.le_of_ble_eq_true rfl) (Nat.le_of_ble_eq_true rfl)

set_option maxHeartbeats 4000000 in
set_option maxRecDepth 100000 in
theorem c_d_subject (l : Launch) (dC : Nat → ClassId) (dI : Nat → Nat → Nat) (q : Nat → Nat) (cI cZ cB : ClassId) (v : St) (sz : Nat) (hl0 : l.stackTraces = false) (hi : Inv v) (x y w0 : Int32) : vx_Met l y_d_subject (Cond.code y_d_subject b_d_subject 5 (some .int) :: CW) { frames := 6, cells := 1, slots := 6, locals := 82 } (va_Pc [.ref (q 0), .int x, .int y, .int w0] (TxC (dC, dI) sz (wC q cI cZ cB v) (tyC cI cZ cB))) (va_Qi (fun (r : Int32) (u : St) => spSubj v x y w0 0 r u) (fun u => WrB (dC, dI) (wC q cI cZ cB u) (tyC cI cZ cB) (va_A (wC q cI cZ cB v) sz)) (va_A (wC q cI cZ cB v) sz)) (vx_X (fun z9 : Nat × St => spSubj v x y w0 z9.1 0 z9.2) (fun E z9 t => (E, z9.1) ∈ ([("java/lang/IllegalArgumentException", 1)] : List (String × Nat)) ∧ WrB (dC, dI) (wC q cI cZ cB z9.2) (tyC cI cZ cB) (va_A (wC q cI cZ cB v) sz) t) (va_A (wC q cI cZ cB v) sz)) 1 6 (va_A (wC q cI cZ cB v) sz) := by
  refine tx_met (by decide) (Nat.le_of_ble_eq_true rfl) ?_
  intro p e s m below meth c hx hb hr hml hts hown hlocks hEx hC ls hl
  obtain ⟨⟨hsz, hP, hK, hD0, hN⟩, hX⟩ := hC
  subst hsz
  have hD := hD0.self (sz := s.heap.size)
  generalize hAe : va_A (wC q cI cZ cB v) s.heap.size = A at hD hX ⊢
  have hA : ∀ q9 : Nat, s.heap.size ≤ q9 → A q9 := fun q9 h => by rw [← hAe]; exact Or.inr h
  have hS : va_S A s.heap s.heap [] := va_S.rf
  have hown : s.vm.findClass "ServiceDesk" = some m.cls := hown
  have hl : lv_has ls 5 [(0, .ref (q 0)), (1, .int x), (2, .int y), (3, .int w0)] := hl
  refine lv_aload_n hx hb z_d_subject_0 rfl (lv_at hl 0 rfl) ?_
  refine lv_iload_n hx hb z_d_subject_1 rfl (lv_at hl 1 rfl) ?_
  refine lv_iload_n hx hb z_d_subject_2 rfl (lv_at hl 2 rfl) ?_
  refine rdVi (As := [.int x, .int y]) (rest := []) ⟨hx, hb, hml, hown, hts⟩ (c_d_isSubject l dC dI q cI cZ cB v hi x y) mw_255 mw_252 mw_254 mp_7 mw_1 rfl yd_d_isSubject ⟨⟨rfl, rfl⟩, Nat.le_of_ble_eq_true rfl, Nat.le_of_ble_eq_true rfl⟩ ⟨Nat.le_of_ble_eq_true rfl, Nat.le_of_ble_eq_true rfl⟩ (RdC.preV hP hK hN (ci := 3) (q0 := 0) rfl rfl) rfl hl.1 rfl (Nat.le_of_ble_eq_true rfl) z_d_subject_3 (fun r_1 h_2 => ?_)
  rcases h_2 with ⟨rfl, h_2⟩ | ⟨rfl, h_2⟩
  · obtain ⟨k, j, hk, hj, rfl, rfl⟩ := h_2
    have hM := (hi.mk k hk).1
    refine lv_if_eq (tgt := 18) hx hb z_d_subject_6 (by decide) (fun c9 => absurd c9 (by decide)) (fun _ => ?_)
    refine lv_iload_n hx hb z_d_subject_9 rfl (lv_at hl 3 rfl) ?_
    refine lv_if_lt (tgt := 18) hx hb z_d_subject_10 (by decide) (fun c_10 => ?_) (fun c_10 => ?_)
    · obtain ⟨sa_3, hsa_3⟩ := hX.2.2.2 _ sr_162
      exact vx_throwS (own := "ServiceDesk") (cls := "java/lang/IllegalArgumentException") (names := ["java/lang/RuntimeException", "java/lang/Exception"]) hx hb hl0 hown (by decide +kernel) (by decide +kernel) (hts _ (cw_in mw_152 rfl)) (hts _ (cw_in mw_10 rfl)) hsa_3 (xw_0 hts hX.2.2.1) (List.forall_mem_cons.mpr ⟨rfl, List.forall_mem_cons.mpr ⟨rfl, xo_0⟩⟩) hX.1 hX.2.1 hS (hl.1.trans hml.symm) z_d_subject_18 z_d_subject_21 z_d_subject_22 z_d_subject_24 z_d_subject_27 (fun x9 h9 => (hEx x9 h9).elim) (Nat.le_of_ble_eq_true rfl) (Nat.le_of_ble_eq_true rfl) (Nat.le_of_ble_eq_true rfl) (Nat.le_of_ble_eq_true rfl) hlocks (fun t hA0 hZ0 hK0 => ⟨(1, v), ⟨rfl, Or.inl ⟨rfl, fun h => ok03_no1 c_10 h.2⟩⟩, ⟨List.mem_of_getElem? (i := 0) rfl, hP.kept (fun k9 q9 hq9 => hK0 q9.1 (hP k9 q9 hq9).lt), va_K.moved hA0 hK, hD⟩, Nat.le_trans hS.1 hZ0, fun q9 h1 h2 => (hK0 q9 (Nat.lt_of_lt_of_le h1 hS.1)).trans (hS.2.1 q9 h1 h2)⟩) hS.2.2 (Nat.le_of_ble_eq_true rfl) (Nat.le_of_ble_eq_true rfl)
    · refine lv_iload_n hx hb z_d_subject_13 rfl (lv_at hl 3 rfl) ?_
      refine lv_iconst (v := 3) hx hb z_d_subject_14 (by decide) ?_
      refine lv_icmp_le (tgt := 28) hx hb z_d_subject_15 (by decide) (fun c_15 => ?_) (fun c_15 => ?_)
      · refine lv_iload_n hx hb z_d_subject_28 rfl (lv_at hl 1 rfl) ?_
        refine lv_iload_n hx hb z_d_subject_29 rfl (lv_at hl 2 rfl) ?_
        refine rdSi (As := [.int (nI k), .int (nI j)]) (rest := []) ⟨hx, hb, hml, hown, hts⟩ (c_d_slotOf l k j) mw_125 mw_261 mw_124 mw_1 yd_d_slotOf ⟨⟨rfl, rfl⟩, Nat.le_of_ble_eq_true rfl, Nat.le_of_ble_eq_true rfl⟩ ⟨Nat.le_of_ble_eq_true rfl, Nat.le_of_ble_eq_true rfl⟩ (pre_pure) rfl hl.1 rfl (Nat.le_of_ble_eq_true rfl) z_d_subject_30 (fun r_4 h_5 => ?_)
        subst h_5
        refine lv_istore (lv' := [(4, .int (nI (k * 30 + j))), (0, .ref (q 0)), (1, .int (nI k)), (2, .int (nI j)), (3, .int w0)]) hx hb z_d_subject_33 hl (by decide) rfl (fun ls hl => ?_)
        refine lv_iload_n hx hb z_d_subject_35 rfl (lv_at hl 4 rfl) ?_
        rcases ok03_of c_10 c_15 with rfl | rfl | rfl | rfl
        · refine lv_tableIn (tgt := 64) hx hb z_d_subject_36 (by decide) (by decide) rfl (by decide) ?_
          refine lv_aload_n hx hb z_d_subject_64 rfl (lv_at hl 1 rfl) ?_
          refine va_get (D := (dC, dI)) (ci := 3) (v := .ref (q 6)) (C := R3) (T := T3) (N := 6) hx hb hts (cw_sub iC3) hown hK hP 0 rfl rfl 2 (by decide) (hts _ (cw_in mw_94 rfl)) (fun _ h9 => h9) rfl z_d_subject_65 ?_
          refine va_getN (D := (dC, dI)) (ci := 1) (v := .ref (q 8)) (C := R1) (T := T1) (N := 6) hx hb hts (cw_sub iC1) hown hK hP 6 rfl rfl 1 (by decide) (va_Nw.use rfl (hN _ nw_6)) (fun _ h9 => h9) rfl z_d_subject_68 ?_
          refine lv_iload hx hb z_d_subject_71 (lv_at hl 0 rfl) ?_
          refine xa_i hx hb hK hP 8 0 rfl rfl (k := (k * 30 + j)) (y := zab v (k * 30 + j)) (by omega) (by decide) (rfl) z_d_subject_73 ?_
          refine W.widen (k := 1) (n := 6) (Nat.le_of_ble_eq_true rfl) (Nat.le_of_ble_eq_true rfl) ?_
          exact vx_ret (W.iret (v := zab v (k * 30 + j)) hx hb hr (fun t ht hW => ⟨⟨zab v (k * 30 + j), v, rfl, ⟨rfl, Or.inr ⟨rfl, k, j, hk, hj, rfl, rfl, Or.inl ⟨rfl, rfl⟩⟩⟩, by rw [ht]; exact hP, va_K.moved hW.alike hK, hD⟩, hS.F ht⟩) hS.2.2 z_d_subject_74)
        · refine lv_tableIn (tgt := 75) hx hb z_d_subject_36 (by decide) (by decide) rfl (by decide) ?_
          refine lv_aload_n hx hb z_d_subject_75 rfl (lv_at hl 1 rfl) ?_
          refine va_get (D := (dC, dI)) (ci := 3) (v := .ref (q 6)) (C := R3) (T := T3) (N := 6) hx hb hts (cw_sub iC3) hown hK hP 0 rfl rfl 2 (by decide) (hts _ (cw_in mw_94 rfl)) (fun _ h9 => h9) rfl z_d_subject_76 ?_
          refine va_getN (D := (dC, dI)) (ci := 1) (v := .ref (q 9)) (C := R1) (T := T1) (N := 6) hx hb hts (cw_sub iC1) hown hK hP 6 rfl rfl 2 (by decide) (va_Nw.use rfl (hN _ nw_7)) (fun _ h9 => h9) rfl z_d_subject_79 ?_
          refine lv_iload hx hb z_d_subject_82 (lv_at hl 0 rfl) ?_
          refine xa_z hx hb hK hP 9 1 rfl rfl (k := (k * 30 + j)) (y := zop v (k * 30 + j)) (by omega) (by decide) (rfl) z_d_subject_84 ?_
          refine lv_if_eq (tgt := 92) hx hb z_d_subject_85 (by decide) (fun c_85 => ?_) (fun c_85 => ?_)
          · refine lv_iconst (v := 0) hx hb z_d_subject_92 (by decide) ?_
            refine W.widen (k := 1) (n := 6) (Nat.le_of_ble_eq_true rfl) (Nat.le_of_ble_eq_true rfl) ?_
            exact vx_ret (W.iret (v := 0) hx hb hr (fun t ht hW => ⟨⟨0, v, rfl, ⟨rfl, Or.inr ⟨rfl, k, j, hk, hj, rfl, rfl, Or.inr (Or.inl ⟨rfl, by rw [if_pos c_85]⟩)⟩⟩, by rw [ht]; exact hP, va_K.moved hW.alike hK, hD⟩, hS.F ht⟩) hS.2.2 z_d_subject_93)
          · refine lv_iconst (v := 1) hx hb z_d_subject_88 (by decide) ?_
            refine lv_goto (tgt := 93) hx hb z_d_subject_89 (by decide) ?_
            refine W.widen (k := 1) (n := 6) (Nat.le_of_ble_eq_true rfl) (Nat.le_of_ble_eq_true rfl) ?_
            exact vx_ret (W.iret (v := 1) hx hb hr (fun t ht hW => ⟨⟨1, v, rfl, ⟨rfl, Or.inr ⟨rfl, k, j, hk, hj, rfl, rfl, Or.inr (Or.inl ⟨rfl, by rw [if_neg c_85]⟩)⟩⟩, by rw [ht]; exact hP, va_K.moved hW.alike hK, hD⟩, hS.F ht⟩) hS.2.2 z_d_subject_93)
        · refine lv_tableIn (tgt := 94) hx hb z_d_subject_36 (by decide) (by decide) rfl (by decide) ?_
          refine lv_aload_n hx hb z_d_subject_94 rfl (lv_at hl 1 rfl) ?_
          refine va_get (D := (dC, dI)) (ci := 3) (v := .ref (q 6)) (C := R3) (T := T3) (N := 6) hx hb hts (cw_sub iC3) hown hK hP 0 rfl rfl 2 (by decide) (hts _ (cw_in mw_94 rfl)) (fun _ h9 => h9) rfl z_d_subject_95 ?_
          refine va_getN (D := (dC, dI)) (ci := 1) (v := .ref (q 10)) (C := R1) (T := T1) (N := 6) hx hb hts (cw_sub iC1) hown hK hP 6 rfl rfl 3 (by decide) (va_Nw.use rfl (hN _ nw_8)) (fun _ h9 => h9) rfl z_d_subject_98 ?_
          refine lv_iload hx hb z_d_subject_101 (lv_at hl 0 rfl) ?_
          refine xa_i hx hb hK hP 10 0 rfl rfl (k := (k * 30 + j)) (y := zsm v (k * 30 + j)) (by omega) (by decide) (rfl) z_d_subject_103 ?_
          refine W.widen (k := 1) (n := 6) (Nat.le_of_ble_eq_true rfl) (Nat.le_of_ble_eq_true rfl) ?_
          exact vx_ret (W.iret (v := zsm v (k * 30 + j)) hx hb hr (fun t ht hW => ⟨⟨zsm v (k * 30 + j), v, rfl, ⟨rfl, Or.inr ⟨rfl, k, j, hk, hj, rfl, rfl, Or.inr (Or.inr (Or.inl ⟨rfl, rfl⟩))⟩⟩, by rw [ht]; exact hP, va_K.moved hW.alike hK, hD⟩, hS.F ht⟩) hS.2.2 z_d_subject_104)
        · refine lv_tableOut (tgt := 105) hx hb z_d_subject_36 (by decide) (by decide) ?_
          refine lv_aload_n hx hb z_d_subject_105 rfl (lv_at hl 1 rfl) ?_
          refine lv_iload_n hx hb z_d_subject_106 rfl (lv_at hl 2 rfl) ?_
          refine lv_iload_n hx hb z_d_subject_107 rfl (lv_at hl 3 rfl) ?_
          refine rdVi (As := [.int (nI k), .int (nI j)]) (rest := []) ⟨hx, hb, hml, hown, hts⟩ (c_d_openOnesUnder l dC dI q cI cZ cB v hi (nI k) (nI j)) mw_369 mw_366 mw_368 mp_17 mw_1 rfl yd_d_openOnesUnder ⟨⟨rfl, rfl⟩, Nat.le_of_ble_eq_true rfl, Nat.le_of_ble_eq_true rfl⟩ ⟨Nat.le_of_ble_eq_true rfl, Nat.le_of_ble_eq_true rfl⟩ (RdC.preV hP hK hN (ci := 3) (q0 := 0) rfl rfl) rfl hl.1 rfl (Nat.le_of_ble_eq_true rfl) z_d_subject_108 (fun r_6 h_7 => ?_)
          subst h_7
          refine W.widen (k := 1) (n := 6) (Nat.le_of_ble_eq_true rfl) (Nat.le_of_ble_eq_true rfl) ?_
          exact vx_ret (W.iret (v := nI (onC v (nI k) (nI j) 8)) hx hb hr (fun t ht hW => ⟨⟨nI (onC v (nI k) (nI j) 8), v, rfl, ⟨rfl, Or.inr ⟨rfl, k, j, hk, hj, rfl, rfl, Or.inr (Or.inr (Or.inr ⟨rfl, rfl⟩))⟩⟩, by rw [ht]; exact hP, va_K.moved hW.alike hK, hD⟩, hS.F ht⟩) hS.2.2 z_d_subject_111)
      · obtain ⟨sa_8, hsa_8⟩ := hX.2.2.2 _ sr_162
        exact vx_throwS (own := "ServiceDesk") (cls := "java/lang/IllegalArgumentException") (names := ["java/lang/RuntimeException", "java/lang/Exception"]) hx hb hl0 hown (by decide +kernel) (by decide +kernel) (hts _ (cw_in mw_152 rfl)) (hts _ (cw_in mw_10 rfl)) hsa_8 (xw_0 hts hX.2.2.1) (List.forall_mem_cons.mpr ⟨rfl, List.forall_mem_cons.mpr ⟨rfl, xo_0⟩⟩) hX.1 hX.2.1 hS (hl.1.trans hml.symm) z_d_subject_18 z_d_subject_21 z_d_subject_22 z_d_subject_24 z_d_subject_27 (fun x9 h9 => (hEx x9 h9).elim) (Nat.le_of_ble_eq_true rfl) (Nat.le_of_ble_eq_true rfl) (Nat.le_of_ble_eq_true rfl) (Nat.le_of_ble_eq_true rfl) hlocks (fun t hA0 hZ0 hK0 => ⟨(1, v), ⟨rfl, Or.inl ⟨rfl, fun h => ok03_no2 c_15 h.2⟩⟩, ⟨List.mem_of_getElem? (i := 0) rfl, hP.kept (fun k9 q9 hq9 => hK0 q9.1 (hP k9 q9 hq9).lt), va_K.moved hA0 hK, hD⟩, Nat.le_trans hS.1 hZ0, fun q9 h1 h2 => (hK0 q9 (Nat.lt_of_lt_of_le h1 hS.1)).trans (hS.2.1 q9 h1 h2)⟩) hS.2.2 (Nat.le_of_ble_eq_true rfl) (Nat.le_of_ble_eq_true rfl)
  · refine lv_if_eq (tgt := 18) hx hb z_d_subject_6 (by decide) (fun _ => ?_) (fun c9 => absurd (by decide) c9)
    obtain ⟨sa_9, hsa_9⟩ := hX.2.2.2 _ sr_162
    exact vx_throwS (own := "ServiceDesk") (cls := "java/lang/IllegalArgumentException") (names := ["java/lang/RuntimeException", "java/lang/Exception"]) hx hb hl0 hown (by decide +kernel) (by decide +kernel) (hts _ (cw_in mw_152 rfl)) (hts _ (cw_in mw_10 rfl)) hsa_9 (xw_0 hts hX.2.2.1) (List.forall_mem_cons.mpr ⟨rfl, List.forall_mem_cons.mpr ⟨rfl, xo_0⟩⟩) hX.1 hX.2.1 hS (hl.1.trans hml.symm) z_d_subject_18 z_d_subject_21 z_d_subject_22 z_d_subject_24 z_d_subject_27 (fun x9 h9 => (hEx x9 h9).elim) (Nat.le_of_ble_eq_true rfl) (Nat.le_of_ble_eq_true rfl) (Nat.le_of_ble_eq_true rfl) (Nat.le_of_ble_eq_true rfl) hlocks (fun t hA0 hZ0 hK0 => ⟨(1, v), ⟨rfl, Or.inl ⟨rfl, fun h => h_2 h.1⟩⟩, ⟨List.mem_of_getElem? (i := 0) rfl, hP.kept (fun k9 q9 hq9 => hK0 q9.1 (hP k9 q9 hq9).lt), va_K.moved hA0 hK, hD⟩, Nat.le_trans hS.1 hZ0, fun q9 h1 h2 => (hK0 q9 (Nat.lt_of_lt_of_le h1 hS.1)).trans (hS.2.1 q9 h1 h2)⟩) hS.2.2 (Nat.le_of_ble_eq_true rfl) (Nat.le_of_ble_eq_true rfl)

set_option maxHeartbeats 4000000 in
set_option maxRecDepth 100000 in
theorem c_d_row (l : Launch) (dC : Nat → ClassId) (dI : Nat → Nat → Nat) (q : Nat → Nat) (cI cZ cB : ClassId) (v : St) (sz : Nat) (hl0 : l.stackTraces = false) (hi : Inv v) (i0 w0 : Int32) : vx_Met l y_d_row (Cond.code y_d_row b_d_row 3 (some .int) :: CW) { frames := 6, cells := 1, slots := 6, locals := 82 } (va_Pc [.ref (q 0), .int i0, .int w0] (TxC (dC, dI) sz (wC q cI cZ cB v) (tyC cI cZ cB))) (va_Qi (fun (r : Int32) (u : St) => spRow v i0 w0 0 r u) (fun u => WrB (dC, dI) (wC q cI cZ cB u) (tyC cI cZ cB) (va_A (wC q cI cZ cB v) sz)) (va_A (wC q cI cZ cB v) sz)) (vx_X (fun z9 : Nat × St => spRow v i0 w0 z9.1 0 z9.2) (fun E z9 t => (E, z9.1) ∈ ([("java/lang/IllegalArgumentException", 1)] : List (String × Nat)) ∧ WrB (dC, dI) (wC q cI cZ cB z9.2) (tyC cI cZ cB) (va_A (wC q cI cZ cB v) sz) t) (va_A (wC q cI cZ cB v) sz)) 1 6 (va_A (wC q cI cZ cB v) sz) := by
  refine tx_met (by decide) (Nat.le_of_ble_eq_true rfl) ?_
  intro p e s m below meth c hx hb hr hml hts hown hlocks hEx hC ls hl
  obtain ⟨⟨hsz, hP, hK, hD0, hN⟩, hX⟩ := hC
  subst hsz
  have hD := hD0.self (sz := s.heap.size)
  generalize hAe : va_A (wC q cI cZ cB v) s.heap.size = A at hD hX ⊢
  have hA : ∀ q9 : Nat, s.heap.size ≤ q9 → A q9 := fun q9 h => by rw [← hAe]; exact Or.inr h
  have hS : va_S A s.heap s.heap [] := va_S.rf
  have hown : s.vm.findClass "ServiceDesk" = some m.cls := hown
  have hl : lv_has ls 3 [(0, .ref (q 0)), (1, .int i0), (2, .int w0)] := hl
  refine lv_iload_n hx hb z_d_row_0 rfl (lv_at hl 1 rfl) ?_
  refine lv_if_lt (tgt := 24) hx hb z_d_row_1 (by decide) (fun c_1 => ?_) (fun c_1 => ?_)
  · obtain ⟨sa_1, hsa_1⟩ := hX.2.2.2 _ sr_176
    exact vx_throwS (own := "ServiceDesk") (cls := "java/lang/IllegalArgumentException") (names := ["java/lang/RuntimeException", "java/lang/Exception"]) hx hb hl0 hown (by decide +kernel) (by decide +kernel) (hts _ (cw_in mw_152 rfl)) (hts _ (cw_in mw_10 rfl)) hsa_1 (xw_0 hts hX.2.2.1) (List.forall_mem_cons.mpr ⟨rfl, List.forall_mem_cons.mpr ⟨rfl, xo_0⟩⟩) hX.1 hX.2.1 hS (hl.1.trans hml.symm) z_d_row_24 z_d_row_27 z_d_row_28 z_d_row_30 z_d_row_33 (fun x9 h9 => (hEx x9 h9).elim) (Nat.le_of_ble_eq_true rfl) (Nat.le_of_ble_eq_true rfl) (Nat.le_of_ble_eq_true rfl) (Nat.le_of_ble_eq_true rfl) hlocks (fun t hA0 hZ0 hK0 => ⟨(1, v), ⟨rfl, Or.inl ⟨rfl, okR_no1 hi c_1⟩⟩, ⟨List.mem_of_getElem? (i := 0) rfl, hP.kept (fun k9 q9 hq9 => hK0 q9.1 (hP k9 q9 hq9).lt), va_K.moved hA0 hK, hD⟩, Nat.le_trans hS.1 hZ0, fun q9 h1 h2 => (hK0 q9 (Nat.lt_of_lt_of_le h1 hS.1)).trans (hS.2.1 q9 h1 h2)⟩) hS.2.2 (Nat.le_of_ble_eq_true rfl) (Nat.le_of_ble_eq_true rfl)
  · refine lv_iload_n hx hb z_d_row_4 rfl (lv_at hl 1 rfl) ?_
    refine lv_aload_n hx hb z_d_row_5 rfl (lv_at hl 0 rfl) ?_
    refine va_get (D := (dC, dI)) (ci := 3) (v := .ref (q 13)) (C := R3) (T := T3) (N := 6) hx hb hts (cw_sub iC3) hown hK hP 0 rfl rfl 3 (by decide) (hts _ (cw_in mw_95 rfl)) (fun _ h9 => h9) rfl z_d_row_6 ?_
    refine va_getN (D := (dC, dI)) (ci := 0) (v := .int (zkp v)) (C := R0) (T := T0) (N := 2) hx hb hts (cw_sub iC0) hown hK hP 13 rfl rfl 1 (by decide) (va_Nw.use rfl (hN _ nw_12)) (fun _ h9 => h9) rfl z_d_row_9 ?_
    rw [hi.kp.2]
    refine lv_icmp_ge (tgt := 24) hx hb z_d_row_12 (by decide) (fun c_12 => ?_) (fun c_12 => ?_)
    · obtain ⟨sa_2, hsa_2⟩ := hX.2.2.2 _ sr_176
      exact vx_throwS (own := "ServiceDesk") (cls := "java/lang/IllegalArgumentException") (names := ["java/lang/RuntimeException", "java/lang/Exception"]) hx hb hl0 hown (by decide +kernel) (by decide +kernel) (hts _ (cw_in mw_152 rfl)) (hts _ (cw_in mw_10 rfl)) hsa_2 (xw_0 hts hX.2.2.1) (List.forall_mem_cons.mpr ⟨rfl, List.forall_mem_cons.mpr ⟨rfl, xo_0⟩⟩) hX.1 hX.2.1 hS (hl.1.trans hml.symm) z_d_row_24 z_d_row_27 z_d_row_28 z_d_row_30 z_d_row_33 (fun x9 h9 => (hEx x9 h9).elim) (Nat.le_of_ble_eq_true rfl) (Nat.le_of_ble_eq_true rfl) (Nat.le_of_ble_eq_true rfl) (Nat.le_of_ble_eq_true rfl) hlocks (fun t hA0 hZ0 hK0 => ⟨(1, v), ⟨rfl, Or.inl ⟨rfl, okR_no2 hi c_12⟩⟩, ⟨List.mem_of_getElem? (i := 0) rfl, hP.kept (fun k9 q9 hq9 => hK0 q9.1 (hP k9 q9 hq9).lt), va_K.moved hA0 hK, hD⟩, Nat.le_trans hS.1 hZ0, fun q9 h1 h2 => (hK0 q9 (Nat.lt_of_lt_of_le h1 hS.1)).trans (hS.2.1 q9 h1 h2)⟩) hS.2.2 (Nat.le_of_ble_eq_true rfl) (Nat.le_of_ble_eq_true rfl)
    · refine lv_iload_n hx hb z_d_row_15 rfl (lv_at hl 2 rfl) ?_
      refine lv_if_lt (tgt := 24) hx hb z_d_row_16 (by decide) (fun c_16 => ?_) (fun c_16 => ?_)
      · obtain ⟨sa_3, hsa_3⟩ := hX.2.2.2 _ sr_176
        exact vx_throwS (own := "ServiceDesk") (cls := "java/lang/IllegalArgumentException") (names := ["java/lang/RuntimeException", "java/lang/Exception"]) hx hb hl0 hown (by decide +kernel) (by decide +kernel) (hts _ (cw_in mw_152 rfl)) (hts _ (cw_in mw_10 rfl)) hsa_3 (xw_0 hts hX.2.2.1) (List.forall_mem_cons.mpr ⟨rfl, List.forall_mem_cons.mpr ⟨rfl, xo_0⟩⟩) hX.1 hX.2.1 hS (hl.1.trans hml.symm) z_d_row_24 z_d_row_27 z_d_row_28 z_d_row_30 z_d_row_33 (fun x9 h9 => (hEx x9 h9).elim) (Nat.le_of_ble_eq_true rfl) (Nat.le_of_ble_eq_true rfl) (Nat.le_of_ble_eq_true rfl) (Nat.le_of_ble_eq_true rfl) hlocks (fun t hA0 hZ0 hK0 => ⟨(1, v), ⟨rfl, Or.inl ⟨rfl, okR_no3 c_16⟩⟩, ⟨List.mem_of_getElem? (i := 0) rfl, hP.kept (fun k9 q9 hq9 => hK0 q9.1 (hP k9 q9 hq9).lt), va_K.moved hA0 hK, hD⟩, Nat.le_trans hS.1 hZ0, fun q9 h1 h2 => (hK0 q9 (Nat.lt_of_lt_of_le h1 hS.1)).trans (hS.2.1 q9 h1 h2)⟩) hS.2.2 (Nat.le_of_ble_eq_true rfl) (Nat.le_of_ble_eq_true rfl)
      · refine lv_iload_n hx hb z_d_row_19 rfl (lv_at hl 2 rfl) ?_
        refine lv_iconst (v := 5) hx hb z_d_row_20 (by decide) ?_
        refine lv_icmp_lt (tgt := 34) hx hb z_d_row_21 (by decide) (fun c_21 => ?_) (fun c_21 => ?_)
        · obtain ⟨t0, ht0, rfl⟩ := ix_of c_1 c_12
          obtain ⟨z0, hz0, rfl⟩ := ix5_of c_16 c_21
          have hL := hi.kp.1
          refine lv_aload_n hx hb z_d_row_34 rfl (lv_at hl 0 rfl) ?_
          refine va_get (D := (dC, dI)) (ci := 3) (v := .ref (q 13)) (C := R3) (T := T3) (N := 6) hx hb hts (cw_sub iC3) hown hK hP 0 rfl rfl 3 (by decide) (hts _ (cw_in mw_95 rfl)) (fun _ h9 => h9) rfl z_d_row_35 ?_
          refine va_getN (D := (dC, dI)) (ci := 0) (v := .ref (q 14)) (C := R0) (T := T0) (N := 2) hx hb hts (cw_sub iC0) hown hK hP 13 rfl rfl 0 (by decide) (va_Nw.use rfl (hN _ nw_11)) (fun _ h9 => h9) rfl z_d_row_38 ?_
          refine lv_iload_n hx hb z_d_row_41 rfl (lv_at hl 1 rfl) ?_
          refine lv_iconst (v := 5) hx hb z_d_row_42 (by decide) ?_
          refine lv_imul hx hb z_d_row_43 ?_
          refine lv_iload_n hx hb z_d_row_44 rfl (lv_at hl 2 rfl) ?_
          refine lv_iadd hx hb z_d_row_45 ?_
          rw [mul5a_nI]
          refine xa_i hx hb hK hP 14 0 rfl rfl (k := (t0 * 5 + z0)) (y := znu v (t0 * 5 + z0)) (by omega) (by decide) (rfl) z_d_row_46 ?_
          refine W.widen (k := 1) (n := 6) (Nat.le_of_ble_eq_true rfl) (Nat.le_of_ble_eq_true rfl) ?_
          exact vx_ret (W.iret (v := znu v (t0 * 5 + z0)) hx hb hr (fun t ht hW => ⟨⟨znu v (t0 * 5 + z0), v, rfl, ⟨rfl, Or.inr ⟨rfl, t0, z0, ht0, hz0, rfl, rfl, rfl⟩⟩, by rw [ht]; exact hP, va_K.moved hW.alike hK, hD⟩, hS.F ht⟩) hS.2.2 z_d_row_47)
        · obtain ⟨sa_4, hsa_4⟩ := hX.2.2.2 _ sr_176
          exact vx_throwS (own := "ServiceDesk") (cls := "java/lang/IllegalArgumentException") (names := ["java/lang/RuntimeException", "java/lang/Exception"]) hx hb hl0 hown (by decide +kernel) (by decide +kernel) (hts _ (cw_in mw_152 rfl)) (hts _ (cw_in mw_10 rfl)) hsa_4 (xw_0 hts hX.2.2.1) (List.forall_mem_cons.mpr ⟨rfl, List.forall_mem_cons.mpr ⟨rfl, xo_0⟩⟩) hX.1 hX.2.1 hS (hl.1.trans hml.symm) z_d_row_24 z_d_row_27 z_d_row_28 z_d_row_30 z_d_row_33 (fun x9 h9 => (hEx x9 h9).elim) (Nat.le_of_ble_eq_true rfl) (Nat.le_of_ble_eq_true rfl) (Nat.le_of_ble_eq_true rfl) (Nat.le_of_ble_eq_true rfl) hlocks (fun t hA0 hZ0 hK0 => ⟨(1, v), ⟨rfl, Or.inl ⟨rfl, okR_no4 c_21⟩⟩, ⟨List.mem_of_getElem? (i := 0) rfl, hP.kept (fun k9 q9 hq9 => hK0 q9.1 (hP k9 q9 hq9).lt), va_K.moved hA0 hK, hD⟩, Nat.le_trans hS.1 hZ0, fun q9 h1 h2 => (hK0 q9 (Nat.lt_of_lt_of_le h1 hS.1)).trans (hS.2.1 q9 h1 h2)⟩) hS.2.2 (Nat.le_of_ble_eq_true rfl) (Nat.le_of_ble_eq_true rfl)

set_option maxHeartbeats 4000000 in
set_option maxRecDepth 100000 in
theorem c_d_tick (l : Launch) (dC : Nat → ClassId) (dI : Nat → Nat → Nat) (q : Nat → Nat) (cI cZ cB : ClassId) (v : St) (sz : Nat) (hl0 : l.stackTraces = false) (hi : Inv v) (n0 : Int32) : vx_Met l y_d_tick (Cond.code y_d_tick b_d_tick 2 (some .int) :: CW) { frames := 6, cells := 1, slots := 6, locals := 82 } (va_Pc [.ref (q 0), .int n0] (TxC (dC, dI) sz (wC q cI cZ cB v) (tyC cI cZ cB))) (va_Qi (fun (r : Int32) (u : St) => spTick v n0 0 r u) (fun u => WrB (dC, dI) (wC q cI cZ cB u) (tyC cI cZ cB) (va_A (wC q cI cZ cB v) sz)) (va_A (wC q cI cZ cB v) sz)) (vx_X (fun z9 : Nat × St => spTick v n0 z9.1 0 z9.2) (fun E z9 t => (E, z9.1) ∈ ([("java/lang/IndexOutOfBoundsException", 1)] : List (String × Nat)) ∧ WrB (dC, dI) (wC q cI cZ cB z9.2) (tyC cI cZ cB) (va_A (wC q cI cZ cB v) sz) t) (va_A (wC q cI cZ cB v) sz)) 1 6 (va_A (wC q cI cZ cB v) sz) := by
  refine tx_met (by decide) (Nat.le_of_ble_eq_true rfl) ?_
  intro p e s m below meth c hx hb hr hml hts hown hlocks hEx hC ls hl
  obtain ⟨⟨hsz, hP, hK, hD0, hN⟩, hX⟩ := hC
  subst hsz
  have hD := hD0.self (sz := s.heap.size)
  generalize hAe : va_A (wC q cI cZ cB v) s.heap.size = A at hD hX ⊢
  have hA : ∀ q9 : Nat, s.heap.size ≤ q9 → A q9 := fun q9 h => by rw [← hAe]; exact Or.inr h
  have hS : va_S A s.heap s.heap [] := va_S.rf
  have hown : s.vm.findClass "ServiceDesk" = some m.cls := hown
  have hl : lv_has ls 2 [(0, .ref (q 0)), (1, .int n0)] := hl
  refine lv_iload_n hx hb z_d_tick_0 rfl (lv_at hl 1 rfl) ?_
  refine lv_iconst (v := 1) hx hb z_d_tick_1 (by decide) ?_
  refine lv_icmp_lt (tgt := 22) hx hb z_d_tick_2 (by decide) (fun c_2 => ?_) (fun c_2 => ?_)
  · obtain ⟨sa_1, hsa_1⟩ := hX.2.2.2 _ sr_186
    exact vx_throwS (own := "ServiceDesk") (cls := "java/lang/IndexOutOfBoundsException") (names := ["java/lang/RuntimeException", "java/lang/Exception"]) hx hb hl0 hown (by decide +kernel) (by decide +kernel) (hts _ (cw_in mw_299 rfl)) (hts _ (cw_in mw_13 rfl)) hsa_1 (xw_1 hts hX.2.2.1) (List.forall_mem_cons.mpr ⟨rfl, List.forall_mem_cons.mpr ⟨rfl, xo_1⟩⟩) hX.1 hX.2.1 hS (hl.1.trans hml.symm) z_d_tick_22 z_d_tick_25 z_d_tick_26 z_d_tick_28 z_d_tick_31 (fun x9 h9 => (hEx x9 h9).elim) (Nat.le_of_ble_eq_true rfl) (Nat.le_of_ble_eq_true rfl) (Nat.le_of_ble_eq_true rfl) (Nat.le_of_ble_eq_true rfl) hlocks (fun t hA0 hZ0 hK0 => ⟨(1, v), Or.inl ⟨rfl, rfl, okT_no1 c_2⟩, ⟨List.mem_of_getElem? (i := 0) rfl, hP.kept (fun k9 q9 hq9 => hK0 q9.1 (hP k9 q9 hq9).lt), va_K.moved hA0 hK, hD⟩, Nat.le_trans hS.1 hZ0, fun q9 h1 h2 => (hK0 q9 (Nat.lt_of_lt_of_le h1 hS.1)).trans (hS.2.1 q9 h1 h2)⟩) hS.2.2 (Nat.le_of_ble_eq_true rfl) (Nat.le_of_ble_eq_true rfl)
  · refine lv_iload_n hx hb z_d_tick_5 rfl (lv_at hl 1 rfl) ?_
    refine lv_ldc (v := 100000) hx hb hown (hts _ (cw_in mw_454 rfl)) z_d_tick_6 ?_
    refine lv_icmp_gt (tgt := 22) hx hb z_d_tick_8 (by decide) (fun c_8 => ?_) (fun c_8 => ?_)
    · obtain ⟨sa_2, hsa_2⟩ := hX.2.2.2 _ sr_186
      exact vx_throwS (own := "ServiceDesk") (cls := "java/lang/IndexOutOfBoundsException") (names := ["java/lang/RuntimeException", "java/lang/Exception"]) hx hb hl0 hown (by decide +kernel) (by decide +kernel) (hts _ (cw_in mw_299 rfl)) (hts _ (cw_in mw_13 rfl)) hsa_2 (xw_1 hts hX.2.2.1) (List.forall_mem_cons.mpr ⟨rfl, List.forall_mem_cons.mpr ⟨rfl, xo_1⟩⟩) hX.1 hX.2.1 hS (hl.1.trans hml.symm) z_d_tick_22 z_d_tick_25 z_d_tick_26 z_d_tick_28 z_d_tick_31 (fun x9 h9 => (hEx x9 h9).elim) (Nat.le_of_ble_eq_true rfl) (Nat.le_of_ble_eq_true rfl) (Nat.le_of_ble_eq_true rfl) (Nat.le_of_ble_eq_true rfl) hlocks (fun t hA0 hZ0 hK0 => ⟨(1, v), Or.inl ⟨rfl, rfl, okT_no2 c_8⟩, ⟨List.mem_of_getElem? (i := 0) rfl, hP.kept (fun k9 q9 hq9 => hK0 q9.1 (hP k9 q9 hq9).lt), va_K.moved hA0 hK, hD⟩, Nat.le_trans hS.1 hZ0, fun q9 h1 h2 => (hK0 q9 (Nat.lt_of_lt_of_le h1 hS.1)).trans (hS.2.1 q9 h1 h2)⟩) hS.2.2 (Nat.le_of_ble_eq_true rfl) (Nat.le_of_ble_eq_true rfl)
    · refine lv_iload_n hx hb z_d_tick_11 rfl (lv_at hl 1 rfl) ?_
      refine lv_ldc (v := 1000000000) hx hb hown (hts _ (cw_in mw_455 rfl)) z_d_tick_12 ?_
      refine lv_aload_n hx hb z_d_tick_14 rfl (lv_at hl 0 rfl) ?_
      refine va_get (D := (dC, dI)) (ci := 3) (v := .int (zck v)) (C := R3) (T := T3) (N := 6) hx hb hts (cw_sub iC3) hown hK hP 0 rfl rfl 4 (by decide) (hts _ (cw_in mw_96 rfl)) (fun _ h9 => h9) rfl z_d_tick_15 ?_
      refine lv_isub hx hb z_d_tick_18 ?_
      refine lv_icmp_le (tgt := 32) hx hb z_d_tick_19 (by decide) (fun c_19 => ?_) (fun c_19 => ?_)
      · refine lv_aload_n hx hb z_d_tick_32 rfl (lv_at hl 0 rfl) ?_
        refine lv_dup hx hb z_d_tick_33 rfl ?_
        refine va_get (D := (dC, dI)) (ci := 3) (v := .int (zck v)) (C := R3) (T := T3) (N := 6) hx hb hts (cw_sub iC3) hown hK hP 0 rfl rfl 4 (by decide) (hts _ (cw_in mw_96 rfl)) (fun _ h9 => h9) rfl z_d_tick_34 ?_
        refine lv_iload_n hx hb z_d_tick_37 rfl (lv_at hl 1 rfl) ?_
        refine lv_iadd hx hb z_d_tick_38 ?_
        refine va_put (D := (dC, dI)) (ci := 3) (v := .int ((zck v) + n0)) (ty := .int) (C := R3) (T := T3) (N := 6) hx hb hts (cw_sub iC3) ty3 tyok3 nm3 hown hK hP hD hS 0 rfl rfl 4 (by decide) (hts _ (cw_in mw_96 rfl)) (fun _ h9 => h9) rfl (by decide +kernel) rfl rfl (Nat.le_of_ble_eq_true rfl) z_d_tick_39 (fun H locs hP hD hS => ?_)
        have hP : va_P (dC, dI) vwCl (wC q cI cZ cB (uck v ((zck v) + n0))) H := hP
        have hD : va_D A (wC q cI cZ cB (uck v ((zck v) + n0))) := hD
        refine lv_aload_n hx hb z_d_tick_42 rfl (lv_at hl 0 rfl) ?_
        refine va_get (D := (dC, dI)) (ci := 3) (v := .int ((zck v) + n0)) (C := R3) (T := T3) (N := 6) hx hb hts (cw_sub iC3) hown hK hP 0 rfl rfl 4 (by decide) (hts _ (cw_in mw_96 rfl)) (fun _ h9 => h9) rfl z_d_tick_43 ?_
        refine W.widen (k := 1) (n := 6) (Nat.le_of_ble_eq_true rfl) (Nat.le_of_ble_eq_true rfl) ?_
        exact vx_ret (W.iret (v := (zck v) + n0) hx hb hr (fun t ht hW => ⟨⟨(zck v) + n0, uck v ((zck v) + n0), rfl, Or.inr ⟨rfl, okT_of hi c_2 c_8 c_19, rfl, rfl⟩, by rw [ht]; exact hP, va_K.moved hW.alike hK, hD⟩, hS.F ht⟩) hS.2.2 z_d_tick_46)
      · obtain ⟨sa_3, hsa_3⟩ := hX.2.2.2 _ sr_186
        exact vx_throwS (own := "ServiceDesk") (cls := "java/lang/IndexOutOfBoundsException") (names := ["java/lang/RuntimeException", "java/lang/Exception"]) hx hb hl0 hown (by decide +kernel) (by decide +kernel) (hts _ (cw_in mw_299 rfl)) (hts _ (cw_in mw_13 rfl)) hsa_3 (xw_1 hts hX.2.2.1) (List.forall_mem_cons.mpr ⟨rfl, List.forall_mem_cons.mpr ⟨rfl, xo_1⟩⟩) hX.1 hX.2.1 hS (hl.1.trans hml.symm) z_d_tick_22 z_d_tick_25 z_d_tick_26 z_d_tick_28 z_d_tick_31 (fun x9 h9 => (hEx x9 h9).elim) (Nat.le_of_ble_eq_true rfl) (Nat.le_of_ble_eq_true rfl) (Nat.le_of_ble_eq_true rfl) (Nat.le_of_ble_eq_true rfl) hlocks (fun t hA0 hZ0 hK0 => ⟨(1, v), Or.inl ⟨rfl, rfl, okT_no3 hi c_19⟩, ⟨List.mem_of_getElem? (i := 0) rfl, hP.kept (fun k9 q9 hq9 => hK0 q9.1 (hP k9 q9 hq9).lt), va_K.moved hA0 hK, hD⟩, Nat.le_trans hS.1 hZ0, fun q9 h1 h2 => (hK0 q9 (Nat.lt_of_lt_of_le h1 hS.1)).trans (hS.2.1 q9 h1 h2)⟩) hS.2.2 (Nat.le_of_ble_eq_true rfl) (Nat.le_of_ble_eq_true rfl)

set_option maxHeartbeats 4000000 in
set_option maxRecDepth 100000 in
theorem c_d_count (l : Launch) (dC : Nat → ClassId) (dI : Nat → Nat → Nat) (q : Nat → Nat) (cI cZ cB : ClassId) (v : St) (sz : Nat) (hl0 : l.stackTraces = false) (hi : Inv v) (w0 : Int32) : vx_Met l y_d_count (Cond.code y_d_count b_d_count 2 (some .int) :: CW) { frames := 6, cells := 1, slots := 6, locals := 82 } (va_Pc [.ref (q 0), .int w0] (TxC (dC, dI) sz (wC q cI cZ cB v) (tyC cI cZ cB))) (va_Qi (fun (r : Int32) (u : St) => spCount v w0 0 r u) (fun u => WrB (dC, dI) (wC q cI cZ cB u) (tyC cI cZ cB) (va_A (wC q cI cZ cB v) sz)) (va_A (wC q cI cZ cB v) sz)) (vx_X (fun z9 : Nat × St => spCount v w0 z9.1 0 z9.2) (fun E z9 t => (E, z9.1) ∈ ([("java/lang/IllegalArgumentException", 1)] : List (String × Nat)) ∧ WrB (dC, dI) (wC q cI cZ cB z9.2) (tyC cI cZ cB) (va_A (wC q cI cZ cB v) sz) t) (va_A (wC q cI cZ cB v) sz)) 1 6 (va_A (wC q cI cZ cB v) sz) := by
  refine tx_met (by decide) (Nat.le_of_ble_eq_true rfl) ?_
  intro p e s m below meth c hx hb hr hml hts hown hlocks hEx hC ls hl
  obtain ⟨⟨hsz, hP, hK, hD0, hN⟩, hX⟩ := hC
  subst hsz
  have hD := hD0.self (sz := s.heap.size)
  generalize hAe : va_A (wC q cI cZ cB v) s.heap.size = A at hD hX ⊢
  have hA : ∀ q9 : Nat, s.heap.size ≤ q9 → A q9 := fun q9 h => by rw [← hAe]; exact Or.inr h
  have hS : va_S A s.heap s.heap [] := va_S.rf
  have hown : s.vm.findClass "ServiceDesk" = some m.cls := hown
  have hl : lv_has ls 2 [(0, .ref (q 0)), (1, .int w0)] := hl
  refine lv_iload_n hx hb z_d_count_0 rfl (lv_at hl 1 rfl) ?_
  rcases w03 w0 with rfl | rfl | rfl | rfl | ⟨h9, e9⟩
  · refine lv_tableIn (tgt := 32) hx hb z_d_count_1 (by decide) (by decide) rfl (by decide) ?_
    refine lv_aload_n hx hb z_d_count_32 rfl (lv_at hl 0 rfl) ?_
    refine va_get (D := (dC, dI)) (ci := 3) (v := .int (ztn v)) (C := R3) (T := T3) (N := 6) hx hb hts (cw_sub iC3) hown hK hP 0 rfl rfl 5 (by decide) (hts _ (cw_in mw_97 rfl)) (fun _ h9 => h9) rfl z_d_count_33 ?_
    refine W.widen (k := 1) (n := 6) (Nat.le_of_ble_eq_true rfl) (Nat.le_of_ble_eq_true rfl) ?_
    exact vx_ret (W.iret (v := ztn v) hx hb hr (fun t ht hW => ⟨⟨ztn v, v, rfl, ⟨rfl, Or.inr ⟨rfl, Or.inl ⟨rfl, rfl⟩⟩⟩, by rw [ht]; exact hP, va_K.moved hW.alike hK, hD⟩, hS.F ht⟩) hS.2.2 z_d_count_36)
  · refine lv_tableIn (tgt := 37) hx hb z_d_count_1 (by decide) (by decide) rfl (by decide) ?_
    refine lv_aload_n hx hb z_d_count_37 rfl (lv_at hl 0 rfl) ?_
    refine va_get (D := (dC, dI)) (ci := 3) (v := .ref (q 13)) (C := R3) (T := T3) (N := 6) hx hb hts (cw_sub iC3) hown hK hP 0 rfl rfl 3 (by decide) (hts _ (cw_in mw_95 rfl)) (fun _ h9 => h9) rfl z_d_count_38 ?_
    refine va_getN (D := (dC, dI)) (ci := 0) (v := .int (zkp v)) (C := R0) (T := T0) (N := 2) hx hb hts (cw_sub iC0) hown hK hP 13 rfl rfl 1 (by decide) (va_Nw.use rfl (hN _ nw_12)) (fun _ h9 => h9) rfl z_d_count_41 ?_
    refine W.widen (k := 1) (n := 6) (Nat.le_of_ble_eq_true rfl) (Nat.le_of_ble_eq_true rfl) ?_
    exact vx_ret (W.iret (v := zkp v) hx hb hr (fun t ht hW => ⟨⟨zkp v, v, rfl, ⟨rfl, Or.inr ⟨rfl, Or.inr (Or.inl ⟨rfl, rfl⟩)⟩⟩, by rw [ht]; exact hP, va_K.moved hW.alike hK, hD⟩, hS.F ht⟩) hS.2.2 z_d_count_44)
  · refine lv_tableIn (tgt := 45) hx hb z_d_count_1 (by decide) (by decide) rfl (by decide) ?_
    refine lv_aload_n hx hb z_d_count_45 rfl (lv_at hl 0 rfl) ?_
    refine va_get (D := (dC, dI)) (ci := 3) (v := .ref (q 6)) (C := R3) (T := T3) (N := 6) hx hb hts (cw_sub iC3) hown hK hP 0 rfl rfl 2 (by decide) (hts _ (cw_in mw_94 rfl)) (fun _ h9 => h9) rfl z_d_count_46 ?_
    refine rdVNi (As := []) (rest := []) ⟨hx, hb, hml, hown, hts⟩ (c_s_madeInAll l dC dI q cI cZ cB v hi) mw_467 (hN _ nw_26) mw_466 mp_24 mw_3 yd_s_madeInAll ⟨⟨rfl, rfl⟩, Nat.le_of_ble_eq_true rfl, Nat.le_of_ble_eq_true rfl⟩ ⟨Nat.le_of_ble_eq_true rfl, Nat.le_of_ble_eq_true rfl⟩ (RdC.preV hP hK hN (ci := 1) (q0 := 6) rfl rfl) rfl hl.1 rfl (Nat.le_of_ble_eq_true rfl) z_d_count_49 (fun r_1 h_2 => ?_)
    subst h_2
    refine W.widen (k := 1) (n := 6) (Nat.le_of_ble_eq_true rfl) (Nat.le_of_ble_eq_true rfl) ?_
    exact vx_ret (W.iret (v := nI (mkS v 8)) hx hb hr (fun t ht hW => ⟨⟨nI (mkS v 8), v, rfl, ⟨rfl, Or.inr ⟨rfl, Or.inr (Or.inr (Or.inl ⟨rfl, rfl⟩))⟩⟩, by rw [ht]; exact hP, va_K.moved hW.alike hK, hD⟩, hS.F ht⟩) hS.2.2 z_d_count_52)
  · refine lv_tableIn (tgt := 53) hx hb z_d_count_1 (by decide) (by decide) rfl (by decide) ?_
    refine lv_aload_n hx hb z_d_count_53 rfl (lv_at hl 0 rfl) ?_
    refine va_get (D := (dC, dI)) (ci := 3) (v := .ref (q 6)) (C := R3) (T := T3) (N := 6) hx hb hts (cw_sub iC3) hown hK hP 0 rfl rfl 2 (by decide) (hts _ (cw_in mw_94 rfl)) (fun _ h9 => h9) rfl z_d_count_54 ?_
    refine rdVNi (As := []) (rest := []) ⟨hx, hb, hml, hown, hts⟩ (c_s_openInAll l dC dI q cI cZ cB v hi) mw_471 (hN _ nw_27) mw_470 mp_25 mw_3 yd_s_openInAll ⟨⟨rfl, rfl⟩, Nat.le_of_ble_eq_true rfl, Nat.le_of_ble_eq_true rfl⟩ ⟨Nat.le_of_ble_eq_true rfl, Nat.le_of_ble_eq_true rfl⟩ (RdC.preV hP hK hN (ci := 1) (q0 := 6) rfl rfl) rfl hl.1 rfl (Nat.le_of_ble_eq_true rfl) z_d_count_57 (fun r_3 h_4 => ?_)
    subst h_4
    refine W.widen (k := 1) (n := 6) (Nat.le_of_ble_eq_true rfl) (Nat.le_of_ble_eq_true rfl) ?_
    exact vx_ret (W.iret (v := nI (opS v 8)) hx hb hr (fun t ht hW => ⟨⟨nI (opS v 8), v, rfl, ⟨rfl, Or.inr ⟨rfl, Or.inr (Or.inr (Or.inr ⟨rfl, rfl⟩))⟩⟩, by rw [ht]; exact hP, va_K.moved hW.alike hK, hD⟩, hS.F ht⟩) hS.2.2 z_d_count_60)
  · refine lv_tableOut (tgt := 61) hx hb z_d_count_1 e9 (by decide) ?_
    obtain ⟨sa_5, hsa_5⟩ := hX.2.2.2 _ sr_195
    exact vx_throwS (own := "ServiceDesk") (cls := "java/lang/IllegalArgumentException") (names := ["java/lang/RuntimeException", "java/lang/Exception"]) hx hb hl0 hown (by decide +kernel) (by decide +kernel) (hts _ (cw_in mw_152 rfl)) (hts _ (cw_in mw_10 rfl)) hsa_5 (xw_0 hts hX.2.2.1) (List.forall_mem_cons.mpr ⟨rfl, List.forall_mem_cons.mpr ⟨rfl, xo_0⟩⟩) hX.1 hX.2.1 hS (hl.1.trans hml.symm) z_d_count_61 z_d_count_64 z_d_count_65 z_d_count_67 z_d_count_70 (fun x9 h9 => (hEx x9 h9).elim) (Nat.le_of_ble_eq_true rfl) (Nat.le_of_ble_eq_true rfl) (Nat.le_of_ble_eq_true rfl) (Nat.le_of_ble_eq_true rfl) hlocks (fun t hA0 hZ0 hK0 => ⟨(1, v), ⟨rfl, Or.inl ⟨rfl, h9⟩⟩, ⟨List.mem_of_getElem? (i := 0) rfl, hP.kept (fun k9 q9 hq9 => hK0 q9.1 (hP k9 q9 hq9).lt), va_K.moved hA0 hK, hD⟩, Nat.le_trans hS.1 hZ0, fun q9 h1 h2 => (hK0 q9 (Nat.lt_of_lt_of_le h1 hS.1)).trans (hS.2.1 q9 h1 h2)⟩) hS.2.2 (Nat.le_of_ble_eq_true rfl) (Nat.le_of_ble_eq_true rfl)
end
