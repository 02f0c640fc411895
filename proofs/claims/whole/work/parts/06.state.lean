theorem yd_d_init : yD y_d_init 0 := ⟨by decide +kernel, by decide +kernel, by decide +kernel⟩
theorem yd_w_init : yD y_w_init 0 := ⟨by decide +kernel, by decide +kernel, by decide +kernel⟩
theorem yd_s_init : yD y_s_init 0 := ⟨by decide +kernel, by decide +kernel, by decide +kernel⟩
theorem yd_r_init : yD y_r_init 0 := ⟨by decide +kernel, by decide +kernel, by decide +kernel⟩
theorem yd_J_fill : yD y_J_fill 2 := ⟨by decide +kernel, by decide +kernel, by decide +kernel⟩
theorem yd_d_book : yD y_d_book 0 := ⟨by decide +kernel, by decide +kernel, by decide +kernel⟩
theorem yd_d_stir : yD y_d_stir 2 := ⟨by decide +kernel, by decide +kernel, by decide +kernel⟩
theorem yd_s_stirKind : yD y_s_stirKind 2 := ⟨by decide +kernel, by decide +kernel, by decide +kernel⟩
theorem yd_d_slotOf : yD y_d_slotOf 2 := ⟨by decide +kernel, by decide +kernel, by decide +kernel⟩
theorem yd_s_stirOne : yD y_s_stirOne 2 := ⟨by decide +kernel, by decide +kernel, by decide +kernel⟩
theorem yd_s_byteAt : yD y_s_byteAt 2 := ⟨by decide +kernel, by decide +kernel, by decide +kernel⟩
theorem yd_r_stirAll : yD y_r_stirAll 1 := ⟨by decide +kernel, by decide +kernel, by decide +kernel⟩
theorem yd_L_under : yD y_L_under 3 := ⟨by decide +kernel, by decide +kernel, by decide +kernel⟩
theorem yd_d_under : yD y_d_under 2 := ⟨by decide +kernel, by decide +kernel, by decide +kernel⟩
theorem yd_d_isKind : yD y_d_isKind 1 := ⟨by decide +kernel, by decide +kernel, by decide +kernel⟩
theorem yd_d_isAtOrUnder : yD y_d_isAtOrUnder 2 := ⟨by decide +kernel, by decide +kernel, by decide +kernel⟩
theorem yd_L_make : yD y_L_make 4 := ⟨by decide +kernel, by decide +kernel, by decide +kernel⟩
theorem yd_d_make : yD y_d_make 2 := ⟨by decide +kernel, by decide +kernel, by decide +kernel⟩
theorem yd_d_canBeAbove : yD y_d_canBeAbove 2 := ⟨by decide +kernel, by decide +kernel, by decide +kernel⟩
theorem yd_d_isSubject : yD y_d_isSubject 2 := ⟨by decide +kernel, by decide +kernel, by decide +kernel⟩
theorem yd_d_slotOrNone : yD y_d_slotOrNone 2 := ⟨by decide +kernel, by decide +kernel, by decide +kernel⟩
theorem yd_s_add : yD y_s_add 2 := ⟨by decide +kernel, by decide +kernel, by decide +kernel⟩
theorem yd_L_verb : yD y_L_verb 6 := ⟨by decide +kernel, by decide +kernel, by decide +kernel⟩
theorem yd_d_verb : yD y_d_verb 5 := ⟨by decide +kernel, by decide +kernel, by decide +kernel⟩
theorem yd_d_isVerb : yD y_d_isVerb 1 := ⟨by decide +kernel, by decide +kernel, by decide +kernel⟩
theorem yd_d_isWithin : yD y_d_isWithin 2 := ⟨by decide +kernel, by decide +kernel, by decide +kernel⟩
theorem yd_w_set : yD y_w_set 4 := ⟨by decide +kernel, by decide +kernel, by decide +kernel⟩
theorem yd_L_call : yD y_L_call 6 := ⟨by decide +kernel, by decide +kernel, by decide +kernel⟩
theorem yd_d_call : yD y_d_call 4 := ⟨by decide +kernel, by decide +kernel, by decide +kernel⟩
theorem yd_d_refusalOf : yD y_d_refusalOf 4 := ⟨by decide +kernel, by decide +kernel, by decide +kernel⟩
theorem yd_r_tell : yD y_r_tell 5 := ⟨by decide +kernel, by decide +kernel, by decide +kernel⟩
theorem yd_d_refuse : yD y_d_refuse 1 := ⟨by decide +kernel, by decide +kernel, by decide +kernel⟩
theorem yd_d_answerTo : yD y_d_answerTo 4 := ⟨by decide +kernel, by decide +kernel, by decide +kernel⟩
theorem yd_d_sumOrFailure : yD y_d_sumOrFailure 1 := ⟨by decide +kernel, by decide +kernel, by decide +kernel⟩
theorem yd_d_slotAbove : yD y_d_slotAbove 2 := ⟨by decide +kernel, by decide +kernel, by decide +kernel⟩
theorem yd_d_answerToPass : yD y_d_answerToPass 2 := ⟨by decide +kernel, by decide +kernel, by decide +kernel⟩
theorem yd_d_answerToClose : yD y_d_answerToClose 2 := ⟨by decide +kernel, by decide +kernel, by decide +kernel⟩
theorem yd_d_openOnesUnder : yD y_d_openOnesUnder 2 := ⟨by decide +kernel, by decide +kernel, by decide +kernel⟩
theorem yd_s_openUnder : yD y_s_openUnder 2 := ⟨by decide +kernel, by decide +kernel, by decide +kernel⟩
theorem yd_s_openOf : yD y_s_openOf 1 := ⟨by decide +kernel, by decide +kernel, by decide +kernel⟩
theorem yd_d_carryOut : yD y_d_carryOut 4 := ⟨by decide +kernel, by decide +kernel, by decide +kernel⟩
theorem yd_d_setSum : yD y_d_setSum 2 := ⟨by decide +kernel, by decide +kernel, by decide +kernel⟩
theorem yd_L_simulate : yD y_L_simulate 6 := ⟨by decide +kernel, by decide +kernel, by decide +kernel⟩
theorem yd_d_simulate : yD y_d_simulate 4 := ⟨by decide +kernel, by decide +kernel, by decide +kernel⟩
theorem yd_L_text : yD y_L_text 6 := ⟨by decide +kernel, by decide +kernel, by decide +kernel⟩
theorem yd_d_text : yD y_d_text 4 := ⟨by decide +kernel, by decide +kernel, by decide +kernel⟩
theorem yd_s_lengthen : yD y_s_lengthen 3 := ⟨by decide +kernel, by decide +kernel, by decide +kernel⟩
theorem yd_s_byteOf : yD y_s_byteOf 3 := ⟨by decide +kernel, by decide +kernel, by decide +kernel⟩
theorem yd_L_textAt : yD y_L_textAt 5 := ⟨by decide +kernel, by decide +kernel, by decide +kernel⟩
theorem yd_d_textAt : yD y_d_textAt 3 := ⟨by decide +kernel, by decide +kernel, by decide +kernel⟩
theorem yd_L_find : yD y_L_find 5 := ⟨by decide +kernel, by decide +kernel, by decide +kernel⟩
theorem yd_d_find : yD y_d_find 3 := ⟨by decide +kernel, by decide +kernel, by decide +kernel⟩
theorem yd_s_hasJust : yD y_s_hasJust 3 := ⟨by decide +kernel, by decide +kernel, by decide +kernel⟩
theorem yd_L_subject : yD y_L_subject 5 := ⟨by decide +kernel, by decide +kernel, by decide +kernel⟩
theorem yd_d_subject : yD y_d_subject 3 := ⟨by decide +kernel, by decide +kernel, by decide +kernel⟩
theorem yd_L_row : yD y_L_row 4 := ⟨by decide +kernel, by decide +kernel, by decide +kernel⟩
theorem yd_d_row : yD y_d_row 2 := ⟨by decide +kernel, by decide +kernel, by decide +kernel⟩
theorem yd_L_tick : yD y_L_tick 3 := ⟨by decide +kernel, by decide +kernel, by decide +kernel⟩
theorem yd_d_tick : yD y_d_tick 1 := ⟨by decide +kernel, by decide +kernel, by decide +kernel⟩
theorem yd_L_count : yD y_L_count 3 := ⟨by decide +kernel, by decide +kernel, by decide +kernel⟩
theorem yd_d_count : yD y_d_count 1 := ⟨by decide +kernel, by decide +kernel, by decide +kernel⟩
theorem yd_s_madeInAll : yD y_s_madeInAll 0 := ⟨by decide +kernel, by decide +kernel, by decide +kernel⟩
theorem yd_s_openInAll : yD y_s_openInAll 0 := ⟨by decide +kernel, by decide +kernel, by decide +kernel⟩
theorem yd_m_init : yD y_m_init 0 := ⟨by decide +kernel, by decide +kernel, by decide +kernel⟩
theorem yd_m_thrown : yD y_m_thrown 0 := ⟨by decide +kernel, by decide +kernel, by decide +kernel⟩
theorem yd_m_under : yD y_m_under 2 := ⟨by decide +kernel, by decide +kernel, by decide +kernel⟩
theorem yd_m_isKind : yD y_m_isKind 1 := ⟨by decide +kernel, by decide +kernel, by decide +kernel⟩
theorem yd_m_in : yD y_m_in 3 := ⟨by decide +kernel, by decide +kernel, by decide +kernel⟩
theorem yd_m_reaches : yD y_m_reaches 2 := ⟨by decide +kernel, by decide +kernel, by decide +kernel⟩
theorem yd_m_throwing : yD y_m_throwing 4 := ⟨by decide +kernel, by decide +kernel, by decide +kernel⟩
theorem yd_m_make : yD y_m_make 2 := ⟨by decide +kernel, by decide +kernel, by decide +kernel⟩
theorem yd_m_isSubject : yD y_m_isSubject 2 := ⟨by decide +kernel, by decide +kernel, by decide +kernel⟩
theorem yd_m_verb : yD y_m_verb 5 := ⟨by decide +kernel, by decide +kernel, by decide +kernel⟩
theorem yd_m_call : yD y_m_call 4 := ⟨by decide +kernel, by decide +kernel, by decide +kernel⟩
theorem yd_m_refuses : yD y_m_refuses 4 := ⟨by decide +kernel, by decide +kernel, by decide +kernel⟩
theorem yd_m_tell : yD y_m_tell 4 := ⟨by decide +kernel, by decide +kernel, by decide +kernel⟩
theorem yd_m_workOut : yD y_m_workOut 4 := ⟨by decide +kernel, by decide +kernel, by decide +kernel⟩
theorem yd_m_change : yD y_m_change 2 := ⟨by decide +kernel, by decide +kernel, by decide +kernel⟩
theorem yd_m_isSum : yD y_m_isSum 1 := ⟨by decide +kernel, by decide +kernel, by decide +kernel⟩
theorem yd_m_openUnder : yD y_m_openUnder 2 := ⟨by decide +kernel, by decide +kernel, by decide +kernel⟩
theorem yd_m_openOf : yD y_m_openOf 1 := ⟨by decide +kernel, by decide +kernel, by decide +kernel⟩
theorem yd_m_simulate : yD y_m_simulate 4 := ⟨by decide +kernel, by decide +kernel, by decide +kernel⟩
theorem yd_m_text : yD y_m_text 4 := ⟨by decide +kernel, by decide +kernel, by decide +kernel⟩
theorem yd_m_textAt : yD y_m_textAt 3 := ⟨by decide +kernel, by decide +kernel, by decide +kernel⟩
theorem yd_m_find : yD y_m_find 3 := ⟨by decide +kernel, by decide +kernel, by decide +kernel⟩
theorem yd_m_subject : yD y_m_subject 3 := ⟨by decide +kernel, by decide +kernel, by decide +kernel⟩
theorem yd_m_row : yD y_m_row 2 := ⟨by decide +kernel, by decide +kernel, by decide +kernel⟩
theorem yd_m_tick : yD y_m_tick 1 := ⟨by decide +kernel, by decide +kernel, by decide +kernel⟩
theorem yd_m_count : yD y_m_count 1 := ⟨by decide +kernel, by decide +kernel, by decide +kernel⟩
theorem yd_m_book : yD y_m_book 0 := ⟨by decide +kernel, by decide +kernel, by decide +kernel⟩
theorem yd_m_with : yD y_m_with 2 := ⟨by decide +kernel, by decide +kernel, by decide +kernel⟩
theorem iT0 : ∀ w ∈ u_ws R0 T0 2, w ∈ lw_tbl := by decide +kernel
theorem iG0 : ∀ w ∈ u_ws R0 T0 2, goodWord w = true := by decide +kernel
theorem iC0 : ∀ w ∈ u_ws R0 T0 2, w ∈ CW := fun w h => List.mem_filter.mpr ⟨iT0 w h, iG0 w h⟩
theorem iT1 : ∀ w ∈ u_ws R1 T1 6, w ∈ lw_tbl := by decide +kernel
theorem iG1 : ∀ w ∈ u_ws R1 T1 6, goodWord w = true := by decide +kernel
theorem iC1 : ∀ w ∈ u_ws R1 T1 6, w ∈ CW := fun w h => List.mem_filter.mpr ⟨iT1 w h, iG1 w h⟩
theorem iT2 : ∀ w ∈ u_ws R2 T2 3, w ∈ lw_tbl := by decide +kernel
theorem iG2 : ∀ w ∈ u_ws R2 T2 3, goodWord w = true := by decide +kernel
theorem iC2 : ∀ w ∈ u_ws R2 T2 3, w ∈ CW := fun w h => List.mem_filter.mpr ⟨iT2 w h, iG2 w h⟩
theorem iT3 : ∀ w ∈ u_ws R3 T3 6, w ∈ lw_tbl := by decide +kernel
theorem iG3 : ∀ w ∈ u_ws R3 T3 6, goodWord w = true := by decide +kernel
theorem iC3 : ∀ w ∈ u_ws R3 T3 6, w ∈ CW := fun w h => List.mem_filter.mpr ⟨iT3 w h, iG3 w h⟩
theorem iT4 : ∀ w ∈ u_ws R4 T4 17, w ∈ lw_tbl := by decide +kernel
theorem iG4 : ∀ w ∈ u_ws R4 T4 17, goodWord w = true := by decide +kernel
theorem iC4 : ∀ w ∈ u_ws R4 T4 17, w ∈ CW := fun w h => List.mem_filter.mpr ⟨iT4 w h, iG4 w h⟩
/-- the links across the nest -/
def nwL : List Cond := [Cond.methodLinkNest "ServiceDesk" 15 y_w_init "ServiceDesk", Cond.fieldLinkNest "ServiceDesk" 208 "ServiceDesk$Verbs" "modes" "[I" "ServiceDesk", Cond.fieldLinkNest "ServiceDesk" 217 "ServiceDesk$Verbs" "as" "[I" "ServiceDesk", Cond.fieldLinkNest "ServiceDesk" 220 "ServiceDesk$Verbs" "bs" "[I" "ServiceDesk", Cond.methodLinkNest "ServiceDesk" 22 y_s_init "ServiceDesk", Cond.fieldLinkNest "ServiceDesk" 51 "ServiceDesk$Subjects" "made" "[I" "ServiceDesk", Cond.fieldLinkNest "ServiceDesk" 164 "ServiceDesk$Subjects" "aboves" "[I" "ServiceDesk", Cond.fieldLinkNest "ServiceDesk" 72 "ServiceDesk$Subjects" "open" "[Z" "ServiceDesk", Cond.fieldLinkNest "ServiceDesk" 167 "ServiceDesk$Subjects" "sums" "[I" "ServiceDesk", Cond.fieldLinkNest "ServiceDesk" 144 "ServiceDesk$Subjects" "lengths" "[I" "ServiceDesk", Cond.methodLinkNest "ServiceDesk" 29 y_r_init "ServiceDesk", Cond.fieldLinkNest "ServiceDesk" 178 "ServiceDesk$Rows" "numbers" "[I" "ServiceDesk", Cond.fieldLinkNest "ServiceDesk" 173 "ServiceDesk$Rows" "kept" "I" "ServiceDesk", Cond.methodLinkNest "ServiceDesk" 200 y_s_stirKind "ServiceDesk", Cond.methodLinkNest "ServiceDesk$Subjects" 32 y_d_slotOf "ServiceDesk", Cond.methodLinkNest "ServiceDesk$Subjects" 50 y_d_stir "ServiceDesk", Cond.methodLinkNest "ServiceDesk" 203 y_r_stirAll "ServiceDesk", Cond.methodLinkNest "ServiceDesk$Rows" 19 y_d_stir "ServiceDesk", Cond.methodLinkNest "ServiceDesk" 83 y_s_add "ServiceDesk", Cond.methodLinkNest "ServiceDesk" 102 y_w_set "ServiceDesk", Cond.methodLinkNest "ServiceDesk" 114 y_r_tell "ServiceDesk", Cond.methodLinkNest "ServiceDesk" 256 y_s_openUnder "ServiceDesk", Cond.methodLinkNest "ServiceDesk" 249 y_s_openOf "ServiceDesk", Cond.methodLinkNest "ServiceDesk" 149 y_s_lengthen "ServiceDesk", Cond.methodLinkNest "ServiceDesk" 155 y_s_byteAt "ServiceDesk", Cond.methodLinkNest "ServiceDesk" 158 y_s_hasJust "ServiceDesk", Cond.methodLinkNest "ServiceDesk" 188 y_s_madeInAll "ServiceDesk", Cond.methodLinkNest "ServiceDesk" 192 y_s_openInAll "ServiceDesk"]
theorem nw_0 : Cond.methodLinkNest "ServiceDesk" 15 y_w_init "ServiceDesk" ∈ nwL := List.mem_of_getElem? (i := 0) rfl
theorem nw_1 : Cond.fieldLinkNest "ServiceDesk" 208 "ServiceDesk$Verbs" "modes" "[I" "ServiceDesk" ∈ nwL := List.mem_of_getElem? (i := 1) rfl
theorem nw_2 : Cond.fieldLinkNest "ServiceDesk" 217 "ServiceDesk$Verbs" "as" "[I" "ServiceDesk" ∈ nwL := List.mem_of_getElem? (i := 2) rfl
theorem nw_3 : Cond.fieldLinkNest "ServiceDesk" 220 "ServiceDesk$Verbs" "bs" "[I" "ServiceDesk" ∈ nwL := List.mem_of_getElem? (i := 3) rfl
theorem nw_4 : Cond.methodLinkNest "ServiceDesk" 22 y_s_init "ServiceDesk" ∈ nwL := List.mem_of_getElem? (i := 4) rfl
theorem nw_5 : Cond.fieldLinkNest "ServiceDesk" 51 "ServiceDesk$Subjects" "made" "[I" "ServiceDesk" ∈ nwL := List.mem_of_getElem? (i := 5) rfl
theorem nw_6 : Cond.fieldLinkNest "ServiceDesk" 164 "ServiceDesk$Subjects" "aboves" "[I" "ServiceDesk" ∈ nwL := List.mem_of_getElem? (i := 6) rfl
theorem nw_7 : Cond.fieldLinkNest "ServiceDesk" 72 "ServiceDesk$Subjects" "open" "[Z" "ServiceDesk" ∈ nwL := List.mem_of_getElem? (i := 7) rfl
theorem nw_8 : Cond.fieldLinkNest "ServiceDesk" 167 "ServiceDesk$Subjects" "sums" "[I" "ServiceDesk" ∈ nwL := List.mem_of_getElem? (i := 8) rfl
theorem nw_9 : Cond.fieldLinkNest "ServiceDesk" 144 "ServiceDesk$Subjects" "lengths" "[I" "ServiceDesk" ∈ nwL := List.mem_of_getElem? (i := 9) rfl
theorem nw_10 : Cond.methodLinkNest "ServiceDesk" 29 y_r_init "ServiceDesk" ∈ nwL := List.mem_of_getElem? (i := 10) rfl
theorem nw_11 : Cond.fieldLinkNest "ServiceDesk" 178 "ServiceDesk$Rows" "numbers" "[I" "ServiceDesk" ∈ nwL := List.mem_of_getElem? (i := 11) rfl
theorem nw_12 : Cond.fieldLinkNest "ServiceDesk" 173 "ServiceDesk$Rows" "kept" "I" "ServiceDesk" ∈ nwL := List.mem_of_getElem? (i := 12) rfl
theorem nw_13 : Cond.methodLinkNest "ServiceDesk" 200 y_s_stirKind "ServiceDesk" ∈ nwL := List.mem_of_getElem? (i := 13) rfl
theorem nw_14 : Cond.methodLinkNest "ServiceDesk$Subjects" 32 y_d_slotOf "ServiceDesk" ∈ nwL := List.mem_of_getElem? (i := 14) rfl
theorem nw_15 : Cond.methodLinkNest "ServiceDesk$Subjects" 50 y_d_stir "ServiceDesk" ∈ nwL := List.mem_of_getElem? (i := 15) rfl
theorem nw_16 : Cond.methodLinkNest "ServiceDesk" 203 y_r_stirAll "ServiceDesk" ∈ nwL := List.mem_of_getElem? (i := 16) rfl
theorem nw_17 : Cond.methodLinkNest "ServiceDesk$Rows" 19 y_d_stir "ServiceDesk" ∈ nwL := List.mem_of_getElem? (i := 17) rfl
theorem nw_18 : Cond.methodLinkNest "ServiceDesk" 83 y_s_add "ServiceDesk" ∈ nwL := List.mem_of_getElem? (i := 18) rfl
theorem nw_19 : Cond.methodLinkNest "ServiceDesk" 102 y_w_set "ServiceDesk" ∈ nwL := List.mem_of_getElem? (i := 19) rfl
theorem nw_20 : Cond.methodLinkNest "ServiceDesk" 114 y_r_tell "ServiceDesk" ∈ nwL := List.mem_of_getElem? (i := 20) rfl
theorem nw_21 : Cond.methodLinkNest "ServiceDesk" 256 y_s_openUnder "ServiceDesk" ∈ nwL := List.mem_of_getElem? (i := 21) rfl
theorem nw_22 : Cond.methodLinkNest "ServiceDesk" 249 y_s_openOf "ServiceDesk" ∈ nwL := List.mem_of_getElem? (i := 22) rfl
theorem nw_23 : Cond.methodLinkNest "ServiceDesk" 149 y_s_lengthen "ServiceDesk" ∈ nwL := List.mem_of_getElem? (i := 23) rfl
theorem nw_24 : Cond.methodLinkNest "ServiceDesk" 155 y_s_byteAt "ServiceDesk" ∈ nwL := List.mem_of_getElem? (i := 24) rfl
theorem nw_25 : Cond.methodLinkNest "ServiceDesk" 158 y_s_hasJust "ServiceDesk" ∈ nwL := List.mem_of_getElem? (i := 25) rfl
theorem nw_26 : Cond.methodLinkNest "ServiceDesk" 188 y_s_madeInAll "ServiceDesk" ∈ nwL := List.mem_of_getElem? (i := 26) rfl
theorem nw_27 : Cond.methodLinkNest "ServiceDesk" 192 y_s_openInAll "ServiceDesk" ∈ nwL := List.mem_of_getElem? (i := 27) rfl
def NW (U : State) : Prop := ∀ w ∈ nwL, va_Nw w U
theorem nw_tbl : ∀ w ∈ nwL, w ∈ lw_tbl := List.forall_mem_cons.mpr ⟨mw_24, List.forall_mem_cons.mpr ⟨mw_29, List.forall_mem_cons.mpr ⟨mw_31, List.forall_mem_cons.mpr ⟨mw_33, List.forall_mem_cons.mpr ⟨mw_44, List.forall_mem_cons.mpr ⟨mw_49, List.forall_mem_cons.mpr ⟨mw_51, List.forall_mem_cons.mpr ⟨mw_53, List.forall_mem_cons.mpr ⟨mw_55, List.forall_mem_cons.mpr ⟨mw_57, List.forall_mem_cons.mpr ⟨mw_76, List.forall_mem_cons.mpr ⟨mw_81, List.forall_mem_cons.mpr ⟨mw_83, List.forall_mem_cons.mpr ⟨mw_119, List.forall_mem_cons.mpr ⟨mw_123, List.forall_mem_cons.mpr ⟨mw_130, List.forall_mem_cons.mpr ⟨mw_135, List.forall_mem_cons.mpr ⟨mw_139, List.forall_mem_cons.mpr ⟨mw_279, List.forall_mem_cons.mpr ⟨mw_315, List.forall_mem_cons.mpr ⟨mw_331, List.forall_mem_cons.mpr ⟨mw_370, List.forall_mem_cons.mpr ⟨mw_375, List.forall_mem_cons.mpr ⟨mw_404, List.forall_mem_cons.mpr ⟨mw_419, List.forall_mem_cons.mpr ⟨mw_427, List.forall_mem_cons.mpr ⟨mw_464, List.forall_mem_cons.mpr ⟨mw_468, fun _ h => absurd h List.not_mem_nil⟩⟩⟩⟩⟩⟩⟩⟩⟩⟩⟩⟩⟩⟩⟩⟩⟩⟩⟩⟩⟩⟩⟩⟩⟩⟩⟩⟩
theorem nw_tabs : ∀ w ∈ nwL, w.onTables = true := List.forall_mem_cons.mpr ⟨rfl, List.forall_mem_cons.mpr ⟨rfl, List.forall_mem_cons.mpr ⟨rfl, List.forall_mem_cons.mpr ⟨rfl, List.forall_mem_cons.mpr ⟨rfl, List.forall_mem_cons.mpr ⟨rfl, List.forall_mem_cons.mpr ⟨rfl, List.forall_mem_cons.mpr ⟨rfl, List.forall_mem_cons.mpr ⟨rfl, List.forall_mem_cons.mpr ⟨rfl, List.forall_mem_cons.mpr ⟨rfl, List.forall_mem_cons.mpr ⟨rfl, List.forall_mem_cons.mpr ⟨rfl, List.forall_mem_cons.mpr ⟨rfl, List.forall_mem_cons.mpr ⟨rfl, List.forall_mem_cons.mpr ⟨rfl, List.forall_mem_cons.mpr ⟨rfl, List.forall_mem_cons.mpr ⟨rfl, List.forall_mem_cons.mpr ⟨rfl, List.forall_mem_cons.mpr ⟨rfl, List.forall_mem_cons.mpr ⟨rfl, List.forall_mem_cons.mpr ⟨rfl, List.forall_mem_cons.mpr ⟨rfl, List.forall_mem_cons.mpr ⟨rfl, List.forall_mem_cons.mpr ⟨rfl, List.forall_mem_cons.mpr ⟨rfl, List.forall_mem_cons.mpr ⟨rfl, List.forall_mem_cons.mpr ⟨rfl, fun _ h => absurd h List.not_mem_nil⟩⟩⟩⟩⟩⟩⟩⟩⟩⟩⟩⟩⟩⟩⟩⟩⟩⟩⟩⟩⟩⟩⟩⟩⟩⟩⟩⟩
theorem NW.of {args : Array Value} {s : State} (hts : ∀ w ∈ lw_tbl, w.before args s = true) : NW s := fun w h => va_Nw.of (nw_tabs w h) (hts w (nw_tbl w h))
theorem NW.same {u U : State} (h : u.vm = U.vm) (hN : NW u) : NW U := fun w hw => va_Nw.same (nw_tabs w hw) h (hN w hw)
theorem NW.warm {s U : State} (hW : s.WarmedH U.vm) (hN : NW s) : NW U := List.forall_mem_cons.mpr ⟨va_Nw.warmM hW (hN _ nw_0), List.forall_mem_cons.mpr ⟨va_Nw.warmF hW (hN _ nw_1), List.forall_mem_cons.mpr ⟨va_Nw.warmF hW (hN _ nw_2), List.forall_mem_cons.mpr ⟨va_Nw.warmF hW (hN _ nw_3), List.forall_mem_cons.mpr ⟨va_Nw.warmM hW (hN _ nw_4), List.forall_mem_cons.mpr ⟨va_Nw.warmF hW (hN _ nw_5), List.forall_mem_cons.mpr ⟨va_Nw.warmF hW (hN _ nw_6), List.forall_mem_cons.mpr ⟨va_Nw.warmF hW (hN _ nw_7), List.forall_mem_cons.mpr ⟨va_Nw.warmF hW (hN _ nw_8), List.forall_mem_cons.mpr ⟨va_Nw.warmF hW (hN _ nw_9), List.forall_mem_cons.mpr ⟨va_Nw.warmM hW (hN _ nw_10), List.forall_mem_cons.mpr ⟨va_Nw.warmF hW (hN _ nw_11), List.forall_mem_cons.mpr ⟨va_Nw.warmF hW (hN _ nw_12), List.forall_mem_cons.mpr ⟨va_Nw.warmM hW (hN _ nw_13), List.forall_mem_cons.mpr ⟨va_Nw.warmM hW (hN _ nw_14), List.forall_mem_cons.mpr ⟨va_Nw.warmM hW (hN _ nw_15), List.forall_mem_cons.mpr ⟨va_Nw.warmM hW (hN _ nw_16), List.forall_mem_cons.mpr ⟨va_Nw.warmM hW (hN _ nw_17), List.forall_mem_cons.mpr ⟨va_Nw.warmM hW (hN _ nw_18), List.forall_mem_cons.mpr ⟨va_Nw.warmM hW (hN _ nw_19), List.forall_mem_cons.mpr ⟨va_Nw.warmM hW (hN _ nw_20), List.forall_mem_cons.mpr ⟨va_Nw.warmM hW (hN _ nw_21), List.forall_mem_cons.mpr ⟨va_Nw.warmM hW (hN _ nw_22), List.forall_mem_cons.mpr ⟨va_Nw.warmM hW (hN _ nw_23), List.forall_mem_cons.mpr ⟨va_Nw.warmM hW (hN _ nw_24), List.forall_mem_cons.mpr ⟨va_Nw.warmM hW (hN _ nw_25), List.forall_mem_cons.mpr ⟨va_Nw.warmM hW (hN _ nw_26), List.forall_mem_cons.mpr ⟨va_Nw.warmM hW (hN _ nw_27), fun _ h => absurd h List.not_mem_nil⟩⟩⟩⟩⟩⟩⟩⟩⟩⟩⟩⟩⟩⟩⟩⟩⟩⟩⟩⟩⟩⟩⟩⟩⟩⟩⟩⟩
/-- what a method that only reads finds: its cells, the tables, the links -/
def RdC (D : va_G) (ws : va_W) (tys : List (ClassId × FieldType)) (U : State) : Prop := va_P D vwCl ws U.heap ∧ va_K D vwCl tys U ∧ NW U
theorem pre_pure {s : State} {H : Heap} {As : List Value} : PreS s H (va_Pc As (fun _ => True)) As := ⟨fun _ _ _ _ h => h, fun _ _ _ => ⟨rfl, trivial⟩⟩
theorem RdC.blind {D : va_G} {ws : va_W} {tys : List (ClassId × FieldType)} {av : List Value} : FrameBlind (va_Pc av (RdC D ws tys)) := fun a U g mk q => ⟨q.1, q.2.1, va_K.moved (u := U) (U := U.calling g mk a) (Vm.Alike.refl U.vm) q.2.2.1, NW.same (u := U) rfl q.2.2.2⟩
theorem RdC.preS {s : State} {H : Heap} {D : va_G} {ws : va_W} {tys : List (ClassId × FieldType)} {As : List Value} (hP : va_P D vwCl ws H) (hK : va_K D vwCl tys s) (hN : NW s) : PreS s H (va_Pc As (RdC D ws tys)) As := ⟨RdC.blind, fun U hU hW => ⟨rfl, by rw [hU]; exact hP, va_K.moved hW.alike hK, hN.warm hW⟩⟩
theorem RdC.preV {s : State} {H : Heap} {D : va_G} {ws : va_W} {tys : List (ClassId × FieldType)} {As : List Value} {b q0 ci : Nat} {q : vw_C} {fs : List Value} (hP : va_P D vwCl ws H) (hK : va_K D vwCl tys s) (hN : NW s) (hc : vwCl[ci]? = some q) (he : ws[q0]? = some (b, .inr (ci, fs))) : PreV s H q.1 b (va_Pc (.ref b :: As) (RdC D ws tys)) As := ⟨RdC.blind, va_recv hK hP hc he, fun U hU hW => ⟨rfl, by rw [hU]; exact hP, va_K.moved hW.alike hK, hN.warm hW⟩⟩
/-! the state of the desk: the kind above each kind; modes, a, b of the verbs; how many are made; of each slot the one above, open, sum, length; the bytes; the rows' numbers; how many rows; clock; turns -/
abbrev St : Type := (Nat → Int32) × (Nat → Int32) × (Nat → Int32) × (Nat → Int32) × (Nat → Int32) × (Nat → Int32) × (Nat → Int32) × (Nat → Int32) × (Nat → Int32) × (Nat → Int32) × (Nat → Int32) × Int32 × Int32 × Int32
abbrev zka (v : St) : Nat → Int32 := v.1
abbrev uka (v : St) (f : Nat → Int32) : St := (f, v.2)
abbrev zmd (v : St) : Nat → Int32 := v.2.1
abbrev umd (v : St) (f : Nat → Int32) : St := (v.1, f, v.2.2)
abbrev zas (v : St) : Nat → Int32 := v.2.2.1
abbrev uas (v : St) (f : Nat → Int32) : St := (v.1, v.2.1, f, v.2.2.2)
abbrev zbs (v : St) : Nat → Int32 := v.2.2.2.1
abbrev ubs (v : St) (f : Nat → Int32) : St := (v.1, v.2.1, v.2.2.1, f, v.2.2.2.2)
abbrev zmk (v : St) : Nat → Int32 := v.2.2.2.2.1
abbrev umk (v : St) (f : Nat → Int32) : St := (v.1, v.2.1, v.2.2.1, v.2.2.2.1, f, v.2.2.2.2.2)
abbrev zab (v : St) : Nat → Int32 := v.2.2.2.2.2.1
abbrev uab (v : St) (f : Nat → Int32) : St := (v.1, v.2.1, v.2.2.1, v.2.2.2.1, v.2.2.2.2.1, f, v.2.2.2.2.2.2)
abbrev zop (v : St) : Nat → Int32 := v.2.2.2.2.2.2.1
abbrev uop (v : St) (f : Nat → Int32) : St := (v.1, v.2.1, v.2.2.1, v.2.2.2.1, v.2.2.2.2.1, v.2.2.2.2.2.1, f, v.2.2.2.2.2.2.2)
abbrev zsm (v : St) : Nat → Int32 := v.2.2.2.2.2.2.2.1
abbrev usm (v : St) (f : Nat → Int32) : St := (v.1, v.2.1, v.2.2.1, v.2.2.2.1, v.2.2.2.2.1, v.2.2.2.2.2.1, v.2.2.2.2.2.2.1, f, v.2.2.2.2.2.2.2.2)
abbrev zln (v : St) : Nat → Int32 := v.2.2.2.2.2.2.2.2.1
abbrev uln (v : St) (f : Nat → Int32) : St := (v.1, v.2.1, v.2.2.1, v.2.2.2.1, v.2.2.2.2.1, v.2.2.2.2.2.1, v.2.2.2.2.2.2.1, v.2.2.2.2.2.2.2.1, f, v.2.2.2.2.2.2.2.2.2)
abbrev ztx (v : St) : Nat → Int32 := v.2.2.2.2.2.2.2.2.2.1
abbrev utx (v : St) (f : Nat → Int32) : St := (v.1, v.2.1, v.2.2.1, v.2.2.2.1, v.2.2.2.2.1, v.2.2.2.2.2.1, v.2.2.2.2.2.2.1, v.2.2.2.2.2.2.2.1, v.2.2.2.2.2.2.2.2.1, f, v.2.2.2.2.2.2.2.2.2.2)
abbrev znu (v : St) : Nat → Int32 := v.2.2.2.2.2.2.2.2.2.2.1
abbrev unu (v : St) (f : Nat → Int32) : St := (v.1, v.2.1, v.2.2.1, v.2.2.2.1, v.2.2.2.2.1, v.2.2.2.2.2.1, v.2.2.2.2.2.2.1, v.2.2.2.2.2.2.2.1, v.2.2.2.2.2.2.2.2.1, v.2.2.2.2.2.2.2.2.2.1, f, v.2.2.2.2.2.2.2.2.2.2.2)
abbrev zkp (v : St) : Int32 := v.2.2.2.2.2.2.2.2.2.2.2.1
abbrev ukp (v : St) (f : Int32) : St := (v.1, v.2.1, v.2.2.1, v.2.2.2.1, v.2.2.2.2.1, v.2.2.2.2.2.1, v.2.2.2.2.2.2.1, v.2.2.2.2.2.2.2.1, v.2.2.2.2.2.2.2.2.1, v.2.2.2.2.2.2.2.2.2.1, v.2.2.2.2.2.2.2.2.2.2.1, f, v.2.2.2.2.2.2.2.2.2.2.2.2)
abbrev zck (v : St) : Int32 := v.2.2.2.2.2.2.2.2.2.2.2.2.1
abbrev uck (v : St) (f : Int32) : St := (v.1, v.2.1, v.2.2.1, v.2.2.2.1, v.2.2.2.2.1, v.2.2.2.2.2.1, v.2.2.2.2.2.2.1, v.2.2.2.2.2.2.2.1, v.2.2.2.2.2.2.2.2.1, v.2.2.2.2.2.2.2.2.2.1, v.2.2.2.2.2.2.2.2.2.2.1, v.2.2.2.2.2.2.2.2.2.2.2.1, f, v.2.2.2.2.2.2.2.2.2.2.2.2.2)
abbrev ztn (v : St) : Int32 := v.2.2.2.2.2.2.2.2.2.2.2.2.2
abbrev utn (v : St) (f : Int32) : St := (v.1, v.2.1, v.2.2.1, v.2.2.2.1, v.2.2.2.2.1, v.2.2.2.2.2.1, v.2.2.2.2.2.2.1, v.2.2.2.2.2.2.2.1, v.2.2.2.2.2.2.2.2.1, v.2.2.2.2.2.2.2.2.2.1, v.2.2.2.2.2.2.2.2.2.2.1, v.2.2.2.2.2.2.2.2.2.2.2.1, v.2.2.2.2.2.2.2.2.2.2.2.2.1, f)
/-- the cells of the desk -/
abbrev wC (q : Nat → Nat) (cI cZ cB : ClassId) (v : St) : va_W := [(q 0, .inr (3, [.ref (q 1), .ref (q 2), .ref (q 6), .ref (q 13), .int (zck v), .int (ztn v)])), (q 1, .inl (cI, 8, .inl (zka v))), (q 2, .inr (2, [.ref (q 3), .ref (q 4), .ref (q 5)])), (q 3, .inl (cI, 64, .inl (zmd v))), (q 4, .inl (cI, 64, .inl (zas v))), (q 5, .inl (cI, 64, .inl (zbs v))), (q 6, .inr (1, [.ref (q 7), .ref (q 8), .ref (q 9), .ref (q 10), .ref (q 11), .ref (q 12)])), (q 7, .inl (cI, 8, .inl (zmk v))), (q 8, .inl (cI, 240, .inl (zab v))), (q 9, .inl (cZ, 240, .inl (zop v))), (q 10, .inl (cI, 240, .inl (zsm v))), (q 11, .inl (cI, 240, .inl (zln v))), (q 12, .inl (cB, 3840, .inl (ztx v))), (q 13, .inr (0, [.ref (q 14), .int (zkp v)])), (q 14, .inl (cI, 400, .inl (znu v)))]
abbrev tyC (cI cZ cB : ClassId) : List (ClassId × FieldType) := [(cI, .int), (cZ, .boolean), (cB, .byte)]
/-- the cells of the reference, of the same state; beside it what was thrown, and the change that is noted -/
abbrev wM (a : Nat → Nat) (cI cZ cL : ClassId) (v : St) (th ch : Int32) (cd : Int64) : va_W := [(a 0, .inr (4, [.int th, .ref (a 1), .ref (a 2), .ref (a 3), .ref (a 4), .ref (a 5), .ref (a 6), .ref (a 7), .ref (a 8), .ref (a 9), .ref (a 10), .int (ztn v), .int (zck v), .int (zkp v), .ref (a 11), .int ch, .long cd])), (a 1, .inl (cI, 8, .inl (zka v))), (a 2, .inl (cI, 8, .inl (zmk v))), (a 3, .inl (cI, 240, .inl (zab v))), (a 4, .inl (cZ, 240, .inl (zop v))), (a 5, .inl (cL, 240, .inr (.inl (fun i => (zsm v i).toInt64)))), (a 6, .inl (cI, 240, .inl (zln v))), (a 7, .inl (cI, 3840, .inl (fun i => ztx v i &&& 255))), (a 8, .inl (cI, 64, .inl (zmd v))), (a 9, .inl (cI, 64, .inl (zas v))), (a 10, .inl (cI, 64, .inl (zbs v))), (a 11, .inl (cI, 400, .inl (znu v)))]
abbrev tyM (cI cZ cL : ClassId) : List (ClassId × FieldType) := [(cI, .int), (cZ, .boolean), (cL, .long)]
/-- how many of a kind are made -/
def mN (v : St) (k : Nat) : Nat := (zmk v k).toNatClampNeg
def lN9 (v : St) (i : Nat) : Nat := (zln v i).toNatClampNeg
def kN (v : St) : Nat := (zkp v).toNatClampNeg
/-- what holds of every state that calls can reach -/
def Ika (v : St) : Prop := ∀ k, k < 8 → zka v k = -1 ∨ ∃ j, j < 8 ∧ zka v k = nI j
def Irk (v : St) : Prop := ∃ rk : Nat → Nat, ∀ k j, k < 8 → j < 8 → zka v k = nI j → rk j < rk k
def Imk (v : St) : Prop := ∀ k, k < 8 → mN v k ≤ 30 ∧ zmk v k = nI (mN v k)
def Iop (v : St) : Prop := ∀ i, i < 240 → zop v i = 0 ∨ zop v i = 1
def Iln (v : St) : Prop := ∀ i, i < 240 → lN9 v i ≤ 16 ∧ zln v i = nI (lN9 v i)
def Ikp (v : St) : Prop := kN v ≤ 80 ∧ zkp v = nI (kN v)
def Imd (v : St) : Prop := ∀ i, i < 64 → ∃ n, n < 8 ∧ zmd v i = nI n
def Ias (v : St) : Prop := ∀ i, i < 64 → (-1000 ≤ (zas v i).toInt ∧ (zas v i).toInt ≤ 1000) ∧ -1000 ≤ (zbs v i).toInt ∧ (zbs v i).toInt ≤ 1000
def Ism (v : St) : Prop := ∀ i, i < 240 → -1000000000 ≤ (zsm v i).toInt ∧ (zsm v i).toInt ≤ 1000000000
def Iab (v : St) : Prop := ∀ k j, k < 8 → j < mN v k → (zka v k = -1 ∧ zab v (k * 30 + j) = -1) ∨ ∃ k2 j2, k2 < 8 ∧ j2 < mN v k2 ∧ zka v k = nI k2 ∧ zab v (k * 30 + j) = nI j2
def Ick (v : St) : Prop := 0 ≤ (zck v).toInt ∧ (zck v).toInt ≤ 1000000000
def Inv (v : St) : Prop := Ika v ∧ Irk v ∧ Imk v ∧ Iop v ∧ Iln v ∧ Ikp v ∧ Imd v ∧ Ias v ∧ Ism v ∧ Iab v ∧ Ick v
theorem Inv.ka {v : St} (h : Inv v) : Ika v := h.1
theorem Inv.rk {v : St} (h : Inv v) : Irk v := h.2.1
theorem Inv.mk {v : St} (h : Inv v) : Imk v := h.2.2.1
theorem Inv.op {v : St} (h : Inv v) : Iop v := h.2.2.2.1
theorem Inv.ln {v : St} (h : Inv v) : Iln v := h.2.2.2.2.1
theorem Inv.kp {v : St} (h : Inv v) : Ikp v := h.2.2.2.2.2.1
theorem Inv.md {v : St} (h : Inv v) : Imd v := h.2.2.2.2.2.2.1
theorem Inv.as {v : St} (h : Inv v) : Ias v := h.2.2.2.2.2.2.2.1
theorem Inv.sm {v : St} (h : Inv v) : Ism v := h.2.2.2.2.2.2.2.2.1
theorem Inv.ab {v : St} (h : Inv v) : Iab v := h.2.2.2.2.2.2.2.2.2.1
theorem Inv.ck {v : St} (h : Inv v) : Ick v := h.2.2.2.2.2.2.2.2.2.2
/-- the kinds, and the numbers of verbs -/
theorem k8_of {x : Int32} (h1 : ¬ x < 0) (h2 : x < 8) : ∃ k, k < 8 ∧ x = nI k := by
  obtain ⟨j, hj, rfl⟩ := nI_of h1
  exact ⟨j, (nI_ltI hj (by decide)).mp h2, rfl⟩
theorem k8_no {x : Int32} (h : x < 0 ∨ 8 ≤ x) : ¬ ∃ k, k < 8 ∧ x = nI k := by
  rintro ⟨k, hk, rfl⟩
  rcases h with h | h
  · exact nI_pos (by omega) h
  · exact nI_ge (a := k) (b := 8) hk (by decide) h
/-- a kind and a number of a subject -/
def isK (x : Int32) : Prop := ∃ k, k < 8 ∧ x = nI k
def isS (v : St) (x y : Int32) : Prop := ∃ k j, k < 8 ∧ j < mN v k ∧ x = nI k ∧ y = nI j
