abbrev y_WP_init : MethodName := ⟨"WinProofs", "<init>", "()V"⟩
abbrev b_WP_init : ByteArray := prog_1_method_1_code
def r_WP_init : Mr := (y_WP_init, b_WP_init, 1, none, 5, 102)
abbrev y_Wo_init : MethodName := ⟨"WinProofs$World", "<init>", "()V"⟩
abbrev b_Wo_init : ByteArray := prog_11_method_1_code
def r_Wo_init : Mr := (y_Wo_init, b_Wo_init, 2, none, 4, 81)
abbrev y_Ac_init : MethodName := ⟨"WinProofs$Act", "<init>", "()V"⟩
abbrev b_Ac_init : ByteArray := prog_2_method_1_code
def r_Ac_init : Mr := (y_Ac_init, b_Ac_init, 2, none, 3, 60)
abbrev y_Cl_init : MethodName := ⟨"WinProofs$Clauses", "<init>", "()V"⟩
abbrev b_Cl_init : ByteArray := prog_4_method_1_code
def r_Cl_init : Mr := (y_Cl_init, b_Cl_init, 1, none, 1, 20)
abbrev y_Ou_init : MethodName := ⟨"WinProofs$Outcome", "<init>", "()V"⟩
abbrev b_Ou_init : ByteArray := prog_7_method_1_code
def r_Ou_init : Mr := (y_Ou_init, b_Ou_init, 1, none, 2, 40)
abbrev y_Co_init : MethodName := ⟨"WinProofs$Cover", "<init>", "()V"⟩
abbrev b_Co_init : ByteArray := prog_5_method_1_code
def r_Co_init : Mr := (y_Co_init, b_Co_init, 2, none, 2, 40)
abbrev y_Ch_init : MethodName := ⟨"WinProofs$Changes", "<init>", "()V"⟩
abbrev b_Ch_init : ByteArray := prog_3_method_1_code
def r_Ch_init : Mr := (y_Ch_init, b_Ch_init, 1, none, 1, 20)
abbrev y_Re_init : MethodName := ⟨"WinProofs$Reach", "<init>", "()V"⟩
abbrev b_Re_init : ByteArray := prog_8_method_1_code
def r_Re_init : Mr := (y_Re_init, b_Re_init, 1, none, 1, 20)
abbrev y_Wi_init : MethodName := ⟨"WinProofs$Wins", "<init>", "()V"⟩
abbrev b_Wi_init : ByteArray := prog_10_method_1_code
def r_Wi_init : Mr := (y_Wi_init, b_Wi_init, 1, none, 1, 20)
abbrev y_Ki_init : MethodName := ⟨"WinProofs$Kinds", "<init>", "()V"⟩
abbrev b_Ki_init : ByteArray := prog_6_method_1_code
def r_Ki_init : Mr := (y_Ki_init, b_Ki_init, 1, none, 1, 20)
abbrev y_Se_init : MethodName := ⟨"WinProofs$Search", "<init>", "()V"⟩
abbrev b_Se_init : ByteArray := prog_9_method_1_code
def r_Se_init : Mr := (y_Se_init, b_Se_init, 1, none, 1, 20)
abbrev y_WP_clear : MethodName := ⟨"WinProofs", "clear", "()I"⟩
abbrev b_WP_clear : ByteArray := prog_1_method_2_code
def r_WP_clear : Mr := (y_WP_clear, b_WP_clear, 2, (some FieldType.int), 1, 20)
abbrev y_Wo_forget : MethodName := ⟨"WinProofs$World", "forget", "()V"⟩
abbrev b_Wo_forget : ByteArray := prog_11_method_2_code
def r_Wo_forget : Mr := (y_Wo_forget, b_Wo_forget, 1, none, 0, 0)
abbrev y_Ch_inWorld : MethodName := ⟨"WinProofs$Changes", "inWorld", "()V"⟩
abbrev b_Ch_inWorld : ByteArray := prog_3_method_2_code
def r_Ch_inWorld : Mr := (y_Ch_inWorld, b_Ch_inWorld, 1, none, 0, 0)
abbrev y_WP_thing : MethodName := ⟨"WinProofs", "thing", "(I)I"⟩
abbrev b_WP_thing : ByteArray := prog_1_method_3_code
def r_WP_thing : Mr := (y_WP_thing, b_WP_thing, 3, (some FieldType.int), 1, 21)
abbrev y_Wo_addThing : MethodName := ⟨"WinProofs$World", "addThing", "(I)I"⟩
abbrev b_Wo_addThing : ByteArray := prog_11_method_3_code
def r_Wo_addThing : Mr := (y_Wo_addThing, b_Wo_addThing, 2, (some FieldType.int), 0, 0)
abbrev y_WP_start : MethodName := ⟨"WinProofs", "start", "(I)I"⟩
abbrev b_WP_start : ByteArray := prog_1_method_4_code
def r_WP_start : Mr := (y_WP_start, b_WP_start, 3, (some FieldType.int), 1, 21)
abbrev y_Wo_isState : MethodName := ⟨"WinProofs$World", "isState", "(I)Z"⟩
abbrev b_Wo_isState : ByteArray := prog_11_method_6_code
def r_Wo_isState : Mr := (y_Wo_isState, b_Wo_isState, 2, (some FieldType.boolean), 0, 0)
abbrev y_Ch_inStart : MethodName := ⟨"WinProofs$Changes", "inStart", "()V"⟩
abbrev b_Ch_inStart : ByteArray := prog_3_method_3_code
def r_Ch_inStart : Mr := (y_Ch_inStart, b_Ch_inStart, 1, none, 0, 0)
abbrev y_WP_act : MethodName := ⟨"WinProofs", "act", "()I"⟩
abbrev b_WP_act : ByteArray := prog_1_method_5_code
def r_WP_act : Mr := (y_WP_act, b_WP_act, 2, (some FieldType.int), 2, 40)
abbrev y_Wo_addAct : MethodName := ⟨"WinProofs$World", "addAct", "()I"⟩
abbrev b_Wo_addAct : ByteArray := prog_11_method_4_code
def r_Wo_addAct : Mr := (y_Wo_addAct, b_Wo_addAct, 1, (some FieldType.int), 1, 20)
abbrev y_Ac_beginAnew : MethodName := ⟨"WinProofs$Act", "beginAnew", "()V"⟩
abbrev b_Ac_beginAnew : ByteArray := prog_2_method_2_code
def r_Ac_beginAnew : Mr := (y_Ac_beginAnew, b_Ac_beginAnew, 1, none, 0, 0)
abbrev y_WP_outcome : MethodName := ⟨"WinProofs", "outcome", "(I)I"⟩
abbrev b_WP_outcome : ByteArray := prog_1_method_6_code
def r_WP_outcome : Mr := (y_WP_outcome, b_WP_outcome, 3, (some FieldType.int), 2, 42)
abbrev y_Wo_isAct : MethodName := ⟨"WinProofs$World", "isAct", "(I)Z"⟩
abbrev b_Wo_isAct : ByteArray := prog_11_method_8_code
def r_Wo_isAct : Mr := (y_Wo_isAct, b_Wo_isAct, 2, (some FieldType.boolean), 0, 0)
abbrev y_Ac_addOutcome : MethodName := ⟨"WinProofs$Act", "addOutcome", "()I"⟩
abbrev b_Ac_addOutcome : ByteArray := prog_2_method_3_code
def r_Ac_addOutcome : Mr := (y_Ac_addOutcome, b_Ac_addOutcome, 1, (some FieldType.int), 0, 0)
abbrev y_WP_noteActChange : MethodName := ⟨"WinProofs", "noteActChange", "(II)V"⟩
abbrev b_WP_noteActChange : ByteArray := prog_1_method_25_code
def r_WP_noteActChange : Mr := (y_WP_noteActChange, b_WP_noteActChange, 3, none, 1, 20)
abbrev y_WP_when : MethodName := ⟨"WinProofs", "when", "(IIII)I"⟩
abbrev b_WP_when : ByteArray := prog_1_method_7_code
def r_WP_when : Mr := (y_WP_when, b_WP_when, 6, (some FieldType.int), 2, 44)
abbrev y_Wo_isCondition : MethodName := ⟨"WinProofs$World", "isCondition", "(III)Z"⟩
abbrev b_Wo_isCondition : ByteArray := prog_11_method_10_code
def r_Wo_isCondition : Mr := (y_Wo_isCondition, b_Wo_isCondition, 4, (some FieldType.boolean), 1, 21)
abbrev y_Wo_isThing : MethodName := ⟨"WinProofs$World", "isThing", "(I)Z"⟩
abbrev b_Wo_isThing : ByteArray := prog_11_method_7_code
def r_Wo_isThing : Mr := (y_Wo_isThing, b_Wo_isThing, 2, (some FieldType.boolean), 0, 0)
abbrev y_Cl_add : MethodName := ⟨"WinProofs$Clauses", "add", "(III)I"⟩
abbrev b_Cl_add : ByteArray := prog_4_method_2_code
def r_Cl_add : Mr := (y_Cl_add, b_Cl_add, 4, (some FieldType.int), 0, 0)
abbrev y_WP_effect : MethodName := ⟨"WinProofs", "effect", "(IIIII)I"⟩
abbrev b_WP_effect : ByteArray := prog_1_method_8_code
def r_WP_effect : Mr := (y_WP_effect, b_WP_effect, 7, (some FieldType.int), 2, 44)
abbrev y_Wo_isOutcome : MethodName := ⟨"WinProofs$World", "isOutcome", "(II)Z"⟩
abbrev b_Wo_isOutcome : ByteArray := prog_11_method_9_code
def r_Wo_isOutcome : Mr := (y_Wo_isOutcome, b_Wo_isOutcome, 3, (some FieldType.boolean), 1, 21)
abbrev y_Wo_isEffect : MethodName := ⟨"WinProofs$World", "isEffect", "(III)Z"⟩
abbrev b_Wo_isEffect : ByteArray := prog_11_method_11_code
def r_Wo_isEffect : Mr := (y_Wo_isEffect, b_Wo_isEffect, 4, (some FieldType.boolean), 1, 21)
abbrev y_WP_aim : MethodName := ⟨"WinProofs", "aim", "(III)I"⟩
abbrev b_WP_aim : ByteArray := prog_1_method_9_code
def r_WP_aim : Mr := (y_WP_aim, b_WP_aim, 5, (some FieldType.int), 2, 44)
abbrev y_Ch_inAim : MethodName := ⟨"WinProofs$Changes", "inAim", "()V"⟩
abbrev b_Ch_inAim : ByteArray := prog_3_method_4_code
def r_Ch_inAim : Mr := (y_Ch_inAim, b_Ch_inAim, 1, none, 0, 0)
abbrev y_WP_aimless : MethodName := ⟨"WinProofs", "aimless", "()I"⟩
abbrev b_WP_aimless : ByteArray := prog_1_method_10_code
def r_WP_aimless : Mr := (y_WP_aimless, b_WP_aimless, 2, (some FieldType.int), 1, 20)
abbrev y_WP_unact : MethodName := ⟨"WinProofs", "unact", "()I"⟩
abbrev b_WP_unact : ByteArray := prog_1_method_11_code
def r_WP_unact : Mr := (y_WP_unact, b_WP_unact, 1, (some FieldType.int), 1, 20)
abbrev y_Wo_dropAct : MethodName := ⟨"WinProofs$World", "dropAct", "()V"⟩
abbrev b_Wo_dropAct : ByteArray := prog_11_method_5_code
def r_Wo_dropAct : Mr := (y_Wo_dropAct, b_Wo_dropAct, 1, none, 0, 0)
abbrev y_WP_leads : MethodName := ⟨"WinProofs", "leads", "(III)I"⟩
abbrev b_WP_leads : ByteArray := prog_1_method_12_code
def r_WP_leads : Mr := (y_WP_leads, b_WP_leads, 6, (some FieldType.int), 3, 74)
abbrev y_Wo_pack : MethodName := ⟨"WinProofs$World", "pack", "(I)I"⟩
abbrev b_Wo_pack : ByteArray := prog_11_method_12_code
def r_Wo_pack : Mr := (y_Wo_pack, b_Wo_pack, 6, (some FieldType.int), 0, 0)
abbrev y_Cl_hold : MethodName := ⟨"WinProofs$Clauses", "hold", "(I)Z"⟩
abbrev b_Cl_hold : ByteArray := prog_4_method_3_code
def r_Cl_hold : Mr := (y_Cl_hold, b_Cl_hold, 5, (some FieldType.boolean), 1, 21)
abbrev y_WP_valueIn : MethodName := ⟨"WinProofs", "valueIn", "(II)I"⟩
abbrev b_WP_valueIn : ByteArray := prog_1_method_32_code
def r_WP_valueIn : Mr := (y_WP_valueIn, b_WP_valueIn, 2, (some FieldType.int), 0, 0)
abbrev y_Wo_after : MethodName := ⟨"WinProofs$World", "after", "(LWinProofs$Clauses;II)I"⟩
abbrev b_Wo_after : ByteArray := prog_11_method_13_code
def r_Wo_after : Mr := (y_Wo_after, b_Wo_after, 7, (some FieldType.int), 2, 48)
abbrev y_Cl_isLastOfItsThing : MethodName := ⟨"WinProofs$Clauses", "isLastOfItsThing", "(I)Z"⟩
abbrev b_Cl_isLastOfItsThing : ByteArray := prog_4_method_4_code
def r_Cl_isLastOfItsThing : Mr := (y_Cl_isLastOfItsThing, b_Cl_isLastOfItsThing, 3, (some FieldType.boolean), 0, 0)
abbrev y_Wo_newValue : MethodName := ⟨"WinProofs$World", "newValue", "(LWinProofs$Clauses;II)I"⟩
abbrev b_Wo_newValue : ByteArray := prog_11_method_14_code
def r_Wo_newValue : Mr := (y_Wo_newValue, b_Wo_newValue, 8, (some FieldType.int), 1, 21)
abbrev y_WP_count : MethodName := ⟨"WinProofs", "count", "(I)I"⟩
abbrev b_WP_count : ByteArray := prog_1_method_13_code
def r_WP_count : Mr := (y_WP_count, b_WP_count, 2, (some FieldType.int), 7, 168)
abbrev y_Wo_prepare : MethodName := ⟨"WinProofs$World", "prepare", "()V"⟩
abbrev b_Wo_prepare : ByteArray := prog_11_method_17_code
def r_Wo_prepare : Mr := (y_Wo_prepare, b_Wo_prepare, 2, none, 4, 99)
abbrev y_Wo_fillPacked : MethodName := ⟨"WinProofs$World", "fillPacked", "()V"⟩
abbrev b_Wo_fillPacked : ByteArray := prog_11_method_18_code
def r_Wo_fillPacked : Mr := (y_Wo_fillPacked, b_Wo_fillPacked, 2, none, 2, 43)
abbrev y_WP_rowFor : MethodName := ⟨"WinProofs", "rowFor", "([II)[I"⟩
abbrev b_WP_rowFor : ByteArray := prog_1_method_38_code
def r_WP_rowFor : Mr := (y_WP_rowFor, b_WP_rowFor, 2, (some (FieldType.array FieldType.int)), 1, 22)
abbrev y_WP_roomFor : MethodName := ⟨"WinProofs", "roomFor", "(I)I"⟩
abbrev b_WP_roomFor : ByteArray := prog_1_method_37_code
def r_WP_roomFor : Mr := (y_WP_roomFor, b_WP_roomFor, 3, (some FieldType.int), 0, 0)
abbrev y_Ac_fillRows : MethodName := ⟨"WinProofs$Act", "fillRows", "(LWinProofs$World;)V"⟩
abbrev b_Ac_fillRows : ByteArray := prog_2_method_5_code
def r_Ac_fillRows : Mr := (y_Ac_fillRows, b_Ac_fillRows, 6, none, 3, 74)
abbrev y_Wo_linkBack : MethodName := ⟨"WinProofs$World", "linkBack", "()V"⟩
abbrev b_Wo_linkBack : ByteArray := prog_11_method_19_code
def r_Wo_linkBack : Mr := (y_Wo_linkBack, b_Wo_linkBack, 3, none, 2, 46)
abbrev y_Ar_fill : MethodName := ⟨"java/util/Arrays", "fill", "([IIII)V"⟩
abbrev b_Ar_fill : ByteArray := prog_16_method_104_code
def r_Ar_fill : Mr := (y_Ar_fill, b_Ar_fill, 5, none, 1, 22)
abbrev y_Ar_rangeCheck : MethodName := ⟨"java/util/Arrays", "rangeCheck", "(III)V"⟩
abbrev b_Ar_rangeCheck : ByteArray := prog_16_method_30_code
def r_Ar_rangeCheck : Mr := (y_Ar_rangeCheck, b_Ar_rangeCheck, 3, none, 0, 0)
abbrev y_WP_edgeOf : MethodName := ⟨"WinProofs", "edgeOf", "(III)I"⟩
abbrev b_WP_edgeOf : ByteArray := prog_1_method_33_code
def r_WP_edgeOf : Mr := (y_WP_edgeOf, b_WP_edgeOf, 3, (some FieldType.int), 0, 0)
abbrev y_Wo_linkOutcome : MethodName := ⟨"WinProofs$World", "linkOutcome", "(LWinProofs$Outcome;I)V"⟩
abbrev b_Wo_linkOutcome : ByteArray := prog_11_method_20_code
def r_Wo_linkOutcome : Mr := (y_Wo_linkOutcome, b_Wo_linkOutcome, 5, none, 0, 0)
abbrev y_WP_findReached : MethodName := ⟨"WinProofs", "findReached", "()V"⟩
abbrev b_WP_findReached : ByteArray := prog_1_method_26_code
def r_WP_findReached : Mr := (y_WP_findReached, b_WP_findReached, 1, none, 3, 70)
abbrev y_Re_spread : MethodName := ⟨"WinProofs$Reach", "spread", "(LWinProofs$World;I)V"⟩
abbrev b_Re_spread : ByteArray := prog_8_method_2_code
def r_Re_spread : Mr := (y_Re_spread, b_Re_spread, 5, none, 2, 46)
abbrev y_Ac_canBeDone : MethodName := ⟨"WinProofs$Act", "canBeDone", "(I)Z"⟩
abbrev b_Ac_canBeDone : ByteArray := prog_2_method_4_code
def r_Ac_canBeDone : Mr := (y_Ac_canBeDone, b_Ac_canBeDone, 2, (some FieldType.boolean), 0, 0)
abbrev y_Re_follow : MethodName := ⟨"WinProofs$Reach", "follow", "(LWinProofs$Act;I)V"⟩
abbrev b_Re_follow : ByteArray := prog_8_method_3_code
def r_Re_follow : Mr := (y_Re_follow, b_Re_follow, 5, none, 0, 0)
abbrev y_WP_findAim : MethodName := ⟨"WinProofs", "findAim", "()V"⟩
abbrev b_WP_findAim : ByteArray := prog_1_method_27_code
def r_WP_findAim : Mr := (y_WP_findAim, b_WP_findAim, 1, none, 3, 68)
abbrev y_Wi_findAim : MethodName := ⟨"WinProofs$Wins", "findAim", "(LWinProofs$World;LWinProofs$Clauses;)V"⟩
abbrev b_Wi_findAim : ByteArray := prog_10_method_2_code
def r_Wi_findAim : Mr := (y_Wi_findAim, b_Wi_findAim, 4, none, 2, 45)
abbrev y_WP_marksFor : MethodName := ⟨"WinProofs", "marksFor", "([ZI)[Z"⟩
abbrev b_WP_marksFor : ByteArray := prog_1_method_39_code
def r_WP_marksFor : Mr := (y_WP_marksFor, b_WP_marksFor, 2, (some (FieldType.array FieldType.boolean)), 1, 22)
abbrev y_WP_findNumbers : MethodName := ⟨"WinProofs", "findNumbers", "(I)[I"⟩
abbrev b_WP_findNumbers : ByteArray := prog_1_method_28_code
def r_WP_findNumbers : Mr := (y_WP_findNumbers, b_WP_findNumbers, 2, (some (FieldType.array FieldType.int)), 5, 124)
abbrev y_Wi_findNumbers : MethodName := ⟨"WinProofs$Wins", "findNumbers", "(LWinProofs$World;I)V"⟩
abbrev b_Wi_findNumbers : ByteArray := prog_10_method_4_code
def r_Wi_findNumbers : Mr := (y_Wi_findNumbers, b_Wi_findNumbers, 3, none, 4, 102)
abbrev y_Wi_spreadBack : MethodName := ⟨"WinProofs$Wins", "spreadBack", "(LWinProofs$World;I[I)I"⟩
abbrev b_Wi_spreadBack : ByteArray := prog_10_method_6_code
def r_Wi_spreadBack : Mr := (y_Wi_spreadBack, b_Wi_spreadBack, 10, (some FieldType.int), 2, 48)
abbrev y_WP_stateOf : MethodName := ⟨"WinProofs", "stateOf", "(I)I"⟩
abbrev b_WP_stateOf : ByteArray := prog_1_method_36_code
def r_WP_stateOf : Mr := (y_WP_stateOf, b_WP_stateOf, 1, (some FieldType.int), 0, 0)
abbrev y_Wi_mayCome : MethodName := ⟨"WinProofs$Wins", "mayCome", "(LWinProofs$World;III)Z"⟩
abbrev b_Wi_mayCome : ByteArray := prog_10_method_7_code
def r_Wi_mayCome : Mr := (y_Wi_mayCome, b_Wi_mayCome, 9, (some FieldType.boolean), 1, 20)
abbrev y_WP_actOf : MethodName := ⟨"WinProofs", "actOf", "(I)I"⟩
abbrev b_WP_actOf : ByteArray := prog_1_method_34_code
def r_WP_actOf : Mr := (y_WP_actOf, b_WP_actOf, 1, (some FieldType.int), 0, 0)
abbrev y_Wo_nextInto : MethodName := ⟨"WinProofs$World", "nextInto", "(I)I"⟩
abbrev b_Wo_nextInto : ByteArray := prog_11_method_16_code
def r_Wo_nextInto : Mr := (y_Wo_nextInto, b_Wo_nextInto, 2, (some FieldType.int), 0, 0)
abbrev y_Wi_findLevels : MethodName := ⟨"WinProofs$Wins", "findLevels", "(LWinProofs$World;)V"⟩
abbrev b_Wi_findLevels : ByteArray := prog_10_method_5_code
def r_Wi_findLevels : Mr := (y_Wi_findLevels, b_Wi_findLevels, 6, none, 3, 77)
abbrev y_Wi_numbersOf : MethodName := ⟨"WinProofs$Wins", "numbersOf", "(I)[I"⟩
abbrev b_Wi_numbersOf : ByteArray := prog_10_method_3_code
def r_Wi_numbersOf : Mr := (y_Wi_numbersOf, b_Wi_numbersOf, 2, (some (FieldType.array FieldType.int)), 0, 0)
abbrev y_WP_countNumbered : MethodName := ⟨"WinProofs", "countNumbered", "([I)I"⟩
abbrev b_WP_countNumbered : ByteArray := prog_1_method_30_code
def r_WP_countNumbered : Mr := (y_WP_countNumbered, b_WP_countNumbered, 4, (some FieldType.int), 0, 0)
abbrev y_WP_countDead : MethodName := ⟨"WinProofs", "countDead", "()I"⟩
abbrev b_WP_countDead : ByteArray := prog_1_method_31_code
def r_WP_countDead : Mr := (y_WP_countDead, b_WP_countDead, 4, (some FieldType.int), 6, 145)
abbrev y_WP_findKinds : MethodName := ⟨"WinProofs", "findKinds", "()V"⟩
abbrev b_WP_findKinds : ByteArray := prog_1_method_29_code
def r_WP_findKinds : Mr := (y_WP_findKinds, b_WP_findKinds, 1, none, 5, 139)
abbrev y_Ki_split : MethodName := ⟨"WinProofs$Kinds", "split", "(LWinProofs$World;[Z)V"⟩
abbrev b_Ki_split : ByteArray := prog_6_method_2_code
def r_Ki_split : Mr := (y_Ki_split, b_Ki_split, 5, none, 4, 115)
abbrev y_Ki_makeRoom : MethodName := ⟨"WinProofs$Kinds", "makeRoom", "(I)V"⟩
abbrev b_Ki_makeRoom : ByteArray := prog_6_method_3_code
def r_Ki_makeRoom : Mr := (y_Ki_makeRoom, b_Ki_makeRoom, 3, none, 1, 22)
abbrev y_Ki_placeThose : MethodName := ⟨"WinProofs$Kinds", "placeThose", "(LWinProofs$World;[ZZI)I"⟩
abbrev b_Ki_placeThose : ByteArray := prog_6_method_4_code
def r_Ki_placeThose : Mr := (y_Ki_placeThose, b_Ki_placeThose, 7, (some FieldType.int), 1, 24)
abbrev y_Ki_open : MethodName := ⟨"WinProofs$Kinds", "open", "(II)I"⟩
abbrev b_Ki_open : ByteArray := prog_6_method_5_code
def r_Ki_open : Mr := (y_Ki_open, b_Ki_open, 5, (some FieldType.int), 0, 0)
abbrev y_Ki_settle : MethodName := ⟨"WinProofs$Kinds", "settle", "(LWinProofs$World;I)V"⟩
abbrev b_Ki_settle : ByteArray := prog_6_method_6_code
def r_Ki_settle : Mr := (y_Ki_settle, b_Ki_settle, 8, none, 3, 88)
abbrev y_Ki_regroup : MethodName := ⟨"WinProofs$Kinds", "regroup", "(LWinProofs$Act;II)I"⟩
abbrev b_Ki_regroup : ByteArray := prog_6_method_7_code
def r_Ki_regroup : Mr := (y_Ki_regroup, b_Ki_regroup, 11, (some FieldType.int), 2, 58)
abbrev y_Ki_kindsBehind : MethodName := ⟨"WinProofs$Kinds", "kindsBehind", "(LWinProofs$Act;I)J"⟩
abbrev b_Ki_kindsBehind : ByteArray := prog_6_method_9_code
def r_Ki_kindsBehind : Mr := (y_Ki_kindsBehind, b_Ki_kindsBehind, 9, (some FieldType.long), 1, 30)
abbrev y_Ki_slotOf : MethodName := ⟨"WinProofs$Kinds", "slotOf", "(JI)I"⟩
abbrev b_Ki_slotOf : ByteArray := prog_6_method_8_code
def r_Ki_slotOf : Mr := (y_Ki_slotOf, b_Ki_slotOf, 6, (some FieldType.int), 0, 0)
abbrev y_Ki_sortByGroup : MethodName := ⟨"WinProofs$Kinds", "sortByGroup", "(III)V"⟩
abbrev b_Ki_sortByGroup : ByteArray := prog_6_method_10_code
def r_Ki_sortByGroup : Mr := (y_Ki_sortByGroup, b_Ki_sortByGroup, 7, none, 2, 46)
abbrev y_Ki_divide : MethodName := ⟨"WinProofs$Kinds", "divide", "(LWinProofs$World;III)V"⟩
abbrev b_Ki_divide : ByteArray := prog_6_method_11_code
def r_Ki_divide : Mr := (y_Ki_divide, b_Ki_divide, 10, none, 2, 50)
abbrev y_Ki_markThoseBefore : MethodName := ⟨"WinProofs$Kinds", "markThoseBefore", "(LWinProofs$World;I)V"⟩
abbrev b_Ki_markThoseBefore : ByteArray := prog_6_method_12_code
def r_Ki_markThoseBefore : Mr := (y_Ki_markThoseBefore, b_Ki_markThoseBefore, 7, none, 1, 24)
abbrev y_Ki_moveToChanged : MethodName := ⟨"WinProofs$Kinds", "moveToChanged", "(II)V"⟩
abbrev b_Ki_moveToChanged : ByteArray := prog_6_method_13_code
def r_Ki_moveToChanged : Mr := (y_Ki_moveToChanged, b_Ki_moveToChanged, 5, none, 0, 0)
abbrev y_Ki_findLeast : MethodName := ⟨"WinProofs$Kinds", "findLeast", "(I)V"⟩
abbrev b_Ki_findLeast : ByteArray := prog_6_method_14_code
def r_Ki_findLeast : Mr := (y_Ki_findLeast, b_Ki_findLeast, 3, none, 2, 46)
abbrev y_WP_of : MethodName := ⟨"WinProofs", "of", "(II)I"⟩
abbrev b_WP_of : ByteArray := prog_1_method_14_code
def r_WP_of : Mr := (y_WP_of, b_WP_of, 3, (some FieldType.int), 6, 159)
abbrev y_WP_best : MethodName := ⟨"WinProofs", "best", "(II)I"⟩
abbrev b_WP_best : ByteArray := prog_1_method_15_code
def r_WP_best : Mr := (y_WP_best, b_WP_best, 3, (some FieldType.int), 6, 145)
abbrev y_Wi_leastAct : MethodName := ⟨"WinProofs$Wins", "leastAct", "(LWinProofs$World;[III)I"⟩
abbrev b_Wi_leastAct : ByteArray := prog_10_method_8_code
def r_Wi_leastAct : Mr := (y_Wi_leastAct, b_Wi_leastAct, 6, (some FieldType.int), 1, 29)
abbrev y_Wi_gives : MethodName := ⟨"WinProofs$Wins", "gives", "(LWinProofs$Act;[III)Z"⟩
abbrev b_Wi_gives : ByteArray := prog_10_method_9_code
def r_Wi_gives : Mr := (y_Wi_gives, b_Wi_gives, 10, (some FieldType.boolean), 0, 0)
abbrev y_WP_play : MethodName := ⟨"WinProofs", "play", "(II)I"⟩
abbrev b_WP_play : ByteArray := prog_1_method_16_code
def r_WP_play : Mr := (y_WP_play, b_WP_play, 7, (some FieldType.int), 6, 145)
abbrev y_Wi_firstStep : MethodName := ⟨"WinProofs$Wins", "firstStep", "(LWinProofs$World;I)I"⟩
abbrev b_Wi_firstStep : ByteArray := prog_10_method_10_code
def r_Wi_firstStep : Mr := (y_Wi_firstStep, b_Wi_firstStep, 7, (some FieldType.int), 1, 22)
abbrev y_Wo_behind : MethodName := ⟨"WinProofs$World", "behind", "(I)I"⟩
abbrev b_Wo_behind : ByteArray := prog_11_method_15_code
def r_Wo_behind : Mr := (y_Wo_behind, b_Wo_behind, 2, (some FieldType.int), 1, 20)
abbrev y_WP_outcomeOf : MethodName := ⟨"WinProofs", "outcomeOf", "(I)I"⟩
abbrev b_WP_outcomeOf : ByteArray := prog_1_method_35_code
def r_WP_outcomeOf : Mr := (y_WP_outcomeOf, b_WP_outcomeOf, 1, (some FieldType.int), 0, 0)
abbrev y_WP_plays : MethodName := ⟨"WinProofs", "plays", "()J"⟩
abbrev b_WP_plays : ByteArray := prog_1_method_17_code
def r_WP_plays : Mr := (y_WP_plays, b_WP_plays, 6, (some FieldType.long), 5, 120)
abbrev y_WP_needed : MethodName := ⟨"WinProofs", "needed", "()I"⟩
abbrev b_WP_needed : ByteArray := prog_1_method_18_code
def r_WP_needed : Mr := (y_WP_needed, b_WP_needed, 2, (some FieldType.int), 5, 120)
abbrev y_Se_wins : MethodName := ⟨"WinProofs$Search", "wins", "(LWinProofs$World;[ZIIII)Z"⟩
abbrev b_Se_wins : ByteArray := prog_9_method_2_code
def r_Se_wins : Mr := (y_Se_wins, b_Se_wins, 11, (some FieldType.boolean), 3, 65)
abbrev y_Se_begin : MethodName := ⟨"WinProofs$Search", "begin", "(I)V"⟩
abbrev b_Se_begin : ByteArray := prog_9_method_3_code
def r_Se_begin : Mr := (y_Se_begin, b_Se_begin, 3, none, 2, 43)
abbrev y_Se_visit : MethodName := ⟨"WinProofs$Search", "visit", "(LWinProofs$World;[ZI)Z"⟩
abbrev b_Se_visit : ByteArray := prog_9_method_4_code
def r_Se_visit : Mr := (y_Se_visit, b_Se_visit, 4, (some FieldType.boolean), 1, 21)
abbrev y_WP_fact : MethodName := ⟨"WinProofs", "fact", "(II)I"⟩
abbrev b_WP_fact : ByteArray := prog_1_method_19_code
def r_WP_fact : Mr := (y_WP_fact, b_WP_fact, 3, (some FieldType.int), 5, 120)
abbrev y_WP_values : MethodName := ⟨"WinProofs", "values", "(I)I"⟩
abbrev b_WP_values : ByteArray := prog_1_method_20_code
def r_WP_values : Mr := (y_WP_values, b_WP_values, 4, (some FieldType.int), 5, 120)
abbrev y_WP_cover : MethodName := ⟨"WinProofs", "cover", "()I"⟩
abbrev b_WP_cover : ByteArray := prog_1_method_21_code
def r_WP_cover : Mr := (y_WP_cover, b_WP_cover, 2, (some FieldType.int), 1, 20)
abbrev y_Co_addPart : MethodName := ⟨"WinProofs$Cover", "addPart", "()I"⟩
abbrev b_Co_addPart : ByteArray := prog_5_method_2_code
def r_Co_addPart : Mr := (y_Co_addPart, b_Co_addPart, 1, (some FieldType.int), 0, 0)
abbrev y_Ch_inCover : MethodName := ⟨"WinProofs$Changes", "inCover", "()V"⟩
abbrev b_Ch_inCover : ByteArray := prog_3_method_5_code
def r_Ch_inCover : Mr := (y_Ch_inCover, b_Ch_inCover, 1, none, 0, 0)
abbrev y_WP_part : MethodName := ⟨"WinProofs", "part", "(IIII)I"⟩
abbrev b_WP_part : ByteArray := prog_1_method_22_code
def r_WP_part : Mr := (y_WP_part, b_WP_part, 6, (some FieldType.int), 2, 44)
abbrev y_WP_bare : MethodName := ⟨"WinProofs", "bare", "()I"⟩
abbrev b_WP_bare : ByteArray := prog_1_method_23_code
def r_WP_bare : Mr := (y_WP_bare, b_WP_bare, 2, (some FieldType.int), 1, 20)
abbrev y_WP_flaw : MethodName := ⟨"WinProofs", "flaw", "(I)I"⟩
abbrev b_WP_flaw : ByteArray := prog_1_method_24_code
def r_WP_flaw : Mr := (y_WP_flaw, b_WP_flaw, 2, (some FieldType.int), 5, 120)
abbrev y_Co_judge : MethodName := ⟨"WinProofs$Cover", "judge", "(LWinProofs$World;[ZI)V"⟩
abbrev b_Co_judge : ByteArray := prog_5_method_3_code
def r_Co_judge : Mr := (y_Co_judge, b_Co_judge, 5, none, 4, 89)
abbrev y_Co_findInside : MethodName := ⟨"WinProofs$Cover", "findInside", "(LWinProofs$World;)V"⟩
abbrev b_Co_findInside : ByteArray := prog_5_method_5_code
def r_Co_findInside : Mr := (y_Co_findInside, b_Co_findInside, 3, none, 3, 67)
abbrev y_Co_isInside : MethodName := ⟨"WinProofs$Cover", "isInside", "(I)Z"⟩
abbrev b_Co_isInside : ByteArray := prog_5_method_6_code
def r_Co_isInside : Mr := (y_Co_isInside, b_Co_isInside, 3, (some FieldType.boolean), 2, 45)
abbrev y_Co_tell : MethodName := ⟨"WinProofs$Cover", "tell", "(III)V"⟩
abbrev b_Co_tell : ByteArray := prog_5_method_4_code
def r_Co_tell : Mr := (y_Co_tell, b_Co_tell, 4, none, 0, 0)
abbrev y_Co_leavesFrom : MethodName := ⟨"WinProofs$Cover", "leavesFrom", "(LWinProofs$World;I)Z"⟩
abbrev b_Co_leavesFrom : ByteArray := prog_5_method_7_code
def r_Co_leavesFrom : Mr := (y_Co_leavesFrom, b_Co_leavesFrom, 7, (some FieldType.boolean), 1, 23)
abbrev y_Mo_init : MethodName := ⟨"WinProofsModel", "<init>", "()V"⟩
abbrev b_Mo_init : ByteArray := prog_13_method_1_code
def r_Mo_init : Mr := (y_Mo_init, b_Mo_init, 1, none, 1, 20)
abbrev y_Mo_forget : MethodName := ⟨"WinProofsModel", "forget", "()V"⟩
abbrev b_Mo_forget : ByteArray := prog_13_method_3_code
def r_Mo_forget : Mr := (y_Mo_forget, b_Mo_forget, 1, none, 0, 0)
abbrev y_Mo_clear : MethodName := ⟨"WinProofsModel", "clear", "()I"⟩
abbrev b_Mo_clear : ByteArray := prog_13_method_4_code
def r_Mo_clear : Mr := (y_Mo_clear, b_Mo_clear, 2, (some FieldType.int), 1, 20)
abbrev y_Mo_thing : MethodName := ⟨"WinProofsModel", "thing", "(I)I"⟩
abbrev b_Mo_thing : ByteArray := prog_13_method_6_code
def r_Mo_thing : Mr := (y_Mo_thing, b_Mo_thing, 2, (some FieldType.int), 1, 22)
abbrev y_Mo_isIn : MethodName := ⟨"WinProofsModel", "isIn", "(III)Z"⟩
abbrev b_Mo_isIn : ByteArray := prog_13_method_2_code
def r_Mo_isIn : Mr := (y_Mo_isIn, b_Mo_isIn, 3, (some FieldType.boolean), 0, 0)
abbrev y_Mo_states : MethodName := ⟨"WinProofsModel", "states", "()I"⟩
abbrev b_Mo_states : ByteArray := prog_13_method_5_code
def r_Mo_states : Mr := (y_Mo_states, b_Mo_states, 3, (some FieldType.int), 0, 0)
abbrev y_Mo_start : MethodName := ⟨"WinProofsModel", "start", "(I)I"⟩
abbrev b_Mo_start : ByteArray := prog_13_method_10_code
def r_Mo_start : Mr := (y_Mo_start, b_Mo_start, 3, (some FieldType.int), 2, 43)
abbrev y_Mo_isState : MethodName := ⟨"WinProofsModel", "isState", "(I)Z"⟩
abbrev b_Mo_isState : ByteArray := prog_13_method_7_code
def r_Mo_isState : Mr := (y_Mo_isState, b_Mo_isState, 2, (some FieldType.boolean), 1, 22)
abbrev y_Mo_act : MethodName := ⟨"WinProofsModel", "act", "()I"⟩
abbrev b_Mo_act : ByteArray := prog_13_method_11_code
def r_Mo_act : Mr := (y_Mo_act, b_Mo_act, 1, (some FieldType.int), 1, 20)
abbrev y_Mo_outcome : MethodName := ⟨"WinProofsModel", "outcome", "(I)I"⟩
abbrev b_Mo_outcome : ByteArray := prog_13_method_12_code
def r_Mo_outcome : Mr := (y_Mo_outcome, b_Mo_outcome, 2, (some FieldType.int), 2, 43)
abbrev y_Mo_isAct : MethodName := ⟨"WinProofsModel", "isAct", "(I)Z"⟩
abbrev b_Mo_isAct : ByteArray := prog_13_method_9_code
def r_Mo_isAct : Mr := (y_Mo_isAct, b_Mo_isAct, 2, (some FieldType.boolean), 1, 22)
abbrev y_Mo_when : MethodName := ⟨"WinProofsModel", "when", "(IIII)I"⟩
abbrev b_Mo_when : ByteArray := prog_13_method_15_code
def r_Mo_when : Mr := (y_Mo_when, b_Mo_when, 5, (some FieldType.int), 3, 66)
abbrev y_Mo_isCondition : MethodName := ⟨"WinProofsModel", "isCondition", "(III)Z"⟩
abbrev b_Mo_isCondition : ByteArray := prog_13_method_13_code
def r_Mo_isCondition : Mr := (y_Mo_isCondition, b_Mo_isCondition, 4, (some FieldType.boolean), 2, 43)
abbrev y_Mo_isThing : MethodName := ⟨"WinProofsModel", "isThing", "(I)Z"⟩
abbrev b_Mo_isThing : ByteArray := prog_13_method_8_code
def r_Mo_isThing : Mr := (y_Mo_isThing, b_Mo_isThing, 2, (some FieldType.boolean), 1, 22)
abbrev y_Mo_more : MethodName := ⟨"WinProofsModel", "more", "(IIII)I"⟩
abbrev b_Mo_more : ByteArray := prog_13_method_14_code
def r_Mo_more : Mr := (y_Mo_more, b_Mo_more, 6, (some FieldType.int), 1, 20)
abbrev y_Mo_aim : MethodName := ⟨"WinProofsModel", "aim", "(III)I"⟩
abbrev b_Mo_aim : ByteArray := prog_13_method_16_code
def r_Mo_aim : Mr := (y_Mo_aim, b_Mo_aim, 4, (some FieldType.int), 3, 66)
abbrev y_Mo_aimless : MethodName := ⟨"WinProofsModel", "aimless", "()I"⟩
abbrev b_Mo_aimless : ByteArray := prog_13_method_17_code
def r_Mo_aimless : Mr := (y_Mo_aimless, b_Mo_aimless, 2, (some FieldType.int), 1, 20)
abbrev y_Mo_effect : MethodName := ⟨"WinProofsModel", "effect", "(IIIII)I"⟩
abbrev b_Mo_effect : ByteArray := prog_13_method_18_code
def r_Mo_effect : Mr := (y_Mo_effect, b_Mo_effect, 8, (some FieldType.int), 2, 43)
abbrev y_Mo_unact : MethodName := ⟨"WinProofsModel", "unact", "()I"⟩
abbrev b_Mo_unact : ByteArray := prog_13_method_19_code
def r_Mo_unact : Mr := (y_Mo_unact, b_Mo_unact, 1, (some FieldType.int), 1, 20)
abbrev y_Mo_cover : MethodName := ⟨"WinProofsModel", "cover", "()I"⟩
abbrev b_Mo_cover : ByteArray := prog_13_method_20_code
def r_Mo_cover : Mr := (y_Mo_cover, b_Mo_cover, 1, (some FieldType.int), 0, 0)
abbrev y_Mo_part : MethodName := ⟨"WinProofsModel", "part", "(IIII)I"⟩
abbrev b_Mo_part : ByteArray := prog_13_method_21_code
def r_Mo_part : Mr := (y_Mo_part, b_Mo_part, 5, (some FieldType.int), 3, 66)
abbrev y_Mo_bare : MethodName := ⟨"WinProofsModel", "bare", "()I"⟩
abbrev b_Mo_bare : ByteArray := prog_13_method_22_code
def r_Mo_bare : Mr := (y_Mo_bare, b_Mo_bare, 2, (some FieldType.int), 0, 0)
abbrev y_Mo_leads : MethodName := ⟨"WinProofsModel", "leads", "(III)I"⟩
abbrev b_Mo_leads : ByteArray := prog_13_method_27_code
def r_Mo_leads : Mr := (y_Mo_leads, b_Mo_leads, 4, (some FieldType.int), 2, 47)
abbrev y_Mo_open : MethodName := ⟨"WinProofsModel", "open", "(I)V"⟩
abbrev b_Mo_open : ByteArray := prog_13_method_23_code
def r_Mo_open : Mr := (y_Mo_open, b_Mo_open, 4, none, 0, 0)
abbrev y_Mo_hold : MethodName := ⟨"WinProofsModel", "hold", "(I)Z"⟩
abbrev b_Mo_hold : ByteArray := prog_13_method_25_code
def r_Mo_hold : Mr := (y_Mo_hold, b_Mo_hold, 7, (some FieldType.boolean), 0, 0)
abbrev y_Mo_goes : MethodName := ⟨"WinProofsModel", "goes", "(I)I"⟩
abbrev b_Mo_goes : ByteArray := prog_13_method_26_code
def r_Mo_goes : Mr := (y_Mo_goes, b_Mo_goes, 6, (some FieldType.int), 1, 22)
abbrev y_Mo_closeThen : MethodName := ⟨"WinProofsModel", "closeThen", "()I"⟩
abbrev b_Mo_closeThen : ByteArray := prog_13_method_24_code
def r_Mo_closeThen : Mr := (y_Mo_closeThen, b_Mo_closeThen, 3, (some FieldType.int), 0, 0)
abbrev y_Mo_count : MethodName := ⟨"WinProofsModel", "count", "(I)I"⟩
abbrev b_Mo_count : ByteArray := prog_13_method_39_code
def r_Mo_count : Mr := (y_Mo_count, b_Mo_count, 5, (some FieldType.int), 4, 99)
abbrev y_Mo_lay : MethodName := ⟨"WinProofsModel", "lay", "()V"⟩
abbrev b_Mo_lay : ByteArray := prog_13_method_28_code
def r_Mo_lay : Mr := (y_Mo_lay, b_Mo_lay, 5, none, 2, 50)
abbrev y_Mo_forward : MethodName := ⟨"WinProofsModel", "forward", "()V"⟩
abbrev b_Mo_forward : ByteArray := prog_13_method_29_code
def r_Mo_forward : Mr := (y_Mo_forward, b_Mo_forward, 6, none, 0, 0)
abbrev y_Mo_backward : MethodName := ⟨"WinProofsModel", "backward", "()V"⟩
abbrev b_Mo_backward : ByteArray := prog_13_method_31_code
def r_Mo_backward : Mr := (y_Mo_backward, b_Mo_backward, 5, none, 1, 23)
abbrev y_Mo_aims : MethodName := ⟨"WinProofsModel", "aims", "([I)I"⟩
abbrev b_Mo_aims : ByteArray := prog_13_method_30_code
def r_Mo_aims : Mr := (y_Mo_aims, b_Mo_aims, 4, (some FieldType.int), 0, 0)
abbrev y_Mo_surely : MethodName := ⟨"WinProofsModel", "surely", "()V"⟩
abbrev b_Mo_surely : ByteArray := prog_13_method_32_code
def r_Mo_surely : Mr := (y_Mo_surely, b_Mo_surely, 6, none, 1, 23)
abbrev y_Mo_fairly : MethodName := ⟨"WinProofsModel", "fairly", "()V"⟩
abbrev b_Mo_fairly : ByteArray := prog_13_method_34_code
def r_Mo_fairly : Mr := (y_Mo_fairly, b_Mo_fairly, 6, none, 1, 25)
abbrev y_Mo_staysWon : MethodName := ⟨"WinProofsModel", "staysWon", "(II)Z"⟩
abbrev b_Mo_staysWon : ByteArray := prog_13_method_33_code
def r_Mo_staysWon : Mr := (y_Mo_staysWon, b_Mo_staysWon, 6, (some FieldType.boolean), 0, 0)
abbrev y_Mo_partAll : MethodName := ⟨"WinProofsModel", "partAll", "()V"⟩
abbrev b_Mo_partAll : ByteArray := prog_13_method_38_code
def r_Mo_partAll : Mr := (y_Mo_partAll, b_Mo_partAll, 6, none, 3, 74)
abbrev y_Mo_signOf : MethodName := ⟨"WinProofsModel", "signOf", "(I)J"⟩
abbrev b_Mo_signOf : ByteArray := prog_13_method_37_code
def r_Mo_signOf : Mr := (y_Mo_signOf, b_Mo_signOf, 11, (some FieldType.long), 0, 0)
abbrev y_Mo_areAlike : MethodName := ⟨"WinProofsModel", "areAlike", "(II)Z"⟩
abbrev b_Mo_areAlike : ByteArray := prog_13_method_36_code
def r_Mo_areAlike : Mr := (y_Mo_areAlike, b_Mo_areAlike, 5, (some FieldType.boolean), 1, 29)
abbrev y_Mo_isOneWay : MethodName := ⟨"WinProofsModel", "isOneWay", "(III)Z"⟩
abbrev b_Mo_isOneWay : ByteArray := prog_13_method_35_code
def r_Mo_isOneWay : Mr := (y_Mo_isOneWay, b_Mo_isOneWay, 10, (some FieldType.boolean), 0, 0)
abbrev y_Mo_of : MethodName := ⟨"WinProofsModel", "of", "(II)I"⟩
abbrev b_Mo_of : ByteArray := prog_13_method_40_code
def r_Mo_of : Mr := (y_Mo_of, b_Mo_of, 4, (some FieldType.int), 4, 99)
abbrev y_Mo_best : MethodName := ⟨"WinProofsModel", "best", "(II)I"⟩
abbrev b_Mo_best : ByteArray := prog_13_method_41_code
def r_Mo_best : Mr := (y_Mo_best, b_Mo_best, 12, (some FieldType.int), 3, 74)
abbrev y_Mo_play : MethodName := ⟨"WinProofsModel", "play", "(II)I"⟩
abbrev b_Mo_play : ByteArray := prog_13_method_42_code
def r_Mo_play : Mr := (y_Mo_play, b_Mo_play, 6, (some FieldType.int), 3, 74)
abbrev y_Mo_plays : MethodName := ⟨"WinProofsModel", "plays", "()J"⟩
abbrev b_Mo_plays : ByteArray := prog_13_method_43_code
def r_Mo_plays : Mr := (y_Mo_plays, b_Mo_plays, 6, (some FieldType.long), 3, 74)
abbrev y_Mo_needed : MethodName := ⟨"WinProofsModel", "needed", "()I"⟩
abbrev b_Mo_needed : ByteArray := prog_13_method_46_code
def r_Mo_needed : Mr := (y_Mo_needed, b_Mo_needed, 3, (some FieldType.int), 3, 74)
abbrev y_Mo_isReachedWithout : MethodName := ⟨"WinProofsModel", "isReachedWithout", "(III)Z"⟩
abbrev b_Mo_isReachedWithout : ByteArray := prog_13_method_44_code
def r_Mo_isReachedWithout : Mr := (y_Mo_isReachedWithout, b_Mo_isReachedWithout, 9, (some FieldType.boolean), 2, 46)
abbrev y_Mo_isBarred : MethodName := ⟨"WinProofsModel", "isBarred", "(III)Z"⟩
abbrev b_Mo_isBarred : ByteArray := prog_13_method_45_code
def r_Mo_isBarred : Mr := (y_Mo_isBarred, b_Mo_isBarred, 4, (some FieldType.boolean), 1, 23)
abbrev y_Mo_fact : MethodName := ⟨"WinProofsModel", "fact", "(II)I"⟩
abbrev b_Mo_fact : ByteArray := prog_13_method_47_code
def r_Mo_fact : Mr := (y_Mo_fact, b_Mo_fact, 3, (some FieldType.int), 3, 74)
abbrev y_Mo_values : MethodName := ⟨"WinProofsModel", "values", "(I)I"⟩
abbrev b_Mo_values : ByteArray := prog_13_method_48_code
def r_Mo_values : Mr := (y_Mo_values, b_Mo_values, 4, (some FieldType.int), 3, 74)
abbrev y_Mo_flaw : MethodName := ⟨"WinProofsModel", "flaw", "(I)I"⟩
abbrev b_Mo_flaw : ByteArray := prog_13_method_51_code
def r_Mo_flaw : Mr := (y_Mo_flaw, b_Mo_flaw, 3, (some FieldType.int), 4, 97)
abbrev y_Mo_findFlaw : MethodName := ⟨"WinProofsModel", "findFlaw", "()I"⟩
abbrev b_Mo_findFlaw : ByteArray := prog_13_method_50_code
def r_Mo_findFlaw : Mr := (y_Mo_findFlaw, b_Mo_findFlaw, 4, (some FieldType.int), 3, 74)
abbrev y_Mo_isCovered : MethodName := ⟨"WinProofsModel", "isCovered", "(I)Z"⟩
abbrev b_Mo_isCovered : ByteArray := prog_13_method_49_code
def r_Mo_isCovered : Mr := (y_Mo_isCovered, b_Mo_isCovered, 3, (some FieldType.boolean), 1, 26)
abbrev y_La_law : MethodName := ⟨"WinProofsLaw", "law", "([I)Z"⟩
abbrev b_La_law : ByteArray := code
def r_La_law : Mr := (y_La_law, b_La_law, 4, (some FieldType.boolean), 10, 380)
theorem w_1 : Cond.initialized "WinProofs" ∈ lw_tbl := List.mem_append_right _ (List.mem_of_getElem? (i := 1) (by decide +kernel))
theorem w_2 : Cond.initialized "WinProofs$World" ∈ lw_tbl := List.mem_append_right _ (List.mem_of_getElem? (i := 2) (by decide +kernel))
theorem w_3 : Cond.initialized "WinProofs$Act" ∈ lw_tbl := List.mem_append_right _ (List.mem_of_getElem? (i := 3) (by decide +kernel))
theorem w_4 : Cond.initialized "WinProofs$Clauses" ∈ lw_tbl := List.mem_append_right _ (List.mem_of_getElem? (i := 4) (by decide +kernel))
theorem w_5 : Cond.initialized "WinProofs$Outcome" ∈ lw_tbl := List.mem_append_right _ (List.mem_of_getElem? (i := 5) (by decide +kernel))
theorem w_6 : Cond.initialized "WinProofs$Cover" ∈ lw_tbl := List.mem_append_right _ (List.mem_of_getElem? (i := 6) (by decide +kernel))
theorem w_7 : Cond.initialized "WinProofs$Changes" ∈ lw_tbl := List.mem_append_right _ (List.mem_of_getElem? (i := 7) (by decide +kernel))
theorem w_8 : Cond.initialized "WinProofs$Reach" ∈ lw_tbl := List.mem_append_right _ (List.mem_of_getElem? (i := 8) (by decide +kernel))
theorem w_9 : Cond.initialized "WinProofs$Wins" ∈ lw_tbl := List.mem_append_right _ (List.mem_of_getElem? (i := 9) (by decide +kernel))
theorem w_10 : Cond.initialized "WinProofs$Kinds" ∈ lw_tbl := List.mem_append_right _ (List.mem_of_getElem? (i := 10) (by decide +kernel))
theorem w_11 : Cond.initialized "WinProofs$Search" ∈ lw_tbl := List.mem_append_right _ (List.mem_of_getElem? (i := 11) (by decide +kernel))
theorem w_12 : Cond.initialized "WinProofsModel" ∈ lw_tbl := List.mem_append_right _ (List.mem_of_getElem? (i := 12) (by decide +kernel))
theorem w_13 : Cond.initialized "java/util/Arrays" ∈ lw_tbl := List.mem_append_right _ (List.mem_of_getElem? (i := 13) (by decide +kernel))
theorem w_14 : Cond.initialized "java/lang/Math" ∈ lw_tbl := List.mem_append_right _ (List.mem_of_getElem? (i := 14) (by decide +kernel))
theorem w_15 : Cond.initialized "java/lang/System" ∈ lw_tbl := List.mem_append_right _ (List.mem_of_getElem? (i := 15) (by decide +kernel))
theorem w_20 : Cond.code ({ cls := "WinProofs", name := "<init>", desc := "()V" } : MethodName) prog_1_method_1_code (1 : Nat) (Option.none : Option ClassFile.FieldType) ∈ lw_tbl := List.mem_append_right _ (List.mem_of_getElem? (i := 20) (by decide +kernel))
theorem w_21 : Cond.methodLink "WinProofs" (3 : Nat) ({ cls := "java/lang/Object", name := "<init>", desc := "()V" } : MethodName) ∈ lw_tbl := List.mem_append_right _ (List.mem_of_getElem? (i := 21) (by decide +kernel))
theorem w_22 : Cond.instanceMethod ({ cls := "java/lang/Object", name := "<init>", desc := "()V" } : MethodName) ∈ lw_tbl := List.mem_append_right _ (List.mem_of_getElem? (i := 22) (by decide +kernel))
theorem w_24 : Cond.classLink "WinProofs" (9 : Nat) "WinProofs$World" ∈ lw_tbl := List.mem_append_right _ (List.mem_of_getElem? (i := 24) (by decide +kernel))
theorem w_25 : Cond.instantiable "WinProofs$World" (10 : Nat) ∈ lw_tbl := List.mem_append_right _ (List.mem_of_getElem? (i := 25) (by decide +kernel))
theorem w_26 : Cond.methodLink "WinProofs" (11 : Nat) ({ cls := "WinProofs$World", name := "<init>", desc := "()V" } : MethodName) ∈ lw_tbl := List.mem_append_right _ (List.mem_of_getElem? (i := 26) (by decide +kernel))
theorem w_27 : Cond.instanceMethod ({ cls := "WinProofs$World", name := "<init>", desc := "()V" } : MethodName) ∈ lw_tbl := List.mem_append_right _ (List.mem_of_getElem? (i := 27) (by decide +kernel))
theorem w_28 : Cond.code ({ cls := "WinProofs$World", name := "<init>", desc := "()V" } : MethodName) prog_11_method_1_code (2 : Nat) (Option.none : Option ClassFile.FieldType) ∈ lw_tbl := List.mem_append_right _ (List.mem_of_getElem? (i := 28) (by decide +kernel))
theorem w_29 : Cond.methodLink "WinProofs$World" (3 : Nat) ({ cls := "java/lang/Object", name := "<init>", desc := "()V" } : MethodName) ∈ lw_tbl := List.mem_append_right _ (List.mem_of_getElem? (i := 29) (by decide +kernel))
theorem w_30 : Cond.classLink "WinProofs$World" (28 : Nat) "WinProofs$Act" ∈ lw_tbl := List.mem_append_right _ (List.mem_of_getElem? (i := 30) (by decide +kernel))
theorem w_31 : Cond.arrayOver (ClassFile.FieldType.object "WinProofs$Act") ∈ lw_tbl := List.mem_append_right _ (List.mem_of_getElem? (i := 31) (by decide +kernel))
theorem w_32 : Cond.instantiable "WinProofs$Act" (4 : Nat) ∈ lw_tbl := List.mem_append_right _ (List.mem_of_getElem? (i := 32) (by decide +kernel))
theorem w_33 : Cond.methodLink "WinProofs$World" (47 : Nat) ({ cls := "WinProofs$Act", name := "<init>", desc := "()V" } : MethodName) ∈ lw_tbl := List.mem_append_right _ (List.mem_of_getElem? (i := 33) (by decide +kernel))
theorem w_34 : Cond.instanceMethod ({ cls := "WinProofs$Act", name := "<init>", desc := "()V" } : MethodName) ∈ lw_tbl := List.mem_append_right _ (List.mem_of_getElem? (i := 34) (by decide +kernel))
theorem w_35 : Cond.code ({ cls := "WinProofs$Act", name := "<init>", desc := "()V" } : MethodName) prog_2_method_1_code (2 : Nat) (Option.none : Option ClassFile.FieldType) ∈ lw_tbl := List.mem_append_right _ (List.mem_of_getElem? (i := 35) (by decide +kernel))
theorem w_36 : Cond.methodLink "WinProofs$Act" (3 : Nat) ({ cls := "java/lang/Object", name := "<init>", desc := "()V" } : MethodName) ∈ lw_tbl := List.mem_append_right _ (List.mem_of_getElem? (i := 36) (by decide +kernel))
theorem w_37 : Cond.classLink "WinProofs$Act" (9 : Nat) "WinProofs$Clauses" ∈ lw_tbl := List.mem_append_right _ (List.mem_of_getElem? (i := 37) (by decide +kernel))
theorem w_38 : Cond.instantiable "WinProofs$Clauses" (4 : Nat) ∈ lw_tbl := List.mem_append_right _ (List.mem_of_getElem? (i := 38) (by decide +kernel))
theorem w_39 : Cond.methodLinkNest "WinProofs$Act" (11 : Nat) ({ cls := "WinProofs$Clauses", name := "<init>", desc := "()V" } : MethodName) "WinProofs" ∈ lw_tbl := List.mem_append_right _ (List.mem_of_getElem? (i := 39) (by decide +kernel))
theorem w_40 : Cond.instanceMethod ({ cls := "WinProofs$Clauses", name := "<init>", desc := "()V" } : MethodName) ∈ lw_tbl := List.mem_append_right _ (List.mem_of_getElem? (i := 40) (by decide +kernel))
theorem w_41 : Cond.code ({ cls := "WinProofs$Clauses", name := "<init>", desc := "()V" } : MethodName) prog_4_method_1_code (1 : Nat) (Option.none : Option ClassFile.FieldType) ∈ lw_tbl := List.mem_append_right _ (List.mem_of_getElem? (i := 41) (by decide +kernel))
theorem w_42 : Cond.methodLink "WinProofs$Clauses" (3 : Nat) ({ cls := "java/lang/Object", name := "<init>", desc := "()V" } : MethodName) ∈ lw_tbl := List.mem_append_right _ (List.mem_of_getElem? (i := 42) (by decide +kernel))
theorem w_43 : Cond.fieldLink "WinProofs$Clauses" (9 : Nat) "WinProofs$Clauses" "size" "I" ∈ lw_tbl := List.mem_append_right _ (List.mem_of_getElem? (i := 43) (by decide +kernel))
theorem w_44 : Cond.fieldLink "WinProofs$Act" (33 : Nat) "WinProofs$Clauses" "size" "I" ∈ lw_tbl := List.mem_append_right _ (List.mem_of_getElem? (i := 44) (by decide +kernel))
theorem w_45 : Cond.fieldLink "WinProofs" (82 : Nat) "WinProofs$Clauses" "size" "I" ∈ lw_tbl := List.mem_append_right _ (List.mem_of_getElem? (i := 45) (by decide +kernel))
theorem w_46 : Cond.fieldLink "WinProofs$Cover" (42 : Nat) "WinProofs$Clauses" "size" "I" ∈ lw_tbl := List.mem_append_right _ (List.mem_of_getElem? (i := 46) (by decide +kernel))
theorem w_47 : Cond.fieldLink "WinProofs$World" (61 : Nat) "WinProofs$Clauses" "size" "I" ∈ lw_tbl := List.mem_append_right _ (List.mem_of_getElem? (i := 47) (by decide +kernel))
theorem w_48 : Cond.fieldLink "WinProofs$Clauses" (15 : Nat) "WinProofs$Clauses" "thing" "[I" ∈ lw_tbl := List.mem_append_right _ (List.mem_of_getElem? (i := 48) (by decide +kernel))
theorem w_49 : Cond.fieldLink "WinProofs$World" (69 : Nat) "WinProofs$Clauses" "thing" "[I" ∈ lw_tbl := List.mem_append_right _ (List.mem_of_getElem? (i := 49) (by decide +kernel))
theorem w_50 : Cond.fieldLink "WinProofs$Clauses" (19 : Nat) "WinProofs$Clauses" "op" "[I" ∈ lw_tbl := List.mem_append_right _ (List.mem_of_getElem? (i := 50) (by decide +kernel))
theorem w_51 : Cond.fieldLink "WinProofs$World" (83 : Nat) "WinProofs$Clauses" "op" "[I" ∈ lw_tbl := List.mem_append_right _ (List.mem_of_getElem? (i := 51) (by decide +kernel))
theorem w_52 : Cond.fieldLink "WinProofs$Clauses" (22 : Nat) "WinProofs$Clauses" "value" "[I" ∈ lw_tbl := List.mem_append_right _ (List.mem_of_getElem? (i := 52) (by decide +kernel))
theorem w_53 : Cond.fieldLink "WinProofs$World" (80 : Nat) "WinProofs$Clauses" "value" "[I" ∈ lw_tbl := List.mem_append_right _ (List.mem_of_getElem? (i := 53) (by decide +kernel))
theorem w_63 : Cond.arrayClass ClassFile.FieldType.int ∈ lw_tbl := List.mem_append_right _ (List.mem_of_getElem? (i := 63) (by decide +kernel))
theorem w_64 : Cond.classLink "WinProofs$Act" (18 : Nat) "WinProofs$Outcome" ∈ lw_tbl := List.mem_append_right _ (List.mem_of_getElem? (i := 64) (by decide +kernel))
theorem w_65 : Cond.arrayOver (ClassFile.FieldType.object "WinProofs$Outcome") ∈ lw_tbl := List.mem_append_right _ (List.mem_of_getElem? (i := 65) (by decide +kernel))
theorem w_66 : Cond.instantiable "WinProofs$Outcome" (3 : Nat) ∈ lw_tbl := List.mem_append_right _ (List.mem_of_getElem? (i := 66) (by decide +kernel))
theorem w_67 : Cond.methodLinkNest "WinProofs$Act" (32 : Nat) ({ cls := "WinProofs$Outcome", name := "<init>", desc := "()V" } : MethodName) "WinProofs" ∈ lw_tbl := List.mem_append_right _ (List.mem_of_getElem? (i := 67) (by decide +kernel))
theorem w_68 : Cond.instanceMethod ({ cls := "WinProofs$Outcome", name := "<init>", desc := "()V" } : MethodName) ∈ lw_tbl := List.mem_append_right _ (List.mem_of_getElem? (i := 68) (by decide +kernel))
theorem w_69 : Cond.code ({ cls := "WinProofs$Outcome", name := "<init>", desc := "()V" } : MethodName) prog_7_method_1_code (1 : Nat) (Option.none : Option ClassFile.FieldType) ∈ lw_tbl := List.mem_append_right _ (List.mem_of_getElem? (i := 69) (by decide +kernel))
theorem w_70 : Cond.methodLink "WinProofs$Outcome" (1 : Nat) ({ cls := "java/lang/Object", name := "<init>", desc := "()V" } : MethodName) ∈ lw_tbl := List.mem_append_right _ (List.mem_of_getElem? (i := 70) (by decide +kernel))
theorem w_71 : Cond.classLink "WinProofs$Outcome" (7 : Nat) "WinProofs$Clauses" ∈ lw_tbl := List.mem_append_right _ (List.mem_of_getElem? (i := 71) (by decide +kernel))
theorem w_72 : Cond.methodLinkNest "WinProofs$Outcome" (9 : Nat) ({ cls := "WinProofs$Clauses", name := "<init>", desc := "()V" } : MethodName) "WinProofs" ∈ lw_tbl := List.mem_append_right _ (List.mem_of_getElem? (i := 72) (by decide +kernel))
theorem w_73 : Cond.fieldLink "WinProofs$Outcome" (10 : Nat) "WinProofs$Outcome" "effects" "LWinProofs$Clauses;" ∈ lw_tbl := List.mem_append_right _ (List.mem_of_getElem? (i := 73) (by decide +kernel))
theorem w_74 : Cond.fieldLink "WinProofs$Act" (36 : Nat) "WinProofs$Outcome" "effects" "LWinProofs$Clauses;" ∈ lw_tbl := List.mem_append_right _ (List.mem_of_getElem? (i := 74) (by decide +kernel))
theorem w_75 : Cond.fieldLink "WinProofs" (145 : Nat) "WinProofs$Outcome" "effects" "LWinProofs$Clauses;" ∈ lw_tbl := List.mem_append_right _ (List.mem_of_getElem? (i := 75) (by decide +kernel))
theorem w_76 : Cond.fieldLink "WinProofs$Outcome" (16 : Nat) "WinProofs$Outcome" "to" "[I" ∈ lw_tbl := List.mem_append_right _ (List.mem_of_getElem? (i := 76) (by decide +kernel))
theorem w_77 : Cond.fieldLink "WinProofs$Search" (62 : Nat) "WinProofs$Outcome" "to" "[I" ∈ lw_tbl := List.mem_append_right _ (List.mem_of_getElem? (i := 77) (by decide +kernel))
theorem w_78 : Cond.fieldLink "WinProofs$Reach" (73 : Nat) "WinProofs$Outcome" "to" "[I" ∈ lw_tbl := List.mem_append_right _ (List.mem_of_getElem? (i := 78) (by decide +kernel))
theorem w_79 : Cond.fieldLink "WinProofs$Act" (39 : Nat) "WinProofs$Outcome" "to" "[I" ∈ lw_tbl := List.mem_append_right _ (List.mem_of_getElem? (i := 79) (by decide +kernel))
theorem w_80 : Cond.fieldLink "WinProofs$Cover" (91 : Nat) "WinProofs$Outcome" "to" "[I" ∈ lw_tbl := List.mem_append_right _ (List.mem_of_getElem? (i := 80) (by decide +kernel))
theorem w_81 : Cond.fieldLink "WinProofs$Wins" (104 : Nat) "WinProofs$Outcome" "to" "[I" ∈ lw_tbl := List.mem_append_right _ (List.mem_of_getElem? (i := 81) (by decide +kernel))
theorem w_82 : Cond.fieldLink "WinProofs$Kinds" (148 : Nat) "WinProofs$Outcome" "to" "[I" ∈ lw_tbl := List.mem_append_right _ (List.mem_of_getElem? (i := 82) (by decide +kernel))
theorem w_83 : Cond.fieldLink "WinProofs$World" (97 : Nat) "WinProofs$Outcome" "to" "[I" ∈ lw_tbl := List.mem_append_right _ (List.mem_of_getElem? (i := 83) (by decide +kernel))
theorem w_84 : Cond.fieldLink "WinProofs$Outcome" (20 : Nat) "WinProofs$Outcome" "next" "[I" ∈ lw_tbl := List.mem_append_right _ (List.mem_of_getElem? (i := 84) (by decide +kernel))
theorem w_85 : Cond.fieldLink "WinProofs$Act" (52 : Nat) "WinProofs$Outcome" "next" "[I" ∈ lw_tbl := List.mem_append_right _ (List.mem_of_getElem? (i := 85) (by decide +kernel))
theorem w_86 : Cond.fieldLink "WinProofs$World" (105 : Nat) "WinProofs$Outcome" "next" "[I" ∈ lw_tbl := List.mem_append_right _ (List.mem_of_getElem? (i := 86) (by decide +kernel))
theorem w_94 : Cond.fieldLink "WinProofs$Act" (12 : Nat) "WinProofs$Act" "conditions" "LWinProofs$Clauses;" ∈ lw_tbl := List.mem_append_right _ (List.mem_of_getElem? (i := 94) (by decide +kernel))
theorem w_95 : Cond.fieldLink "WinProofs" (127 : Nat) "WinProofs$Act" "conditions" "LWinProofs$Clauses;" ∈ lw_tbl := List.mem_append_right _ (List.mem_of_getElem? (i := 95) (by decide +kernel))
theorem w_96 : Cond.fieldLink "WinProofs$Act" (20 : Nat) "WinProofs$Act" "outcomes" "[LWinProofs$Outcome;" ∈ lw_tbl := List.mem_append_right _ (List.mem_of_getElem? (i := 96) (by decide +kernel))
theorem w_97 : Cond.fieldLink "WinProofs$Search" (58 : Nat) "WinProofs$Act" "outcomes" "[LWinProofs$Outcome;" ∈ lw_tbl := List.mem_append_right _ (List.mem_of_getElem? (i := 97) (by decide +kernel))
theorem w_98 : Cond.fieldLink "WinProofs$Reach" (69 : Nat) "WinProofs$Act" "outcomes" "[LWinProofs$Outcome;" ∈ lw_tbl := List.mem_append_right _ (List.mem_of_getElem? (i := 98) (by decide +kernel))
theorem w_99 : Cond.fieldLink "WinProofs$Cover" (87 : Nat) "WinProofs$Act" "outcomes" "[LWinProofs$Outcome;" ∈ lw_tbl := List.mem_append_right _ (List.mem_of_getElem? (i := 99) (by decide +kernel))
theorem w_100 : Cond.fieldLink "WinProofs$Wins" (100 : Nat) "WinProofs$Act" "outcomes" "[LWinProofs$Outcome;" ∈ lw_tbl := List.mem_append_right _ (List.mem_of_getElem? (i := 100) (by decide +kernel))
theorem w_101 : Cond.fieldLink "WinProofs" (141 : Nat) "WinProofs$Act" "outcomes" "[LWinProofs$Outcome;" ∈ lw_tbl := List.mem_append_right _ (List.mem_of_getElem? (i := 101) (by decide +kernel))
theorem w_102 : Cond.fieldLink "WinProofs$Kinds" (144 : Nat) "WinProofs$Act" "outcomes" "[LWinProofs$Outcome;" ∈ lw_tbl := List.mem_append_right _ (List.mem_of_getElem? (i := 102) (by decide +kernel))
theorem w_103 : Cond.fieldLink "WinProofs$World" (90 : Nat) "WinProofs$Act" "outcomes" "[LWinProofs$Outcome;" ∈ lw_tbl := List.mem_append_right _ (List.mem_of_getElem? (i := 103) (by decide +kernel))
theorem w_104 : Cond.fieldLink "WinProofs$Act" (24 : Nat) "WinProofs$Act" "outcomeCount" "I" ∈ lw_tbl := List.mem_append_right _ (List.mem_of_getElem? (i := 104) (by decide +kernel))
theorem w_105 : Cond.fieldLink "WinProofs$Search" (55 : Nat) "WinProofs$Act" "outcomeCount" "I" ∈ lw_tbl := List.mem_append_right _ (List.mem_of_getElem? (i := 105) (by decide +kernel))
theorem w_106 : Cond.fieldLink "WinProofs$Reach" (66 : Nat) "WinProofs$Act" "outcomeCount" "I" ∈ lw_tbl := List.mem_append_right _ (List.mem_of_getElem? (i := 106) (by decide +kernel))
theorem w_107 : Cond.fieldLink "WinProofs$Cover" (82 : Nat) "WinProofs$Act" "outcomeCount" "I" ∈ lw_tbl := List.mem_append_right _ (List.mem_of_getElem? (i := 107) (by decide +kernel))
theorem w_108 : Cond.fieldLink "WinProofs$Wins" (95 : Nat) "WinProofs$Act" "outcomeCount" "I" ∈ lw_tbl := List.mem_append_right _ (List.mem_of_getElem? (i := 108) (by decide +kernel))
theorem w_109 : Cond.fieldLink "WinProofs$World" (55 : Nat) "WinProofs$Act" "outcomeCount" "I" ∈ lw_tbl := List.mem_append_right _ (List.mem_of_getElem? (i := 109) (by decide +kernel))
theorem w_110 : Cond.fieldLink "WinProofs$Kinds" (153 : Nat) "WinProofs$Act" "outcomeCount" "I" ∈ lw_tbl := List.mem_append_right _ (List.mem_of_getElem? (i := 110) (by decide +kernel))
theorem w_111 : Cond.fieldLink "WinProofs$Act" (28 : Nat) "WinProofs$Act" "fresh" "Z" ∈ lw_tbl := List.mem_append_right _ (List.mem_of_getElem? (i := 111) (by decide +kernel))
theorem w_112 : Cond.fieldLink "WinProofs$World" (111 : Nat) "WinProofs$Act" "fresh" "Z" ∈ lw_tbl := List.mem_append_right _ (List.mem_of_getElem? (i := 112) (by decide +kernel))
theorem w_113 : Cond.fieldLink "WinProofs" (283 : Nat) "WinProofs$Act" "fresh" "Z" ∈ lw_tbl := List.mem_append_right _ (List.mem_of_getElem? (i := 113) (by decide +kernel))
theorem w_123 : Cond.fieldLink "WinProofs$World" (9 : Nat) "WinProofs$World" "things" "I" ∈ lw_tbl := List.mem_append_right _ (List.mem_of_getElem? (i := 123) (by decide +kernel))
theorem w_124 : Cond.fieldLink "WinProofs" (76 : Nat) "WinProofs$World" "things" "I" ∈ lw_tbl := List.mem_append_right _ (List.mem_of_getElem? (i := 124) (by decide +kernel))
theorem w_125 : Cond.fieldLink "WinProofs$World" (15 : Nat) "WinProofs$World" "states" "I" ∈ lw_tbl := List.mem_append_right _ (List.mem_of_getElem? (i := 125) (by decide +kernel))
theorem w_126 : Cond.fieldLink "WinProofs$Kinds" (69 : Nat) "WinProofs$World" "states" "I" ∈ lw_tbl := List.mem_append_right _ (List.mem_of_getElem? (i := 126) (by decide +kernel))
theorem w_127 : Cond.fieldLink "WinProofs$Reach" (30 : Nat) "WinProofs$World" "states" "I" ∈ lw_tbl := List.mem_append_right _ (List.mem_of_getElem? (i := 127) (by decide +kernel))
theorem w_128 : Cond.fieldLink "WinProofs$Wins" (43 : Nat) "WinProofs$World" "states" "I" ∈ lw_tbl := List.mem_append_right _ (List.mem_of_getElem? (i := 128) (by decide +kernel))
theorem w_129 : Cond.fieldLink "WinProofs$Search" (29 : Nat) "WinProofs$World" "states" "I" ∈ lw_tbl := List.mem_append_right _ (List.mem_of_getElem? (i := 129) (by decide +kernel))
theorem w_130 : Cond.fieldLink "WinProofs$Cover" (51 : Nat) "WinProofs$World" "states" "I" ∈ lw_tbl := List.mem_append_right _ (List.mem_of_getElem? (i := 130) (by decide +kernel))
theorem w_131 : Cond.fieldLink "WinProofs$Act" (43 : Nat) "WinProofs$World" "states" "I" ∈ lw_tbl := List.mem_append_right _ (List.mem_of_getElem? (i := 131) (by decide +kernel))
theorem w_132 : Cond.fieldLink "WinProofs" (169 : Nat) "WinProofs$World" "states" "I" ∈ lw_tbl := List.mem_append_right _ (List.mem_of_getElem? (i := 132) (by decide +kernel))
theorem w_133 : Cond.fieldLink "WinProofs$World" (18 : Nat) "WinProofs$World" "actCount" "I" ∈ lw_tbl := List.mem_append_right _ (List.mem_of_getElem? (i := 133) (by decide +kernel))
theorem w_134 : Cond.fieldLink "WinProofs$Search" (42 : Nat) "WinProofs$World" "actCount" "I" ∈ lw_tbl := List.mem_append_right _ (List.mem_of_getElem? (i := 134) (by decide +kernel))
theorem w_135 : Cond.fieldLink "WinProofs$Reach" (49 : Nat) "WinProofs$World" "actCount" "I" ∈ lw_tbl := List.mem_append_right _ (List.mem_of_getElem? (i := 135) (by decide +kernel))
theorem w_136 : Cond.fieldLink "WinProofs" (89 : Nat) "WinProofs$World" "actCount" "I" ∈ lw_tbl := List.mem_append_right _ (List.mem_of_getElem? (i := 136) (by decide +kernel))
theorem w_137 : Cond.fieldLink "WinProofs$Kinds" (94 : Nat) "WinProofs$World" "actCount" "I" ∈ lw_tbl := List.mem_append_right _ (List.mem_of_getElem? (i := 137) (by decide +kernel))
theorem w_138 : Cond.fieldLink "WinProofs$Cover" (75 : Nat) "WinProofs$World" "actCount" "I" ∈ lw_tbl := List.mem_append_right _ (List.mem_of_getElem? (i := 138) (by decide +kernel))
theorem w_139 : Cond.fieldLink "WinProofs$Wins" (109 : Nat) "WinProofs$World" "actCount" "I" ∈ lw_tbl := List.mem_append_right _ (List.mem_of_getElem? (i := 139) (by decide +kernel))
theorem w_140 : Cond.fieldLink "WinProofs$World" (21 : Nat) "WinProofs$World" "sizes" "[I" ∈ lw_tbl := List.mem_append_right _ (List.mem_of_getElem? (i := 140) (by decide +kernel))
theorem w_141 : Cond.fieldLink "WinProofs" (244 : Nat) "WinProofs$World" "sizes" "[I" ∈ lw_tbl := List.mem_append_right _ (List.mem_of_getElem? (i := 141) (by decide +kernel))
theorem w_142 : Cond.fieldLink "WinProofs$World" (25 : Nat) "WinProofs$World" "weights" "[I" ∈ lw_tbl := List.mem_append_right _ (List.mem_of_getElem? (i := 142) (by decide +kernel))
theorem w_143 : Cond.fieldLink "WinProofs$World" (30 : Nat) "WinProofs$World" "acts" "[LWinProofs$Act;" ∈ lw_tbl := List.mem_append_right _ (List.mem_of_getElem? (i := 143) (by decide +kernel))
theorem w_144 : Cond.fieldLink "WinProofs$Search" (45 : Nat) "WinProofs$World" "acts" "[LWinProofs$Act;" ∈ lw_tbl := List.mem_append_right _ (List.mem_of_getElem? (i := 144) (by decide +kernel))
theorem w_145 : Cond.fieldLink "WinProofs$Reach" (52 : Nat) "WinProofs$World" "acts" "[LWinProofs$Act;" ∈ lw_tbl := List.mem_append_right _ (List.mem_of_getElem? (i := 145) (by decide +kernel))
theorem w_146 : Cond.fieldLink "WinProofs" (110 : Nat) "WinProofs$World" "acts" "[LWinProofs$Act;" ∈ lw_tbl := List.mem_append_right _ (List.mem_of_getElem? (i := 146) (by decide +kernel))
theorem w_147 : Cond.fieldLink "WinProofs$Kinds" (106 : Nat) "WinProofs$World" "acts" "[LWinProofs$Act;" ∈ lw_tbl := List.mem_append_right _ (List.mem_of_getElem? (i := 147) (by decide +kernel))
theorem w_148 : Cond.fieldLink "WinProofs$Wins" (88 : Nat) "WinProofs$World" "acts" "[LWinProofs$Act;" ∈ lw_tbl := List.mem_append_right _ (List.mem_of_getElem? (i := 148) (by decide +kernel))
theorem w_149 : Cond.fieldLink "WinProofs$Cover" (78 : Nat) "WinProofs$World" "acts" "[LWinProofs$Act;" ∈ lw_tbl := List.mem_append_right _ (List.mem_of_getElem? (i := 149) (by decide +kernel))
theorem w_150 : Cond.fieldLink "WinProofs$World" (34 : Nat) "WinProofs$World" "packed" "[I" ∈ lw_tbl := List.mem_append_right _ (List.mem_of_getElem? (i := 150) (by decide +kernel))
theorem w_151 : Cond.fieldLink "WinProofs$Wins" (52 : Nat) "WinProofs$World" "packed" "[I" ∈ lw_tbl := List.mem_append_right _ (List.mem_of_getElem? (i := 151) (by decide +kernel))
theorem w_152 : Cond.fieldLink "WinProofs$Search" (75 : Nat) "WinProofs$World" "packed" "[I" ∈ lw_tbl := List.mem_append_right _ (List.mem_of_getElem? (i := 152) (by decide +kernel))
theorem w_153 : Cond.fieldLink "WinProofs$Cover" (64 : Nat) "WinProofs$World" "packed" "[I" ∈ lw_tbl := List.mem_append_right _ (List.mem_of_getElem? (i := 153) (by decide +kernel))
theorem w_154 : Cond.fieldLink "WinProofs$Act" (55 : Nat) "WinProofs$World" "packed" "[I" ∈ lw_tbl := List.mem_append_right _ (List.mem_of_getElem? (i := 154) (by decide +kernel))
theorem w_155 : Cond.fieldLink "WinProofs" (247 : Nat) "WinProofs$World" "packed" "[I" ∈ lw_tbl := List.mem_append_right _ (List.mem_of_getElem? (i := 155) (by decide +kernel))
theorem w_156 : Cond.fieldLink "WinProofs$World" (37 : Nat) "WinProofs$World" "lastInto" "[I" ∈ lw_tbl := List.mem_append_right _ (List.mem_of_getElem? (i := 156) (by decide +kernel))
theorem w_157 : Cond.fieldLink "WinProofs$Wins" (73 : Nat) "WinProofs$World" "lastInto" "[I" ∈ lw_tbl := List.mem_append_right _ (List.mem_of_getElem? (i := 157) (by decide +kernel))
theorem w_158 : Cond.fieldLink "WinProofs$Kinds" (168 : Nat) "WinProofs$World" "lastInto" "[I" ∈ lw_tbl := List.mem_append_right _ (List.mem_of_getElem? (i := 158) (by decide +kernel))
theorem w_159 : Cond.fieldLink "WinProofs$World" (40 : Nat) "WinProofs$World" "packedFresh" "Z" ∈ lw_tbl := List.mem_append_right _ (List.mem_of_getElem? (i := 159) (by decide +kernel))
theorem w_160 : Cond.fieldLink "WinProofs$World" (44 : Nat) "WinProofs$World" "rowsFresh" "Z" ∈ lw_tbl := List.mem_append_right _ (List.mem_of_getElem? (i := 160) (by decide +kernel))
theorem w_161 : Cond.fieldLink "WinProofs" (287 : Nat) "WinProofs$World" "rowsFresh" "Z" ∈ lw_tbl := List.mem_append_right _ (List.mem_of_getElem? (i := 161) (by decide +kernel))
theorem w_183 : Cond.classLink "WinProofs" (16 : Nat) "WinProofs$Clauses" ∈ lw_tbl := List.mem_append_right _ (List.mem_of_getElem? (i := 183) (by decide +kernel))
theorem w_184 : Cond.methodLinkNest "WinProofs" (18 : Nat) ({ cls := "WinProofs$Clauses", name := "<init>", desc := "()V" } : MethodName) "WinProofs" ∈ lw_tbl := List.mem_append_right _ (List.mem_of_getElem? (i := 184) (by decide +kernel))
theorem w_185 : Cond.classLink "WinProofs" (23 : Nat) "WinProofs$Cover" ∈ lw_tbl := List.mem_append_right _ (List.mem_of_getElem? (i := 185) (by decide +kernel))
theorem w_186 : Cond.instantiable "WinProofs$Cover" (8 : Nat) ∈ lw_tbl := List.mem_append_right _ (List.mem_of_getElem? (i := 186) (by decide +kernel))
theorem w_187 : Cond.methodLink "WinProofs" (25 : Nat) ({ cls := "WinProofs$Cover", name := "<init>", desc := "()V" } : MethodName) ∈ lw_tbl := List.mem_append_right _ (List.mem_of_getElem? (i := 187) (by decide +kernel))
theorem w_188 : Cond.instanceMethod ({ cls := "WinProofs$Cover", name := "<init>", desc := "()V" } : MethodName) ∈ lw_tbl := List.mem_append_right _ (List.mem_of_getElem? (i := 188) (by decide +kernel))
theorem w_189 : Cond.code ({ cls := "WinProofs$Cover", name := "<init>", desc := "()V" } : MethodName) prog_5_method_1_code (2 : Nat) (Option.none : Option ClassFile.FieldType) ∈ lw_tbl := List.mem_append_right _ (List.mem_of_getElem? (i := 189) (by decide +kernel))
theorem w_190 : Cond.methodLink "WinProofs$Cover" (3 : Nat) ({ cls := "java/lang/Object", name := "<init>", desc := "()V" } : MethodName) ∈ lw_tbl := List.mem_append_right _ (List.mem_of_getElem? (i := 190) (by decide +kernel))
theorem w_191 : Cond.classLink "WinProofs$Cover" (15 : Nat) "WinProofs$Clauses" ∈ lw_tbl := List.mem_append_right _ (List.mem_of_getElem? (i := 191) (by decide +kernel))
theorem w_192 : Cond.arrayOver (ClassFile.FieldType.object "WinProofs$Clauses") ∈ lw_tbl := List.mem_append_right _ (List.mem_of_getElem? (i := 192) (by decide +kernel))
theorem w_193 : Cond.methodLinkNest "WinProofs$Cover" (41 : Nat) ({ cls := "WinProofs$Clauses", name := "<init>", desc := "()V" } : MethodName) "WinProofs" ∈ lw_tbl := List.mem_append_right _ (List.mem_of_getElem? (i := 193) (by decide +kernel))
theorem w_194 : Cond.fieldLink "WinProofs$Cover" (9 : Nat) "WinProofs$Cover" "size" "I" ∈ lw_tbl := List.mem_append_right _ (List.mem_of_getElem? (i := 194) (by decide +kernel))
theorem w_195 : Cond.fieldLink "WinProofs" (85 : Nat) "WinProofs$Cover" "size" "I" ∈ lw_tbl := List.mem_append_right _ (List.mem_of_getElem? (i := 195) (by decide +kernel))
theorem w_196 : Cond.fieldLink "WinProofs$Cover" (17 : Nat) "WinProofs$Cover" "parts" "[LWinProofs$Clauses;" ∈ lw_tbl := List.mem_append_right _ (List.mem_of_getElem? (i := 196) (by decide +kernel))
theorem w_197 : Cond.fieldLink "WinProofs" (260 : Nat) "WinProofs$Cover" "parts" "[LWinProofs$Clauses;" ∈ lw_tbl := List.mem_append_right _ (List.mem_of_getElem? (i := 197) (by decide +kernel))
theorem w_198 : Cond.fieldLink "WinProofs$Cover" (21 : Nat) "WinProofs$Cover" "number" "I" ∈ lw_tbl := List.mem_append_right _ (List.mem_of_getElem? (i := 198) (by decide +kernel))
theorem w_199 : Cond.fieldLink "WinProofs" (271 : Nat) "WinProofs$Cover" "number" "I" ∈ lw_tbl := List.mem_append_right _ (List.mem_of_getElem? (i := 199) (by decide +kernel))
theorem w_200 : Cond.fieldLink "WinProofs$Cover" (24 : Nat) "WinProofs$Cover" "toldState" "I" ∈ lw_tbl := List.mem_append_right _ (List.mem_of_getElem? (i := 200) (by decide +kernel))
theorem w_201 : Cond.fieldLink "WinProofs" (274 : Nat) "WinProofs$Cover" "toldState" "I" ∈ lw_tbl := List.mem_append_right _ (List.mem_of_getElem? (i := 201) (by decide +kernel))
theorem w_202 : Cond.fieldLink "WinProofs$Cover" (27 : Nat) "WinProofs$Cover" "toldAct" "I" ∈ lw_tbl := List.mem_append_right _ (List.mem_of_getElem? (i := 202) (by decide +kernel))
theorem w_203 : Cond.fieldLink "WinProofs" (277 : Nat) "WinProofs$Cover" "toldAct" "I" ∈ lw_tbl := List.mem_append_right _ (List.mem_of_getElem? (i := 203) (by decide +kernel))
theorem w_204 : Cond.fieldLink "WinProofs$Cover" (30 : Nat) "WinProofs$Cover" "toldOutcome" "I" ∈ lw_tbl := List.mem_append_right _ (List.mem_of_getElem? (i := 204) (by decide +kernel))
theorem w_205 : Cond.fieldLink "WinProofs" (280 : Nat) "WinProofs$Cover" "toldOutcome" "I" ∈ lw_tbl := List.mem_append_right _ (List.mem_of_getElem? (i := 205) (by decide +kernel))
theorem w_206 : Cond.fieldLink "WinProofs$Cover" (33 : Nat) "WinProofs$Cover" "made" "J" ∈ lw_tbl := List.mem_append_right _ (List.mem_of_getElem? (i := 206) (by decide +kernel))
theorem w_207 : Cond.fieldLink "WinProofs" (264 : Nat) "WinProofs$Cover" "made" "J" ∈ lw_tbl := List.mem_append_right _ (List.mem_of_getElem? (i := 207) (by decide +kernel))
theorem w_208 : Cond.fieldLink "WinProofs$Cover" (37 : Nat) "WinProofs$Cover" "inside" "[Z" ∈ lw_tbl := List.mem_append_right _ (List.mem_of_getElem? (i := 208) (by decide +kernel))
theorem w_226 : Cond.arrayClass ClassFile.FieldType.boolean ∈ lw_tbl := List.mem_append_right _ (List.mem_of_getElem? (i := 226) (by decide +kernel))
theorem w_227 : Cond.classLink "WinProofs" (30 : Nat) "WinProofs$Changes" ∈ lw_tbl := List.mem_append_right _ (List.mem_of_getElem? (i := 227) (by decide +kernel))
theorem w_228 : Cond.instantiable "WinProofs$Changes" (4 : Nat) ∈ lw_tbl := List.mem_append_right _ (List.mem_of_getElem? (i := 228) (by decide +kernel))
theorem w_229 : Cond.methodLinkNest "WinProofs" (32 : Nat) ({ cls := "WinProofs$Changes", name := "<init>", desc := "()V" } : MethodName) "WinProofs" ∈ lw_tbl := List.mem_append_right _ (List.mem_of_getElem? (i := 229) (by decide +kernel))
theorem w_230 : Cond.instanceMethod ({ cls := "WinProofs$Changes", name := "<init>", desc := "()V" } : MethodName) ∈ lw_tbl := List.mem_append_right _ (List.mem_of_getElem? (i := 230) (by decide +kernel))
theorem w_231 : Cond.code ({ cls := "WinProofs$Changes", name := "<init>", desc := "()V" } : MethodName) prog_3_method_1_code (1 : Nat) (Option.none : Option ClassFile.FieldType) ∈ lw_tbl := List.mem_append_right _ (List.mem_of_getElem? (i := 231) (by decide +kernel))
theorem w_232 : Cond.methodLink "WinProofs$Changes" (1 : Nat) ({ cls := "java/lang/Object", name := "<init>", desc := "()V" } : MethodName) ∈ lw_tbl := List.mem_append_right _ (List.mem_of_getElem? (i := 232) (by decide +kernel))
theorem w_233 : Cond.fieldLink "WinProofs$Changes" (7 : Nat) "WinProofs$Changes" "latest" "J" ∈ lw_tbl := List.mem_append_right _ (List.mem_of_getElem? (i := 233) (by decide +kernel))
theorem w_234 : Cond.fieldLink "WinProofs" (235 : Nat) "WinProofs$Changes" "latest" "J" ∈ lw_tbl := List.mem_append_right _ (List.mem_of_getElem? (i := 234) (by decide +kernel))
theorem w_235 : Cond.fieldLink "WinProofs$Changes" (13 : Nat) "WinProofs$Changes" "world" "J" ∈ lw_tbl := List.mem_append_right _ (List.mem_of_getElem? (i := 235) (by decide +kernel))
theorem w_236 : Cond.fieldLink "WinProofs" (291 : Nat) "WinProofs$Changes" "world" "J" ∈ lw_tbl := List.mem_append_right _ (List.mem_of_getElem? (i := 236) (by decide +kernel))
theorem w_237 : Cond.fieldLink "WinProofs$Changes" (16 : Nat) "WinProofs$Changes" "start" "J" ∈ lw_tbl := List.mem_append_right _ (List.mem_of_getElem? (i := 237) (by decide +kernel))
theorem w_238 : Cond.fieldLink "WinProofs" (293 : Nat) "WinProofs$Changes" "start" "J" ∈ lw_tbl := List.mem_append_right _ (List.mem_of_getElem? (i := 238) (by decide +kernel))
theorem w_239 : Cond.fieldLink "WinProofs$Changes" (19 : Nat) "WinProofs$Changes" "aim" "J" ∈ lw_tbl := List.mem_append_right _ (List.mem_of_getElem? (i := 239) (by decide +kernel))
theorem w_240 : Cond.fieldLink "WinProofs" (309 : Nat) "WinProofs$Changes" "aim" "J" ∈ lw_tbl := List.mem_append_right _ (List.mem_of_getElem? (i := 240) (by decide +kernel))
theorem w_250 : Cond.classLink "WinProofs" (37 : Nat) "WinProofs$Reach" ∈ lw_tbl := List.mem_append_right _ (List.mem_of_getElem? (i := 250) (by decide +kernel))
theorem w_251 : Cond.instantiable "WinProofs$Reach" (5 : Nat) ∈ lw_tbl := List.mem_append_right _ (List.mem_of_getElem? (i := 251) (by decide +kernel))
theorem w_252 : Cond.methodLinkNest "WinProofs" (39 : Nat) ({ cls := "WinProofs$Reach", name := "<init>", desc := "()V" } : MethodName) "WinProofs" ∈ lw_tbl := List.mem_append_right _ (List.mem_of_getElem? (i := 252) (by decide +kernel))
theorem w_253 : Cond.instanceMethod ({ cls := "WinProofs$Reach", name := "<init>", desc := "()V" } : MethodName) ∈ lw_tbl := List.mem_append_right _ (List.mem_of_getElem? (i := 253) (by decide +kernel))
theorem w_254 : Cond.code ({ cls := "WinProofs$Reach", name := "<init>", desc := "()V" } : MethodName) prog_8_method_1_code (1 : Nat) (Option.none : Option ClassFile.FieldType) ∈ lw_tbl := List.mem_append_right _ (List.mem_of_getElem? (i := 254) (by decide +kernel))
theorem w_255 : Cond.methodLink "WinProofs$Reach" (3 : Nat) ({ cls := "java/lang/Object", name := "<init>", desc := "()V" } : MethodName) ∈ lw_tbl := List.mem_append_right _ (List.mem_of_getElem? (i := 255) (by decide +kernel))
theorem w_256 : Cond.fieldLink "WinProofs$Reach" (9 : Nat) "WinProofs$Reach" "steps" "[I" ∈ lw_tbl := List.mem_append_right _ (List.mem_of_getElem? (i := 256) (by decide +kernel))
theorem w_257 : Cond.fieldLink "WinProofs" (201 : Nat) "WinProofs$Reach" "steps" "[I" ∈ lw_tbl := List.mem_append_right _ (List.mem_of_getElem? (i := 257) (by decide +kernel))
theorem w_258 : Cond.fieldLink "WinProofs$Reach" (15 : Nat) "WinProofs$Reach" "ways" "[J" ∈ lw_tbl := List.mem_append_right _ (List.mem_of_getElem? (i := 258) (by decide +kernel))
theorem w_259 : Cond.fieldLink "WinProofs" (231 : Nat) "WinProofs$Reach" "ways" "[J" ∈ lw_tbl := List.mem_append_right _ (List.mem_of_getElem? (i := 259) (by decide +kernel))
theorem w_260 : Cond.fieldLink "WinProofs$Reach" (19 : Nat) "WinProofs$Reach" "queue" "[I" ∈ lw_tbl := List.mem_append_right _ (List.mem_of_getElem? (i := 260) (by decide +kernel))
theorem w_261 : Cond.fieldLink "WinProofs$Reach" (22 : Nat) "WinProofs$Reach" "found" "I" ∈ lw_tbl := List.mem_append_right _ (List.mem_of_getElem? (i := 261) (by decide +kernel))
theorem w_262 : Cond.fieldLink "WinProofs" (175 : Nat) "WinProofs$Reach" "found" "I" ∈ lw_tbl := List.mem_append_right _ (List.mem_of_getElem? (i := 262) (by decide +kernel))
theorem w_263 : Cond.fieldLink "WinProofs$Reach" (26 : Nat) "WinProofs$Reach" "made" "J" ∈ lw_tbl := List.mem_append_right _ (List.mem_of_getElem? (i := 263) (by decide +kernel))
theorem w_264 : Cond.fieldLink "WinProofs" (290 : Nat) "WinProofs$Reach" "made" "J" ∈ lw_tbl := List.mem_append_right _ (List.mem_of_getElem? (i := 264) (by decide +kernel))
theorem w_276 : Cond.arrayClass ClassFile.FieldType.long ∈ lw_tbl := List.mem_append_right _ (List.mem_of_getElem? (i := 276) (by decide +kernel))
theorem w_277 : Cond.classLink "WinProofs" (44 : Nat) "WinProofs$Wins" ∈ lw_tbl := List.mem_append_right _ (List.mem_of_getElem? (i := 277) (by decide +kernel))
theorem w_278 : Cond.instantiable "WinProofs$Wins" (9 : Nat) ∈ lw_tbl := List.mem_append_right _ (List.mem_of_getElem? (i := 278) (by decide +kernel))
theorem w_279 : Cond.methodLinkNest "WinProofs" (46 : Nat) ({ cls := "WinProofs$Wins", name := "<init>", desc := "()V" } : MethodName) "WinProofs" ∈ lw_tbl := List.mem_append_right _ (List.mem_of_getElem? (i := 279) (by decide +kernel))
theorem w_280 : Cond.instanceMethod ({ cls := "WinProofs$Wins", name := "<init>", desc := "()V" } : MethodName) ∈ lw_tbl := List.mem_append_right _ (List.mem_of_getElem? (i := 280) (by decide +kernel))
theorem w_281 : Cond.code ({ cls := "WinProofs$Wins", name := "<init>", desc := "()V" } : MethodName) prog_10_method_1_code (1 : Nat) (Option.none : Option ClassFile.FieldType) ∈ lw_tbl := List.mem_append_right _ (List.mem_of_getElem? (i := 281) (by decide +kernel))
theorem w_282 : Cond.methodLink "WinProofs$Wins" (3 : Nat) ({ cls := "java/lang/Object", name := "<init>", desc := "()V" } : MethodName) ∈ lw_tbl := List.mem_append_right _ (List.mem_of_getElem? (i := 282) (by decide +kernel))
theorem w_283 : Cond.fieldLink "WinProofs$Wins" (9 : Nat) "WinProofs$Wins" "inAim" "[Z" ∈ lw_tbl := List.mem_append_right _ (List.mem_of_getElem? (i := 283) (by decide +kernel))
theorem w_284 : Cond.fieldLink "WinProofs" (228 : Nat) "WinProofs$Wins" "inAim" "[Z" ∈ lw_tbl := List.mem_append_right _ (List.mem_of_getElem? (i := 284) (by decide +kernel))
theorem w_285 : Cond.fieldLink "WinProofs$Wins" (15 : Nat) "WinProofs$Wins" "aimStates" "I" ∈ lw_tbl := List.mem_append_right _ (List.mem_of_getElem? (i := 285) (by decide +kernel))
theorem w_286 : Cond.fieldLink "WinProofs" (181 : Nat) "WinProofs$Wins" "aimStates" "I" ∈ lw_tbl := List.mem_append_right _ (List.mem_of_getElem? (i := 286) (by decide +kernel))
theorem w_287 : Cond.fieldLink "WinProofs$Wins" (19 : Nat) "WinProofs$Wins" "aimMade" "J" ∈ lw_tbl := List.mem_append_right _ (List.mem_of_getElem? (i := 287) (by decide +kernel))
theorem w_288 : Cond.fieldLink "WinProofs" (306 : Nat) "WinProofs$Wins" "aimMade" "J" ∈ lw_tbl := List.mem_append_right _ (List.mem_of_getElem? (i := 288) (by decide +kernel))
theorem w_289 : Cond.fieldLink "WinProofs$Wins" (23 : Nat) "WinProofs$Wins" "may" "[I" ∈ lw_tbl := List.mem_append_right _ (List.mem_of_getElem? (i := 289) (by decide +kernel))
theorem w_290 : Cond.fieldLink "WinProofs$Wins" (27 : Nat) "WinProofs$Wins" "must" "[I" ∈ lw_tbl := List.mem_append_right _ (List.mem_of_getElem? (i := 290) (by decide +kernel))
theorem w_291 : Cond.fieldLink "WinProofs$Wins" (30 : Nat) "WinProofs$Wins" "level" "[I" ∈ lw_tbl := List.mem_append_right _ (List.mem_of_getElem? (i := 291) (by decide +kernel))
theorem w_292 : Cond.fieldLink "WinProofs$Wins" (33 : Nat) "WinProofs$Wins" "made" "[J" ∈ lw_tbl := List.mem_append_right _ (List.mem_of_getElem? (i := 292) (by decide +kernel))
theorem w_293 : Cond.fieldLink "WinProofs" (315 : Nat) "WinProofs$Wins" "made" "[J" ∈ lw_tbl := List.mem_append_right _ (List.mem_of_getElem? (i := 293) (by decide +kernel))
theorem w_294 : Cond.fieldLink "WinProofs$Wins" (37 : Nat) "WinProofs$Wins" "trusted" "[Z" ∈ lw_tbl := List.mem_append_right _ (List.mem_of_getElem? (i := 294) (by decide +kernel))
theorem w_295 : Cond.fieldLink "WinProofs$Wins" (40 : Nat) "WinProofs$Wins" "queue" "[I" ∈ lw_tbl := List.mem_append_right _ (List.mem_of_getElem? (i := 295) (by decide +kernel))
theorem w_315 : Cond.classLink "WinProofs" (51 : Nat) "WinProofs$Kinds" ∈ lw_tbl := List.mem_append_right _ (List.mem_of_getElem? (i := 315) (by decide +kernel))
theorem w_316 : Cond.instantiable "WinProofs$Kinds" (18 : Nat) ∈ lw_tbl := List.mem_append_right _ (List.mem_of_getElem? (i := 316) (by decide +kernel))
theorem w_317 : Cond.methodLinkNest "WinProofs" (53 : Nat) ({ cls := "WinProofs$Kinds", name := "<init>", desc := "()V" } : MethodName) "WinProofs" ∈ lw_tbl := List.mem_append_right _ (List.mem_of_getElem? (i := 317) (by decide +kernel))
theorem w_318 : Cond.instanceMethod ({ cls := "WinProofs$Kinds", name := "<init>", desc := "()V" } : MethodName) ∈ lw_tbl := List.mem_append_right _ (List.mem_of_getElem? (i := 318) (by decide +kernel))
theorem w_319 : Cond.code ({ cls := "WinProofs$Kinds", name := "<init>", desc := "()V" } : MethodName) prog_6_method_1_code (1 : Nat) (Option.none : Option ClassFile.FieldType) ∈ lw_tbl := List.mem_append_right _ (List.mem_of_getElem? (i := 319) (by decide +kernel))
theorem w_320 : Cond.methodLink "WinProofs$Kinds" (3 : Nat) ({ cls := "java/lang/Object", name := "<init>", desc := "()V" } : MethodName) ∈ lw_tbl := List.mem_append_right _ (List.mem_of_getElem? (i := 320) (by decide +kernel))
theorem w_321 : Cond.fieldLink "WinProofs$Kinds" (9 : Nat) "WinProofs$Kinds" "many" "I" ∈ lw_tbl := List.mem_append_right _ (List.mem_of_getElem? (i := 321) (by decide +kernel))
theorem w_322 : Cond.fieldLink "WinProofs" (198 : Nat) "WinProofs$Kinds" "many" "I" ∈ lw_tbl := List.mem_append_right _ (List.mem_of_getElem? (i := 322) (by decide +kernel))
theorem w_323 : Cond.fieldLink "WinProofs$Kinds" (15 : Nat) "WinProofs$Kinds" "made" "J" ∈ lw_tbl := List.mem_append_right _ (List.mem_of_getElem? (i := 323) (by decide +kernel))
theorem w_324 : Cond.fieldLink "WinProofs" (322 : Nat) "WinProofs$Kinds" "made" "J" ∈ lw_tbl := List.mem_append_right _ (List.mem_of_getElem? (i := 324) (by decide +kernel))
theorem w_325 : Cond.fieldLink "WinProofs$Kinds" (19 : Nat) "WinProofs$Kinds" "kind" "[I" ∈ lw_tbl := List.mem_append_right _ (List.mem_of_getElem? (i := 325) (by decide +kernel))
theorem w_326 : Cond.fieldLink "WinProofs" (208 : Nat) "WinProofs$Kinds" "kind" "[I" ∈ lw_tbl := List.mem_append_right _ (List.mem_of_getElem? (i := 326) (by decide +kernel))
theorem w_327 : Cond.fieldLink "WinProofs$Kinds" (23 : Nat) "WinProofs$Kinds" "least" "[I" ∈ lw_tbl := List.mem_append_right _ (List.mem_of_getElem? (i := 327) (by decide +kernel))
theorem w_328 : Cond.fieldLink "WinProofs" (205 : Nat) "WinProofs$Kinds" "least" "[I" ∈ lw_tbl := List.mem_append_right _ (List.mem_of_getElem? (i := 328) (by decide +kernel))
theorem w_329 : Cond.fieldLink "WinProofs$Kinds" (26 : Nat) "WinProofs$Kinds" "order" "[I" ∈ lw_tbl := List.mem_append_right _ (List.mem_of_getElem? (i := 329) (by decide +kernel))
theorem w_330 : Cond.fieldLink "WinProofs$Kinds" (29 : Nat) "WinProofs$Kinds" "place" "[I" ∈ lw_tbl := List.mem_append_right _ (List.mem_of_getElem? (i := 330) (by decide +kernel))
theorem w_331 : Cond.fieldLink "WinProofs$Kinds" (32 : Nat) "WinProofs$Kinds" "from" "[I" ∈ lw_tbl := List.mem_append_right _ (List.mem_of_getElem? (i := 331) (by decide +kernel))
theorem w_332 : Cond.fieldLink "WinProofs$Kinds" (35 : Nat) "WinProofs$Kinds" "until" "[I" ∈ lw_tbl := List.mem_append_right _ (List.mem_of_getElem? (i := 332) (by decide +kernel))
theorem w_333 : Cond.fieldLink "WinProofs$Kinds" (38 : Nat) "WinProofs$Kinds" "changedCount" "[I" ∈ lw_tbl := List.mem_append_right _ (List.mem_of_getElem? (i := 333) (by decide +kernel))
theorem w_334 : Cond.fieldLink "WinProofs$Kinds" (41 : Nat) "WinProofs$Kinds" "changedActs" "[I" ∈ lw_tbl := List.mem_append_right _ (List.mem_of_getElem? (i := 334) (by decide +kernel))
theorem w_335 : Cond.fieldLink "WinProofs$Kinds" (44 : Nat) "WinProofs$Kinds" "waiting" "[I" ∈ lw_tbl := List.mem_append_right _ (List.mem_of_getElem? (i := 335) (by decide +kernel))
theorem w_336 : Cond.fieldLink "WinProofs$Kinds" (47 : Nat) "WinProofs$Kinds" "waitingCount" "I" ∈ lw_tbl := List.mem_append_right _ (List.mem_of_getElem? (i := 336) (by decide +kernel))
theorem w_337 : Cond.fieldLink "WinProofs$Kinds" (50 : Nat) "WinProofs$Kinds" "group" "[I" ∈ lw_tbl := List.mem_append_right _ (List.mem_of_getElem? (i := 337) (by decide +kernel))
theorem w_338 : Cond.fieldLink "WinProofs$Kinds" (53 : Nat) "WinProofs$Kinds" "tally" "[I" ∈ lw_tbl := List.mem_append_right _ (List.mem_of_getElem? (i := 338) (by decide +kernel))
theorem w_339 : Cond.fieldLink "WinProofs$Kinds" (56 : Nat) "WinProofs$Kinds" "spot" "[I" ∈ lw_tbl := List.mem_append_right _ (List.mem_of_getElem? (i := 339) (by decide +kernel))
theorem w_340 : Cond.fieldLink "WinProofs$Kinds" (59 : Nat) "WinProofs$Kinds" "sorted" "[I" ∈ lw_tbl := List.mem_append_right _ (List.mem_of_getElem? (i := 340) (by decide +kernel))
theorem w_341 : Cond.fieldLink "WinProofs$Kinds" (62 : Nat) "WinProofs$Kinds" "groupAt" "[I" ∈ lw_tbl := List.mem_append_right _ (List.mem_of_getElem? (i := 341) (by decide +kernel))
theorem w_342 : Cond.fieldLink "WinProofs$Kinds" (65 : Nat) "WinProofs$Kinds" "keyAt" "[J" ∈ lw_tbl := List.mem_append_right _ (List.mem_of_getElem? (i := 342) (by decide +kernel))
theorem w_380 : Cond.classLink "WinProofs" (58 : Nat) "WinProofs$Search" ∈ lw_tbl := List.mem_append_right _ (List.mem_of_getElem? (i := 380) (by decide +kernel))
theorem w_381 : Cond.instantiable "WinProofs$Search" (5 : Nat) ∈ lw_tbl := List.mem_append_right _ (List.mem_of_getElem? (i := 381) (by decide +kernel))
theorem w_382 : Cond.methodLinkNest "WinProofs" (60 : Nat) ({ cls := "WinProofs$Search", name := "<init>", desc := "()V" } : MethodName) "WinProofs" ∈ lw_tbl := List.mem_append_right _ (List.mem_of_getElem? (i := 382) (by decide +kernel))
theorem w_383 : Cond.instanceMethod ({ cls := "WinProofs$Search", name := "<init>", desc := "()V" } : MethodName) ∈ lw_tbl := List.mem_append_right _ (List.mem_of_getElem? (i := 383) (by decide +kernel))
theorem w_384 : Cond.code ({ cls := "WinProofs$Search", name := "<init>", desc := "()V" } : MethodName) prog_9_method_1_code (1 : Nat) (Option.none : Option ClassFile.FieldType) ∈ lw_tbl := List.mem_append_right _ (List.mem_of_getElem? (i := 384) (by decide +kernel))
theorem w_385 : Cond.methodLink "WinProofs$Search" (3 : Nat) ({ cls := "java/lang/Object", name := "<init>", desc := "()V" } : MethodName) ∈ lw_tbl := List.mem_append_right _ (List.mem_of_getElem? (i := 385) (by decide +kernel))
theorem w_386 : Cond.fieldLink "WinProofs$Search" (9 : Nat) "WinProofs$Search" "seen" "[Z" ∈ lw_tbl := List.mem_append_right _ (List.mem_of_getElem? (i := 386) (by decide +kernel))
theorem w_387 : Cond.fieldLink "WinProofs$Search" (15 : Nat) "WinProofs$Search" "queue" "[I" ∈ lw_tbl := List.mem_append_right _ (List.mem_of_getElem? (i := 387) (by decide +kernel))
theorem w_388 : Cond.fieldLink "WinProofs$Search" (19 : Nat) "WinProofs$Search" "tail" "I" ∈ lw_tbl := List.mem_append_right _ (List.mem_of_getElem? (i := 388) (by decide +kernel))
theorem w_389 : Cond.fieldLink "WinProofs$Search" (23 : Nat) "WinProofs$Search" "barredThing" "I" ∈ lw_tbl := List.mem_append_right _ (List.mem_of_getElem? (i := 389) (by decide +kernel))
theorem w_390 : Cond.fieldLink "WinProofs$Search" (26 : Nat) "WinProofs$Search" "barredValue" "I" ∈ lw_tbl := List.mem_append_right _ (List.mem_of_getElem? (i := 390) (by decide +kernel))
theorem w_402 : Cond.fieldLink "WinProofs" (12 : Nat) "WinProofs" "world" "LWinProofs$World;" ∈ lw_tbl := List.mem_append_right _ (List.mem_of_getElem? (i := 402) (by decide +kernel))
theorem w_403 : Cond.fieldLink "WinProofs" (19 : Nat) "WinProofs" "goal" "LWinProofs$Clauses;" ∈ lw_tbl := List.mem_append_right _ (List.mem_of_getElem? (i := 403) (by decide +kernel))
theorem w_404 : Cond.fieldLink "WinProofs" (26 : Nat) "WinProofs" "shield" "LWinProofs$Cover;" ∈ lw_tbl := List.mem_append_right _ (List.mem_of_getElem? (i := 404) (by decide +kernel))
theorem w_405 : Cond.fieldLink "WinProofs" (33 : Nat) "WinProofs" "changes" "LWinProofs$Changes;" ∈ lw_tbl := List.mem_append_right _ (List.mem_of_getElem? (i := 405) (by decide +kernel))
theorem w_406 : Cond.fieldLink "WinProofs" (40 : Nat) "WinProofs" "reach" "LWinProofs$Reach;" ∈ lw_tbl := List.mem_append_right _ (List.mem_of_getElem? (i := 406) (by decide +kernel))
theorem w_407 : Cond.fieldLink "WinProofs" (47 : Nat) "WinProofs" "wins" "LWinProofs$Wins;" ∈ lw_tbl := List.mem_append_right _ (List.mem_of_getElem? (i := 407) (by decide +kernel))
theorem w_408 : Cond.fieldLink "WinProofs" (54 : Nat) "WinProofs" "kinds" "LWinProofs$Kinds;" ∈ lw_tbl := List.mem_append_right _ (List.mem_of_getElem? (i := 408) (by decide +kernel))
theorem w_409 : Cond.fieldLink "WinProofs" (61 : Nat) "WinProofs" "search" "LWinProofs$Search;" ∈ lw_tbl := List.mem_append_right _ (List.mem_of_getElem? (i := 409) (by decide +kernel))
theorem w_410 : Cond.fieldLink "WinProofs" (65 : Nat) "WinProofs" "origin" "I" ∈ lw_tbl := List.mem_append_right _ (List.mem_of_getElem? (i := 410) (by decide +kernel))
theorem w_411 : Cond.fieldLink "WinProofs" (69 : Nat) "WinProofs" "neededActs" "I" ∈ lw_tbl := List.mem_append_right _ (List.mem_of_getElem? (i := 411) (by decide +kernel))
theorem w_412 : Cond.fieldLink "WinProofs" (72 : Nat) "WinProofs" "neededMade" "J" ∈ lw_tbl := List.mem_append_right _ (List.mem_of_getElem? (i := 412) (by decide +kernel))
theorem w_439 : Cond.code ({ cls := "WinProofs", name := "clear", desc := "()I" } : MethodName) prog_1_method_2_code (2 : Nat) (Option.some ClassFile.FieldType.int) ∈ lw_tbl := List.mem_append_right _ (List.mem_of_getElem? (i := 439) (by decide +kernel))
theorem w_440 : Cond.methodLink "WinProofs" (79 : Nat) ({ cls := "WinProofs$World", name := "forget", desc := "()V" } : MethodName) ∈ lw_tbl := List.mem_append_right _ (List.mem_of_getElem? (i := 440) (by decide +kernel))
theorem w_441 : Cond.instanceMethod ({ cls := "WinProofs$World", name := "forget", desc := "()V" } : MethodName) ∈ lw_tbl := List.mem_append_right _ (List.mem_of_getElem? (i := 441) (by decide +kernel))
theorem w_442 : Cond.selects "WinProofs$World" ({ cls := "WinProofs$World", name := "forget", desc := "()V" } : MethodName) ({ cls := "WinProofs$World", name := "forget", desc := "()V" } : MethodName) ∈ lw_tbl := List.mem_append_right _ (List.mem_of_getElem? (i := 442) (by decide +kernel))
theorem w_443 : Cond.code ({ cls := "WinProofs$World", name := "forget", desc := "()V" } : MethodName) prog_11_method_2_code (1 : Nat) (Option.none : Option ClassFile.FieldType) ∈ lw_tbl := List.mem_append_right _ (List.mem_of_getElem? (i := 443) (by decide +kernel))
theorem w_444 : Cond.methodLink "WinProofs" (86 : Nat) ({ cls := "WinProofs$Changes", name := "inWorld", desc := "()V" } : MethodName) ∈ lw_tbl := List.mem_append_right _ (List.mem_of_getElem? (i := 444) (by decide +kernel))
theorem w_445 : Cond.instanceMethod ({ cls := "WinProofs$Changes", name := "inWorld", desc := "()V" } : MethodName) ∈ lw_tbl := List.mem_append_right _ (List.mem_of_getElem? (i := 445) (by decide +kernel))
theorem w_446 : Cond.selects "WinProofs$Changes" ({ cls := "WinProofs$Changes", name := "inWorld", desc := "()V" } : MethodName) ({ cls := "WinProofs$Changes", name := "inWorld", desc := "()V" } : MethodName) ∈ lw_tbl := List.mem_append_right _ (List.mem_of_getElem? (i := 446) (by decide +kernel))
theorem w_447 : Cond.code ({ cls := "WinProofs$Changes", name := "inWorld", desc := "()V" } : MethodName) prog_3_method_2_code (1 : Nat) (Option.none : Option ClassFile.FieldType) ∈ lw_tbl := List.mem_append_right _ (List.mem_of_getElem? (i := 447) (by decide +kernel))
theorem w_451 : Cond.code ({ cls := "WinProofs", name := "thing", desc := "(I)I" } : MethodName) prog_1_method_3_code (3 : Nat) (Option.some ClassFile.FieldType.int) ∈ lw_tbl := List.mem_append_right _ (List.mem_of_getElem? (i := 451) (by decide +kernel))
theorem w_452 : Cond.methodLink "WinProofs" (92 : Nat) ({ cls := "WinProofs$World", name := "addThing", desc := "(I)I" } : MethodName) ∈ lw_tbl := List.mem_append_right _ (List.mem_of_getElem? (i := 452) (by decide +kernel))
theorem w_453 : Cond.instanceMethod ({ cls := "WinProofs$World", name := "addThing", desc := "(I)I" } : MethodName) ∈ lw_tbl := List.mem_append_right _ (List.mem_of_getElem? (i := 453) (by decide +kernel))
theorem w_454 : Cond.selects "WinProofs$World" ({ cls := "WinProofs$World", name := "addThing", desc := "(I)I" } : MethodName) ({ cls := "WinProofs$World", name := "addThing", desc := "(I)I" } : MethodName) ∈ lw_tbl := List.mem_append_right _ (List.mem_of_getElem? (i := 454) (by decide +kernel))
theorem w_455 : Cond.code ({ cls := "WinProofs$World", name := "addThing", desc := "(I)I" } : MethodName) prog_11_method_3_code (2 : Nat) (Option.some ClassFile.FieldType.int) ∈ lw_tbl := List.mem_append_right _ (List.mem_of_getElem? (i := 455) (by decide +kernel))
theorem w_459 : Cond.code ({ cls := "WinProofs", name := "start", desc := "(I)I" } : MethodName) prog_1_method_4_code (3 : Nat) (Option.some ClassFile.FieldType.int) ∈ lw_tbl := List.mem_append_right _ (List.mem_of_getElem? (i := 459) (by decide +kernel))
theorem w_460 : Cond.methodLink "WinProofs" (96 : Nat) ({ cls := "WinProofs$World", name := "isState", desc := "(I)Z" } : MethodName) ∈ lw_tbl := List.mem_append_right _ (List.mem_of_getElem? (i := 460) (by decide +kernel))
theorem w_461 : Cond.instanceMethod ({ cls := "WinProofs$World", name := "isState", desc := "(I)Z" } : MethodName) ∈ lw_tbl := List.mem_append_right _ (List.mem_of_getElem? (i := 461) (by decide +kernel))
theorem w_462 : Cond.selects "WinProofs$World" ({ cls := "WinProofs$World", name := "isState", desc := "(I)Z" } : MethodName) ({ cls := "WinProofs$World", name := "isState", desc := "(I)Z" } : MethodName) ∈ lw_tbl := List.mem_append_right _ (List.mem_of_getElem? (i := 462) (by decide +kernel))
theorem w_463 : Cond.code ({ cls := "WinProofs$World", name := "isState", desc := "(I)Z" } : MethodName) prog_11_method_6_code (2 : Nat) (Option.some ClassFile.FieldType.boolean) ∈ lw_tbl := List.mem_append_right _ (List.mem_of_getElem? (i := 463) (by decide +kernel))
theorem w_464 : Cond.methodLink "WinProofs" (100 : Nat) ({ cls := "WinProofs$Changes", name := "inStart", desc := "()V" } : MethodName) ∈ lw_tbl := List.mem_append_right _ (List.mem_of_getElem? (i := 464) (by decide +kernel))
theorem w_465 : Cond.instanceMethod ({ cls := "WinProofs$Changes", name := "inStart", desc := "()V" } : MethodName) ∈ lw_tbl := List.mem_append_right _ (List.mem_of_getElem? (i := 465) (by decide +kernel))
theorem w_466 : Cond.selects "WinProofs$Changes" ({ cls := "WinProofs$Changes", name := "inStart", desc := "()V" } : MethodName) ({ cls := "WinProofs$Changes", name := "inStart", desc := "()V" } : MethodName) ∈ lw_tbl := List.mem_append_right _ (List.mem_of_getElem? (i := 466) (by decide +kernel))
theorem w_467 : Cond.code ({ cls := "WinProofs$Changes", name := "inStart", desc := "()V" } : MethodName) prog_3_method_3_code (1 : Nat) (Option.none : Option ClassFile.FieldType) ∈ lw_tbl := List.mem_append_right _ (List.mem_of_getElem? (i := 467) (by decide +kernel))
theorem w_471 : Cond.code ({ cls := "WinProofs", name := "act", desc := "()I" } : MethodName) prog_1_method_5_code (2 : Nat) (Option.some ClassFile.FieldType.int) ∈ lw_tbl := List.mem_append_right _ (List.mem_of_getElem? (i := 471) (by decide +kernel))
theorem w_472 : Cond.methodLink "WinProofs" (103 : Nat) ({ cls := "WinProofs$World", name := "addAct", desc := "()I" } : MethodName) ∈ lw_tbl := List.mem_append_right _ (List.mem_of_getElem? (i := 472) (by decide +kernel))
theorem w_473 : Cond.instanceMethod ({ cls := "WinProofs$World", name := "addAct", desc := "()I" } : MethodName) ∈ lw_tbl := List.mem_append_right _ (List.mem_of_getElem? (i := 473) (by decide +kernel))
theorem w_474 : Cond.selects "WinProofs$World" ({ cls := "WinProofs$World", name := "addAct", desc := "()I" } : MethodName) ({ cls := "WinProofs$World", name := "addAct", desc := "()I" } : MethodName) ∈ lw_tbl := List.mem_append_right _ (List.mem_of_getElem? (i := 474) (by decide +kernel))
theorem w_475 : Cond.code ({ cls := "WinProofs$World", name := "addAct", desc := "()I" } : MethodName) prog_11_method_4_code (1 : Nat) (Option.some ClassFile.FieldType.int) ∈ lw_tbl := List.mem_append_right _ (List.mem_of_getElem? (i := 475) (by decide +kernel))
theorem w_476 : Cond.methodLink "WinProofs$World" (48 : Nat) ({ cls := "WinProofs$Act", name := "beginAnew", desc := "()V" } : MethodName) ∈ lw_tbl := List.mem_append_right _ (List.mem_of_getElem? (i := 476) (by decide +kernel))
theorem w_477 : Cond.instanceMethod ({ cls := "WinProofs$Act", name := "beginAnew", desc := "()V" } : MethodName) ∈ lw_tbl := List.mem_append_right _ (List.mem_of_getElem? (i := 477) (by decide +kernel))
theorem w_478 : Cond.selects "WinProofs$Act" ({ cls := "WinProofs$Act", name := "beginAnew", desc := "()V" } : MethodName) ({ cls := "WinProofs$Act", name := "beginAnew", desc := "()V" } : MethodName) ∈ lw_tbl := List.mem_append_right _ (List.mem_of_getElem? (i := 478) (by decide +kernel))
theorem w_479 : Cond.code ({ cls := "WinProofs$Act", name := "beginAnew", desc := "()V" } : MethodName) prog_2_method_2_code (1 : Nat) (Option.none : Option ClassFile.FieldType) ∈ lw_tbl := List.mem_append_right _ (List.mem_of_getElem? (i := 479) (by decide +kernel))
theorem w_483 : Cond.code ({ cls := "WinProofs", name := "outcome", desc := "(I)I" } : MethodName) prog_1_method_6_code (3 : Nat) (Option.some ClassFile.FieldType.int) ∈ lw_tbl := List.mem_append_right _ (List.mem_of_getElem? (i := 483) (by decide +kernel))
theorem w_484 : Cond.methodLink "WinProofs" (107 : Nat) ({ cls := "WinProofs$World", name := "isAct", desc := "(I)Z" } : MethodName) ∈ lw_tbl := List.mem_append_right _ (List.mem_of_getElem? (i := 484) (by decide +kernel))
theorem w_485 : Cond.instanceMethod ({ cls := "WinProofs$World", name := "isAct", desc := "(I)Z" } : MethodName) ∈ lw_tbl := List.mem_append_right _ (List.mem_of_getElem? (i := 485) (by decide +kernel))
theorem w_486 : Cond.selects "WinProofs$World" ({ cls := "WinProofs$World", name := "isAct", desc := "(I)Z" } : MethodName) ({ cls := "WinProofs$World", name := "isAct", desc := "(I)Z" } : MethodName) ∈ lw_tbl := List.mem_append_right _ (List.mem_of_getElem? (i := 486) (by decide +kernel))
theorem w_487 : Cond.code ({ cls := "WinProofs$World", name := "isAct", desc := "(I)Z" } : MethodName) prog_11_method_8_code (2 : Nat) (Option.some ClassFile.FieldType.boolean) ∈ lw_tbl := List.mem_append_right _ (List.mem_of_getElem? (i := 487) (by decide +kernel))
theorem w_488 : Cond.methodLink "WinProofs" (114 : Nat) ({ cls := "WinProofs$Act", name := "addOutcome", desc := "()I" } : MethodName) ∈ lw_tbl := List.mem_append_right _ (List.mem_of_getElem? (i := 488) (by decide +kernel))
theorem w_489 : Cond.instanceMethod ({ cls := "WinProofs$Act", name := "addOutcome", desc := "()I" } : MethodName) ∈ lw_tbl := List.mem_append_right _ (List.mem_of_getElem? (i := 489) (by decide +kernel))
theorem w_490 : Cond.selects "WinProofs$Act" ({ cls := "WinProofs$Act", name := "addOutcome", desc := "()I" } : MethodName) ({ cls := "WinProofs$Act", name := "addOutcome", desc := "()I" } : MethodName) ∈ lw_tbl := List.mem_append_right _ (List.mem_of_getElem? (i := 490) (by decide +kernel))
theorem w_491 : Cond.code ({ cls := "WinProofs$Act", name := "addOutcome", desc := "()I" } : MethodName) prog_2_method_3_code (1 : Nat) (Option.some ClassFile.FieldType.int) ∈ lw_tbl := List.mem_append_right _ (List.mem_of_getElem? (i := 491) (by decide +kernel))
theorem w_492 : Cond.methodLink "WinProofs" (119 : Nat) ({ cls := "WinProofs", name := "noteActChange", desc := "(II)V" } : MethodName) ∈ lw_tbl := List.mem_append_right _ (List.mem_of_getElem? (i := 492) (by decide +kernel))
theorem w_494 : Cond.instanceMethod ({ cls := "WinProofs", name := "noteActChange", desc := "(II)V" } : MethodName) ∈ lw_tbl := List.mem_append_right _ (List.mem_of_getElem? (i := 494) (by decide +kernel))
theorem w_495 : Cond.code ({ cls := "WinProofs", name := "noteActChange", desc := "(II)V" } : MethodName) prog_1_method_25_code (3 : Nat) (Option.none : Option ClassFile.FieldType) ∈ lw_tbl := List.mem_append_right _ (List.mem_of_getElem? (i := 495) (by decide +kernel))
theorem w_499 : Cond.code ({ cls := "WinProofs", name := "when", desc := "(IIII)I" } : MethodName) prog_1_method_7_code (6 : Nat) (Option.some ClassFile.FieldType.int) ∈ lw_tbl := List.mem_append_right _ (List.mem_of_getElem? (i := 499) (by decide +kernel))
theorem w_500 : Cond.methodLink "WinProofs" (123 : Nat) ({ cls := "WinProofs$World", name := "isCondition", desc := "(III)Z" } : MethodName) ∈ lw_tbl := List.mem_append_right _ (List.mem_of_getElem? (i := 500) (by decide +kernel))
theorem w_501 : Cond.instanceMethod ({ cls := "WinProofs$World", name := "isCondition", desc := "(III)Z" } : MethodName) ∈ lw_tbl := List.mem_append_right _ (List.mem_of_getElem? (i := 501) (by decide +kernel))
theorem w_502 : Cond.selects "WinProofs$World" ({ cls := "WinProofs$World", name := "isCondition", desc := "(III)Z" } : MethodName) ({ cls := "WinProofs$World", name := "isCondition", desc := "(III)Z" } : MethodName) ∈ lw_tbl := List.mem_append_right _ (List.mem_of_getElem? (i := 502) (by decide +kernel))
theorem w_503 : Cond.code ({ cls := "WinProofs$World", name := "isCondition", desc := "(III)Z" } : MethodName) prog_11_method_10_code (4 : Nat) (Option.some ClassFile.FieldType.boolean) ∈ lw_tbl := List.mem_append_right _ (List.mem_of_getElem? (i := 503) (by decide +kernel))
theorem w_504 : Cond.methodLink "WinProofs$World" (58 : Nat) ({ cls := "WinProofs$World", name := "isThing", desc := "(I)Z" } : MethodName) ∈ lw_tbl := List.mem_append_right _ (List.mem_of_getElem? (i := 504) (by decide +kernel))
theorem w_505 : Cond.instanceMethod ({ cls := "WinProofs$World", name := "isThing", desc := "(I)Z" } : MethodName) ∈ lw_tbl := List.mem_append_right _ (List.mem_of_getElem? (i := 505) (by decide +kernel))
theorem w_506 : Cond.selects "WinProofs$World" ({ cls := "WinProofs$World", name := "isThing", desc := "(I)Z" } : MethodName) ({ cls := "WinProofs$World", name := "isThing", desc := "(I)Z" } : MethodName) ∈ lw_tbl := List.mem_append_right _ (List.mem_of_getElem? (i := 506) (by decide +kernel))
theorem w_507 : Cond.code ({ cls := "WinProofs$World", name := "isThing", desc := "(I)Z" } : MethodName) prog_11_method_7_code (2 : Nat) (Option.some ClassFile.FieldType.boolean) ∈ lw_tbl := List.mem_append_right _ (List.mem_of_getElem? (i := 507) (by decide +kernel))
theorem w_508 : Cond.methodLink "WinProofs" (130 : Nat) ({ cls := "WinProofs$Clauses", name := "add", desc := "(III)I" } : MethodName) ∈ lw_tbl := List.mem_append_right _ (List.mem_of_getElem? (i := 508) (by decide +kernel))
theorem w_509 : Cond.instanceMethod ({ cls := "WinProofs$Clauses", name := "add", desc := "(III)I" } : MethodName) ∈ lw_tbl := List.mem_append_right _ (List.mem_of_getElem? (i := 509) (by decide +kernel))
theorem w_510 : Cond.selects "WinProofs$Clauses" ({ cls := "WinProofs$Clauses", name := "add", desc := "(III)I" } : MethodName) ({ cls := "WinProofs$Clauses", name := "add", desc := "(III)I" } : MethodName) ∈ lw_tbl := List.mem_append_right _ (List.mem_of_getElem? (i := 510) (by decide +kernel))
theorem w_511 : Cond.code ({ cls := "WinProofs$Clauses", name := "add", desc := "(III)I" } : MethodName) prog_4_method_2_code (4 : Nat) (Option.some ClassFile.FieldType.int) ∈ lw_tbl := List.mem_append_right _ (List.mem_of_getElem? (i := 511) (by decide +kernel))
theorem w_515 : Cond.code ({ cls := "WinProofs", name := "effect", desc := "(IIIII)I" } : MethodName) prog_1_method_8_code (7 : Nat) (Option.some ClassFile.FieldType.int) ∈ lw_tbl := List.mem_append_right _ (List.mem_of_getElem? (i := 515) (by decide +kernel))
theorem w_516 : Cond.methodLink "WinProofs" (134 : Nat) ({ cls := "WinProofs$World", name := "isOutcome", desc := "(II)Z" } : MethodName) ∈ lw_tbl := List.mem_append_right _ (List.mem_of_getElem? (i := 516) (by decide +kernel))
theorem w_517 : Cond.instanceMethod ({ cls := "WinProofs$World", name := "isOutcome", desc := "(II)Z" } : MethodName) ∈ lw_tbl := List.mem_append_right _ (List.mem_of_getElem? (i := 517) (by decide +kernel))
theorem w_518 : Cond.selects "WinProofs$World" ({ cls := "WinProofs$World", name := "isOutcome", desc := "(II)Z" } : MethodName) ({ cls := "WinProofs$World", name := "isOutcome", desc := "(II)Z" } : MethodName) ∈ lw_tbl := List.mem_append_right _ (List.mem_of_getElem? (i := 518) (by decide +kernel))
theorem w_519 : Cond.code ({ cls := "WinProofs$World", name := "isOutcome", desc := "(II)Z" } : MethodName) prog_11_method_9_code (3 : Nat) (Option.some ClassFile.FieldType.boolean) ∈ lw_tbl := List.mem_append_right _ (List.mem_of_getElem? (i := 519) (by decide +kernel))
theorem w_520 : Cond.methodLink "WinProofs$World" (51 : Nat) ({ cls := "WinProofs$World", name := "isAct", desc := "(I)Z" } : MethodName) ∈ lw_tbl := List.mem_append_right _ (List.mem_of_getElem? (i := 520) (by decide +kernel))
theorem w_521 : Cond.methodLink "WinProofs" (138 : Nat) ({ cls := "WinProofs$World", name := "isEffect", desc := "(III)Z" } : MethodName) ∈ lw_tbl := List.mem_append_right _ (List.mem_of_getElem? (i := 521) (by decide +kernel))
theorem w_522 : Cond.instanceMethod ({ cls := "WinProofs$World", name := "isEffect", desc := "(III)Z" } : MethodName) ∈ lw_tbl := List.mem_append_right _ (List.mem_of_getElem? (i := 522) (by decide +kernel))
theorem w_523 : Cond.selects "WinProofs$World" ({ cls := "WinProofs$World", name := "isEffect", desc := "(III)Z" } : MethodName) ({ cls := "WinProofs$World", name := "isEffect", desc := "(III)Z" } : MethodName) ∈ lw_tbl := List.mem_append_right _ (List.mem_of_getElem? (i := 523) (by decide +kernel))
theorem w_524 : Cond.code ({ cls := "WinProofs$World", name := "isEffect", desc := "(III)Z" } : MethodName) prog_11_method_11_code (4 : Nat) (Option.some ClassFile.FieldType.boolean) ∈ lw_tbl := List.mem_append_right _ (List.mem_of_getElem? (i := 524) (by decide +kernel))
theorem w_528 : Cond.code ({ cls := "WinProofs", name := "aim", desc := "(III)I" } : MethodName) prog_1_method_9_code (5 : Nat) (Option.some ClassFile.FieldType.int) ∈ lw_tbl := List.mem_append_right _ (List.mem_of_getElem? (i := 528) (by decide +kernel))
theorem w_529 : Cond.methodLink "WinProofs" (150 : Nat) ({ cls := "WinProofs$Changes", name := "inAim", desc := "()V" } : MethodName) ∈ lw_tbl := List.mem_append_right _ (List.mem_of_getElem? (i := 529) (by decide +kernel))
theorem w_530 : Cond.instanceMethod ({ cls := "WinProofs$Changes", name := "inAim", desc := "()V" } : MethodName) ∈ lw_tbl := List.mem_append_right _ (List.mem_of_getElem? (i := 530) (by decide +kernel))
theorem w_531 : Cond.selects "WinProofs$Changes" ({ cls := "WinProofs$Changes", name := "inAim", desc := "()V" } : MethodName) ({ cls := "WinProofs$Changes", name := "inAim", desc := "()V" } : MethodName) ∈ lw_tbl := List.mem_append_right _ (List.mem_of_getElem? (i := 531) (by decide +kernel))
theorem w_532 : Cond.code ({ cls := "WinProofs$Changes", name := "inAim", desc := "()V" } : MethodName) prog_3_method_4_code (1 : Nat) (Option.none : Option ClassFile.FieldType) ∈ lw_tbl := List.mem_append_right _ (List.mem_of_getElem? (i := 532) (by decide +kernel))
theorem w_536 : Cond.code ({ cls := "WinProofs", name := "aimless", desc := "()I" } : MethodName) prog_1_method_10_code (2 : Nat) (Option.some ClassFile.FieldType.int) ∈ lw_tbl := List.mem_append_right _ (List.mem_of_getElem? (i := 536) (by decide +kernel))
theorem w_540 : Cond.code ({ cls := "WinProofs", name := "unact", desc := "()I" } : MethodName) prog_1_method_11_code (1 : Nat) (Option.some ClassFile.FieldType.int) ∈ lw_tbl := List.mem_append_right _ (List.mem_of_getElem? (i := 540) (by decide +kernel))
theorem w_541 : Cond.methodLink "WinProofs" (153 : Nat) ({ cls := "WinProofs$World", name := "dropAct", desc := "()V" } : MethodName) ∈ lw_tbl := List.mem_append_right _ (List.mem_of_getElem? (i := 541) (by decide +kernel))
theorem w_542 : Cond.instanceMethod ({ cls := "WinProofs$World", name := "dropAct", desc := "()V" } : MethodName) ∈ lw_tbl := List.mem_append_right _ (List.mem_of_getElem? (i := 542) (by decide +kernel))
theorem w_543 : Cond.selects "WinProofs$World" ({ cls := "WinProofs$World", name := "dropAct", desc := "()V" } : MethodName) ({ cls := "WinProofs$World", name := "dropAct", desc := "()V" } : MethodName) ∈ lw_tbl := List.mem_append_right _ (List.mem_of_getElem? (i := 543) (by decide +kernel))
theorem w_544 : Cond.code ({ cls := "WinProofs$World", name := "dropAct", desc := "()V" } : MethodName) prog_11_method_5_code (1 : Nat) (Option.none : Option ClassFile.FieldType) ∈ lw_tbl := List.mem_append_right _ (List.mem_of_getElem? (i := 544) (by decide +kernel))
theorem w_548 : Cond.code ({ cls := "WinProofs", name := "leads", desc := "(III)I" } : MethodName) prog_1_method_12_code (6 : Nat) (Option.some ClassFile.FieldType.int) ∈ lw_tbl := List.mem_append_right _ (List.mem_of_getElem? (i := 548) (by decide +kernel))
theorem w_549 : Cond.methodLink "WinProofs" (156 : Nat) ({ cls := "WinProofs$World", name := "pack", desc := "(I)I" } : MethodName) ∈ lw_tbl := List.mem_append_right _ (List.mem_of_getElem? (i := 549) (by decide +kernel))
theorem w_550 : Cond.instanceMethod ({ cls := "WinProofs$World", name := "pack", desc := "(I)I" } : MethodName) ∈ lw_tbl := List.mem_append_right _ (List.mem_of_getElem? (i := 550) (by decide +kernel))
theorem w_551 : Cond.selects "WinProofs$World" ({ cls := "WinProofs$World", name := "pack", desc := "(I)I" } : MethodName) ({ cls := "WinProofs$World", name := "pack", desc := "(I)I" } : MethodName) ∈ lw_tbl := List.mem_append_right _ (List.mem_of_getElem? (i := 551) (by decide +kernel))
theorem w_552 : Cond.code ({ cls := "WinProofs$World", name := "pack", desc := "(I)I" } : MethodName) prog_11_method_12_code (6 : Nat) (Option.some ClassFile.FieldType.int) ∈ lw_tbl := List.mem_append_right _ (List.mem_of_getElem? (i := 552) (by decide +kernel))
theorem w_553 : Cond.methodLink "WinProofs" (159 : Nat) ({ cls := "WinProofs$Clauses", name := "hold", desc := "(I)Z" } : MethodName) ∈ lw_tbl := List.mem_append_right _ (List.mem_of_getElem? (i := 553) (by decide +kernel))
theorem w_554 : Cond.instanceMethod ({ cls := "WinProofs$Clauses", name := "hold", desc := "(I)Z" } : MethodName) ∈ lw_tbl := List.mem_append_right _ (List.mem_of_getElem? (i := 554) (by decide +kernel))
theorem w_555 : Cond.selects "WinProofs$Clauses" ({ cls := "WinProofs$Clauses", name := "hold", desc := "(I)Z" } : MethodName) ({ cls := "WinProofs$Clauses", name := "hold", desc := "(I)Z" } : MethodName) ∈ lw_tbl := List.mem_append_right _ (List.mem_of_getElem? (i := 555) (by decide +kernel))
theorem w_556 : Cond.code ({ cls := "WinProofs$Clauses", name := "hold", desc := "(I)Z" } : MethodName) prog_4_method_3_code (5 : Nat) (Option.some ClassFile.FieldType.boolean) ∈ lw_tbl := List.mem_append_right _ (List.mem_of_getElem? (i := 556) (by decide +kernel))
theorem w_557 : Cond.methodLinkNest "WinProofs$Clauses" (25 : Nat) ({ cls := "WinProofs", name := "valueIn", desc := "(II)I" } : MethodName) "WinProofs" ∈ lw_tbl := List.mem_append_right _ (List.mem_of_getElem? (i := 557) (by decide +kernel))
theorem w_558 : Cond.static ({ cls := "WinProofs", name := "valueIn", desc := "(II)I" } : MethodName) ∈ lw_tbl := List.mem_append_right _ (List.mem_of_getElem? (i := 558) (by decide +kernel))
theorem w_559 : Cond.code ({ cls := "WinProofs", name := "valueIn", desc := "(II)I" } : MethodName) prog_1_method_32_code (2 : Nat) (Option.some ClassFile.FieldType.int) ∈ lw_tbl := List.mem_append_right _ (List.mem_of_getElem? (i := 559) (by decide +kernel))
theorem w_560 : Cond.methodLink "WinProofs" (162 : Nat) ({ cls := "WinProofs$World", name := "after", desc := "(LWinProofs$Clauses;II)I" } : MethodName) ∈ lw_tbl := List.mem_append_right _ (List.mem_of_getElem? (i := 560) (by decide +kernel))
theorem w_561 : Cond.instanceMethod ({ cls := "WinProofs$World", name := "after", desc := "(LWinProofs$Clauses;II)I" } : MethodName) ∈ lw_tbl := List.mem_append_right _ (List.mem_of_getElem? (i := 561) (by decide +kernel))
theorem w_562 : Cond.selects "WinProofs$World" ({ cls := "WinProofs$World", name := "after", desc := "(LWinProofs$Clauses;II)I" } : MethodName) ({ cls := "WinProofs$World", name := "after", desc := "(LWinProofs$Clauses;II)I" } : MethodName) ∈ lw_tbl := List.mem_append_right _ (List.mem_of_getElem? (i := 562) (by decide +kernel))
theorem w_563 : Cond.code ({ cls := "WinProofs$World", name := "after", desc := "(LWinProofs$Clauses;II)I" } : MethodName) prog_11_method_13_code (7 : Nat) (Option.some ClassFile.FieldType.int) ∈ lw_tbl := List.mem_append_right _ (List.mem_of_getElem? (i := 563) (by decide +kernel))
theorem w_564 : Cond.methodLink "WinProofs$World" (66 : Nat) ({ cls := "WinProofs$Clauses", name := "isLastOfItsThing", desc := "(I)Z" } : MethodName) ∈ lw_tbl := List.mem_append_right _ (List.mem_of_getElem? (i := 564) (by decide +kernel))
theorem w_565 : Cond.instanceMethod ({ cls := "WinProofs$Clauses", name := "isLastOfItsThing", desc := "(I)Z" } : MethodName) ∈ lw_tbl := List.mem_append_right _ (List.mem_of_getElem? (i := 565) (by decide +kernel))
theorem w_566 : Cond.selects "WinProofs$Clauses" ({ cls := "WinProofs$Clauses", name := "isLastOfItsThing", desc := "(I)Z" } : MethodName) ({ cls := "WinProofs$Clauses", name := "isLastOfItsThing", desc := "(I)Z" } : MethodName) ∈ lw_tbl := List.mem_append_right _ (List.mem_of_getElem? (i := 566) (by decide +kernel))
theorem w_567 : Cond.code ({ cls := "WinProofs$Clauses", name := "isLastOfItsThing", desc := "(I)Z" } : MethodName) prog_4_method_4_code (3 : Nat) (Option.some ClassFile.FieldType.boolean) ∈ lw_tbl := List.mem_append_right _ (List.mem_of_getElem? (i := 567) (by decide +kernel))
theorem w_568 : Cond.methodLink "WinProofs$World" (72 : Nat) ({ cls := "WinProofs$World", name := "newValue", desc := "(LWinProofs$Clauses;II)I" } : MethodName) ∈ lw_tbl := List.mem_append_right _ (List.mem_of_getElem? (i := 568) (by decide +kernel))
theorem w_570 : Cond.instanceMethod ({ cls := "WinProofs$World", name := "newValue", desc := "(LWinProofs$Clauses;II)I" } : MethodName) ∈ lw_tbl := List.mem_append_right _ (List.mem_of_getElem? (i := 570) (by decide +kernel))
theorem w_571 : Cond.code ({ cls := "WinProofs$World", name := "newValue", desc := "(LWinProofs$Clauses;II)I" } : MethodName) prog_11_method_14_code (8 : Nat) (Option.some ClassFile.FieldType.int) ∈ lw_tbl := List.mem_append_right _ (List.mem_of_getElem? (i := 571) (by decide +kernel))
theorem w_572 : Cond.methodLinkNest "WinProofs$World" (76 : Nat) ({ cls := "WinProofs", name := "valueIn", desc := "(II)I" } : MethodName) "WinProofs" ∈ lw_tbl := List.mem_append_right _ (List.mem_of_getElem? (i := 572) (by decide +kernel))
theorem w_576 : Cond.code ({ cls := "WinProofs", name := "count", desc := "(I)I" } : MethodName) prog_1_method_13_code (2 : Nat) (Option.some ClassFile.FieldType.int) ∈ lw_tbl := List.mem_append_right _ (List.mem_of_getElem? (i := 576) (by decide +kernel))
theorem w_577 : Cond.methodLink "WinProofs" (166 : Nat) ({ cls := "WinProofs$World", name := "prepare", desc := "()V" } : MethodName) ∈ lw_tbl := List.mem_append_right _ (List.mem_of_getElem? (i := 577) (by decide +kernel))
theorem w_578 : Cond.instanceMethod ({ cls := "WinProofs$World", name := "prepare", desc := "()V" } : MethodName) ∈ lw_tbl := List.mem_append_right _ (List.mem_of_getElem? (i := 578) (by decide +kernel))
theorem w_579 : Cond.selects "WinProofs$World" ({ cls := "WinProofs$World", name := "prepare", desc := "()V" } : MethodName) ({ cls := "WinProofs$World", name := "prepare", desc := "()V" } : MethodName) ∈ lw_tbl := List.mem_append_right _ (List.mem_of_getElem? (i := 579) (by decide +kernel))
theorem w_580 : Cond.code ({ cls := "WinProofs$World", name := "prepare", desc := "()V" } : MethodName) prog_11_method_17_code (2 : Nat) (Option.none : Option ClassFile.FieldType) ∈ lw_tbl := List.mem_append_right _ (List.mem_of_getElem? (i := 580) (by decide +kernel))
theorem w_581 : Cond.methodLink "WinProofs$World" (108 : Nat) ({ cls := "WinProofs$World", name := "fillPacked", desc := "()V" } : MethodName) ∈ lw_tbl := List.mem_append_right _ (List.mem_of_getElem? (i := 581) (by decide +kernel))
theorem w_583 : Cond.instanceMethod ({ cls := "WinProofs$World", name := "fillPacked", desc := "()V" } : MethodName) ∈ lw_tbl := List.mem_append_right _ (List.mem_of_getElem? (i := 583) (by decide +kernel))
theorem w_584 : Cond.code ({ cls := "WinProofs$World", name := "fillPacked", desc := "()V" } : MethodName) prog_11_method_18_code (2 : Nat) (Option.none : Option ClassFile.FieldType) ∈ lw_tbl := List.mem_append_right _ (List.mem_of_getElem? (i := 584) (by decide +kernel))
theorem w_585 : Cond.methodLinkNest "WinProofs$World" (121 : Nat) ({ cls := "WinProofs", name := "rowFor", desc := "([II)[I" } : MethodName) "WinProofs" ∈ lw_tbl := List.mem_append_right _ (List.mem_of_getElem? (i := 585) (by decide +kernel))
theorem w_586 : Cond.static ({ cls := "WinProofs", name := "rowFor", desc := "([II)[I" } : MethodName) ∈ lw_tbl := List.mem_append_right _ (List.mem_of_getElem? (i := 586) (by decide +kernel))
theorem w_587 : Cond.code ({ cls := "WinProofs", name := "rowFor", desc := "([II)[I" } : MethodName) prog_1_method_38_code (2 : Nat) (Option.some (ClassFile.FieldType.array ClassFile.FieldType.int)) ∈ lw_tbl := List.mem_append_right _ (List.mem_of_getElem? (i := 587) (by decide +kernel))
theorem w_588 : Cond.methodLink "WinProofs" (327 : Nat) ({ cls := "WinProofs", name := "roomFor", desc := "(I)I" } : MethodName) ∈ lw_tbl := List.mem_append_right _ (List.mem_of_getElem? (i := 588) (by decide +kernel))
theorem w_589 : Cond.static ({ cls := "WinProofs", name := "roomFor", desc := "(I)I" } : MethodName) ∈ lw_tbl := List.mem_append_right _ (List.mem_of_getElem? (i := 589) (by decide +kernel))
theorem w_590 : Cond.code ({ cls := "WinProofs", name := "roomFor", desc := "(I)I" } : MethodName) prog_1_method_37_code (3 : Nat) (Option.some ClassFile.FieldType.int) ∈ lw_tbl := List.mem_append_right _ (List.mem_of_getElem? (i := 590) (by decide +kernel))
theorem w_591 : Cond.methodLink "WinProofs$World" (125 : Nat) ({ cls := "WinProofs$World", name := "pack", desc := "(I)I" } : MethodName) ∈ lw_tbl := List.mem_append_right _ (List.mem_of_getElem? (i := 591) (by decide +kernel))
theorem w_592 : Cond.methodLink "WinProofs$World" (114 : Nat) ({ cls := "WinProofs$Act", name := "fillRows", desc := "(LWinProofs$World;)V" } : MethodName) ∈ lw_tbl := List.mem_append_right _ (List.mem_of_getElem? (i := 592) (by decide +kernel))
theorem w_593 : Cond.instanceMethod ({ cls := "WinProofs$Act", name := "fillRows", desc := "(LWinProofs$World;)V" } : MethodName) ∈ lw_tbl := List.mem_append_right _ (List.mem_of_getElem? (i := 593) (by decide +kernel))
theorem w_594 : Cond.selects "WinProofs$Act" ({ cls := "WinProofs$Act", name := "fillRows", desc := "(LWinProofs$World;)V" } : MethodName) ({ cls := "WinProofs$Act", name := "fillRows", desc := "(LWinProofs$World;)V" } : MethodName) ∈ lw_tbl := List.mem_append_right _ (List.mem_of_getElem? (i := 594) (by decide +kernel))
theorem w_595 : Cond.code ({ cls := "WinProofs$Act", name := "fillRows", desc := "(LWinProofs$World;)V" } : MethodName) prog_2_method_5_code (6 : Nat) (Option.none : Option ClassFile.FieldType) ∈ lw_tbl := List.mem_append_right _ (List.mem_of_getElem? (i := 595) (by decide +kernel))
theorem w_596 : Cond.methodLinkNest "WinProofs$Act" (48 : Nat) ({ cls := "WinProofs", name := "rowFor", desc := "([II)[I" } : MethodName) "WinProofs" ∈ lw_tbl := List.mem_append_right _ (List.mem_of_getElem? (i := 596) (by decide +kernel))
theorem w_597 : Cond.methodLink "WinProofs$Act" (58 : Nat) ({ cls := "WinProofs$Clauses", name := "hold", desc := "(I)Z" } : MethodName) ∈ lw_tbl := List.mem_append_right _ (List.mem_of_getElem? (i := 597) (by decide +kernel))
theorem w_598 : Cond.methodLink "WinProofs$Act" (62 : Nat) ({ cls := "WinProofs$World", name := "after", desc := "(LWinProofs$Clauses;II)I" } : MethodName) ∈ lw_tbl := List.mem_append_right _ (List.mem_of_getElem? (i := 598) (by decide +kernel))
theorem w_599 : Cond.methodLink "WinProofs$World" (118 : Nat) ({ cls := "WinProofs$World", name := "linkBack", desc := "()V" } : MethodName) ∈ lw_tbl := List.mem_append_right _ (List.mem_of_getElem? (i := 599) (by decide +kernel))
theorem w_601 : Cond.instanceMethod ({ cls := "WinProofs$World", name := "linkBack", desc := "()V" } : MethodName) ∈ lw_tbl := List.mem_append_right _ (List.mem_of_getElem? (i := 601) (by decide +kernel))
theorem w_602 : Cond.code ({ cls := "WinProofs$World", name := "linkBack", desc := "()V" } : MethodName) prog_11_method_19_code (3 : Nat) (Option.none : Option ClassFile.FieldType) ∈ lw_tbl := List.mem_append_right _ (List.mem_of_getElem? (i := 602) (by decide +kernel))
theorem w_603 : Cond.methodLink "WinProofs$World" (128 : Nat) ({ cls := "java/util/Arrays", name := "fill", desc := "([IIII)V" } : MethodName) ∈ lw_tbl := List.mem_append_right _ (List.mem_of_getElem? (i := 603) (by decide +kernel))
theorem w_604 : Cond.static ({ cls := "java/util/Arrays", name := "fill", desc := "([IIII)V" } : MethodName) ∈ lw_tbl := List.mem_append_right _ (List.mem_of_getElem? (i := 604) (by decide +kernel))
theorem w_605 : Cond.code ({ cls := "java/util/Arrays", name := "fill", desc := "([IIII)V" } : MethodName) prog_16_method_104_code (5 : Nat) (Option.none : Option ClassFile.FieldType) ∈ lw_tbl := List.mem_append_right _ (List.mem_of_getElem? (i := 605) (by decide +kernel))
theorem w_606 : Cond.methodLink "java/util/Arrays" (13 : Nat) ({ cls := "java/util/Arrays", name := "rangeCheck", desc := "(III)V" } : MethodName) ∈ lw_tbl := List.mem_append_right _ (List.mem_of_getElem? (i := 606) (by decide +kernel))
theorem w_607 : Cond.static ({ cls := "java/util/Arrays", name := "rangeCheck", desc := "(III)V" } : MethodName) ∈ lw_tbl := List.mem_append_right _ (List.mem_of_getElem? (i := 607) (by decide +kernel))
theorem w_608 : Cond.code ({ cls := "java/util/Arrays", name := "rangeCheck", desc := "(III)V" } : MethodName) prog_16_method_30_code (3 : Nat) (Option.none : Option ClassFile.FieldType) ∈ lw_tbl := List.mem_append_right _ (List.mem_of_getElem? (i := 608) (by decide +kernel))
theorem w_609 : Cond.methodLinkNest "WinProofs$World" (134 : Nat) ({ cls := "WinProofs", name := "edgeOf", desc := "(III)I" } : MethodName) "WinProofs" ∈ lw_tbl := List.mem_append_right _ (List.mem_of_getElem? (i := 609) (by decide +kernel))
theorem w_610 : Cond.static ({ cls := "WinProofs", name := "edgeOf", desc := "(III)I" } : MethodName) ∈ lw_tbl := List.mem_append_right _ (List.mem_of_getElem? (i := 610) (by decide +kernel))
theorem w_611 : Cond.code ({ cls := "WinProofs", name := "edgeOf", desc := "(III)I" } : MethodName) prog_1_method_33_code (3 : Nat) (Option.some ClassFile.FieldType.int) ∈ lw_tbl := List.mem_append_right _ (List.mem_of_getElem? (i := 611) (by decide +kernel))
theorem w_612 : Cond.methodLink "WinProofs$World" (138 : Nat) ({ cls := "WinProofs$World", name := "linkOutcome", desc := "(LWinProofs$Outcome;I)V" } : MethodName) ∈ lw_tbl := List.mem_append_right _ (List.mem_of_getElem? (i := 612) (by decide +kernel))
theorem w_614 : Cond.instanceMethod ({ cls := "WinProofs$World", name := "linkOutcome", desc := "(LWinProofs$Outcome;I)V" } : MethodName) ∈ lw_tbl := List.mem_append_right _ (List.mem_of_getElem? (i := 614) (by decide +kernel))
theorem w_615 : Cond.code ({ cls := "WinProofs$World", name := "linkOutcome", desc := "(LWinProofs$Outcome;I)V" } : MethodName) prog_11_method_20_code (5 : Nat) (Option.none : Option ClassFile.FieldType) ∈ lw_tbl := List.mem_append_right _ (List.mem_of_getElem? (i := 615) (by decide +kernel))
theorem w_616 : Cond.methodLink "WinProofs" (172 : Nat) ({ cls := "WinProofs", name := "findReached", desc := "()V" } : MethodName) ∈ lw_tbl := List.mem_append_right _ (List.mem_of_getElem? (i := 616) (by decide +kernel))
theorem w_618 : Cond.instanceMethod ({ cls := "WinProofs", name := "findReached", desc := "()V" } : MethodName) ∈ lw_tbl := List.mem_append_right _ (List.mem_of_getElem? (i := 618) (by decide +kernel))
theorem w_619 : Cond.code ({ cls := "WinProofs", name := "findReached", desc := "()V" } : MethodName) prog_1_method_26_code (1 : Nat) (Option.none : Option ClassFile.FieldType) ∈ lw_tbl := List.mem_append_right _ (List.mem_of_getElem? (i := 619) (by decide +kernel))
theorem w_620 : Cond.methodLink "WinProofs" (296 : Nat) ({ cls := "java/lang/Math", name := "max", desc := "(JJ)J" } : MethodName) ∈ lw_tbl := List.mem_append_right _ (List.mem_of_getElem? (i := 620) (by decide +kernel))
theorem w_621 : Cond.static ({ cls := "java/lang/Math", name := "max", desc := "(JJ)J" } : MethodName) ∈ lw_tbl := List.mem_append_right _ (List.mem_of_getElem? (i := 621) (by decide +kernel))
theorem w_623 : Cond.methodLink "WinProofs" (302 : Nat) ({ cls := "WinProofs$Reach", name := "spread", desc := "(LWinProofs$World;I)V" } : MethodName) ∈ lw_tbl := List.mem_append_right _ (List.mem_of_getElem? (i := 623) (by decide +kernel))
theorem w_624 : Cond.instanceMethod ({ cls := "WinProofs$Reach", name := "spread", desc := "(LWinProofs$World;I)V" } : MethodName) ∈ lw_tbl := List.mem_append_right _ (List.mem_of_getElem? (i := 624) (by decide +kernel))
theorem w_625 : Cond.selects "WinProofs$Reach" ({ cls := "WinProofs$Reach", name := "spread", desc := "(LWinProofs$World;I)V" } : MethodName) ({ cls := "WinProofs$Reach", name := "spread", desc := "(LWinProofs$World;I)V" } : MethodName) ∈ lw_tbl := List.mem_append_right _ (List.mem_of_getElem? (i := 625) (by decide +kernel))
theorem w_626 : Cond.code ({ cls := "WinProofs$Reach", name := "spread", desc := "(LWinProofs$World;I)V" } : MethodName) prog_8_method_2_code (5 : Nat) (Option.none : Option ClassFile.FieldType) ∈ lw_tbl := List.mem_append_right _ (List.mem_of_getElem? (i := 626) (by decide +kernel))
theorem w_627 : Cond.methodLinkNest "WinProofs$Reach" (35 : Nat) ({ cls := "WinProofs", name := "rowFor", desc := "([II)[I" } : MethodName) "WinProofs" ∈ lw_tbl := List.mem_append_right _ (List.mem_of_getElem? (i := 627) (by decide +kernel))
theorem w_628 : Cond.methodLinkNest "WinProofs$Reach" (39 : Nat) ({ cls := "WinProofs", name := "roomFor", desc := "(I)I" } : MethodName) "WinProofs" ∈ lw_tbl := List.mem_append_right _ (List.mem_of_getElem? (i := 628) (by decide +kernel))
theorem w_629 : Cond.methodLink "WinProofs$Reach" (43 : Nat) ({ cls := "java/util/Arrays", name := "fill", desc := "([IIII)V" } : MethodName) ∈ lw_tbl := List.mem_append_right _ (List.mem_of_getElem? (i := 629) (by decide +kernel))
theorem w_630 : Cond.methodLink "WinProofs$Reach" (56 : Nat) ({ cls := "WinProofs$Act", name := "canBeDone", desc := "(I)Z" } : MethodName) ∈ lw_tbl := List.mem_append_right _ (List.mem_of_getElem? (i := 630) (by decide +kernel))
theorem w_631 : Cond.instanceMethod ({ cls := "WinProofs$Act", name := "canBeDone", desc := "(I)Z" } : MethodName) ∈ lw_tbl := List.mem_append_right _ (List.mem_of_getElem? (i := 631) (by decide +kernel))
theorem w_632 : Cond.selects "WinProofs$Act" ({ cls := "WinProofs$Act", name := "canBeDone", desc := "(I)Z" } : MethodName) ({ cls := "WinProofs$Act", name := "canBeDone", desc := "(I)Z" } : MethodName) ∈ lw_tbl := List.mem_append_right _ (List.mem_of_getElem? (i := 632) (by decide +kernel))
theorem w_633 : Cond.code ({ cls := "WinProofs$Act", name := "canBeDone", desc := "(I)Z" } : MethodName) prog_2_method_4_code (2 : Nat) (Option.some ClassFile.FieldType.boolean) ∈ lw_tbl := List.mem_append_right _ (List.mem_of_getElem? (i := 633) (by decide +kernel))
theorem w_634 : Cond.methodLink "WinProofs$Reach" (62 : Nat) ({ cls := "WinProofs$Reach", name := "follow", desc := "(LWinProofs$Act;I)V" } : MethodName) ∈ lw_tbl := List.mem_append_right _ (List.mem_of_getElem? (i := 634) (by decide +kernel))
theorem w_636 : Cond.instanceMethod ({ cls := "WinProofs$Reach", name := "follow", desc := "(LWinProofs$Act;I)V" } : MethodName) ∈ lw_tbl := List.mem_append_right _ (List.mem_of_getElem? (i := 636) (by decide +kernel))
theorem w_637 : Cond.code ({ cls := "WinProofs$Reach", name := "follow", desc := "(LWinProofs$Act;I)V" } : MethodName) prog_8_method_3_code (5 : Nat) (Option.none : Option ClassFile.FieldType) ∈ lw_tbl := List.mem_append_right _ (List.mem_of_getElem? (i := 637) (by decide +kernel))
theorem w_638 : Cond.methodLink "WinProofs" (178 : Nat) ({ cls := "WinProofs", name := "findAim", desc := "()V" } : MethodName) ∈ lw_tbl := List.mem_append_right _ (List.mem_of_getElem? (i := 638) (by decide +kernel))
theorem w_640 : Cond.instanceMethod ({ cls := "WinProofs", name := "findAim", desc := "()V" } : MethodName) ∈ lw_tbl := List.mem_append_right _ (List.mem_of_getElem? (i := 640) (by decide +kernel))
theorem w_641 : Cond.code ({ cls := "WinProofs", name := "findAim", desc := "()V" } : MethodName) prog_1_method_27_code (1 : Nat) (Option.none : Option ClassFile.FieldType) ∈ lw_tbl := List.mem_append_right _ (List.mem_of_getElem? (i := 641) (by decide +kernel))
theorem w_642 : Cond.methodLink "WinProofs" (312 : Nat) ({ cls := "WinProofs$Wins", name := "findAim", desc := "(LWinProofs$World;LWinProofs$Clauses;)V" } : MethodName) ∈ lw_tbl := List.mem_append_right _ (List.mem_of_getElem? (i := 642) (by decide +kernel))
theorem w_643 : Cond.instanceMethod ({ cls := "WinProofs$Wins", name := "findAim", desc := "(LWinProofs$World;LWinProofs$Clauses;)V" } : MethodName) ∈ lw_tbl := List.mem_append_right _ (List.mem_of_getElem? (i := 643) (by decide +kernel))
theorem w_644 : Cond.selects "WinProofs$Wins" ({ cls := "WinProofs$Wins", name := "findAim", desc := "(LWinProofs$World;LWinProofs$Clauses;)V" } : MethodName) ({ cls := "WinProofs$Wins", name := "findAim", desc := "(LWinProofs$World;LWinProofs$Clauses;)V" } : MethodName) ∈ lw_tbl := List.mem_append_right _ (List.mem_of_getElem? (i := 644) (by decide +kernel))
theorem w_645 : Cond.code ({ cls := "WinProofs$Wins", name := "findAim", desc := "(LWinProofs$World;LWinProofs$Clauses;)V" } : MethodName) prog_10_method_2_code (4 : Nat) (Option.none : Option ClassFile.FieldType) ∈ lw_tbl := List.mem_append_right _ (List.mem_of_getElem? (i := 645) (by decide +kernel))
theorem w_646 : Cond.methodLinkNest "WinProofs$Wins" (48 : Nat) ({ cls := "WinProofs", name := "marksFor", desc := "([ZI)[Z" } : MethodName) "WinProofs" ∈ lw_tbl := List.mem_append_right _ (List.mem_of_getElem? (i := 646) (by decide +kernel))
theorem w_647 : Cond.static ({ cls := "WinProofs", name := "marksFor", desc := "([ZI)[Z" } : MethodName) ∈ lw_tbl := List.mem_append_right _ (List.mem_of_getElem? (i := 647) (by decide +kernel))
theorem w_648 : Cond.code ({ cls := "WinProofs", name := "marksFor", desc := "([ZI)[Z" } : MethodName) prog_1_method_39_code (2 : Nat) (Option.some (ClassFile.FieldType.array ClassFile.FieldType.boolean)) ∈ lw_tbl := List.mem_append_right _ (List.mem_of_getElem? (i := 648) (by decide +kernel))
theorem w_649 : Cond.methodLink "WinProofs$Wins" (55 : Nat) ({ cls := "WinProofs$Clauses", name := "hold", desc := "(I)Z" } : MethodName) ∈ lw_tbl := List.mem_append_right _ (List.mem_of_getElem? (i := 649) (by decide +kernel))
theorem w_650 : Cond.methodLink "WinProofs" (184 : Nat) ({ cls := "WinProofs", name := "findNumbers", desc := "(I)[I" } : MethodName) ∈ lw_tbl := List.mem_append_right _ (List.mem_of_getElem? (i := 650) (by decide +kernel))
theorem w_652 : Cond.instanceMethod ({ cls := "WinProofs", name := "findNumbers", desc := "(I)[I" } : MethodName) ∈ lw_tbl := List.mem_append_right _ (List.mem_of_getElem? (i := 652) (by decide +kernel))
theorem w_653 : Cond.code ({ cls := "WinProofs", name := "findNumbers", desc := "(I)[I" } : MethodName) prog_1_method_28_code (2 : Nat) (Option.some (ClassFile.FieldType.array ClassFile.FieldType.int)) ∈ lw_tbl := List.mem_append_right _ (List.mem_of_getElem? (i := 653) (by decide +kernel))
theorem w_654 : Cond.methodLink "WinProofs" (317 : Nat) ({ cls := "WinProofs$Wins", name := "findNumbers", desc := "(LWinProofs$World;I)V" } : MethodName) ∈ lw_tbl := List.mem_append_right _ (List.mem_of_getElem? (i := 654) (by decide +kernel))
theorem w_655 : Cond.instanceMethod ({ cls := "WinProofs$Wins", name := "findNumbers", desc := "(LWinProofs$World;I)V" } : MethodName) ∈ lw_tbl := List.mem_append_right _ (List.mem_of_getElem? (i := 655) (by decide +kernel))
theorem w_656 : Cond.selects "WinProofs$Wins" ({ cls := "WinProofs$Wins", name := "findNumbers", desc := "(LWinProofs$World;I)V" } : MethodName) ({ cls := "WinProofs$Wins", name := "findNumbers", desc := "(LWinProofs$World;I)V" } : MethodName) ∈ lw_tbl := List.mem_append_right _ (List.mem_of_getElem? (i := 656) (by decide +kernel))
theorem w_657 : Cond.code ({ cls := "WinProofs$Wins", name := "findNumbers", desc := "(LWinProofs$World;I)V" } : MethodName) prog_10_method_4_code (3 : Nat) (Option.none : Option ClassFile.FieldType) ∈ lw_tbl := List.mem_append_right _ (List.mem_of_getElem? (i := 657) (by decide +kernel))
theorem w_658 : Cond.methodLinkNest "WinProofs$Wins" (61 : Nat) ({ cls := "WinProofs", name := "rowFor", desc := "([II)[I" } : MethodName) "WinProofs" ∈ lw_tbl := List.mem_append_right _ (List.mem_of_getElem? (i := 658) (by decide +kernel))
theorem w_659 : Cond.methodLink "WinProofs$Wins" (65 : Nat) ({ cls := "WinProofs$Wins", name := "spreadBack", desc := "(LWinProofs$World;I[I)I" } : MethodName) ∈ lw_tbl := List.mem_append_right _ (List.mem_of_getElem? (i := 659) (by decide +kernel))
theorem w_661 : Cond.instanceMethod ({ cls := "WinProofs$Wins", name := "spreadBack", desc := "(LWinProofs$World;I[I)I" } : MethodName) ∈ lw_tbl := List.mem_append_right _ (List.mem_of_getElem? (i := 661) (by decide +kernel))
theorem w_662 : Cond.code ({ cls := "WinProofs$Wins", name := "spreadBack", desc := "(LWinProofs$World;I[I)I" } : MethodName) prog_10_method_6_code (10 : Nat) (Option.some ClassFile.FieldType.int) ∈ lw_tbl := List.mem_append_right _ (List.mem_of_getElem? (i := 662) (by decide +kernel))
theorem w_663 : Cond.constant "WinProofs$Wins" (76 : Nat) (147456 : Int32) ∈ lw_tbl := List.mem_append_right _ (List.mem_of_getElem? (i := 663) (by decide +kernel))
theorem w_664 : Cond.methodLinkNest "WinProofs$Wins" (77 : Nat) ({ cls := "WinProofs", name := "stateOf", desc := "(I)I" } : MethodName) "WinProofs" ∈ lw_tbl := List.mem_append_right _ (List.mem_of_getElem? (i := 664) (by decide +kernel))
theorem w_665 : Cond.static ({ cls := "WinProofs", name := "stateOf", desc := "(I)I" } : MethodName) ∈ lw_tbl := List.mem_append_right _ (List.mem_of_getElem? (i := 665) (by decide +kernel))
theorem w_666 : Cond.code ({ cls := "WinProofs", name := "stateOf", desc := "(I)I" } : MethodName) prog_1_method_36_code (1 : Nat) (Option.some ClassFile.FieldType.int) ∈ lw_tbl := List.mem_append_right _ (List.mem_of_getElem? (i := 666) (by decide +kernel))
theorem w_667 : Cond.methodLink "WinProofs$Wins" (81 : Nat) ({ cls := "WinProofs$Wins", name := "mayCome", desc := "(LWinProofs$World;III)Z" } : MethodName) ∈ lw_tbl := List.mem_append_right _ (List.mem_of_getElem? (i := 667) (by decide +kernel))
theorem w_669 : Cond.instanceMethod ({ cls := "WinProofs$Wins", name := "mayCome", desc := "(LWinProofs$World;III)Z" } : MethodName) ∈ lw_tbl := List.mem_append_right _ (List.mem_of_getElem? (i := 669) (by decide +kernel))
theorem w_670 : Cond.code ({ cls := "WinProofs$Wins", name := "mayCome", desc := "(LWinProofs$World;III)Z" } : MethodName) prog_10_method_7_code (9 : Nat) (Option.some ClassFile.FieldType.boolean) ∈ lw_tbl := List.mem_append_right _ (List.mem_of_getElem? (i := 670) (by decide +kernel))
theorem w_671 : Cond.methodLinkNest "WinProofs$Wins" (92 : Nat) ({ cls := "WinProofs", name := "actOf", desc := "(I)I" } : MethodName) "WinProofs" ∈ lw_tbl := List.mem_append_right _ (List.mem_of_getElem? (i := 671) (by decide +kernel))
theorem w_672 : Cond.static ({ cls := "WinProofs", name := "actOf", desc := "(I)I" } : MethodName) ∈ lw_tbl := List.mem_append_right _ (List.mem_of_getElem? (i := 672) (by decide +kernel))
theorem w_673 : Cond.code ({ cls := "WinProofs", name := "actOf", desc := "(I)I" } : MethodName) prog_1_method_34_code (1 : Nat) (Option.some ClassFile.FieldType.int) ∈ lw_tbl := List.mem_append_right _ (List.mem_of_getElem? (i := 673) (by decide +kernel))
theorem w_674 : Cond.methodLink "WinProofs$Wins" (85 : Nat) ({ cls := "WinProofs$World", name := "nextInto", desc := "(I)I" } : MethodName) ∈ lw_tbl := List.mem_append_right _ (List.mem_of_getElem? (i := 674) (by decide +kernel))
theorem w_675 : Cond.instanceMethod ({ cls := "WinProofs$World", name := "nextInto", desc := "(I)I" } : MethodName) ∈ lw_tbl := List.mem_append_right _ (List.mem_of_getElem? (i := 675) (by decide +kernel))
theorem w_676 : Cond.selects "WinProofs$World" ({ cls := "WinProofs$World", name := "nextInto", desc := "(I)I" } : MethodName) ({ cls := "WinProofs$World", name := "nextInto", desc := "(I)I" } : MethodName) ∈ lw_tbl := List.mem_append_right _ (List.mem_of_getElem? (i := 676) (by decide +kernel))
theorem w_677 : Cond.code ({ cls := "WinProofs$World", name := "nextInto", desc := "(I)I" } : MethodName) prog_11_method_16_code (2 : Nat) (Option.some ClassFile.FieldType.int) ∈ lw_tbl := List.mem_append_right _ (List.mem_of_getElem? (i := 677) (by decide +kernel))
theorem w_678 : Cond.methodLink "WinProofs$Wins" (69 : Nat) ({ cls := "WinProofs$Wins", name := "findLevels", desc := "(LWinProofs$World;)V" } : MethodName) ∈ lw_tbl := List.mem_append_right _ (List.mem_of_getElem? (i := 678) (by decide +kernel))
theorem w_680 : Cond.instanceMethod ({ cls := "WinProofs$Wins", name := "findLevels", desc := "(LWinProofs$World;)V" } : MethodName) ∈ lw_tbl := List.mem_append_right _ (List.mem_of_getElem? (i := 680) (by decide +kernel))
theorem w_681 : Cond.code ({ cls := "WinProofs$Wins", name := "findLevels", desc := "(LWinProofs$World;)V" } : MethodName) prog_10_method_5_code (6 : Nat) (Option.none : Option ClassFile.FieldType) ∈ lw_tbl := List.mem_append_right _ (List.mem_of_getElem? (i := 681) (by decide +kernel))
theorem w_682 : Cond.methodLink "WinProofs" (319 : Nat) ({ cls := "WinProofs$Wins", name := "numbersOf", desc := "(I)[I" } : MethodName) ∈ lw_tbl := List.mem_append_right _ (List.mem_of_getElem? (i := 682) (by decide +kernel))
theorem w_683 : Cond.instanceMethod ({ cls := "WinProofs$Wins", name := "numbersOf", desc := "(I)[I" } : MethodName) ∈ lw_tbl := List.mem_append_right _ (List.mem_of_getElem? (i := 683) (by decide +kernel))
theorem w_684 : Cond.selects "WinProofs$Wins" ({ cls := "WinProofs$Wins", name := "numbersOf", desc := "(I)[I" } : MethodName) ({ cls := "WinProofs$Wins", name := "numbersOf", desc := "(I)[I" } : MethodName) ∈ lw_tbl := List.mem_append_right _ (List.mem_of_getElem? (i := 684) (by decide +kernel))
theorem w_685 : Cond.code ({ cls := "WinProofs$Wins", name := "numbersOf", desc := "(I)[I" } : MethodName) prog_10_method_3_code (2 : Nat) (Option.some (ClassFile.FieldType.array ClassFile.FieldType.int)) ∈ lw_tbl := List.mem_append_right _ (List.mem_of_getElem? (i := 685) (by decide +kernel))
theorem w_686 : Cond.methodLink "WinProofs" (188 : Nat) ({ cls := "WinProofs", name := "countNumbered", desc := "([I)I" } : MethodName) ∈ lw_tbl := List.mem_append_right _ (List.mem_of_getElem? (i := 686) (by decide +kernel))
theorem w_688 : Cond.instanceMethod ({ cls := "WinProofs", name := "countNumbered", desc := "([I)I" } : MethodName) ∈ lw_tbl := List.mem_append_right _ (List.mem_of_getElem? (i := 688) (by decide +kernel))
theorem w_689 : Cond.code ({ cls := "WinProofs", name := "countNumbered", desc := "([I)I" } : MethodName) prog_1_method_30_code (4 : Nat) (Option.some ClassFile.FieldType.int) ∈ lw_tbl := List.mem_append_right _ (List.mem_of_getElem? (i := 689) (by decide +kernel))
theorem w_690 : Cond.methodLink "WinProofs" (192 : Nat) ({ cls := "WinProofs", name := "countDead", desc := "()I" } : MethodName) ∈ lw_tbl := List.mem_append_right _ (List.mem_of_getElem? (i := 690) (by decide +kernel))
theorem w_692 : Cond.instanceMethod ({ cls := "WinProofs", name := "countDead", desc := "()I" } : MethodName) ∈ lw_tbl := List.mem_append_right _ (List.mem_of_getElem? (i := 692) (by decide +kernel))
theorem w_693 : Cond.code ({ cls := "WinProofs", name := "countDead", desc := "()I" } : MethodName) prog_1_method_31_code (4 : Nat) (Option.some ClassFile.FieldType.int) ∈ lw_tbl := List.mem_append_right _ (List.mem_of_getElem? (i := 693) (by decide +kernel))
theorem w_694 : Cond.methodLink "WinProofs" (195 : Nat) ({ cls := "WinProofs", name := "findKinds", desc := "()V" } : MethodName) ∈ lw_tbl := List.mem_append_right _ (List.mem_of_getElem? (i := 694) (by decide +kernel))
theorem w_696 : Cond.instanceMethod ({ cls := "WinProofs", name := "findKinds", desc := "()V" } : MethodName) ∈ lw_tbl := List.mem_append_right _ (List.mem_of_getElem? (i := 696) (by decide +kernel))
theorem w_697 : Cond.code ({ cls := "WinProofs", name := "findKinds", desc := "()V" } : MethodName) prog_1_method_29_code (1 : Nat) (Option.none : Option ClassFile.FieldType) ∈ lw_tbl := List.mem_append_right _ (List.mem_of_getElem? (i := 697) (by decide +kernel))
theorem w_698 : Cond.methodLink "WinProofs" (323 : Nat) ({ cls := "WinProofs$Kinds", name := "split", desc := "(LWinProofs$World;[Z)V" } : MethodName) ∈ lw_tbl := List.mem_append_right _ (List.mem_of_getElem? (i := 698) (by decide +kernel))
theorem w_699 : Cond.instanceMethod ({ cls := "WinProofs$Kinds", name := "split", desc := "(LWinProofs$World;[Z)V" } : MethodName) ∈ lw_tbl := List.mem_append_right _ (List.mem_of_getElem? (i := 699) (by decide +kernel))
theorem w_700 : Cond.selects "WinProofs$Kinds" ({ cls := "WinProofs$Kinds", name := "split", desc := "(LWinProofs$World;[Z)V" } : MethodName) ({ cls := "WinProofs$Kinds", name := "split", desc := "(LWinProofs$World;[Z)V" } : MethodName) ∈ lw_tbl := List.mem_append_right _ (List.mem_of_getElem? (i := 700) (by decide +kernel))
theorem w_701 : Cond.code ({ cls := "WinProofs$Kinds", name := "split", desc := "(LWinProofs$World;[Z)V" } : MethodName) prog_6_method_2_code (5 : Nat) (Option.none : Option ClassFile.FieldType) ∈ lw_tbl := List.mem_append_right _ (List.mem_of_getElem? (i := 701) (by decide +kernel))
theorem w_702 : Cond.methodLink "WinProofs$Kinds" (74 : Nat) ({ cls := "WinProofs$Kinds", name := "makeRoom", desc := "(I)V" } : MethodName) ∈ lw_tbl := List.mem_append_right _ (List.mem_of_getElem? (i := 702) (by decide +kernel))
theorem w_704 : Cond.instanceMethod ({ cls := "WinProofs$Kinds", name := "makeRoom", desc := "(I)V" } : MethodName) ∈ lw_tbl := List.mem_append_right _ (List.mem_of_getElem? (i := 704) (by decide +kernel))
theorem w_705 : Cond.code ({ cls := "WinProofs$Kinds", name := "makeRoom", desc := "(I)V" } : MethodName) prog_6_method_3_code (3 : Nat) (Option.none : Option ClassFile.FieldType) ∈ lw_tbl := List.mem_append_right _ (List.mem_of_getElem? (i := 705) (by decide +kernel))
theorem w_706 : Cond.methodLinkNest "WinProofs$Kinds" (90 : Nat) ({ cls := "WinProofs", name := "roomFor", desc := "(I)I" } : MethodName) "WinProofs" ∈ lw_tbl := List.mem_append_right _ (List.mem_of_getElem? (i := 706) (by decide +kernel))
theorem w_707 : Cond.methodLink "WinProofs$Kinds" (78 : Nat) ({ cls := "WinProofs$Kinds", name := "placeThose", desc := "(LWinProofs$World;[ZZI)I" } : MethodName) ∈ lw_tbl := List.mem_append_right _ (List.mem_of_getElem? (i := 707) (by decide +kernel))
theorem w_709 : Cond.instanceMethod ({ cls := "WinProofs$Kinds", name := "placeThose", desc := "(LWinProofs$World;[ZZI)I" } : MethodName) ∈ lw_tbl := List.mem_append_right _ (List.mem_of_getElem? (i := 709) (by decide +kernel))
theorem w_710 : Cond.code ({ cls := "WinProofs$Kinds", name := "placeThose", desc := "(LWinProofs$World;[ZZI)I" } : MethodName) prog_6_method_4_code (7 : Nat) (Option.some ClassFile.FieldType.int) ∈ lw_tbl := List.mem_append_right _ (List.mem_of_getElem? (i := 710) (by decide +kernel))
theorem w_711 : Cond.methodLink "WinProofs$Kinds" (97 : Nat) ({ cls := "WinProofs$Kinds", name := "open", desc := "(II)I" } : MethodName) ∈ lw_tbl := List.mem_append_right _ (List.mem_of_getElem? (i := 711) (by decide +kernel))
theorem w_713 : Cond.instanceMethod ({ cls := "WinProofs$Kinds", name := "open", desc := "(II)I" } : MethodName) ∈ lw_tbl := List.mem_append_right _ (List.mem_of_getElem? (i := 713) (by decide +kernel))
theorem w_714 : Cond.code ({ cls := "WinProofs$Kinds", name := "open", desc := "(II)I" } : MethodName) prog_6_method_5_code (5 : Nat) (Option.some ClassFile.FieldType.int) ∈ lw_tbl := List.mem_append_right _ (List.mem_of_getElem? (i := 714) (by decide +kernel))
theorem w_715 : Cond.constant "WinProofs$Kinds" (82 : Nat) (8000000 : Int32) ∈ lw_tbl := List.mem_append_right _ (List.mem_of_getElem? (i := 715) (by decide +kernel))
theorem w_716 : Cond.methodLink "WinProofs$Kinds" (83 : Nat) ({ cls := "WinProofs$Kinds", name := "settle", desc := "(LWinProofs$World;I)V" } : MethodName) ∈ lw_tbl := List.mem_append_right _ (List.mem_of_getElem? (i := 716) (by decide +kernel))
theorem w_718 : Cond.instanceMethod ({ cls := "WinProofs$Kinds", name := "settle", desc := "(LWinProofs$World;I)V" } : MethodName) ∈ lw_tbl := List.mem_append_right _ (List.mem_of_getElem? (i := 718) (by decide +kernel))
theorem w_719 : Cond.code ({ cls := "WinProofs$Kinds", name := "settle", desc := "(LWinProofs$World;I)V" } : MethodName) prog_6_method_6_code (8 : Nat) (Option.none : Option ClassFile.FieldType) ∈ lw_tbl := List.mem_append_right _ (List.mem_of_getElem? (i := 719) (by decide +kernel))
theorem w_720 : Cond.methodLink "WinProofs$Kinds" (101 : Nat) ({ cls := "java/lang/Math", name := "min", desc := "(II)I" } : MethodName) ∈ lw_tbl := List.mem_append_right _ (List.mem_of_getElem? (i := 720) (by decide +kernel))
theorem w_721 : Cond.static ({ cls := "java/lang/Math", name := "min", desc := "(II)I" } : MethodName) ∈ lw_tbl := List.mem_append_right _ (List.mem_of_getElem? (i := 721) (by decide +kernel))
theorem w_723 : Cond.methodLink "WinProofs$Kinds" (110 : Nat) ({ cls := "WinProofs$Kinds", name := "regroup", desc := "(LWinProofs$Act;II)I" } : MethodName) ∈ lw_tbl := List.mem_append_right _ (List.mem_of_getElem? (i := 723) (by decide +kernel))
theorem w_725 : Cond.instanceMethod ({ cls := "WinProofs$Kinds", name := "regroup", desc := "(LWinProofs$Act;II)I" } : MethodName) ∈ lw_tbl := List.mem_append_right _ (List.mem_of_getElem? (i := 725) (by decide +kernel))
theorem w_726 : Cond.code ({ cls := "WinProofs$Kinds", name := "regroup", desc := "(LWinProofs$Act;II)I" } : MethodName) prog_6_method_7_code (11 : Nat) (Option.some ClassFile.FieldType.int) ∈ lw_tbl := List.mem_append_right _ (List.mem_of_getElem? (i := 726) (by decide +kernel))
theorem w_727 : Cond.methodLink "WinProofs$Kinds" (122 : Nat) ({ cls := "java/util/Arrays", name := "fill", desc := "([IIII)V" } : MethodName) ∈ lw_tbl := List.mem_append_right _ (List.mem_of_getElem? (i := 727) (by decide +kernel))
theorem w_728 : Cond.methodLink "WinProofs$Kinds" (128 : Nat) ({ cls := "WinProofs$Kinds", name := "kindsBehind", desc := "(LWinProofs$Act;I)J" } : MethodName) ∈ lw_tbl := List.mem_append_right _ (List.mem_of_getElem? (i := 728) (by decide +kernel))
theorem w_730 : Cond.instanceMethod ({ cls := "WinProofs$Kinds", name := "kindsBehind", desc := "(LWinProofs$Act;I)J" } : MethodName) ∈ lw_tbl := List.mem_append_right _ (List.mem_of_getElem? (i := 730) (by decide +kernel))
theorem w_731 : Cond.code ({ cls := "WinProofs$Kinds", name := "kindsBehind", desc := "(LWinProofs$Act;I)J" } : MethodName) prog_6_method_9_code (9 : Nat) (Option.some ClassFile.FieldType.long) ∈ lw_tbl := List.mem_append_right _ (List.mem_of_getElem? (i := 731) (by decide +kernel))
theorem w_732 : Cond.methodLink "WinProofs$Kinds" (138 : Nat) ({ cls := "WinProofs$Act", name := "canBeDone", desc := "(I)Z" } : MethodName) ∈ lw_tbl := List.mem_append_right _ (List.mem_of_getElem? (i := 732) (by decide +kernel))
theorem w_733 : Cond.methodLink "WinProofs$Kinds" (156 : Nat) ({ cls := "java/lang/Math", name := "max", desc := "(II)I" } : MethodName) ∈ lw_tbl := List.mem_append_right _ (List.mem_of_getElem? (i := 733) (by decide +kernel))
theorem w_734 : Cond.static ({ cls := "java/lang/Math", name := "max", desc := "(II)I" } : MethodName) ∈ lw_tbl := List.mem_append_right _ (List.mem_of_getElem? (i := 734) (by decide +kernel))
theorem w_736 : Cond.methodLink "WinProofs$Kinds" (132 : Nat) ({ cls := "WinProofs$Kinds", name := "slotOf", desc := "(JI)I" } : MethodName) ∈ lw_tbl := List.mem_append_right _ (List.mem_of_getElem? (i := 736) (by decide +kernel))
theorem w_738 : Cond.instanceMethod ({ cls := "WinProofs$Kinds", name := "slotOf", desc := "(JI)I" } : MethodName) ∈ lw_tbl := List.mem_append_right _ (List.mem_of_getElem? (i := 738) (by decide +kernel))
theorem w_739 : Cond.code ({ cls := "WinProofs$Kinds", name := "slotOf", desc := "(JI)I" } : MethodName) prog_6_method_8_code (6 : Nat) (Option.some ClassFile.FieldType.int) ∈ lw_tbl := List.mem_append_right _ (List.mem_of_getElem? (i := 739) (by decide +kernel))
theorem w_740 : Cond.constantLong "WinProofs$Kinds" (136 : Nat) (-7046029254386353131 : Int64) ∈ lw_tbl := List.mem_append_right _ (List.mem_of_getElem? (i := 740) (by decide +kernel))
theorem w_741 : Cond.methodLink "WinProofs$Kinds" (114 : Nat) ({ cls := "WinProofs$Kinds", name := "sortByGroup", desc := "(III)V" } : MethodName) ∈ lw_tbl := List.mem_append_right _ (List.mem_of_getElem? (i := 741) (by decide +kernel))
theorem w_743 : Cond.instanceMethod ({ cls := "WinProofs$Kinds", name := "sortByGroup", desc := "(III)V" } : MethodName) ∈ lw_tbl := List.mem_append_right _ (List.mem_of_getElem? (i := 743) (by decide +kernel))
theorem w_744 : Cond.code ({ cls := "WinProofs$Kinds", name := "sortByGroup", desc := "(III)V" } : MethodName) prog_6_method_10_code (7 : Nat) (Option.none : Option ClassFile.FieldType) ∈ lw_tbl := List.mem_append_right _ (List.mem_of_getElem? (i := 744) (by decide +kernel))
theorem w_745 : Cond.methodLink "WinProofs$Kinds" (118 : Nat) ({ cls := "WinProofs$Kinds", name := "divide", desc := "(LWinProofs$World;III)V" } : MethodName) ∈ lw_tbl := List.mem_append_right _ (List.mem_of_getElem? (i := 745) (by decide +kernel))
theorem w_747 : Cond.instanceMethod ({ cls := "WinProofs$Kinds", name := "divide", desc := "(LWinProofs$World;III)V" } : MethodName) ∈ lw_tbl := List.mem_append_right _ (List.mem_of_getElem? (i := 747) (by decide +kernel))
theorem w_748 : Cond.code ({ cls := "WinProofs$Kinds", name := "divide", desc := "(LWinProofs$World;III)V" } : MethodName) prog_6_method_11_code (10 : Nat) (Option.none : Option ClassFile.FieldType) ∈ lw_tbl := List.mem_append_right _ (List.mem_of_getElem? (i := 748) (by decide +kernel))
theorem w_749 : Cond.methodLink "WinProofs$Kinds" (159 : Nat) ({ cls := "java/lang/System", name := "arraycopy", desc := "(Ljava/lang/Object;ILjava/lang/Object;II)V" } : MethodName) ∈ lw_tbl := List.mem_append_right _ (List.mem_of_getElem? (i := 749) (by decide +kernel))
theorem w_750 : Cond.static ({ cls := "java/lang/System", name := "arraycopy", desc := "(Ljava/lang/Object;ILjava/lang/Object;II)V" } : MethodName) ∈ lw_tbl := List.mem_append_right _ (List.mem_of_getElem? (i := 750) (by decide +kernel))
theorem w_751 : Cond.native ({ cls := "java/lang/System", name := "arraycopy", desc := "(Ljava/lang/Object;ILjava/lang/Object;II)V" } : MethodName) ∈ lw_tbl := List.mem_append_right _ (List.mem_of_getElem? (i := 751) (by decide +kernel))
theorem w_752 : Cond.methodLink "WinProofs$Kinds" (165 : Nat) ({ cls := "WinProofs$Kinds", name := "markThoseBefore", desc := "(LWinProofs$World;I)V" } : MethodName) ∈ lw_tbl := List.mem_append_right _ (List.mem_of_getElem? (i := 752) (by decide +kernel))
theorem w_754 : Cond.instanceMethod ({ cls := "WinProofs$Kinds", name := "markThoseBefore", desc := "(LWinProofs$World;I)V" } : MethodName) ∈ lw_tbl := List.mem_append_right _ (List.mem_of_getElem? (i := 754) (by decide +kernel))
theorem w_755 : Cond.code ({ cls := "WinProofs$Kinds", name := "markThoseBefore", desc := "(LWinProofs$World;I)V" } : MethodName) prog_6_method_12_code (7 : Nat) (Option.none : Option ClassFile.FieldType) ∈ lw_tbl := List.mem_append_right _ (List.mem_of_getElem? (i := 755) (by decide +kernel))
theorem w_756 : Cond.constant "WinProofs$Kinds" (171 : Nat) (147456 : Int32) ∈ lw_tbl := List.mem_append_right _ (List.mem_of_getElem? (i := 756) (by decide +kernel))
theorem w_757 : Cond.methodLinkNest "WinProofs$Kinds" (172 : Nat) ({ cls := "WinProofs", name := "stateOf", desc := "(I)I" } : MethodName) "WinProofs" ∈ lw_tbl := List.mem_append_right _ (List.mem_of_getElem? (i := 757) (by decide +kernel))
theorem w_758 : Cond.methodLink "WinProofs$Kinds" (175 : Nat) ({ cls := "WinProofs$Kinds", name := "moveToChanged", desc := "(II)V" } : MethodName) ∈ lw_tbl := List.mem_append_right _ (List.mem_of_getElem? (i := 758) (by decide +kernel))
theorem w_760 : Cond.instanceMethod ({ cls := "WinProofs$Kinds", name := "moveToChanged", desc := "(II)V" } : MethodName) ∈ lw_tbl := List.mem_append_right _ (List.mem_of_getElem? (i := 760) (by decide +kernel))
theorem w_761 : Cond.code ({ cls := "WinProofs$Kinds", name := "moveToChanged", desc := "(II)V" } : MethodName) prog_6_method_13_code (5 : Nat) (Option.none : Option ClassFile.FieldType) ∈ lw_tbl := List.mem_append_right _ (List.mem_of_getElem? (i := 761) (by decide +kernel))
theorem w_762 : Cond.methodLinkNest "WinProofs$Kinds" (179 : Nat) ({ cls := "WinProofs", name := "actOf", desc := "(I)I" } : MethodName) "WinProofs" ∈ lw_tbl := List.mem_append_right _ (List.mem_of_getElem? (i := 762) (by decide +kernel))
theorem w_763 : Cond.methodLink "WinProofs$Kinds" (182 : Nat) ({ cls := "WinProofs$World", name := "nextInto", desc := "(I)I" } : MethodName) ∈ lw_tbl := List.mem_append_right _ (List.mem_of_getElem? (i := 763) (by decide +kernel))
theorem w_764 : Cond.methodLink "WinProofs$Kinds" (87 : Nat) ({ cls := "WinProofs$Kinds", name := "findLeast", desc := "(I)V" } : MethodName) ∈ lw_tbl := List.mem_append_right _ (List.mem_of_getElem? (i := 764) (by decide +kernel))
theorem w_766 : Cond.instanceMethod ({ cls := "WinProofs$Kinds", name := "findLeast", desc := "(I)V" } : MethodName) ∈ lw_tbl := List.mem_append_right _ (List.mem_of_getElem? (i := 766) (by decide +kernel))
theorem w_767 : Cond.code ({ cls := "WinProofs$Kinds", name := "findLeast", desc := "(I)V" } : MethodName) prog_6_method_14_code (3 : Nat) (Option.none : Option ClassFile.FieldType) ∈ lw_tbl := List.mem_append_right _ (List.mem_of_getElem? (i := 767) (by decide +kernel))
theorem w_771 : Cond.code ({ cls := "WinProofs", name := "of", desc := "(II)I" } : MethodName) prog_1_method_14_code (3 : Nat) (Option.some ClassFile.FieldType.int) ∈ lw_tbl := List.mem_append_right _ (List.mem_of_getElem? (i := 771) (by decide +kernel))
theorem w_775 : Cond.code ({ cls := "WinProofs", name := "best", desc := "(II)I" } : MethodName) prog_1_method_15_code (3 : Nat) (Option.some ClassFile.FieldType.int) ∈ lw_tbl := List.mem_append_right _ (List.mem_of_getElem? (i := 775) (by decide +kernel))
theorem w_776 : Cond.methodLink "WinProofs" (211 : Nat) ({ cls := "WinProofs$Wins", name := "leastAct", desc := "(LWinProofs$World;[III)I" } : MethodName) ∈ lw_tbl := List.mem_append_right _ (List.mem_of_getElem? (i := 776) (by decide +kernel))
theorem w_777 : Cond.instanceMethod ({ cls := "WinProofs$Wins", name := "leastAct", desc := "(LWinProofs$World;[III)I" } : MethodName) ∈ lw_tbl := List.mem_append_right _ (List.mem_of_getElem? (i := 777) (by decide +kernel))
theorem w_778 : Cond.selects "WinProofs$Wins" ({ cls := "WinProofs$Wins", name := "leastAct", desc := "(LWinProofs$World;[III)I" } : MethodName) ({ cls := "WinProofs$Wins", name := "leastAct", desc := "(LWinProofs$World;[III)I" } : MethodName) ∈ lw_tbl := List.mem_append_right _ (List.mem_of_getElem? (i := 778) (by decide +kernel))
theorem w_779 : Cond.code ({ cls := "WinProofs$Wins", name := "leastAct", desc := "(LWinProofs$World;[III)I" } : MethodName) prog_10_method_8_code (6 : Nat) (Option.some ClassFile.FieldType.int) ∈ lw_tbl := List.mem_append_right _ (List.mem_of_getElem? (i := 779) (by decide +kernel))
theorem w_780 : Cond.methodLink "WinProofs$Wins" (112 : Nat) ({ cls := "WinProofs$Act", name := "canBeDone", desc := "(I)Z" } : MethodName) ∈ lw_tbl := List.mem_append_right _ (List.mem_of_getElem? (i := 780) (by decide +kernel))
theorem w_781 : Cond.methodLink "WinProofs$Wins" (115 : Nat) ({ cls := "WinProofs$Wins", name := "gives", desc := "(LWinProofs$Act;[III)Z" } : MethodName) ∈ lw_tbl := List.mem_append_right _ (List.mem_of_getElem? (i := 781) (by decide +kernel))
theorem w_783 : Cond.instanceMethod ({ cls := "WinProofs$Wins", name := "gives", desc := "(LWinProofs$Act;[III)Z" } : MethodName) ∈ lw_tbl := List.mem_append_right _ (List.mem_of_getElem? (i := 783) (by decide +kernel))
theorem w_784 : Cond.code ({ cls := "WinProofs$Wins", name := "gives", desc := "(LWinProofs$Act;[III)Z" } : MethodName) prog_10_method_9_code (10 : Nat) (Option.some ClassFile.FieldType.boolean) ∈ lw_tbl := List.mem_append_right _ (List.mem_of_getElem? (i := 784) (by decide +kernel))
theorem w_788 : Cond.code ({ cls := "WinProofs", name := "play", desc := "(II)I" } : MethodName) prog_1_method_16_code (7 : Nat) (Option.some ClassFile.FieldType.int) ∈ lw_tbl := List.mem_append_right _ (List.mem_of_getElem? (i := 788) (by decide +kernel))
theorem w_789 : Cond.methodLink "WinProofs" (215 : Nat) ({ cls := "WinProofs$Wins", name := "firstStep", desc := "(LWinProofs$World;I)I" } : MethodName) ∈ lw_tbl := List.mem_append_right _ (List.mem_of_getElem? (i := 789) (by decide +kernel))
theorem w_790 : Cond.instanceMethod ({ cls := "WinProofs$Wins", name := "firstStep", desc := "(LWinProofs$World;I)I" } : MethodName) ∈ lw_tbl := List.mem_append_right _ (List.mem_of_getElem? (i := 790) (by decide +kernel))
theorem w_791 : Cond.selects "WinProofs$Wins" ({ cls := "WinProofs$Wins", name := "firstStep", desc := "(LWinProofs$World;I)I" } : MethodName) ({ cls := "WinProofs$Wins", name := "firstStep", desc := "(LWinProofs$World;I)I" } : MethodName) ∈ lw_tbl := List.mem_append_right _ (List.mem_of_getElem? (i := 791) (by decide +kernel))
theorem w_792 : Cond.code ({ cls := "WinProofs$Wins", name := "firstStep", desc := "(LWinProofs$World;I)I" } : MethodName) prog_10_method_10_code (7 : Nat) (Option.some ClassFile.FieldType.int) ∈ lw_tbl := List.mem_append_right _ (List.mem_of_getElem? (i := 792) (by decide +kernel))
theorem w_793 : Cond.methodLinkNest "WinProofs$Wins" (119 : Nat) ({ cls := "WinProofs", name := "edgeOf", desc := "(III)I" } : MethodName) "WinProofs" ∈ lw_tbl := List.mem_append_right _ (List.mem_of_getElem? (i := 793) (by decide +kernel))
theorem w_794 : Cond.methodLink "WinProofs" (219 : Nat) ({ cls := "WinProofs$World", name := "behind", desc := "(I)I" } : MethodName) ∈ lw_tbl := List.mem_append_right _ (List.mem_of_getElem? (i := 794) (by decide +kernel))
theorem w_795 : Cond.instanceMethod ({ cls := "WinProofs$World", name := "behind", desc := "(I)I" } : MethodName) ∈ lw_tbl := List.mem_append_right _ (List.mem_of_getElem? (i := 795) (by decide +kernel))
theorem w_796 : Cond.selects "WinProofs$World" ({ cls := "WinProofs$World", name := "behind", desc := "(I)I" } : MethodName) ({ cls := "WinProofs$World", name := "behind", desc := "(I)I" } : MethodName) ∈ lw_tbl := List.mem_append_right _ (List.mem_of_getElem? (i := 796) (by decide +kernel))
theorem w_797 : Cond.code ({ cls := "WinProofs$World", name := "behind", desc := "(I)I" } : MethodName) prog_11_method_15_code (2 : Nat) (Option.some ClassFile.FieldType.int) ∈ lw_tbl := List.mem_append_right _ (List.mem_of_getElem? (i := 797) (by decide +kernel))
theorem w_798 : Cond.methodLinkNest "WinProofs$World" (86 : Nat) ({ cls := "WinProofs", name := "actOf", desc := "(I)I" } : MethodName) "WinProofs" ∈ lw_tbl := List.mem_append_right _ (List.mem_of_getElem? (i := 798) (by decide +kernel))
theorem w_799 : Cond.methodLinkNest "WinProofs$World" (94 : Nat) ({ cls := "WinProofs", name := "outcomeOf", desc := "(I)I" } : MethodName) "WinProofs" ∈ lw_tbl := List.mem_append_right _ (List.mem_of_getElem? (i := 799) (by decide +kernel))
theorem w_800 : Cond.static ({ cls := "WinProofs", name := "outcomeOf", desc := "(I)I" } : MethodName) ∈ lw_tbl := List.mem_append_right _ (List.mem_of_getElem? (i := 800) (by decide +kernel))
theorem w_801 : Cond.code ({ cls := "WinProofs", name := "outcomeOf", desc := "(I)I" } : MethodName) prog_1_method_35_code (1 : Nat) (Option.some ClassFile.FieldType.int) ∈ lw_tbl := List.mem_append_right _ (List.mem_of_getElem? (i := 801) (by decide +kernel))
theorem w_802 : Cond.methodLinkNest "WinProofs$World" (102 : Nat) ({ cls := "WinProofs", name := "stateOf", desc := "(I)I" } : MethodName) "WinProofs" ∈ lw_tbl := List.mem_append_right _ (List.mem_of_getElem? (i := 802) (by decide +kernel))
theorem w_803 : Cond.methodLink "WinProofs" (222 : Nat) ({ cls := "WinProofs", name := "actOf", desc := "(I)I" } : MethodName) ∈ lw_tbl := List.mem_append_right _ (List.mem_of_getElem? (i := 803) (by decide +kernel))
theorem w_804 : Cond.methodLink "WinProofs" (225 : Nat) ({ cls := "WinProofs", name := "outcomeOf", desc := "(I)I" } : MethodName) ∈ lw_tbl := List.mem_append_right _ (List.mem_of_getElem? (i := 804) (by decide +kernel))
theorem w_808 : Cond.code ({ cls := "WinProofs", name := "plays", desc := "()J" } : MethodName) prog_1_method_17_code (6 : Nat) (Option.some ClassFile.FieldType.long) ∈ lw_tbl := List.mem_append_right _ (List.mem_of_getElem? (i := 808) (by decide +kernel))
theorem w_812 : Cond.code ({ cls := "WinProofs", name := "needed", desc := "()I" } : MethodName) prog_1_method_18_code (2 : Nat) (Option.some ClassFile.FieldType.int) ∈ lw_tbl := List.mem_append_right _ (List.mem_of_getElem? (i := 812) (by decide +kernel))
theorem w_813 : Cond.methodLink "WinProofs" (238 : Nat) ({ cls := "WinProofs$Search", name := "wins", desc := "(LWinProofs$World;[ZIIII)Z" } : MethodName) ∈ lw_tbl := List.mem_append_right _ (List.mem_of_getElem? (i := 813) (by decide +kernel))
theorem w_814 : Cond.instanceMethod ({ cls := "WinProofs$Search", name := "wins", desc := "(LWinProofs$World;[ZIIII)Z" } : MethodName) ∈ lw_tbl := List.mem_append_right _ (List.mem_of_getElem? (i := 814) (by decide +kernel))
theorem w_815 : Cond.selects "WinProofs$Search" ({ cls := "WinProofs$Search", name := "wins", desc := "(LWinProofs$World;[ZIIII)Z" } : MethodName) ({ cls := "WinProofs$Search", name := "wins", desc := "(LWinProofs$World;[ZIIII)Z" } : MethodName) ∈ lw_tbl := List.mem_append_right _ (List.mem_of_getElem? (i := 815) (by decide +kernel))
theorem w_816 : Cond.code ({ cls := "WinProofs$Search", name := "wins", desc := "(LWinProofs$World;[ZIIII)Z" } : MethodName) prog_9_method_2_code (11 : Nat) (Option.some ClassFile.FieldType.boolean) ∈ lw_tbl := List.mem_append_right _ (List.mem_of_getElem? (i := 816) (by decide +kernel))
theorem w_817 : Cond.methodLink "WinProofs$Search" (34 : Nat) ({ cls := "WinProofs$Search", name := "begin", desc := "(I)V" } : MethodName) ∈ lw_tbl := List.mem_append_right _ (List.mem_of_getElem? (i := 817) (by decide +kernel))
theorem w_819 : Cond.instanceMethod ({ cls := "WinProofs$Search", name := "begin", desc := "(I)V" } : MethodName) ∈ lw_tbl := List.mem_append_right _ (List.mem_of_getElem? (i := 819) (by decide +kernel))
theorem w_820 : Cond.code ({ cls := "WinProofs$Search", name := "begin", desc := "(I)V" } : MethodName) prog_9_method_3_code (3 : Nat) (Option.none : Option ClassFile.FieldType) ∈ lw_tbl := List.mem_append_right _ (List.mem_of_getElem? (i := 820) (by decide +kernel))
theorem w_821 : Cond.methodLinkNest "WinProofs$Search" (67 : Nat) ({ cls := "WinProofs", name := "marksFor", desc := "([ZI)[Z" } : MethodName) "WinProofs" ∈ lw_tbl := List.mem_append_right _ (List.mem_of_getElem? (i := 821) (by decide +kernel))
theorem w_822 : Cond.methodLinkNest "WinProofs$Search" (71 : Nat) ({ cls := "WinProofs", name := "rowFor", desc := "([II)[I" } : MethodName) "WinProofs" ∈ lw_tbl := List.mem_append_right _ (List.mem_of_getElem? (i := 822) (by decide +kernel))
theorem w_823 : Cond.methodLink "WinProofs$Search" (38 : Nat) ({ cls := "WinProofs$Search", name := "visit", desc := "(LWinProofs$World;[ZI)Z" } : MethodName) ∈ lw_tbl := List.mem_append_right _ (List.mem_of_getElem? (i := 823) (by decide +kernel))
theorem w_825 : Cond.instanceMethod ({ cls := "WinProofs$Search", name := "visit", desc := "(LWinProofs$World;[ZI)Z" } : MethodName) ∈ lw_tbl := List.mem_append_right _ (List.mem_of_getElem? (i := 825) (by decide +kernel))
theorem w_826 : Cond.code ({ cls := "WinProofs$Search", name := "visit", desc := "(LWinProofs$World;[ZI)Z" } : MethodName) prog_9_method_4_code (4 : Nat) (Option.some ClassFile.FieldType.boolean) ∈ lw_tbl := List.mem_append_right _ (List.mem_of_getElem? (i := 826) (by decide +kernel))
theorem w_827 : Cond.methodLinkNest "WinProofs$Search" (78 : Nat) ({ cls := "WinProofs", name := "valueIn", desc := "(II)I" } : MethodName) "WinProofs" ∈ lw_tbl := List.mem_append_right _ (List.mem_of_getElem? (i := 827) (by decide +kernel))
theorem w_828 : Cond.methodLink "WinProofs$Search" (49 : Nat) ({ cls := "WinProofs$Act", name := "canBeDone", desc := "(I)Z" } : MethodName) ∈ lw_tbl := List.mem_append_right _ (List.mem_of_getElem? (i := 828) (by decide +kernel))
theorem w_832 : Cond.code ({ cls := "WinProofs", name := "fact", desc := "(II)I" } : MethodName) prog_1_method_19_code (3 : Nat) (Option.some ClassFile.FieldType.int) ∈ lw_tbl := List.mem_append_right _ (List.mem_of_getElem? (i := 832) (by decide +kernel))
theorem w_833 : Cond.methodLink "WinProofs" (241 : Nat) ({ cls := "WinProofs$World", name := "isThing", desc := "(I)Z" } : MethodName) ∈ lw_tbl := List.mem_append_right _ (List.mem_of_getElem? (i := 833) (by decide +kernel))
theorem w_837 : Cond.code ({ cls := "WinProofs", name := "values", desc := "(I)I" } : MethodName) prog_1_method_20_code (4 : Nat) (Option.some ClassFile.FieldType.int) ∈ lw_tbl := List.mem_append_right _ (List.mem_of_getElem? (i := 837) (by decide +kernel))
theorem w_838 : Cond.methodLink "WinProofs" (250 : Nat) ({ cls := "WinProofs", name := "valueIn", desc := "(II)I" } : MethodName) ∈ lw_tbl := List.mem_append_right _ (List.mem_of_getElem? (i := 838) (by decide +kernel))
theorem w_842 : Cond.code ({ cls := "WinProofs", name := "cover", desc := "()I" } : MethodName) prog_1_method_21_code (2 : Nat) (Option.some ClassFile.FieldType.int) ∈ lw_tbl := List.mem_append_right _ (List.mem_of_getElem? (i := 842) (by decide +kernel))
theorem w_843 : Cond.methodLink "WinProofs" (254 : Nat) ({ cls := "WinProofs$Cover", name := "addPart", desc := "()I" } : MethodName) ∈ lw_tbl := List.mem_append_right _ (List.mem_of_getElem? (i := 843) (by decide +kernel))
theorem w_844 : Cond.instanceMethod ({ cls := "WinProofs$Cover", name := "addPart", desc := "()I" } : MethodName) ∈ lw_tbl := List.mem_append_right _ (List.mem_of_getElem? (i := 844) (by decide +kernel))
theorem w_845 : Cond.selects "WinProofs$Cover" ({ cls := "WinProofs$Cover", name := "addPart", desc := "()I" } : MethodName) ({ cls := "WinProofs$Cover", name := "addPart", desc := "()I" } : MethodName) ∈ lw_tbl := List.mem_append_right _ (List.mem_of_getElem? (i := 845) (by decide +kernel))
theorem w_846 : Cond.code ({ cls := "WinProofs$Cover", name := "addPart", desc := "()I" } : MethodName) prog_5_method_2_code (1 : Nat) (Option.some ClassFile.FieldType.int) ∈ lw_tbl := List.mem_append_right _ (List.mem_of_getElem? (i := 846) (by decide +kernel))
theorem w_847 : Cond.methodLink "WinProofs" (257 : Nat) ({ cls := "WinProofs$Changes", name := "inCover", desc := "()V" } : MethodName) ∈ lw_tbl := List.mem_append_right _ (List.mem_of_getElem? (i := 847) (by decide +kernel))
theorem w_848 : Cond.instanceMethod ({ cls := "WinProofs$Changes", name := "inCover", desc := "()V" } : MethodName) ∈ lw_tbl := List.mem_append_right _ (List.mem_of_getElem? (i := 848) (by decide +kernel))
theorem w_849 : Cond.selects "WinProofs$Changes" ({ cls := "WinProofs$Changes", name := "inCover", desc := "()V" } : MethodName) ({ cls := "WinProofs$Changes", name := "inCover", desc := "()V" } : MethodName) ∈ lw_tbl := List.mem_append_right _ (List.mem_of_getElem? (i := 849) (by decide +kernel))
theorem w_850 : Cond.code ({ cls := "WinProofs$Changes", name := "inCover", desc := "()V" } : MethodName) prog_3_method_5_code (1 : Nat) (Option.none : Option ClassFile.FieldType) ∈ lw_tbl := List.mem_append_right _ (List.mem_of_getElem? (i := 850) (by decide +kernel))
theorem w_854 : Cond.code ({ cls := "WinProofs", name := "part", desc := "(IIII)I" } : MethodName) prog_1_method_22_code (6 : Nat) (Option.some ClassFile.FieldType.int) ∈ lw_tbl := List.mem_append_right _ (List.mem_of_getElem? (i := 854) (by decide +kernel))
theorem w_858 : Cond.code ({ cls := "WinProofs", name := "bare", desc := "()I" } : MethodName) prog_1_method_23_code (2 : Nat) (Option.some ClassFile.FieldType.int) ∈ lw_tbl := List.mem_append_right _ (List.mem_of_getElem? (i := 858) (by decide +kernel))
theorem w_862 : Cond.code ({ cls := "WinProofs", name := "flaw", desc := "(I)I" } : MethodName) prog_1_method_24_code (2 : Nat) (Option.some ClassFile.FieldType.int) ∈ lw_tbl := List.mem_append_right _ (List.mem_of_getElem? (i := 862) (by decide +kernel))
theorem w_863 : Cond.methodLink "WinProofs" (267 : Nat) ({ cls := "WinProofs$Cover", name := "judge", desc := "(LWinProofs$World;[ZI)V" } : MethodName) ∈ lw_tbl := List.mem_append_right _ (List.mem_of_getElem? (i := 863) (by decide +kernel))
theorem w_864 : Cond.instanceMethod ({ cls := "WinProofs$Cover", name := "judge", desc := "(LWinProofs$World;[ZI)V" } : MethodName) ∈ lw_tbl := List.mem_append_right _ (List.mem_of_getElem? (i := 864) (by decide +kernel))
theorem w_865 : Cond.selects "WinProofs$Cover" ({ cls := "WinProofs$Cover", name := "judge", desc := "(LWinProofs$World;[ZI)V" } : MethodName) ({ cls := "WinProofs$Cover", name := "judge", desc := "(LWinProofs$World;[ZI)V" } : MethodName) ∈ lw_tbl := List.mem_append_right _ (List.mem_of_getElem? (i := 865) (by decide +kernel))
theorem w_866 : Cond.code ({ cls := "WinProofs$Cover", name := "judge", desc := "(LWinProofs$World;[ZI)V" } : MethodName) prog_5_method_3_code (5 : Nat) (Option.none : Option ClassFile.FieldType) ∈ lw_tbl := List.mem_append_right _ (List.mem_of_getElem? (i := 866) (by decide +kernel))
theorem w_867 : Cond.methodLink "WinProofs$Cover" (43 : Nat) ({ cls := "WinProofs$Cover", name := "findInside", desc := "(LWinProofs$World;)V" } : MethodName) ∈ lw_tbl := List.mem_append_right _ (List.mem_of_getElem? (i := 867) (by decide +kernel))
theorem w_869 : Cond.instanceMethod ({ cls := "WinProofs$Cover", name := "findInside", desc := "(LWinProofs$World;)V" } : MethodName) ∈ lw_tbl := List.mem_append_right _ (List.mem_of_getElem? (i := 869) (by decide +kernel))
theorem w_870 : Cond.code ({ cls := "WinProofs$Cover", name := "findInside", desc := "(LWinProofs$World;)V" } : MethodName) prog_5_method_5_code (3 : Nat) (Option.none : Option ClassFile.FieldType) ∈ lw_tbl := List.mem_append_right _ (List.mem_of_getElem? (i := 870) (by decide +kernel))
theorem w_871 : Cond.methodLinkNest "WinProofs$Cover" (60 : Nat) ({ cls := "WinProofs", name := "marksFor", desc := "([ZI)[Z" } : MethodName) "WinProofs" ∈ lw_tbl := List.mem_append_right _ (List.mem_of_getElem? (i := 871) (by decide +kernel))
theorem w_872 : Cond.methodLink "WinProofs$Cover" (68 : Nat) ({ cls := "WinProofs$Cover", name := "isInside", desc := "(I)Z" } : MethodName) ∈ lw_tbl := List.mem_append_right _ (List.mem_of_getElem? (i := 872) (by decide +kernel))
theorem w_874 : Cond.instanceMethod ({ cls := "WinProofs$Cover", name := "isInside", desc := "(I)Z" } : MethodName) ∈ lw_tbl := List.mem_append_right _ (List.mem_of_getElem? (i := 874) (by decide +kernel))
theorem w_875 : Cond.code ({ cls := "WinProofs$Cover", name := "isInside", desc := "(I)Z" } : MethodName) prog_5_method_6_code (3 : Nat) (Option.some ClassFile.FieldType.boolean) ∈ lw_tbl := List.mem_append_right _ (List.mem_of_getElem? (i := 875) (by decide +kernel))
theorem w_876 : Cond.methodLink "WinProofs$Cover" (72 : Nat) ({ cls := "WinProofs$Clauses", name := "hold", desc := "(I)Z" } : MethodName) ∈ lw_tbl := List.mem_append_right _ (List.mem_of_getElem? (i := 876) (by decide +kernel))
theorem w_877 : Cond.methodLink "WinProofs$Cover" (47 : Nat) ({ cls := "WinProofs$Cover", name := "tell", desc := "(III)V" } : MethodName) ∈ lw_tbl := List.mem_append_right _ (List.mem_of_getElem? (i := 877) (by decide +kernel))
theorem w_879 : Cond.instanceMethod ({ cls := "WinProofs$Cover", name := "tell", desc := "(III)V" } : MethodName) ∈ lw_tbl := List.mem_append_right _ (List.mem_of_getElem? (i := 879) (by decide +kernel))
theorem w_880 : Cond.code ({ cls := "WinProofs$Cover", name := "tell", desc := "(III)V" } : MethodName) prog_5_method_4_code (4 : Nat) (Option.none : Option ClassFile.FieldType) ∈ lw_tbl := List.mem_append_right _ (List.mem_of_getElem? (i := 880) (by decide +kernel))
theorem w_881 : Cond.methodLink "WinProofs$Cover" (56 : Nat) ({ cls := "WinProofs$Cover", name := "leavesFrom", desc := "(LWinProofs$World;I)Z" } : MethodName) ∈ lw_tbl := List.mem_append_right _ (List.mem_of_getElem? (i := 881) (by decide +kernel))
theorem w_883 : Cond.instanceMethod ({ cls := "WinProofs$Cover", name := "leavesFrom", desc := "(LWinProofs$World;I)Z" } : MethodName) ∈ lw_tbl := List.mem_append_right _ (List.mem_of_getElem? (i := 883) (by decide +kernel))
theorem w_884 : Cond.code ({ cls := "WinProofs$Cover", name := "leavesFrom", desc := "(LWinProofs$World;I)Z" } : MethodName) prog_5_method_7_code (7 : Nat) (Option.some ClassFile.FieldType.boolean) ∈ lw_tbl := List.mem_append_right _ (List.mem_of_getElem? (i := 884) (by decide +kernel))
theorem w_889 : Cond.code ({ cls := "WinProofsModel", name := "<init>", desc := "()V" } : MethodName) prog_13_method_1_code (1 : Nat) (Option.none : Option ClassFile.FieldType) ∈ lw_tbl := List.mem_append_right _ (List.mem_of_getElem? (i := 889) (by decide +kernel))
theorem w_890 : Cond.methodLink "WinProofsModel" (1 : Nat) ({ cls := "java/lang/Object", name := "<init>", desc := "()V" } : MethodName) ∈ lw_tbl := List.mem_append_right _ (List.mem_of_getElem? (i := 890) (by decide +kernel))
theorem w_891 : Cond.constant "WinProofsModel" (34 : Nat) (147456 : Int32) ∈ lw_tbl := List.mem_append_right _ (List.mem_of_getElem? (i := 891) (by decide +kernel))
theorem w_892 : Cond.constant "WinProofsModel" (66 : Nat) (49152 : Int32) ∈ lw_tbl := List.mem_append_right _ (List.mem_of_getElem? (i := 892) (by decide +kernel))
theorem w_893 : Cond.methodLink "WinProofsModel" (95 : Nat) ({ cls := "WinProofsModel", name := "forget", desc := "()V" } : MethodName) ∈ lw_tbl := List.mem_append_right _ (List.mem_of_getElem? (i := 893) (by decide +kernel))
theorem w_895 : Cond.instanceMethod ({ cls := "WinProofsModel", name := "forget", desc := "()V" } : MethodName) ∈ lw_tbl := List.mem_append_right _ (List.mem_of_getElem? (i := 895) (by decide +kernel))
theorem w_896 : Cond.code ({ cls := "WinProofsModel", name := "forget", desc := "()V" } : MethodName) prog_13_method_3_code (1 : Nat) (Option.none : Option ClassFile.FieldType) ∈ lw_tbl := List.mem_append_right _ (List.mem_of_getElem? (i := 896) (by decide +kernel))
theorem w_897 : Cond.fieldLink "WinProofsModel" (105 : Nat) "WinProofsModel" "things" "I" ∈ lw_tbl := List.mem_append_right _ (List.mem_of_getElem? (i := 897) (by decide +kernel))
theorem w_898 : Cond.fieldLink "WinProofsModel" (7 : Nat) "WinProofsModel" "sizes" "[I" ∈ lw_tbl := List.mem_append_right _ (List.mem_of_getElem? (i := 898) (by decide +kernel))
theorem w_899 : Cond.fieldLink "WinProofsModel" (109 : Nat) "WinProofsModel" "begin" "I" ∈ lw_tbl := List.mem_append_right _ (List.mem_of_getElem? (i := 899) (by decide +kernel))
theorem w_900 : Cond.fieldLink "WinProofsModel" (112 : Nat) "WinProofsModel" "acts" "I" ∈ lw_tbl := List.mem_append_right _ (List.mem_of_getElem? (i := 900) (by decide +kernel))
theorem w_901 : Cond.fieldLink "WinProofsModel" (13 : Nat) "WinProofsModel" "outcomes" "[I" ∈ lw_tbl := List.mem_append_right _ (List.mem_of_getElem? (i := 901) (by decide +kernel))
theorem w_902 : Cond.fieldLink "WinProofsModel" (16 : Nat) "WinProofsModel" "conditionMany" "[I" ∈ lw_tbl := List.mem_append_right _ (List.mem_of_getElem? (i := 902) (by decide +kernel))
theorem w_903 : Cond.fieldLink "WinProofsModel" (19 : Nat) "WinProofsModel" "condition" "[I" ∈ lw_tbl := List.mem_append_right _ (List.mem_of_getElem? (i := 903) (by decide +kernel))
theorem w_904 : Cond.fieldLink "WinProofsModel" (22 : Nat) "WinProofsModel" "effectMany" "[I" ∈ lw_tbl := List.mem_append_right _ (List.mem_of_getElem? (i := 904) (by decide +kernel))
theorem w_905 : Cond.fieldLink "WinProofsModel" (25 : Nat) "WinProofsModel" "effects" "[I" ∈ lw_tbl := List.mem_append_right _ (List.mem_of_getElem? (i := 905) (by decide +kernel))
theorem w_906 : Cond.fieldLink "WinProofsModel" (115 : Nat) "WinProofsModel" "parts" "I" ∈ lw_tbl := List.mem_append_right _ (List.mem_of_getElem? (i := 906) (by decide +kernel))
theorem w_907 : Cond.fieldLink "WinProofsModel" (28 : Nat) "WinProofsModel" "now" "[I" ∈ lw_tbl := List.mem_append_right _ (List.mem_of_getElem? (i := 907) (by decide +kernel))
theorem w_908 : Cond.fieldLink "WinProofsModel" (31 : Nat) "WinProofsModel" "then" "[I" ∈ lw_tbl := List.mem_append_right _ (List.mem_of_getElem? (i := 908) (by decide +kernel))
theorem w_909 : Cond.fieldLink "WinProofsModel" (98 : Nat) "WinProofsModel" "isLaid" "Z" ∈ lw_tbl := List.mem_append_right _ (List.mem_of_getElem? (i := 909) (by decide +kernel))
theorem w_910 : Cond.fieldLink "WinProofsModel" (157 : Nat) "WinProofsModel" "many" "I" ∈ lw_tbl := List.mem_append_right _ (List.mem_of_getElem? (i := 910) (by decide +kernel))
theorem w_911 : Cond.fieldLink "WinProofsModel" (35 : Nat) "WinProofsModel" "next" "[I" ∈ lw_tbl := List.mem_append_right _ (List.mem_of_getElem? (i := 911) (by decide +kernel))
theorem w_912 : Cond.fieldLink "WinProofsModel" (38 : Nat) "WinProofsModel" "isAim" "[Z" ∈ lw_tbl := List.mem_append_right _ (List.mem_of_getElem? (i := 912) (by decide +kernel))
theorem w_913 : Cond.fieldLink "WinProofsModel" (42 : Nat) "WinProofsModel" "firstFrom" "[I" ∈ lw_tbl := List.mem_append_right _ (List.mem_of_getElem? (i := 913) (by decide +kernel))
theorem w_914 : Cond.fieldLink "WinProofsModel" (45 : Nat) "WinProofsModel" "from" "[I" ∈ lw_tbl := List.mem_append_right _ (List.mem_of_getElem? (i := 914) (by decide +kernel))
theorem w_915 : Cond.fieldLink "WinProofsModel" (48 : Nat) "WinProofsModel" "alsoFrom" "[I" ∈ lw_tbl := List.mem_append_right _ (List.mem_of_getElem? (i := 915) (by decide +kernel))
theorem w_916 : Cond.fieldLink "WinProofsModel" (51 : Nat) "WinProofsModel" "far" "[I" ∈ lw_tbl := List.mem_append_right _ (List.mem_of_getElem? (i := 916) (by decide +kernel))
theorem w_917 : Cond.fieldLink "WinProofsModel" (54 : Nat) "WinProofsModel" "may" "[I" ∈ lw_tbl := List.mem_append_right _ (List.mem_of_getElem? (i := 917) (by decide +kernel))
theorem w_918 : Cond.fieldLink "WinProofsModel" (57 : Nat) "WinProofsModel" "must" "[I" ∈ lw_tbl := List.mem_append_right _ (List.mem_of_getElem? (i := 918) (by decide +kernel))
theorem w_919 : Cond.fieldLink "WinProofsModel" (60 : Nat) "WinProofsModel" "level" "[I" ∈ lw_tbl := List.mem_append_right _ (List.mem_of_getElem? (i := 919) (by decide +kernel))
theorem w_920 : Cond.fieldLink "WinProofsModel" (63 : Nat) "WinProofsModel" "wait" "[I" ∈ lw_tbl := List.mem_append_right _ (List.mem_of_getElem? (i := 920) (by decide +kernel))
theorem w_921 : Cond.fieldLink "WinProofsModel" (67 : Nat) "WinProofsModel" "left" "[I" ∈ lw_tbl := List.mem_append_right _ (List.mem_of_getElem? (i := 921) (by decide +kernel))
theorem w_922 : Cond.fieldLink "WinProofsModel" (70 : Nat) "WinProofsModel" "isWon" "[Z" ∈ lw_tbl := List.mem_append_right _ (List.mem_of_getElem? (i := 922) (by decide +kernel))
theorem w_923 : Cond.fieldLink "WinProofsModel" (102 : Nat) "WinProofsModel" "isParted" "Z" ∈ lw_tbl := List.mem_append_right _ (List.mem_of_getElem? (i := 923) (by decide +kernel))
theorem w_924 : Cond.fieldLink "WinProofsModel" (73 : Nat) "WinProofsModel" "piece" "[I" ∈ lw_tbl := List.mem_append_right _ (List.mem_of_getElem? (i := 924) (by decide +kernel))
theorem w_925 : Cond.fieldLink "WinProofsModel" (76 : Nat) "WinProofsModel" "parted" "[I" ∈ lw_tbl := List.mem_append_right _ (List.mem_of_getElem? (i := 925) (by decide +kernel))
theorem w_926 : Cond.fieldLink "WinProofsModel" (79 : Nat) "WinProofsModel" "signs" "[J" ∈ lw_tbl := List.mem_append_right _ (List.mem_of_getElem? (i := 926) (by decide +kernel))
theorem w_927 : Cond.fieldLink "WinProofsModel" (83 : Nat) "WinProofsModel" "heads" "[I" ∈ lw_tbl := List.mem_append_right _ (List.mem_of_getElem? (i := 927) (by decide +kernel))
theorem w_928 : Cond.fieldLink "WinProofsModel" (86 : Nat) "WinProofsModel" "same" "[I" ∈ lw_tbl := List.mem_append_right _ (List.mem_of_getElem? (i := 928) (by decide +kernel))
theorem w_929 : Cond.fieldLink "WinProofsModel" (194 : Nat) "WinProofsModel" "classes" "I" ∈ lw_tbl := List.mem_append_right _ (List.mem_of_getElem? (i := 929) (by decide +kernel))
theorem w_930 : Cond.fieldLink "WinProofsModel" (89 : Nat) "WinProofsModel" "ways" "[J" ∈ lw_tbl := List.mem_append_right _ (List.mem_of_getElem? (i := 930) (by decide +kernel))
theorem w_931 : Cond.fieldLink "WinProofsModel" (92 : Nat) "WinProofsModel" "isSeen" "[Z" ∈ lw_tbl := List.mem_append_right _ (List.mem_of_getElem? (i := 931) (by decide +kernel))
theorem w_932 : Cond.fieldLink "WinProofsModel" (215 : Nat) "WinProofsModel" "flawState" "I" ∈ lw_tbl := List.mem_append_right _ (List.mem_of_getElem? (i := 932) (by decide +kernel))
theorem w_933 : Cond.fieldLink "WinProofsModel" (218 : Nat) "WinProofsModel" "flawWay" "I" ∈ lw_tbl := List.mem_append_right _ (List.mem_of_getElem? (i := 933) (by decide +kernel))
theorem w_1012 : Cond.code ({ cls := "WinProofsModel", name := "clear", desc := "()I" } : MethodName) prog_13_method_4_code (2 : Nat) (Option.some ClassFile.FieldType.int) ∈ lw_tbl := List.mem_append_right _ (List.mem_of_getElem? (i := 1012) (by decide +kernel))
theorem w_1016 : Cond.code ({ cls := "WinProofsModel", name := "thing", desc := "(I)I" } : MethodName) prog_13_method_6_code (2 : Nat) (Option.some ClassFile.FieldType.int) ∈ lw_tbl := List.mem_append_right _ (List.mem_of_getElem? (i := 1016) (by decide +kernel))
theorem w_1017 : Cond.methodLink "WinProofsModel" (118 : Nat) ({ cls := "WinProofsModel", name := "isIn", desc := "(III)Z" } : MethodName) ∈ lw_tbl := List.mem_append_right _ (List.mem_of_getElem? (i := 1017) (by decide +kernel))
theorem w_1018 : Cond.static ({ cls := "WinProofsModel", name := "isIn", desc := "(III)Z" } : MethodName) ∈ lw_tbl := List.mem_append_right _ (List.mem_of_getElem? (i := 1018) (by decide +kernel))
theorem w_1019 : Cond.code ({ cls := "WinProofsModel", name := "isIn", desc := "(III)Z" } : MethodName) prog_13_method_2_code (3 : Nat) (Option.some ClassFile.FieldType.boolean) ∈ lw_tbl := List.mem_append_right _ (List.mem_of_getElem? (i := 1019) (by decide +kernel))
theorem w_1020 : Cond.methodLink "WinProofsModel" (122 : Nat) ({ cls := "WinProofsModel", name := "states", desc := "()I" } : MethodName) ∈ lw_tbl := List.mem_append_right _ (List.mem_of_getElem? (i := 1020) (by decide +kernel))
theorem w_1022 : Cond.instanceMethod ({ cls := "WinProofsModel", name := "states", desc := "()I" } : MethodName) ∈ lw_tbl := List.mem_append_right _ (List.mem_of_getElem? (i := 1022) (by decide +kernel))
theorem w_1023 : Cond.code ({ cls := "WinProofsModel", name := "states", desc := "()I" } : MethodName) prog_13_method_5_code (3 : Nat) (Option.some ClassFile.FieldType.int) ∈ lw_tbl := List.mem_append_right _ (List.mem_of_getElem? (i := 1023) (by decide +kernel))
theorem w_1027 : Cond.code ({ cls := "WinProofsModel", name := "start", desc := "(I)I" } : MethodName) prog_13_method_10_code (3 : Nat) (Option.some ClassFile.FieldType.int) ∈ lw_tbl := List.mem_append_right _ (List.mem_of_getElem? (i := 1027) (by decide +kernel))
theorem w_1028 : Cond.methodLink "WinProofsModel" (126 : Nat) ({ cls := "WinProofsModel", name := "isState", desc := "(I)Z" } : MethodName) ∈ lw_tbl := List.mem_append_right _ (List.mem_of_getElem? (i := 1028) (by decide +kernel))
theorem w_1030 : Cond.instanceMethod ({ cls := "WinProofsModel", name := "isState", desc := "(I)Z" } : MethodName) ∈ lw_tbl := List.mem_append_right _ (List.mem_of_getElem? (i := 1030) (by decide +kernel))
theorem w_1031 : Cond.code ({ cls := "WinProofsModel", name := "isState", desc := "(I)Z" } : MethodName) prog_13_method_7_code (2 : Nat) (Option.some ClassFile.FieldType.boolean) ∈ lw_tbl := List.mem_append_right _ (List.mem_of_getElem? (i := 1031) (by decide +kernel))
theorem w_1035 : Cond.code ({ cls := "WinProofsModel", name := "act", desc := "()I" } : MethodName) prog_13_method_11_code (1 : Nat) (Option.some ClassFile.FieldType.int) ∈ lw_tbl := List.mem_append_right _ (List.mem_of_getElem? (i := 1035) (by decide +kernel))
theorem w_1039 : Cond.code ({ cls := "WinProofsModel", name := "outcome", desc := "(I)I" } : MethodName) prog_13_method_12_code (2 : Nat) (Option.some ClassFile.FieldType.int) ∈ lw_tbl := List.mem_append_right _ (List.mem_of_getElem? (i := 1039) (by decide +kernel))
theorem w_1040 : Cond.methodLink "WinProofsModel" (130 : Nat) ({ cls := "WinProofsModel", name := "isAct", desc := "(I)Z" } : MethodName) ∈ lw_tbl := List.mem_append_right _ (List.mem_of_getElem? (i := 1040) (by decide +kernel))
theorem w_1042 : Cond.instanceMethod ({ cls := "WinProofsModel", name := "isAct", desc := "(I)Z" } : MethodName) ∈ lw_tbl := List.mem_append_right _ (List.mem_of_getElem? (i := 1042) (by decide +kernel))
theorem w_1043 : Cond.code ({ cls := "WinProofsModel", name := "isAct", desc := "(I)Z" } : MethodName) prog_13_method_9_code (2 : Nat) (Option.some ClassFile.FieldType.boolean) ∈ lw_tbl := List.mem_append_right _ (List.mem_of_getElem? (i := 1043) (by decide +kernel))
theorem w_1047 : Cond.code ({ cls := "WinProofsModel", name := "when", desc := "(IIII)I" } : MethodName) prog_13_method_15_code (5 : Nat) (Option.some ClassFile.FieldType.int) ∈ lw_tbl := List.mem_append_right _ (List.mem_of_getElem? (i := 1047) (by decide +kernel))
theorem w_1048 : Cond.methodLink "WinProofsModel" (136 : Nat) ({ cls := "WinProofsModel", name := "isCondition", desc := "(III)Z" } : MethodName) ∈ lw_tbl := List.mem_append_right _ (List.mem_of_getElem? (i := 1048) (by decide +kernel))
theorem w_1050 : Cond.instanceMethod ({ cls := "WinProofsModel", name := "isCondition", desc := "(III)Z" } : MethodName) ∈ lw_tbl := List.mem_append_right _ (List.mem_of_getElem? (i := 1050) (by decide +kernel))
theorem w_1051 : Cond.code ({ cls := "WinProofsModel", name := "isCondition", desc := "(III)Z" } : MethodName) prog_13_method_13_code (4 : Nat) (Option.some ClassFile.FieldType.boolean) ∈ lw_tbl := List.mem_append_right _ (List.mem_of_getElem? (i := 1051) (by decide +kernel))
theorem w_1052 : Cond.methodLink "WinProofsModel" (133 : Nat) ({ cls := "WinProofsModel", name := "isThing", desc := "(I)Z" } : MethodName) ∈ lw_tbl := List.mem_append_right _ (List.mem_of_getElem? (i := 1052) (by decide +kernel))
theorem w_1054 : Cond.instanceMethod ({ cls := "WinProofsModel", name := "isThing", desc := "(I)Z" } : MethodName) ∈ lw_tbl := List.mem_append_right _ (List.mem_of_getElem? (i := 1054) (by decide +kernel))
theorem w_1055 : Cond.code ({ cls := "WinProofsModel", name := "isThing", desc := "(I)Z" } : MethodName) prog_13_method_8_code (2 : Nat) (Option.some ClassFile.FieldType.boolean) ∈ lw_tbl := List.mem_append_right _ (List.mem_of_getElem? (i := 1055) (by decide +kernel))
theorem w_1056 : Cond.methodLink "WinProofsModel" (139 : Nat) ({ cls := "WinProofsModel", name := "more", desc := "(IIII)I" } : MethodName) ∈ lw_tbl := List.mem_append_right _ (List.mem_of_getElem? (i := 1056) (by decide +kernel))
theorem w_1058 : Cond.instanceMethod ({ cls := "WinProofsModel", name := "more", desc := "(IIII)I" } : MethodName) ∈ lw_tbl := List.mem_append_right _ (List.mem_of_getElem? (i := 1058) (by decide +kernel))
theorem w_1059 : Cond.code ({ cls := "WinProofsModel", name := "more", desc := "(IIII)I" } : MethodName) prog_13_method_14_code (6 : Nat) (Option.some ClassFile.FieldType.int) ∈ lw_tbl := List.mem_append_right _ (List.mem_of_getElem? (i := 1059) (by decide +kernel))
theorem w_1063 : Cond.code ({ cls := "WinProofsModel", name := "aim", desc := "(III)I" } : MethodName) prog_13_method_16_code (4 : Nat) (Option.some ClassFile.FieldType.int) ∈ lw_tbl := List.mem_append_right _ (List.mem_of_getElem? (i := 1063) (by decide +kernel))
theorem w_1067 : Cond.code ({ cls := "WinProofsModel", name := "aimless", desc := "()I" } : MethodName) prog_13_method_17_code (2 : Nat) (Option.some ClassFile.FieldType.int) ∈ lw_tbl := List.mem_append_right _ (List.mem_of_getElem? (i := 1067) (by decide +kernel))
theorem w_1071 : Cond.code ({ cls := "WinProofsModel", name := "effect", desc := "(IIIII)I" } : MethodName) prog_13_method_18_code (8 : Nat) (Option.some ClassFile.FieldType.int) ∈ lw_tbl := List.mem_append_right _ (List.mem_of_getElem? (i := 1071) (by decide +kernel))
theorem w_1075 : Cond.code ({ cls := "WinProofsModel", name := "unact", desc := "()I" } : MethodName) prog_13_method_19_code (1 : Nat) (Option.some ClassFile.FieldType.int) ∈ lw_tbl := List.mem_append_right _ (List.mem_of_getElem? (i := 1075) (by decide +kernel))
theorem w_1079 : Cond.code ({ cls := "WinProofsModel", name := "cover", desc := "()I" } : MethodName) prog_13_method_20_code (1 : Nat) (Option.some ClassFile.FieldType.int) ∈ lw_tbl := List.mem_append_right _ (List.mem_of_getElem? (i := 1079) (by decide +kernel))
theorem w_1083 : Cond.code ({ cls := "WinProofsModel", name := "part", desc := "(IIII)I" } : MethodName) prog_13_method_21_code (5 : Nat) (Option.some ClassFile.FieldType.int) ∈ lw_tbl := List.mem_append_right _ (List.mem_of_getElem? (i := 1083) (by decide +kernel))
theorem w_1087 : Cond.code ({ cls := "WinProofsModel", name := "bare", desc := "()I" } : MethodName) prog_13_method_22_code (2 : Nat) (Option.some ClassFile.FieldType.int) ∈ lw_tbl := List.mem_append_right _ (List.mem_of_getElem? (i := 1087) (by decide +kernel))
theorem w_1091 : Cond.code ({ cls := "WinProofsModel", name := "leads", desc := "(III)I" } : MethodName) prog_13_method_27_code (4 : Nat) (Option.some ClassFile.FieldType.int) ∈ lw_tbl := List.mem_append_right _ (List.mem_of_getElem? (i := 1091) (by decide +kernel))
theorem w_1092 : Cond.methodLink "WinProofsModel" (146 : Nat) ({ cls := "WinProofsModel", name := "open", desc := "(I)V" } : MethodName) ∈ lw_tbl := List.mem_append_right _ (List.mem_of_getElem? (i := 1092) (by decide +kernel))
theorem w_1094 : Cond.instanceMethod ({ cls := "WinProofsModel", name := "open", desc := "(I)V" } : MethodName) ∈ lw_tbl := List.mem_append_right _ (List.mem_of_getElem? (i := 1094) (by decide +kernel))
theorem w_1095 : Cond.code ({ cls := "WinProofsModel", name := "open", desc := "(I)V" } : MethodName) prog_13_method_23_code (4 : Nat) (Option.none : Option ClassFile.FieldType) ∈ lw_tbl := List.mem_append_right _ (List.mem_of_getElem? (i := 1095) (by decide +kernel))
theorem w_1096 : Cond.methodLink "WinProofsModel" (150 : Nat) ({ cls := "WinProofsModel", name := "hold", desc := "(I)Z" } : MethodName) ∈ lw_tbl := List.mem_append_right _ (List.mem_of_getElem? (i := 1096) (by decide +kernel))
theorem w_1098 : Cond.instanceMethod ({ cls := "WinProofsModel", name := "hold", desc := "(I)Z" } : MethodName) ∈ lw_tbl := List.mem_append_right _ (List.mem_of_getElem? (i := 1098) (by decide +kernel))
theorem w_1099 : Cond.code ({ cls := "WinProofsModel", name := "hold", desc := "(I)Z" } : MethodName) prog_13_method_25_code (7 : Nat) (Option.some ClassFile.FieldType.boolean) ∈ lw_tbl := List.mem_append_right _ (List.mem_of_getElem? (i := 1099) (by decide +kernel))
theorem w_1100 : Cond.methodLink "WinProofsModel" (153 : Nat) ({ cls := "WinProofsModel", name := "goes", desc := "(I)I" } : MethodName) ∈ lw_tbl := List.mem_append_right _ (List.mem_of_getElem? (i := 1100) (by decide +kernel))
theorem w_1102 : Cond.instanceMethod ({ cls := "WinProofsModel", name := "goes", desc := "(I)I" } : MethodName) ∈ lw_tbl := List.mem_append_right _ (List.mem_of_getElem? (i := 1102) (by decide +kernel))
theorem w_1103 : Cond.code ({ cls := "WinProofsModel", name := "goes", desc := "(I)I" } : MethodName) prog_13_method_26_code (6 : Nat) (Option.some ClassFile.FieldType.int) ∈ lw_tbl := List.mem_append_right _ (List.mem_of_getElem? (i := 1103) (by decide +kernel))
theorem w_1104 : Cond.methodLink "WinProofsModel" (143 : Nat) ({ cls := "WinProofsModel", name := "closeThen", desc := "()I" } : MethodName) ∈ lw_tbl := List.mem_append_right _ (List.mem_of_getElem? (i := 1104) (by decide +kernel))
theorem w_1106 : Cond.instanceMethod ({ cls := "WinProofsModel", name := "closeThen", desc := "()I" } : MethodName) ∈ lw_tbl := List.mem_append_right _ (List.mem_of_getElem? (i := 1106) (by decide +kernel))
theorem w_1107 : Cond.code ({ cls := "WinProofsModel", name := "closeThen", desc := "()I" } : MethodName) prog_13_method_24_code (3 : Nat) (Option.some ClassFile.FieldType.int) ∈ lw_tbl := List.mem_append_right _ (List.mem_of_getElem? (i := 1107) (by decide +kernel))
theorem w_1111 : Cond.code ({ cls := "WinProofsModel", name := "count", desc := "(I)I" } : MethodName) prog_13_method_39_code (5 : Nat) (Option.some ClassFile.FieldType.int) ∈ lw_tbl := List.mem_append_right _ (List.mem_of_getElem? (i := 1111) (by decide +kernel))
theorem w_1112 : Cond.methodLink "WinProofsModel" (191 : Nat) ({ cls := "WinProofsModel", name := "lay", desc := "()V" } : MethodName) ∈ lw_tbl := List.mem_append_right _ (List.mem_of_getElem? (i := 1112) (by decide +kernel))
theorem w_1114 : Cond.instanceMethod ({ cls := "WinProofsModel", name := "lay", desc := "()V" } : MethodName) ∈ lw_tbl := List.mem_append_right _ (List.mem_of_getElem? (i := 1114) (by decide +kernel))
theorem w_1115 : Cond.code ({ cls := "WinProofsModel", name := "lay", desc := "()V" } : MethodName) prog_13_method_28_code (5 : Nat) (Option.none : Option ClassFile.FieldType) ∈ lw_tbl := List.mem_append_right _ (List.mem_of_getElem? (i := 1115) (by decide +kernel))
theorem w_1116 : Cond.methodLink "WinProofsModel" (160 : Nat) ({ cls := "WinProofsModel", name := "forward", desc := "()V" } : MethodName) ∈ lw_tbl := List.mem_append_right _ (List.mem_of_getElem? (i := 1116) (by decide +kernel))
theorem w_1118 : Cond.instanceMethod ({ cls := "WinProofsModel", name := "forward", desc := "()V" } : MethodName) ∈ lw_tbl := List.mem_append_right _ (List.mem_of_getElem? (i := 1118) (by decide +kernel))
theorem w_1119 : Cond.code ({ cls := "WinProofsModel", name := "forward", desc := "()V" } : MethodName) prog_13_method_29_code (6 : Nat) (Option.none : Option ClassFile.FieldType) ∈ lw_tbl := List.mem_append_right _ (List.mem_of_getElem? (i := 1119) (by decide +kernel))
theorem w_1120 : Cond.methodLink "WinProofsModel" (163 : Nat) ({ cls := "WinProofsModel", name := "backward", desc := "()V" } : MethodName) ∈ lw_tbl := List.mem_append_right _ (List.mem_of_getElem? (i := 1120) (by decide +kernel))
theorem w_1122 : Cond.instanceMethod ({ cls := "WinProofsModel", name := "backward", desc := "()V" } : MethodName) ∈ lw_tbl := List.mem_append_right _ (List.mem_of_getElem? (i := 1122) (by decide +kernel))
theorem w_1123 : Cond.code ({ cls := "WinProofsModel", name := "backward", desc := "()V" } : MethodName) prog_13_method_31_code (5 : Nat) (Option.none : Option ClassFile.FieldType) ∈ lw_tbl := List.mem_append_right _ (List.mem_of_getElem? (i := 1123) (by decide +kernel))
theorem w_1124 : Cond.methodLink "WinProofsModel" (172 : Nat) ({ cls := "WinProofsModel", name := "aims", desc := "([I)I" } : MethodName) ∈ lw_tbl := List.mem_append_right _ (List.mem_of_getElem? (i := 1124) (by decide +kernel))
theorem w_1126 : Cond.instanceMethod ({ cls := "WinProofsModel", name := "aims", desc := "([I)I" } : MethodName) ∈ lw_tbl := List.mem_append_right _ (List.mem_of_getElem? (i := 1126) (by decide +kernel))
theorem w_1127 : Cond.code ({ cls := "WinProofsModel", name := "aims", desc := "([I)I" } : MethodName) prog_13_method_30_code (4 : Nat) (Option.some ClassFile.FieldType.int) ∈ lw_tbl := List.mem_append_right _ (List.mem_of_getElem? (i := 1127) (by decide +kernel))
theorem w_1128 : Cond.methodLink "WinProofsModel" (166 : Nat) ({ cls := "WinProofsModel", name := "surely", desc := "()V" } : MethodName) ∈ lw_tbl := List.mem_append_right _ (List.mem_of_getElem? (i := 1128) (by decide +kernel))
theorem w_1130 : Cond.instanceMethod ({ cls := "WinProofsModel", name := "surely", desc := "()V" } : MethodName) ∈ lw_tbl := List.mem_append_right _ (List.mem_of_getElem? (i := 1130) (by decide +kernel))
theorem w_1131 : Cond.code ({ cls := "WinProofsModel", name := "surely", desc := "()V" } : MethodName) prog_13_method_32_code (6 : Nat) (Option.none : Option ClassFile.FieldType) ∈ lw_tbl := List.mem_append_right _ (List.mem_of_getElem? (i := 1131) (by decide +kernel))
theorem w_1132 : Cond.methodLink "WinProofsModel" (169 : Nat) ({ cls := "WinProofsModel", name := "fairly", desc := "()V" } : MethodName) ∈ lw_tbl := List.mem_append_right _ (List.mem_of_getElem? (i := 1132) (by decide +kernel))
theorem w_1134 : Cond.instanceMethod ({ cls := "WinProofsModel", name := "fairly", desc := "()V" } : MethodName) ∈ lw_tbl := List.mem_append_right _ (List.mem_of_getElem? (i := 1134) (by decide +kernel))
theorem w_1135 : Cond.code ({ cls := "WinProofsModel", name := "fairly", desc := "()V" } : MethodName) prog_13_method_34_code (6 : Nat) (Option.none : Option ClassFile.FieldType) ∈ lw_tbl := List.mem_append_right _ (List.mem_of_getElem? (i := 1135) (by decide +kernel))
theorem w_1136 : Cond.methodLink "WinProofsModel" (176 : Nat) ({ cls := "WinProofsModel", name := "staysWon", desc := "(II)Z" } : MethodName) ∈ lw_tbl := List.mem_append_right _ (List.mem_of_getElem? (i := 1136) (by decide +kernel))
theorem w_1138 : Cond.instanceMethod ({ cls := "WinProofsModel", name := "staysWon", desc := "(II)Z" } : MethodName) ∈ lw_tbl := List.mem_append_right _ (List.mem_of_getElem? (i := 1138) (by decide +kernel))
theorem w_1139 : Cond.code ({ cls := "WinProofsModel", name := "staysWon", desc := "(II)Z" } : MethodName) prog_13_method_33_code (6 : Nat) (Option.some ClassFile.FieldType.boolean) ∈ lw_tbl := List.mem_append_right _ (List.mem_of_getElem? (i := 1139) (by decide +kernel))
theorem w_1140 : Cond.methodLink "WinProofsModel" (206 : Nat) ({ cls := "WinProofsModel", name := "partAll", desc := "()V" } : MethodName) ∈ lw_tbl := List.mem_append_right _ (List.mem_of_getElem? (i := 1140) (by decide +kernel))
theorem w_1142 : Cond.instanceMethod ({ cls := "WinProofsModel", name := "partAll", desc := "()V" } : MethodName) ∈ lw_tbl := List.mem_append_right _ (List.mem_of_getElem? (i := 1142) (by decide +kernel))
theorem w_1143 : Cond.code ({ cls := "WinProofsModel", name := "partAll", desc := "()V" } : MethodName) prog_13_method_38_code (6 : Nat) (Option.none : Option ClassFile.FieldType) ∈ lw_tbl := List.mem_append_right _ (List.mem_of_getElem? (i := 1143) (by decide +kernel))
theorem w_1144 : Cond.methodLink "WinProofsModel" (197 : Nat) ({ cls := "WinProofsModel", name := "signOf", desc := "(I)J" } : MethodName) ∈ lw_tbl := List.mem_append_right _ (List.mem_of_getElem? (i := 1144) (by decide +kernel))
theorem w_1146 : Cond.instanceMethod ({ cls := "WinProofsModel", name := "signOf", desc := "(I)J" } : MethodName) ∈ lw_tbl := List.mem_append_right _ (List.mem_of_getElem? (i := 1146) (by decide +kernel))
theorem w_1147 : Cond.code ({ cls := "WinProofsModel", name := "signOf", desc := "(I)J" } : MethodName) prog_13_method_37_code (11 : Nat) (Option.some ClassFile.FieldType.long) ∈ lw_tbl := List.mem_append_right _ (List.mem_of_getElem? (i := 1147) (by decide +kernel))
theorem w_1148 : Cond.constantLong "WinProofsModel" (183 : Nat) (3 : Int64) ∈ lw_tbl := List.mem_append_right _ (List.mem_of_getElem? (i := 1148) (by decide +kernel))
theorem w_1149 : Cond.constantLong "WinProofsModel" (185 : Nat) (1099511628211 : Int64) ∈ lw_tbl := List.mem_append_right _ (List.mem_of_getElem? (i := 1149) (by decide +kernel))
theorem w_1150 : Cond.constantLong "WinProofsModel" (187 : Nat) (31 : Int64) ∈ lw_tbl := List.mem_append_right _ (List.mem_of_getElem? (i := 1150) (by decide +kernel))
theorem w_1151 : Cond.constantLong "WinProofsModel" (189 : Nat) (1000003 : Int64) ∈ lw_tbl := List.mem_append_right _ (List.mem_of_getElem? (i := 1151) (by decide +kernel))
theorem w_1152 : Cond.constantLong "WinProofsModel" (201 : Nat) (8191 : Int64) ∈ lw_tbl := List.mem_append_right _ (List.mem_of_getElem? (i := 1152) (by decide +kernel))
theorem w_1153 : Cond.methodLink "WinProofsModel" (203 : Nat) ({ cls := "WinProofsModel", name := "areAlike", desc := "(II)Z" } : MethodName) ∈ lw_tbl := List.mem_append_right _ (List.mem_of_getElem? (i := 1153) (by decide +kernel))
theorem w_1155 : Cond.instanceMethod ({ cls := "WinProofsModel", name := "areAlike", desc := "(II)Z" } : MethodName) ∈ lw_tbl := List.mem_append_right _ (List.mem_of_getElem? (i := 1155) (by decide +kernel))
theorem w_1156 : Cond.code ({ cls := "WinProofsModel", name := "areAlike", desc := "(II)Z" } : MethodName) prog_13_method_36_code (5 : Nat) (Option.some ClassFile.FieldType.boolean) ∈ lw_tbl := List.mem_append_right _ (List.mem_of_getElem? (i := 1156) (by decide +kernel))
theorem w_1157 : Cond.methodLink "WinProofsModel" (180 : Nat) ({ cls := "WinProofsModel", name := "isOneWay", desc := "(III)Z" } : MethodName) ∈ lw_tbl := List.mem_append_right _ (List.mem_of_getElem? (i := 1157) (by decide +kernel))
theorem w_1159 : Cond.instanceMethod ({ cls := "WinProofsModel", name := "isOneWay", desc := "(III)Z" } : MethodName) ∈ lw_tbl := List.mem_append_right _ (List.mem_of_getElem? (i := 1159) (by decide +kernel))
theorem w_1160 : Cond.code ({ cls := "WinProofsModel", name := "isOneWay", desc := "(III)Z" } : MethodName) prog_13_method_35_code (10 : Nat) (Option.some ClassFile.FieldType.boolean) ∈ lw_tbl := List.mem_append_right _ (List.mem_of_getElem? (i := 1160) (by decide +kernel))
theorem w_1164 : Cond.code ({ cls := "WinProofsModel", name := "of", desc := "(II)I" } : MethodName) prog_13_method_40_code (4 : Nat) (Option.some ClassFile.FieldType.int) ∈ lw_tbl := List.mem_append_right _ (List.mem_of_getElem? (i := 1164) (by decide +kernel))
theorem w_1168 : Cond.code ({ cls := "WinProofsModel", name := "best", desc := "(II)I" } : MethodName) prog_13_method_41_code (12 : Nat) (Option.some ClassFile.FieldType.int) ∈ lw_tbl := List.mem_append_right _ (List.mem_of_getElem? (i := 1168) (by decide +kernel))
theorem w_1172 : Cond.code ({ cls := "WinProofsModel", name := "play", desc := "(II)I" } : MethodName) prog_13_method_42_code (6 : Nat) (Option.some ClassFile.FieldType.int) ∈ lw_tbl := List.mem_append_right _ (List.mem_of_getElem? (i := 1172) (by decide +kernel))
theorem w_1176 : Cond.code ({ cls := "WinProofsModel", name := "plays", desc := "()J" } : MethodName) prog_13_method_43_code (6 : Nat) (Option.some ClassFile.FieldType.long) ∈ lw_tbl := List.mem_append_right _ (List.mem_of_getElem? (i := 1176) (by decide +kernel))
theorem w_1180 : Cond.code ({ cls := "WinProofsModel", name := "needed", desc := "()I" } : MethodName) prog_13_method_46_code (3 : Nat) (Option.some ClassFile.FieldType.int) ∈ lw_tbl := List.mem_append_right _ (List.mem_of_getElem? (i := 1180) (by decide +kernel))
theorem w_1181 : Cond.methodLink "WinProofsModel" (212 : Nat) ({ cls := "WinProofsModel", name := "isReachedWithout", desc := "(III)Z" } : MethodName) ∈ lw_tbl := List.mem_append_right _ (List.mem_of_getElem? (i := 1181) (by decide +kernel))
theorem w_1183 : Cond.instanceMethod ({ cls := "WinProofsModel", name := "isReachedWithout", desc := "(III)Z" } : MethodName) ∈ lw_tbl := List.mem_append_right _ (List.mem_of_getElem? (i := 1183) (by decide +kernel))
theorem w_1184 : Cond.code ({ cls := "WinProofsModel", name := "isReachedWithout", desc := "(III)Z" } : MethodName) prog_13_method_44_code (9 : Nat) (Option.some ClassFile.FieldType.boolean) ∈ lw_tbl := List.mem_append_right _ (List.mem_of_getElem? (i := 1184) (by decide +kernel))
theorem w_1185 : Cond.methodLink "WinProofsModel" (209 : Nat) ({ cls := "WinProofsModel", name := "isBarred", desc := "(III)Z" } : MethodName) ∈ lw_tbl := List.mem_append_right _ (List.mem_of_getElem? (i := 1185) (by decide +kernel))
theorem w_1187 : Cond.instanceMethod ({ cls := "WinProofsModel", name := "isBarred", desc := "(III)Z" } : MethodName) ∈ lw_tbl := List.mem_append_right _ (List.mem_of_getElem? (i := 1187) (by decide +kernel))
theorem w_1188 : Cond.code ({ cls := "WinProofsModel", name := "isBarred", desc := "(III)Z" } : MethodName) prog_13_method_45_code (4 : Nat) (Option.some ClassFile.FieldType.boolean) ∈ lw_tbl := List.mem_append_right _ (List.mem_of_getElem? (i := 1188) (by decide +kernel))
theorem w_1192 : Cond.code ({ cls := "WinProofsModel", name := "fact", desc := "(II)I" } : MethodName) prog_13_method_47_code (3 : Nat) (Option.some ClassFile.FieldType.int) ∈ lw_tbl := List.mem_append_right _ (List.mem_of_getElem? (i := 1192) (by decide +kernel))
theorem w_1196 : Cond.code ({ cls := "WinProofsModel", name := "values", desc := "(I)I" } : MethodName) prog_13_method_48_code (4 : Nat) (Option.some ClassFile.FieldType.int) ∈ lw_tbl := List.mem_append_right _ (List.mem_of_getElem? (i := 1196) (by decide +kernel))
theorem w_1200 : Cond.code ({ cls := "WinProofsModel", name := "flaw", desc := "(I)I" } : MethodName) prog_13_method_51_code (3 : Nat) (Option.some ClassFile.FieldType.int) ∈ lw_tbl := List.mem_append_right _ (List.mem_of_getElem? (i := 1200) (by decide +kernel))
theorem w_1201 : Cond.methodLink "WinProofsModel" (224 : Nat) ({ cls := "WinProofsModel", name := "findFlaw", desc := "()I" } : MethodName) ∈ lw_tbl := List.mem_append_right _ (List.mem_of_getElem? (i := 1201) (by decide +kernel))
theorem w_1203 : Cond.instanceMethod ({ cls := "WinProofsModel", name := "findFlaw", desc := "()I" } : MethodName) ∈ lw_tbl := List.mem_append_right _ (List.mem_of_getElem? (i := 1203) (by decide +kernel))
theorem w_1204 : Cond.code ({ cls := "WinProofsModel", name := "findFlaw", desc := "()I" } : MethodName) prog_13_method_50_code (4 : Nat) (Option.some ClassFile.FieldType.int) ∈ lw_tbl := List.mem_append_right _ (List.mem_of_getElem? (i := 1204) (by decide +kernel))
theorem w_1205 : Cond.methodLink "WinProofsModel" (221 : Nat) ({ cls := "WinProofsModel", name := "isCovered", desc := "(I)Z" } : MethodName) ∈ lw_tbl := List.mem_append_right _ (List.mem_of_getElem? (i := 1205) (by decide +kernel))
theorem w_1207 : Cond.instanceMethod ({ cls := "WinProofsModel", name := "isCovered", desc := "(I)Z" } : MethodName) ∈ lw_tbl := List.mem_append_right _ (List.mem_of_getElem? (i := 1207) (by decide +kernel))
theorem w_1208 : Cond.code ({ cls := "WinProofsModel", name := "isCovered", desc := "(I)Z" } : MethodName) prog_13_method_49_code (3 : Nat) (Option.some ClassFile.FieldType.boolean) ∈ lw_tbl := List.mem_append_right _ (List.mem_of_getElem? (i := 1208) (by decide +kernel))
theorem w_objcode : Cond.code objectInit ⟨#[0xb1]⟩ 1 none ∈ lw_tbl := List.mem_append_right _ (List.mem_of_getElem? (i := 23) (by decide +kernel))
theorem w_mmax : Cond.code Lib.Math.max.name Lib.Math.max.code 2 (some .int) ∈ lw_tbl := List.mem_append_right _ (List.mem_of_getElem? (i := 735) (by decide +kernel))
theorem w_mmin : Cond.code Lib.Math.min.name Lib.Math.min.code 2 (some .int) ∈ lw_tbl := List.mem_append_right _ (List.mem_of_getElem? (i := 722) (by decide +kernel))
theorem w_mmaxL : Cond.code Lib.MathLoose.max_long.x Lib.MathLoose.max_long.code 4 (some .long) ∈ lw_tbl := List.mem_append_right _ (List.mem_of_getElem? (i := 622) (by decide +kernel))
theorem ws_WP_countDead : Cond.selects "WinProofs" ({ cls := "WinProofs", name := "countDead", desc := "()I" } : MethodName) ({ cls := "WinProofs", name := "countDead", desc := "()I" } : MethodName) ∈ lw_tbl := List.mem_append_left _ (List.mem_of_getElem? (i := 13) (by decide +kernel))
theorem ws_WP_countNumbered : Cond.selects "WinProofs" ({ cls := "WinProofs", name := "countNumbered", desc := "([I)I" } : MethodName) ({ cls := "WinProofs", name := "countNumbered", desc := "([I)I" } : MethodName) ∈ lw_tbl := List.mem_append_left _ (List.mem_of_getElem? (i := 12) (by decide +kernel))
theorem ws_WP_findAim : Cond.selects "WinProofs" ({ cls := "WinProofs", name := "findAim", desc := "()V" } : MethodName) ({ cls := "WinProofs", name := "findAim", desc := "()V" } : MethodName) ∈ lw_tbl := List.mem_append_left _ (List.mem_of_getElem? (i := 7) (by decide +kernel))
theorem ws_WP_findKinds : Cond.selects "WinProofs" ({ cls := "WinProofs", name := "findKinds", desc := "()V" } : MethodName) ({ cls := "WinProofs", name := "findKinds", desc := "()V" } : MethodName) ∈ lw_tbl := List.mem_append_left _ (List.mem_of_getElem? (i := 14) (by decide +kernel))
theorem ws_WP_findNumbers : Cond.selects "WinProofs" ({ cls := "WinProofs", name := "findNumbers", desc := "(I)[I" } : MethodName) ({ cls := "WinProofs", name := "findNumbers", desc := "(I)[I" } : MethodName) ∈ lw_tbl := List.mem_append_left _ (List.mem_of_getElem? (i := 8) (by decide +kernel))
theorem ws_WP_findReached : Cond.selects "WinProofs" ({ cls := "WinProofs", name := "findReached", desc := "()V" } : MethodName) ({ cls := "WinProofs", name := "findReached", desc := "()V" } : MethodName) ∈ lw_tbl := List.mem_append_left _ (List.mem_of_getElem? (i := 5) (by decide +kernel))
theorem ws_WP_noteActChange : Cond.selects "WinProofs" ({ cls := "WinProofs", name := "noteActChange", desc := "(II)V" } : MethodName) ({ cls := "WinProofs", name := "noteActChange", desc := "(II)V" } : MethodName) ∈ lw_tbl := List.mem_append_left _ (List.mem_of_getElem? (i := 0) (by decide +kernel))
theorem ws_Co_findInside : Cond.selects "WinProofs$Cover" ({ cls := "WinProofs$Cover", name := "findInside", desc := "(LWinProofs$World;)V" } : MethodName) ({ cls := "WinProofs$Cover", name := "findInside", desc := "(LWinProofs$World;)V" } : MethodName) ∈ lw_tbl := List.mem_append_left _ (List.mem_of_getElem? (i := 30) (by decide +kernel))
theorem ws_Co_isInside : Cond.selects "WinProofs$Cover" ({ cls := "WinProofs$Cover", name := "isInside", desc := "(I)Z" } : MethodName) ({ cls := "WinProofs$Cover", name := "isInside", desc := "(I)Z" } : MethodName) ∈ lw_tbl := List.mem_append_left _ (List.mem_of_getElem? (i := 31) (by decide +kernel))
theorem ws_Co_leavesFrom : Cond.selects "WinProofs$Cover" ({ cls := "WinProofs$Cover", name := "leavesFrom", desc := "(LWinProofs$World;I)Z" } : MethodName) ({ cls := "WinProofs$Cover", name := "leavesFrom", desc := "(LWinProofs$World;I)Z" } : MethodName) ∈ lw_tbl := List.mem_append_left _ (List.mem_of_getElem? (i := 33) (by decide +kernel))
theorem ws_Co_tell : Cond.selects "WinProofs$Cover" ({ cls := "WinProofs$Cover", name := "tell", desc := "(III)V" } : MethodName) ({ cls := "WinProofs$Cover", name := "tell", desc := "(III)V" } : MethodName) ∈ lw_tbl := List.mem_append_left _ (List.mem_of_getElem? (i := 32) (by decide +kernel))
theorem ws_Ki_divide : Cond.selects "WinProofs$Kinds" ({ cls := "WinProofs$Kinds", name := "divide", desc := "(LWinProofs$World;III)V" } : MethodName) ({ cls := "WinProofs$Kinds", name := "divide", desc := "(LWinProofs$World;III)V" } : MethodName) ∈ lw_tbl := List.mem_append_left _ (List.mem_of_getElem? (i := 23) (by decide +kernel))
theorem ws_Ki_findLeast : Cond.selects "WinProofs$Kinds" ({ cls := "WinProofs$Kinds", name := "findLeast", desc := "(I)V" } : MethodName) ({ cls := "WinProofs$Kinds", name := "findLeast", desc := "(I)V" } : MethodName) ∈ lw_tbl := List.mem_append_left _ (List.mem_of_getElem? (i := 26) (by decide +kernel))
theorem ws_Ki_kindsBehind : Cond.selects "WinProofs$Kinds" ({ cls := "WinProofs$Kinds", name := "kindsBehind", desc := "(LWinProofs$Act;I)J" } : MethodName) ({ cls := "WinProofs$Kinds", name := "kindsBehind", desc := "(LWinProofs$Act;I)J" } : MethodName) ∈ lw_tbl := List.mem_append_left _ (List.mem_of_getElem? (i := 20) (by decide +kernel))
theorem ws_Ki_makeRoom : Cond.selects "WinProofs$Kinds" ({ cls := "WinProofs$Kinds", name := "makeRoom", desc := "(I)V" } : MethodName) ({ cls := "WinProofs$Kinds", name := "makeRoom", desc := "(I)V" } : MethodName) ∈ lw_tbl := List.mem_append_left _ (List.mem_of_getElem? (i := 15) (by decide +kernel))
theorem ws_Ki_markThoseBefore : Cond.selects "WinProofs$Kinds" ({ cls := "WinProofs$Kinds", name := "markThoseBefore", desc := "(LWinProofs$World;I)V" } : MethodName) ({ cls := "WinProofs$Kinds", name := "markThoseBefore", desc := "(LWinProofs$World;I)V" } : MethodName) ∈ lw_tbl := List.mem_append_left _ (List.mem_of_getElem? (i := 24) (by decide +kernel))
theorem ws_Ki_moveToChanged : Cond.selects "WinProofs$Kinds" ({ cls := "WinProofs$Kinds", name := "moveToChanged", desc := "(II)V" } : MethodName) ({ cls := "WinProofs$Kinds", name := "moveToChanged", desc := "(II)V" } : MethodName) ∈ lw_tbl := List.mem_append_left _ (List.mem_of_getElem? (i := 25) (by decide +kernel))
theorem ws_Ki_open : Cond.selects "WinProofs$Kinds" ({ cls := "WinProofs$Kinds", name := "open", desc := "(II)I" } : MethodName) ({ cls := "WinProofs$Kinds", name := "open", desc := "(II)I" } : MethodName) ∈ lw_tbl := List.mem_append_left _ (List.mem_of_getElem? (i := 17) (by decide +kernel))
theorem ws_Ki_placeThose : Cond.selects "WinProofs$Kinds" ({ cls := "WinProofs$Kinds", name := "placeThose", desc := "(LWinProofs$World;[ZZI)I" } : MethodName) ({ cls := "WinProofs$Kinds", name := "placeThose", desc := "(LWinProofs$World;[ZZI)I" } : MethodName) ∈ lw_tbl := List.mem_append_left _ (List.mem_of_getElem? (i := 16) (by decide +kernel))
theorem ws_Ki_regroup : Cond.selects "WinProofs$Kinds" ({ cls := "WinProofs$Kinds", name := "regroup", desc := "(LWinProofs$Act;II)I" } : MethodName) ({ cls := "WinProofs$Kinds", name := "regroup", desc := "(LWinProofs$Act;II)I" } : MethodName) ∈ lw_tbl := List.mem_append_left _ (List.mem_of_getElem? (i := 19) (by decide +kernel))
theorem ws_Ki_settle : Cond.selects "WinProofs$Kinds" ({ cls := "WinProofs$Kinds", name := "settle", desc := "(LWinProofs$World;I)V" } : MethodName) ({ cls := "WinProofs$Kinds", name := "settle", desc := "(LWinProofs$World;I)V" } : MethodName) ∈ lw_tbl := List.mem_append_left _ (List.mem_of_getElem? (i := 18) (by decide +kernel))
theorem ws_Ki_slotOf : Cond.selects "WinProofs$Kinds" ({ cls := "WinProofs$Kinds", name := "slotOf", desc := "(JI)I" } : MethodName) ({ cls := "WinProofs$Kinds", name := "slotOf", desc := "(JI)I" } : MethodName) ∈ lw_tbl := List.mem_append_left _ (List.mem_of_getElem? (i := 21) (by decide +kernel))
theorem ws_Ki_sortByGroup : Cond.selects "WinProofs$Kinds" ({ cls := "WinProofs$Kinds", name := "sortByGroup", desc := "(III)V" } : MethodName) ({ cls := "WinProofs$Kinds", name := "sortByGroup", desc := "(III)V" } : MethodName) ∈ lw_tbl := List.mem_append_left _ (List.mem_of_getElem? (i := 22) (by decide +kernel))
theorem ws_Re_follow : Cond.selects "WinProofs$Reach" ({ cls := "WinProofs$Reach", name := "follow", desc := "(LWinProofs$Act;I)V" } : MethodName) ({ cls := "WinProofs$Reach", name := "follow", desc := "(LWinProofs$Act;I)V" } : MethodName) ∈ lw_tbl := List.mem_append_left _ (List.mem_of_getElem? (i := 6) (by decide +kernel))
theorem ws_Se_begin : Cond.selects "WinProofs$Search" ({ cls := "WinProofs$Search", name := "begin", desc := "(I)V" } : MethodName) ({ cls := "WinProofs$Search", name := "begin", desc := "(I)V" } : MethodName) ∈ lw_tbl := List.mem_append_left _ (List.mem_of_getElem? (i := 28) (by decide +kernel))
theorem ws_Se_visit : Cond.selects "WinProofs$Search" ({ cls := "WinProofs$Search", name := "visit", desc := "(LWinProofs$World;[ZI)Z" } : MethodName) ({ cls := "WinProofs$Search", name := "visit", desc := "(LWinProofs$World;[ZI)Z" } : MethodName) ∈ lw_tbl := List.mem_append_left _ (List.mem_of_getElem? (i := 29) (by decide +kernel))
theorem ws_Wi_findLevels : Cond.selects "WinProofs$Wins" ({ cls := "WinProofs$Wins", name := "findLevels", desc := "(LWinProofs$World;)V" } : MethodName) ({ cls := "WinProofs$Wins", name := "findLevels", desc := "(LWinProofs$World;)V" } : MethodName) ∈ lw_tbl := List.mem_append_left _ (List.mem_of_getElem? (i := 11) (by decide +kernel))
theorem ws_Wi_gives : Cond.selects "WinProofs$Wins" ({ cls := "WinProofs$Wins", name := "gives", desc := "(LWinProofs$Act;[III)Z" } : MethodName) ({ cls := "WinProofs$Wins", name := "gives", desc := "(LWinProofs$Act;[III)Z" } : MethodName) ∈ lw_tbl := List.mem_append_left _ (List.mem_of_getElem? (i := 27) (by decide +kernel))
theorem ws_Wi_mayCome : Cond.selects "WinProofs$Wins" ({ cls := "WinProofs$Wins", name := "mayCome", desc := "(LWinProofs$World;III)Z" } : MethodName) ({ cls := "WinProofs$Wins", name := "mayCome", desc := "(LWinProofs$World;III)Z" } : MethodName) ∈ lw_tbl := List.mem_append_left _ (List.mem_of_getElem? (i := 10) (by decide +kernel))
theorem ws_Wi_spreadBack : Cond.selects "WinProofs$Wins" ({ cls := "WinProofs$Wins", name := "spreadBack", desc := "(LWinProofs$World;I[I)I" } : MethodName) ({ cls := "WinProofs$Wins", name := "spreadBack", desc := "(LWinProofs$World;I[I)I" } : MethodName) ∈ lw_tbl := List.mem_append_left _ (List.mem_of_getElem? (i := 9) (by decide +kernel))
theorem ws_Wo_fillPacked : Cond.selects "WinProofs$World" ({ cls := "WinProofs$World", name := "fillPacked", desc := "()V" } : MethodName) ({ cls := "WinProofs$World", name := "fillPacked", desc := "()V" } : MethodName) ∈ lw_tbl := List.mem_append_left _ (List.mem_of_getElem? (i := 2) (by decide +kernel))
theorem ws_Wo_linkBack : Cond.selects "WinProofs$World" ({ cls := "WinProofs$World", name := "linkBack", desc := "()V" } : MethodName) ({ cls := "WinProofs$World", name := "linkBack", desc := "()V" } : MethodName) ∈ lw_tbl := List.mem_append_left _ (List.mem_of_getElem? (i := 3) (by decide +kernel))
theorem ws_Wo_linkOutcome : Cond.selects "WinProofs$World" ({ cls := "WinProofs$World", name := "linkOutcome", desc := "(LWinProofs$Outcome;I)V" } : MethodName) ({ cls := "WinProofs$World", name := "linkOutcome", desc := "(LWinProofs$Outcome;I)V" } : MethodName) ∈ lw_tbl := List.mem_append_left _ (List.mem_of_getElem? (i := 4) (by decide +kernel))
theorem ws_Wo_newValue : Cond.selects "WinProofs$World" ({ cls := "WinProofs$World", name := "newValue", desc := "(LWinProofs$Clauses;II)I" } : MethodName) ({ cls := "WinProofs$World", name := "newValue", desc := "(LWinProofs$Clauses;II)I" } : MethodName) ∈ lw_tbl := List.mem_append_left _ (List.mem_of_getElem? (i := 1) (by decide +kernel))
theorem ws_Mo_aims : Cond.selects "WinProofsModel" ({ cls := "WinProofsModel", name := "aims", desc := "([I)I" } : MethodName) ({ cls := "WinProofsModel", name := "aims", desc := "([I)I" } : MethodName) ∈ lw_tbl := List.mem_append_left _ (List.mem_of_getElem? (i := 48) (by decide +kernel))
theorem ws_Mo_areAlike : Cond.selects "WinProofsModel" ({ cls := "WinProofsModel", name := "areAlike", desc := "(II)Z" } : MethodName) ({ cls := "WinProofsModel", name := "areAlike", desc := "(II)Z" } : MethodName) ∈ lw_tbl := List.mem_append_left _ (List.mem_of_getElem? (i := 54) (by decide +kernel))
theorem ws_Mo_backward : Cond.selects "WinProofsModel" ({ cls := "WinProofsModel", name := "backward", desc := "()V" } : MethodName) ({ cls := "WinProofsModel", name := "backward", desc := "()V" } : MethodName) ∈ lw_tbl := List.mem_append_left _ (List.mem_of_getElem? (i := 47) (by decide +kernel))
theorem ws_Mo_closeThen : Cond.selects "WinProofsModel" ({ cls := "WinProofsModel", name := "closeThen", desc := "()I" } : MethodName) ({ cls := "WinProofsModel", name := "closeThen", desc := "()I" } : MethodName) ∈ lw_tbl := List.mem_append_left _ (List.mem_of_getElem? (i := 44) (by decide +kernel))
theorem ws_Mo_fairly : Cond.selects "WinProofsModel" ({ cls := "WinProofsModel", name := "fairly", desc := "()V" } : MethodName) ({ cls := "WinProofsModel", name := "fairly", desc := "()V" } : MethodName) ∈ lw_tbl := List.mem_append_left _ (List.mem_of_getElem? (i := 50) (by decide +kernel))
theorem ws_Mo_findFlaw : Cond.selects "WinProofsModel" ({ cls := "WinProofsModel", name := "findFlaw", desc := "()I" } : MethodName) ({ cls := "WinProofsModel", name := "findFlaw", desc := "()I" } : MethodName) ∈ lw_tbl := List.mem_append_left _ (List.mem_of_getElem? (i := 58) (by decide +kernel))
theorem ws_Mo_forget : Cond.selects "WinProofsModel" ({ cls := "WinProofsModel", name := "forget", desc := "()V" } : MethodName) ({ cls := "WinProofsModel", name := "forget", desc := "()V" } : MethodName) ∈ lw_tbl := List.mem_append_left _ (List.mem_of_getElem? (i := 34) (by decide +kernel))
theorem ws_Mo_forward : Cond.selects "WinProofsModel" ({ cls := "WinProofsModel", name := "forward", desc := "()V" } : MethodName) ({ cls := "WinProofsModel", name := "forward", desc := "()V" } : MethodName) ∈ lw_tbl := List.mem_append_left _ (List.mem_of_getElem? (i := 46) (by decide +kernel))
theorem ws_Mo_goes : Cond.selects "WinProofsModel" ({ cls := "WinProofsModel", name := "goes", desc := "(I)I" } : MethodName) ({ cls := "WinProofsModel", name := "goes", desc := "(I)I" } : MethodName) ∈ lw_tbl := List.mem_append_left _ (List.mem_of_getElem? (i := 43) (by decide +kernel))
theorem ws_Mo_hold : Cond.selects "WinProofsModel" ({ cls := "WinProofsModel", name := "hold", desc := "(I)Z" } : MethodName) ({ cls := "WinProofsModel", name := "hold", desc := "(I)Z" } : MethodName) ∈ lw_tbl := List.mem_append_left _ (List.mem_of_getElem? (i := 42) (by decide +kernel))
theorem ws_Mo_isAct : Cond.selects "WinProofsModel" ({ cls := "WinProofsModel", name := "isAct", desc := "(I)Z" } : MethodName) ({ cls := "WinProofsModel", name := "isAct", desc := "(I)Z" } : MethodName) ∈ lw_tbl := List.mem_append_left _ (List.mem_of_getElem? (i := 37) (by decide +kernel))
theorem ws_Mo_isBarred : Cond.selects "WinProofsModel" ({ cls := "WinProofsModel", name := "isBarred", desc := "(III)Z" } : MethodName) ({ cls := "WinProofsModel", name := "isBarred", desc := "(III)Z" } : MethodName) ∈ lw_tbl := List.mem_append_left _ (List.mem_of_getElem? (i := 57) (by decide +kernel))
theorem ws_Mo_isCondition : Cond.selects "WinProofsModel" ({ cls := "WinProofsModel", name := "isCondition", desc := "(III)Z" } : MethodName) ({ cls := "WinProofsModel", name := "isCondition", desc := "(III)Z" } : MethodName) ∈ lw_tbl := List.mem_append_left _ (List.mem_of_getElem? (i := 38) (by decide +kernel))
theorem ws_Mo_isCovered : Cond.selects "WinProofsModel" ({ cls := "WinProofsModel", name := "isCovered", desc := "(I)Z" } : MethodName) ({ cls := "WinProofsModel", name := "isCovered", desc := "(I)Z" } : MethodName) ∈ lw_tbl := List.mem_append_left _ (List.mem_of_getElem? (i := 59) (by decide +kernel))
theorem ws_Mo_isOneWay : Cond.selects "WinProofsModel" ({ cls := "WinProofsModel", name := "isOneWay", desc := "(III)Z" } : MethodName) ({ cls := "WinProofsModel", name := "isOneWay", desc := "(III)Z" } : MethodName) ∈ lw_tbl := List.mem_append_left _ (List.mem_of_getElem? (i := 55) (by decide +kernel))
theorem ws_Mo_isReachedWithout : Cond.selects "WinProofsModel" ({ cls := "WinProofsModel", name := "isReachedWithout", desc := "(III)Z" } : MethodName) ({ cls := "WinProofsModel", name := "isReachedWithout", desc := "(III)Z" } : MethodName) ∈ lw_tbl := List.mem_append_left _ (List.mem_of_getElem? (i := 56) (by decide +kernel))
theorem ws_Mo_isState : Cond.selects "WinProofsModel" ({ cls := "WinProofsModel", name := "isState", desc := "(I)Z" } : MethodName) ({ cls := "WinProofsModel", name := "isState", desc := "(I)Z" } : MethodName) ∈ lw_tbl := List.mem_append_left _ (List.mem_of_getElem? (i := 36) (by decide +kernel))
theorem ws_Mo_isThing : Cond.selects "WinProofsModel" ({ cls := "WinProofsModel", name := "isThing", desc := "(I)Z" } : MethodName) ({ cls := "WinProofsModel", name := "isThing", desc := "(I)Z" } : MethodName) ∈ lw_tbl := List.mem_append_left _ (List.mem_of_getElem? (i := 39) (by decide +kernel))
theorem ws_Mo_lay : Cond.selects "WinProofsModel" ({ cls := "WinProofsModel", name := "lay", desc := "()V" } : MethodName) ({ cls := "WinProofsModel", name := "lay", desc := "()V" } : MethodName) ∈ lw_tbl := List.mem_append_left _ (List.mem_of_getElem? (i := 45) (by decide +kernel))
theorem ws_Mo_more : Cond.selects "WinProofsModel" ({ cls := "WinProofsModel", name := "more", desc := "(IIII)I" } : MethodName) ({ cls := "WinProofsModel", name := "more", desc := "(IIII)I" } : MethodName) ∈ lw_tbl := List.mem_append_left _ (List.mem_of_getElem? (i := 40) (by decide +kernel))
theorem ws_Mo_open : Cond.selects "WinProofsModel" ({ cls := "WinProofsModel", name := "open", desc := "(I)V" } : MethodName) ({ cls := "WinProofsModel", name := "open", desc := "(I)V" } : MethodName) ∈ lw_tbl := List.mem_append_left _ (List.mem_of_getElem? (i := 41) (by decide +kernel))
theorem ws_Mo_partAll : Cond.selects "WinProofsModel" ({ cls := "WinProofsModel", name := "partAll", desc := "()V" } : MethodName) ({ cls := "WinProofsModel", name := "partAll", desc := "()V" } : MethodName) ∈ lw_tbl := List.mem_append_left _ (List.mem_of_getElem? (i := 52) (by decide +kernel))
theorem ws_Mo_signOf : Cond.selects "WinProofsModel" ({ cls := "WinProofsModel", name := "signOf", desc := "(I)J" } : MethodName) ({ cls := "WinProofsModel", name := "signOf", desc := "(I)J" } : MethodName) ∈ lw_tbl := List.mem_append_left _ (List.mem_of_getElem? (i := 53) (by decide +kernel))
theorem ws_Mo_states : Cond.selects "WinProofsModel" ({ cls := "WinProofsModel", name := "states", desc := "()I" } : MethodName) ({ cls := "WinProofsModel", name := "states", desc := "()I" } : MethodName) ∈ lw_tbl := List.mem_append_left _ (List.mem_of_getElem? (i := 35) (by decide +kernel))
theorem ws_Mo_staysWon : Cond.selects "WinProofsModel" ({ cls := "WinProofsModel", name := "staysWon", desc := "(II)Z" } : MethodName) ({ cls := "WinProofsModel", name := "staysWon", desc := "(II)Z" } : MethodName) ∈ lw_tbl := List.mem_append_left _ (List.mem_of_getElem? (i := 51) (by decide +kernel))
theorem ws_Mo_surely : Cond.selects "WinProofsModel" ({ cls := "WinProofsModel", name := "surely", desc := "()V" } : MethodName) ({ cls := "WinProofsModel", name := "surely", desc := "()V" } : MethodName) ∈ lw_tbl := List.mem_append_left _ (List.mem_of_getElem? (i := 49) (by decide +kernel))
theorem ck_WP : cok 0 "WinProofs" TC_WP 11 tC_WP := ⟨rfl, by decide +kernel, by decide +kernel, by decide +kernel, rfl, by decide +kernel, by decide⟩
theorem dv_WP : ∀ k, k < 11 → defaultValue (tC_WP k) = if kd (tC_WP k) = 0 then .int 0 else if kd (tC_WP k) = 1 then .long 0 else .null := by decide +kernel
theorem ck_Wo : cok 1 "WinProofs$World" TC_Wo 10 tC_Wo := ⟨rfl, by decide +kernel, by decide +kernel, by decide +kernel, rfl, by decide +kernel, by decide⟩
theorem dv_Wo : ∀ k, k < 10 → defaultValue (tC_Wo k) = if kd (tC_Wo k) = 0 then .int 0 else if kd (tC_Wo k) = 1 then .long 0 else .null := by decide +kernel
theorem ck_Ac : cok 2 "WinProofs$Act" TC_Ac 4 tC_Ac := ⟨rfl, by decide +kernel, by decide +kernel, by decide +kernel, rfl, by decide +kernel, by decide⟩
theorem dv_Ac : ∀ k, k < 4 → defaultValue (tC_Ac k) = if kd (tC_Ac k) = 0 then .int 0 else if kd (tC_Ac k) = 1 then .long 0 else .null := by decide +kernel
theorem ck_Ou : cok 3 "WinProofs$Outcome" TC_Ou 3 tC_Ou := ⟨rfl, by decide +kernel, by decide +kernel, by decide +kernel, rfl, by decide +kernel, by decide⟩
theorem dv_Ou : ∀ k, k < 3 → defaultValue (tC_Ou k) = if kd (tC_Ou k) = 0 then .int 0 else if kd (tC_Ou k) = 1 then .long 0 else .null := by decide +kernel
theorem ck_Cl : cok 4 "WinProofs$Clauses" TC_Cl 4 tC_Cl := ⟨rfl, by decide +kernel, by decide +kernel, by decide +kernel, rfl, by decide +kernel, by decide⟩
theorem dv_Cl : ∀ k, k < 4 → defaultValue (tC_Cl k) = if kd (tC_Cl k) = 0 then .int 0 else if kd (tC_Cl k) = 1 then .long 0 else .null := by decide +kernel
theorem ck_Co : cok 5 "WinProofs$Cover" TC_Co 8 tC_Co := ⟨rfl, by decide +kernel, by decide +kernel, by decide +kernel, rfl, by decide +kernel, by decide⟩
theorem dv_Co : ∀ k, k < 8 → defaultValue (tC_Co k) = if kd (tC_Co k) = 0 then .int 0 else if kd (tC_Co k) = 1 then .long 0 else .null := by decide +kernel
theorem ck_Ch : cok 6 "WinProofs$Changes" TC_Ch 4 tC_Ch := ⟨rfl, by decide +kernel, by decide +kernel, by decide +kernel, rfl, by decide +kernel, by decide⟩
theorem dv_Ch : ∀ k, k < 4 → defaultValue (tC_Ch k) = if kd (tC_Ch k) = 0 then .int 0 else if kd (tC_Ch k) = 1 then .long 0 else .null := by decide +kernel
theorem ck_Re : cok 7 "WinProofs$Reach" TC_Re 5 tC_Re := ⟨rfl, by decide +kernel, by decide +kernel, by decide +kernel, rfl, by decide +kernel, by decide⟩
theorem dv_Re : ∀ k, k < 5 → defaultValue (tC_Re k) = if kd (tC_Re k) = 0 then .int 0 else if kd (tC_Re k) = 1 then .long 0 else .null := by decide +kernel
theorem ck_Wi : cok 8 "WinProofs$Wins" TC_Wi 9 tC_Wi := ⟨rfl, by decide +kernel, by decide +kernel, by decide +kernel, rfl, by decide +kernel, by decide⟩
theorem dv_Wi : ∀ k, k < 9 → defaultValue (tC_Wi k) = if kd (tC_Wi k) = 0 then .int 0 else if kd (tC_Wi k) = 1 then .long 0 else .null := by decide +kernel
theorem ck_Ki : cok 9 "WinProofs$Kinds" TC_Ki 18 tC_Ki := ⟨rfl, by decide +kernel, by decide +kernel, by decide +kernel, rfl, by decide +kernel, by decide⟩
theorem dv_Ki : ∀ k, k < 18 → defaultValue (tC_Ki k) = if kd (tC_Ki k) = 0 then .int 0 else if kd (tC_Ki k) = 1 then .long 0 else .null := by decide +kernel
theorem ck_Se : cok 10 "WinProofs$Search" TC_Se 5 tC_Se := ⟨rfl, by decide +kernel, by decide +kernel, by decide +kernel, rfl, by decide +kernel, by decide⟩
theorem dv_Se : ∀ k, k < 5 → defaultValue (tC_Se k) = if kd (tC_Se k) = 0 then .int 0 else if kd (tC_Se k) = 1 then .long 0 else .null := by decide +kernel
theorem ck_Mo : cok 11 "WinProofsModel" TC_Mo 37 tC_Mo := ⟨rfl, by decide +kernel, by decide +kernel, by decide +kernel, rfl, by decide +kernel, by decide⟩
theorem dv_Mo : ∀ k, k < 37 → defaultValue (tC_Mo k) = if kd (tC_Mo k) = 0 then .int 0 else if kd (tC_Mo k) = 1 then .long 0 else .null := by decide +kernel
theorem yk_WP_init : yok r_WP_init 0 := ⟨w_20, w_1, by decide +kernel, by decide +kernel, by decide +kernel⟩
theorem yk_Wo_init : yok r_Wo_init 0 := ⟨w_28, w_2, by decide +kernel, by decide +kernel, by decide +kernel⟩
theorem yk_Ac_init : yok r_Ac_init 0 := ⟨w_35, w_3, by decide +kernel, by decide +kernel, by decide +kernel⟩
theorem yk_Cl_init : yok r_Cl_init 0 := ⟨w_41, w_4, by decide +kernel, by decide +kernel, by decide +kernel⟩
theorem yk_Ou_init : yok r_Ou_init 0 := ⟨w_69, w_5, by decide +kernel, by decide +kernel, by decide +kernel⟩
theorem yk_Co_init : yok r_Co_init 0 := ⟨w_189, w_6, by decide +kernel, by decide +kernel, by decide +kernel⟩
theorem yk_Ch_init : yok r_Ch_init 0 := ⟨w_231, w_7, by decide +kernel, by decide +kernel, by decide +kernel⟩
theorem yk_Re_init : yok r_Re_init 0 := ⟨w_254, w_8, by decide +kernel, by decide +kernel, by decide +kernel⟩
theorem yk_Wi_init : yok r_Wi_init 0 := ⟨w_281, w_9, by decide +kernel, by decide +kernel, by decide +kernel⟩
theorem yk_Ki_init : yok r_Ki_init 0 := ⟨w_319, w_10, by decide +kernel, by decide +kernel, by decide +kernel⟩
theorem yk_Se_init : yok r_Se_init 0 := ⟨w_384, w_11, by decide +kernel, by decide +kernel, by decide +kernel⟩
theorem yk_WP_clear : yok r_WP_clear 0 := ⟨w_439, w_1, by decide +kernel, by decide +kernel, by decide +kernel⟩
theorem yk_Wo_forget : yok r_Wo_forget 0 := ⟨w_443, w_2, by decide +kernel, by decide +kernel, by decide +kernel⟩
theorem yk_Ch_inWorld : yok r_Ch_inWorld 0 := ⟨w_447, w_7, by decide +kernel, by decide +kernel, by decide +kernel⟩
theorem yk_WP_thing : yok r_WP_thing 1 := ⟨w_451, w_1, by decide +kernel, by decide +kernel, by decide +kernel⟩
theorem yk_Wo_addThing : yok r_Wo_addThing 1 := ⟨w_455, w_2, by decide +kernel, by decide +kernel, by decide +kernel⟩
theorem yk_WP_start : yok r_WP_start 1 := ⟨w_459, w_1, by decide +kernel, by decide +kernel, by decide +kernel⟩
theorem yk_Wo_isState : yok r_Wo_isState 1 := ⟨w_463, w_2, by decide +kernel, by decide +kernel, by decide +kernel⟩
theorem yk_Ch_inStart : yok r_Ch_inStart 0 := ⟨w_467, w_7, by decide +kernel, by decide +kernel, by decide +kernel⟩
theorem yk_WP_act : yok r_WP_act 0 := ⟨w_471, w_1, by decide +kernel, by decide +kernel, by decide +kernel⟩
theorem yk_Wo_addAct : yok r_Wo_addAct 0 := ⟨w_475, w_2, by decide +kernel, by decide +kernel, by decide +kernel⟩
theorem yk_Ac_beginAnew : yok r_Ac_beginAnew 0 := ⟨w_479, w_3, by decide +kernel, by decide +kernel, by decide +kernel⟩
theorem yk_WP_outcome : yok r_WP_outcome 1 := ⟨w_483, w_1, by decide +kernel, by decide +kernel, by decide +kernel⟩
theorem yk_Wo_isAct : yok r_Wo_isAct 1 := ⟨w_487, w_2, by decide +kernel, by decide +kernel, by decide +kernel⟩
theorem yk_Ac_addOutcome : yok r_Ac_addOutcome 0 := ⟨w_491, w_3, by decide +kernel, by decide +kernel, by decide +kernel⟩
theorem yk_WP_noteActChange : yok r_WP_noteActChange 2 := ⟨w_495, w_1, by decide +kernel, by decide +kernel, by decide +kernel⟩
theorem yk_WP_when : yok r_WP_when 4 := ⟨w_499, w_1, by decide +kernel, by decide +kernel, by decide +kernel⟩
theorem yk_Wo_isCondition : yok r_Wo_isCondition 3 := ⟨w_503, w_2, by decide +kernel, by decide +kernel, by decide +kernel⟩
theorem yk_Wo_isThing : yok r_Wo_isThing 1 := ⟨w_507, w_2, by decide +kernel, by decide +kernel, by decide +kernel⟩
theorem yk_Cl_add : yok r_Cl_add 3 := ⟨w_511, w_4, by decide +kernel, by decide +kernel, by decide +kernel⟩
theorem yk_WP_effect : yok r_WP_effect 5 := ⟨w_515, w_1, by decide +kernel, by decide +kernel, by decide +kernel⟩
theorem yk_Wo_isOutcome : yok r_Wo_isOutcome 2 := ⟨w_519, w_2, by decide +kernel, by decide +kernel, by decide +kernel⟩
theorem yk_Wo_isEffect : yok r_Wo_isEffect 3 := ⟨w_524, w_2, by decide +kernel, by decide +kernel, by decide +kernel⟩
theorem yk_WP_aim : yok r_WP_aim 3 := ⟨w_528, w_1, by decide +kernel, by decide +kernel, by decide +kernel⟩
theorem yk_Ch_inAim : yok r_Ch_inAim 0 := ⟨w_532, w_7, by decide +kernel, by decide +kernel, by decide +kernel⟩
theorem yk_WP_aimless : yok r_WP_aimless 0 := ⟨w_536, w_1, by decide +kernel, by decide +kernel, by decide +kernel⟩
theorem yk_WP_unact : yok r_WP_unact 0 := ⟨w_540, w_1, by decide +kernel, by decide +kernel, by decide +kernel⟩
theorem yk_Wo_dropAct : yok r_Wo_dropAct 0 := ⟨w_544, w_2, by decide +kernel, by decide +kernel, by decide +kernel⟩
theorem yk_WP_leads : yok r_WP_leads 3 := ⟨w_548, w_1, by decide +kernel, by decide +kernel, by decide +kernel⟩
theorem yk_Wo_pack : yok r_Wo_pack 1 := ⟨w_552, w_2, by decide +kernel, by decide +kernel, by decide +kernel⟩
theorem yk_Cl_hold : yok r_Cl_hold 1 := ⟨w_556, w_4, by decide +kernel, by decide +kernel, by decide +kernel⟩
theorem yk_WP_valueIn : yok r_WP_valueIn 2 := ⟨w_559, w_1, by decide +kernel, by decide +kernel, by decide +kernel⟩
theorem yk_Wo_after : yok r_Wo_after 3 := ⟨w_563, w_2, by decide +kernel, by decide +kernel, by decide +kernel⟩
theorem yk_Cl_isLastOfItsThing : yok r_Cl_isLastOfItsThing 1 := ⟨w_567, w_4, by decide +kernel, by decide +kernel, by decide +kernel⟩
theorem yk_Wo_newValue : yok r_Wo_newValue 3 := ⟨w_571, w_2, by decide +kernel, by decide +kernel, by decide +kernel⟩
theorem yk_WP_count : yok r_WP_count 1 := ⟨w_576, w_1, by decide +kernel, by decide +kernel, by decide +kernel⟩
theorem yk_Wo_prepare : yok r_Wo_prepare 0 := ⟨w_580, w_2, by decide +kernel, by decide +kernel, by decide +kernel⟩
theorem yk_Wo_fillPacked : yok r_Wo_fillPacked 0 := ⟨w_584, w_2, by decide +kernel, by decide +kernel, by decide +kernel⟩
theorem yk_WP_rowFor : yok r_WP_rowFor 2 := ⟨w_587, w_1, by decide +kernel, by decide +kernel, by decide +kernel⟩
theorem yk_WP_roomFor : yok r_WP_roomFor 1 := ⟨w_590, w_1, by decide +kernel, by decide +kernel, by decide +kernel⟩
theorem yk_Ac_fillRows : yok r_Ac_fillRows 1 := ⟨w_595, w_3, by decide +kernel, by decide +kernel, by decide +kernel⟩
theorem yk_Wo_linkBack : yok r_Wo_linkBack 0 := ⟨w_602, w_2, by decide +kernel, by decide +kernel, by decide +kernel⟩
theorem yk_Ar_fill : yok r_Ar_fill 4 := ⟨w_605, w_13, by decide +kernel, by decide +kernel, by decide +kernel⟩
theorem yk_Ar_rangeCheck : yok r_Ar_rangeCheck 3 := ⟨w_608, w_13, by decide +kernel, by decide +kernel, by decide +kernel⟩
theorem yk_WP_edgeOf : yok r_WP_edgeOf 3 := ⟨w_611, w_1, by decide +kernel, by decide +kernel, by decide +kernel⟩
theorem yk_Wo_linkOutcome : yok r_Wo_linkOutcome 2 := ⟨w_615, w_2, by decide +kernel, by decide +kernel, by decide +kernel⟩
theorem yk_WP_findReached : yok r_WP_findReached 0 := ⟨w_619, w_1, by decide +kernel, by decide +kernel, by decide +kernel⟩
theorem yk_Re_spread : yok r_Re_spread 2 := ⟨w_626, w_8, by decide +kernel, by decide +kernel, by decide +kernel⟩
theorem yk_Ac_canBeDone : yok r_Ac_canBeDone 1 := ⟨w_633, w_3, by decide +kernel, by decide +kernel, by decide +kernel⟩
theorem yk_Re_follow : yok r_Re_follow 2 := ⟨w_637, w_8, by decide +kernel, by decide +kernel, by decide +kernel⟩
theorem yk_WP_findAim : yok r_WP_findAim 0 := ⟨w_641, w_1, by decide +kernel, by decide +kernel, by decide +kernel⟩
theorem yk_Wi_findAim : yok r_Wi_findAim 2 := ⟨w_645, w_9, by decide +kernel, by decide +kernel, by decide +kernel⟩
theorem yk_WP_marksFor : yok r_WP_marksFor 2 := ⟨w_648, w_1, by decide +kernel, by decide +kernel, by decide +kernel⟩
theorem yk_WP_findNumbers : yok r_WP_findNumbers 1 := ⟨w_653, w_1, by decide +kernel, by decide +kernel, by decide +kernel⟩
theorem yk_Wi_findNumbers : yok r_Wi_findNumbers 2 := ⟨w_657, w_9, by decide +kernel, by decide +kernel, by decide +kernel⟩
theorem yk_Wi_spreadBack : yok r_Wi_spreadBack 3 := ⟨w_662, w_9, by decide +kernel, by decide +kernel, by decide +kernel⟩
theorem yk_WP_stateOf : yok r_WP_stateOf 1 := ⟨w_666, w_1, by decide +kernel, by decide +kernel, by decide +kernel⟩
theorem yk_Wi_mayCome : yok r_Wi_mayCome 4 := ⟨w_670, w_9, by decide +kernel, by decide +kernel, by decide +kernel⟩
theorem yk_WP_actOf : yok r_WP_actOf 1 := ⟨w_673, w_1, by decide +kernel, by decide +kernel, by decide +kernel⟩
theorem yk_Wo_nextInto : yok r_Wo_nextInto 1 := ⟨w_677, w_2, by decide +kernel, by decide +kernel, by decide +kernel⟩
theorem yk_Wi_findLevels : yok r_Wi_findLevels 1 := ⟨w_681, w_9, by decide +kernel, by decide +kernel, by decide +kernel⟩
theorem yk_Wi_numbersOf : yok r_Wi_numbersOf 1 := ⟨w_685, w_9, by decide +kernel, by decide +kernel, by decide +kernel⟩
theorem yk_WP_countNumbered : yok r_WP_countNumbered 1 := ⟨w_689, w_1, by decide +kernel, by decide +kernel, by decide +kernel⟩
theorem yk_WP_countDead : yok r_WP_countDead 0 := ⟨w_693, w_1, by decide +kernel, by decide +kernel, by decide +kernel⟩
theorem yk_WP_findKinds : yok r_WP_findKinds 0 := ⟨w_697, w_1, by decide +kernel, by decide +kernel, by decide +kernel⟩
theorem yk_Ki_split : yok r_Ki_split 2 := ⟨w_701, w_10, by decide +kernel, by decide +kernel, by decide +kernel⟩
theorem yk_Ki_makeRoom : yok r_Ki_makeRoom 1 := ⟨w_705, w_10, by decide +kernel, by decide +kernel, by decide +kernel⟩
theorem yk_Ki_placeThose : yok r_Ki_placeThose 4 := ⟨w_710, w_10, by decide +kernel, by decide +kernel, by decide +kernel⟩
theorem yk_Ki_open : yok r_Ki_open 2 := ⟨w_714, w_10, by decide +kernel, by decide +kernel, by decide +kernel⟩
theorem yk_Ki_settle : yok r_Ki_settle 2 := ⟨w_719, w_10, by decide +kernel, by decide +kernel, by decide +kernel⟩
theorem yk_Ki_regroup : yok r_Ki_regroup 3 := ⟨w_726, w_10, by decide +kernel, by decide +kernel, by decide +kernel⟩
theorem yk_Ki_kindsBehind : yok r_Ki_kindsBehind 2 := ⟨w_731, w_10, by decide +kernel, by decide +kernel, by decide +kernel⟩
theorem yk_Ki_slotOf : yok r_Ki_slotOf 2 := ⟨w_739, w_10, by decide +kernel, by decide +kernel, by decide +kernel⟩
theorem yk_Ki_sortByGroup : yok r_Ki_sortByGroup 3 := ⟨w_744, w_10, by decide +kernel, by decide +kernel, by decide +kernel⟩
theorem yk_Ki_divide : yok r_Ki_divide 4 := ⟨w_748, w_10, by decide +kernel, by decide +kernel, by decide +kernel⟩
theorem yk_Ki_markThoseBefore : yok r_Ki_markThoseBefore 2 := ⟨w_755, w_10, by decide +kernel, by decide +kernel, by decide +kernel⟩
theorem yk_Ki_moveToChanged : yok r_Ki_moveToChanged 2 := ⟨w_761, w_10, by decide +kernel, by decide +kernel, by decide +kernel⟩
theorem yk_Ki_findLeast : yok r_Ki_findLeast 1 := ⟨w_767, w_10, by decide +kernel, by decide +kernel, by decide +kernel⟩
theorem yk_WP_of : yok r_WP_of 2 := ⟨w_771, w_1, by decide +kernel, by decide +kernel, by decide +kernel⟩
theorem yk_WP_best : yok r_WP_best 2 := ⟨w_775, w_1, by decide +kernel, by decide +kernel, by decide +kernel⟩
theorem yk_Wi_leastAct : yok r_Wi_leastAct 4 := ⟨w_779, w_9, by decide +kernel, by decide +kernel, by decide +kernel⟩
theorem yk_Wi_gives : yok r_Wi_gives 4 := ⟨w_784, w_9, by decide +kernel, by decide +kernel, by decide +kernel⟩
theorem yk_WP_play : yok r_WP_play 2 := ⟨w_788, w_1, by decide +kernel, by decide +kernel, by decide +kernel⟩
theorem yk_Wi_firstStep : yok r_Wi_firstStep 2 := ⟨w_792, w_9, by decide +kernel, by decide +kernel, by decide +kernel⟩
theorem yk_Wo_behind : yok r_Wo_behind 1 := ⟨w_797, w_2, by decide +kernel, by decide +kernel, by decide +kernel⟩
theorem yk_WP_outcomeOf : yok r_WP_outcomeOf 1 := ⟨w_801, w_1, by decide +kernel, by decide +kernel, by decide +kernel⟩
theorem yk_WP_plays : yok r_WP_plays 0 := ⟨w_808, w_1, by decide +kernel, by decide +kernel, by decide +kernel⟩
theorem yk_WP_needed : yok r_WP_needed 0 := ⟨w_812, w_1, by decide +kernel, by decide +kernel, by decide +kernel⟩
theorem yk_Se_wins : yok r_Se_wins 6 := ⟨w_816, w_11, by decide +kernel, by decide +kernel, by decide +kernel⟩
theorem yk_Se_begin : yok r_Se_begin 1 := ⟨w_820, w_11, by decide +kernel, by decide +kernel, by decide +kernel⟩
theorem yk_Se_visit : yok r_Se_visit 3 := ⟨w_826, w_11, by decide +kernel, by decide +kernel, by decide +kernel⟩
theorem yk_WP_fact : yok r_WP_fact 2 := ⟨w_832, w_1, by decide +kernel, by decide +kernel, by decide +kernel⟩
theorem yk_WP_values : yok r_WP_values 1 := ⟨w_837, w_1, by decide +kernel, by decide +kernel, by decide +kernel⟩
theorem yk_WP_cover : yok r_WP_cover 0 := ⟨w_842, w_1, by decide +kernel, by decide +kernel, by decide +kernel⟩
theorem yk_Co_addPart : yok r_Co_addPart 0 := ⟨w_846, w_6, by decide +kernel, by decide +kernel, by decide +kernel⟩
theorem yk_Ch_inCover : yok r_Ch_inCover 0 := ⟨w_850, w_7, by decide +kernel, by decide +kernel, by decide +kernel⟩
theorem yk_WP_part : yok r_WP_part 4 := ⟨w_854, w_1, by decide +kernel, by decide +kernel, by decide +kernel⟩
theorem yk_WP_bare : yok r_WP_bare 0 := ⟨w_858, w_1, by decide +kernel, by decide +kernel, by decide +kernel⟩
theorem yk_WP_flaw : yok r_WP_flaw 1 := ⟨w_862, w_1, by decide +kernel, by decide +kernel, by decide +kernel⟩
theorem yk_Co_judge : yok r_Co_judge 3 := ⟨w_866, w_6, by decide +kernel, by decide +kernel, by decide +kernel⟩
theorem yk_Co_findInside : yok r_Co_findInside 1 := ⟨w_870, w_6, by decide +kernel, by decide +kernel, by decide +kernel⟩
theorem yk_Co_isInside : yok r_Co_isInside 1 := ⟨w_875, w_6, by decide +kernel, by decide +kernel, by decide +kernel⟩
theorem yk_Co_tell : yok r_Co_tell 3 := ⟨w_880, w_6, by decide +kernel, by decide +kernel, by decide +kernel⟩
theorem yk_Co_leavesFrom : yok r_Co_leavesFrom 2 := ⟨w_884, w_6, by decide +kernel, by decide +kernel, by decide +kernel⟩
theorem yk_Mo_init : yok r_Mo_init 0 := ⟨w_889, w_12, by decide +kernel, by decide +kernel, by decide +kernel⟩
theorem yk_Mo_forget : yok r_Mo_forget 0 := ⟨w_896, w_12, by decide +kernel, by decide +kernel, by decide +kernel⟩
theorem yk_Mo_clear : yok r_Mo_clear 0 := ⟨w_1012, w_12, by decide +kernel, by decide +kernel, by decide +kernel⟩
theorem yk_Mo_thing : yok r_Mo_thing 1 := ⟨w_1016, w_12, by decide +kernel, by decide +kernel, by decide +kernel⟩
theorem yk_Mo_isIn : yok r_Mo_isIn 3 := ⟨w_1019, w_12, by decide +kernel, by decide +kernel, by decide +kernel⟩
theorem yk_Mo_states : yok r_Mo_states 0 := ⟨w_1023, w_12, by decide +kernel, by decide +kernel, by decide +kernel⟩
theorem yk_Mo_start : yok r_Mo_start 1 := ⟨w_1027, w_12, by decide +kernel, by decide +kernel, by decide +kernel⟩
theorem yk_Mo_isState : yok r_Mo_isState 1 := ⟨w_1031, w_12, by decide +kernel, by decide +kernel, by decide +kernel⟩
theorem yk_Mo_act : yok r_Mo_act 0 := ⟨w_1035, w_12, by decide +kernel, by decide +kernel, by decide +kernel⟩
theorem yk_Mo_outcome : yok r_Mo_outcome 1 := ⟨w_1039, w_12, by decide +kernel, by decide +kernel, by decide +kernel⟩
theorem yk_Mo_isAct : yok r_Mo_isAct 1 := ⟨w_1043, w_12, by decide +kernel, by decide +kernel, by decide +kernel⟩
theorem yk_Mo_when : yok r_Mo_when 4 := ⟨w_1047, w_12, by decide +kernel, by decide +kernel, by decide +kernel⟩
theorem yk_Mo_isCondition : yok r_Mo_isCondition 3 := ⟨w_1051, w_12, by decide +kernel, by decide +kernel, by decide +kernel⟩
theorem yk_Mo_isThing : yok r_Mo_isThing 1 := ⟨w_1055, w_12, by decide +kernel, by decide +kernel, by decide +kernel⟩
theorem yk_Mo_more : yok r_Mo_more 4 := ⟨w_1059, w_12, by decide +kernel, by decide +kernel, by decide +kernel⟩
theorem yk_Mo_aim : yok r_Mo_aim 3 := ⟨w_1063, w_12, by decide +kernel, by decide +kernel, by decide +kernel⟩
theorem yk_Mo_aimless : yok r_Mo_aimless 0 := ⟨w_1067, w_12, by decide +kernel, by decide +kernel, by decide +kernel⟩
theorem yk_Mo_effect : yok r_Mo_effect 5 := ⟨w_1071, w_12, by decide +kernel, by decide +kernel, by decide +kernel⟩
theorem yk_Mo_unact : yok r_Mo_unact 0 := ⟨w_1075, w_12, by decide +kernel, by decide +kernel, by decide +kernel⟩
theorem yk_Mo_cover : yok r_Mo_cover 0 := ⟨w_1079, w_12, by decide +kernel, by decide +kernel, by decide +kernel⟩
theorem yk_Mo_part : yok r_Mo_part 4 := ⟨w_1083, w_12, by decide +kernel, by decide +kernel, by decide +kernel⟩
theorem yk_Mo_bare : yok r_Mo_bare 0 := ⟨w_1087, w_12, by decide +kernel, by decide +kernel, by decide +kernel⟩
theorem yk_Mo_leads : yok r_Mo_leads 3 := ⟨w_1091, w_12, by decide +kernel, by decide +kernel, by decide +kernel⟩
theorem yk_Mo_open : yok r_Mo_open 1 := ⟨w_1095, w_12, by decide +kernel, by decide +kernel, by decide +kernel⟩
theorem yk_Mo_hold : yok r_Mo_hold 1 := ⟨w_1099, w_12, by decide +kernel, by decide +kernel, by decide +kernel⟩
theorem yk_Mo_goes : yok r_Mo_goes 1 := ⟨w_1103, w_12, by decide +kernel, by decide +kernel, by decide +kernel⟩
theorem yk_Mo_closeThen : yok r_Mo_closeThen 0 := ⟨w_1107, w_12, by decide +kernel, by decide +kernel, by decide +kernel⟩
theorem yk_Mo_count : yok r_Mo_count 1 := ⟨w_1111, w_12, by decide +kernel, by decide +kernel, by decide +kernel⟩
theorem yk_Mo_lay : yok r_Mo_lay 0 := ⟨w_1115, w_12, by decide +kernel, by decide +kernel, by decide +kernel⟩
theorem yk_Mo_forward : yok r_Mo_forward 0 := ⟨w_1119, w_12, by decide +kernel, by decide +kernel, by decide +kernel⟩
theorem yk_Mo_backward : yok r_Mo_backward 0 := ⟨w_1123, w_12, by decide +kernel, by decide +kernel, by decide +kernel⟩
theorem yk_Mo_aims : yok r_Mo_aims 1 := ⟨w_1127, w_12, by decide +kernel, by decide +kernel, by decide +kernel⟩
theorem yk_Mo_surely : yok r_Mo_surely 0 := ⟨w_1131, w_12, by decide +kernel, by decide +kernel, by decide +kernel⟩
theorem yk_Mo_fairly : yok r_Mo_fairly 0 := ⟨w_1135, w_12, by decide +kernel, by decide +kernel, by decide +kernel⟩
theorem yk_Mo_staysWon : yok r_Mo_staysWon 2 := ⟨w_1139, w_12, by decide +kernel, by decide +kernel, by decide +kernel⟩
theorem yk_Mo_partAll : yok r_Mo_partAll 0 := ⟨w_1143, w_12, by decide +kernel, by decide +kernel, by decide +kernel⟩
theorem yk_Mo_signOf : yok r_Mo_signOf 1 := ⟨w_1147, w_12, by decide +kernel, by decide +kernel, by decide +kernel⟩
theorem yk_Mo_areAlike : yok r_Mo_areAlike 2 := ⟨w_1156, w_12, by decide +kernel, by decide +kernel, by decide +kernel⟩
theorem yk_Mo_isOneWay : yok r_Mo_isOneWay 3 := ⟨w_1160, w_12, by decide +kernel, by decide +kernel, by decide +kernel⟩
theorem yk_Mo_of : yok r_Mo_of 2 := ⟨w_1164, w_12, by decide +kernel, by decide +kernel, by decide +kernel⟩
theorem yk_Mo_best : yok r_Mo_best 2 := ⟨w_1168, w_12, by decide +kernel, by decide +kernel, by decide +kernel⟩
theorem yk_Mo_play : yok r_Mo_play 2 := ⟨w_1172, w_12, by decide +kernel, by decide +kernel, by decide +kernel⟩
theorem yk_Mo_plays : yok r_Mo_plays 0 := ⟨w_1176, w_12, by decide +kernel, by decide +kernel, by decide +kernel⟩
theorem yk_Mo_needed : yok r_Mo_needed 0 := ⟨w_1180, w_12, by decide +kernel, by decide +kernel, by decide +kernel⟩
theorem yk_Mo_isReachedWithout : yok r_Mo_isReachedWithout 3 := ⟨w_1184, w_12, by decide +kernel, by decide +kernel, by decide +kernel⟩
theorem yk_Mo_isBarred : yok r_Mo_isBarred 3 := ⟨w_1188, w_12, by decide +kernel, by decide +kernel, by decide +kernel⟩
theorem yk_Mo_fact : yok r_Mo_fact 2 := ⟨w_1192, w_12, by decide +kernel, by decide +kernel, by decide +kernel⟩
theorem yk_Mo_values : yok r_Mo_values 1 := ⟨w_1196, w_12, by decide +kernel, by decide +kernel, by decide +kernel⟩
theorem yk_Mo_flaw : yok r_Mo_flaw 1 := ⟨w_1200, w_12, by decide +kernel, by decide +kernel, by decide +kernel⟩
theorem yk_Mo_findFlaw : yok r_Mo_findFlaw 0 := ⟨w_1204, w_12, by decide +kernel, by decide +kernel, by decide +kernel⟩
theorem yk_Mo_isCovered : yok r_Mo_isCovered 1 := ⟨w_1208, w_12, by decide +kernel, by decide +kernel, by decide +kernel⟩
