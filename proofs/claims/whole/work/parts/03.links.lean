theorem sm_1 {w : Cond} (h : w ∈ tables_1_1) : w ∈ lw_tbl := List.mem_append_right _ (List.mem_append_left _ h)
theorem sm_2 {w : Cond} (h : w ∈ tables_1_2) : w ∈ lw_tbl := List.mem_append_right _ (List.mem_append_right _ (List.mem_append_left _ h))
theorem sm_3 {w : Cond} (h : w ∈ tables_1_3) : w ∈ lw_tbl := List.mem_append_right _ (List.mem_append_right _ (List.mem_append_right _ (List.mem_append_left _ h)))
theorem sm_4 {w : Cond} (h : w ∈ tables_1_4) : w ∈ lw_tbl := List.mem_append_right _ (List.mem_append_right _ (List.mem_append_right _ (List.mem_append_right _ (List.mem_append_left _ h))))
theorem sm_5 {w : Cond} (h : w ∈ tables_1_5) : w ∈ lw_tbl := List.mem_append_right _ (List.mem_append_right _ (List.mem_append_right _ (List.mem_append_right _ (List.mem_append_right _ (List.mem_append_left _ h)))))
theorem sm_6 {w : Cond} (h : w ∈ tables_1_6) : w ∈ lw_tbl := List.mem_append_right _ (List.mem_append_right _ (List.mem_append_right _ (List.mem_append_right _ (List.mem_append_right _ (List.mem_append_right _ (h))))))
theorem gmk {w : Cond} (h : w ∈ lw_tbl) (g : goodWord w = true) : w ∈ gT := List.mem_filter.mpr ⟨h, g⟩
/-- what the tables say of a method -/
def MF (y : MethodName) (b : ByteArray) (maxL : Nat) (ret : Option FieldType) (n : Nat) : Prop := Cond.code y b maxL ret ∈ gT ∧ Cond.initialized y.cls ∈ gT ∧ y.cls ≠ "java/lang/invoke/MethodHandle" ∧ y.cls ≠ "java/lang/invoke/VarHandle" ∧ (parseMethodDescriptor y.desc).map (fun d => d.parameters.length) = some n
/-! what the tables say: methods, links; written by wip/whole/gen_code.py -/
def R_law : String := "WellLendsDepthLaw"
def zRJ0 : String := "java/lang/String"
def zRJ1 : String := "java/lang/StringLatin1"
def zRJ2 : String := "java/lang/StringUTF16"
def zRJ3 : String := "jdk/internal/util/Preconditions"
def zRJ9 : String := "java/lang/Math"
def zRJ10 : String := "java/lang/System"
def yX0_init : MethodName := ⟨zR0, "<init>", "()V"⟩
abbrev bX0_init : ByteArray := prog_2_method_1_code
theorem mf_X0_init : MF yX0_init bX0_init 1 (Option.none : Option Jvm.ClassFile.FieldType) 0 := ⟨gmk (sm_1 (List.mem_of_getElem? (i := 213) rfl)) rfl, gmk (sm_1 (List.mem_of_getElem? (i := 6) (by decide +kernel))) rfl, by decide +kernel, by decide +kernel, by decide +kernel⟩
theorem in_X0_init : Cond.instanceMethod yX0_init ∈ gT := gmk (sm_1 (List.mem_of_getElem? (i := 212) (by decide +kernel))) rfl
def yX0_forget : MethodName := ⟨zR0, "forget", "()V"⟩
abbrev bX0_forget : ByteArray := prog_2_method_2_code
theorem mf_X0_forget : MF yX0_forget bX0_forget 1 (Option.none : Option Jvm.ClassFile.FieldType) 0 := ⟨gmk (sm_3 (List.mem_of_getElem? (i := 234) rfl)) rfl, gmk (sm_1 (List.mem_of_getElem? (i := 6) (by decide +kernel))) rfl, by decide +kernel, by decide +kernel, by decide +kernel⟩
theorem in_X0_forget : Cond.instanceMethod yX0_forget ∈ gT := gmk (sm_3 (List.mem_of_getElem? (i := 232) (by decide +kernel))) rfl
theorem se_X0_forget : Cond.selects yX0_forget.cls yX0_forget yX0_forget ∈ gT := gmk (sm_3 (List.mem_of_getElem? (i := 233) (by decide +kernel))) rfl
def yX0_traced : MethodName := ⟨zR0, "traced", "(I)I"⟩
abbrev bX0_traced : ByteArray := prog_2_method_3_code
theorem mf_X0_traced : MF yX0_traced bX0_traced 2 (Option.some Jvm.ClassFile.FieldType.int) 1 := ⟨gmk (sm_4 (List.mem_of_getElem? (i := 18) rfl)) rfl, gmk (sm_1 (List.mem_of_getElem? (i := 6) (by decide +kernel))) rfl, by decide +kernel, by decide +kernel, by decide +kernel⟩
theorem in_X0_traced : Cond.instanceMethod yX0_traced ∈ gT := gmk (sm_4 (List.mem_of_getElem? (i := 16) (by decide +kernel))) rfl
theorem se_X0_traced : Cond.selects yX0_traced.cls yX0_traced yX0_traced ∈ gT := gmk (sm_4 (List.mem_of_getElem? (i := 17) (by decide +kernel))) rfl
def yX0_perform : MethodName := ⟨zR0, "perform", "(LWellLendsDepth$Well;III)I"⟩
abbrev bX0_perform : ByteArray := prog_2_method_4_code
theorem mf_X0_perform : MF yX0_perform bX0_perform 5 (Option.some Jvm.ClassFile.FieldType.int) 4 := ⟨gmk (sm_3 (List.mem_of_getElem? (i := 238) rfl)) rfl, gmk (sm_1 (List.mem_of_getElem? (i := 6) (by decide +kernel))) rfl, by decide +kernel, by decide +kernel, by decide +kernel⟩
theorem in_X0_perform : Cond.instanceMethod yX0_perform ∈ gT := gmk (sm_3 (List.mem_of_getElem? (i := 236) (by decide +kernel))) rfl
theorem se_X0_perform : Cond.selects yX0_perform.cls yX0_perform yX0_perform ∈ gT := gmk (sm_3 (List.mem_of_getElem? (i := 237) (by decide +kernel))) rfl
def yX0_from : MethodName := ⟨zR0, "from", "(IIII)I"⟩
abbrev bX0_from : ByteArray := prog_2_method_5_code
theorem mf_X0_from : MF yX0_from bX0_from 7 (Option.some Jvm.ClassFile.FieldType.int) 4 := ⟨gmk (sm_4 (List.mem_of_getElem? (i := 2) rfl)) rfl, gmk (sm_1 (List.mem_of_getElem? (i := 6) (by decide +kernel))) rfl, by decide +kernel, by decide +kernel, by decide +kernel⟩
theorem in_X0_from : Cond.instanceMethod yX0_from ∈ gT := gmk (sm_4 (List.mem_of_getElem? (i := 1) (by decide +kernel))) rfl
theorem se_X0_from : Cond.selects yX0_from.cls yX0_from yX0_from ∈ gT := gm 23 (by decide +kernel) rfl
def yX0_run : MethodName := ⟨zR0, "run", "(IIII)I"⟩
abbrev bX0_run : ByteArray := prog_2_method_6_code
theorem mf_X0_run : MF yX0_run bX0_run 5 (Option.some Jvm.ClassFile.FieldType.int) 4 := ⟨gmk (sm_4 (List.mem_of_getElem? (i := 10) rfl)) rfl, gmk (sm_1 (List.mem_of_getElem? (i := 6) (by decide +kernel))) rfl, by decide +kernel, by decide +kernel, by decide +kernel⟩
theorem in_X0_run : Cond.instanceMethod yX0_run ∈ gT := gmk (sm_4 (List.mem_of_getElem? (i := 9) (by decide +kernel))) rfl
theorem se_X0_run : Cond.selects yX0_run.cls yX0_run yX0_run ∈ gT := gm 24 (by decide +kernel) rfl
def yX1_init : MethodName := ⟨zR1, "<init>", "()V"⟩
abbrev bX1_init : ByteArray := prog_3_method_1_code
theorem mf_X1_init : MF yX1_init bX1_init 1 (Option.none : Option Jvm.ClassFile.FieldType) 0 := ⟨gmk (sm_1 (List.mem_of_getElem? (i := 145) rfl)) rfl, gmk (sm_1 (List.mem_of_getElem? (i := 5) (by decide +kernel))) rfl, by decide +kernel, by decide +kernel, by decide +kernel⟩
theorem in_X1_init : Cond.instanceMethod yX1_init ∈ gT := gmk (sm_1 (List.mem_of_getElem? (i := 144) (by decide +kernel))) rfl
def yX1_clear : MethodName := ⟨zR1, "clear", "()V"⟩
abbrev bX1_clear : ByteArray := prog_3_method_2_code
theorem mf_X1_clear : MF yX1_clear bX1_clear 1 (Option.none : Option Jvm.ClassFile.FieldType) 0 := ⟨gmk (sm_2 (List.mem_of_getElem? (i := 164) rfl)) rfl, gmk (sm_1 (List.mem_of_getElem? (i := 5) (by decide +kernel))) rfl, by decide +kernel, by decide +kernel, by decide +kernel⟩
theorem in_X1_clear : Cond.instanceMethod yX1_clear ∈ gT := gmk (sm_2 (List.mem_of_getElem? (i := 162) (by decide +kernel))) rfl
theorem se_X1_clear : Cond.selects yX1_clear.cls yX1_clear yX1_clear ∈ gT := gmk (sm_2 (List.mem_of_getElem? (i := 163) (by decide +kernel))) rfl
def yX1_addStep : MethodName := ⟨zR1, "addStep", "(III)V"⟩
abbrev bX1_addStep : ByteArray := prog_3_method_3_code
theorem mf_X1_addStep : MF yX1_addStep bX1_addStep 4 (Option.none : Option Jvm.ClassFile.FieldType) 3 := ⟨gmk (sm_3 (List.mem_of_getElem? (i := 12) rfl)) rfl, gmk (sm_1 (List.mem_of_getElem? (i := 5) (by decide +kernel))) rfl, by decide +kernel, by decide +kernel, by decide +kernel⟩
theorem in_X1_addStep : Cond.instanceMethod yX1_addStep ∈ gT := gmk (sm_3 (List.mem_of_getElem? (i := 10) (by decide +kernel))) rfl
theorem se_X1_addStep : Cond.selects yX1_addStep.cls yX1_addStep yX1_addStep ∈ gT := gmk (sm_3 (List.mem_of_getElem? (i := 11) (by decide +kernel))) rfl
def yX1_addPrice : MethodName := ⟨zR1, "addPrice", "(I)V"⟩
abbrev bX1_addPrice : ByteArray := prog_3_method_4_code
theorem mf_X1_addPrice : MF yX1_addPrice bX1_addPrice 2 (Option.none : Option Jvm.ClassFile.FieldType) 1 := ⟨gmk (sm_3 (List.mem_of_getElem? (i := 25) rfl)) rfl, gmk (sm_1 (List.mem_of_getElem? (i := 5) (by decide +kernel))) rfl, by decide +kernel, by decide +kernel, by decide +kernel⟩
theorem in_X1_addPrice : Cond.instanceMethod yX1_addPrice ∈ gT := gmk (sm_3 (List.mem_of_getElem? (i := 23) (by decide +kernel))) rfl
theorem se_X1_addPrice : Cond.selects yX1_addPrice.cls yX1_addPrice yX1_addPrice ∈ gT := gmk (sm_3 (List.mem_of_getElem? (i := 24) (by decide +kernel))) rfl
def yX1_rate : MethodName := ⟨zR1, "rate", "(LWellLendsDepth$Well;I)I"⟩
abbrev bX1_rate : ByteArray := prog_3_method_5_code
theorem mf_X1_rate : MF yX1_rate bX1_rate 6 (Option.some Jvm.ClassFile.FieldType.int) 2 := ⟨gmk (sm_2 (List.mem_of_getElem? (i := 82) rfl)) rfl, gmk (sm_1 (List.mem_of_getElem? (i := 5) (by decide +kernel))) rfl, by decide +kernel, by decide +kernel, by decide +kernel⟩
theorem in_X1_rate : Cond.instanceMethod yX1_rate ∈ gT := gmk (sm_2 (List.mem_of_getElem? (i := 80) (by decide +kernel))) rfl
theorem se_X1_rate : Cond.selects yX1_rate.cls yX1_rate yX1_rate ∈ gT := gmk (sm_2 (List.mem_of_getElem? (i := 81) (by decide +kernel))) rfl
def yX1_conditionHolds : MethodName := ⟨zR1, "conditionHolds", "(II)Z"⟩
abbrev bX1_conditionHolds : ByteArray := prog_3_method_6_code
theorem mf_X1_conditionHolds : MF yX1_conditionHolds bX1_conditionHolds 6 (Option.some Jvm.ClassFile.FieldType.boolean) 2 := ⟨gmk (sm_2 (List.mem_of_getElem? (i := 86) rfl)) rfl, gmk (sm_1 (List.mem_of_getElem? (i := 5) (by decide +kernel))) rfl, by decide +kernel, by decide +kernel, by decide +kernel⟩
theorem in_X1_conditionHolds : Cond.instanceMethod yX1_conditionHolds ∈ gT := gmk (sm_2 (List.mem_of_getElem? (i := 85) (by decide +kernel))) rfl
theorem se_X1_conditionHolds : Cond.selects yX1_conditionHolds.cls yX1_conditionHolds yX1_conditionHolds ∈ gT := gm 2 (by decide +kernel) rfl
def yX2_init : MethodName := ⟨zR2, "<init>", "()V"⟩
abbrev bX2_init : ByteArray := prog_4_method_1_code
theorem mf_X2_init : MF yX2_init bX2_init 1 (Option.none : Option Jvm.ClassFile.FieldType) 0 := ⟨gmk (sm_1 (List.mem_of_getElem? (i := 98) rfl)) rfl, gmk (sm_1 (List.mem_of_getElem? (i := 3) (by decide +kernel))) rfl, by decide +kernel, by decide +kernel, by decide +kernel⟩
theorem in_X2_init : Cond.instanceMethod yX2_init ∈ gT := gmk (sm_1 (List.mem_of_getElem? (i := 97) (by decide +kernel))) rfl
def yX2_copyFrom : MethodName := ⟨zR2, "copyFrom", "(LWellLendsDepth$Hand;)V"⟩
abbrev bX2_copyFrom : ByteArray := prog_4_method_2_code
theorem mf_X2_copyFrom : MF yX2_copyFrom bX2_copyFrom 2 (Option.none : Option Jvm.ClassFile.FieldType) 1 := ⟨gmk (sm_3 (List.mem_of_getElem? (i := 221) rfl)) rfl, gmk (sm_1 (List.mem_of_getElem? (i := 3) (by decide +kernel))) rfl, by decide +kernel, by decide +kernel, by decide +kernel⟩
theorem in_X2_copyFrom : Cond.instanceMethod yX2_copyFrom ∈ gT := gmk (sm_3 (List.mem_of_getElem? (i := 219) (by decide +kernel))) rfl
theorem se_X2_copyFrom : Cond.selects yX2_copyFrom.cls yX2_copyFrom yX2_copyFrom ∈ gT := gmk (sm_3 (List.mem_of_getElem? (i := 220) (by decide +kernel))) rfl
def yX2_addSeen : MethodName := ⟨zR2, "addSeen", "(II)I"⟩
abbrev bX2_addSeen : ByteArray := prog_4_method_3_code
theorem mf_X2_addSeen : MF yX2_addSeen bX2_addSeen 3 (Option.some Jvm.ClassFile.FieldType.int) 2 := ⟨gmk (sm_3 (List.mem_of_getElem? (i := 131) rfl)) rfl, gmk (sm_1 (List.mem_of_getElem? (i := 3) (by decide +kernel))) rfl, by decide +kernel, by decide +kernel, by decide +kernel⟩
theorem in_X2_addSeen : Cond.instanceMethod yX2_addSeen ∈ gT := gmk (sm_3 (List.mem_of_getElem? (i := 129) (by decide +kernel))) rfl
theorem se_X2_addSeen : Cond.selects yX2_addSeen.cls yX2_addSeen yX2_addSeen ∈ gT := gmk (sm_3 (List.mem_of_getElem? (i := 130) (by decide +kernel))) rfl
def yX2_addYear : MethodName := ⟨zR2, "addYear", "(II)I"⟩
abbrev bX2_addYear : ByteArray := prog_4_method_4_code
theorem mf_X2_addYear : MF yX2_addYear bX2_addYear 3 (Option.some Jvm.ClassFile.FieldType.int) 2 := ⟨gmk (sm_3 (List.mem_of_getElem? (i := 175) rfl)) rfl, gmk (sm_1 (List.mem_of_getElem? (i := 3) (by decide +kernel))) rfl, by decide +kernel, by decide +kernel, by decide +kernel⟩
theorem in_X2_addYear : Cond.instanceMethod yX2_addYear ∈ gT := gmk (sm_3 (List.mem_of_getElem? (i := 173) (by decide +kernel))) rfl
theorem se_X2_addYear : Cond.selects yX2_addYear.cls yX2_addYear yX2_addYear ∈ gT := gmk (sm_3 (List.mem_of_getElem? (i := 174) (by decide +kernel))) rfl
def yX2_addBook : MethodName := ⟨zR2, "addBook", "(II)I"⟩
abbrev bX2_addBook : ByteArray := prog_4_method_5_code
theorem mf_X2_addBook : MF yX2_addBook bX2_addBook 3 (Option.some Jvm.ClassFile.FieldType.int) 2 := ⟨gmk (sm_3 (List.mem_of_getElem? (i := 192) rfl)) rfl, gmk (sm_1 (List.mem_of_getElem? (i := 3) (by decide +kernel))) rfl, by decide +kernel, by decide +kernel, by decide +kernel⟩
theorem in_X2_addBook : Cond.instanceMethod yX2_addBook ∈ gT := gmk (sm_3 (List.mem_of_getElem? (i := 190) (by decide +kernel))) rfl
theorem se_X2_addBook : Cond.selects yX2_addBook.cls yX2_addBook yX2_addBook ∈ gT := gmk (sm_3 (List.mem_of_getElem? (i := 191) (by decide +kernel))) rfl
def yX2_farthestSeen : MethodName := ⟨zR2, "farthestSeen", "()I"⟩
abbrev bX2_farthestSeen : ByteArray := prog_4_method_6_code
theorem mf_X2_farthestSeen : MF yX2_farthestSeen bX2_farthestSeen 3 (Option.some Jvm.ClassFile.FieldType.int) 0 := ⟨gmk (sm_3 (List.mem_of_getElem? (i := 143) rfl)) rfl, gmk (sm_1 (List.mem_of_getElem? (i := 3) (by decide +kernel))) rfl, by decide +kernel, by decide +kernel, by decide +kernel⟩
theorem in_X2_farthestSeen : Cond.instanceMethod yX2_farthestSeen ∈ gT := gmk (sm_3 (List.mem_of_getElem? (i := 141) (by decide +kernel))) rfl
theorem se_X2_farthestSeen : Cond.selects yX2_farthestSeen.cls yX2_farthestSeen yX2_farthestSeen ∈ gT := gmk (sm_3 (List.mem_of_getElem? (i := 142) (by decide +kernel))) rfl
def yX2_seenFits : MethodName := ⟨zR2, "seenFits", "(II)Z"⟩
abbrev bX2_seenFits : ByteArray := prog_4_method_7_code
theorem mf_X2_seenFits : MF yX2_seenFits bX2_seenFits 4 (Option.some Jvm.ClassFile.FieldType.boolean) 2 := ⟨gmk (sm_3 (List.mem_of_getElem? (i := 148) rfl)) rfl, gmk (sm_1 (List.mem_of_getElem? (i := 3) (by decide +kernel))) rfl, by decide +kernel, by decide +kernel, by decide +kernel⟩
theorem in_X2_seenFits : Cond.instanceMethod yX2_seenFits ∈ gT := gmk (sm_3 (List.mem_of_getElem? (i := 146) (by decide +kernel))) rfl
theorem se_X2_seenFits : Cond.selects yX2_seenFits.cls yX2_seenFits yX2_seenFits ∈ gT := gmk (sm_3 (List.mem_of_getElem? (i := 147) (by decide +kernel))) rfl
def yX3_init : MethodName := ⟨zR3, "<init>", "()V"⟩
abbrev bX3_init : ByteArray := prog_5_method_1_code
theorem mf_X3_init : MF yX3_init bX3_init 1 (Option.none : Option Jvm.ClassFile.FieldType) 0 := ⟨gmk (sm_1 (List.mem_of_getElem? (i := 139) rfl)) rfl, gmk (sm_1 (List.mem_of_getElem? (i := 4) (by decide +kernel))) rfl, by decide +kernel, by decide +kernel, by decide +kernel⟩
theorem in_X3_init : Cond.instanceMethod yX3_init ∈ gT := gmk (sm_1 (List.mem_of_getElem? (i := 138) (by decide +kernel))) rfl
def yX3_take : MethodName := ⟨zR3, "take", "(I)V"⟩
abbrev bX3_take : ByteArray := prog_5_method_2_code
theorem mf_X3_take : MF yX3_take bX3_take 2 (Option.none : Option Jvm.ClassFile.FieldType) 1 := ⟨gmk (sm_2 (List.mem_of_getElem? (i := 152) rfl)) rfl, gmk (sm_1 (List.mem_of_getElem? (i := 4) (by decide +kernel))) rfl, by decide +kernel, by decide +kernel, by decide +kernel⟩
theorem in_X3_take : Cond.instanceMethod yX3_take ∈ gT := gmk (sm_2 (List.mem_of_getElem? (i := 150) (by decide +kernel))) rfl
theorem se_X3_take : Cond.selects yX3_take.cls yX3_take yX3_take ∈ gT := gmk (sm_2 (List.mem_of_getElem? (i := 151) (by decide +kernel))) rfl
def yX3_readInto : MethodName := ⟨zR3, "readInto", "(LWellLendsDepth$Country;)I"⟩
abbrev bX3_readInto : ByteArray := prog_5_method_3_code
theorem mf_X3_readInto : MF yX3_readInto bX3_readInto 3 (Option.some Jvm.ClassFile.FieldType.int) 1 := ⟨gmk (sm_2 (List.mem_of_getElem? (i := 160) rfl)) rfl, gmk (sm_1 (List.mem_of_getElem? (i := 4) (by decide +kernel))) rfl, by decide +kernel, by decide +kernel, by decide +kernel⟩
theorem in_X3_readInto : Cond.instanceMethod yX3_readInto ∈ gT := gmk (sm_2 (List.mem_of_getElem? (i := 158) (by decide +kernel))) rfl
theorem se_X3_readInto : Cond.selects yX3_readInto.cls yX3_readInto yX3_readInto ∈ gT := gmk (sm_2 (List.mem_of_getElem? (i := 159) (by decide +kernel))) rfl
def yX3_sign : MethodName := ⟨zR3, "sign", "()I"⟩
abbrev bX3_sign : ByteArray := prog_5_method_4_code
theorem mf_X3_sign : MF yX3_sign bX3_sign 1 (Option.some Jvm.ClassFile.FieldType.int) 0 := ⟨gmk (sm_2 (List.mem_of_getElem? (i := 172) rfl)) rfl, gmk (sm_1 (List.mem_of_getElem? (i := 4) (by decide +kernel))) rfl, by decide +kernel, by decide +kernel, by decide +kernel⟩
theorem in_X3_sign : Cond.instanceMethod yX3_sign ∈ gT := gmk (sm_2 (List.mem_of_getElem? (i := 171) (by decide +kernel))) rfl
theorem se_X3_sign : Cond.selects yX3_sign.cls yX3_sign yX3_sign ∈ gT := gm 4 (by decide +kernel) rfl
def yX3_expect : MethodName := ⟨zR3, "expect", "(I)V"⟩
abbrev bX3_expect : ByteArray := prog_5_method_5_code
theorem mf_X3_expect : MF yX3_expect bX3_expect 2 (Option.none : Option Jvm.ClassFile.FieldType) 1 := ⟨gmk (sm_2 (List.mem_of_getElem? (i := 236) rfl)) rfl, gmk (sm_1 (List.mem_of_getElem? (i := 4) (by decide +kernel))) rfl, by decide +kernel, by decide +kernel, by decide +kernel⟩
theorem in_X3_expect : Cond.instanceMethod yX3_expect ∈ gT := gmk (sm_2 (List.mem_of_getElem? (i := 235) (by decide +kernel))) rfl
theorem se_X3_expect : Cond.selects yX3_expect.cls yX3_expect yX3_expect ∈ gT := gm 6 (by decide +kernel) rfl
def yX3_expectWord : MethodName := ⟨zR3, "expectWord", "(Ljava/lang/String;)V"⟩
abbrev bX3_expectWord : ByteArray := prog_5_method_6_code
theorem mf_X3_expectWord : MF yX3_expectWord bX3_expectWord 3 (Option.none : Option Jvm.ClassFile.FieldType) 1 := ⟨gmk (sm_2 (List.mem_of_getElem? (i := 184) rfl)) rfl, gmk (sm_1 (List.mem_of_getElem? (i := 4) (by decide +kernel))) rfl, by decide +kernel, by decide +kernel, by decide +kernel⟩
theorem in_X3_expectWord : Cond.instanceMethod yX3_expectWord ∈ gT := gmk (sm_2 (List.mem_of_getElem? (i := 183) (by decide +kernel))) rfl
theorem se_X3_expectWord : Cond.selects yX3_expectWord.cls yX3_expectWord yX3_expectWord ∈ gT := gm 5 (by decide +kernel) rfl
def yX3_readClause : MethodName := ⟨zR3, "readClause", "()V"⟩
abbrev bX3_readClause : ByteArray := prog_5_method_7_code
theorem mf_X3_readClause : MF yX3_readClause bX3_readClause 3 (Option.none : Option Jvm.ClassFile.FieldType) 0 := ⟨gmk (sm_2 (List.mem_of_getElem? (i := 168) rfl)) rfl, gmk (sm_1 (List.mem_of_getElem? (i := 4) (by decide +kernel))) rfl, by decide +kernel, by decide +kernel, by decide +kernel⟩
theorem in_X3_readClause : Cond.instanceMethod yX3_readClause ∈ gT := gmk (sm_2 (List.mem_of_getElem? (i := 167) (by decide +kernel))) rfl
theorem se_X3_readClause : Cond.selects yX3_readClause.cls yX3_readClause yX3_readClause ∈ gT := gm 3 (by decide +kernel) rfl
def yX3_wordOf : MethodName := ⟨zR3, "wordOf", "(I)Ljava/lang/String;"⟩
abbrev bX3_wordOf : ByteArray := prog_5_method_8_code
theorem mf_X3_wordOf : MF yX3_wordOf bX3_wordOf 1 (Option.some (Jvm.ClassFile.FieldType.object "java/lang/String")) 1 := ⟨gmk (sm_2 (List.mem_of_getElem? (i := 175) rfl)) rfl, gmk (sm_1 (List.mem_of_getElem? (i := 4) (by decide +kernel))) rfl, by decide +kernel, by decide +kernel, by decide +kernel⟩
theorem st_X3_wordOf : Cond.static yX3_wordOf ∈ gT := gmk (sm_2 (List.mem_of_getElem? (i := 174) (by decide +kernel))) rfl
def yX3_readNumber : MethodName := ⟨zR3, "readNumber", "()I"⟩
abbrev bX3_readNumber : ByteArray := prog_5_method_9_code
theorem mf_X3_readNumber : MF yX3_readNumber bX3_readNumber 3 (Option.some Jvm.ClassFile.FieldType.int) 0 := ⟨gmk (sm_3 (List.mem_of_getElem? (i := 0) rfl)) rfl, gmk (sm_1 (List.mem_of_getElem? (i := 4) (by decide +kernel))) rfl, by decide +kernel, by decide +kernel, by decide +kernel⟩
theorem in_X3_readNumber : Cond.instanceMethod yX3_readNumber ∈ gT := gmk (sm_2 (List.mem_of_getElem? (i := 239) (by decide +kernel))) rfl
theorem se_X3_readNumber : Cond.selects yX3_readNumber.cls yX3_readNumber yX3_readNumber ∈ gT := gm 7 (by decide +kernel) rfl
def yX3_readEither : MethodName := ⟨zR3, "readEither", "(I)V"⟩
abbrev bX3_readEither : ByteArray := prog_5_method_10_code
theorem mf_X3_readEither : MF yX3_readEither bX3_readEither 5 (Option.none : Option Jvm.ClassFile.FieldType) 1 := ⟨gmk (sm_3 (List.mem_of_getElem? (i := 4) rfl)) rfl, gmk (sm_1 (List.mem_of_getElem? (i := 4) (by decide +kernel))) rfl, by decide +kernel, by decide +kernel, by decide +kernel⟩
theorem in_X3_readEither : Cond.instanceMethod yX3_readEither ∈ gT := gmk (sm_3 (List.mem_of_getElem? (i := 3) (by decide +kernel))) rfl
theorem se_X3_readEither : Cond.selects yX3_readEither.cls yX3_readEither yX3_readEither ∈ gT := gm 8 (by decide +kernel) rfl
def yX3_readPart : MethodName := ⟨zR3, "readPart", "(I)V"⟩
abbrev bX3_readPart : ByteArray := prog_5_method_11_code
theorem mf_X3_readPart : MF yX3_readPart bX3_readPart 2 (Option.none : Option Jvm.ClassFile.FieldType) 1 := ⟨gmk (sm_3 (List.mem_of_getElem? (i := 8) rfl)) rfl, gmk (sm_1 (List.mem_of_getElem? (i := 4) (by decide +kernel))) rfl, by decide +kernel, by decide +kernel, by decide +kernel⟩
theorem in_X3_readPart : Cond.instanceMethod yX3_readPart ∈ gT := gmk (sm_3 (List.mem_of_getElem? (i := 7) (by decide +kernel))) rfl
theorem se_X3_readPart : Cond.selects yX3_readPart.cls yX3_readPart yX3_readPart ∈ gT := gm 9 (by decide +kernel) rfl
def yX3_readTest : MethodName := ⟨zR3, "readTest", "()V"⟩
abbrev bX3_readTest : ByteArray := prog_5_method_12_code
theorem mf_X3_readTest : MF yX3_readTest bX3_readTest 3 (Option.none : Option Jvm.ClassFile.FieldType) 0 := ⟨gmk (sm_3 (List.mem_of_getElem? (i := 16) rfl)) rfl, gmk (sm_1 (List.mem_of_getElem? (i := 4) (by decide +kernel))) rfl, by decide +kernel, by decide +kernel, by decide +kernel⟩
theorem in_X3_readTest : Cond.instanceMethod yX3_readTest ∈ gT := gmk (sm_3 (List.mem_of_getElem? (i := 15) (by decide +kernel))) rfl
theorem se_X3_readTest : Cond.selects yX3_readTest.cls yX3_readTest yX3_readTest ∈ gT := gm 10 (by decide +kernel) rfl
def yX3_placeOf : MethodName := ⟨zR3, "placeOf", "(ILjava/lang/String;)I"⟩
abbrev bX3_placeOf : ByteArray := prog_5_method_13_code
theorem mf_X3_placeOf : MF yX3_placeOf bX3_placeOf 3 (Option.some Jvm.ClassFile.FieldType.int) 2 := ⟨gmk (sm_3 (List.mem_of_getElem? (i := 20) rfl)) rfl, gmk (sm_1 (List.mem_of_getElem? (i := 4) (by decide +kernel))) rfl, by decide +kernel, by decide +kernel, by decide +kernel⟩
theorem st_X3_placeOf : Cond.static yX3_placeOf ∈ gT := gmk (sm_3 (List.mem_of_getElem? (i := 19) (by decide +kernel))) rfl
def yX4_init : MethodName := ⟨zR4, "<init>", "()V"⟩
abbrev bX4_init : ByteArray := prog_6_method_1_code
theorem mf_X4_init : MF yX4_init bX4_init 2 (Option.none : Option Jvm.ClassFile.FieldType) 0 := ⟨gmk (sm_1 (List.mem_of_getElem? (i := 236) rfl)) rfl, gmk (sm_1 (List.mem_of_getElem? (i := 7) (by decide +kernel))) rfl, by decide +kernel, by decide +kernel, by decide +kernel⟩
theorem in_X4_init : Cond.instanceMethod yX4_init ∈ gT := gmk (sm_1 (List.mem_of_getElem? (i := 235) (by decide +kernel))) rfl
def yX4_known : MethodName := ⟨zR4, "known", "(I)Z"⟩
abbrev bX4_known : ByteArray := prog_6_method_2_code
theorem mf_X4_known : MF yX4_known bX4_known 2 (Option.some Jvm.ClassFile.FieldType.boolean) 1 := ⟨gmk (sm_3 (List.mem_of_getElem? (i := 204) rfl)) rfl, gmk (sm_1 (List.mem_of_getElem? (i := 7) (by decide +kernel))) rfl, by decide +kernel, by decide +kernel, by decide +kernel⟩
theorem in_X4_known : Cond.instanceMethod yX4_known ∈ gT := gmk (sm_3 (List.mem_of_getElem? (i := 202) (by decide +kernel))) rfl
theorem se_X4_known : Cond.selects yX4_known.cls yX4_known yX4_known ∈ gT := gmk (sm_3 (List.mem_of_getElem? (i := 203) (by decide +kernel))) rfl
def yX4_holds : MethodName := ⟨zR4, "holds", "(I)Z"⟩
abbrev bX4_holds : ByteArray := prog_6_method_3_code
theorem mf_X4_holds : MF yX4_holds bX4_holds 2 (Option.some Jvm.ClassFile.FieldType.boolean) 1 := ⟨gmk (sm_3 (List.mem_of_getElem? (i := 208) rfl)) rfl, gmk (sm_1 (List.mem_of_getElem? (i := 7) (by decide +kernel))) rfl, by decide +kernel, by decide +kernel, by decide +kernel⟩
theorem in_X4_holds : Cond.instanceMethod yX4_holds ∈ gT := gmk (sm_3 (List.mem_of_getElem? (i := 206) (by decide +kernel))) rfl
theorem se_X4_holds : Cond.selects yX4_holds.cls yX4_holds yX4_holds ∈ gT := gmk (sm_3 (List.mem_of_getElem? (i := 207) (by decide +kernel))) rfl
def yX4_hasPlace : MethodName := ⟨zR4, "hasPlace", "(IJ)Z"⟩
abbrev bX4_hasPlace : ByteArray := prog_6_method_4_code
theorem mf_X4_hasPlace : MF yX4_hasPlace bX4_hasPlace 4 (Option.some Jvm.ClassFile.FieldType.boolean) 2 := ⟨gmk (sm_3 (List.mem_of_getElem? (i := 212) rfl)) rfl, gmk (sm_1 (List.mem_of_getElem? (i := 7) (by decide +kernel))) rfl, by decide +kernel, by decide +kernel, by decide +kernel⟩
theorem in_X4_hasPlace : Cond.instanceMethod yX4_hasPlace ∈ gT := gmk (sm_3 (List.mem_of_getElem? (i := 210) (by decide +kernel))) rfl
theorem se_X4_hasPlace : Cond.selects yX4_hasPlace.cls yX4_hasPlace yX4_hasPlace ∈ gT := gmk (sm_3 (List.mem_of_getElem? (i := 211) (by decide +kernel))) rfl
def yX4_hasRoom : MethodName := ⟨zR4, "hasRoom", "(III)Z"⟩
abbrev bX4_hasRoom : ByteArray := prog_6_method_5_code
theorem mf_X4_hasRoom : MF yX4_hasRoom bX4_hasRoom 4 (Option.some Jvm.ClassFile.FieldType.boolean) 3 := ⟨gmk (sm_4 (List.mem_of_getElem? (i := 57) rfl)) rfl, gmk (sm_1 (List.mem_of_getElem? (i := 7) (by decide +kernel))) rfl, by decide +kernel, by decide +kernel, by decide +kernel⟩
theorem in_X4_hasRoom : Cond.instanceMethod yX4_hasRoom ∈ gT := gmk (sm_4 (List.mem_of_getElem? (i := 55) (by decide +kernel))) rfl
theorem se_X4_hasRoom : Cond.selects yX4_hasRoom.cls yX4_hasRoom yX4_hasRoom ∈ gT := gmk (sm_4 (List.mem_of_getElem? (i := 56) (by decide +kernel))) rfl
def yX4_make : MethodName := ⟨zR4, "make", "(III)V"⟩
abbrev bX4_make : ByteArray := prog_6_method_6_code
theorem mf_X4_make : MF yX4_make bX4_make 5 (Option.none : Option Jvm.ClassFile.FieldType) 3 := ⟨gmk (sm_4 (List.mem_of_getElem? (i := 38) rfl)) rfl, gmk (sm_1 (List.mem_of_getElem? (i := 7) (by decide +kernel))) rfl, by decide +kernel, by decide +kernel, by decide +kernel⟩
theorem in_X4_make : Cond.instanceMethod yX4_make ∈ gT := gmk (sm_4 (List.mem_of_getElem? (i := 36) (by decide +kernel))) rfl
theorem se_X4_make : Cond.selects yX4_make.cls yX4_make yX4_make ∈ gT := gmk (sm_4 (List.mem_of_getElem? (i := 37) (by decide +kernel))) rfl
def yX4_cut : MethodName := ⟨zR4, "cut", "(IJ)J"⟩
abbrev bX4_cut : ByteArray := prog_6_method_7_code
theorem mf_X4_cut : MF yX4_cut bX4_cut 3 (Option.some Jvm.ClassFile.FieldType.long) 2 := ⟨gmk (sm_4 (List.mem_of_getElem? (i := 45) rfl)) rfl, gmk (sm_1 (List.mem_of_getElem? (i := 7) (by decide +kernel))) rfl, by decide +kernel, by decide +kernel, by decide +kernel⟩
theorem st_X4_cut : Cond.static yX4_cut ∈ gT := gmk (sm_4 (List.mem_of_getElem? (i := 44) (by decide +kernel))) rfl
def yX5_init : MethodName := ⟨zR5, "<init>", "()V"⟩
abbrev bX5_init : ByteArray := prog_7_method_1_code
theorem mf_X5_init : MF yX5_init bX5_init 1 (Option.none : Option Jvm.ClassFile.FieldType) 0 := ⟨gmk (sm_1 (List.mem_of_getElem? (i := 27) rfl)) rfl, gmk (sm_1 (List.mem_of_getElem? (i := 2) (by decide +kernel))) rfl, by decide +kernel, by decide +kernel, by decide +kernel⟩
theorem in_X5_init : Cond.instanceMethod yX5_init ∈ gT := gmk (sm_1 (List.mem_of_getElem? (i := 26) (by decide +kernel))) rfl
def yX5_copyFrom : MethodName := ⟨zR5, "copyFrom", "(LWellLendsDepth$Well;)V"⟩
abbrev bX5_copyFrom : ByteArray := prog_7_method_2_code
theorem mf_X5_copyFrom : MF yX5_copyFrom bX5_copyFrom 3 (Option.none : Option Jvm.ClassFile.FieldType) 1 := ⟨gmk (sm_3 (List.mem_of_getElem? (i := 71) rfl)) rfl, gmk (sm_1 (List.mem_of_getElem? (i := 2) (by decide +kernel))) rfl, by decide +kernel, by decide +kernel, by decide +kernel⟩
theorem in_X5_copyFrom : Cond.instanceMethod yX5_copyFrom ∈ gT := gmk (sm_3 (List.mem_of_getElem? (i := 69) (by decide +kernel))) rfl
theorem se_X5_copyFrom : Cond.selects yX5_copyFrom.cls yX5_copyFrom yX5_copyFrom ∈ gT := gmk (sm_3 (List.mem_of_getElem? (i := 70) (by decide +kernel))) rfl
def yX5_join : MethodName := ⟨zR5, "join", "(IIII)I"⟩
abbrev bX5_join : ByteArray := prog_7_method_3_code
theorem mf_X5_join : MF yX5_join bX5_join 7 (Option.some Jvm.ClassFile.FieldType.int) 4 := ⟨gmk (sm_2 (List.mem_of_getElem? (i := 66) rfl)) rfl, gmk (sm_1 (List.mem_of_getElem? (i := 2) (by decide +kernel))) rfl, by decide +kernel, by decide +kernel, by decide +kernel⟩
theorem in_X5_join : Cond.instanceMethod yX5_join ∈ gT := gmk (sm_2 (List.mem_of_getElem? (i := 64) (by decide +kernel))) rfl
theorem se_X5_join : Cond.selects yX5_join.cls yX5_join yX5_join ∈ gT := gmk (sm_2 (List.mem_of_getElem? (i := 65) (by decide +kernel))) rfl
def yX5_trade : MethodName := ⟨zR5, "trade", "(II)V"⟩
abbrev bX5_trade : ByteArray := prog_7_method_4_code
theorem mf_X5_trade : MF yX5_trade bX5_trade 4 (Option.none : Option Jvm.ClassFile.FieldType) 2 := ⟨gmk (sm_2 (List.mem_of_getElem? (i := 132) rfl)) rfl, gmk (sm_1 (List.mem_of_getElem? (i := 2) (by decide +kernel))) rfl, by decide +kernel, by decide +kernel, by decide +kernel⟩
theorem in_X5_trade : Cond.instanceMethod yX5_trade ∈ gT := gmk (sm_2 (List.mem_of_getElem? (i := 130) (by decide +kernel))) rfl
theorem se_X5_trade : Cond.selects yX5_trade.cls yX5_trade yX5_trade ∈ gT := gmk (sm_2 (List.mem_of_getElem? (i := 131) (by decide +kernel))) rfl
def yX5_rise : MethodName := ⟨zR5, "rise", "(I)V"⟩
abbrev bX5_rise : ByteArray := prog_7_method_5_code
theorem mf_X5_rise : MF yX5_rise bX5_rise 2 (Option.none : Option Jvm.ClassFile.FieldType) 1 := ⟨gmk (sm_2 (List.mem_of_getElem? (i := 144) rfl)) rfl, gmk (sm_1 (List.mem_of_getElem? (i := 2) (by decide +kernel))) rfl, by decide +kernel, by decide +kernel, by decide +kernel⟩
theorem in_X5_rise : Cond.instanceMethod yX5_rise ∈ gT := gmk (sm_2 (List.mem_of_getElem? (i := 142) (by decide +kernel))) rfl
theorem se_X5_rise : Cond.selects yX5_rise.cls yX5_rise yX5_rise ∈ gT := gmk (sm_2 (List.mem_of_getElem? (i := 143) (by decide +kernel))) rfl
def yX5_callIn : MethodName := ⟨zR5, "callIn", "(I)V"⟩
abbrev bX5_callIn : ByteArray := prog_7_method_6_code
theorem mf_X5_callIn : MF yX5_callIn bX5_callIn 2 (Option.none : Option Jvm.ClassFile.FieldType) 1 := ⟨gmk (sm_2 (List.mem_of_getElem? (i := 140) rfl)) rfl, gmk (sm_1 (List.mem_of_getElem? (i := 2) (by decide +kernel))) rfl, by decide +kernel, by decide +kernel, by decide +kernel⟩
theorem in_X5_callIn : Cond.instanceMethod yX5_callIn ∈ gT := gmk (sm_2 (List.mem_of_getElem? (i := 138) (by decide +kernel))) rfl
theorem se_X5_callIn : Cond.selects yX5_callIn.cls yX5_callIn yX5_callIn ∈ gT := gmk (sm_2 (List.mem_of_getElem? (i := 139) (by decide +kernel))) rfl
def yX5_owesOfAll : MethodName := ⟨zR5, "owesOfAll", "()I"⟩
abbrev bX5_owesOfAll : ByteArray := prog_7_method_7_code
theorem mf_X5_owesOfAll : MF yX5_owesOfAll bX5_owesOfAll 3 (Option.some Jvm.ClassFile.FieldType.int) 0 := ⟨gmk (sm_3 (List.mem_of_getElem? (i := 34) rfl)) rfl, gmk (sm_1 (List.mem_of_getElem? (i := 2) (by decide +kernel))) rfl, by decide +kernel, by decide +kernel, by decide +kernel⟩
theorem in_X5_owesOfAll : Cond.instanceMethod yX5_owesOfAll ∈ gT := gmk (sm_3 (List.mem_of_getElem? (i := 32) (by decide +kernel))) rfl
theorem se_X5_owesOfAll : Cond.selects yX5_owesOfAll.cls yX5_owesOfAll yX5_owesOfAll ∈ gT := gmk (sm_3 (List.mem_of_getElem? (i := 33) (by decide +kernel))) rfl
def yX5_asks : MethodName := ⟨zR5, "asks", "(II)I"⟩
abbrev bX5_asks : ByteArray := prog_7_method_8_code
theorem mf_X5_asks : MF yX5_asks bX5_asks 3 (Option.some Jvm.ClassFile.FieldType.int) 2 := ⟨gmk (sm_2 (List.mem_of_getElem? (i := 93) rfl)) rfl, gmk (sm_1 (List.mem_of_getElem? (i := 2) (by decide +kernel))) rfl, by decide +kernel, by decide +kernel, by decide +kernel⟩
theorem in_X5_asks : Cond.instanceMethod yX5_asks ∈ gT := gmk (sm_2 (List.mem_of_getElem? (i := 91) (by decide +kernel))) rfl
theorem se_X5_asks : Cond.selects yX5_asks.cls yX5_asks yX5_asks ∈ gT := gmk (sm_2 (List.mem_of_getElem? (i := 92) (by decide +kernel))) rfl
def yX5_keeps : MethodName := ⟨zR5, "keeps", "(I)I"⟩
abbrev bX5_keeps : ByteArray := prog_7_method_9_code
theorem mf_X5_keeps : MF yX5_keeps bX5_keeps 2 (Option.some Jvm.ClassFile.FieldType.int) 1 := ⟨gmk (sm_2 (List.mem_of_getElem? (i := 104) rfl)) rfl, gmk (sm_1 (List.mem_of_getElem? (i := 2) (by decide +kernel))) rfl, by decide +kernel, by decide +kernel, by decide +kernel⟩
theorem in_X5_keeps : Cond.instanceMethod yX5_keeps ∈ gT := gmk (sm_2 (List.mem_of_getElem? (i := 102) (by decide +kernel))) rfl
theorem se_X5_keeps : Cond.selects yX5_keeps.cls yX5_keeps yX5_keeps ∈ gT := gmk (sm_2 (List.mem_of_getElem? (i := 103) (by decide +kernel))) rfl
def yX5_staysAway : MethodName := ⟨zR5, "staysAway", "(I)Z"⟩
abbrev bX5_staysAway : ByteArray := prog_7_method_10_code
theorem mf_X5_staysAway : MF yX5_staysAway bX5_staysAway 2 (Option.some Jvm.ClassFile.FieldType.boolean) 1 := ⟨gmk (sm_2 (List.mem_of_getElem? (i := 108) rfl)) rfl, gmk (sm_1 (List.mem_of_getElem? (i := 2) (by decide +kernel))) rfl, by decide +kernel, by decide +kernel, by decide +kernel⟩
theorem in_X5_staysAway : Cond.instanceMethod yX5_staysAway ∈ gT := gmk (sm_2 (List.mem_of_getElem? (i := 106) (by decide +kernel))) rfl
theorem se_X5_staysAway : Cond.selects yX5_staysAway.cls yX5_staysAway yX5_staysAway ∈ gT := gmk (sm_2 (List.mem_of_getElem? (i := 107) (by decide +kernel))) rfl
def yX5_bringsBack : MethodName := ⟨zR5, "bringsBack", "(I)I"⟩
abbrev bX5_bringsBack : ByteArray := prog_7_method_11_code
theorem mf_X5_bringsBack : MF yX5_bringsBack bX5_bringsBack 2 (Option.some Jvm.ClassFile.FieldType.int) 1 := ⟨gmk (sm_2 (List.mem_of_getElem? (i := 112) rfl)) rfl, gmk (sm_1 (List.mem_of_getElem? (i := 2) (by decide +kernel))) rfl, by decide +kernel, by decide +kernel, by decide +kernel⟩
theorem in_X5_bringsBack : Cond.instanceMethod yX5_bringsBack ∈ gT := gmk (sm_2 (List.mem_of_getElem? (i := 110) (by decide +kernel))) rfl
theorem se_X5_bringsBack : Cond.selects yX5_bringsBack.cls yX5_bringsBack yX5_bringsBack ∈ gT := gmk (sm_2 (List.mem_of_getElem? (i := 111) (by decide +kernel))) rfl
def yX5_goDay : MethodName := ⟨zR5, "goDay", "(LWellLendsDepth$Country;II)V"⟩
abbrev bX5_goDay : ByteArray := prog_7_method_12_code
theorem mf_X5_goDay : MF yX5_goDay bX5_goDay 6 (Option.none : Option Jvm.ClassFile.FieldType) 3 := ⟨gmk (sm_3 (List.mem_of_getElem? (i := 45) rfl)) rfl, gmk (sm_1 (List.mem_of_getElem? (i := 2) (by decide +kernel))) rfl, by decide +kernel, by decide +kernel, by decide +kernel⟩
theorem in_X5_goDay : Cond.instanceMethod yX5_goDay ∈ gT := gmk (sm_3 (List.mem_of_getElem? (i := 43) (by decide +kernel))) rfl
theorem se_X5_goDay : Cond.selects yX5_goDay.cls yX5_goDay yX5_goDay ∈ gT := gmk (sm_3 (List.mem_of_getElem? (i := 44) (by decide +kernel))) rfl
def yX5_keepOn : MethodName := ⟨zR5, "keepOn", "(ILWellLendsDepth$Country;)V"⟩
abbrev bX5_keepOn : ByteArray := prog_7_method_13_code
theorem mf_X5_keepOn : MF yX5_keepOn bX5_keepOn 3 (Option.none : Option Jvm.ClassFile.FieldType) 2 := ⟨gmk (sm_3 (List.mem_of_getElem? (i := 49) rfl)) rfl, gmk (sm_1 (List.mem_of_getElem? (i := 2) (by decide +kernel))) rfl, by decide +kernel, by decide +kernel, by decide +kernel⟩
theorem in_X5_keepOn : Cond.instanceMethod yX5_keepOn ∈ gT := gmk (sm_3 (List.mem_of_getElem? (i := 48) (by decide +kernel))) rfl
theorem se_X5_keepOn : Cond.selects yX5_keepOn.cls yX5_keepOn yX5_keepOn ∈ gT := gm 11 (by decide +kernel) rfl
def yX5_comeAsking : MethodName := ⟨zR5, "comeAsking", "(III)V"⟩
abbrev bX5_comeAsking : ByteArray := prog_7_method_14_code
theorem mf_X5_comeAsking : MF yX5_comeAsking bX5_comeAsking 5 (Option.none : Option Jvm.ClassFile.FieldType) 3 := ⟨gmk (sm_3 (List.mem_of_getElem? (i := 58) rfl)) rfl, gmk (sm_1 (List.mem_of_getElem? (i := 2) (by decide +kernel))) rfl, by decide +kernel, by decide +kernel, by decide +kernel⟩
theorem in_X5_comeAsking : Cond.instanceMethod yX5_comeAsking ∈ gT := gmk (sm_3 (List.mem_of_getElem? (i := 57) (by decide +kernel))) rfl
theorem se_X5_comeAsking : Cond.selects yX5_comeAsking.cls yX5_comeAsking yX5_comeAsking ∈ gT := gm 12 (by decide +kernel) rfl
def yX6_init : MethodName := ⟨zR6, "<init>", "()V"⟩
abbrev bX6_init : ByteArray := prog_1_method_1_code
theorem mf_X6_init : MF yX6_init bX6_init 2 (Option.none : Option Jvm.ClassFile.FieldType) 0 := ⟨gmk (sm_1 (List.mem_of_getElem? (i := 19) rfl)) rfl, gmk (sm_1 (List.mem_of_getElem? (i := 1) (by decide +kernel))) rfl, by decide +kernel, by decide +kernel, by decide +kernel⟩
theorem in_X6_init : Cond.instanceMethod yX6_init ∈ gT := gmk (sm_1 (List.mem_of_getElem? (i := 18) (by decide +kernel))) rfl
def yX6_borrower : MethodName := ⟨zR6, "borrower", "(IIII)I"⟩
abbrev bX6_borrower : ByteArray := prog_1_method_2_code
theorem mf_X6_borrower : MF yX6_borrower bX6_borrower 5 (Option.some Jvm.ClassFile.FieldType.int) 4 := ⟨gmk (sm_2 (List.mem_of_getElem? (i := 59) rfl)) rfl, gmk (sm_1 (List.mem_of_getElem? (i := 1) (by decide +kernel))) rfl, by decide +kernel, by decide +kernel, by decide +kernel⟩
theorem in_X6_borrower : Cond.instanceMethod yX6_borrower ∈ gT := gmk (sm_2 (List.mem_of_getElem? (i := 57) (by decide +kernel))) rfl
theorem se_X6_borrower : Cond.selects yX6_borrower.cls yX6_borrower yX6_borrower ∈ gT := gmk (sm_2 (List.mem_of_getElem? (i := 58) (by decide +kernel))) rfl
def yX6_of : MethodName := ⟨zR6, "of", "(II)I"⟩
abbrev bX6_of : ByteArray := prog_1_method_3_code
theorem mf_X6_of : MF yX6_of bX6_of 3 (Option.some Jvm.ClassFile.FieldType.int) 2 := ⟨gmk (sm_2 (List.mem_of_getElem? (i := 70) rfl)) rfl, gmk (sm_1 (List.mem_of_getElem? (i := 1) (by decide +kernel))) rfl, by decide +kernel, by decide +kernel, by decide +kernel⟩
theorem in_X6_of : Cond.instanceMethod yX6_of ∈ gT := gmk (sm_2 (List.mem_of_getElem? (i := 68) (by decide +kernel))) rfl
theorem se_X6_of : Cond.selects yX6_of.cls yX6_of yX6_of ∈ gT := gmk (sm_2 (List.mem_of_getElem? (i := 69) (by decide +kernel))) rfl
def yX6_set : MethodName := ⟨zR6, "set", "(III)I"⟩
abbrev bX6_set : ByteArray := prog_1_method_4_code
theorem mf_X6_set : MF yX6_set bX6_set 5 (Option.some Jvm.ClassFile.FieldType.int) 3 := ⟨gmk (sm_2 (List.mem_of_getElem? (i := 116) rfl)) rfl, gmk (sm_1 (List.mem_of_getElem? (i := 1) (by decide +kernel))) rfl, by decide +kernel, by decide +kernel, by decide +kernel⟩
theorem in_X6_set : Cond.instanceMethod yX6_set ∈ gT := gmk (sm_2 (List.mem_of_getElem? (i := 114) (by decide +kernel))) rfl
theorem se_X6_set : Cond.selects yX6_set.cls yX6_set yX6_set ∈ gT := gmk (sm_2 (List.mem_of_getElem? (i := 115) (by decide +kernel))) rfl
def yX6_row : MethodName := ⟨zR6, "row", "(III)I"⟩
abbrev bX6_row : ByteArray := prog_1_method_5_code
theorem mf_X6_row : MF yX6_row bX6_row 5 (Option.some Jvm.ClassFile.FieldType.int) 3 := ⟨gmk (sm_2 (List.mem_of_getElem? (i := 120) rfl)) rfl, gmk (sm_1 (List.mem_of_getElem? (i := 1) (by decide +kernel))) rfl, by decide +kernel, by decide +kernel, by decide +kernel⟩
theorem in_X6_row : Cond.instanceMethod yX6_row ∈ gT := gmk (sm_2 (List.mem_of_getElem? (i := 118) (by decide +kernel))) rfl
theorem se_X6_row : Cond.selects yX6_row.cls yX6_row yX6_row ∈ gT := gmk (sm_2 (List.mem_of_getElem? (i := 119) (by decide +kernel))) rfl
def yX6_depth : MethodName := ⟨zR6, "depth", "(I)I"⟩
abbrev bX6_depth : ByteArray := prog_1_method_6_code
theorem mf_X6_depth : MF yX6_depth bX6_depth 3 (Option.some Jvm.ClassFile.FieldType.int) 1 := ⟨gmk (sm_2 (List.mem_of_getElem? (i := 124) rfl)) rfl, gmk (sm_1 (List.mem_of_getElem? (i := 1) (by decide +kernel))) rfl, by decide +kernel, by decide +kernel, by decide +kernel⟩
theorem in_X6_depth : Cond.instanceMethod yX6_depth ∈ gT := gmk (sm_2 (List.mem_of_getElem? (i := 122) (by decide +kernel))) rfl
theorem se_X6_depth : Cond.selects yX6_depth.cls yX6_depth yX6_depth ∈ gT := gmk (sm_2 (List.mem_of_getElem? (i := 123) (by decide +kernel))) rfl
def yX6_change : MethodName := ⟨zR6, "change", "(II)I"⟩
abbrev bX6_change : ByteArray := prog_1_method_7_code
theorem mf_X6_change : MF yX6_change bX6_change 4 (Option.some Jvm.ClassFile.FieldType.int) 2 := ⟨gmk (sm_2 (List.mem_of_getElem? (i := 128) rfl)) rfl, gmk (sm_1 (List.mem_of_getElem? (i := 1) (by decide +kernel))) rfl, by decide +kernel, by decide +kernel, by decide +kernel⟩
theorem in_X6_change : Cond.instanceMethod yX6_change ∈ gT := gmk (sm_2 (List.mem_of_getElem? (i := 126) (by decide +kernel))) rfl
theorem se_X6_change : Cond.selects yX6_change.cls yX6_change yX6_change ∈ gT := gmk (sm_2 (List.mem_of_getElem? (i := 127) (by decide +kernel))) rfl
def yX6_call : MethodName := ⟨zR6, "call", "(I)I"⟩
abbrev bX6_call : ByteArray := prog_1_method_8_code
theorem mf_X6_call : MF yX6_call bX6_call 3 (Option.some Jvm.ClassFile.FieldType.int) 1 := ⟨gmk (sm_2 (List.mem_of_getElem? (i := 136) rfl)) rfl, gmk (sm_1 (List.mem_of_getElem? (i := 1) (by decide +kernel))) rfl, by decide +kernel, by decide +kernel, by decide +kernel⟩
theorem in_X6_call : Cond.instanceMethod yX6_call ∈ gT := gmk (sm_2 (List.mem_of_getElem? (i := 134) (by decide +kernel))) rfl
theorem se_X6_call : Cond.selects yX6_call.cls yX6_call yX6_call ∈ gT := gmk (sm_2 (List.mem_of_getElem? (i := 135) (by decide +kernel))) rfl
def yX6_feed : MethodName := ⟨zR6, "feed", "(I)I"⟩
abbrev bX6_feed : ByteArray := prog_1_method_9_code
theorem mf_X6_feed : MF yX6_feed bX6_feed 2 (Option.some Jvm.ClassFile.FieldType.int) 1 := ⟨gmk (sm_2 (List.mem_of_getElem? (i := 148) rfl)) rfl, gmk (sm_1 (List.mem_of_getElem? (i := 1) (by decide +kernel))) rfl, by decide +kernel, by decide +kernel, by decide +kernel⟩
theorem in_X6_feed : Cond.instanceMethod yX6_feed ∈ gT := gmk (sm_2 (List.mem_of_getElem? (i := 146) (by decide +kernel))) rfl
theorem se_X6_feed : Cond.selects yX6_feed.cls yX6_feed yX6_feed ∈ gT := gmk (sm_2 (List.mem_of_getElem? (i := 147) (by decide +kernel))) rfl
def yX6_country : MethodName := ⟨zR6, "country", "()I"⟩
abbrev bX6_country : ByteArray := prog_1_method_10_code
theorem mf_X6_country : MF yX6_country bX6_country 2 (Option.some Jvm.ClassFile.FieldType.int) 0 := ⟨gmk (sm_2 (List.mem_of_getElem? (i := 156) rfl)) rfl, gmk (sm_1 (List.mem_of_getElem? (i := 1) (by decide +kernel))) rfl, by decide +kernel, by decide +kernel, by decide +kernel⟩
theorem in_X6_country : Cond.instanceMethod yX6_country ∈ gT := gmk (sm_2 (List.mem_of_getElem? (i := 154) (by decide +kernel))) rfl
theorem se_X6_country : Cond.selects yX6_country.cls yX6_country yX6_country ∈ gT := gmk (sm_2 (List.mem_of_getElem? (i := 155) (by decide +kernel))) rfl
def yX6_told : MethodName := ⟨zR6, "told", "(I)I"⟩
abbrev bX6_told : ByteArray := prog_1_method_11_code
theorem mf_X6_told : MF yX6_told bX6_told 2 (Option.some Jvm.ClassFile.FieldType.int) 1 := ⟨gmk (sm_3 (List.mem_of_getElem? (i := 30) rfl)) rfl, gmk (sm_1 (List.mem_of_getElem? (i := 1) (by decide +kernel))) rfl, by decide +kernel, by decide +kernel, by decide +kernel⟩
theorem in_X6_told : Cond.instanceMethod yX6_told ∈ gT := gmk (sm_3 (List.mem_of_getElem? (i := 28) (by decide +kernel))) rfl
theorem se_X6_told : Cond.selects yX6_told.cls yX6_told yX6_told ∈ gT := gmk (sm_3 (List.mem_of_getElem? (i := 29) (by decide +kernel))) rfl
def yX6_pass : MethodName := ⟨zR6, "pass", "(I)I"⟩
abbrev bX6_pass : ByteArray := prog_1_method_12_code
theorem mf_X6_pass : MF yX6_pass bX6_pass 4 (Option.some Jvm.ClassFile.FieldType.int) 1 := ⟨gmk (sm_3 (List.mem_of_getElem? (i := 38) rfl)) rfl, gmk (sm_1 (List.mem_of_getElem? (i := 1) (by decide +kernel))) rfl, by decide +kernel, by decide +kernel, by decide +kernel⟩
theorem in_X6_pass : Cond.instanceMethod yX6_pass ∈ gT := gmk (sm_3 (List.mem_of_getElem? (i := 36) (by decide +kernel))) rfl
theorem se_X6_pass : Cond.selects yX6_pass.cls yX6_pass yX6_pass ∈ gT := gmk (sm_3 (List.mem_of_getElem? (i := 37) (by decide +kernel))) rfl
def yX6_on : MethodName := ⟨zR6, "on", "(II)I"⟩
abbrev bX6_on : ByteArray := prog_1_method_13_code
theorem mf_X6_on : MF yX6_on bX6_on 4 (Option.some Jvm.ClassFile.FieldType.int) 2 := ⟨gmk (sm_3 (List.mem_of_getElem? (i := 63) rfl)) rfl, gmk (sm_1 (List.mem_of_getElem? (i := 1) (by decide +kernel))) rfl, by decide +kernel, by decide +kernel, by decide +kernel⟩
theorem in_X6_on : Cond.instanceMethod yX6_on ∈ gT := gmk (sm_3 (List.mem_of_getElem? (i := 61) (by decide +kernel))) rfl
theorem se_X6_on : Cond.selects yX6_on.cls yX6_on yX6_on ∈ gT := gmk (sm_3 (List.mem_of_getElem? (i := 62) (by decide +kernel))) rfl
def yX6_lowest : MethodName := ⟨zR6, "lowest", "(II)I"⟩
abbrev bX6_lowest : ByteArray := prog_1_method_14_code
theorem mf_X6_lowest : MF yX6_lowest bX6_lowest 6 (Option.some Jvm.ClassFile.FieldType.int) 2 := ⟨gmk (sm_3 (List.mem_of_getElem? (i := 82) rfl)) rfl, gmk (sm_1 (List.mem_of_getElem? (i := 1) (by decide +kernel))) rfl, by decide +kernel, by decide +kernel, by decide +kernel⟩
theorem in_X6_lowest : Cond.instanceMethod yX6_lowest ∈ gT := gmk (sm_3 (List.mem_of_getElem? (i := 80) (by decide +kernel))) rfl
theorem se_X6_lowest : Cond.selects yX6_lowest.cls yX6_lowest yX6_lowest ∈ gT := gmk (sm_3 (List.mem_of_getElem? (i := 81) (by decide +kernel))) rfl
def yX6_first : MethodName := ⟨zR6, "first", "()I"⟩
abbrev bX6_first : ByteArray := prog_1_method_15_code
theorem mf_X6_first : MF yX6_first bX6_first 2 (Option.some Jvm.ClassFile.FieldType.int) 0 := ⟨gmk (sm_3 (List.mem_of_getElem? (i := 86) rfl)) rfl, gmk (sm_1 (List.mem_of_getElem? (i := 1) (by decide +kernel))) rfl, by decide +kernel, by decide +kernel, by decide +kernel⟩
theorem in_X6_first : Cond.instanceMethod yX6_first ∈ gT := gmk (sm_3 (List.mem_of_getElem? (i := 84) (by decide +kernel))) rfl
theorem se_X6_first : Cond.selects yX6_first.cls yX6_first yX6_first ∈ gT := gmk (sm_3 (List.mem_of_getElem? (i := 85) (by decide +kernel))) rfl
def yX6_best : MethodName := ⟨zR6, "best", "(I)I"⟩
abbrev bX6_best : ByteArray := prog_1_method_16_code
theorem mf_X6_best : MF yX6_best bX6_best 2 (Option.some Jvm.ClassFile.FieldType.int) 1 := ⟨gmk (sm_3 (List.mem_of_getElem? (i := 90) rfl)) rfl, gmk (sm_1 (List.mem_of_getElem? (i := 1) (by decide +kernel))) rfl, by decide +kernel, by decide +kernel, by decide +kernel⟩
theorem in_X6_best : Cond.instanceMethod yX6_best ∈ gT := gmk (sm_3 (List.mem_of_getElem? (i := 88) (by decide +kernel))) rfl
theorem se_X6_best : Cond.selects yX6_best.cls yX6_best yX6_best ∈ gT := gmk (sm_3 (List.mem_of_getElem? (i := 89) (by decide +kernel))) rfl
def yX6_seldom : MethodName := ⟨zR6, "seldom", "(I)I"⟩
abbrev bX6_seldom : ByteArray := prog_1_method_17_code
theorem mf_X6_seldom : MF yX6_seldom bX6_seldom 6 (Option.some Jvm.ClassFile.FieldType.int) 1 := ⟨gmk (sm_3 (List.mem_of_getElem? (i := 114) rfl)) rfl, gmk (sm_1 (List.mem_of_getElem? (i := 1) (by decide +kernel))) rfl, by decide +kernel, by decide +kernel, by decide +kernel⟩
theorem in_X6_seldom : Cond.instanceMethod yX6_seldom ∈ gT := gmk (sm_3 (List.mem_of_getElem? (i := 112) (by decide +kernel))) rfl
theorem se_X6_seldom : Cond.selects yX6_seldom.cls yX6_seldom yX6_seldom ∈ gT := gmk (sm_3 (List.mem_of_getElem? (i := 113) (by decide +kernel))) rfl
def yX6_more : MethodName := ⟨zR6, "more", "(I)I"⟩
abbrev bX6_more : ByteArray := prog_1_method_18_code
theorem mf_X6_more : MF yX6_more bX6_more 3 (Option.some Jvm.ClassFile.FieldType.int) 1 := ⟨gmk (sm_3 (List.mem_of_getElem? (i := 118) rfl)) rfl, gmk (sm_1 (List.mem_of_getElem? (i := 1) (by decide +kernel))) rfl, by decide +kernel, by decide +kernel, by decide +kernel⟩
theorem in_X6_more : Cond.instanceMethod yX6_more ∈ gT := gmk (sm_3 (List.mem_of_getElem? (i := 116) (by decide +kernel))) rfl
theorem se_X6_more : Cond.selects yX6_more.cls yX6_more yX6_more ∈ gT := gmk (sm_3 (List.mem_of_getElem? (i := 117) (by decide +kernel))) rfl
def yX6_see : MethodName := ⟨zR6, "see", "(II)I"⟩
abbrev bX6_see : ByteArray := prog_1_method_19_code
theorem mf_X6_see : MF yX6_see bX6_see 3 (Option.some Jvm.ClassFile.FieldType.int) 2 := ⟨gmk (sm_3 (List.mem_of_getElem? (i := 127) rfl)) rfl, gmk (sm_1 (List.mem_of_getElem? (i := 1) (by decide +kernel))) rfl, by decide +kernel, by decide +kernel, by decide +kernel⟩
theorem in_X6_see : Cond.instanceMethod yX6_see ∈ gT := gmk (sm_3 (List.mem_of_getElem? (i := 125) (by decide +kernel))) rfl
theorem se_X6_see : Cond.selects yX6_see.cls yX6_see yX6_see ∈ gT := gmk (sm_3 (List.mem_of_getElem? (i := 126) (by decide +kernel))) rfl
def yX6_wanted : MethodName := ⟨zR6, "wanted", "(II)I"⟩
abbrev bX6_wanted : ByteArray := prog_1_method_20_code
theorem mf_X6_wanted : MF yX6_wanted bX6_wanted 6 (Option.some Jvm.ClassFile.FieldType.int) 2 := ⟨gmk (sm_3 (List.mem_of_getElem? (i := 135) rfl)) rfl, gmk (sm_1 (List.mem_of_getElem? (i := 1) (by decide +kernel))) rfl, by decide +kernel, by decide +kernel, by decide +kernel⟩
theorem in_X6_wanted : Cond.instanceMethod yX6_wanted ∈ gT := gmk (sm_3 (List.mem_of_getElem? (i := 133) (by decide +kernel))) rfl
theorem se_X6_wanted : Cond.selects yX6_wanted.cls yX6_wanted yX6_wanted ∈ gT := gmk (sm_3 (List.mem_of_getElem? (i := 134) (by decide +kernel))) rfl
def yX6_can : MethodName := ⟨zR6, "can", "(II)I"⟩
abbrev bX6_can : ByteArray := prog_1_method_21_code
theorem mf_X6_can : MF yX6_can bX6_can 6 (Option.some Jvm.ClassFile.FieldType.int) 2 := ⟨gmk (sm_3 (List.mem_of_getElem? (i := 152) rfl)) rfl, gmk (sm_1 (List.mem_of_getElem? (i := 1) (by decide +kernel))) rfl, by decide +kernel, by decide +kernel, by decide +kernel⟩
theorem in_X6_can : Cond.instanceMethod yX6_can ∈ gT := gmk (sm_3 (List.mem_of_getElem? (i := 150) (by decide +kernel))) rfl
theorem se_X6_can : Cond.selects yX6_can.cls yX6_can yX6_can ∈ gT := gmk (sm_3 (List.mem_of_getElem? (i := 151) (by decide +kernel))) rfl
def yX6_odds : MethodName := ⟨zR6, "odds", "(II)J"⟩
abbrev bX6_odds : ByteArray := prog_1_method_22_code
theorem mf_X6_odds : MF yX6_odds bX6_odds 5 (Option.some Jvm.ClassFile.FieldType.long) 2 := ⟨gmk (sm_3 (List.mem_of_getElem? (i := 156) rfl)) rfl, gmk (sm_1 (List.mem_of_getElem? (i := 1) (by decide +kernel))) rfl, by decide +kernel, by decide +kernel, by decide +kernel⟩
theorem in_X6_odds : Cond.instanceMethod yX6_odds ∈ gT := gmk (sm_3 (List.mem_of_getElem? (i := 154) (by decide +kernel))) rfl
theorem se_X6_odds : Cond.selects yX6_odds.cls yX6_odds yX6_odds ∈ gT := gmk (sm_3 (List.mem_of_getElem? (i := 155) (by decide +kernel))) rfl
def yX6_mean : MethodName := ⟨zR6, "mean", "(II)J"⟩
abbrev bX6_mean : ByteArray := prog_1_method_23_code
theorem mf_X6_mean : MF yX6_mean bX6_mean 3 (Option.some Jvm.ClassFile.FieldType.long) 2 := ⟨gmk (sm_3 (List.mem_of_getElem? (i := 167) rfl)) rfl, gmk (sm_1 (List.mem_of_getElem? (i := 1) (by decide +kernel))) rfl, by decide +kernel, by decide +kernel, by decide +kernel⟩
theorem in_X6_mean : Cond.instanceMethod yX6_mean ∈ gT := gmk (sm_3 (List.mem_of_getElem? (i := 165) (by decide +kernel))) rfl
theorem se_X6_mean : Cond.selects yX6_mean.cls yX6_mean yX6_mean ∈ gT := gmk (sm_3 (List.mem_of_getElem? (i := 166) (by decide +kernel))) rfl
def yX6_year : MethodName := ⟨zR6, "year", "(II)I"⟩
abbrev bX6_year : ByteArray := prog_1_method_24_code
theorem mf_X6_year : MF yX6_year bX6_year 3 (Option.some Jvm.ClassFile.FieldType.int) 2 := ⟨gmk (sm_3 (List.mem_of_getElem? (i := 171) rfl)) rfl, gmk (sm_1 (List.mem_of_getElem? (i := 1) (by decide +kernel))) rfl, by decide +kernel, by decide +kernel, by decide +kernel⟩
theorem in_X6_year : Cond.instanceMethod yX6_year ∈ gT := gmk (sm_3 (List.mem_of_getElem? (i := 169) (by decide +kernel))) rfl
theorem se_X6_year : Cond.selects yX6_year.cls yX6_year yX6_year ∈ gT := gmk (sm_3 (List.mem_of_getElem? (i := 170) (by decide +kernel))) rfl
def yX6_gone : MethodName := ⟨zR6, "gone", "(I)I"⟩
abbrev bX6_gone : ByteArray := prog_1_method_25_code
theorem mf_X6_gone : MF yX6_gone bX6_gone 3 (Option.some Jvm.ClassFile.FieldType.int) 1 := ⟨gmk (sm_3 (List.mem_of_getElem? (i := 179) rfl)) rfl, gmk (sm_1 (List.mem_of_getElem? (i := 1) (by decide +kernel))) rfl, by decide +kernel, by decide +kernel, by decide +kernel⟩
theorem in_X6_gone : Cond.instanceMethod yX6_gone ∈ gT := gmk (sm_3 (List.mem_of_getElem? (i := 177) (by decide +kernel))) rfl
theorem se_X6_gone : Cond.selects yX6_gone.cls yX6_gone yX6_gone ∈ gT := gmk (sm_3 (List.mem_of_getElem? (i := 178) (by decide +kernel))) rfl
def yX6_book : MethodName := ⟨zR6, "book", "(II)I"⟩
abbrev bX6_book : ByteArray := prog_1_method_26_code
theorem mf_X6_book : MF yX6_book bX6_book 3 (Option.some Jvm.ClassFile.FieldType.int) 2 := ⟨gmk (sm_3 (List.mem_of_getElem? (i := 187) rfl)) rfl, gmk (sm_1 (List.mem_of_getElem? (i := 1) (by decide +kernel))) rfl, by decide +kernel, by decide +kernel, by decide +kernel⟩
theorem in_X6_book : Cond.instanceMethod yX6_book ∈ gT := gmk (sm_3 (List.mem_of_getElem? (i := 185) (by decide +kernel))) rfl
theorem se_X6_book : Cond.selects yX6_book.cls yX6_book yX6_book ∈ gT := gmk (sm_3 (List.mem_of_getElem? (i := 186) (by decide +kernel))) rfl
def yX6_looked : MethodName := ⟨zR6, "looked", "()I"⟩
abbrev bX6_looked : ByteArray := prog_1_method_27_code
theorem mf_X6_looked : MF yX6_looked bX6_looked 3 (Option.some Jvm.ClassFile.FieldType.int) 0 := ⟨gmk (sm_3 (List.mem_of_getElem? (i := 196) rfl)) rfl, gmk (sm_1 (List.mem_of_getElem? (i := 1) (by decide +kernel))) rfl, by decide +kernel, by decide +kernel, by decide +kernel⟩
theorem in_X6_looked : Cond.instanceMethod yX6_looked ∈ gT := gmk (sm_3 (List.mem_of_getElem? (i := 194) (by decide +kernel))) rfl
theorem se_X6_looked : Cond.selects yX6_looked.cls yX6_looked yX6_looked ∈ gT := gmk (sm_3 (List.mem_of_getElem? (i := 195) (by decide +kernel))) rfl
def yX6_judge : MethodName := ⟨zR6, "judge", "(II)I"⟩
abbrev bX6_judge : ByteArray := prog_1_method_28_code
theorem mf_X6_judge : MF yX6_judge bX6_judge 4 (Option.some Jvm.ClassFile.FieldType.int) 2 := ⟨gmk (sm_3 (List.mem_of_getElem? (i := 200) rfl)) rfl, gmk (sm_1 (List.mem_of_getElem? (i := 1) (by decide +kernel))) rfl, by decide +kernel, by decide +kernel, by decide +kernel⟩
theorem in_X6_judge : Cond.instanceMethod yX6_judge ∈ gT := gmk (sm_3 (List.mem_of_getElem? (i := 198) (by decide +kernel))) rfl
theorem se_X6_judge : Cond.selects yX6_judge.cls yX6_judge yX6_judge ∈ gT := gmk (sm_3 (List.mem_of_getElem? (i := 199) (by decide +kernel))) rfl
def yX6_image : MethodName := ⟨zR6, "image", "()I"⟩
abbrev bX6_image : ByteArray := prog_1_method_29_code
theorem mf_X6_image : MF yX6_image bX6_image 1 (Option.some Jvm.ClassFile.FieldType.int) 0 := ⟨gmk (sm_3 (List.mem_of_getElem? (i := 217) rfl)) rfl, gmk (sm_1 (List.mem_of_getElem? (i := 1) (by decide +kernel))) rfl, by decide +kernel, by decide +kernel, by decide +kernel⟩
theorem in_X6_image : Cond.instanceMethod yX6_image ∈ gT := gmk (sm_3 (List.mem_of_getElem? (i := 215) (by decide +kernel))) rfl
theorem se_X6_image : Cond.selects yX6_image.cls yX6_image yX6_image ∈ gT := gmk (sm_3 (List.mem_of_getElem? (i := 216) (by decide +kernel))) rfl
def yX6_undo : MethodName := ⟨zR6, "undo", "()I"⟩
abbrev bX6_undo : ByteArray := prog_1_method_30_code
theorem mf_X6_undo : MF yX6_undo bX6_undo 1 (Option.some Jvm.ClassFile.FieldType.int) 0 := ⟨gmk (sm_3 (List.mem_of_getElem? (i := 226) rfl)) rfl, gmk (sm_1 (List.mem_of_getElem? (i := 1) (by decide +kernel))) rfl, by decide +kernel, by decide +kernel, by decide +kernel⟩
theorem in_X6_undo : Cond.instanceMethod yX6_undo ∈ gT := gmk (sm_3 (List.mem_of_getElem? (i := 224) (by decide +kernel))) rfl
theorem se_X6_undo : Cond.selects yX6_undo.cls yX6_undo yX6_undo ∈ gT := gmk (sm_3 (List.mem_of_getElem? (i := 225) (by decide +kernel))) rfl
def yX6_act : MethodName := ⟨zR6, "act", "(III)I"⟩
abbrev bX6_act : ByteArray := prog_1_method_31_code
theorem mf_X6_act : MF yX6_act bX6_act 4 (Option.some Jvm.ClassFile.FieldType.int) 3 := ⟨gmk (sm_3 (List.mem_of_getElem? (i := 230) rfl)) rfl, gmk (sm_1 (List.mem_of_getElem? (i := 1) (by decide +kernel))) rfl, by decide +kernel, by decide +kernel, by decide +kernel⟩
theorem in_X6_act : Cond.instanceMethod yX6_act ∈ gT := gmk (sm_3 (List.mem_of_getElem? (i := 228) (by decide +kernel))) rfl
theorem se_X6_act : Cond.selects yX6_act.cls yX6_act yX6_act ∈ gT := gmk (sm_3 (List.mem_of_getElem? (i := 229) (by decide +kernel))) rfl
def yX6_trace : MethodName := ⟨zR6, "trace", "(I)I"⟩
abbrev bX6_trace : ByteArray := prog_1_method_32_code
theorem mf_X6_trace : MF yX6_trace bX6_trace 2 (Option.some Jvm.ClassFile.FieldType.int) 1 := ⟨gmk (sm_4 (List.mem_of_getElem? (i := 14) rfl)) rfl, gmk (sm_1 (List.mem_of_getElem? (i := 1) (by decide +kernel))) rfl, by decide +kernel, by decide +kernel, by decide +kernel⟩
theorem in_X6_trace : Cond.instanceMethod yX6_trace ∈ gT := gmk (sm_4 (List.mem_of_getElem? (i := 12) (by decide +kernel))) rfl
theorem se_X6_trace : Cond.selects yX6_trace.cls yX6_trace yX6_trace ∈ gT := gmk (sm_4 (List.mem_of_getElem? (i := 13) (by decide +kernel))) rfl
def yX6_taken : MethodName := ⟨zR6, "taken", "(II)I"⟩
abbrev bX6_taken : ByteArray := prog_1_method_33_code
theorem mf_X6_taken : MF yX6_taken bX6_taken 4 (Option.some Jvm.ClassFile.FieldType.int) 2 := ⟨gmk (sm_4 (List.mem_of_getElem? (i := 22) rfl)) rfl, gmk (sm_1 (List.mem_of_getElem? (i := 1) (by decide +kernel))) rfl, by decide +kernel, by decide +kernel, by decide +kernel⟩
theorem in_X6_taken : Cond.instanceMethod yX6_taken ∈ gT := gmk (sm_4 (List.mem_of_getElem? (i := 20) (by decide +kernel))) rfl
theorem se_X6_taken : Cond.selects yX6_taken.cls yX6_taken yX6_taken ∈ gT := gmk (sm_4 (List.mem_of_getElem? (i := 21) (by decide +kernel))) rfl
def yX6_count : MethodName := ⟨zR6, "count", "(I)I"⟩
abbrev bX6_count : ByteArray := prog_1_method_34_code
theorem mf_X6_count : MF yX6_count bX6_count 2 (Option.some Jvm.ClassFile.FieldType.int) 1 := ⟨gmk (sm_4 (List.mem_of_getElem? (i := 30) rfl)) rfl, gmk (sm_1 (List.mem_of_getElem? (i := 1) (by decide +kernel))) rfl, by decide +kernel, by decide +kernel, by decide +kernel⟩
theorem in_X6_count : Cond.instanceMethod yX6_count ∈ gT := gmk (sm_4 (List.mem_of_getElem? (i := 28) (by decide +kernel))) rfl
theorem se_X6_count : Cond.selects yX6_count.cls yX6_count yX6_count ∈ gT := gmk (sm_4 (List.mem_of_getElem? (i := 29) (by decide +kernel))) rfl
def yX6_tape : MethodName := ⟨zR6, "tape", "(III)I"⟩
abbrev bX6_tape : ByteArray := prog_1_method_35_code
theorem mf_X6_tape : MF yX6_tape bX6_tape 4 (Option.some Jvm.ClassFile.FieldType.int) 3 := ⟨gmk (sm_4 (List.mem_of_getElem? (i := 34) rfl)) rfl, gmk (sm_1 (List.mem_of_getElem? (i := 1) (by decide +kernel))) rfl, by decide +kernel, by decide +kernel, by decide +kernel⟩
theorem in_X6_tape : Cond.instanceMethod yX6_tape ∈ gT := gmk (sm_4 (List.mem_of_getElem? (i := 32) (by decide +kernel))) rfl
theorem se_X6_tape : Cond.selects yX6_tape.cls yX6_tape yX6_tape ∈ gT := gmk (sm_4 (List.mem_of_getElem? (i := 33) (by decide +kernel))) rfl
def yX6_item : MethodName := ⟨zR6, "item", "(IIJ)I"⟩
abbrev bX6_item : ByteArray := prog_1_method_36_code
theorem mf_X6_item : MF yX6_item bX6_item 5 (Option.some Jvm.ClassFile.FieldType.int) 3 := ⟨gmk (sm_4 (List.mem_of_getElem? (i := 42) rfl)) rfl, gmk (sm_1 (List.mem_of_getElem? (i := 1) (by decide +kernel))) rfl, by decide +kernel, by decide +kernel, by decide +kernel⟩
theorem in_X6_item : Cond.instanceMethod yX6_item ∈ gT := gmk (sm_4 (List.mem_of_getElem? (i := 40) (by decide +kernel))) rfl
theorem se_X6_item : Cond.selects yX6_item.cls yX6_item yX6_item ∈ gT := gmk (sm_4 (List.mem_of_getElem? (i := 41) (by decide +kernel))) rfl
def yX6_read : MethodName := ⟨zR6, "read", "(II)J"⟩
abbrev bX6_read : ByteArray := prog_1_method_37_code
theorem mf_X6_read : MF yX6_read bX6_read 3 (Option.some Jvm.ClassFile.FieldType.long) 2 := ⟨gmk (sm_4 (List.mem_of_getElem? (i := 49) rfl)) rfl, gmk (sm_1 (List.mem_of_getElem? (i := 1) (by decide +kernel))) rfl, by decide +kernel, by decide +kernel, by decide +kernel⟩
theorem in_X6_read : Cond.instanceMethod yX6_read ∈ gT := gmk (sm_4 (List.mem_of_getElem? (i := 47) (by decide +kernel))) rfl
theorem se_X6_read : Cond.selects yX6_read.cls yX6_read yX6_read ∈ gT := gmk (sm_4 (List.mem_of_getElem? (i := 48) (by decide +kernel))) rfl
def yX6_shift : MethodName := ⟨zR6, "shift", "(IIIII)I"⟩
abbrev bX6_shift : ByteArray := prog_1_method_38_code
theorem mf_X6_shift : MF yX6_shift bX6_shift 6 (Option.some Jvm.ClassFile.FieldType.int) 5 := ⟨gmk (sm_4 (List.mem_of_getElem? (i := 53) rfl)) rfl, gmk (sm_1 (List.mem_of_getElem? (i := 1) (by decide +kernel))) rfl, by decide +kernel, by decide +kernel, by decide +kernel⟩
theorem in_X6_shift : Cond.instanceMethod yX6_shift ∈ gT := gmk (sm_4 (List.mem_of_getElem? (i := 51) (by decide +kernel))) rfl
theorem se_X6_shift : Cond.selects yX6_shift.cls yX6_shift yX6_shift ∈ gT := gmk (sm_4 (List.mem_of_getElem? (i := 52) (by decide +kernel))) rfl
def yX6_within : MethodName := ⟨zR6, "within", "(III)Z"⟩
abbrev bX6_within : ByteArray := prog_1_method_39_code
theorem mf_X6_within : MF yX6_within bX6_within 3 (Option.some Jvm.ClassFile.FieldType.boolean) 3 := ⟨gmk (sm_2 (List.mem_of_getElem? (i := 62) rfl)) rfl, gmk (sm_1 (List.mem_of_getElem? (i := 1) (by decide +kernel))) rfl, by decide +kernel, by decide +kernel, by decide +kernel⟩
theorem st_X6_within : Cond.static yX6_within ∈ gT := gmk (sm_2 (List.mem_of_getElem? (i := 61) (by decide +kernel))) rfl
def yX6_askedDays : MethodName := ⟨zR6, "askedDays", "(I)Z"⟩
abbrev bX6_askedDays : ByteArray := prog_1_method_40_code
theorem mf_X6_askedDays : MF yX6_askedDays bX6_askedDays 1 (Option.some Jvm.ClassFile.FieldType.boolean) 1 := ⟨gmk (sm_3 (List.mem_of_getElem? (i := 41) rfl)) rfl, gmk (sm_1 (List.mem_of_getElem? (i := 1) (by decide +kernel))) rfl, by decide +kernel, by decide +kernel, by decide +kernel⟩
theorem st_X6_askedDays : Cond.static yX6_askedDays ∈ gT := gmk (sm_3 (List.mem_of_getElem? (i := 40) (by decide +kernel))) rfl
def yX6_known : MethodName := ⟨zR6, "known", "(I)Z"⟩
abbrev bX6_known : ByteArray := prog_1_method_41_code
theorem mf_X6_known : MF yX6_known bX6_known 2 (Option.some Jvm.ClassFile.FieldType.boolean) 1 := ⟨gmk (sm_2 (List.mem_of_getElem? (i := 74) rfl)) rfl, gmk (sm_1 (List.mem_of_getElem? (i := 1) (by decide +kernel))) rfl, by decide +kernel, by decide +kernel, by decide +kernel⟩
theorem in_X6_known : Cond.instanceMethod yX6_known ∈ gT := gmk (sm_2 (List.mem_of_getElem? (i := 73) (by decide +kernel))) rfl
theorem se_X6_known : Cond.selects yX6_known.cls yX6_known yX6_known ∈ gT := gm 0 (by decide +kernel) rfl
def yX6_rules : MethodName := ⟨zR6, "rules", "()LWellLendsDepth$Country;"⟩
abbrev bX6_rules : ByteArray := prog_1_method_42_code
theorem mf_X6_rules : MF yX6_rules bX6_rules 1 (Option.some (Jvm.ClassFile.FieldType.object "WellLendsDepth$Country")) 0 := ⟨gmk (sm_2 (List.mem_of_getElem? (i := 78) rfl)) rfl, gmk (sm_1 (List.mem_of_getElem? (i := 1) (by decide +kernel))) rfl, by decide +kernel, by decide +kernel, by decide +kernel⟩
theorem in_X6_rules : Cond.instanceMethod yX6_rules ∈ gT := gmk (sm_2 (List.mem_of_getElem? (i := 77) (by decide +kernel))) rfl
theorem se_X6_rules : Cond.selects yX6_rules.cls yX6_rules yX6_rules ∈ gT := gm 1 (by decide +kernel) rfl
def yX6_isUnder : MethodName := ⟨zR6, "isUnder", "(II)Z"⟩
abbrev bX6_isUnder : ByteArray := prog_1_method_43_code
theorem mf_X6_isUnder : MF yX6_isUnder bX6_isUnder 4 (Option.some Jvm.ClassFile.FieldType.boolean) 2 := ⟨gmk (sm_4 (List.mem_of_getElem? (i := 25) rfl)) rfl, gmk (sm_1 (List.mem_of_getElem? (i := 1) (by decide +kernel))) rfl, by decide +kernel, by decide +kernel, by decide +kernel⟩
theorem st_X6_isUnder : Cond.static yX6_isUnder ∈ gT := gmk (sm_4 (List.mem_of_getElem? (i := 24) (by decide +kernel))) rfl
def yX6_lowestTerms : MethodName := ⟨zR6, "lowestTerms", "(JJI)J"⟩
abbrev bX6_lowestTerms : ByteArray := prog_1_method_44_code
theorem mf_X6_lowestTerms : MF yX6_lowestTerms bX6_lowestTerms 7 (Option.some Jvm.ClassFile.FieldType.long) 3 := ⟨gmk (sm_3 (List.mem_of_getElem? (i := 160) rfl)) rfl, gmk (sm_1 (List.mem_of_getElem? (i := 1) (by decide +kernel))) rfl, by decide +kernel, by decide +kernel, by decide +kernel⟩
theorem st_X6_lowestTerms : Cond.static yX6_lowestTerms ∈ gT := gmk (sm_3 (List.mem_of_getElem? (i := 159) (by decide +kernel))) rfl
def yX6_commonDivisor : MethodName := ⟨zR6, "commonDivisor", "(JJ)J"⟩
abbrev bX6_commonDivisor : ByteArray := prog_1_method_45_code
theorem mf_X6_commonDivisor : MF yX6_commonDivisor bX6_commonDivisor 11 (Option.some Jvm.ClassFile.FieldType.long) 2 := ⟨gmk (sm_3 (List.mem_of_getElem? (i := 163) rfl)) rfl, gmk (sm_1 (List.mem_of_getElem? (i := 1) (by decide +kernel))) rfl, by decide +kernel, by decide +kernel, by decide +kernel⟩
theorem st_X6_commonDivisor : Cond.static yX6_commonDivisor ∈ gT := gmk (sm_3 (List.mem_of_getElem? (i := 162) (by decide +kernel))) rfl
def yX6_startTrial : MethodName := ⟨zR6, "startTrial", "()V"⟩
abbrev bX6_startTrial : ByteArray := prog_1_method_46_code
theorem mf_X6_startTrial : MF yX6_startTrial bX6_startTrial 1 (Option.none : Option Jvm.ClassFile.FieldType) 0 := ⟨gmk (sm_3 (List.mem_of_getElem? (i := 67) rfl)) rfl, gmk (sm_1 (List.mem_of_getElem? (i := 1) (by decide +kernel))) rfl, by decide +kernel, by decide +kernel, by decide +kernel⟩
theorem in_X6_startTrial : Cond.instanceMethod yX6_startTrial ∈ gT := gmk (sm_3 (List.mem_of_getElem? (i := 66) (by decide +kernel))) rfl
theorem se_X6_startTrial : Cond.selects yX6_startTrial.cls yX6_startTrial yX6_startTrial ∈ gT := gm 13 (by decide +kernel) rfl
def yX6_goTrial : MethodName := ⟨zR6, "goTrial", "(I)V"⟩
abbrev bX6_goTrial : ByteArray := prog_1_method_47_code
theorem mf_X6_goTrial : MF yX6_goTrial bX6_goTrial 4 (Option.none : Option Jvm.ClassFile.FieldType) 1 := ⟨gmk (sm_3 (List.mem_of_getElem? (i := 78) rfl)) rfl, gmk (sm_1 (List.mem_of_getElem? (i := 1) (by decide +kernel))) rfl, by decide +kernel, by decide +kernel, by decide +kernel⟩
theorem in_X6_goTrial : Cond.instanceMethod yX6_goTrial ∈ gT := gmk (sm_3 (List.mem_of_getElem? (i := 77) (by decide +kernel))) rfl
theorem se_X6_goTrial : Cond.selects yX6_goTrial.cls yX6_goTrial yX6_goTrial ∈ gT := gm 14 (by decide +kernel) rfl
def yX6_turnedOfTrial : MethodName := ⟨zR6, "turnedOfTrial", "(I)I"⟩
abbrev bX6_turnedOfTrial : ByteArray := prog_1_method_48_code
theorem mf_X6_turnedOfTrial : MF yX6_turnedOfTrial bX6_turnedOfTrial 4 (Option.some Jvm.ClassFile.FieldType.int) 1 := ⟨gmk (sm_3 (List.mem_of_getElem? (i := 98) rfl)) rfl, gmk (sm_1 (List.mem_of_getElem? (i := 1) (by decide +kernel))) rfl, by decide +kernel, by decide +kernel, by decide +kernel⟩
theorem in_X6_turnedOfTrial : Cond.instanceMethod yX6_turnedOfTrial ∈ gT := gmk (sm_3 (List.mem_of_getElem? (i := 97) (by decide +kernel))) rfl
theorem se_X6_turnedOfTrial : Cond.selects yX6_turnedOfTrial.cls yX6_turnedOfTrial yX6_turnedOfTrial ∈ gT := gm 16 (by decide +kernel) rfl
def yX6_turnedAsAllIs : MethodName := ⟨zR6, "turnedAsAllIs", "()I"⟩
abbrev bX6_turnedAsAllIs : ByteArray := prog_1_method_49_code
theorem mf_X6_turnedAsAllIs : MF yX6_turnedAsAllIs bX6_turnedAsAllIs 1 (Option.some Jvm.ClassFile.FieldType.int) 0 := ⟨gmk (sm_3 (List.mem_of_getElem? (i := 110) rfl)) rfl, gmk (sm_1 (List.mem_of_getElem? (i := 1) (by decide +kernel))) rfl, by decide +kernel, by decide +kernel, by decide +kernel⟩
theorem in_X6_turnedAsAllIs : Cond.instanceMethod yX6_turnedAsAllIs ∈ gT := gmk (sm_3 (List.mem_of_getElem? (i := 109) (by decide +kernel))) rfl
theorem se_X6_turnedAsAllIs : Cond.selects yX6_turnedAsAllIs.cls yX6_turnedAsAllIs yX6_turnedAsAllIs ∈ gT := gm 19 (by decide +kernel) rfl
def yX6_whomToCall : MethodName := ⟨zR6, "whomToCall", "()I"⟩
abbrev bX6_whomToCall : ByteArray := prog_1_method_50_code
theorem mf_X6_whomToCall : MF yX6_whomToCall bX6_whomToCall 6 (Option.some Jvm.ClassFile.FieldType.int) 0 := ⟨gmk (sm_3 (List.mem_of_getElem? (i := 94) rfl)) rfl, gmk (sm_1 (List.mem_of_getElem? (i := 1) (by decide +kernel))) rfl, by decide +kernel, by decide +kernel, by decide +kernel⟩
theorem in_X6_whomToCall : Cond.instanceMethod yX6_whomToCall ∈ gT := gmk (sm_3 (List.mem_of_getElem? (i := 93) (by decide +kernel))) rfl
theorem se_X6_whomToCall : Cond.selects yX6_whomToCall.cls yX6_whomToCall yX6_whomToCall ∈ gT := gm 15 (by decide +kernel) rfl
def yX6_whoComesAhead : MethodName := ⟨zR6, "whoComesAhead", "()I"⟩
abbrev bX6_whoComesAhead : ByteArray := prog_1_method_51_code
theorem mf_X6_whoComesAhead : MF yX6_whoComesAhead bX6_whoComesAhead 7 (Option.some Jvm.ClassFile.FieldType.int) 0 := ⟨gmk (sm_3 (List.mem_of_getElem? (i := 102) rfl)) rfl, gmk (sm_1 (List.mem_of_getElem? (i := 1) (by decide +kernel))) rfl, by decide +kernel, by decide +kernel, by decide +kernel⟩
theorem in_X6_whoComesAhead : Cond.instanceMethod yX6_whoComesAhead ∈ gT := gmk (sm_3 (List.mem_of_getElem? (i := 101) (by decide +kernel))) rfl
theorem se_X6_whoComesAhead : Cond.selects yX6_whoComesAhead.cls yX6_whoComesAhead yX6_whoComesAhead ∈ gT := gm 17 (by decide +kernel) rfl
def yX6_bestMark : MethodName := ⟨zR6, "bestMark", "()I"⟩
abbrev bX6_bestMark : ByteArray := prog_1_method_52_code
theorem mf_X6_bestMark : MF yX6_bestMark bX6_bestMark 5 (Option.some Jvm.ClassFile.FieldType.int) 0 := ⟨gmk (sm_3 (List.mem_of_getElem? (i := 106) rfl)) rfl, gmk (sm_1 (List.mem_of_getElem? (i := 1) (by decide +kernel))) rfl, by decide +kernel, by decide +kernel, by decide +kernel⟩
theorem in_X6_bestMark : Cond.instanceMethod yX6_bestMark ∈ gT := gmk (sm_3 (List.mem_of_getElem? (i := 105) (by decide +kernel))) rfl
theorem se_X6_bestMark : Cond.selects yX6_bestMark.cls yX6_bestMark yX6_bestMark ∈ gT := gm 18 (by decide +kernel) rfl
def yX6_nobodySentIn : MethodName := ⟨zR6, "nobodySentIn", "(II)Z"⟩
abbrev bX6_nobodySentIn : ByteArray := prog_1_method_53_code
theorem mf_X6_nobodySentIn : MF yX6_nobodySentIn bX6_nobodySentIn 5 (Option.some Jvm.ClassFile.FieldType.boolean) 2 := ⟨gmk (sm_3 (List.mem_of_getElem? (i := 123) rfl)) rfl, gmk (sm_1 (List.mem_of_getElem? (i := 1) (by decide +kernel))) rfl, by decide +kernel, by decide +kernel, by decide +kernel⟩
theorem in_X6_nobodySentIn : Cond.instanceMethod yX6_nobodySentIn ∈ gT := gmk (sm_3 (List.mem_of_getElem? (i := 122) (by decide +kernel))) rfl
theorem se_X6_nobodySentIn : Cond.selects yX6_nobodySentIn.cls yX6_nobodySentIn yX6_nobodySentIn ∈ gT := gm 20 (by decide +kernel) rfl
def yX6_trialShowsAllSeen : MethodName := ⟨zR6, "trialShowsAllSeen", "()Z"⟩
abbrev bX6_trialShowsAllSeen : ByteArray := prog_1_method_54_code
theorem mf_X6_trialShowsAllSeen : MF yX6_trialShowsAllSeen bX6_trialShowsAllSeen 3 (Option.some Jvm.ClassFile.FieldType.boolean) 0 := ⟨gmk (sm_3 (List.mem_of_getElem? (i := 139) rfl)) rfl, gmk (sm_1 (List.mem_of_getElem? (i := 1) (by decide +kernel))) rfl, by decide +kernel, by decide +kernel, by decide +kernel⟩
theorem in_X6_trialShowsAllSeen : Cond.instanceMethod yX6_trialShowsAllSeen ∈ gT := gmk (sm_3 (List.mem_of_getElem? (i := 138) (by decide +kernel))) rfl
theorem se_X6_trialShowsAllSeen : Cond.selects yX6_trialShowsAllSeen.cls yX6_trialShowsAllSeen yX6_trialShowsAllSeen ∈ gT := gm 21 (by decide +kernel) rfl
def yX6_goYearRow : MethodName := ⟨zR6, "goYearRow", "(II)V"⟩
abbrev bX6_goYearRow : ByteArray := prog_1_method_55_code
theorem mf_X6_goYearRow : MF yX6_goYearRow bX6_goYearRow 3 (Option.none : Option Jvm.ClassFile.FieldType) 2 := ⟨gmk (sm_3 (List.mem_of_getElem? (i := 183) rfl)) rfl, gmk (sm_1 (List.mem_of_getElem? (i := 1) (by decide +kernel))) rfl, by decide +kernel, by decide +kernel, by decide +kernel⟩
theorem in_X6_goYearRow : Cond.instanceMethod yX6_goYearRow ∈ gT := gmk (sm_3 (List.mem_of_getElem? (i := 182) (by decide +kernel))) rfl
theorem se_X6_goYearRow : Cond.selects yX6_goYearRow.cls yX6_goYearRow yX6_goYearRow ∈ gT := gm 22 (by decide +kernel) rfl
def yX7_init : MethodName := ⟨zR7, "<init>", "()V"⟩
abbrev bX7_init : ByteArray := prog_9_method_1_code
theorem mf_X7_init : MF yX7_init bX7_init 1 (Option.none : Option Jvm.ClassFile.FieldType) 0 := ⟨gmk (sm_4 (List.mem_of_getElem? (i := 63) rfl)) rfl, gmk (sm_1 (List.mem_of_getElem? (i := 8) (by decide +kernel))) rfl, by decide +kernel, by decide +kernel, by decide +kernel⟩
theorem in_X7_init : Cond.instanceMethod yX7_init ∈ gT := gmk (sm_4 (List.mem_of_getElem? (i := 62) (by decide +kernel))) rfl
def yX7_in : MethodName := ⟨zR7, "in", "(III)Z"⟩
abbrev bX7_in : ByteArray := prog_9_method_2_code
theorem mf_X7_in : MF yX7_in bX7_in 4 (Option.some Jvm.ClassFile.FieldType.boolean) 3 := ⟨gmk (sm_5 (List.mem_of_getElem? (i := 83) rfl)) rfl, gmk (sm_1 (List.mem_of_getElem? (i := 8) (by decide +kernel))) rfl, by decide +kernel, by decide +kernel, by decide +kernel⟩
theorem in_X7_in : Cond.instanceMethod yX7_in ∈ gT := gmk (sm_5 (List.mem_of_getElem? (i := 82) (by decide +kernel))) rfl
theorem se_X7_in : Cond.selects yX7_in.cls yX7_in yX7_in ∈ gT := gm 25 (by decide +kernel) rfl
def yX7_held : MethodName := ⟨zR7, "held", "(II)I"⟩
abbrev bX7_held : ByteArray := prog_9_method_3_code
theorem mf_X7_held : MF yX7_held bX7_held 3 (Option.some Jvm.ClassFile.FieldType.int) 2 := ⟨gmk (sm_5 (List.mem_of_getElem? (i := 131) rfl)) rfl, gmk (sm_1 (List.mem_of_getElem? (i := 8) (by decide +kernel))) rfl, by decide +kernel, by decide +kernel, by decide +kernel⟩
theorem in_X7_held : Cond.instanceMethod yX7_held ∈ gT := gmk (sm_5 (List.mem_of_getElem? (i := 130) (by decide +kernel))) rfl
theorem se_X7_held : Cond.selects yX7_held.cls yX7_held yX7_held ∈ gT := gm 32 (by decide +kernel) rfl
def yX7_isBorrower : MethodName := ⟨zR7, "isBorrower", "(I)Z"⟩
abbrev bX7_isBorrower : ByteArray := prog_9_method_4_code
theorem mf_X7_isBorrower : MF yX7_isBorrower bX7_isBorrower 2 (Option.some Jvm.ClassFile.FieldType.boolean) 1 := ⟨gmk (sm_5 (List.mem_of_getElem? (i := 99) rfl)) rfl, gmk (sm_1 (List.mem_of_getElem? (i := 8) (by decide +kernel))) rfl, by decide +kernel, by decide +kernel, by decide +kernel⟩
theorem in_X7_isBorrower : Cond.instanceMethod yX7_isBorrower ∈ gT := gmk (sm_5 (List.mem_of_getElem? (i := 98) (by decide +kernel))) rfl
theorem se_X7_isBorrower : Cond.selects yX7_isBorrower.cls yX7_isBorrower yX7_isBorrower ∈ gT := gm 28 (by decide +kernel) rfl
def yX7_isDepth : MethodName := ⟨zR7, "isDepth", "(I)Z"⟩
abbrev bX7_isDepth : ByteArray := prog_9_method_5_code
theorem mf_X7_isDepth : MF yX7_isDepth bX7_isDepth 2 (Option.some Jvm.ClassFile.FieldType.boolean) 1 := ⟨gmk (sm_5 (List.mem_of_getElem? (i := 111) rfl)) rfl, gmk (sm_1 (List.mem_of_getElem? (i := 8) (by decide +kernel))) rfl, by decide +kernel, by decide +kernel, by decide +kernel⟩
theorem in_X7_isDepth : Cond.instanceMethod yX7_isDepth ∈ gT := gmk (sm_5 (List.mem_of_getElem? (i := 110) (by decide +kernel))) rfl
theorem se_X7_isDepth : Cond.selects yX7_isDepth.cls yX7_isDepth yX7_isDepth ∈ gT := gm 29 (by decide +kernel) rfl
def yX7_isDays : MethodName := ⟨zR7, "isDays", "(I)Z"⟩
abbrev bX7_isDays : ByteArray := prog_9_method_6_code
theorem mf_X7_isDays : MF yX7_isDays bX7_isDays 2 (Option.some Jvm.ClassFile.FieldType.boolean) 1 := ⟨gmk (sm_6 (List.mem_of_getElem? (i := 19) rfl)) rfl, gmk (sm_1 (List.mem_of_getElem? (i := 8) (by decide +kernel))) rfl, by decide +kernel, by decide +kernel, by decide +kernel⟩
theorem in_X7_isDays : Cond.instanceMethod yX7_isDays ∈ gT := gmk (sm_6 (List.mem_of_getElem? (i := 18) (by decide +kernel))) rfl
theorem se_X7_isDays : Cond.selects yX7_isDays.cls yX7_isDays yX7_isDays ∈ gT := gm 59 (by decide +kernel) rfl
def yX7_isWants : MethodName := ⟨zR7, "isWants", "(I)Z"⟩
abbrev bX7_isWants : ByteArray := prog_9_method_7_code
theorem mf_X7_isWants : MF yX7_isWants bX7_isWants 2 (Option.some Jvm.ClassFile.FieldType.boolean) 1 := ⟨gmk (sm_5 (List.mem_of_getElem? (i := 87) rfl)) rfl, gmk (sm_1 (List.mem_of_getElem? (i := 8) (by decide +kernel))) rfl, by decide +kernel, by decide +kernel, by decide +kernel⟩
theorem in_X7_isWants : Cond.instanceMethod yX7_isWants ∈ gT := gmk (sm_5 (List.mem_of_getElem? (i := 86) (by decide +kernel))) rfl
theorem se_X7_isWants : Cond.selects yX7_isWants.cls yX7_isWants yX7_isWants ∈ gT := gm 26 (by decide +kernel) rfl
def yX7_isEvery : MethodName := ⟨zR7, "isEvery", "(I)Z"⟩
abbrev bX7_isEvery : ByteArray := prog_9_method_8_code
theorem mf_X7_isEvery : MF yX7_isEvery bX7_isEvery 2 (Option.some Jvm.ClassFile.FieldType.boolean) 1 := ⟨gmk (sm_5 (List.mem_of_getElem? (i := 91) rfl)) rfl, gmk (sm_1 (List.mem_of_getElem? (i := 8) (by decide +kernel))) rfl, by decide +kernel, by decide +kernel, by decide +kernel⟩
theorem in_X7_isEvery : Cond.instanceMethod yX7_isEvery ∈ gT := gmk (sm_5 (List.mem_of_getElem? (i := 90) (by decide +kernel))) rfl
theorem se_X7_isEvery : Cond.selects yX7_isEvery.cls yX7_isEvery yX7_isEvery ∈ gT := gm 27 (by decide +kernel) rfl
def yX7_borrower : MethodName := ⟨zR7, "borrower", "(IIII)I"⟩
abbrev bX7_borrower : ByteArray := prog_9_method_9_code
theorem mf_X7_borrower : MF yX7_borrower bX7_borrower 6 (Option.some Jvm.ClassFile.FieldType.int) 4 := ⟨gmk (sm_5 (List.mem_of_getElem? (i := 79) rfl)) rfl, gmk (sm_1 (List.mem_of_getElem? (i := 8) (by decide +kernel))) rfl, by decide +kernel, by decide +kernel, by decide +kernel⟩
theorem in_X7_borrower : Cond.instanceMethod yX7_borrower ∈ gT := gmk (sm_5 (List.mem_of_getElem? (i := 77) (by decide +kernel))) rfl
theorem se_X7_borrower : Cond.selects yX7_borrower.cls yX7_borrower yX7_borrower ∈ gT := gmk (sm_5 (List.mem_of_getElem? (i := 78) (by decide +kernel))) rfl
def yX7_set : MethodName := ⟨zR7, "set", "(III)I"⟩
abbrev bX7_set : ByteArray := prog_9_method_10_code
theorem mf_X7_set : MF yX7_set bX7_set 5 (Option.some Jvm.ClassFile.FieldType.int) 3 := ⟨gmk (sm_5 (List.mem_of_getElem? (i := 95) rfl)) rfl, gmk (sm_1 (List.mem_of_getElem? (i := 8) (by decide +kernel))) rfl, by decide +kernel, by decide +kernel, by decide +kernel⟩
theorem in_X7_set : Cond.instanceMethod yX7_set ∈ gT := gmk (sm_5 (List.mem_of_getElem? (i := 93) (by decide +kernel))) rfl
theorem se_X7_set : Cond.selects yX7_set.cls yX7_set yX7_set ∈ gT := gmk (sm_5 (List.mem_of_getElem? (i := 94) (by decide +kernel))) rfl
def yX7_row : MethodName := ⟨zR7, "row", "(III)I"⟩
abbrev bX7_row : ByteArray := prog_9_method_11_code
theorem mf_X7_row : MF yX7_row bX7_row 5 (Option.some Jvm.ClassFile.FieldType.int) 3 := ⟨gmk (sm_5 (List.mem_of_getElem? (i := 103) rfl)) rfl, gmk (sm_1 (List.mem_of_getElem? (i := 8) (by decide +kernel))) rfl, by decide +kernel, by decide +kernel, by decide +kernel⟩
theorem in_X7_row : Cond.instanceMethod yX7_row ∈ gT := gmk (sm_5 (List.mem_of_getElem? (i := 101) (by decide +kernel))) rfl
theorem se_X7_row : Cond.selects yX7_row.cls yX7_row yX7_row ∈ gT := gmk (sm_5 (List.mem_of_getElem? (i := 102) (by decide +kernel))) rfl
def yX7_depth : MethodName := ⟨zR7, "depth", "(I)I"⟩
abbrev bX7_depth : ByteArray := prog_9_method_12_code
theorem mf_X7_depth : MF yX7_depth bX7_depth 3 (Option.some Jvm.ClassFile.FieldType.int) 1 := ⟨gmk (sm_5 (List.mem_of_getElem? (i := 107) rfl)) rfl, gmk (sm_1 (List.mem_of_getElem? (i := 8) (by decide +kernel))) rfl, by decide +kernel, by decide +kernel, by decide +kernel⟩
theorem in_X7_depth : Cond.instanceMethod yX7_depth ∈ gT := gmk (sm_5 (List.mem_of_getElem? (i := 105) (by decide +kernel))) rfl
theorem se_X7_depth : Cond.selects yX7_depth.cls yX7_depth yX7_depth ∈ gT := gmk (sm_5 (List.mem_of_getElem? (i := 106) (by decide +kernel))) rfl
def yX7_changes : MethodName := ⟨zR7, "changes", "(II)V"⟩
abbrev bX7_changes : ByteArray := prog_9_method_13_code
theorem mf_X7_changes : MF yX7_changes bX7_changes 4 (Option.none : Option Jvm.ClassFile.FieldType) 2 := ⟨gmk (sm_5 (List.mem_of_getElem? (i := 119) rfl)) rfl, gmk (sm_1 (List.mem_of_getElem? (i := 8) (by decide +kernel))) rfl, by decide +kernel, by decide +kernel, by decide +kernel⟩
theorem in_X7_changes : Cond.instanceMethod yX7_changes ∈ gT := gmk (sm_5 (List.mem_of_getElem? (i := 118) (by decide +kernel))) rfl
theorem se_X7_changes : Cond.selects yX7_changes.cls yX7_changes yX7_changes ∈ gT := gm 30 (by decide +kernel) rfl
def yX7_change : MethodName := ⟨zR7, "change", "(II)I"⟩
abbrev bX7_change : ByteArray := prog_9_method_14_code
theorem mf_X7_change : MF yX7_change bX7_change 3 (Option.some Jvm.ClassFile.FieldType.int) 2 := ⟨gmk (sm_5 (List.mem_of_getElem? (i := 115) rfl)) rfl, gmk (sm_1 (List.mem_of_getElem? (i := 8) (by decide +kernel))) rfl, by decide +kernel, by decide +kernel, by decide +kernel⟩
theorem in_X7_change : Cond.instanceMethod yX7_change ∈ gT := gmk (sm_5 (List.mem_of_getElem? (i := 113) (by decide +kernel))) rfl
theorem se_X7_change : Cond.selects yX7_change.cls yX7_change yX7_change ∈ gT := gmk (sm_5 (List.mem_of_getElem? (i := 114) (by decide +kernel))) rfl
def yX7_calls : MethodName := ⟨zR7, "calls", "(I)V"⟩
abbrev bX7_calls : ByteArray := prog_9_method_15_code
theorem mf_X7_calls : MF yX7_calls bX7_calls 2 (Option.none : Option Jvm.ClassFile.FieldType) 1 := ⟨gmk (sm_5 (List.mem_of_getElem? (i := 127) rfl)) rfl, gmk (sm_1 (List.mem_of_getElem? (i := 8) (by decide +kernel))) rfl, by decide +kernel, by decide +kernel, by decide +kernel⟩
theorem in_X7_calls : Cond.instanceMethod yX7_calls ∈ gT := gmk (sm_5 (List.mem_of_getElem? (i := 126) (by decide +kernel))) rfl
theorem se_X7_calls : Cond.selects yX7_calls.cls yX7_calls yX7_calls ∈ gT := gm 31 (by decide +kernel) rfl
def yX7_call : MethodName := ⟨zR7, "call", "(I)I"⟩
abbrev bX7_call : ByteArray := prog_9_method_16_code
theorem mf_X7_call : MF yX7_call bX7_call 3 (Option.some Jvm.ClassFile.FieldType.int) 1 := ⟨gmk (sm_5 (List.mem_of_getElem? (i := 123) rfl)) rfl, gmk (sm_1 (List.mem_of_getElem? (i := 8) (by decide +kernel))) rfl, by decide +kernel, by decide +kernel, by decide +kernel⟩
theorem in_X7_call : Cond.instanceMethod yX7_call ∈ gT := gmk (sm_5 (List.mem_of_getElem? (i := 121) (by decide +kernel))) rfl
theorem se_X7_call : Cond.selects yX7_call.cls yX7_call yX7_call ∈ gT := gmk (sm_5 (List.mem_of_getElem? (i := 122) (by decide +kernel))) rfl
def yX7_feed : MethodName := ⟨zR7, "feed", "(I)I"⟩
abbrev bX7_feed : ByteArray := prog_9_method_17_code
theorem mf_X7_feed : MF yX7_feed bX7_feed 2 (Option.some Jvm.ClassFile.FieldType.int) 1 := ⟨gmk (sm_5 (List.mem_of_getElem? (i := 135) rfl)) rfl, gmk (sm_1 (List.mem_of_getElem? (i := 8) (by decide +kernel))) rfl, by decide +kernel, by decide +kernel, by decide +kernel⟩
theorem in_X7_feed : Cond.instanceMethod yX7_feed ∈ gT := gmk (sm_5 (List.mem_of_getElem? (i := 133) (by decide +kernel))) rfl
theorem se_X7_feed : Cond.selects yX7_feed.cls yX7_feed yX7_feed ∈ gT := gmk (sm_5 (List.mem_of_getElem? (i := 134) (by decide +kernel))) rfl
def yX7_next : MethodName := ⟨zR7, "next", "()I"⟩
abbrev bX7_next : ByteArray := prog_9_method_18_code
theorem mf_X7_next : MF yX7_next bX7_next 1 (Option.some Jvm.ClassFile.FieldType.int) 0 := ⟨gmk (sm_5 (List.mem_of_getElem? (i := 155) rfl)) rfl, gmk (sm_1 (List.mem_of_getElem? (i := 8) (by decide +kernel))) rfl, by decide +kernel, by decide +kernel, by decide +kernel⟩
theorem in_X7_next : Cond.instanceMethod yX7_next ∈ gT := gmk (sm_5 (List.mem_of_getElem? (i := 154) (by decide +kernel))) rfl
theorem se_X7_next : Cond.selects yX7_next.cls yX7_next yX7_next ∈ gT := gm 36 (by decide +kernel) rfl
def yX7_takes : MethodName := ⟨zR7, "takes", "(I)Z"⟩
abbrev bX7_takes : ByteArray := prog_9_method_19_code
theorem mf_X7_takes : MF yX7_takes bX7_takes 2 (Option.some Jvm.ClassFile.FieldType.boolean) 1 := ⟨gmk (sm_5 (List.mem_of_getElem? (i := 163) rfl)) rfl, gmk (sm_1 (List.mem_of_getElem? (i := 8) (by decide +kernel))) rfl, by decide +kernel, by decide +kernel, by decide +kernel⟩
theorem in_X7_takes : Cond.instanceMethod yX7_takes ∈ gT := gmk (sm_5 (List.mem_of_getElem? (i := 162) (by decide +kernel))) rfl
theorem se_X7_takes : Cond.selects yX7_takes.cls yX7_takes yX7_takes ∈ gT := gm 38 (by decide +kernel) rfl
def yX7_takesWord : MethodName := ⟨zR7, "takesWord", "(II)Z"⟩
abbrev bX7_takesWord : ByteArray := prog_9_method_20_code
theorem mf_X7_takesWord : MF yX7_takesWord bX7_takesWord 4 (Option.some Jvm.ClassFile.FieldType.boolean) 2 := ⟨gmk (sm_5 (List.mem_of_getElem? (i := 159) rfl)) rfl, gmk (sm_1 (List.mem_of_getElem? (i := 8) (by decide +kernel))) rfl, by decide +kernel, by decide +kernel, by decide +kernel⟩
theorem in_X7_takesWord : Cond.instanceMethod yX7_takesWord ∈ gT := gmk (sm_5 (List.mem_of_getElem? (i := 158) (by decide +kernel))) rfl
theorem se_X7_takesWord : Cond.selects yX7_takesWord.cls yX7_takesWord yX7_takesWord ∈ gT := gm 37 (by decide +kernel) rfl
def yX7_isDigit : MethodName := ⟨zR7, "isDigit", "()Z"⟩
abbrev bX7_isDigit : ByteArray := prog_9_method_21_code
theorem mf_X7_isDigit : MF yX7_isDigit bX7_isDigit 1 (Option.some Jvm.ClassFile.FieldType.boolean) 0 := ⟨gmk (sm_5 (List.mem_of_getElem? (i := 171) rfl)) rfl, gmk (sm_1 (List.mem_of_getElem? (i := 8) (by decide +kernel))) rfl, by decide +kernel, by decide +kernel, by decide +kernel⟩
theorem in_X7_isDigit : Cond.instanceMethod yX7_isDigit ∈ gT := gmk (sm_5 (List.mem_of_getElem? (i := 170) (by decide +kernel))) rfl
theorem se_X7_isDigit : Cond.selects yX7_isDigit.cls yX7_isDigit yX7_isDigit ∈ gT := gm 40 (by decide +kernel) rfl
def yX7_takesNumber : MethodName := ⟨zR7, "takesNumber", "()Z"⟩
abbrev bX7_takesNumber : ByteArray := prog_9_method_22_code
theorem mf_X7_takesNumber : MF yX7_takesNumber bX7_takesNumber 2 (Option.some Jvm.ClassFile.FieldType.boolean) 0 := ⟨gmk (sm_5 (List.mem_of_getElem? (i := 167) rfl)) rfl, gmk (sm_1 (List.mem_of_getElem? (i := 8) (by decide +kernel))) rfl, by decide +kernel, by decide +kernel, by decide +kernel⟩
theorem in_X7_takesNumber : Cond.instanceMethod yX7_takesNumber ∈ gT := gmk (sm_5 (List.mem_of_getElem? (i := 166) (by decide +kernel))) rfl
theorem se_X7_takesNumber : Cond.selects yX7_takesNumber.cls yX7_takesNumber yX7_takesNumber ∈ gT := gm 39 (by decide +kernel) rfl
def yX7_emits : MethodName := ⟨zR7, "emits", "(I)V"⟩
abbrev bX7_emits : ByteArray := prog_9_method_23_code
theorem mf_X7_emits : MF yX7_emits bX7_emits 2 (Option.none : Option Jvm.ClassFile.FieldType) 1 := ⟨gmk (sm_5 (List.mem_of_getElem? (i := 187) rfl)) rfl, gmk (sm_1 (List.mem_of_getElem? (i := 8) (by decide +kernel))) rfl, by decide +kernel, by decide +kernel, by decide +kernel⟩
theorem in_X7_emits : Cond.instanceMethod yX7_emits ∈ gT := gmk (sm_5 (List.mem_of_getElem? (i := 186) (by decide +kernel))) rfl
theorem se_X7_emits : Cond.selects yX7_emits.cls yX7_emits yX7_emits ∈ gT := gm 44 (by decide +kernel) rfl
def yX7_whole : MethodName := ⟨zR7, "whole", "()V"⟩
abbrev bX7_whole : ByteArray := prog_9_method_24_code
theorem mf_X7_whole : MF yX7_whole bX7_whole 1 (Option.none : Option Jvm.ClassFile.FieldType) 0 := ⟨gmk (sm_5 (List.mem_of_getElem? (i := 191) rfl)) rfl, gmk (sm_1 (List.mem_of_getElem? (i := 8) (by decide +kernel))) rfl, by decide +kernel, by decide +kernel, by decide +kernel⟩
theorem in_X7_whole : Cond.instanceMethod yX7_whole ∈ gT := gmk (sm_5 (List.mem_of_getElem? (i := 190) (by decide +kernel))) rfl
theorem se_X7_whole : Cond.selects yX7_whole.cls yX7_whole yX7_whole ∈ gT := gm 45 (by decide +kernel) rfl
def yX7_settle : MethodName := ⟨zR7, "settle", "(I)V"⟩
abbrev bX7_settle : ByteArray := prog_9_method_25_code
theorem mf_X7_settle : MF yX7_settle bX7_settle 2 (Option.none : Option Jvm.ClassFile.FieldType) 1 := ⟨gmk (sm_5 (List.mem_of_getElem? (i := 195) rfl)) rfl, gmk (sm_1 (List.mem_of_getElem? (i := 8) (by decide +kernel))) rfl, by decide +kernel, by decide +kernel, by decide +kernel⟩
theorem in_X7_settle : Cond.instanceMethod yX7_settle ∈ gT := gmk (sm_5 (List.mem_of_getElem? (i := 194) (by decide +kernel))) rfl
theorem se_X7_settle : Cond.selects yX7_settle.cls yX7_settle yX7_settle ∈ gT := gm 46 (by decide +kernel) rfl
def yX7_place : MethodName := ⟨zR7, "place", "(I)I"⟩
abbrev bX7_place : ByteArray := prog_9_method_26_code
theorem mf_X7_place : MF yX7_place bX7_place 2 (Option.some Jvm.ClassFile.FieldType.int) 1 := ⟨gmk (sm_5 (List.mem_of_getElem? (i := 183) rfl)) rfl, gmk (sm_1 (List.mem_of_getElem? (i := 8) (by decide +kernel))) rfl, by decide +kernel, by decide +kernel, by decide +kernel⟩
theorem in_X7_place : Cond.instanceMethod yX7_place ∈ gT := gmk (sm_5 (List.mem_of_getElem? (i := 182) (by decide +kernel))) rfl
theorem se_X7_place : Cond.selects yX7_place.cls yX7_place yX7_place ∈ gT := gm 43 (by decide +kernel) rfl
def yX7_takesTest : MethodName := ⟨zR7, "takesTest", "()Z"⟩
abbrev bX7_takesTest : ByteArray := prog_9_method_27_code
theorem mf_X7_takesTest : MF yX7_takesTest bX7_takesTest 3 (Option.some Jvm.ClassFile.FieldType.boolean) 0 := ⟨gmk (sm_5 (List.mem_of_getElem? (i := 179) rfl)) rfl, gmk (sm_1 (List.mem_of_getElem? (i := 8) (by decide +kernel))) rfl, by decide +kernel, by decide +kernel, by decide +kernel⟩
theorem in_X7_takesTest : Cond.instanceMethod yX7_takesTest ∈ gT := gmk (sm_5 (List.mem_of_getElem? (i := 178) (by decide +kernel))) rfl
theorem se_X7_takesTest : Cond.selects yX7_takesTest.cls yX7_takesTest yX7_takesTest ∈ gT := gm 42 (by decide +kernel) rfl
def yX7_takesE : MethodName := ⟨zR7, "takesE", "(I)Z"⟩
abbrev bX7_takesE : ByteArray := prog_9_method_28_code
theorem mf_X7_takesE : MF yX7_takesE bX7_takesE 4 (Option.some Jvm.ClassFile.FieldType.boolean) 1 := ⟨gmk (sm_5 (List.mem_of_getElem? (i := 175) rfl)) rfl, gmk (sm_1 (List.mem_of_getElem? (i := 8) (by decide +kernel))) rfl, by decide +kernel, by decide +kernel, by decide +kernel⟩
theorem in_X7_takesE : Cond.instanceMethod yX7_takesE ∈ gT := gmk (sm_5 (List.mem_of_getElem? (i := 174) (by decide +kernel))) rfl
theorem se_X7_takesE : Cond.selects yX7_takesE.cls yX7_takesE yX7_takesE ∈ gT := gm 41 (by decide +kernel) rfl
def yX7_takesHead : MethodName := ⟨zR7, "takesHead", "(I)Z"⟩
abbrev bX7_takesHead : ByteArray := prog_9_method_29_code
theorem mf_X7_takesHead : MF yX7_takesHead bX7_takesHead 2 (Option.some Jvm.ClassFile.FieldType.boolean) 1 := ⟨gmk (sm_5 (List.mem_of_getElem? (i := 151) rfl)) rfl, gmk (sm_1 (List.mem_of_getElem? (i := 8) (by decide +kernel))) rfl, by decide +kernel, by decide +kernel, by decide +kernel⟩
theorem in_X7_takesHead : Cond.instanceMethod yX7_takesHead ∈ gT := gmk (sm_5 (List.mem_of_getElem? (i := 150) (by decide +kernel))) rfl
theorem se_X7_takesHead : Cond.selects yX7_takesHead.cls yX7_takesHead yX7_takesHead ∈ gT := gm 35 (by decide +kernel) rfl
def yX7_takesClause : MethodName := ⟨zR7, "takesClause", "(I)Z"⟩
abbrev bX7_takesClause : ByteArray := prog_9_method_30_code
theorem mf_X7_takesClause : MF yX7_takesClause bX7_takesClause 2 (Option.some Jvm.ClassFile.FieldType.boolean) 1 := ⟨gmk (sm_5 (List.mem_of_getElem? (i := 147) rfl)) rfl, gmk (sm_1 (List.mem_of_getElem? (i := 8) (by decide +kernel))) rfl, by decide +kernel, by decide +kernel, by decide +kernel⟩
theorem in_X7_takesClause : Cond.instanceMethod yX7_takesClause ∈ gT := gmk (sm_5 (List.mem_of_getElem? (i := 146) (by decide +kernel))) rfl
theorem se_X7_takesClause : Cond.selects yX7_takesClause.cls yX7_takesClause yX7_takesClause ∈ gT := gm 34 (by decide +kernel) rfl
def yX7_goesText : MethodName := ⟨zR7, "goesText", "(I)Z"⟩
abbrev bX7_goesText : ByteArray := prog_9_method_31_code
theorem mf_X7_goesText : MF yX7_goesText bX7_goesText 3 (Option.some Jvm.ClassFile.FieldType.boolean) 1 := ⟨gmk (sm_5 (List.mem_of_getElem? (i := 143) rfl)) rfl, gmk (sm_1 (List.mem_of_getElem? (i := 8) (by decide +kernel))) rfl, by decide +kernel, by decide +kernel, by decide +kernel⟩
theorem in_X7_goesText : Cond.instanceMethod yX7_goesText ∈ gT := gmk (sm_5 (List.mem_of_getElem? (i := 142) (by decide +kernel))) rfl
theorem se_X7_goesText : Cond.selects yX7_goesText.cls yX7_goesText yX7_goesText ∈ gT := gm 33 (by decide +kernel) rfl
def yX7_country : MethodName := ⟨zR7, "country", "()I"⟩
abbrev bX7_country : ByteArray := prog_9_method_32_code
theorem mf_X7_country : MF yX7_country bX7_country 2 (Option.some Jvm.ClassFile.FieldType.int) 0 := ⟨gmk (sm_5 (List.mem_of_getElem? (i := 139) rfl)) rfl, gmk (sm_1 (List.mem_of_getElem? (i := 8) (by decide +kernel))) rfl, by decide +kernel, by decide +kernel, by decide +kernel⟩
theorem in_X7_country : Cond.instanceMethod yX7_country ∈ gT := gmk (sm_5 (List.mem_of_getElem? (i := 137) (by decide +kernel))) rfl
theorem se_X7_country : Cond.selects yX7_country.cls yX7_country yX7_country ∈ gT := gmk (sm_5 (List.mem_of_getElem? (i := 138) (by decide +kernel))) rfl
def yX7_begin : MethodName := ⟨zR7, "begin", "()I"⟩
abbrev bX7_begin : ByteArray := prog_9_method_33_code
theorem mf_X7_begin : MF yX7_begin bX7_begin 1 (Option.some Jvm.ClassFile.FieldType.int) 0 := ⟨gmk (sm_5 (List.mem_of_getElem? (i := 207) rfl)) rfl, gmk (sm_1 (List.mem_of_getElem? (i := 8) (by decide +kernel))) rfl, by decide +kernel, by decide +kernel, by decide +kernel⟩
theorem in_X7_begin : Cond.instanceMethod yX7_begin ∈ gT := gmk (sm_5 (List.mem_of_getElem? (i := 206) (by decide +kernel))) rfl
theorem se_X7_begin : Cond.selects yX7_begin.cls yX7_begin yX7_begin ∈ gT := gm 48 (by decide +kernel) rfl
def yX7_behind : MethodName := ⟨zR7, "behind", "()I"⟩
abbrev bX7_behind : ByteArray := prog_9_method_34_code
theorem mf_X7_behind : MF yX7_behind bX7_behind 1 (Option.some Jvm.ClassFile.FieldType.int) 0 := ⟨gmk (sm_5 (List.mem_of_getElem? (i := 211) rfl)) rfl, gmk (sm_1 (List.mem_of_getElem? (i := 8) (by decide +kernel))) rfl, by decide +kernel, by decide +kernel, by decide +kernel⟩
theorem in_X7_behind : Cond.instanceMethod yX7_behind ∈ gT := gmk (sm_5 (List.mem_of_getElem? (i := 210) (by decide +kernel))) rfl
theorem se_X7_behind : Cond.selects yX7_behind.cls yX7_behind yX7_behind ∈ gT := gm 49 (by decide +kernel) rfl
def yX7_lastOf : MethodName := ⟨zR7, "lastOf", "(II)I"⟩
abbrev bX7_lastOf : ByteArray := prog_9_method_35_code
theorem mf_X7_lastOf : MF yX7_lastOf bX7_lastOf 5 (Option.some Jvm.ClassFile.FieldType.int) 2 := ⟨gmk (sm_5 (List.mem_of_getElem? (i := 231) rfl)) rfl, gmk (sm_1 (List.mem_of_getElem? (i := 8) (by decide +kernel))) rfl, by decide +kernel, by decide +kernel, by decide +kernel⟩
theorem in_X7_lastOf : Cond.instanceMethod yX7_lastOf ∈ gT := gmk (sm_5 (List.mem_of_getElem? (i := 230) (by decide +kernel))) rfl
theorem se_X7_lastOf : Cond.selects yX7_lastOf.cls yX7_lastOf yX7_lastOf ∈ gT := gm 54 (by decide +kernel) rfl
def yX7_mark : MethodName := ⟨zR7, "mark", "()I"⟩
abbrev bX7_mark : ByteArray := prog_9_method_36_code
theorem mf_X7_mark : MF yX7_mark bX7_mark 1 (Option.some Jvm.ClassFile.FieldType.int) 0 := ⟨gmk (sm_5 (List.mem_of_getElem? (i := 227) rfl)) rfl, gmk (sm_1 (List.mem_of_getElem? (i := 8) (by decide +kernel))) rfl, by decide +kernel, by decide +kernel, by decide +kernel⟩
theorem in_X7_mark : Cond.instanceMethod yX7_mark ∈ gT := gmk (sm_5 (List.mem_of_getElem? (i := 226) (by decide +kernel))) rfl
theorem se_X7_mark : Cond.selects yX7_mark.cls yX7_mark yX7_mark ∈ gT := gm 53 (by decide +kernel) rfl
def yX7_factOf : MethodName := ⟨zR7, "factOf", "(II)I"⟩
abbrev bX7_factOf : ByteArray := prog_9_method_37_code
theorem mf_X7_factOf : MF yX7_factOf bX7_factOf 3 (Option.some Jvm.ClassFile.FieldType.int) 2 := ⟨gmk (sm_5 (List.mem_of_getElem? (i := 219) rfl)) rfl, gmk (sm_1 (List.mem_of_getElem? (i := 8) (by decide +kernel))) rfl, by decide +kernel, by decide +kernel, by decide +kernel⟩
theorem in_X7_factOf : Cond.instanceMethod yX7_factOf ∈ gT := gmk (sm_5 (List.mem_of_getElem? (i := 218) (by decide +kernel))) rfl
theorem se_X7_factOf : Cond.selects yX7_factOf.cls yX7_factOf yX7_factOf ∈ gT := gm 51 (by decide +kernel) rfl
def yX7_holds : MethodName := ⟨zR7, "holds", "(II)Z"⟩
abbrev bX7_holds : ByteArray := prog_9_method_38_code
theorem mf_X7_holds : MF yX7_holds bX7_holds 8 (Option.some Jvm.ClassFile.FieldType.boolean) 2 := ⟨gmk (sm_5 (List.mem_of_getElem? (i := 215) rfl)) rfl, gmk (sm_1 (List.mem_of_getElem? (i := 8) (by decide +kernel))) rfl, by decide +kernel, by decide +kernel, by decide +kernel⟩
theorem in_X7_holds : Cond.instanceMethod yX7_holds ∈ gT := gmk (sm_5 (List.mem_of_getElem? (i := 214) (by decide +kernel))) rfl
theorem se_X7_holds : Cond.selects yX7_holds.cls yX7_holds yX7_holds ∈ gT := gm 50 (by decide +kernel) rfl
def yX7_rate : MethodName := ⟨zR7, "rate", "(I)I"⟩
abbrev bX7_rate : ByteArray := prog_9_method_39_code
theorem mf_X7_rate : MF yX7_rate bX7_rate 4 (Option.some Jvm.ClassFile.FieldType.int) 1 := ⟨gmk (sm_5 (List.mem_of_getElem? (i := 203) rfl)) rfl, gmk (sm_1 (List.mem_of_getElem? (i := 8) (by decide +kernel))) rfl, by decide +kernel, by decide +kernel, by decide +kernel⟩
theorem in_X7_rate : Cond.instanceMethod yX7_rate ∈ gT := gmk (sm_5 (List.mem_of_getElem? (i := 202) (by decide +kernel))) rfl
theorem se_X7_rate : Cond.selects yX7_rate.cls yX7_rate yX7_rate ∈ gT := gm 47 (by decide +kernel) rfl
def yX7_asks : MethodName := ⟨zR7, "asks", "(I)I"⟩
abbrev bX7_asks : ByteArray := prog_9_method_40_code
theorem mf_X7_asks : MF yX7_asks bX7_asks 3 (Option.some Jvm.ClassFile.FieldType.int) 1 := ⟨gmk (sm_5 (List.mem_of_getElem? (i := 223) rfl)) rfl, gmk (sm_1 (List.mem_of_getElem? (i := 8) (by decide +kernel))) rfl, by decide +kernel, by decide +kernel, by decide +kernel⟩
theorem in_X7_asks : Cond.instanceMethod yX7_asks ∈ gT := gmk (sm_5 (List.mem_of_getElem? (i := 222) (by decide +kernel))) rfl
theorem se_X7_asks : Cond.selects yX7_asks.cls yX7_asks yX7_asks ∈ gT := gm 52 (by decide +kernel) rfl
def yX7_keeps : MethodName := ⟨zR7, "keeps", "(I)I"⟩
abbrev bX7_keeps : ByteArray := prog_9_method_41_code
theorem mf_X7_keeps : MF yX7_keeps bX7_keeps 2 (Option.some Jvm.ClassFile.FieldType.int) 1 := ⟨gmk (sm_5 (List.mem_of_getElem? (i := 235) rfl)) rfl, gmk (sm_1 (List.mem_of_getElem? (i := 8) (by decide +kernel))) rfl, by decide +kernel, by decide +kernel, by decide +kernel⟩
theorem in_X7_keeps : Cond.instanceMethod yX7_keeps ∈ gT := gmk (sm_5 (List.mem_of_getElem? (i := 234) (by decide +kernel))) rfl
theorem se_X7_keeps : Cond.selects yX7_keeps.cls yX7_keeps yX7_keeps ∈ gT := gm 55 (by decide +kernel) rfl
def yX7_staysAway : MethodName := ⟨zR7, "staysAway", "(I)Z"⟩
abbrev bX7_staysAway : ByteArray := prog_9_method_42_code
theorem mf_X7_staysAway : MF yX7_staysAway bX7_staysAway 2 (Option.some Jvm.ClassFile.FieldType.boolean) 1 := ⟨gmk (sm_5 (List.mem_of_getElem? (i := 239) rfl)) rfl, gmk (sm_1 (List.mem_of_getElem? (i := 8) (by decide +kernel))) rfl, by decide +kernel, by decide +kernel, by decide +kernel⟩
theorem in_X7_staysAway : Cond.instanceMethod yX7_staysAway ∈ gT := gmk (sm_5 (List.mem_of_getElem? (i := 238) (by decide +kernel))) rfl
theorem se_X7_staysAway : Cond.selects yX7_staysAway.cls yX7_staysAway yX7_staysAway ∈ gT := gm 56 (by decide +kernel) rfl
def yX7_brings : MethodName := ⟨zR7, "brings", "(I)I"⟩
abbrev bX7_brings : ByteArray := prog_9_method_43_code
theorem mf_X7_brings : MF yX7_brings bX7_brings 2 (Option.some Jvm.ClassFile.FieldType.int) 1 := ⟨gmk (sm_6 (List.mem_of_getElem? (i := 3) rfl)) rfl, gmk (sm_1 (List.mem_of_getElem? (i := 8) (by decide +kernel))) rfl, by decide +kernel, by decide +kernel, by decide +kernel⟩
theorem in_X7_brings : Cond.instanceMethod yX7_brings ∈ gT := gmk (sm_6 (List.mem_of_getElem? (i := 2) (by decide +kernel))) rfl
theorem se_X7_brings : Cond.selects yX7_brings.cls yX7_brings yX7_brings ∈ gT := gm 57 (by decide +kernel) rfl
def yX7_of : MethodName := ⟨zR7, "of", "(II)I"⟩
abbrev bX7_of : ByteArray := prog_9_method_44_code
theorem mf_X7_of : MF yX7_of bX7_of 3 (Option.some Jvm.ClassFile.FieldType.int) 2 := ⟨gmk (sm_5 (List.mem_of_getElem? (i := 199) rfl)) rfl, gmk (sm_1 (List.mem_of_getElem? (i := 8) (by decide +kernel))) rfl, by decide +kernel, by decide +kernel, by decide +kernel⟩
theorem in_X7_of : Cond.instanceMethod yX7_of ∈ gT := gmk (sm_5 (List.mem_of_getElem? (i := 197) (by decide +kernel))) rfl
theorem se_X7_of : Cond.selects yX7_of.cls yX7_of yX7_of ∈ gT := gmk (sm_5 (List.mem_of_getElem? (i := 198) (by decide +kernel))) rfl
def yX7_allOwes : MethodName := ⟨zR7, "allOwes", "()I"⟩
abbrev bX7_allOwes : ByteArray := prog_9_method_45_code
theorem mf_X7_allOwes : MF yX7_allOwes bX7_allOwes 3 (Option.some Jvm.ClassFile.FieldType.int) 0 := ⟨gmk (sm_6 (List.mem_of_getElem? (i := 11) rfl)) rfl, gmk (sm_1 (List.mem_of_getElem? (i := 8) (by decide +kernel))) rfl, by decide +kernel, by decide +kernel, by decide +kernel⟩
theorem in_X7_allOwes : Cond.instanceMethod yX7_allOwes ∈ gT := gmk (sm_6 (List.mem_of_getElem? (i := 10) (by decide +kernel))) rfl
theorem se_X7_allOwes : Cond.selects yX7_allOwes.cls yX7_allOwes yX7_allOwes ∈ gT := gm 58 (by decide +kernel) rfl
def yX7_told : MethodName := ⟨zR7, "told", "(I)I"⟩
abbrev bX7_told : ByteArray := prog_9_method_46_code
theorem mf_X7_told : MF yX7_told bX7_told 2 (Option.some Jvm.ClassFile.FieldType.int) 1 := ⟨gmk (sm_6 (List.mem_of_getElem? (i := 7) rfl)) rfl, gmk (sm_1 (List.mem_of_getElem? (i := 8) (by decide +kernel))) rfl, by decide +kernel, by decide +kernel, by decide +kernel⟩
theorem in_X7_told : Cond.instanceMethod yX7_told ∈ gT := gmk (sm_6 (List.mem_of_getElem? (i := 5) (by decide +kernel))) rfl
theorem se_X7_told : Cond.selects yX7_told.cls yX7_told yX7_told ∈ gT := gmk (sm_6 (List.mem_of_getElem? (i := 6) (by decide +kernel))) rfl
def yX7_goHaving : MethodName := ⟨zR7, "goHaving", "(I)V"⟩
abbrev bX7_goHaving : ByteArray := prog_9_method_47_code
theorem mf_X7_goHaving : MF yX7_goHaving bX7_goHaving 2 (Option.none : Option Jvm.ClassFile.FieldType) 1 := ⟨gmk (sm_6 (List.mem_of_getElem? (i := 31) rfl)) rfl, gmk (sm_1 (List.mem_of_getElem? (i := 8) (by decide +kernel))) rfl, by decide +kernel, by decide +kernel, by decide +kernel⟩
theorem in_X7_goHaving : Cond.instanceMethod yX7_goHaving ∈ gT := gmk (sm_6 (List.mem_of_getElem? (i := 30) (by decide +kernel))) rfl
theorem se_X7_goHaving : Cond.selects yX7_goHaving.cls yX7_goHaving yX7_goHaving ∈ gT := gm 62 (by decide +kernel) rfl
def yX7_goAsking : MethodName := ⟨zR7, "goAsking", "(I)V"⟩
abbrev bX7_goAsking : ByteArray := prog_9_method_48_code
theorem mf_X7_goAsking : MF yX7_goAsking bX7_goAsking 3 (Option.none : Option Jvm.ClassFile.FieldType) 1 := ⟨gmk (sm_6 (List.mem_of_getElem? (i := 36) rfl)) rfl, gmk (sm_1 (List.mem_of_getElem? (i := 8) (by decide +kernel))) rfl, by decide +kernel, by decide +kernel, by decide +kernel⟩
theorem in_X7_goAsking : Cond.instanceMethod yX7_goAsking ∈ gT := gmk (sm_6 (List.mem_of_getElem? (i := 35) (by decide +kernel))) rfl
theorem se_X7_goAsking : Cond.selects yX7_goAsking.cls yX7_goAsking yX7_goAsking ∈ gT := gm 63 (by decide +kernel) rfl
def yX7_goDay : MethodName := ⟨zR7, "goDay", "()V"⟩
abbrev bX7_goDay : ByteArray := prog_9_method_49_code
theorem mf_X7_goDay : MF yX7_goDay bX7_goDay 2 (Option.none : Option Jvm.ClassFile.FieldType) 0 := ⟨gmk (sm_6 (List.mem_of_getElem? (i := 27) rfl)) rfl, gmk (sm_1 (List.mem_of_getElem? (i := 8) (by decide +kernel))) rfl, by decide +kernel, by decide +kernel, by decide +kernel⟩
theorem in_X7_goDay : Cond.instanceMethod yX7_goDay ∈ gT := gmk (sm_6 (List.mem_of_getElem? (i := 26) (by decide +kernel))) rfl
theorem se_X7_goDay : Cond.selects yX7_goDay.cls yX7_goDay yX7_goDay ∈ gT := gm 61 (by decide +kernel) rfl
def yX7_goDays : MethodName := ⟨zR7, "goDays", "(I)V"⟩
abbrev bX7_goDays : ByteArray := prog_9_method_50_code
theorem mf_X7_goDays : MF yX7_goDays bX7_goDays 3 (Option.none : Option Jvm.ClassFile.FieldType) 1 := ⟨gmk (sm_6 (List.mem_of_getElem? (i := 23) rfl)) rfl, gmk (sm_1 (List.mem_of_getElem? (i := 8) (by decide +kernel))) rfl, by decide +kernel, by decide +kernel, by decide +kernel⟩
theorem in_X7_goDays : Cond.instanceMethod yX7_goDays ∈ gT := gmk (sm_6 (List.mem_of_getElem? (i := 22) (by decide +kernel))) rfl
theorem se_X7_goDays : Cond.selects yX7_goDays.cls yX7_goDays yX7_goDays ∈ gT := gm 60 (by decide +kernel) rfl
def yX7_pass : MethodName := ⟨zR7, "pass", "(I)I"⟩
abbrev bX7_pass : ByteArray := prog_9_method_51_code
theorem mf_X7_pass : MF yX7_pass bX7_pass 2 (Option.some Jvm.ClassFile.FieldType.int) 1 := ⟨gmk (sm_6 (List.mem_of_getElem? (i := 15) rfl)) rfl, gmk (sm_1 (List.mem_of_getElem? (i := 8) (by decide +kernel))) rfl, by decide +kernel, by decide +kernel, by decide +kernel⟩
theorem in_X7_pass : Cond.instanceMethod yX7_pass ∈ gT := gmk (sm_6 (List.mem_of_getElem? (i := 13) (by decide +kernel))) rfl
theorem se_X7_pass : Cond.selects yX7_pass.cls yX7_pass yX7_pass ∈ gT := gmk (sm_6 (List.mem_of_getElem? (i := 14) (by decide +kernel))) rfl
def yX7_save : MethodName := ⟨zR7, "save", "()V"⟩
abbrev bX7_save : ByteArray := prog_9_method_52_code
theorem mf_X7_save : MF yX7_save bX7_save 2 (Option.none : Option Jvm.ClassFile.FieldType) 0 := ⟨gmk (sm_6 (List.mem_of_getElem? (i := 44) rfl)) rfl, gmk (sm_1 (List.mem_of_getElem? (i := 8) (by decide +kernel))) rfl, by decide +kernel, by decide +kernel, by decide +kernel⟩
theorem in_X7_save : Cond.instanceMethod yX7_save ∈ gT := gmk (sm_6 (List.mem_of_getElem? (i := 43) (by decide +kernel))) rfl
theorem se_X7_save : Cond.selects yX7_save.cls yX7_save yX7_save ∈ gT := gm 64 (by decide +kernel) rfl
def yX7_putBack : MethodName := ⟨zR7, "putBack", "()V"⟩
abbrev bX7_putBack : ByteArray := prog_9_method_53_code
theorem mf_X7_putBack : MF yX7_putBack bX7_putBack 2 (Option.none : Option Jvm.ClassFile.FieldType) 0 := ⟨gmk (sm_6 (List.mem_of_getElem? (i := 49) rfl)) rfl, gmk (sm_1 (List.mem_of_getElem? (i := 8) (by decide +kernel))) rfl, by decide +kernel, by decide +kernel, by decide +kernel⟩
theorem in_X7_putBack : Cond.instanceMethod yX7_putBack ∈ gT := gmk (sm_6 (List.mem_of_getElem? (i := 48) (by decide +kernel))) rfl
theorem se_X7_putBack : Cond.selects yX7_putBack.cls yX7_putBack yX7_putBack ∈ gT := gm 65 (by decide +kernel) rfl
def yX7_on : MethodName := ⟨zR7, "on", "(II)I"⟩
abbrev bX7_on : ByteArray := prog_9_method_54_code
theorem mf_X7_on : MF yX7_on bX7_on 4 (Option.some Jvm.ClassFile.FieldType.int) 2 := ⟨gmk (sm_6 (List.mem_of_getElem? (i := 40) rfl)) rfl, gmk (sm_1 (List.mem_of_getElem? (i := 8) (by decide +kernel))) rfl, by decide +kernel, by decide +kernel, by decide +kernel⟩
theorem in_X7_on : Cond.instanceMethod yX7_on ∈ gT := gmk (sm_6 (List.mem_of_getElem? (i := 38) (by decide +kernel))) rfl
theorem se_X7_on : Cond.selects yX7_on.cls yX7_on yX7_on ∈ gT := gmk (sm_6 (List.mem_of_getElem? (i := 39) (by decide +kernel))) rfl
def yX7_lowest : MethodName := ⟨zR7, "lowest", "(II)I"⟩
abbrev bX7_lowest : ByteArray := prog_9_method_55_code
theorem mf_X7_lowest : MF yX7_lowest bX7_lowest 6 (Option.some Jvm.ClassFile.FieldType.int) 2 := ⟨gmk (sm_6 (List.mem_of_getElem? (i := 53) rfl)) rfl, gmk (sm_1 (List.mem_of_getElem? (i := 8) (by decide +kernel))) rfl, by decide +kernel, by decide +kernel, by decide +kernel⟩
theorem in_X7_lowest : Cond.instanceMethod yX7_lowest ∈ gT := gmk (sm_6 (List.mem_of_getElem? (i := 51) (by decide +kernel))) rfl
theorem se_X7_lowest : Cond.selects yX7_lowest.cls yX7_lowest yX7_lowest ∈ gT := gmk (sm_6 (List.mem_of_getElem? (i := 52) (by decide +kernel))) rfl
def yX7_first : MethodName := ⟨zR7, "first", "()I"⟩
abbrev bX7_first : ByteArray := prog_9_method_56_code
theorem mf_X7_first : MF yX7_first bX7_first 3 (Option.some Jvm.ClassFile.FieldType.int) 0 := ⟨gmk (sm_6 (List.mem_of_getElem? (i := 57) rfl)) rfl, gmk (sm_1 (List.mem_of_getElem? (i := 8) (by decide +kernel))) rfl, by decide +kernel, by decide +kernel, by decide +kernel⟩
theorem in_X7_first : Cond.instanceMethod yX7_first ∈ gT := gmk (sm_6 (List.mem_of_getElem? (i := 55) (by decide +kernel))) rfl
theorem se_X7_first : Cond.selects yX7_first.cls yX7_first yX7_first ∈ gT := gmk (sm_6 (List.mem_of_getElem? (i := 56) (by decide +kernel))) rfl
def yX7_turnedThen : MethodName := ⟨zR7, "turnedThen", "()I"⟩
abbrev bX7_turnedThen : ByteArray := prog_9_method_57_code
theorem mf_X7_turnedThen : MF yX7_turnedThen bX7_turnedThen 2 (Option.some Jvm.ClassFile.FieldType.int) 0 := ⟨gmk (sm_6 (List.mem_of_getElem? (i := 73) rfl)) rfl, gmk (sm_1 (List.mem_of_getElem? (i := 8) (by decide +kernel))) rfl, by decide +kernel, by decide +kernel, by decide +kernel⟩
theorem in_X7_turnedThen : Cond.instanceMethod yX7_turnedThen ∈ gT := gmk (sm_6 (List.mem_of_getElem? (i := 72) (by decide +kernel))) rfl
theorem se_X7_turnedThen : Cond.selects yX7_turnedThen.cls yX7_turnedThen yX7_turnedThen ∈ gT := gm 68 (by decide +kernel) rfl
def yX7_turned : MethodName := ⟨zR7, "turned", "()I"⟩
abbrev bX7_turned : ByteArray := prog_9_method_58_code
theorem mf_X7_turned : MF yX7_turned bX7_turned 1 (Option.some Jvm.ClassFile.FieldType.int) 0 := ⟨gmk (sm_6 (List.mem_of_getElem? (i := 69) rfl)) rfl, gmk (sm_1 (List.mem_of_getElem? (i := 8) (by decide +kernel))) rfl, by decide +kernel, by decide +kernel, by decide +kernel⟩
theorem in_X7_turned : Cond.instanceMethod yX7_turned ∈ gT := gmk (sm_6 (List.mem_of_getElem? (i := 68) (by decide +kernel))) rfl
theorem se_X7_turned : Cond.selects yX7_turned.cls yX7_turned yX7_turned ∈ gT := gm 67 (by decide +kernel) rfl
def yX7_callOf : MethodName := ⟨zR7, "callOf", "()I"⟩
abbrev bX7_callOf : ByteArray := prog_9_method_59_code
theorem mf_X7_callOf : MF yX7_callOf bX7_callOf 5 (Option.some Jvm.ClassFile.FieldType.int) 0 := ⟨gmk (sm_6 (List.mem_of_getElem? (i := 65) rfl)) rfl, gmk (sm_1 (List.mem_of_getElem? (i := 8) (by decide +kernel))) rfl, by decide +kernel, by decide +kernel, by decide +kernel⟩
theorem in_X7_callOf : Cond.instanceMethod yX7_callOf ∈ gT := gmk (sm_6 (List.mem_of_getElem? (i := 64) (by decide +kernel))) rfl
theorem se_X7_callOf : Cond.selects yX7_callOf.cls yX7_callOf yX7_callOf ∈ gT := gm 66 (by decide +kernel) rfl
def yX7_aheadOf : MethodName := ⟨zR7, "aheadOf", "()I"⟩
abbrev bX7_aheadOf : ByteArray := prog_9_method_60_code
theorem mf_X7_aheadOf : MF yX7_aheadOf bX7_aheadOf 6 (Option.some Jvm.ClassFile.FieldType.int) 0 := ⟨gmk (sm_6 (List.mem_of_getElem? (i := 77) rfl)) rfl, gmk (sm_1 (List.mem_of_getElem? (i := 8) (by decide +kernel))) rfl, by decide +kernel, by decide +kernel, by decide +kernel⟩
theorem in_X7_aheadOf : Cond.instanceMethod yX7_aheadOf ∈ gT := gmk (sm_6 (List.mem_of_getElem? (i := 76) (by decide +kernel))) rfl
theorem se_X7_aheadOf : Cond.selects yX7_aheadOf.cls yX7_aheadOf yX7_aheadOf ∈ gT := gm 69 (by decide +kernel) rfl
def yX7_markOf : MethodName := ⟨zR7, "markOf", "()I"⟩
abbrev bX7_markOf : ByteArray := prog_9_method_61_code
theorem mf_X7_markOf : MF yX7_markOf bX7_markOf 5 (Option.some Jvm.ClassFile.FieldType.int) 0 := ⟨gmk (sm_6 (List.mem_of_getElem? (i := 81) rfl)) rfl, gmk (sm_1 (List.mem_of_getElem? (i := 8) (by decide +kernel))) rfl, by decide +kernel, by decide +kernel, by decide +kernel⟩
theorem in_X7_markOf : Cond.instanceMethod yX7_markOf ∈ gT := gmk (sm_6 (List.mem_of_getElem? (i := 80) (by decide +kernel))) rfl
theorem se_X7_markOf : Cond.selects yX7_markOf.cls yX7_markOf yX7_markOf ∈ gT := gm 70 (by decide +kernel) rfl
def yX7_best : MethodName := ⟨zR7, "best", "(I)I"⟩
abbrev bX7_best : ByteArray := prog_9_method_62_code
theorem mf_X7_best : MF yX7_best bX7_best 2 (Option.some Jvm.ClassFile.FieldType.int) 1 := ⟨gmk (sm_6 (List.mem_of_getElem? (i := 61) rfl)) rfl, gmk (sm_1 (List.mem_of_getElem? (i := 8) (by decide +kernel))) rfl, by decide +kernel, by decide +kernel, by decide +kernel⟩
theorem in_X7_best : Cond.instanceMethod yX7_best ∈ gT := gmk (sm_6 (List.mem_of_getElem? (i := 59) (by decide +kernel))) rfl
theorem se_X7_best : Cond.selects yX7_best.cls yX7_best yX7_best ∈ gT := gmk (sm_6 (List.mem_of_getElem? (i := 60) (by decide +kernel))) rfl
def yX7_seldom : MethodName := ⟨zR7, "seldom", "(I)I"⟩
abbrev bX7_seldom : ByteArray := prog_9_method_63_code
theorem mf_X7_seldom : MF yX7_seldom bX7_seldom 6 (Option.some Jvm.ClassFile.FieldType.int) 1 := ⟨gmk (sm_6 (List.mem_of_getElem? (i := 85) rfl)) rfl, gmk (sm_1 (List.mem_of_getElem? (i := 8) (by decide +kernel))) rfl, by decide +kernel, by decide +kernel, by decide +kernel⟩
theorem in_X7_seldom : Cond.instanceMethod yX7_seldom ∈ gT := gmk (sm_6 (List.mem_of_getElem? (i := 83) (by decide +kernel))) rfl
theorem se_X7_seldom : Cond.selects yX7_seldom.cls yX7_seldom yX7_seldom ∈ gT := gmk (sm_6 (List.mem_of_getElem? (i := 84) (by decide +kernel))) rfl
def yX7_more : MethodName := ⟨zR7, "more", "(I)I"⟩
abbrev bX7_more : ByteArray := prog_9_method_64_code
theorem mf_X7_more : MF yX7_more bX7_more 4 (Option.some Jvm.ClassFile.FieldType.int) 1 := ⟨gmk (sm_6 (List.mem_of_getElem? (i := 89) rfl)) rfl, gmk (sm_1 (List.mem_of_getElem? (i := 8) (by decide +kernel))) rfl, by decide +kernel, by decide +kernel, by decide +kernel⟩
theorem in_X7_more : Cond.instanceMethod yX7_more ∈ gT := gmk (sm_6 (List.mem_of_getElem? (i := 87) (by decide +kernel))) rfl
theorem se_X7_more : Cond.selects yX7_more.cls yX7_more yX7_more ∈ gT := gmk (sm_6 (List.mem_of_getElem? (i := 88) (by decide +kernel))) rfl
def yX7_see : MethodName := ⟨zR7, "see", "(II)I"⟩
abbrev bX7_see : ByteArray := prog_9_method_65_code
theorem mf_X7_see : MF yX7_see bX7_see 3 (Option.some Jvm.ClassFile.FieldType.int) 2 := ⟨gmk (sm_6 (List.mem_of_getElem? (i := 93) rfl)) rfl, gmk (sm_1 (List.mem_of_getElem? (i := 8) (by decide +kernel))) rfl, by decide +kernel, by decide +kernel, by decide +kernel⟩
theorem in_X7_see : Cond.instanceMethod yX7_see ∈ gT := gmk (sm_6 (List.mem_of_getElem? (i := 91) (by decide +kernel))) rfl
theorem se_X7_see : Cond.selects yX7_see.cls yX7_see yX7_see ∈ gT := gmk (sm_6 (List.mem_of_getElem? (i := 92) (by decide +kernel))) rfl
def yX7_isSeen : MethodName := ⟨zR7, "isSeen", "()Z"⟩
abbrev bX7_isSeen : ByteArray := prog_9_method_66_code
theorem mf_X7_isSeen : MF yX7_isSeen bX7_isSeen 3 (Option.some Jvm.ClassFile.FieldType.boolean) 0 := ⟨gmk (sm_6 (List.mem_of_getElem? (i := 101) rfl)) rfl, gmk (sm_1 (List.mem_of_getElem? (i := 8) (by decide +kernel))) rfl, by decide +kernel, by decide +kernel, by decide +kernel⟩
theorem in_X7_isSeen : Cond.instanceMethod yX7_isSeen ∈ gT := gmk (sm_6 (List.mem_of_getElem? (i := 100) (by decide +kernel))) rfl
theorem se_X7_isSeen : Cond.selects yX7_isSeen.cls yX7_isSeen yX7_isSeen ∈ gT := gm 71 (by decide +kernel) rfl
def yX7_wanted : MethodName := ⟨zR7, "wanted", "(II)I"⟩
abbrev bX7_wanted : ByteArray := prog_9_method_67_code
theorem mf_X7_wanted : MF yX7_wanted bX7_wanted 7 (Option.some Jvm.ClassFile.FieldType.int) 2 := ⟨gmk (sm_6 (List.mem_of_getElem? (i := 97) rfl)) rfl, gmk (sm_1 (List.mem_of_getElem? (i := 8) (by decide +kernel))) rfl, by decide +kernel, by decide +kernel, by decide +kernel⟩
theorem in_X7_wanted : Cond.instanceMethod yX7_wanted ∈ gT := gmk (sm_6 (List.mem_of_getElem? (i := 95) (by decide +kernel))) rfl
theorem se_X7_wanted : Cond.selects yX7_wanted.cls yX7_wanted yX7_wanted ∈ gT := gmk (sm_6 (List.mem_of_getElem? (i := 96) (by decide +kernel))) rfl
def yX7_can : MethodName := ⟨zR7, "can", "(II)I"⟩
abbrev bX7_can : ByteArray := prog_9_method_68_code
theorem mf_X7_can : MF yX7_can bX7_can 7 (Option.some Jvm.ClassFile.FieldType.int) 2 := ⟨gmk (sm_6 (List.mem_of_getElem? (i := 105) rfl)) rfl, gmk (sm_1 (List.mem_of_getElem? (i := 8) (by decide +kernel))) rfl, by decide +kernel, by decide +kernel, by decide +kernel⟩
theorem in_X7_can : Cond.instanceMethod yX7_can ∈ gT := gmk (sm_6 (List.mem_of_getElem? (i := 103) (by decide +kernel))) rfl
theorem se_X7_can : Cond.selects yX7_can.cls yX7_can yX7_can ∈ gT := gmk (sm_6 (List.mem_of_getElem? (i := 104) (by decide +kernel))) rfl
def yX7_divisor : MethodName := ⟨zR7, "divisor", "(II)I"⟩
abbrev bX7_divisor : ByteArray := prog_9_method_69_code
theorem mf_X7_divisor : MF yX7_divisor bX7_divisor 6 (Option.some Jvm.ClassFile.FieldType.int) 2 := ⟨gmk (sm_6 (List.mem_of_getElem? (i := 118) rfl)) rfl, gmk (sm_1 (List.mem_of_getElem? (i := 8) (by decide +kernel))) rfl, by decide +kernel, by decide +kernel, by decide +kernel⟩
theorem in_X7_divisor : Cond.instanceMethod yX7_divisor ∈ gT := gmk (sm_6 (List.mem_of_getElem? (i := 117) (by decide +kernel))) rfl
theorem se_X7_divisor : Cond.selects yX7_divisor.cls yX7_divisor yX7_divisor ∈ gT := gm 73 (by decide +kernel) rfl
def yX7_lowest_ : MethodName := ⟨zR7, "lowest", "(III)J"⟩
abbrev bX7_lowest_ : ByteArray := prog_9_method_70_code
theorem mf_X7_lowest_ : MF yX7_lowest_ bX7_lowest_ 5 (Option.some Jvm.ClassFile.FieldType.long) 3 := ⟨gmk (sm_6 (List.mem_of_getElem? (i := 114) rfl)) rfl, gmk (sm_1 (List.mem_of_getElem? (i := 8) (by decide +kernel))) rfl, by decide +kernel, by decide +kernel, by decide +kernel⟩
theorem in_X7_lowest_ : Cond.instanceMethod yX7_lowest_ ∈ gT := gmk (sm_6 (List.mem_of_getElem? (i := 113) (by decide +kernel))) rfl
theorem se_X7_lowest_ : Cond.selects yX7_lowest_.cls yX7_lowest_ yX7_lowest_ ∈ gT := gm 72 (by decide +kernel) rfl
def yX7_odds : MethodName := ⟨zR7, "odds", "(II)J"⟩
abbrev bX7_odds : ByteArray := prog_9_method_71_code
theorem mf_X7_odds : MF yX7_odds bX7_odds 5 (Option.some Jvm.ClassFile.FieldType.long) 2 := ⟨gmk (sm_6 (List.mem_of_getElem? (i := 109) rfl)) rfl, gmk (sm_1 (List.mem_of_getElem? (i := 8) (by decide +kernel))) rfl, by decide +kernel, by decide +kernel, by decide +kernel⟩
theorem in_X7_odds : Cond.instanceMethod yX7_odds ∈ gT := gmk (sm_6 (List.mem_of_getElem? (i := 107) (by decide +kernel))) rfl
theorem se_X7_odds : Cond.selects yX7_odds.cls yX7_odds yX7_odds ∈ gT := gmk (sm_6 (List.mem_of_getElem? (i := 108) (by decide +kernel))) rfl
def yX7_mean : MethodName := ⟨zR7, "mean", "(II)J"⟩
abbrev bX7_mean : ByteArray := prog_9_method_72_code
theorem mf_X7_mean : MF yX7_mean bX7_mean 4 (Option.some Jvm.ClassFile.FieldType.long) 2 := ⟨gmk (sm_6 (List.mem_of_getElem? (i := 122) rfl)) rfl, gmk (sm_1 (List.mem_of_getElem? (i := 8) (by decide +kernel))) rfl, by decide +kernel, by decide +kernel, by decide +kernel⟩
theorem in_X7_mean : Cond.instanceMethod yX7_mean ∈ gT := gmk (sm_6 (List.mem_of_getElem? (i := 120) (by decide +kernel))) rfl
theorem se_X7_mean : Cond.selects yX7_mean.cls yX7_mean yX7_mean ∈ gT := gmk (sm_6 (List.mem_of_getElem? (i := 121) (by decide +kernel))) rfl
def yX7_year : MethodName := ⟨zR7, "year", "(II)I"⟩
abbrev bX7_year : ByteArray := prog_9_method_73_code
theorem mf_X7_year : MF yX7_year bX7_year 3 (Option.some Jvm.ClassFile.FieldType.int) 2 := ⟨gmk (sm_6 (List.mem_of_getElem? (i := 126) rfl)) rfl, gmk (sm_1 (List.mem_of_getElem? (i := 8) (by decide +kernel))) rfl, by decide +kernel, by decide +kernel, by decide +kernel⟩
theorem in_X7_year : Cond.instanceMethod yX7_year ∈ gT := gmk (sm_6 (List.mem_of_getElem? (i := 124) (by decide +kernel))) rfl
theorem se_X7_year : Cond.selects yX7_year.cls yX7_year yX7_year ∈ gT := gmk (sm_6 (List.mem_of_getElem? (i := 125) (by decide +kernel))) rfl
def yX7_gone : MethodName := ⟨zR7, "gone", "(I)I"⟩
abbrev bX7_gone : ByteArray := prog_9_method_74_code
theorem mf_X7_gone : MF yX7_gone bX7_gone 3 (Option.some Jvm.ClassFile.FieldType.int) 1 := ⟨gmk (sm_6 (List.mem_of_getElem? (i := 130) rfl)) rfl, gmk (sm_1 (List.mem_of_getElem? (i := 8) (by decide +kernel))) rfl, by decide +kernel, by decide +kernel, by decide +kernel⟩
theorem in_X7_gone : Cond.instanceMethod yX7_gone ∈ gT := gmk (sm_6 (List.mem_of_getElem? (i := 128) (by decide +kernel))) rfl
theorem se_X7_gone : Cond.selects yX7_gone.cls yX7_gone yX7_gone ∈ gT := gmk (sm_6 (List.mem_of_getElem? (i := 129) (by decide +kernel))) rfl
def yX7_book : MethodName := ⟨zR7, "book", "(II)I"⟩
abbrev bX7_book : ByteArray := prog_9_method_75_code
theorem mf_X7_book : MF yX7_book bX7_book 3 (Option.some Jvm.ClassFile.FieldType.int) 2 := ⟨gmk (sm_6 (List.mem_of_getElem? (i := 134) rfl)) rfl, gmk (sm_1 (List.mem_of_getElem? (i := 8) (by decide +kernel))) rfl, by decide +kernel, by decide +kernel, by decide +kernel⟩
theorem in_X7_book : Cond.instanceMethod yX7_book ∈ gT := gmk (sm_6 (List.mem_of_getElem? (i := 132) (by decide +kernel))) rfl
theorem se_X7_book : Cond.selects yX7_book.cls yX7_book yX7_book ∈ gT := gmk (sm_6 (List.mem_of_getElem? (i := 133) (by decide +kernel))) rfl
def yX7_looked : MethodName := ⟨zR7, "looked", "()I"⟩
abbrev bX7_looked : ByteArray := prog_9_method_76_code
theorem mf_X7_looked : MF yX7_looked bX7_looked 2 (Option.some Jvm.ClassFile.FieldType.int) 0 := ⟨gmk (sm_6 (List.mem_of_getElem? (i := 138) rfl)) rfl, gmk (sm_1 (List.mem_of_getElem? (i := 8) (by decide +kernel))) rfl, by decide +kernel, by decide +kernel, by decide +kernel⟩
theorem in_X7_looked : Cond.instanceMethod yX7_looked ∈ gT := gmk (sm_6 (List.mem_of_getElem? (i := 136) (by decide +kernel))) rfl
theorem se_X7_looked : Cond.selects yX7_looked.cls yX7_looked yX7_looked ∈ gT := gmk (sm_6 (List.mem_of_getElem? (i := 137) (by decide +kernel))) rfl
def yX7_judge : MethodName := ⟨zR7, "judge", "(II)I"⟩
abbrev bX7_judge : ByteArray := prog_9_method_77_code
theorem mf_X7_judge : MF yX7_judge bX7_judge 4 (Option.some Jvm.ClassFile.FieldType.int) 2 := ⟨gmk (sm_6 (List.mem_of_getElem? (i := 142) rfl)) rfl, gmk (sm_1 (List.mem_of_getElem? (i := 8) (by decide +kernel))) rfl, by decide +kernel, by decide +kernel, by decide +kernel⟩
theorem in_X7_judge : Cond.instanceMethod yX7_judge ∈ gT := gmk (sm_6 (List.mem_of_getElem? (i := 140) (by decide +kernel))) rfl
theorem se_X7_judge : Cond.selects yX7_judge.cls yX7_judge yX7_judge ∈ gT := gmk (sm_6 (List.mem_of_getElem? (i := 141) (by decide +kernel))) rfl
def yX7_image : MethodName := ⟨zR7, "image", "()I"⟩
abbrev bX7_image : ByteArray := prog_9_method_78_code
theorem mf_X7_image : MF yX7_image bX7_image 2 (Option.some Jvm.ClassFile.FieldType.int) 0 := ⟨gmk (sm_6 (List.mem_of_getElem? (i := 150) rfl)) rfl, gmk (sm_1 (List.mem_of_getElem? (i := 8) (by decide +kernel))) rfl, by decide +kernel, by decide +kernel, by decide +kernel⟩
theorem in_X7_image : Cond.instanceMethod yX7_image ∈ gT := gmk (sm_6 (List.mem_of_getElem? (i := 148) (by decide +kernel))) rfl
theorem se_X7_image : Cond.selects yX7_image.cls yX7_image yX7_image ∈ gT := gmk (sm_6 (List.mem_of_getElem? (i := 149) (by decide +kernel))) rfl
def yX7_undo : MethodName := ⟨zR7, "undo", "()I"⟩
abbrev bX7_undo : ByteArray := prog_9_method_79_code
theorem mf_X7_undo : MF yX7_undo bX7_undo 2 (Option.some Jvm.ClassFile.FieldType.int) 0 := ⟨gmk (sm_6 (List.mem_of_getElem? (i := 154) rfl)) rfl, gmk (sm_1 (List.mem_of_getElem? (i := 8) (by decide +kernel))) rfl, by decide +kernel, by decide +kernel, by decide +kernel⟩
theorem in_X7_undo : Cond.instanceMethod yX7_undo ∈ gT := gmk (sm_6 (List.mem_of_getElem? (i := 152) (by decide +kernel))) rfl
theorem se_X7_undo : Cond.selects yX7_undo.cls yX7_undo yX7_undo ∈ gT := gmk (sm_6 (List.mem_of_getElem? (i := 153) (by decide +kernel))) rfl
def yX7_body : MethodName := ⟨zR7, "body", "(I)V"⟩
abbrev bX7_body : ByteArray := prog_9_method_80_code
theorem mf_X7_body : MF yX7_body bX7_body 2 (Option.none : Option Jvm.ClassFile.FieldType) 1 := ⟨gmk (sm_6 (List.mem_of_getElem? (i := 166) rfl)) rfl, gmk (sm_1 (List.mem_of_getElem? (i := 8) (by decide +kernel))) rfl, by decide +kernel, by decide +kernel, by decide +kernel⟩
theorem in_X7_body : Cond.instanceMethod yX7_body ∈ gT := gmk (sm_6 (List.mem_of_getElem? (i := 165) (by decide +kernel))) rfl
theorem se_X7_body : Cond.selects yX7_body.cls yX7_body yX7_body ∈ gT := gm 76 (by decide +kernel) rfl
def yX7_borrowerSinks : MethodName := ⟨zR7, "borrowerSinks", "(II)I"⟩
abbrev bX7_borrowerSinks : ByteArray := prog_9_method_81_code
theorem mf_X7_borrowerSinks : MF yX7_borrowerSinks bX7_borrowerSinks 3 (Option.some Jvm.ClassFile.FieldType.int) 2 := ⟨gmk (sm_6 (List.mem_of_getElem? (i := 170) rfl)) rfl, gmk (sm_1 (List.mem_of_getElem? (i := 8) (by decide +kernel))) rfl, by decide +kernel, by decide +kernel, by decide +kernel⟩
theorem in_X7_borrowerSinks : Cond.instanceMethod yX7_borrowerSinks ∈ gT := gmk (sm_6 (List.mem_of_getElem? (i := 169) (by decide +kernel))) rfl
theorem se_X7_borrowerSinks : Cond.selects yX7_borrowerSinks.cls yX7_borrowerSinks yX7_borrowerSinks ∈ gT := gm 77 (by decide +kernel) rfl
def yX7_sinksAct : MethodName := ⟨zR7, "sinksAct", "(II)I"⟩
abbrev bX7_sinksAct : ByteArray := prog_9_method_82_code
theorem mf_X7_sinksAct : MF yX7_sinksAct bX7_sinksAct 3 (Option.some Jvm.ClassFile.FieldType.int) 2 := ⟨gmk (sm_6 (List.mem_of_getElem? (i := 162) rfl)) rfl, gmk (sm_1 (List.mem_of_getElem? (i := 8) (by decide +kernel))) rfl, by decide +kernel, by decide +kernel, by decide +kernel⟩
theorem in_X7_sinksAct : Cond.instanceMethod yX7_sinksAct ∈ gT := gmk (sm_6 (List.mem_of_getElem? (i := 161) (by decide +kernel))) rfl
theorem se_X7_sinksAct : Cond.selects yX7_sinksAct.cls yX7_sinksAct yX7_sinksAct ∈ gT := gm 75 (by decide +kernel) rfl
def yX7_borrowerBorrows : MethodName := ⟨zR7, "borrowerBorrows", "(II)I"⟩
abbrev bX7_borrowerBorrows : ByteArray := prog_9_method_83_code
theorem mf_X7_borrowerBorrows : MF yX7_borrowerBorrows bX7_borrowerBorrows 3 (Option.some Jvm.ClassFile.FieldType.int) 2 := ⟨gmk (sm_6 (List.mem_of_getElem? (i := 182) rfl)) rfl, gmk (sm_1 (List.mem_of_getElem? (i := 8) (by decide +kernel))) rfl, by decide +kernel, by decide +kernel, by decide +kernel⟩
theorem in_X7_borrowerBorrows : Cond.instanceMethod yX7_borrowerBorrows ∈ gT := gmk (sm_6 (List.mem_of_getElem? (i := 181) (by decide +kernel))) rfl
theorem se_X7_borrowerBorrows : Cond.selects yX7_borrowerBorrows.cls yX7_borrowerBorrows yX7_borrowerBorrows ∈ gT := gm 80 (by decide +kernel) rfl
def yX7_lateBorrows : MethodName := ⟨zR7, "lateBorrows", "(II)I"⟩
abbrev bX7_lateBorrows : ByteArray := prog_9_method_84_code
theorem mf_X7_lateBorrows : MF yX7_lateBorrows bX7_lateBorrows 3 (Option.some Jvm.ClassFile.FieldType.int) 2 := ⟨gmk (sm_6 (List.mem_of_getElem? (i := 178) rfl)) rfl, gmk (sm_1 (List.mem_of_getElem? (i := 8) (by decide +kernel))) rfl, by decide +kernel, by decide +kernel, by decide +kernel⟩
theorem in_X7_lateBorrows : Cond.instanceMethod yX7_lateBorrows ∈ gT := gmk (sm_6 (List.mem_of_getElem? (i := 177) (by decide +kernel))) rfl
theorem se_X7_lateBorrows : Cond.selects yX7_lateBorrows.cls yX7_lateBorrows yX7_lateBorrows ∈ gT := gm 79 (by decide +kernel) rfl
def yX7_borrowsAct : MethodName := ⟨zR7, "borrowsAct", "(II)I"⟩
abbrev bX7_borrowsAct : ByteArray := prog_9_method_85_code
theorem mf_X7_borrowsAct : MF yX7_borrowsAct bX7_borrowsAct 4 (Option.some Jvm.ClassFile.FieldType.int) 2 := ⟨gmk (sm_6 (List.mem_of_getElem? (i := 174) rfl)) rfl, gmk (sm_1 (List.mem_of_getElem? (i := 8) (by decide +kernel))) rfl, by decide +kernel, by decide +kernel, by decide +kernel⟩
theorem in_X7_borrowsAct : Cond.instanceMethod yX7_borrowsAct ∈ gT := gmk (sm_6 (List.mem_of_getElem? (i := 173) (by decide +kernel))) rfl
theorem se_X7_borrowsAct : Cond.selects yX7_borrowsAct.cls yX7_borrowsAct yX7_borrowsAct ∈ gT := gm 78 (by decide +kernel) rfl
def yX7_borrowerTells : MethodName := ⟨zR7, "borrowerTells", "(II)I"⟩
abbrev bX7_borrowerTells : ByteArray := prog_9_method_86_code
theorem mf_X7_borrowerTells : MF yX7_borrowerTells bX7_borrowerTells 3 (Option.some Jvm.ClassFile.FieldType.int) 2 := ⟨gmk (sm_6 (List.mem_of_getElem? (i := 190) rfl)) rfl, gmk (sm_1 (List.mem_of_getElem? (i := 8) (by decide +kernel))) rfl, by decide +kernel, by decide +kernel, by decide +kernel⟩
theorem in_X7_borrowerTells : Cond.instanceMethod yX7_borrowerTells ∈ gT := gmk (sm_6 (List.mem_of_getElem? (i := 189) (by decide +kernel))) rfl
theorem se_X7_borrowerTells : Cond.selects yX7_borrowerTells.cls yX7_borrowerTells yX7_borrowerTells ∈ gT := gm 82 (by decide +kernel) rfl
def yX7_tellsAct : MethodName := ⟨zR7, "tellsAct", "(II)I"⟩
abbrev bX7_tellsAct : ByteArray := prog_9_method_87_code
theorem mf_X7_tellsAct : MF yX7_tellsAct bX7_tellsAct 4 (Option.some Jvm.ClassFile.FieldType.int) 2 := ⟨gmk (sm_6 (List.mem_of_getElem? (i := 186) rfl)) rfl, gmk (sm_1 (List.mem_of_getElem? (i := 8) (by decide +kernel))) rfl, by decide +kernel, by decide +kernel, by decide +kernel⟩
theorem in_X7_tellsAct : Cond.instanceMethod yX7_tellsAct ∈ gT := gmk (sm_6 (List.mem_of_getElem? (i := 185) (by decide +kernel))) rfl
theorem se_X7_tellsAct : Cond.selects yX7_tellsAct.cls yX7_tellsAct yX7_tellsAct ∈ gT := gm 81 (by decide +kernel) rfl
def yX7_act : MethodName := ⟨zR7, "act", "(III)I"⟩
abbrev bX7_act : ByteArray := prog_9_method_88_code
theorem mf_X7_act : MF yX7_act bX7_act 4 (Option.some Jvm.ClassFile.FieldType.int) 3 := ⟨gmk (sm_6 (List.mem_of_getElem? (i := 158) rfl)) rfl, gmk (sm_1 (List.mem_of_getElem? (i := 8) (by decide +kernel))) rfl, by decide +kernel, by decide +kernel, by decide +kernel⟩
theorem in_X7_act : Cond.instanceMethod yX7_act ∈ gT := gmk (sm_6 (List.mem_of_getElem? (i := 156) (by decide +kernel))) rfl
theorem se_X7_act : Cond.selects yX7_act.cls yX7_act yX7_act ∈ gT := gmk (sm_6 (List.mem_of_getElem? (i := 157) (by decide +kernel))) rfl
def yX7_trace : MethodName := ⟨zR7, "trace", "(I)I"⟩
abbrev bX7_trace : ByteArray := prog_9_method_89_code
theorem mf_X7_trace : MF yX7_trace bX7_trace 2 (Option.some Jvm.ClassFile.FieldType.int) 1 := ⟨gmk (sm_6 (List.mem_of_getElem? (i := 194) rfl)) rfl, gmk (sm_1 (List.mem_of_getElem? (i := 8) (by decide +kernel))) rfl, by decide +kernel, by decide +kernel, by decide +kernel⟩
theorem in_X7_trace : Cond.instanceMethod yX7_trace ∈ gT := gmk (sm_6 (List.mem_of_getElem? (i := 192) (by decide +kernel))) rfl
theorem se_X7_trace : Cond.selects yX7_trace.cls yX7_trace yX7_trace ∈ gT := gmk (sm_6 (List.mem_of_getElem? (i := 193) (by decide +kernel))) rfl
def yX7_taken : MethodName := ⟨zR7, "taken", "(II)I"⟩
abbrev bX7_taken : ByteArray := prog_9_method_90_code
theorem mf_X7_taken : MF yX7_taken bX7_taken 4 (Option.some Jvm.ClassFile.FieldType.int) 2 := ⟨gmk (sm_6 (List.mem_of_getElem? (i := 198) rfl)) rfl, gmk (sm_1 (List.mem_of_getElem? (i := 8) (by decide +kernel))) rfl, by decide +kernel, by decide +kernel, by decide +kernel⟩
theorem in_X7_taken : Cond.instanceMethod yX7_taken ∈ gT := gmk (sm_6 (List.mem_of_getElem? (i := 196) (by decide +kernel))) rfl
theorem se_X7_taken : Cond.selects yX7_taken.cls yX7_taken yX7_taken ∈ gT := gmk (sm_6 (List.mem_of_getElem? (i := 197) (by decide +kernel))) rfl
def yX7_count : MethodName := ⟨zR7, "count", "(I)I"⟩
abbrev bX7_count : ByteArray := prog_9_method_91_code
theorem mf_X7_count : MF yX7_count bX7_count 2 (Option.some Jvm.ClassFile.FieldType.int) 1 := ⟨gmk (sm_6 (List.mem_of_getElem? (i := 202) rfl)) rfl, gmk (sm_1 (List.mem_of_getElem? (i := 8) (by decide +kernel))) rfl, by decide +kernel, by decide +kernel, by decide +kernel⟩
theorem in_X7_count : Cond.instanceMethod yX7_count ∈ gT := gmk (sm_6 (List.mem_of_getElem? (i := 200) (by decide +kernel))) rfl
theorem se_X7_count : Cond.selects yX7_count.cls yX7_count yX7_count ∈ gT := gmk (sm_6 (List.mem_of_getElem? (i := 201) (by decide +kernel))) rfl
def yX7_isTape : MethodName := ⟨zR7, "isTape", "(I)Z"⟩
abbrev bX7_isTape : ByteArray := prog_9_method_92_code
theorem mf_X7_isTape : MF yX7_isTape bX7_isTape 2 (Option.some Jvm.ClassFile.FieldType.boolean) 1 := ⟨gmk (sm_6 (List.mem_of_getElem? (i := 146) rfl)) rfl, gmk (sm_1 (List.mem_of_getElem? (i := 8) (by decide +kernel))) rfl, by decide +kernel, by decide +kernel, by decide +kernel⟩
theorem in_X7_isTape : Cond.instanceMethod yX7_isTape ∈ gT := gmk (sm_6 (List.mem_of_getElem? (i := 145) (by decide +kernel))) rfl
theorem se_X7_isTape : Cond.selects yX7_isTape.cls yX7_isTape yX7_isTape ∈ gT := gm 74 (by decide +kernel) rfl
def yX7_tape : MethodName := ⟨zR7, "tape", "(III)I"⟩
abbrev bX7_tape : ByteArray := prog_9_method_93_code
theorem mf_X7_tape : MF yX7_tape bX7_tape 5 (Option.some Jvm.ClassFile.FieldType.int) 3 := ⟨gmk (sm_6 (List.mem_of_getElem? (i := 206) rfl)) rfl, gmk (sm_1 (List.mem_of_getElem? (i := 8) (by decide +kernel))) rfl, by decide +kernel, by decide +kernel, by decide +kernel⟩
theorem in_X7_tape : Cond.instanceMethod yX7_tape ∈ gT := gmk (sm_6 (List.mem_of_getElem? (i := 204) (by decide +kernel))) rfl
theorem se_X7_tape : Cond.selects yX7_tape.cls yX7_tape yX7_tape ∈ gT := gmk (sm_6 (List.mem_of_getElem? (i := 205) (by decide +kernel))) rfl
def yX7_narrow : MethodName := ⟨zR7, "narrow", "(IJ)J"⟩
abbrev bX7_narrow : ByteArray := prog_9_method_94_code
theorem mf_X7_narrow : MF yX7_narrow bX7_narrow 4 (Option.some Jvm.ClassFile.FieldType.long) 2 := ⟨gmk (sm_6 (List.mem_of_getElem? (i := 214) rfl)) rfl, gmk (sm_1 (List.mem_of_getElem? (i := 8) (by decide +kernel))) rfl, by decide +kernel, by decide +kernel, by decide +kernel⟩
theorem in_X7_narrow : Cond.instanceMethod yX7_narrow ∈ gT := gmk (sm_6 (List.mem_of_getElem? (i := 213) (by decide +kernel))) rfl
theorem se_X7_narrow : Cond.selects yX7_narrow.cls yX7_narrow yX7_narrow ∈ gT := gm 83 (by decide +kernel) rfl
def yX7_item : MethodName := ⟨zR7, "item", "(IIJ)I"⟩
abbrev bX7_item : ByteArray := prog_9_method_95_code
theorem mf_X7_item : MF yX7_item bX7_item 5 (Option.some Jvm.ClassFile.FieldType.int) 3 := ⟨gmk (sm_6 (List.mem_of_getElem? (i := 210) rfl)) rfl, gmk (sm_1 (List.mem_of_getElem? (i := 8) (by decide +kernel))) rfl, by decide +kernel, by decide +kernel, by decide +kernel⟩
theorem in_X7_item : Cond.instanceMethod yX7_item ∈ gT := gmk (sm_6 (List.mem_of_getElem? (i := 208) (by decide +kernel))) rfl
theorem se_X7_item : Cond.selects yX7_item.cls yX7_item yX7_item ∈ gT := gmk (sm_6 (List.mem_of_getElem? (i := 209) (by decide +kernel))) rfl
def yX7_read : MethodName := ⟨zR7, "read", "(II)J"⟩
abbrev bX7_read : ByteArray := prog_9_method_96_code
theorem mf_X7_read : MF yX7_read bX7_read 3 (Option.some Jvm.ClassFile.FieldType.long) 2 := ⟨gmk (sm_6 (List.mem_of_getElem? (i := 218) rfl)) rfl, gmk (sm_1 (List.mem_of_getElem? (i := 8) (by decide +kernel))) rfl, by decide +kernel, by decide +kernel, by decide +kernel⟩
theorem in_X7_read : Cond.instanceMethod yX7_read ∈ gT := gmk (sm_6 (List.mem_of_getElem? (i := 216) (by decide +kernel))) rfl
theorem se_X7_read : Cond.selects yX7_read.cls yX7_read yX7_read ∈ gT := gmk (sm_6 (List.mem_of_getElem? (i := 217) (by decide +kernel))) rfl
def yX7_shift : MethodName := ⟨zR7, "shift", "(IIIII)I"⟩
abbrev bX7_shift : ByteArray := prog_9_method_97_code
theorem mf_X7_shift : MF yX7_shift bX7_shift 7 (Option.some Jvm.ClassFile.FieldType.int) 5 := ⟨gmk (sm_6 (List.mem_of_getElem? (i := 222) rfl)) rfl, gmk (sm_1 (List.mem_of_getElem? (i := 8) (by decide +kernel))) rfl, by decide +kernel, by decide +kernel, by decide +kernel⟩
theorem in_X7_shift : Cond.instanceMethod yX7_shift ∈ gT := gmk (sm_6 (List.mem_of_getElem? (i := 220) (by decide +kernel))) rfl
theorem se_X7_shift : Cond.selects yX7_shift.cls yX7_shift yX7_shift ∈ gT := gmk (sm_6 (List.mem_of_getElem? (i := 221) (by decide +kernel))) rfl
def yJ9_floorMod_7cf53 : MethodName := ⟨zRJ9, "floorMod", "(II)I"⟩
abbrev bJ9_floorMod_7cf53 : ByteArray := prog_10_method_50_code
theorem mf_J9_floorMod_7cf53 : MF yJ9_floorMod_7cf53 bJ9_floorMod_7cf53 3 (Option.some Jvm.ClassFile.FieldType.int) 2 := ⟨gmk (sm_2 (List.mem_of_getElem? (i := 100) rfl)) rfl, gmk (sm_1 (List.mem_of_getElem? (i := 9) (by decide +kernel))) rfl, by decide +kernel, by decide +kernel, by decide +kernel⟩
theorem st_J9_floorMod_7cf53 : Cond.static yJ9_floorMod_7cf53 ∈ gT := gmk (sm_2 (List.mem_of_getElem? (i := 99) (by decide +kernel))) rfl
def yJ9_max_7cf53 : MethodName := ⟨zRJ9, "max", "(II)I"⟩
abbrev bJ9_max_7cf53 : ByteArray := prog_10_method_65_code
theorem mf_J9_max_7cf53 : MF yJ9_max_7cf53 bJ9_max_7cf53 2 (Option.some Jvm.ClassFile.FieldType.int) 2 := ⟨gmk (sm_2 (List.mem_of_getElem? (i := 89) rfl)) rfl, gmk (sm_1 (List.mem_of_getElem? (i := 9) (by decide +kernel))) rfl, by decide +kernel, by decide +kernel, by decide +kernel⟩
theorem st_J9_max_7cf53 : Cond.static yJ9_max_7cf53 ∈ gT := gmk (sm_2 (List.mem_of_getElem? (i := 88) (by decide +kernel))) rfl
def yJ9_min_7cf53 : MethodName := ⟨zRJ9, "min", "(II)I"⟩
abbrev bJ9_min_7cf53 : ByteArray := prog_10_method_69_code
theorem mf_J9_min_7cf53 : MF yJ9_min_7cf53 bJ9_min_7cf53 2 (Option.some Jvm.ClassFile.FieldType.int) 2 := ⟨gmk (sm_2 (List.mem_of_getElem? (i := 97) rfl)) rfl, gmk (sm_1 (List.mem_of_getElem? (i := 9) (by decide +kernel))) rfl, by decide +kernel, by decide +kernel, by decide +kernel⟩
theorem st_J9_min_7cf53 : Cond.static yJ9_min_7cf53 ∈ gT := gmk (sm_2 (List.mem_of_getElem? (i := 96) (by decide +kernel))) rfl
def yJ0_length_8abf5 : MethodName := ⟨zRJ0, "length", "()I"⟩
abbrev bJ0_length_8abf5 : ByteArray := prog_11_method_54_code
theorem mf_J0_length_8abf5 : MF yJ0_length_8abf5 bJ0_length_8abf5 1 (Option.some Jvm.ClassFile.FieldType.int) 0 := ⟨gmk (sm_2 (List.mem_of_getElem? (i := 188) rfl)) rfl, gmk (sm_1 (List.mem_of_getElem? (i := 10) (by decide +kernel))) rfl, by decide +kernel, by decide +kernel, by decide +kernel⟩
theorem in_J0_length_8abf5 : Cond.instanceMethod yJ0_length_8abf5 ∈ gT := gmk (sm_2 (List.mem_of_getElem? (i := 186) (by decide +kernel))) rfl
theorem se_J0_length_8abf5 : Cond.selects yJ0_length_8abf5.cls yJ0_length_8abf5 yJ0_length_8abf5 ∈ gT := gmk (sm_2 (List.mem_of_getElem? (i := 187) (by decide +kernel))) rfl
def yJ0_charAt_5068e : MethodName := ⟨zRJ0, "charAt", "(I)C"⟩
abbrev bJ0_charAt_5068e : ByteArray := prog_11_method_56_code
theorem mf_J0_charAt_5068e : MF yJ0_charAt_5068e bJ0_charAt_5068e 2 (Option.some Jvm.ClassFile.FieldType.char) 1 := ⟨gmk (sm_2 (List.mem_of_getElem? (i := 198) rfl)) rfl, gmk (sm_1 (List.mem_of_getElem? (i := 10) (by decide +kernel))) rfl, by decide +kernel, by decide +kernel, by decide +kernel⟩
theorem in_J0_charAt_5068e : Cond.instanceMethod yJ0_charAt_5068e ∈ gT := gmk (sm_2 (List.mem_of_getElem? (i := 196) (by decide +kernel))) rfl
theorem se_J0_charAt_5068e : Cond.selects yJ0_charAt_5068e.cls yJ0_charAt_5068e yJ0_charAt_5068e ∈ gT := gmk (sm_2 (List.mem_of_getElem? (i := 197) (by decide +kernel))) rfl
def yJ0_coder_7d493 : MethodName := ⟨zRJ0, "coder", "()B"⟩
abbrev bJ0_coder_7d493 : ByteArray := prog_11_method_152_code
theorem mf_J0_coder_7d493 : MF yJ0_coder_7d493 bJ0_coder_7d493 1 (Option.some Jvm.ClassFile.FieldType.byte) 0 := ⟨gmk (sm_2 (List.mem_of_getElem? (i := 192) rfl)) rfl, gmk (sm_1 (List.mem_of_getElem? (i := 10) (by decide +kernel))) rfl, by decide +kernel, by decide +kernel, by decide +kernel⟩
theorem in_J0_coder_7d493 : Cond.instanceMethod yJ0_coder_7d493 ∈ gT := gmk (sm_2 (List.mem_of_getElem? (i := 190) (by decide +kernel))) rfl
theorem se_J0_coder_7d493 : Cond.selects yJ0_coder_7d493.cls yJ0_coder_7d493 yJ0_coder_7d493 ∈ gT := gmk (sm_2 (List.mem_of_getElem? (i := 191) (by decide +kernel))) rfl
def yJ0_isLatin1_aae02 : MethodName := ⟨zRJ0, "isLatin1", "()Z"⟩
abbrev bJ0_isLatin1_aae02 : ByteArray := prog_11_method_154_code
theorem mf_J0_isLatin1_aae02 : MF yJ0_isLatin1_aae02 bJ0_isLatin1_aae02 1 (Option.some Jvm.ClassFile.FieldType.boolean) 0 := ⟨gmk (sm_2 (List.mem_of_getElem? (i := 202) rfl)) rfl, gmk (sm_1 (List.mem_of_getElem? (i := 10) (by decide +kernel))) rfl, by decide +kernel, by decide +kernel, by decide +kernel⟩
theorem in_J0_isLatin1_aae02 : Cond.instanceMethod yJ0_isLatin1_aae02 ∈ gT := gmk (sm_2 (List.mem_of_getElem? (i := 200) (by decide +kernel))) rfl
theorem se_J0_isLatin1_aae02 : Cond.selects yJ0_isLatin1_aae02.cls yJ0_isLatin1_aae02 yJ0_isLatin1_aae02 ∈ gT := gmk (sm_2 (List.mem_of_getElem? (i := 201) (by decide +kernel))) rfl
def yJ0_checkIndex_df160 : MethodName := ⟨zRJ0, "checkIndex", "(II)V"⟩
abbrev bJ0_checkIndex_df160 : ByteArray := prog_11_method_155_code
theorem mf_J0_checkIndex_df160 : MF yJ0_checkIndex_df160 bJ0_checkIndex_df160 2 (Option.none : Option Jvm.ClassFile.FieldType) 2 := ⟨gmk (sm_2 (List.mem_of_getElem? (i := 208) rfl)) rfl, gmk (sm_1 (List.mem_of_getElem? (i := 10) (by decide +kernel))) rfl, by decide +kernel, by decide +kernel, by decide +kernel⟩
theorem st_J0_checkIndex_df160 : Cond.static yJ0_checkIndex_df160 ∈ gT := gmk (sm_2 (List.mem_of_getElem? (i := 207) (by decide +kernel))) rfl
def yJ1_charAt_3b067 : MethodName := ⟨zRJ1, "charAt", "([BI)C"⟩
abbrev bJ1_charAt_3b067 : ByteArray := prog_12_method_2_code
theorem mf_J1_charAt_3b067 : MF yJ1_charAt_3b067 bJ1_charAt_3b067 2 (Option.some Jvm.ClassFile.FieldType.char) 2 := ⟨gmk (sm_2 (List.mem_of_getElem? (i := 205) rfl)) rfl, gmk (sm_1 (List.mem_of_getElem? (i := 11) (by decide +kernel))) rfl, by decide +kernel, by decide +kernel, by decide +kernel⟩
theorem st_J1_charAt_3b067 : Cond.static yJ1_charAt_3b067 ∈ gT := gmk (sm_2 (List.mem_of_getElem? (i := 204) (by decide +kernel))) rfl
def yJ2_getChar_3b067 : MethodName := ⟨zRJ2, "getChar", "([BI)C"⟩
abbrev bJ2_getChar_3b067 : ByteArray := prog_13_method_5_code
theorem mf_J2_getChar_3b067 : MF yJ2_getChar_3b067 bJ2_getChar_3b067 2 (Option.some Jvm.ClassFile.FieldType.char) 2 := ⟨gmk (sm_2 (List.mem_of_getElem? (i := 226) rfl)) rfl, gmk (sm_1 (List.mem_of_getElem? (i := 13) (by decide +kernel))) rfl, by decide +kernel, by decide +kernel, by decide +kernel⟩
theorem st_J2_getChar_3b067 : Cond.static yJ2_getChar_3b067 ∈ gT := gmk (sm_2 (List.mem_of_getElem? (i := 225) (by decide +kernel))) rfl
def yJ2_length_9d52b : MethodName := ⟨zRJ2, "length", "([B)I"⟩
abbrev bJ2_length_9d52b : ByteArray := prog_13_method_6_code
theorem mf_J2_length_9d52b : MF yJ2_length_9d52b bJ2_length_9d52b 1 (Option.some Jvm.ClassFile.FieldType.int) 1 := ⟨gmk (sm_2 (List.mem_of_getElem? (i := 222) rfl)) rfl, gmk (sm_1 (List.mem_of_getElem? (i := 13) (by decide +kernel))) rfl, by decide +kernel, by decide +kernel, by decide +kernel⟩
theorem st_J2_length_9d52b : Cond.static yJ2_length_9d52b ∈ gT := gmk (sm_2 (List.mem_of_getElem? (i := 221) (by decide +kernel))) rfl
def yJ2_charAt_3b067 : MethodName := ⟨zRJ2, "charAt", "([BI)C"⟩
abbrev bJ2_charAt_3b067 : ByteArray := prog_13_method_83_code
theorem mf_J2_charAt_3b067 : MF yJ2_charAt_3b067 bJ2_charAt_3b067 2 (Option.some Jvm.ClassFile.FieldType.char) 2 := ⟨gmk (sm_2 (List.mem_of_getElem? (i := 216) rfl)) rfl, gmk (sm_1 (List.mem_of_getElem? (i := 13) (by decide +kernel))) rfl, by decide +kernel, by decide +kernel, by decide +kernel⟩
theorem st_J2_charAt_3b067 : Cond.static yJ2_charAt_3b067 ∈ gT := gmk (sm_2 (List.mem_of_getElem? (i := 215) (by decide +kernel))) rfl
def yJ2_checkIndex_2214a : MethodName := ⟨zRJ2, "checkIndex", "(I[B)V"⟩
abbrev bJ2_checkIndex_2214a : ByteArray := prog_13_method_91_code
theorem mf_J2_checkIndex_2214a : MF yJ2_checkIndex_2214a bJ2_checkIndex_2214a 2 (Option.none : Option Jvm.ClassFile.FieldType) 2 := ⟨gmk (sm_2 (List.mem_of_getElem? (i := 219) rfl)) rfl, gmk (sm_1 (List.mem_of_getElem? (i := 13) (by decide +kernel))) rfl, by decide +kernel, by decide +kernel, by decide +kernel⟩
theorem st_J2_checkIndex_2214a : Cond.static yJ2_checkIndex_2214a ∈ gT := gmk (sm_2 (List.mem_of_getElem? (i := 218) (by decide +kernel))) rfl
def yJ3_checkIndex_8e157 : MethodName := ⟨zRJ3, "checkIndex", "(IILjava/util/function/BiFunction;)I"⟩
abbrev bJ3_checkIndex_8e157 : ByteArray := prog_15_method_11_code
theorem mf_J3_checkIndex_8e157 : MF yJ3_checkIndex_8e157 bJ3_checkIndex_8e157 3 (Option.some Jvm.ClassFile.FieldType.int) 3 := ⟨gmk (sm_2 (List.mem_of_getElem? (i := 213) rfl)) rfl, gmk (sm_1 (List.mem_of_getElem? (i := 12) (by decide +kernel))) rfl, by decide +kernel, by decide +kernel, by decide +kernel⟩
theorem st_J3_checkIndex_8e157 : Cond.static yJ3_checkIndex_8e157 ∈ gT := gmk (sm_2 (List.mem_of_getElem? (i := 212) (by decide +kernel))) rfl
theorem ml_X6_61 : Cond.methodLink zR6 61 yX4_init ∈ gT := gmk (sm_1 (List.mem_of_getElem? (i := 234) (by decide +kernel))) rfl
theorem ml_X6_80 : Cond.methodLink zR6 80 yX6_within ∈ gT := gmk (sm_2 (List.mem_of_getElem? (i := 60) (by decide +kernel))) rfl
theorem ml_X6_87 : Cond.methodLink zR6 87 yX5_join ∈ gT := gmk (sm_2 (List.mem_of_getElem? (i := 63) (by decide +kernel))) rfl
theorem ml_X6_91 : Cond.methodLink zR6 91 yX6_known ∈ gT := gmk (sm_2 (List.mem_of_getElem? (i := 71) (by decide +kernel))) rfl
theorem ml_X6_120 : Cond.methodLink zR6 120 yX6_rules ∈ gT := gmk (sm_2 (List.mem_of_getElem? (i := 75) (by decide +kernel))) rfl
theorem ml_X6_124 : Cond.methodLink zR6 124 yX1_rate ∈ gT := gmk (sm_2 (List.mem_of_getElem? (i := 79) (by decide +kernel))) rfl
theorem ml_X6_131 : Cond.methodLink zR6 131 yX5_asks ∈ gT := gmk (sm_2 (List.mem_of_getElem? (i := 90) (by decide +kernel))) rfl
theorem ml_X6_135 : Cond.methodLink zR6 135 yX5_keeps ∈ gT := gmk (sm_2 (List.mem_of_getElem? (i := 101) (by decide +kernel))) rfl
theorem ml_X6_139 : Cond.methodLink zR6 139 yX5_staysAway ∈ gT := gmk (sm_2 (List.mem_of_getElem? (i := 105) (by decide +kernel))) rfl
theorem ml_X6_142 : Cond.methodLink zR6 142 yX5_bringsBack ∈ gT := gmk (sm_2 (List.mem_of_getElem? (i := 109) (by decide +kernel))) rfl
theorem ml_X6_154 : Cond.methodLink zR6 154 yX5_trade ∈ gT := gmk (sm_2 (List.mem_of_getElem? (i := 129) (by decide +kernel))) rfl
theorem ml_X6_158 : Cond.methodLink zR6 158 yX5_callIn ∈ gT := gmk (sm_2 (List.mem_of_getElem? (i := 137) (by decide +kernel))) rfl
theorem ml_X6_165 : Cond.methodLink zR6 165 yX3_take ∈ gT := gmk (sm_2 (List.mem_of_getElem? (i := 149) (by decide +kernel))) rfl
theorem ml_X6_168 : Cond.methodLink zR6 168 yX3_readInto ∈ gT := gmk (sm_2 (List.mem_of_getElem? (i := 157) (by decide +kernel))) rfl
theorem ml_X6_181 : Cond.methodLink zR6 181 yX5_owesOfAll ∈ gT := gmk (sm_3 (List.mem_of_getElem? (i := 31) (by decide +kernel))) rfl
theorem ml_X6_185 : Cond.methodLink zR6 185 yX6_askedDays ∈ gT := gmk (sm_3 (List.mem_of_getElem? (i := 39) (by decide +kernel))) rfl
theorem ml_X6_188 : Cond.methodLink zR6 188 yX5_goDay ∈ gT := gmk (sm_3 (List.mem_of_getElem? (i := 42) (by decide +kernel))) rfl
theorem ml_X6_192 : Cond.methodLink zR6 192 yX6_startTrial ∈ gT := gmk (sm_3 (List.mem_of_getElem? (i := 64) (by decide +kernel))) rfl
theorem ml_X6_195 : Cond.methodLink zR6 195 yX6_goTrial ∈ gT := gmk (sm_3 (List.mem_of_getElem? (i := 75) (by decide +kernel))) rfl
theorem ml_X6_201 : Cond.methodLink zR6 201 yX6_whomToCall ∈ gT := gmk (sm_3 (List.mem_of_getElem? (i := 91) (by decide +kernel))) rfl
theorem ml_X6_204 : Cond.methodLink zR6 204 yX6_whoComesAhead ∈ gT := gmk (sm_3 (List.mem_of_getElem? (i := 99) (by decide +kernel))) rfl
theorem ml_X6_207 : Cond.methodLink zR6 207 yX6_bestMark ∈ gT := gmk (sm_3 (List.mem_of_getElem? (i := 103) (by decide +kernel))) rfl
theorem ml_X6_210 : Cond.methodLink zR6 210 yX6_turnedAsAllIs ∈ gT := gmk (sm_3 (List.mem_of_getElem? (i := 107) (by decide +kernel))) rfl
theorem ml_X6_213 : Cond.methodLink zR6 213 yX6_turnedOfTrial ∈ gT := gmk (sm_3 (List.mem_of_getElem? (i := 95) (by decide +kernel))) rfl
theorem ml_X6_216 : Cond.methodLink zR6 216 yX5_rise ∈ gT := gmk (sm_3 (List.mem_of_getElem? (i := 119) (by decide +kernel))) rfl
theorem ml_X6_219 : Cond.methodLink zR6 219 yX6_nobodySentIn ∈ gT := gmk (sm_3 (List.mem_of_getElem? (i := 120) (by decide +kernel))) rfl
theorem ml_X6_226 : Cond.methodLink zR6 226 yX2_addSeen ∈ gT := gmk (sm_3 (List.mem_of_getElem? (i := 128) (by decide +kernel))) rfl
theorem ml_X6_229 : Cond.methodLink zR6 229 yX6_trialShowsAllSeen ∈ gT := gmk (sm_3 (List.mem_of_getElem? (i := 136) (by decide +kernel))) rfl
theorem ml_X6_235 : Cond.methodLink zR6 235 yX6_lowestTerms ∈ gT := gmk (sm_3 (List.mem_of_getElem? (i := 158) (by decide +kernel))) rfl
theorem ml_X6_242 : Cond.methodLink zR6 242 yX2_addYear ∈ gT := gmk (sm_3 (List.mem_of_getElem? (i := 172) (by decide +kernel))) rfl
theorem ml_X6_251 : Cond.methodLink zR6 251 yX6_goYearRow ∈ gT := gmk (sm_3 (List.mem_of_getElem? (i := 180) (by decide +kernel))) rfl
theorem ml_X6_258 : Cond.methodLink zR6 258 yX2_addBook ∈ gT := gmk (sm_3 (List.mem_of_getElem? (i := 189) (by decide +kernel))) rfl
theorem ml_X6_267 : Cond.methodLink zR6 267 yX4_known ∈ gT := gmk (sm_3 (List.mem_of_getElem? (i := 201) (by decide +kernel))) rfl
theorem ml_X6_268 : Cond.methodLink zR6 268 yX4_holds ∈ gT := gmk (sm_3 (List.mem_of_getElem? (i := 205) (by decide +kernel))) rfl
theorem ml_X6_274 : Cond.methodLink zR6 274 yX4_hasPlace ∈ gT := gmk (sm_3 (List.mem_of_getElem? (i := 209) (by decide +kernel))) rfl
theorem ml_X6_282 : Cond.methodLink zR6 282 yX5_copyFrom ∈ gT := gmk (sm_3 (List.mem_of_getElem? (i := 68) (by decide +kernel))) rfl
theorem ml_X6_286 : Cond.methodLink zR6 286 yX2_copyFrom ∈ gT := gmk (sm_3 (List.mem_of_getElem? (i := 218) (by decide +kernel))) rfl
theorem ml_X6_289 : Cond.methodLink zR6 289 yX0_forget ∈ gT := gmk (sm_3 (List.mem_of_getElem? (i := 231) (by decide +kernel))) rfl
theorem ml_X6_292 : Cond.methodLink zR6 292 yX0_perform ∈ gT := gmk (sm_3 (List.mem_of_getElem? (i := 235) (by decide +kernel))) rfl
theorem ml_X6_296 : Cond.methodLink zR6 296 yX0_traced ∈ gT := gmk (sm_4 (List.mem_of_getElem? (i := 15) (by decide +kernel))) rfl
theorem ml_X6_299 : Cond.methodLink zR6 299 yX6_isUnder ∈ gT := gmk (sm_4 (List.mem_of_getElem? (i := 23) (by decide +kernel))) rfl
theorem ml_X6_305 : Cond.methodLink zR6 305 yX4_make ∈ gT := gmk (sm_4 (List.mem_of_getElem? (i := 35) (by decide +kernel))) rfl
theorem ml_X6_309 : Cond.methodLink zR6 309 yX4_cut ∈ gT := gmk (sm_4 (List.mem_of_getElem? (i := 43) (by decide +kernel))) rfl
theorem ml_X6_313 : Cond.methodLink zR6 313 yX4_hasRoom ∈ gT := gmk (sm_4 (List.mem_of_getElem? (i := 54) (by decide +kernel))) rfl
theorem ml_acpy_X6_316 : Cond.methodLink zR6 316 arraycopyName ∈ gT := gmk (sm_4 (List.mem_of_getElem? (i := 58) (by decide +kernel))) rfl
theorem ml_X6_325 : Cond.methodLink zR6 325 yX6_commonDivisor ∈ gT := gmk (sm_3 (List.mem_of_getElem? (i := 161) (by decide +kernel))) rfl
theorem ml_X6_329 : Cond.methodLink zR6 329 yX2_farthestSeen ∈ gT := gmk (sm_3 (List.mem_of_getElem? (i := 140) (by decide +kernel))) rfl
theorem ml_X6_332 : Cond.methodLink zR6 332 yX2_seenFits ∈ gT := gmk (sm_3 (List.mem_of_getElem? (i := 145) (by decide +kernel))) rfl
theorem ml_X0_34 : Cond.methodLink zR0 34 yX0_from ∈ gT := gmk (sm_3 (List.mem_of_getElem? (i := 239) (by decide +kernel))) rfl
theorem ml_X0_44 : Cond.methodLink zR0 44 yX0_run ∈ gT := gmk (sm_4 (List.mem_of_getElem? (i := 7) (by decide +kernel))) rfl
theorem ml_X1_63 : Cond.methodLink zR1 63 yX1_conditionHolds ∈ gT := gmk (sm_2 (List.mem_of_getElem? (i := 83) (by decide +kernel))) rfl
theorem ml_X1_67 : Cond.methodLink zR1 67 yJ9_max_7cf53 ∈ gT := gmk (sm_2 (List.mem_of_getElem? (i := 87) (by decide +kernel))) rfl
theorem ml_acpy_X2_38 : Cond.methodLink zR2 38 arraycopyName ∈ gT := gmk (sm_3 (List.mem_of_getElem? (i := 222) (by decide +kernel))) rfl
theorem ml_X2_44 : Cond.methodLink zR2 44 yJ9_max_7cf53 ∈ gT := gmk (sm_3 (List.mem_of_getElem? (i := 144) (by decide +kernel))) rfl
theorem ml_X3_31 : Cond.methodLink zR3 31 yX1_clear ∈ gT := gmk (sm_2 (List.mem_of_getElem? (i := 161) (by decide +kernel))) rfl
theorem ml_X3_34 : Cond.methodLink zR3 34 yX3_readClause ∈ gT := gmk (sm_2 (List.mem_of_getElem? (i := 165) (by decide +kernel))) rfl
theorem ml_X3_37 : Cond.methodLink zR3 37 yX3_sign ∈ gT := gmk (sm_2 (List.mem_of_getElem? (i := 169) (by decide +kernel))) rfl
theorem ml_X3_41 : Cond.methodLink zR3 41 yJ0_length_8abf5 ∈ gT := gmk (sm_2 (List.mem_of_getElem? (i := 185) (by decide +kernel))) rfl
theorem ml_X3_45 : Cond.methodLink zR3 45 yJ0_charAt_5068e ∈ gT := gmk (sm_2 (List.mem_of_getElem? (i := 195) (by decide +kernel))) rfl
theorem ml_X3_49 : Cond.methodLink zR3 49 yX3_expect ∈ gT := gmk (sm_2 (List.mem_of_getElem? (i := 233) (by decide +kernel))) rfl
theorem ml_X3_53 : Cond.methodLink zR3 53 yX3_wordOf ∈ gT := gmk (sm_2 (List.mem_of_getElem? (i := 173) (by decide +kernel))) rfl
theorem ml_X3_57 : Cond.methodLink zR3 57 yX3_expectWord ∈ gT := gmk (sm_2 (List.mem_of_getElem? (i := 181) (by decide +kernel))) rfl
theorem ml_X3_61 : Cond.methodLink zR3 61 yX3_readNumber ∈ gT := gmk (sm_2 (List.mem_of_getElem? (i := 237) (by decide +kernel))) rfl
theorem ml_X3_73 : Cond.methodLink zR3 73 yX3_readEither ∈ gT := gmk (sm_3 (List.mem_of_getElem? (i := 1) (by decide +kernel))) rfl
theorem ml_X3_76 : Cond.methodLink zR3 76 yX1_addPrice ∈ gT := gmk (sm_3 (List.mem_of_getElem? (i := 22) (by decide +kernel))) rfl
theorem ml_X3_89 : Cond.methodLink zR3 89 yX3_readPart ∈ gT := gmk (sm_3 (List.mem_of_getElem? (i := 5) (by decide +kernel))) rfl
theorem ml_X3_92 : Cond.methodLink zR3 92 yX1_addStep ∈ gT := gmk (sm_3 (List.mem_of_getElem? (i := 9) (by decide +kernel))) rfl
theorem ml_X3_96 : Cond.methodLink zR3 96 yX3_readTest ∈ gT := gmk (sm_3 (List.mem_of_getElem? (i := 13) (by decide +kernel))) rfl
theorem ml_X3_101 : Cond.methodLink zR3 101 yX3_placeOf ∈ gT := gmk (sm_3 (List.mem_of_getElem? (i := 18) (by decide +kernel))) rfl
theorem ml_X4_21 : Cond.methodLink zR4 21 yX4_holds ∈ gT := gmk (sm_3 (List.mem_of_getElem? (i := 213) (by decide +kernel))) rfl
theorem ml_acpy_X5_55 : Cond.methodLink zR5 55 arraycopyName ∈ gT := gmk (sm_3 (List.mem_of_getElem? (i := 72) (by decide +kernel))) rfl
theorem ml_X5_61 : Cond.methodLink zR5 61 yJ9_min_7cf53 ∈ gT := gmk (sm_2 (List.mem_of_getElem? (i := 95) (by decide +kernel))) rfl
theorem ml_X5_67 : Cond.methodLink zR5 67 yX5_rise ∈ gT := gmk (sm_2 (List.mem_of_getElem? (i := 141) (by decide +kernel))) rfl
theorem ml_X5_71 : Cond.methodLink zR5 71 yJ9_max_7cf53 ∈ gT := gmk (sm_2 (List.mem_of_getElem? (i := 94) (by decide +kernel))) rfl
theorem ml_X5_74 : Cond.methodLink zR5 74 yJ9_floorMod_7cf53 ∈ gT := gmk (sm_2 (List.mem_of_getElem? (i := 98) (by decide +kernel))) rfl
theorem ml_X5_77 : Cond.methodLink zR5 77 yX5_keepOn ∈ gT := gmk (sm_3 (List.mem_of_getElem? (i := 46) (by decide +kernel))) rfl
theorem ml_X5_86 : Cond.methodLink zR5 86 yX5_comeAsking ∈ gT := gmk (sm_3 (List.mem_of_getElem? (i := 55) (by decide +kernel))) rfl
theorem ml_X5_94 : Cond.methodLink zR5 94 yX1_rate ∈ gT := gmk (sm_3 (List.mem_of_getElem? (i := 51) (by decide +kernel))) rfl
theorem ml_X5_98 : Cond.methodLink zR5 98 yX5_staysAway ∈ gT := gmk (sm_3 (List.mem_of_getElem? (i := 52) (by decide +kernel))) rfl
theorem ml_X5_102 : Cond.methodLink zR5 102 yX5_keeps ∈ gT := gmk (sm_3 (List.mem_of_getElem? (i := 53) (by decide +kernel))) rfl
theorem ml_X5_106 : Cond.methodLink zR5 106 yX5_bringsBack ∈ gT := gmk (sm_3 (List.mem_of_getElem? (i := 54) (by decide +kernel))) rfl
theorem ml_X5_109 : Cond.methodLink zR5 109 yX5_asks ∈ gT := gmk (sm_3 (List.mem_of_getElem? (i := 59) (by decide +kernel))) rfl
theorem ml_L_9 : Cond.methodLink R_law 9 yX6_init ∈ gT := gmk (sm_1 (List.mem_of_getElem? (i := 17) (by decide +kernel))) rfl
theorem ml_L_12 : Cond.methodLink R_law 12 yX7_init ∈ gT := gmk (sm_4 (List.mem_of_getElem? (i := 61) (by decide +kernel))) rfl
theorem ml_L_13 : Cond.methodLink R_law 13 yX6_borrower ∈ gT := gmk (sm_2 (List.mem_of_getElem? (i := 56) (by decide +kernel))) rfl
theorem ml_L_17 : Cond.methodLink R_law 17 yX7_borrower ∈ gT := gmk (sm_5 (List.mem_of_getElem? (i := 76) (by decide +kernel))) rfl
theorem ml_L_18 : Cond.methodLink R_law 18 yX6_of ∈ gT := gmk (sm_2 (List.mem_of_getElem? (i := 67) (by decide +kernel))) rfl
theorem ml_L_22 : Cond.methodLink R_law 22 yX7_of ∈ gT := gmk (sm_5 (List.mem_of_getElem? (i := 196) (by decide +kernel))) rfl
theorem ml_L_23 : Cond.methodLink R_law 23 yX6_set ∈ gT := gmk (sm_2 (List.mem_of_getElem? (i := 113) (by decide +kernel))) rfl
theorem ml_L_27 : Cond.methodLink R_law 27 yX7_set ∈ gT := gmk (sm_5 (List.mem_of_getElem? (i := 92) (by decide +kernel))) rfl
theorem ml_L_28 : Cond.methodLink R_law 28 yX6_row ∈ gT := gmk (sm_2 (List.mem_of_getElem? (i := 117) (by decide +kernel))) rfl
theorem ml_L_31 : Cond.methodLink R_law 31 yX7_row ∈ gT := gmk (sm_5 (List.mem_of_getElem? (i := 100) (by decide +kernel))) rfl
theorem ml_L_32 : Cond.methodLink R_law 32 yX6_depth ∈ gT := gmk (sm_2 (List.mem_of_getElem? (i := 121) (by decide +kernel))) rfl
theorem ml_L_36 : Cond.methodLink R_law 36 yX7_depth ∈ gT := gmk (sm_5 (List.mem_of_getElem? (i := 104) (by decide +kernel))) rfl
theorem ml_L_37 : Cond.methodLink R_law 37 yX6_change ∈ gT := gmk (sm_2 (List.mem_of_getElem? (i := 125) (by decide +kernel))) rfl
theorem ml_L_40 : Cond.methodLink R_law 40 yX7_change ∈ gT := gmk (sm_5 (List.mem_of_getElem? (i := 112) (by decide +kernel))) rfl
theorem ml_L_41 : Cond.methodLink R_law 41 yX6_call ∈ gT := gmk (sm_2 (List.mem_of_getElem? (i := 133) (by decide +kernel))) rfl
theorem ml_L_44 : Cond.methodLink R_law 44 yX7_call ∈ gT := gmk (sm_5 (List.mem_of_getElem? (i := 120) (by decide +kernel))) rfl
theorem ml_L_45 : Cond.methodLink R_law 45 yX6_feed ∈ gT := gmk (sm_2 (List.mem_of_getElem? (i := 145) (by decide +kernel))) rfl
theorem ml_L_48 : Cond.methodLink R_law 48 yX7_feed ∈ gT := gmk (sm_5 (List.mem_of_getElem? (i := 132) (by decide +kernel))) rfl
theorem ml_L_49 : Cond.methodLink R_law 49 yX6_country ∈ gT := gmk (sm_2 (List.mem_of_getElem? (i := 153) (by decide +kernel))) rfl
theorem ml_L_53 : Cond.methodLink R_law 53 yX7_country ∈ gT := gmk (sm_5 (List.mem_of_getElem? (i := 136) (by decide +kernel))) rfl
theorem ml_L_54 : Cond.methodLink R_law 54 yX6_told ∈ gT := gmk (sm_3 (List.mem_of_getElem? (i := 27) (by decide +kernel))) rfl
theorem ml_L_57 : Cond.methodLink R_law 57 yX7_told ∈ gT := gmk (sm_6 (List.mem_of_getElem? (i := 4) (by decide +kernel))) rfl
theorem ml_L_58 : Cond.methodLink R_law 58 yX6_pass ∈ gT := gmk (sm_3 (List.mem_of_getElem? (i := 35) (by decide +kernel))) rfl
theorem ml_L_61 : Cond.methodLink R_law 61 yX7_pass ∈ gT := gmk (sm_6 (List.mem_of_getElem? (i := 12) (by decide +kernel))) rfl
theorem ml_L_62 : Cond.methodLink R_law 62 yX6_on ∈ gT := gmk (sm_3 (List.mem_of_getElem? (i := 60) (by decide +kernel))) rfl
theorem ml_L_65 : Cond.methodLink R_law 65 yX7_on ∈ gT := gmk (sm_6 (List.mem_of_getElem? (i := 37) (by decide +kernel))) rfl
theorem ml_L_66 : Cond.methodLink R_law 66 yX6_lowest ∈ gT := gmk (sm_3 (List.mem_of_getElem? (i := 79) (by decide +kernel))) rfl
theorem ml_L_69 : Cond.methodLink R_law 69 yX7_lowest ∈ gT := gmk (sm_6 (List.mem_of_getElem? (i := 50) (by decide +kernel))) rfl
theorem ml_L_70 : Cond.methodLink R_law 70 yX6_first ∈ gT := gmk (sm_3 (List.mem_of_getElem? (i := 83) (by decide +kernel))) rfl
theorem ml_L_73 : Cond.methodLink R_law 73 yX7_first ∈ gT := gmk (sm_6 (List.mem_of_getElem? (i := 54) (by decide +kernel))) rfl
theorem ml_L_74 : Cond.methodLink R_law 74 yX6_best ∈ gT := gmk (sm_3 (List.mem_of_getElem? (i := 87) (by decide +kernel))) rfl
theorem ml_L_77 : Cond.methodLink R_law 77 yX7_best ∈ gT := gmk (sm_6 (List.mem_of_getElem? (i := 58) (by decide +kernel))) rfl
theorem ml_L_78 : Cond.methodLink R_law 78 yX6_seldom ∈ gT := gmk (sm_3 (List.mem_of_getElem? (i := 111) (by decide +kernel))) rfl
theorem ml_L_81 : Cond.methodLink R_law 81 yX7_seldom ∈ gT := gmk (sm_6 (List.mem_of_getElem? (i := 82) (by decide +kernel))) rfl
theorem ml_L_82 : Cond.methodLink R_law 82 yX6_more ∈ gT := gmk (sm_3 (List.mem_of_getElem? (i := 115) (by decide +kernel))) rfl
theorem ml_L_85 : Cond.methodLink R_law 85 yX7_more ∈ gT := gmk (sm_6 (List.mem_of_getElem? (i := 86) (by decide +kernel))) rfl
theorem ml_L_86 : Cond.methodLink R_law 86 yX6_see ∈ gT := gmk (sm_3 (List.mem_of_getElem? (i := 124) (by decide +kernel))) rfl
theorem ml_L_89 : Cond.methodLink R_law 89 yX7_see ∈ gT := gmk (sm_6 (List.mem_of_getElem? (i := 90) (by decide +kernel))) rfl
theorem ml_L_90 : Cond.methodLink R_law 90 yX6_wanted ∈ gT := gmk (sm_3 (List.mem_of_getElem? (i := 132) (by decide +kernel))) rfl
theorem ml_L_93 : Cond.methodLink R_law 93 yX7_wanted ∈ gT := gmk (sm_6 (List.mem_of_getElem? (i := 94) (by decide +kernel))) rfl
theorem ml_L_94 : Cond.methodLink R_law 94 yX6_can ∈ gT := gmk (sm_3 (List.mem_of_getElem? (i := 149) (by decide +kernel))) rfl
theorem ml_L_97 : Cond.methodLink R_law 97 yX7_can ∈ gT := gmk (sm_6 (List.mem_of_getElem? (i := 102) (by decide +kernel))) rfl
theorem ml_L_98 : Cond.methodLink R_law 98 yX6_odds ∈ gT := gmk (sm_3 (List.mem_of_getElem? (i := 153) (by decide +kernel))) rfl
theorem ml_L_102 : Cond.methodLink R_law 102 yX7_odds ∈ gT := gmk (sm_6 (List.mem_of_getElem? (i := 106) (by decide +kernel))) rfl
theorem ml_L_103 : Cond.methodLink R_law 103 yX6_mean ∈ gT := gmk (sm_3 (List.mem_of_getElem? (i := 164) (by decide +kernel))) rfl
theorem ml_L_106 : Cond.methodLink R_law 106 yX7_mean ∈ gT := gmk (sm_6 (List.mem_of_getElem? (i := 119) (by decide +kernel))) rfl
theorem ml_L_107 : Cond.methodLink R_law 107 yX6_year ∈ gT := gmk (sm_3 (List.mem_of_getElem? (i := 168) (by decide +kernel))) rfl
theorem ml_L_110 : Cond.methodLink R_law 110 yX7_year ∈ gT := gmk (sm_6 (List.mem_of_getElem? (i := 123) (by decide +kernel))) rfl
theorem ml_L_111 : Cond.methodLink R_law 111 yX6_gone ∈ gT := gmk (sm_3 (List.mem_of_getElem? (i := 176) (by decide +kernel))) rfl
theorem ml_L_114 : Cond.methodLink R_law 114 yX7_gone ∈ gT := gmk (sm_6 (List.mem_of_getElem? (i := 127) (by decide +kernel))) rfl
theorem ml_L_115 : Cond.methodLink R_law 115 yX6_book ∈ gT := gmk (sm_3 (List.mem_of_getElem? (i := 184) (by decide +kernel))) rfl
theorem ml_L_118 : Cond.methodLink R_law 118 yX7_book ∈ gT := gmk (sm_6 (List.mem_of_getElem? (i := 131) (by decide +kernel))) rfl
theorem ml_L_119 : Cond.methodLink R_law 119 yX6_looked ∈ gT := gmk (sm_3 (List.mem_of_getElem? (i := 193) (by decide +kernel))) rfl
theorem ml_L_122 : Cond.methodLink R_law 122 yX7_looked ∈ gT := gmk (sm_6 (List.mem_of_getElem? (i := 135) (by decide +kernel))) rfl
theorem ml_L_123 : Cond.methodLink R_law 123 yX6_judge ∈ gT := gmk (sm_3 (List.mem_of_getElem? (i := 197) (by decide +kernel))) rfl
theorem ml_L_126 : Cond.methodLink R_law 126 yX7_judge ∈ gT := gmk (sm_6 (List.mem_of_getElem? (i := 139) (by decide +kernel))) rfl
theorem ml_L_127 : Cond.methodLink R_law 127 yX6_image ∈ gT := gmk (sm_3 (List.mem_of_getElem? (i := 214) (by decide +kernel))) rfl
theorem ml_L_130 : Cond.methodLink R_law 130 yX7_image ∈ gT := gmk (sm_6 (List.mem_of_getElem? (i := 147) (by decide +kernel))) rfl
theorem ml_L_131 : Cond.methodLink R_law 131 yX6_undo ∈ gT := gmk (sm_3 (List.mem_of_getElem? (i := 223) (by decide +kernel))) rfl
theorem ml_L_134 : Cond.methodLink R_law 134 yX7_undo ∈ gT := gmk (sm_6 (List.mem_of_getElem? (i := 151) (by decide +kernel))) rfl
theorem ml_L_135 : Cond.methodLink R_law 135 yX6_act ∈ gT := gmk (sm_3 (List.mem_of_getElem? (i := 227) (by decide +kernel))) rfl
theorem ml_L_138 : Cond.methodLink R_law 138 yX7_act ∈ gT := gmk (sm_6 (List.mem_of_getElem? (i := 155) (by decide +kernel))) rfl
theorem ml_L_139 : Cond.methodLink R_law 139 yX6_trace ∈ gT := gmk (sm_4 (List.mem_of_getElem? (i := 11) (by decide +kernel))) rfl
theorem ml_L_142 : Cond.methodLink R_law 142 yX7_trace ∈ gT := gmk (sm_6 (List.mem_of_getElem? (i := 191) (by decide +kernel))) rfl
theorem ml_L_143 : Cond.methodLink R_law 143 yX6_taken ∈ gT := gmk (sm_4 (List.mem_of_getElem? (i := 19) (by decide +kernel))) rfl
theorem ml_L_146 : Cond.methodLink R_law 146 yX7_taken ∈ gT := gmk (sm_6 (List.mem_of_getElem? (i := 195) (by decide +kernel))) rfl
theorem ml_L_147 : Cond.methodLink R_law 147 yX6_count ∈ gT := gmk (sm_4 (List.mem_of_getElem? (i := 27) (by decide +kernel))) rfl
theorem ml_L_150 : Cond.methodLink R_law 150 yX7_count ∈ gT := gmk (sm_6 (List.mem_of_getElem? (i := 199) (by decide +kernel))) rfl
theorem ml_L_151 : Cond.methodLink R_law 151 yX6_tape ∈ gT := gmk (sm_4 (List.mem_of_getElem? (i := 31) (by decide +kernel))) rfl
theorem ml_L_154 : Cond.methodLink R_law 154 yX7_tape ∈ gT := gmk (sm_6 (List.mem_of_getElem? (i := 203) (by decide +kernel))) rfl
theorem ml_L_157 : Cond.methodLink R_law 157 yX6_item ∈ gT := gmk (sm_4 (List.mem_of_getElem? (i := 39) (by decide +kernel))) rfl
theorem ml_L_161 : Cond.methodLink R_law 161 yX7_item ∈ gT := gmk (sm_6 (List.mem_of_getElem? (i := 207) (by decide +kernel))) rfl
theorem ml_L_162 : Cond.methodLink R_law 162 yX6_read ∈ gT := gmk (sm_4 (List.mem_of_getElem? (i := 46) (by decide +kernel))) rfl
theorem ml_L_165 : Cond.methodLink R_law 165 yX7_read ∈ gT := gmk (sm_6 (List.mem_of_getElem? (i := 215) (by decide +kernel))) rfl
theorem ml_L_166 : Cond.methodLink R_law 166 yX6_shift ∈ gT := gmk (sm_4 (List.mem_of_getElem? (i := 50) (by decide +kernel))) rfl
theorem ml_L_170 : Cond.methodLink R_law 170 yX7_shift ∈ gT := gmk (sm_6 (List.mem_of_getElem? (i := 219) (by decide +kernel))) rfl
theorem ml_X7_263 : Cond.methodLink zR7 263 yX7_in ∈ gT := gmk (sm_5 (List.mem_of_getElem? (i := 80) (by decide +kernel))) rfl
theorem ml_X7_267 : Cond.methodLink zR7 267 yX7_isWants ∈ gT := gmk (sm_5 (List.mem_of_getElem? (i := 84) (by decide +kernel))) rfl
theorem ml_X7_271 : Cond.methodLink zR7 271 yX7_isEvery ∈ gT := gmk (sm_5 (List.mem_of_getElem? (i := 88) (by decide +kernel))) rfl
theorem ml_X7_274 : Cond.methodLink zR7 274 yX7_isBorrower ∈ gT := gmk (sm_5 (List.mem_of_getElem? (i := 96) (by decide +kernel))) rfl
theorem ml_X7_277 : Cond.methodLink zR7 277 yX7_isDepth ∈ gT := gmk (sm_5 (List.mem_of_getElem? (i := 108) (by decide +kernel))) rfl
theorem ml_X7_280 : Cond.methodLink zR7 280 yX7_changes ∈ gT := gmk (sm_5 (List.mem_of_getElem? (i := 116) (by decide +kernel))) rfl
theorem ml_X7_284 : Cond.methodLink zR7 284 yX7_held ∈ gT := gmk (sm_5 (List.mem_of_getElem? (i := 128) (by decide +kernel))) rfl
theorem ml_X7_288 : Cond.methodLink zR7 288 yX7_calls ∈ gT := gmk (sm_5 (List.mem_of_getElem? (i := 124) (by decide +kernel))) rfl
theorem ml_X7_292 : Cond.methodLink zR7 292 yX7_next ∈ gT := gmk (sm_5 (List.mem_of_getElem? (i := 152) (by decide +kernel))) rfl
theorem ml_X7_296 : Cond.methodLink zR7 296 yX7_takes ∈ gT := gmk (sm_5 (List.mem_of_getElem? (i := 160) (by decide +kernel))) rfl
theorem ml_X7_299 : Cond.methodLink zR7 299 yX7_isDigit ∈ gT := gmk (sm_5 (List.mem_of_getElem? (i := 168) (by decide +kernel))) rfl
theorem ml_X7_303 : Cond.methodLink zR7 303 yX7_emits ∈ gT := gmk (sm_5 (List.mem_of_getElem? (i := 184) (by decide +kernel))) rfl
theorem ml_X7_306 : Cond.methodLink zR7 306 yX7_place ∈ gT := gmk (sm_5 (List.mem_of_getElem? (i := 180) (by decide +kernel))) rfl
theorem ml_X7_310 : Cond.methodLink zR7 310 yX7_takesNumber ∈ gT := gmk (sm_5 (List.mem_of_getElem? (i := 164) (by decide +kernel))) rfl
theorem ml_X7_313 : Cond.methodLink zR7 313 yX7_whole ∈ gT := gmk (sm_5 (List.mem_of_getElem? (i := 188) (by decide +kernel))) rfl
theorem ml_X7_316 : Cond.methodLink zR7 316 yX7_takesTest ∈ gT := gmk (sm_5 (List.mem_of_getElem? (i := 176) (by decide +kernel))) rfl
theorem ml_X7_319 : Cond.methodLink zR7 319 yX7_settle ∈ gT := gmk (sm_5 (List.mem_of_getElem? (i := 192) (by decide +kernel))) rfl
theorem ml_X7_322 : Cond.methodLink zR7 322 yX7_takesWord ∈ gT := gmk (sm_5 (List.mem_of_getElem? (i := 156) (by decide +kernel))) rfl
theorem ml_X7_326 : Cond.methodLink zR7 326 yX7_takesHead ∈ gT := gmk (sm_5 (List.mem_of_getElem? (i := 148) (by decide +kernel))) rfl
theorem ml_X7_329 : Cond.methodLink zR7 329 yX7_takesE ∈ gT := gmk (sm_5 (List.mem_of_getElem? (i := 172) (by decide +kernel))) rfl
theorem ml_X7_332 : Cond.methodLink zR7 332 yX7_takesClause ∈ gT := gmk (sm_5 (List.mem_of_getElem? (i := 144) (by decide +kernel))) rfl
theorem ml_X7_335 : Cond.methodLink zR7 335 yX7_goesText ∈ gT := gmk (sm_5 (List.mem_of_getElem? (i := 140) (by decide +kernel))) rfl
theorem ml_X7_338 : Cond.methodLink zR7 338 yX7_begin ∈ gT := gmk (sm_5 (List.mem_of_getElem? (i := 204) (by decide +kernel))) rfl
theorem ml_X7_341 : Cond.methodLink zR7 341 yX7_behind ∈ gT := gmk (sm_5 (List.mem_of_getElem? (i := 208) (by decide +kernel))) rfl
theorem ml_X7_344 : Cond.methodLink zR7 344 yX7_lastOf ∈ gT := gmk (sm_5 (List.mem_of_getElem? (i := 228) (by decide +kernel))) rfl
theorem ml_X7_347 : Cond.methodLink zR7 347 yX7_factOf ∈ gT := gmk (sm_5 (List.mem_of_getElem? (i := 216) (by decide +kernel))) rfl
theorem ml_X7_350 : Cond.methodLink zR7 350 yX7_holds ∈ gT := gmk (sm_5 (List.mem_of_getElem? (i := 212) (by decide +kernel))) rfl
theorem ml_X7_353 : Cond.methodLink zR7 353 yX7_mark ∈ gT := gmk (sm_5 (List.mem_of_getElem? (i := 224) (by decide +kernel))) rfl
theorem ml_X7_356 : Cond.methodLink zR7 356 yX7_rate ∈ gT := gmk (sm_5 (List.mem_of_getElem? (i := 200) (by decide +kernel))) rfl
theorem ml_X7_359 : Cond.methodLink zR7 359 yX7_asks ∈ gT := gmk (sm_5 (List.mem_of_getElem? (i := 220) (by decide +kernel))) rfl
theorem ml_X7_362 : Cond.methodLink zR7 362 yX7_keeps ∈ gT := gmk (sm_5 (List.mem_of_getElem? (i := 232) (by decide +kernel))) rfl
theorem ml_X7_365 : Cond.methodLink zR7 365 yX7_staysAway ∈ gT := gmk (sm_5 (List.mem_of_getElem? (i := 236) (by decide +kernel))) rfl
theorem ml_X7_368 : Cond.methodLink zR7 368 yX7_brings ∈ gT := gmk (sm_6 (List.mem_of_getElem? (i := 0) (by decide +kernel))) rfl
theorem ml_X7_371 : Cond.methodLink zR7 371 yX7_allOwes ∈ gT := gmk (sm_6 (List.mem_of_getElem? (i := 8) (by decide +kernel))) rfl
theorem ml_X7_375 : Cond.methodLink zR7 375 yX7_goHaving ∈ gT := gmk (sm_6 (List.mem_of_getElem? (i := 28) (by decide +kernel))) rfl
theorem ml_X7_378 : Cond.methodLink zR7 378 yX7_goAsking ∈ gT := gmk (sm_6 (List.mem_of_getElem? (i := 33) (by decide +kernel))) rfl
theorem ml_X7_381 : Cond.methodLink zR7 381 yX7_goDay ∈ gT := gmk (sm_6 (List.mem_of_getElem? (i := 24) (by decide +kernel))) rfl
theorem ml_X7_384 : Cond.methodLink zR7 384 yX7_isDays ∈ gT := gmk (sm_6 (List.mem_of_getElem? (i := 16) (by decide +kernel))) rfl
theorem ml_X7_387 : Cond.methodLink zR7 387 yX7_goDays ∈ gT := gmk (sm_6 (List.mem_of_getElem? (i := 20) (by decide +kernel))) rfl
theorem ml_X7_391 : Cond.methodLink zR7 391 yX7_save ∈ gT := gmk (sm_6 (List.mem_of_getElem? (i := 41) (by decide +kernel))) rfl
theorem ml_X7_394 : Cond.methodLink zR7 394 yX7_putBack ∈ gT := gmk (sm_6 (List.mem_of_getElem? (i := 46) (by decide +kernel))) rfl
theorem ml_X7_397 : Cond.methodLink zR7 397 yX7_turnedThen ∈ gT := gmk (sm_6 (List.mem_of_getElem? (i := 70) (by decide +kernel))) rfl
theorem ml_X7_400 : Cond.methodLink zR7 400 yX7_turned ∈ gT := gmk (sm_6 (List.mem_of_getElem? (i := 66) (by decide +kernel))) rfl
theorem ml_X7_403 : Cond.methodLink zR7 403 yX7_callOf ∈ gT := gmk (sm_6 (List.mem_of_getElem? (i := 62) (by decide +kernel))) rfl
theorem ml_X7_406 : Cond.methodLink zR7 406 yX7_aheadOf ∈ gT := gmk (sm_6 (List.mem_of_getElem? (i := 74) (by decide +kernel))) rfl
theorem ml_X7_409 : Cond.methodLink zR7 409 yX7_markOf ∈ gT := gmk (sm_6 (List.mem_of_getElem? (i := 78) (by decide +kernel))) rfl
theorem ml_X7_412 : Cond.methodLink zR7 412 yX7_isSeen ∈ gT := gmk (sm_6 (List.mem_of_getElem? (i := 98) (by decide +kernel))) rfl
theorem ml_X7_415 : Cond.methodLink zR7 415 yX7_divisor ∈ gT := gmk (sm_6 (List.mem_of_getElem? (i := 115) (by decide +kernel))) rfl
theorem ml_X7_420 : Cond.methodLink zR7 420 yX7_lowest_ ∈ gT := gmk (sm_6 (List.mem_of_getElem? (i := 111) (by decide +kernel))) rfl
theorem ml_X7_424 : Cond.methodLink zR7 424 yX7_isTape ∈ gT := gmk (sm_6 (List.mem_of_getElem? (i := 143) (by decide +kernel))) rfl
theorem ml_X7_427 : Cond.methodLink zR7 427 yX7_body ∈ gT := gmk (sm_6 (List.mem_of_getElem? (i := 163) (by decide +kernel))) rfl
theorem ml_X7_430 : Cond.methodLink zR7 430 yX7_borrowerSinks ∈ gT := gmk (sm_6 (List.mem_of_getElem? (i := 167) (by decide +kernel))) rfl
theorem ml_X7_433 : Cond.methodLink zR7 433 yX7_sinksAct ∈ gT := gmk (sm_6 (List.mem_of_getElem? (i := 159) (by decide +kernel))) rfl
theorem ml_X7_436 : Cond.methodLink zR7 436 yX7_borrowerBorrows ∈ gT := gmk (sm_6 (List.mem_of_getElem? (i := 179) (by decide +kernel))) rfl
theorem ml_X7_439 : Cond.methodLink zR7 439 yX7_lateBorrows ∈ gT := gmk (sm_6 (List.mem_of_getElem? (i := 175) (by decide +kernel))) rfl
theorem ml_X7_442 : Cond.methodLink zR7 442 yX7_borrowsAct ∈ gT := gmk (sm_6 (List.mem_of_getElem? (i := 171) (by decide +kernel))) rfl
theorem ml_X7_445 : Cond.methodLink zR7 445 yX7_borrowerTells ∈ gT := gmk (sm_6 (List.mem_of_getElem? (i := 187) (by decide +kernel))) rfl
theorem ml_X7_448 : Cond.methodLink zR7 448 yX7_tellsAct ∈ gT := gmk (sm_6 (List.mem_of_getElem? (i := 183) (by decide +kernel))) rfl
theorem ml_X7_451 : Cond.methodLink zR7 451 yX7_narrow ∈ gT := gmk (sm_6 (List.mem_of_getElem? (i := 211) (by decide +kernel))) rfl
theorem ml_J0_335 : Cond.methodLink zRJ0 335 yJ0_coder_7d493 ∈ gT := gmk (sm_2 (List.mem_of_getElem? (i := 189) (by decide +kernel))) rfl
theorem ml_J0_492 : Cond.methodLink zRJ0 492 yJ0_isLatin1_aae02 ∈ gT := gmk (sm_2 (List.mem_of_getElem? (i := 199) (by decide +kernel))) rfl
theorem ml_J0_495 : Cond.methodLink zRJ0 495 yJ1_charAt_3b067 ∈ gT := gmk (sm_2 (List.mem_of_getElem? (i := 203) (by decide +kernel))) rfl
theorem ml_J0_498 : Cond.methodLink zRJ0 498 yJ2_charAt_3b067 ∈ gT := gmk (sm_2 (List.mem_of_getElem? (i := 214) (by decide +kernel))) rfl
theorem ml_J0_1059 : Cond.methodLink zRJ0 1059 yJ3_checkIndex_8e157 ∈ gT := gmk (sm_2 (List.mem_of_getElem? (i := 211) (by decide +kernel))) rfl
theorem ml_J1_9 : Cond.methodLink zRJ1 9 yJ0_checkIndex_df160 ∈ gT := gmk (sm_2 (List.mem_of_getElem? (i := 206) (by decide +kernel))) rfl
theorem ml_J2_48 : Cond.methodLink zRJ2 48 yJ2_length_9d52b ∈ gT := gmk (sm_2 (List.mem_of_getElem? (i := 220) (by decide +kernel))) rfl
theorem ml_J2_67 : Cond.methodLink zRJ2 67 yJ2_checkIndex_2214a ∈ gT := gmk (sm_2 (List.mem_of_getElem? (i := 217) (by decide +kernel))) rfl
theorem ml_J2_71 : Cond.methodLink zRJ2 71 yJ2_getChar_3b067 ∈ gT := gmk (sm_2 (List.mem_of_getElem? (i := 224) (by decide +kernel))) rfl
theorem ml_J2_414 : Cond.methodLink zRJ2 414 yJ0_checkIndex_df160 ∈ gT := gmk (sm_2 (List.mem_of_getElem? (i := 223) (by decide +kernel))) rfl
theorem acpy_st : Cond.static arraycopyName ∈ gT := gmk (sm_3 (List.mem_of_getElem? (i := 73) (by decide +kernel))) rfl
theorem acpy_na : Cond.native arraycopyName ∈ gT := gmk (sm_3 (List.mem_of_getElem? (i := 74) (by decide +kernel))) rfl
theorem acpy_in : Cond.initialized "java/lang/System" ∈ gT := gmk (sm_1 (List.mem_of_getElem? (i := 14) (by decide +kernel))) rfl
theorem mn_X6_11 : Cond.methodLinkNest zR6 11 yX5_init "WellLendsDepth" ∈ lw_tbl := sm_1 (List.mem_of_getElem? (i := 25) (by decide +kernel))
theorem mn_X6_26 : Cond.methodLinkNest zR6 26 yX2_init "WellLendsDepth" ∈ lw_tbl := sm_1 (List.mem_of_getElem? (i := 96) (by decide +kernel))
theorem mn_X6_36 : Cond.methodLinkNest zR6 36 yX3_init "WellLendsDepth" ∈ lw_tbl := sm_1 (List.mem_of_getElem? (i := 137) (by decide +kernel))
theorem mn_X6_43 : Cond.methodLinkNest zR6 43 yX1_init "WellLendsDepth" ∈ lw_tbl := sm_1 (List.mem_of_getElem? (i := 207) (by decide +kernel))
theorem mn_X6_54 : Cond.methodLinkNest zR6 54 yX0_init "WellLendsDepth" ∈ lw_tbl := sm_1 (List.mem_of_getElem? (i := 211) (by decide +kernel))
theorem mn_X3_26 : Cond.methodLinkNest zR3 26 yX1_init "WellLendsDepth" ∈ lw_tbl := sm_1 (List.mem_of_getElem? (i := 143) (by decide +kernel))
theorem fl_X6_12 : Cond.fieldLink zR6 12 "WellLendsDepth" "now" "LWellLendsDepth$Well;" ∈ gT := gmk (sm_2 (List.mem_of_getElem? (i := 13) (by decide +kernel))) rfl
theorem fl_X6_18 : Cond.fieldLink zR6 18 "WellLendsDepth" "trial" "LWellLendsDepth$Well;" ∈ gT := gmk (sm_2 (List.mem_of_getElem? (i := 14) (by decide +kernel))) rfl
theorem fl_X6_21 : Cond.fieldLink zR6 21 "WellLendsDepth" "kept" "LWellLendsDepth$Well;" ∈ gT := gmk (sm_2 (List.mem_of_getElem? (i := 15) (by decide +kernel))) rfl
theorem fl_X6_27 : Cond.fieldLink zR6 27 "WellLendsDepth" "hand" "LWellLendsDepth$Hand;" ∈ gT := gmk (sm_2 (List.mem_of_getElem? (i := 16) (by decide +kernel))) rfl
theorem fl_X6_31 : Cond.fieldLink zR6 31 "WellLendsDepth" "keptHand" "LWellLendsDepth$Hand;" ∈ gT := gmk (sm_2 (List.mem_of_getElem? (i := 17) (by decide +kernel))) rfl
theorem fl_X6_37 : Cond.fieldLink zR6 37 "WellLendsDepth" "reader" "LWellLendsDepth$Reader;" ∈ gT := gmk (sm_2 (List.mem_of_getElem? (i := 18) (by decide +kernel))) rfl
theorem fl_X6_44 : Cond.fieldLink zR6 44 "WellLendsDepth" "plain" "LWellLendsDepth$Country;" ∈ gT := gmk (sm_2 (List.mem_of_getElem? (i := 19) (by decide +kernel))) rfl
theorem fl_X6_48 : Cond.fieldLink zR6 48 "WellLendsDepth" "countries" "[LWellLendsDepth$Country;" ∈ gT := gmk (sm_2 (List.mem_of_getElem? (i := 20) (by decide +kernel))) rfl
theorem fl_X6_55 : Cond.fieldLink zR6 55 "WellLendsDepth" "actor" "LWellLendsDepth$Actor;" ∈ gT := gmk (sm_2 (List.mem_of_getElem? (i := 21) (by decide +kernel))) rfl
theorem fl_X6_62 : Cond.fieldLink zR6 62 "WellLendsDepth" "tapes" "LWellLendsDepth$Tapes;" ∈ gT := gmk (sm_2 (List.mem_of_getElem? (i := 22) (by decide +kernel))) rfl
theorem fl_X6_66 : Cond.fieldLink zR6 66 "WellLendsDepth" "made" "I" ∈ gT := gmk (sm_2 (List.mem_of_getElem? (i := 23) (by decide +kernel))) rfl
theorem fl_X6_70 : Cond.fieldLink zR6 70 "WellLendsDepth" "holding" "I" ∈ gT := gmk (sm_2 (List.mem_of_getElem? (i := 24) (by decide +kernel))) rfl
theorem fl_X6_73 : Cond.fieldLink zR6 73 "WellLendsDepth" "keptHolding" "I" ∈ gT := gmk (sm_2 (List.mem_of_getElem? (i := 25) (by decide +kernel))) rfl
theorem fl_X6_76 : Cond.fieldLink zR6 76 "WellLendsDepth" "imaged" "Z" ∈ gT := gmk (sm_2 (List.mem_of_getElem? (i := 26) (by decide +kernel))) rfl
theorem fl_X6_84 : Cond.fieldLink zR6 84 "WellLendsDepth$Well" "count" "I" ∈ gT := gmk (sm_1 (List.mem_of_getElem? (i := 35) (by decide +kernel))) rfl
theorem fl_X6_95 : Cond.fieldLink zR6 95 "WellLendsDepth$Well" "kind" "[I" ∈ gT := gmk (sm_1 (List.mem_of_getElem? (i := 39) (by decide +kernel))) rfl
theorem fl_X6_99 : Cond.fieldLink zR6 99 "WellLendsDepth$Well" "v" "[I" ∈ gT := gmk (sm_1 (List.mem_of_getElem? (i := 43) (by decide +kernel))) rfl
theorem fl_X6_102 : Cond.fieldLink zR6 102 "WellLendsDepth$Well" "wants" "[I" ∈ gT := gmk (sm_1 (List.mem_of_getElem? (i := 47) (by decide +kernel))) rfl
theorem fl_X6_105 : Cond.fieldLink zR6 105 "WellLendsDepth$Well" "every" "[I" ∈ gT := gmk (sm_1 (List.mem_of_getElem? (i := 49) (by decide +kernel))) rfl
theorem fl_X6_108 : Cond.fieldLink zR6 108 "WellLendsDepth$Well" "has" "[I" ∈ gT := gmk (sm_1 (List.mem_of_getElem? (i := 51) (by decide +kernel))) rfl
theorem fl_X6_111 : Cond.fieldLink zR6 111 "WellLendsDepth$Well" "left" "[I" ∈ gT := gmk (sm_1 (List.mem_of_getElem? (i := 54) (by decide +kernel))) rfl
theorem fl_X6_114 : Cond.fieldLink zR6 114 "WellLendsDepth$Well" "owes" "[I" ∈ gT := gmk (sm_1 (List.mem_of_getElem? (i := 57) (by decide +kernel))) rfl
theorem fl_X6_117 : Cond.fieldLink zR6 117 "WellLendsDepth$Well" "sent" "[I" ∈ gT := gmk (sm_1 (List.mem_of_getElem? (i := 59) (by decide +kernel))) rfl
theorem fl_X6_128 : Cond.fieldLink zR6 128 "WellLendsDepth$Country" "mark" "I" ∈ gT := gmk (sm_1 (List.mem_of_getElem? (i := 148) (by decide +kernel))) rfl
theorem fl_X6_145 : Cond.fieldLink zR6 145 "WellLendsDepth$Well" "rows" "[I" ∈ gT := gmk (sm_1 (List.mem_of_getElem? (i := 63) (by decide +kernel))) rfl
theorem fl_X6_148 : Cond.fieldLink zR6 148 "WellLendsDepth$Well" "depth" "I" ∈ gT := gmk (sm_1 (List.mem_of_getElem? (i := 30) (by decide +kernel))) rfl
theorem fl_X6_151 : Cond.fieldLink zR6 151 "WellLendsDepth$Well" "line" "[I" ∈ gT := gmk (sm_1 (List.mem_of_getElem? (i := 61) (by decide +kernel))) rfl
theorem fl_X6_162 : Cond.fieldLink zR6 162 "WellLendsDepth$Reader" "length" "I" ∈ gT := gmk (sm_1 (List.mem_of_getElem? (i := 190) (by decide +kernel))) rfl
theorem fl_X6_172 : Cond.fieldLink zR6 172 "WellLendsDepth$Well" "day" "I" ∈ gT := gmk (sm_1 (List.mem_of_getElem? (i := 33) (by decide +kernel))) rfl
theorem fl_X6_175 : Cond.fieldLink zR6 175 "WellLendsDepth$Country" "spring" "I" ∈ gT := gmk (sm_1 (List.mem_of_getElem? (i := 152) (by decide +kernel))) rfl
theorem fl_X6_178 : Cond.fieldLink zR6 178 "WellLendsDepth$Country" "fine" "I" ∈ gT := gmk (sm_1 (List.mem_of_getElem? (i := 156) (by decide +kernel))) rfl
theorem fl_X6_198 : Cond.fieldLink zR6 198 "WellLendsDepth$Well" "turned" "I" ∈ gT := gmk (sm_1 (List.mem_of_getElem? (i := 37) (by decide +kernel))) rfl
theorem fl_X6_223 : Cond.fieldLink zR6 223 "WellLendsDepth$Hand" "seenCount" "I" ∈ gT := gmk (sm_1 (List.mem_of_getElem? (i := 101) (by decide +kernel))) rfl
theorem fl_X6_239 : Cond.fieldLink zR6 239 "WellLendsDepth$Hand" "yearCount" "I" ∈ gT := gmk (sm_1 (List.mem_of_getElem? (i := 103) (by decide +kernel))) rfl
theorem fl_X6_245 : Cond.fieldLink zR6 245 "WellLendsDepth$Hand" "yearWhat" "[I" ∈ gT := gmk (sm_1 (List.mem_of_getElem? (i := 109) (by decide +kernel))) rfl
theorem fl_X6_248 : Cond.fieldLink zR6 248 "WellLendsDepth$Hand" "yearWho" "[I" ∈ gT := gmk (sm_1 (List.mem_of_getElem? (i := 111) (by decide +kernel))) rfl
theorem fl_X6_254 : Cond.fieldLink zR6 254 "WellLendsDepth$Hand" "bookCount" "I" ∈ gT := gmk (sm_1 (List.mem_of_getElem? (i := 105) (by decide +kernel))) rfl
theorem fl_X6_261 : Cond.fieldLink zR6 261 "WellLendsDepth$Hand" "bookWho" "[I" ∈ gT := gmk (sm_1 (List.mem_of_getElem? (i := 113) (by decide +kernel))) rfl
theorem fl_X6_264 : Cond.fieldLink zR6 264 "WellLendsDepth$Hand" "bookOwes" "[I" ∈ gT := gmk (sm_1 (List.mem_of_getElem? (i := 115) (by decide +kernel))) rfl
theorem fl_X6_271 : Cond.fieldLink zR6 271 "WellLendsDepth$Tapes" "sort" "[I" ∈ gT := gmk (sm_2 (List.mem_of_getElem? (i := 1) (by decide +kernel))) rfl
theorem fl_X6_278 : Cond.fieldLink zR6 278 "WellLendsDepth$Tapes" "items" "[[J" ∈ gT := gmk (sm_2 (List.mem_of_getElem? (i := 4) (by decide +kernel))) rfl
theorem fl_X6_302 : Cond.fieldLink zR6 302 "WellLendsDepth$Actor" "ran" "I" ∈ gT := gmk (sm_1 (List.mem_of_getElem? (i := 216) (by decide +kernel))) rfl
theorem fl_X6_322 : Cond.fieldLink zR6 322 "WellLendsDepth" "ABOVE" "[I" ∈ gT := gmk (sm_4 (List.mem_of_getElem? (i := 26) (by decide +kernel))) rfl
theorem fl_X0_9 : Cond.fieldLink zR0 9 "WellLendsDepth$Actor" "ran" "I" ∈ gT := gmk (sm_1 (List.mem_of_getElem? (i := 215) (by decide +kernel))) rfl
theorem fl_X0_15 : Cond.fieldLink zR0 15 "WellLendsDepth$Actor" "trace" "[I" ∈ gT := gmk (sm_1 (List.mem_of_getElem? (i := 217) (by decide +kernel))) rfl
theorem fl_X0_19 : Cond.fieldLink zR0 19 "WellLendsDepth$Actor" "number" "I" ∈ gT := gmk (sm_1 (List.mem_of_getElem? (i := 218) (by decide +kernel))) rfl
theorem fl_X0_22 : Cond.fieldLink zR0 22 "WellLendsDepth$Actor" "kind" "I" ∈ gT := gmk (sm_1 (List.mem_of_getElem? (i := 219) (by decide +kernel))) rfl
theorem fl_X0_25 : Cond.fieldLink zR0 25 "WellLendsDepth$Actor" "v" "I" ∈ gT := gmk (sm_1 (List.mem_of_getElem? (i := 220) (by decide +kernel))) rfl
theorem fl_X0_28 : Cond.fieldLink zR0 28 "WellLendsDepth$Well" "kind" "[I" ∈ gT := gmk (sm_1 (List.mem_of_getElem? (i := 40) (by decide +kernel))) rfl
theorem fl_X0_32 : Cond.fieldLink zR0 32 "WellLendsDepth$Well" "v" "[I" ∈ gT := gmk (sm_1 (List.mem_of_getElem? (i := 44) (by decide +kernel))) rfl
theorem fl_X0_38 : Cond.fieldLink zR0 38 "WellLendsDepth$Actor" "BODIES" "[I" ∈ gT := gmk (sm_4 (List.mem_of_getElem? (i := 3) (by decide +kernel))) rfl
theorem fl_X1_9 : Cond.fieldLink zR1 9 "WellLendsDepth$Country" "mark" "I" ∈ gT := gmk (sm_1 (List.mem_of_getElem? (i := 147) (by decide +kernel))) rfl
theorem fl_X1_13 : Cond.fieldLink zR1 13 "WellLendsDepth$Country" "spring" "I" ∈ gT := gmk (sm_1 (List.mem_of_getElem? (i := 150) (by decide +kernel))) rfl
theorem fl_X1_16 : Cond.fieldLink zR1 16 "WellLendsDepth$Country" "fine" "I" ∈ gT := gmk (sm_1 (List.mem_of_getElem? (i := 154) (by decide +kernel))) rfl
theorem fl_X1_19 : Cond.fieldLink zR1 19 "WellLendsDepth$Country" "prices" "I" ∈ gT := gmk (sm_1 (List.mem_of_getElem? (i := 158) (by decide +kernel))) rfl
theorem fl_X1_22 : Cond.fieldLink zR1 22 "WellLendsDepth$Country" "used" "I" ∈ gT := gmk (sm_1 (List.mem_of_getElem? (i := 159) (by decide +kernel))) rfl
theorem fl_X1_25 : Cond.fieldLink zR1 25 "WellLendsDepth$Country" "price" "[I" ∈ gT := gmk (sm_1 (List.mem_of_getElem? (i := 160) (by decide +kernel))) rfl
theorem fl_X1_29 : Cond.fieldLink zR1 29 "WellLendsDepth$Country" "ends" "[I" ∈ gT := gmk (sm_1 (List.mem_of_getElem? (i := 161) (by decide +kernel))) rfl
theorem fl_X1_34 : Cond.fieldLink zR1 34 "WellLendsDepth$Country" "step" "[I" ∈ gT := gmk (sm_1 (List.mem_of_getElem? (i := 162) (by decide +kernel))) rfl
theorem fl_X1_37 : Cond.fieldLink zR1 37 "WellLendsDepth$Country" "about" "[I" ∈ gT := gmk (sm_1 (List.mem_of_getElem? (i := 163) (by decide +kernel))) rfl
theorem fl_X1_40 : Cond.fieldLink zR1 40 "WellLendsDepth$Country" "number" "[I" ∈ gT := gmk (sm_1 (List.mem_of_getElem? (i := 164) (by decide +kernel))) rfl
theorem fl_X1_43 : Cond.fieldLink zR1 43 "WellLendsDepth$Country" "facts" "[I" ∈ gT := gmk (sm_1 (List.mem_of_getElem? (i := 165) (by decide +kernel))) rfl
theorem fl_X1_46 : Cond.fieldLink zR1 46 "WellLendsDepth$Well" "kind" "[I" ∈ gT := gmk (sm_1 (List.mem_of_getElem? (i := 41) (by decide +kernel))) rfl
theorem fl_X1_51 : Cond.fieldLink zR1 51 "WellLendsDepth$Well" "v" "[I" ∈ gT := gmk (sm_1 (List.mem_of_getElem? (i := 45) (by decide +kernel))) rfl
theorem fl_X1_54 : Cond.fieldLink zR1 54 "WellLendsDepth$Well" "has" "[I" ∈ gT := gmk (sm_1 (List.mem_of_getElem? (i := 52) (by decide +kernel))) rfl
theorem fl_X1_57 : Cond.fieldLink zR1 57 "WellLendsDepth$Well" "left" "[I" ∈ gT := gmk (sm_1 (List.mem_of_getElem? (i := 55) (by decide +kernel))) rfl
theorem fl_X1_60 : Cond.fieldLink zR1 60 "WellLendsDepth$Well" "day" "I" ∈ gT := gmk (sm_1 (List.mem_of_getElem? (i := 32) (by decide +kernel))) rfl
theorem fl_X2_7 : Cond.fieldLink zR2 7 "WellLendsDepth$Hand" "seenCount" "I" ∈ gT := gmk (sm_1 (List.mem_of_getElem? (i := 100) (by decide +kernel))) rfl
theorem fl_X2_13 : Cond.fieldLink zR2 13 "WellLendsDepth$Hand" "yearCount" "I" ∈ gT := gmk (sm_1 (List.mem_of_getElem? (i := 102) (by decide +kernel))) rfl
theorem fl_X2_16 : Cond.fieldLink zR2 16 "WellLendsDepth$Hand" "bookCount" "I" ∈ gT := gmk (sm_1 (List.mem_of_getElem? (i := 104) (by decide +kernel))) rfl
theorem fl_X2_19 : Cond.fieldLink zR2 19 "WellLendsDepth$Hand" "seenDepth" "[I" ∈ gT := gmk (sm_1 (List.mem_of_getElem? (i := 106) (by decide +kernel))) rfl
theorem fl_X2_23 : Cond.fieldLink zR2 23 "WellLendsDepth$Hand" "seenBehind" "[I" ∈ gT := gmk (sm_1 (List.mem_of_getElem? (i := 107) (by decide +kernel))) rfl
theorem fl_X2_26 : Cond.fieldLink zR2 26 "WellLendsDepth$Hand" "yearWhat" "[I" ∈ gT := gmk (sm_1 (List.mem_of_getElem? (i := 108) (by decide +kernel))) rfl
theorem fl_X2_29 : Cond.fieldLink zR2 29 "WellLendsDepth$Hand" "yearWho" "[I" ∈ gT := gmk (sm_1 (List.mem_of_getElem? (i := 110) (by decide +kernel))) rfl
theorem fl_X2_32 : Cond.fieldLink zR2 32 "WellLendsDepth$Hand" "bookWho" "[I" ∈ gT := gmk (sm_1 (List.mem_of_getElem? (i := 112) (by decide +kernel))) rfl
theorem fl_X2_35 : Cond.fieldLink zR2 35 "WellLendsDepth$Hand" "bookOwes" "[I" ∈ gT := gmk (sm_1 (List.mem_of_getElem? (i := 114) (by decide +kernel))) rfl
theorem fl_X3_7 : Cond.fieldLink zR3 7 "WellLendsDepth$Reader" "length" "I" ∈ gT := gmk (sm_1 (List.mem_of_getElem? (i := 189) (by decide +kernel))) rfl
theorem fl_X3_13 : Cond.fieldLink zR3 13 "WellLendsDepth$Reader" "at" "I" ∈ gT := gmk (sm_1 (List.mem_of_getElem? (i := 191) (by decide +kernel))) rfl
theorem fl_X3_16 : Cond.fieldLink zR3 16 "WellLendsDepth$Reader" "faulty" "Z" ∈ gT := gmk (sm_1 (List.mem_of_getElem? (i := 192) (by decide +kernel))) rfl
theorem fl_X3_20 : Cond.fieldLink zR3 20 "WellLendsDepth$Reader" "text" "[I" ∈ gT := gmk (sm_1 (List.mem_of_getElem? (i := 193) (by decide +kernel))) rfl
theorem fl_X3_27 : Cond.fieldLink zR3 27 "WellLendsDepth$Reader" "country" "LWellLendsDepth$Country;" ∈ gT := gmk (sm_1 (List.mem_of_getElem? (i := 194) (by decide +kernel))) rfl
theorem fl_X3_64 : Cond.fieldLink zR3 64 "WellLendsDepth$Country" "mark" "I" ∈ gT := gmk (sm_1 (List.mem_of_getElem? (i := 149) (by decide +kernel))) rfl
theorem fl_X3_67 : Cond.fieldLink zR3 67 "WellLendsDepth$Country" "spring" "I" ∈ gT := gmk (sm_1 (List.mem_of_getElem? (i := 151) (by decide +kernel))) rfl
theorem fl_X3_70 : Cond.fieldLink zR3 70 "WellLendsDepth$Country" "fine" "I" ∈ gT := gmk (sm_1 (List.mem_of_getElem? (i := 155) (by decide +kernel))) rfl
theorem fl_X4_9 : Cond.fieldLink zR4 9 "WellLendsDepth$Tapes" "sort" "[I" ∈ gT := gmk (sm_2 (List.mem_of_getElem? (i := 0) (by decide +kernel))) rfl
theorem fl_X4_13 : Cond.fieldLink zR4 13 "WellLendsDepth$Tapes" "size" "[I" ∈ gT := gmk (sm_2 (List.mem_of_getElem? (i := 2) (by decide +kernel))) rfl
theorem fl_X4_18 : Cond.fieldLink zR4 18 "WellLendsDepth$Tapes" "items" "[[J" ∈ gT := gmk (sm_2 (List.mem_of_getElem? (i := 3) (by decide +kernel))) rfl
theorem fl_X5_9 : Cond.fieldLink zR5 9 "WellLendsDepth$Well" "depth" "I" ∈ gT := gmk (sm_1 (List.mem_of_getElem? (i := 29) (by decide +kernel))) rfl
theorem fl_X5_15 : Cond.fieldLink zR5 15 "WellLendsDepth$Well" "day" "I" ∈ gT := gmk (sm_1 (List.mem_of_getElem? (i := 31) (by decide +kernel))) rfl
theorem fl_X5_18 : Cond.fieldLink zR5 18 "WellLendsDepth$Well" "count" "I" ∈ gT := gmk (sm_1 (List.mem_of_getElem? (i := 34) (by decide +kernel))) rfl
theorem fl_X5_21 : Cond.fieldLink zR5 21 "WellLendsDepth$Well" "turned" "I" ∈ gT := gmk (sm_1 (List.mem_of_getElem? (i := 36) (by decide +kernel))) rfl
theorem fl_X5_24 : Cond.fieldLink zR5 24 "WellLendsDepth$Well" "kind" "[I" ∈ gT := gmk (sm_1 (List.mem_of_getElem? (i := 38) (by decide +kernel))) rfl
theorem fl_X5_28 : Cond.fieldLink zR5 28 "WellLendsDepth$Well" "v" "[I" ∈ gT := gmk (sm_1 (List.mem_of_getElem? (i := 42) (by decide +kernel))) rfl
theorem fl_X5_31 : Cond.fieldLink zR5 31 "WellLendsDepth$Well" "wants" "[I" ∈ gT := gmk (sm_1 (List.mem_of_getElem? (i := 46) (by decide +kernel))) rfl
theorem fl_X5_34 : Cond.fieldLink zR5 34 "WellLendsDepth$Well" "every" "[I" ∈ gT := gmk (sm_1 (List.mem_of_getElem? (i := 48) (by decide +kernel))) rfl
theorem fl_X5_37 : Cond.fieldLink zR5 37 "WellLendsDepth$Well" "has" "[I" ∈ gT := gmk (sm_1 (List.mem_of_getElem? (i := 50) (by decide +kernel))) rfl
theorem fl_X5_40 : Cond.fieldLink zR5 40 "WellLendsDepth$Well" "left" "[I" ∈ gT := gmk (sm_1 (List.mem_of_getElem? (i := 53) (by decide +kernel))) rfl
theorem fl_X5_43 : Cond.fieldLink zR5 43 "WellLendsDepth$Well" "owes" "[I" ∈ gT := gmk (sm_1 (List.mem_of_getElem? (i := 56) (by decide +kernel))) rfl
theorem fl_X5_46 : Cond.fieldLink zR5 46 "WellLendsDepth$Well" "sent" "[I" ∈ gT := gmk (sm_1 (List.mem_of_getElem? (i := 58) (by decide +kernel))) rfl
theorem fl_X5_49 : Cond.fieldLink zR5 49 "WellLendsDepth$Well" "line" "[I" ∈ gT := gmk (sm_1 (List.mem_of_getElem? (i := 60) (by decide +kernel))) rfl
theorem fl_X5_52 : Cond.fieldLink zR5 52 "WellLendsDepth$Well" "rows" "[I" ∈ gT := gmk (sm_1 (List.mem_of_getElem? (i := 62) (by decide +kernel))) rfl
theorem fl_X5_81 : Cond.fieldLink zR5 81 "WellLendsDepth$Country" "fine" "I" ∈ gT := gmk (sm_1 (List.mem_of_getElem? (i := 157) (by decide +kernel))) rfl
theorem fl_X5_90 : Cond.fieldLink zR5 90 "WellLendsDepth$Country" "spring" "I" ∈ gT := gmk (sm_1 (List.mem_of_getElem? (i := 153) (by decide +kernel))) rfl
theorem fl_X7_7 : Cond.fieldLink zR7 7 "WellLendsDepthModel" "deep" "I" ∈ gT := gmk (sm_4 (List.mem_of_getElem? (i := 65) (by decide +kernel))) rfl
theorem fl_X7_13 : Cond.fieldLink zR7 13 "WellLendsDepthModel" "borrowers" "I" ∈ gT := gmk (sm_4 (List.mem_of_getElem? (i := 66) (by decide +kernel))) rfl
theorem fl_X7_16 : Cond.fieldLink zR7 16 "WellLendsDepthModel" "days" "I" ∈ gT := gmk (sm_4 (List.mem_of_getElem? (i := 67) (by decide +kernel))) rfl
theorem fl_X7_19 : Cond.fieldLink zR7 19 "WellLendsDepthModel" "kind" "[I" ∈ gT := gmk (sm_4 (List.mem_of_getElem? (i := 68) (by decide +kernel))) rfl
theorem fl_X7_23 : Cond.fieldLink zR7 23 "WellLendsDepthModel" "v" "[I" ∈ gT := gmk (sm_4 (List.mem_of_getElem? (i := 69) (by decide +kernel))) rfl
theorem fl_X7_26 : Cond.fieldLink zR7 26 "WellLendsDepthModel" "wants" "[I" ∈ gT := gmk (sm_4 (List.mem_of_getElem? (i := 70) (by decide +kernel))) rfl
theorem fl_X7_29 : Cond.fieldLink zR7 29 "WellLendsDepthModel" "every" "[I" ∈ gT := gmk (sm_4 (List.mem_of_getElem? (i := 71) (by decide +kernel))) rfl
theorem fl_X7_32 : Cond.fieldLink zR7 32 "WellLendsDepthModel" "has" "[I" ∈ gT := gmk (sm_4 (List.mem_of_getElem? (i := 72) (by decide +kernel))) rfl
theorem fl_X7_35 : Cond.fieldLink zR7 35 "WellLendsDepthModel" "left" "[I" ∈ gT := gmk (sm_4 (List.mem_of_getElem? (i := 73) (by decide +kernel))) rfl
theorem fl_X7_38 : Cond.fieldLink zR7 38 "WellLendsDepthModel" "owes" "[I" ∈ gT := gmk (sm_4 (List.mem_of_getElem? (i := 74) (by decide +kernel))) rfl
theorem fl_X7_41 : Cond.fieldLink zR7 41 "WellLendsDepthModel" "sent" "[I" ∈ gT := gmk (sm_4 (List.mem_of_getElem? (i := 75) (by decide +kernel))) rfl
theorem fl_X7_44 : Cond.fieldLink zR7 44 "WellLendsDepthModel" "rows" "[I" ∈ gT := gmk (sm_4 (List.mem_of_getElem? (i := 76) (by decide +kernel))) rfl
theorem fl_X7_47 : Cond.fieldLink zR7 47 "WellLendsDepthModel" "line" "[I" ∈ gT := gmk (sm_4 (List.mem_of_getElem? (i := 77) (by decide +kernel))) rfl
theorem fl_X7_50 : Cond.fieldLink zR7 50 "WellLendsDepthModel" "countries" "I" ∈ gT := gmk (sm_4 (List.mem_of_getElem? (i := 78) (by decide +kernel))) rfl
theorem fl_X7_53 : Cond.fieldLink zR7 53 "WellLendsDepthModel" "the" "I" ∈ gT := gmk (sm_4 (List.mem_of_getElem? (i := 79) (by decide +kernel))) rfl
theorem fl_X7_56 : Cond.fieldLink zR7 56 "WellLendsDepthModel" "fed" "I" ∈ gT := gmk (sm_4 (List.mem_of_getElem? (i := 80) (by decide +kernel))) rfl
theorem fl_X7_59 : Cond.fieldLink zR7 59 "WellLendsDepthModel" "at" "I" ∈ gT := gmk (sm_4 (List.mem_of_getElem? (i := 81) (by decide +kernel))) rfl
theorem fl_X7_62 : Cond.fieldLink zR7 62 "WellLendsDepthModel" "digits" "I" ∈ gT := gmk (sm_4 (List.mem_of_getElem? (i := 82) (by decide +kernel))) rfl
theorem fl_X7_65 : Cond.fieldLink zR7 65 "WellLendsDepthModel" "text" "[I" ∈ gT := gmk (sm_4 (List.mem_of_getElem? (i := 83) (by decide +kernel))) rfl
theorem fl_X7_68 : Cond.fieldLink zR7 68 "WellLendsDepthModel" "clauses" "[I" ∈ gT := gmk (sm_4 (List.mem_of_getElem? (i := 84) (by decide +kernel))) rfl
theorem fl_X7_71 : Cond.fieldLink zR7 71 "WellLendsDepthModel" "word" "[I" ∈ gT := gmk (sm_4 (List.mem_of_getElem? (i := 85) (by decide +kernel))) rfl
theorem fl_X7_74 : Cond.fieldLink zR7 74 "WellLendsDepthModel" "number" "[I" ∈ gT := gmk (sm_4 (List.mem_of_getElem? (i := 86) (by decide +kernel))) rfl
theorem fl_X7_77 : Cond.fieldLink zR7 77 "WellLendsDepthModel" "from" "[I" ∈ gT := gmk (sm_4 (List.mem_of_getElem? (i := 87) (by decide +kernel))) rfl
theorem fl_X7_80 : Cond.fieldLink zR7 80 "WellLendsDepthModel" "to" "[I" ∈ gT := gmk (sm_4 (List.mem_of_getElem? (i := 88) (by decide +kernel))) rfl
theorem fl_X7_83 : Cond.fieldLink zR7 83 "WellLendsDepthModel" "sign" "[I" ∈ gT := gmk (sm_4 (List.mem_of_getElem? (i := 89) (by decide +kernel))) rfl
theorem fl_X7_86 : Cond.fieldLink zR7 86 "WellLendsDepthModel" "waits" "[I" ∈ gT := gmk (sm_4 (List.mem_of_getElem? (i := 90) (by decide +kernel))) rfl
theorem fl_X7_89 : Cond.fieldLink zR7 89 "WellLendsDepthModel" "signs" "I" ∈ gT := gmk (sm_4 (List.mem_of_getElem? (i := 91) (by decide +kernel))) rfl
theorem fl_X7_92 : Cond.fieldLink zR7 92 "WellLendsDepthModel" "waiting" "I" ∈ gT := gmk (sm_4 (List.mem_of_getElem? (i := 92) (by decide +kernel))) rfl
theorem fl_X7_95 : Cond.fieldLink zR7 95 "WellLendsDepthModel" "open" "I" ∈ gT := gmk (sm_4 (List.mem_of_getElem? (i := 93) (by decide +kernel))) rfl
theorem fl_X7_98 : Cond.fieldLink zR7 98 "WellLendsDepthModel" "letters" "[I" ∈ gT := gmk (sm_4 (List.mem_of_getElem? (i := 94) (by decide +kernel))) rfl
theorem fl_X7_101 : Cond.fieldLink zR7 101 "WellLendsDepthModel" "markInMind" "I" ∈ gT := gmk (sm_4 (List.mem_of_getElem? (i := 95) (by decide +kernel))) rfl
theorem fl_X7_104 : Cond.fieldLink zR7 104 "WellLendsDepthModel" "awayInMind" "I" ∈ gT := gmk (sm_4 (List.mem_of_getElem? (i := 96) (by decide +kernel))) rfl
theorem fl_X7_107 : Cond.fieldLink zR7 107 "WellLendsDepthModel" "pile" "[Z" ∈ gT := gmk (sm_4 (List.mem_of_getElem? (i := 97) (by decide +kernel))) rfl
theorem fl_X7_111 : Cond.fieldLink zR7 111 "WellLendsDepthModel" "mostSent" "I" ∈ gT := gmk (sm_4 (List.mem_of_getElem? (i := 98) (by decide +kernel))) rfl
theorem fl_X7_114 : Cond.fieldLink zR7 114 "WellLendsDepthModel" "turnedAway" "I" ∈ gT := gmk (sm_4 (List.mem_of_getElem? (i := 99) (by decide +kernel))) rfl
theorem fl_X7_117 : Cond.fieldLink zR7 117 "WellLendsDepthModel" "keptDeep" "I" ∈ gT := gmk (sm_4 (List.mem_of_getElem? (i := 100) (by decide +kernel))) rfl
theorem fl_X7_120 : Cond.fieldLink zR7 120 "WellLendsDepthModel" "keptDays" "I" ∈ gT := gmk (sm_4 (List.mem_of_getElem? (i := 101) (by decide +kernel))) rfl
theorem fl_X7_123 : Cond.fieldLink zR7 123 "WellLendsDepthModel" "keptWants" "[I" ∈ gT := gmk (sm_4 (List.mem_of_getElem? (i := 102) (by decide +kernel))) rfl
theorem fl_X7_126 : Cond.fieldLink zR7 126 "WellLendsDepthModel" "keptEvery" "[I" ∈ gT := gmk (sm_4 (List.mem_of_getElem? (i := 103) (by decide +kernel))) rfl
theorem fl_X7_129 : Cond.fieldLink zR7 129 "WellLendsDepthModel" "keptHas" "[I" ∈ gT := gmk (sm_4 (List.mem_of_getElem? (i := 104) (by decide +kernel))) rfl
theorem fl_X7_132 : Cond.fieldLink zR7 132 "WellLendsDepthModel" "keptLeft" "[I" ∈ gT := gmk (sm_4 (List.mem_of_getElem? (i := 105) (by decide +kernel))) rfl
theorem fl_X7_135 : Cond.fieldLink zR7 135 "WellLendsDepthModel" "keptOwes" "[I" ∈ gT := gmk (sm_4 (List.mem_of_getElem? (i := 106) (by decide +kernel))) rfl
theorem fl_X7_138 : Cond.fieldLink zR7 138 "WellLendsDepthModel" "keptSent" "[I" ∈ gT := gmk (sm_4 (List.mem_of_getElem? (i := 107) (by decide +kernel))) rfl
theorem fl_X7_141 : Cond.fieldLink zR7 141 "WellLendsDepthModel" "keptLine" "[I" ∈ gT := gmk (sm_4 (List.mem_of_getElem? (i := 108) (by decide +kernel))) rfl
theorem fl_X7_144 : Cond.fieldLink zR7 144 "WellLendsDepthModel" "seen" "I" ∈ gT := gmk (sm_4 (List.mem_of_getElem? (i := 109) (by decide +kernel))) rfl
theorem fl_X7_147 : Cond.fieldLink zR7 147 "WellLendsDepthModel" "seenDepth" "[I" ∈ gT := gmk (sm_4 (List.mem_of_getElem? (i := 110) (by decide +kernel))) rfl
theorem fl_X7_150 : Cond.fieldLink zR7 150 "WellLendsDepthModel" "seenWhen" "[I" ∈ gT := gmk (sm_4 (List.mem_of_getElem? (i := 111) (by decide +kernel))) rfl
theorem fl_X7_153 : Cond.fieldLink zR7 153 "WellLendsDepthModel" "years" "I" ∈ gT := gmk (sm_4 (List.mem_of_getElem? (i := 112) (by decide +kernel))) rfl
theorem fl_X7_156 : Cond.fieldLink zR7 156 "WellLendsDepthModel" "books" "I" ∈ gT := gmk (sm_4 (List.mem_of_getElem? (i := 113) (by decide +kernel))) rfl
theorem fl_X7_159 : Cond.fieldLink zR7 159 "WellLendsDepthModel" "yearWhat" "[I" ∈ gT := gmk (sm_4 (List.mem_of_getElem? (i := 114) (by decide +kernel))) rfl
theorem fl_X7_162 : Cond.fieldLink zR7 162 "WellLendsDepthModel" "yearWho" "[I" ∈ gT := gmk (sm_4 (List.mem_of_getElem? (i := 115) (by decide +kernel))) rfl
theorem fl_X7_165 : Cond.fieldLink zR7 165 "WellLendsDepthModel" "bookWho" "[I" ∈ gT := gmk (sm_4 (List.mem_of_getElem? (i := 116) (by decide +kernel))) rfl
theorem fl_X7_168 : Cond.fieldLink zR7 168 "WellLendsDepthModel" "bookOwes" "[I" ∈ gT := gmk (sm_4 (List.mem_of_getElem? (i := 117) (by decide +kernel))) rfl
theorem fl_X7_171 : Cond.fieldLink zR7 171 "WellLendsDepthModel" "hasImage" "Z" ∈ gT := gmk (sm_4 (List.mem_of_getElem? (i := 118) (by decide +kernel))) rfl
theorem fl_X7_175 : Cond.fieldLink zR7 175 "WellLendsDepthModel" "imageThe" "I" ∈ gT := gmk (sm_4 (List.mem_of_getElem? (i := 119) (by decide +kernel))) rfl
theorem fl_X7_178 : Cond.fieldLink zR7 178 "WellLendsDepthModel" "imageDeep" "I" ∈ gT := gmk (sm_4 (List.mem_of_getElem? (i := 120) (by decide +kernel))) rfl
theorem fl_X7_181 : Cond.fieldLink zR7 181 "WellLendsDepthModel" "imageBorrowers" "I" ∈ gT := gmk (sm_4 (List.mem_of_getElem? (i := 121) (by decide +kernel))) rfl
theorem fl_X7_184 : Cond.fieldLink zR7 184 "WellLendsDepthModel" "imageDays" "I" ∈ gT := gmk (sm_4 (List.mem_of_getElem? (i := 122) (by decide +kernel))) rfl
theorem fl_X7_187 : Cond.fieldLink zR7 187 "WellLendsDepthModel" "imageSeen" "I" ∈ gT := gmk (sm_4 (List.mem_of_getElem? (i := 123) (by decide +kernel))) rfl
theorem fl_X7_190 : Cond.fieldLink zR7 190 "WellLendsDepthModel" "imageYears" "I" ∈ gT := gmk (sm_4 (List.mem_of_getElem? (i := 124) (by decide +kernel))) rfl
theorem fl_X7_193 : Cond.fieldLink zR7 193 "WellLendsDepthModel" "imageBooks" "I" ∈ gT := gmk (sm_4 (List.mem_of_getElem? (i := 125) (by decide +kernel))) rfl
theorem fl_X7_196 : Cond.fieldLink zR7 196 "WellLendsDepthModel" "imageKind" "[I" ∈ gT := gmk (sm_4 (List.mem_of_getElem? (i := 126) (by decide +kernel))) rfl
theorem fl_X7_199 : Cond.fieldLink zR7 199 "WellLendsDepthModel" "imageV" "[I" ∈ gT := gmk (sm_4 (List.mem_of_getElem? (i := 127) (by decide +kernel))) rfl
theorem fl_X7_202 : Cond.fieldLink zR7 202 "WellLendsDepthModel" "imageWants" "[I" ∈ gT := gmk (sm_4 (List.mem_of_getElem? (i := 128) (by decide +kernel))) rfl
theorem fl_X7_205 : Cond.fieldLink zR7 205 "WellLendsDepthModel" "imageEvery" "[I" ∈ gT := gmk (sm_4 (List.mem_of_getElem? (i := 129) (by decide +kernel))) rfl
theorem fl_X7_208 : Cond.fieldLink zR7 208 "WellLendsDepthModel" "imageHas" "[I" ∈ gT := gmk (sm_4 (List.mem_of_getElem? (i := 130) (by decide +kernel))) rfl
theorem fl_X7_211 : Cond.fieldLink zR7 211 "WellLendsDepthModel" "imageLeft" "[I" ∈ gT := gmk (sm_4 (List.mem_of_getElem? (i := 131) (by decide +kernel))) rfl
theorem fl_X7_214 : Cond.fieldLink zR7 214 "WellLendsDepthModel" "imageOwes" "[I" ∈ gT := gmk (sm_4 (List.mem_of_getElem? (i := 132) (by decide +kernel))) rfl
theorem fl_X7_217 : Cond.fieldLink zR7 217 "WellLendsDepthModel" "imageSent" "[I" ∈ gT := gmk (sm_4 (List.mem_of_getElem? (i := 133) (by decide +kernel))) rfl
theorem fl_X7_220 : Cond.fieldLink zR7 220 "WellLendsDepthModel" "imageLine" "[I" ∈ gT := gmk (sm_4 (List.mem_of_getElem? (i := 134) (by decide +kernel))) rfl
theorem fl_X7_223 : Cond.fieldLink zR7 223 "WellLendsDepthModel" "imageRows" "[I" ∈ gT := gmk (sm_4 (List.mem_of_getElem? (i := 135) (by decide +kernel))) rfl
theorem fl_X7_226 : Cond.fieldLink zR7 226 "WellLendsDepthModel" "imageSeenDepth" "[I" ∈ gT := gmk (sm_4 (List.mem_of_getElem? (i := 136) (by decide +kernel))) rfl
theorem fl_X7_229 : Cond.fieldLink zR7 229 "WellLendsDepthModel" "imageWhen" "[I" ∈ gT := gmk (sm_4 (List.mem_of_getElem? (i := 137) (by decide +kernel))) rfl
theorem fl_X7_232 : Cond.fieldLink zR7 232 "WellLendsDepthModel" "imageWhat" "[I" ∈ gT := gmk (sm_4 (List.mem_of_getElem? (i := 138) (by decide +kernel))) rfl
theorem fl_X7_235 : Cond.fieldLink zR7 235 "WellLendsDepthModel" "imageWho" "[I" ∈ gT := gmk (sm_4 (List.mem_of_getElem? (i := 139) (by decide +kernel))) rfl
theorem fl_X7_238 : Cond.fieldLink zR7 238 "WellLendsDepthModel" "imageBookWho" "[I" ∈ gT := gmk (sm_4 (List.mem_of_getElem? (i := 140) (by decide +kernel))) rfl
theorem fl_X7_241 : Cond.fieldLink zR7 241 "WellLendsDepthModel" "imageBookOwes" "[I" ∈ gT := gmk (sm_4 (List.mem_of_getElem? (i := 141) (by decide +kernel))) rfl
theorem fl_X7_244 : Cond.fieldLink zR7 244 "WellLendsDepthModel" "ran" "I" ∈ gT := gmk (sm_4 (List.mem_of_getElem? (i := 142) (by decide +kernel))) rfl
theorem fl_X7_247 : Cond.fieldLink zR7 247 "WellLendsDepthModel" "bodies" "[I" ∈ gT := gmk (sm_4 (List.mem_of_getElem? (i := 143) (by decide +kernel))) rfl
theorem fl_X7_250 : Cond.fieldLink zR7 250 "WellLendsDepthModel" "sort" "[I" ∈ gT := gmk (sm_4 (List.mem_of_getElem? (i := 144) (by decide +kernel))) rfl
theorem fl_X7_253 : Cond.fieldLink zR7 253 "WellLendsDepthModel" "length" "[I" ∈ gT := gmk (sm_4 (List.mem_of_getElem? (i := 145) (by decide +kernel))) rfl
theorem fl_X7_256 : Cond.fieldLink zR7 256 "WellLendsDepthModel" "item" "[J" ∈ gT := gmk (sm_4 (List.mem_of_getElem? (i := 146) (by decide +kernel))) rfl
theorem fl_X7_260 : Cond.fieldLink zR7 260 "WellLendsDepthModel" "aside" "[J" ∈ gT := gmk (sm_4 (List.mem_of_getElem? (i := 147) (by decide +kernel))) rfl
theorem fl_J0_9 : Cond.fieldLink zRJ0 9 "java/lang/String" "value" "[B" ∈ gT := gmk (sm_6 (List.mem_of_getElem? (i := 224) (by decide +kernel))) rfl
theorem fl_J0_15 : Cond.fieldLink zRJ0 15 "java/lang/String" "coder" "B" ∈ gT := gmk (sm_6 (List.mem_of_getElem? (i := 225) (by decide +kernel))) rfl
theorem fl_J0_38 : Cond.fieldLink zRJ0 38 "java/lang/String" "COMPACT_STRINGS" "Z" ∈ gT := gmk (sm_2 (List.mem_of_getElem? (i := 193) (by decide +kernel))) rfl
theorem fl_J0_1053 : Cond.fieldLink zRJ0 1053 "jdk/internal/util/Preconditions" "SIOOBE_FORMATTER" "Ljava/util/function/BiFunction;" ∈ gT := gmk (sm_2 (List.mem_of_getElem? (i := 209) (by decide +kernel))) rfl
theorem fl_J2_44 : Cond.fieldLink zRJ2 44 "java/lang/StringUTF16" "$assertionsDisabled" "Z" ∈ gT := gmk (sm_2 (List.mem_of_getElem? (i := 227) (by decide +kernel))) rfl
theorem fl_J2_59 : Cond.fieldLink zRJ2 59 "java/lang/StringUTF16" "HI_BYTE_SHIFT" "I" ∈ gT := gmk (sm_2 (List.mem_of_getElem? (i := 229) (by decide +kernel))) rfl
theorem fl_J2_63 : Cond.fieldLink zRJ2 63 "java/lang/StringUTF16" "LO_BYTE_SHIFT" "I" ∈ gT := gmk (sm_2 (List.mem_of_getElem? (i := 231) (by decide +kernel))) rfl
theorem fn_X0_41 : Cond.fieldLinkNest zR0 41 "WellLendsDepth" "ABOVE" "[I" "WellLendsDepth" ∈ lw_tbl := sm_4 (List.mem_of_getElem? (i := 5) (by decide +kernel))
theorem co_X6_257 : Cond.constant zR6 257 (99999) ∈ gT := gmk (sm_3 (List.mem_of_getElem? (i := 188) (by decide +kernel))) rfl
theorem co_X5_93 : Cond.constant zR5 93 (99999) ∈ gT := gmk (sm_3 (List.mem_of_getElem? (i := 50) (by decide +kernel))) rfl
theorem co_X7_374 : Cond.constant zR7 374 (99999) ∈ gT := gmk (sm_6 (List.mem_of_getElem? (i := 32) (by decide +kernel))) rfl
theorem co_X7_390 : Cond.constant zR7 390 (2000000000) ∈ gT := gmk (sm_6 (List.mem_of_getElem? (i := 45) (by decide +kernel))) rfl
theorem cl_X6_233 : Cond.constantLong zR6 233 (-9223372036854775808) ∈ gT := gmk (sm_3 (List.mem_of_getElem? (i := 157) (by decide +kernel))) rfl
theorem cl_L_155 : Cond.constantLong R_law 155 (4294967295) ∈ gT := gmk (sm_6 (List.mem_of_getElem? (i := 223) (by decide +kernel))) rfl
theorem cl_X7_418 : Cond.constantLong zR7 418 (-9223372036854775808) ∈ gT := gmk (sm_6 (List.mem_of_getElem? (i := 110) (by decide +kernel))) rfl
