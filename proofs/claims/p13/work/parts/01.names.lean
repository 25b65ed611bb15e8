-- ===== PART A: goes FIRST, ahead of the names: the tables' words, and 'selects' of the private methods out of them =====
/-- a private method of a class that the tables say can be made, by its rows of tables_1 -/
def lw_okq (q : MethodName × Nat) : Prop := (q.1.cls ≠ "java/lang/invoke/MethodHandle" ∧ q.1.cls ≠ "java/lang/invoke/VarHandle") ∧ Cond.instantiable q.1.cls q.2 ∈ tables_1 ∧ Cond.privateMethod q.1 ∈ tables_1 ∧ Cond.instanceMethod q.1 ∈ tables_1
theorem lw_i1 {w : Cond} (h : w ∈ tables_1_1) : w ∈ tables_1 := List.mem_append_left _ h
theorem lw_i2 {w : Cond} (h : w ∈ tables_1_2) : w ∈ tables_1 := List.mem_append_right _ (List.mem_append_left _ h)
theorem lw_i3 {w : Cond} (h : w ∈ tables_1_3) : w ∈ tables_1 := List.mem_append_right _ (List.mem_append_right _ (List.mem_append_left _ h))
theorem lw_i4 {w : Cond} (h : w ∈ tables_1_4) : w ∈ tables_1 := List.mem_append_right _ (List.mem_append_right _ (List.mem_append_right _ (List.mem_append_left _ h)))
theorem lw_i5 {w : Cond} (h : w ∈ tables_1_5) : w ∈ tables_1 := List.mem_append_right _ (List.mem_append_right _ (List.mem_append_right _ (List.mem_append_right _ (List.mem_append_left _ h))))
theorem lw_i6 {w : Cond} (h : w ∈ tables_1_6) : w ∈ tables_1 := List.mem_append_right _ (List.mem_append_right _ (List.mem_append_right _ (List.mem_append_right _ (List.mem_append_right _ (List.mem_append_left _ h)))))
theorem lw_i7 {w : Cond} (h : w ∈ tables_1_7) : w ∈ tables_1 := List.mem_append_right _ (List.mem_append_right _ (List.mem_append_right _ (List.mem_append_right _ (List.mem_append_right _ (List.mem_append_right _ (List.mem_append_left _ h))))))
theorem lw_i8 {w : Cond} (h : w ∈ tables_1_8) : w ∈ tables_1 := List.mem_append_right _ (List.mem_append_right _ (List.mem_append_right _ (List.mem_append_right _ (List.mem_append_right _ (List.mem_append_right _ (List.mem_append_right _ (List.mem_append_left _ h)))))))
theorem lw_i9 {w : Cond} (h : w ∈ tables_1_9) : w ∈ tables_1 := List.mem_append_right _ (List.mem_append_right _ (List.mem_append_right _ (List.mem_append_right _ (List.mem_append_right _ (List.mem_append_right _ (List.mem_append_right _ (List.mem_append_right _ (h))))))))
set_option maxRecDepth 20000 in
theorem lw_n0 : Cond.instantiable "java/lang/Throwable" 6 ∈ tables_1 := lw_i3 (List.mem_of_getElem? (i := 27) rfl)
set_option maxRecDepth 20000 in
theorem lw_n1 : Cond.instantiable "MachineText" 14 ∈ tables_1 := lw_i1 (List.mem_of_getElem? (i := 30) rfl)
set_option maxRecDepth 20000 in
theorem lw_n2 : Cond.instantiable "MachineText$Names" 11 ∈ tables_1 := lw_i1 (List.mem_of_getElem? (i := 53) rfl)
set_option maxRecDepth 20000 in
theorem lw_n3 : Cond.instantiable "MachineText$Lexemes" 12 ∈ tables_1 := lw_i1 (List.mem_of_getElem? (i := 95) rfl)
set_option maxRecDepth 20000 in
theorem lw_n4 : Cond.instantiable "MachineText$Reader" 10 ∈ tables_1 := lw_i2 (List.mem_of_getElem? (i := 46) rfl)
set_option maxRecDepth 20000 in
theorem lw_n5 : Cond.instantiable "MachineText$Expressions" 13 ∈ tables_1 := lw_i1 (List.mem_of_getElem? (i := 239) rfl)
set_option maxRecDepth 20000 in
theorem lw_n6 : Cond.instantiable "MachineText$Claims" 5 ∈ tables_1 := lw_i1 (List.mem_of_getElem? (i := 216) rfl)
set_option maxRecDepth 20000 in
theorem lw_n7 : Cond.instantiable "MachineText$Checker" 6 ∈ tables_1 := lw_i2 (List.mem_of_getElem? (i := 83) rfl)
set_option maxRecDepth 20000 in
theorem lw_n8 : Cond.instantiable "MachineText$Rings" 14 ∈ tables_1 := lw_i2 (List.mem_of_getElem? (i := 108) rfl)
set_option maxRecDepth 20000 in
theorem lw_n9 : Cond.instantiable "MachineText$Printer" 3 ∈ tables_1 := lw_i2 (List.mem_of_getElem? (i := 157) rfl)
set_option maxRecDepth 20000 in
theorem lw_n10 : Cond.instantiable "MachineTextModel" 75 ∈ tables_1 := lw_i7 (List.mem_of_getElem? (i := 86) rfl)
set_option maxRecDepth 20000 in
theorem lw_p0 : lw_okq (⟨"java/lang/Throwable", "fillInStackTrace", "(I)Ljava/lang/Throwable;"⟩, 6) := ⟨⟨by decide +kernel, by decide +kernel⟩, lw_n0, lw_i3 (List.mem_of_getElem? (i := 25) rfl), lw_i3 (List.mem_of_getElem? (i := 26) rfl)⟩
set_option maxRecDepth 20000 in
theorem lw_p1 : lw_okq (⟨"MachineText", "putFour", "(I)V"⟩, 14) := ⟨⟨by decide +kernel, by decide +kernel⟩, lw_n1, lw_i3 (List.mem_of_getElem? (i := 56) rfl), lw_i3 (List.mem_of_getElem? (i := 57) rfl)⟩
set_option maxRecDepth 20000 in
theorem lw_p2 : lw_okq (⟨"MachineText", "forget", "()V"⟩, 14) := ⟨⟨by decide +kernel, by decide +kernel⟩, lw_n1, lw_i3 (List.mem_of_getElem? (i := 92) rfl), lw_i3 (List.mem_of_getElem? (i := 93) rfl)⟩
set_option maxRecDepth 20000 in
theorem lw_p3 : lw_okq (⟨"MachineText$Names", "addWords", "()V"⟩, 11) := ⟨⟨by decide +kernel, by decide +kernel⟩, lw_n2, lw_i3 (List.mem_of_getElem? (i := 111) rfl), lw_i3 (List.mem_of_getElem? (i := 112) rfl)⟩
set_option maxRecDepth 20000 in
theorem lw_p4 : lw_okq (⟨"MachineText$Names", "idOf", "(JJ)I"⟩, 11) := ⟨⟨by decide +kernel, by decide +kernel⟩, lw_n2, lw_i3 (List.mem_of_getElem? (i := 168) rfl), lw_i3 (List.mem_of_getElem? (i := 169) rfl)⟩
set_option maxRecDepth 20000 in
theorem lw_p5 : lw_okq (⟨"MachineText$Names", "added", "(JJI)I"⟩, 11) := ⟨⟨by decide +kernel, by decide +kernel⟩, lw_n2, lw_i3 (List.mem_of_getElem? (i := 174) rfl), lw_i3 (List.mem_of_getElem? (i := 175) rfl)⟩
set_option maxRecDepth 20000 in
theorem lw_p6 : lw_okq (⟨"MachineText$Lexemes", "behindWhite", "(I)I"⟩, 12) := ⟨⟨by decide +kernel, by decide +kernel⟩, lw_n3, lw_i3 (List.mem_of_getElem? (i := 221) rfl), lw_i3 (List.mem_of_getElem? (i := 222) rfl)⟩
set_option maxRecDepth 20000 in
theorem lw_p7 : lw_okq (⟨"MachineText$Lexemes", "cutOne", "(I)I"⟩, 12) := ⟨⟨by decide +kernel, by decide +kernel⟩, lw_n3, lw_i3 (List.mem_of_getElem? (i := 229) rfl), lw_i3 (List.mem_of_getElem? (i := 230) rfl)⟩
set_option maxRecDepth 20000 in
theorem lw_p8 : lw_okq (⟨"MachineText$Lexemes", "cutName", "(I)I"⟩, 12) := ⟨⟨by decide +kernel, by decide +kernel⟩, lw_n3, lw_i3 (List.mem_of_getElem? (i := 236) rfl), lw_i3 (List.mem_of_getElem? (i := 237) rfl)⟩
set_option maxRecDepth 20000 in
theorem lw_p9 : lw_okq (⟨"MachineText$Lexemes", "add", "(IIIJ)V"⟩, 12) := ⟨⟨by decide +kernel, by decide +kernel⟩, lw_n3, lw_i4 (List.mem_of_getElem? (i := 5) rfl), lw_i4 (List.mem_of_getElem? (i := 6) rfl)⟩
set_option maxRecDepth 20000 in
theorem lw_p10 : lw_okq (⟨"MachineText$Lexemes", "cutSign", "(I)I"⟩, 12) := ⟨⟨by decide +kernel, by decide +kernel⟩, lw_n3, lw_i4 (List.mem_of_getElem? (i := 9) rfl), lw_i4 (List.mem_of_getElem? (i := 10) rfl)⟩
set_option maxRecDepth 20000 in
theorem lw_p11 : lw_okq (⟨"MachineText$Lexemes", "cutHex", "(I)I"⟩, 12) := ⟨⟨by decide +kernel, by decide +kernel⟩, lw_n3, lw_i4 (List.mem_of_getElem? (i := 75) rfl), lw_i4 (List.mem_of_getElem? (i := 76) rfl)⟩
set_option maxRecDepth 20000 in
theorem lw_p12 : lw_okq (⟨"MachineText$Lexemes", "cutDecimal", "(I)I"⟩, 12) := ⟨⟨by decide +kernel, by decide +kernel⟩, lw_n3, lw_i4 (List.mem_of_getElem? (i := 84) rfl), lw_i4 (List.mem_of_getElem? (i := 85) rfl)⟩
set_option maxRecDepth 20000 in
theorem lw_p13 : lw_okq (⟨"MachineText", "parse", "()V"⟩, 14) := ⟨⟨by decide +kernel, by decide +kernel⟩, lw_n1, lw_i4 (List.mem_of_getElem? (i := 97) rfl), lw_i4 (List.mem_of_getElem? (i := 98) rfl)⟩
set_option maxRecDepth 20000 in
theorem lw_p14 : lw_okq (⟨"MachineText$Reader", "closeBody", "()V"⟩, 10) := ⟨⟨by decide +kernel, by decide +kernel⟩, lw_n4, lw_i4 (List.mem_of_getElem? (i := 142) rfl), lw_i4 (List.mem_of_getElem? (i := 143) rfl)⟩
set_option maxRecDepth 20000 in
theorem lw_p15 : lw_okq (⟨"MachineText$Reader", "openBody", "(II)V"⟩, 10) := ⟨⟨by decide +kernel, by decide +kernel⟩, lw_n4, lw_i4 (List.mem_of_getElem? (i := 148) rfl), lw_i4 (List.mem_of_getElem? (i := 149) rfl)⟩
def lw_privs_1 : List (MethodName × Nat) := [(⟨"java/lang/Throwable", "fillInStackTrace", "(I)Ljava/lang/Throwable;"⟩, 6), (⟨"MachineText", "putFour", "(I)V"⟩, 14), (⟨"MachineText", "forget", "()V"⟩, 14), (⟨"MachineText$Names", "addWords", "()V"⟩, 11), (⟨"MachineText$Names", "idOf", "(JJ)I"⟩, 11), (⟨"MachineText$Names", "added", "(JJI)I"⟩, 11), (⟨"MachineText$Lexemes", "behindWhite", "(I)I"⟩, 12), (⟨"MachineText$Lexemes", "cutOne", "(I)I"⟩, 12), (⟨"MachineText$Lexemes", "cutName", "(I)I"⟩, 12), (⟨"MachineText$Lexemes", "add", "(IIIJ)V"⟩, 12), (⟨"MachineText$Lexemes", "cutSign", "(I)I"⟩, 12), (⟨"MachineText$Lexemes", "cutHex", "(I)I"⟩, 12), (⟨"MachineText$Lexemes", "cutDecimal", "(I)I"⟩, 12), (⟨"MachineText", "parse", "()V"⟩, 14), (⟨"MachineText$Reader", "closeBody", "()V"⟩, 10), (⟨"MachineText$Reader", "openBody", "(II)V"⟩, 10)]
theorem lw_r1 : ∀ q ∈ lw_privs_1, lw_okq q := List.forall_mem_cons.mpr ⟨lw_p0, List.forall_mem_cons.mpr ⟨lw_p1, List.forall_mem_cons.mpr ⟨lw_p2, List.forall_mem_cons.mpr ⟨lw_p3, List.forall_mem_cons.mpr ⟨lw_p4, List.forall_mem_cons.mpr ⟨lw_p5, List.forall_mem_cons.mpr ⟨lw_p6, List.forall_mem_cons.mpr ⟨lw_p7, List.forall_mem_cons.mpr ⟨lw_p8, List.forall_mem_cons.mpr ⟨lw_p9, List.forall_mem_cons.mpr ⟨lw_p10, List.forall_mem_cons.mpr ⟨lw_p11, List.forall_mem_cons.mpr ⟨lw_p12, List.forall_mem_cons.mpr ⟨lw_p13, List.forall_mem_cons.mpr ⟨lw_p14, List.forall_mem_cons.mpr ⟨lw_p15, fun _ h => absurd h List.not_mem_nil⟩⟩⟩⟩⟩⟩⟩⟩⟩⟩⟩⟩⟩⟩⟩⟩
set_option maxRecDepth 20000 in
theorem lw_p16 : lw_okq (⟨"MachineText$Reader", "assignment", "()V"⟩, 10) := ⟨⟨by decide +kernel, by decide +kernel⟩, lw_n4, lw_i4 (List.mem_of_getElem? (i := 163) rfl), lw_i4 (List.mem_of_getElem? (i := 164) rfl)⟩
set_option maxRecDepth 20000 in
theorem lw_p17 : lw_okq (⟨"MachineText$Expressions", "prefixes", "()V"⟩, 13) := ⟨⟨by decide +kernel, by decide +kernel⟩, lw_n5, lw_i4 (List.mem_of_getElem? (i := 183) rfl), lw_i4 (List.mem_of_getElem? (i := 184) rfl)⟩
set_option maxRecDepth 20000 in
theorem lw_p18 : lw_okq (⟨"MachineText$Expressions", "push", "(III)V"⟩, 13) := ⟨⟨by decide +kernel, by decide +kernel⟩, lw_n5, lw_i4 (List.mem_of_getElem? (i := 187) rfl), lw_i4 (List.mem_of_getElem? (i := 188) rfl)⟩
set_option maxRecDepth 20000 in
theorem lw_p19 : lw_okq (⟨"MachineText$Expressions", "operandKind", "()I"⟩, 13) := ⟨⟨by decide +kernel, by decide +kernel⟩, lw_n5, lw_i4 (List.mem_of_getElem? (i := 192) rfl), lw_i4 (List.mem_of_getElem? (i := 193) rfl)⟩
set_option maxRecDepth 20000 in
theorem lw_p20 : lw_okq (⟨"MachineText$Expressions", "value", "()V"⟩, 13) := ⟨⟨by decide +kernel, by decide +kernel⟩, lw_n5, lw_i4 (List.mem_of_getElem? (i := 200) rfl), lw_i4 (List.mem_of_getElem? (i := 201) rfl)⟩
set_option maxRecDepth 20000 in
theorem lw_p21 : lw_okq (⟨"MachineText$Expressions", "primary", "(II)V"⟩, 13) := ⟨⟨by decide +kernel, by decide +kernel⟩, lw_n5, lw_i4 (List.mem_of_getElem? (i := 213) rfl), lw_i4 (List.mem_of_getElem? (i := 214) rfl)⟩
set_option maxRecDepth 20000 in
theorem lw_p22 : lw_okq (⟨"MachineText$Expressions", "settle", "(III)V"⟩, 13) := ⟨⟨by decide +kernel, by decide +kernel⟩, lw_n5, lw_i4 (List.mem_of_getElem? (i := 217) rfl), lw_i4 (List.mem_of_getElem? (i := 218) rfl)⟩
set_option maxRecDepth 20000 in
theorem lw_p23 : lw_okq (⟨"MachineText$Expressions", "plainName", "()V"⟩, 13) := ⟨⟨by decide +kernel, by decide +kernel⟩, lw_n5, lw_i4 (List.mem_of_getElem? (i := 233) rfl), lw_i4 (List.mem_of_getElem? (i := 234) rfl)⟩
set_option maxRecDepth 20000 in
theorem lw_p24 : lw_okq (⟨"MachineText$Expressions", "element", "(I)V"⟩, 13) := ⟨⟨by decide +kernel, by decide +kernel⟩, lw_n5, lw_i4 (List.mem_of_getElem? (i := 237) rfl), lw_i4 (List.mem_of_getElem? (i := 238) rfl)⟩
set_option maxRecDepth 20000 in
theorem lw_p25 : lw_okq (⟨"MachineText$Expressions", "extension", "(II)V"⟩, 13) := ⟨⟨by decide +kernel, by decide +kernel⟩, lw_n5, lw_i5 (List.mem_of_getElem? (i := 2) rfl), lw_i5 (List.mem_of_getElem? (i := 3) rfl)⟩
set_option maxRecDepth 20000 in
theorem lw_p26 : lw_okq (⟨"MachineText$Expressions", "group", "(I)V"⟩, 13) := ⟨⟨by decide +kernel, by decide +kernel⟩, lw_n5, lw_i5 (List.mem_of_getElem? (i := 6) rfl), lw_i5 (List.mem_of_getElem? (i := 7) rfl)⟩
set_option maxRecDepth 20000 in
theorem lw_p27 : lw_okq (⟨"MachineText$Expressions", "list", "(II)V"⟩, 13) := ⟨⟨by decide +kernel, by decide +kernel⟩, lw_n5, lw_i5 (List.mem_of_getElem? (i := 14) rfl), lw_i5 (List.mem_of_getElem? (i := 15) rfl)⟩
set_option maxRecDepth 20000 in
theorem lw_p28 : lw_okq (⟨"MachineText$Expressions", "hide", "(I)V"⟩, 13) := ⟨⟨by decide +kernel, by decide +kernel⟩, lw_n5, lw_i5 (List.mem_of_getElem? (i := 22) rfl), lw_i5 (List.mem_of_getElem? (i := 23) rfl)⟩
set_option maxRecDepth 20000 in
theorem lw_p29 : lw_okq (⟨"MachineText$Expressions", "slices", "()V"⟩, 13) := ⟨⟨by decide +kernel, by decide +kernel⟩, lw_n5, lw_i5 (List.mem_of_getElem? (i := 35) rfl), lw_i5 (List.mem_of_getElem? (i := 36) rfl)⟩
set_option maxRecDepth 20000 in
theorem lw_p30 : lw_okq (⟨"MachineText$Expressions", "want", "(I)V"⟩, 13) := ⟨⟨by decide +kernel, by decide +kernel⟩, lw_n5, lw_i5 (List.mem_of_getElem? (i := 39) rfl), lw_i5 (List.mem_of_getElem? (i := 40) rfl)⟩
set_option maxRecDepth 20000 in
theorem lw_p31 : lw_okq (⟨"MachineText$Expressions", "operatorKind", "(I)I"⟩, 13) := ⟨⟨by decide +kernel, by decide +kernel⟩, lw_n5, lw_i5 (List.mem_of_getElem? (i := 43) rfl), lw_i5 (List.mem_of_getElem? (i := 44) rfl)⟩
def lw_privs_2 : List (MethodName × Nat) := [(⟨"MachineText$Reader", "assignment", "()V"⟩, 10), (⟨"MachineText$Expressions", "prefixes", "()V"⟩, 13), (⟨"MachineText$Expressions", "push", "(III)V"⟩, 13), (⟨"MachineText$Expressions", "operandKind", "()I"⟩, 13), (⟨"MachineText$Expressions", "value", "()V"⟩, 13), (⟨"MachineText$Expressions", "primary", "(II)V"⟩, 13), (⟨"MachineText$Expressions", "settle", "(III)V"⟩, 13), (⟨"MachineText$Expressions", "plainName", "()V"⟩, 13), (⟨"MachineText$Expressions", "element", "(I)V"⟩, 13), (⟨"MachineText$Expressions", "extension", "(II)V"⟩, 13), (⟨"MachineText$Expressions", "group", "(I)V"⟩, 13), (⟨"MachineText$Expressions", "list", "(II)V"⟩, 13), (⟨"MachineText$Expressions", "hide", "(I)V"⟩, 13), (⟨"MachineText$Expressions", "slices", "()V"⟩, 13), (⟨"MachineText$Expressions", "want", "(I)V"⟩, 13), (⟨"MachineText$Expressions", "operatorKind", "(I)I"⟩, 13)]
theorem lw_r2 : ∀ q ∈ lw_privs_2, lw_okq q := List.forall_mem_cons.mpr ⟨lw_p16, List.forall_mem_cons.mpr ⟨lw_p17, List.forall_mem_cons.mpr ⟨lw_p18, List.forall_mem_cons.mpr ⟨lw_p19, List.forall_mem_cons.mpr ⟨lw_p20, List.forall_mem_cons.mpr ⟨lw_p21, List.forall_mem_cons.mpr ⟨lw_p22, List.forall_mem_cons.mpr ⟨lw_p23, List.forall_mem_cons.mpr ⟨lw_p24, List.forall_mem_cons.mpr ⟨lw_p25, List.forall_mem_cons.mpr ⟨lw_p26, List.forall_mem_cons.mpr ⟨lw_p27, List.forall_mem_cons.mpr ⟨lw_p28, List.forall_mem_cons.mpr ⟨lw_p29, List.forall_mem_cons.mpr ⟨lw_p30, List.forall_mem_cons.mpr ⟨lw_p31, fun _ h => absurd h List.not_mem_nil⟩⟩⟩⟩⟩⟩⟩⟩⟩⟩⟩⟩⟩⟩⟩⟩
set_option maxRecDepth 20000 in
theorem lw_p32 : lw_okq (⟨"MachineText$Expressions", "signAt", "(I)I"⟩, 13) := ⟨⟨by decide +kernel, by decide +kernel⟩, lw_n5, lw_i5 (List.mem_of_getElem? (i := 50) rfl), lw_i5 (List.mem_of_getElem? (i := 51) rfl)⟩
set_option maxRecDepth 20000 in
theorem lw_p33 : lw_okq (⟨"MachineText$Expressions", "reduce", "(II)V"⟩, 13) := ⟨⟨by decide +kernel, by decide +kernel⟩, lw_n5, lw_i5 (List.mem_of_getElem? (i := 59) rfl), lw_i5 (List.mem_of_getElem? (i := 60) rfl)⟩
set_option maxRecDepth 20000 in
theorem lw_p34 : lw_okq (⟨"MachineText$Expressions", "operator", "(I)V"⟩, 13) := ⟨⟨by decide +kernel, by decide +kernel⟩, lw_n5, lw_i5 (List.mem_of_getElem? (i := 63) rfl), lw_i5 (List.mem_of_getElem? (i := 64) rfl)⟩
set_option maxRecDepth 20000 in
theorem lw_p35 : lw_okq (⟨"MachineText$Expressions", "choice", "(I)V"⟩, 13) := ⟨⟨by decide +kernel, by decide +kernel⟩, lw_n5, lw_i5 (List.mem_of_getElem? (i := 67) rfl), lw_i5 (List.mem_of_getElem? (i := 68) rfl)⟩
set_option maxRecDepth 20000 in
theorem lw_p36 : lw_okq (⟨"MachineText$Claims", "add", "(IIII)V"⟩, 5) := ⟨⟨by decide +kernel, by decide +kernel⟩, lw_n6, lw_i5 (List.mem_of_getElem? (i := 78) rfl), lw_i5 (List.mem_of_getElem? (i := 79) rfl)⟩
set_option maxRecDepth 20000 in
theorem lw_p37 : lw_okq (⟨"MachineText$Reader", "branch", "()V"⟩, 10) := ⟨⟨by decide +kernel, by decide +kernel⟩, lw_n4, lw_i5 (List.mem_of_getElem? (i := 82) rfl), lw_i5 (List.mem_of_getElem? (i := 83) rfl)⟩
set_option maxRecDepth 20000 in
theorem lw_p38 : lw_okq (⟨"MachineText$Reader", "repetition", "()V"⟩, 10) := ⟨⟨by decide +kernel, by decide +kernel⟩, lw_n4, lw_i5 (List.mem_of_getElem? (i := 91) rfl), lw_i5 (List.mem_of_getElem? (i := 92) rfl)⟩
set_option maxRecDepth 20000 in
theorem lw_p39 : lw_okq (⟨"MachineText$Reader", "bind", "(III)V"⟩, 10) := ⟨⟨by decide +kernel, by decide +kernel⟩, lw_n4, lw_i5 (List.mem_of_getElem? (i := 95) rfl), lw_i5 (List.mem_of_getElem? (i := 96) rfl)⟩
set_option maxRecDepth 20000 in
theorem lw_p40 : lw_okq (⟨"MachineText$Reader", "register", "()V"⟩, 10) := ⟨⟨by decide +kernel, by decide +kernel⟩, lw_n4, lw_i5 (List.mem_of_getElem? (i := 111) rfl), lw_i5 (List.mem_of_getElem? (i := 112) rfl)⟩
set_option maxRecDepth 20000 in
theorem lw_p41 : lw_okq (⟨"MachineText$Reader", "head", "(I)V"⟩, 10) := ⟨⟨by decide +kernel, by decide +kernel⟩, lw_n4, lw_i5 (List.mem_of_getElem? (i := 115) rfl), lw_i5 (List.mem_of_getElem? (i := 116) rfl)⟩
set_option maxRecDepth 20000 in
theorem lw_p42 : lw_okq (⟨"MachineText$Reader", "memory", "()V"⟩, 10) := ⟨⟨by decide +kernel, by decide +kernel⟩, lw_n4, lw_i5 (List.mem_of_getElem? (i := 145) rfl), lw_i5 (List.mem_of_getElem? (i := 146) rfl)⟩
set_option maxRecDepth 20000 in
theorem lw_p43 : lw_okq (⟨"MachineText$Reader", "helper", "()V"⟩, 10) := ⟨⟨by decide +kernel, by decide +kernel⟩, lw_n4, lw_i5 (List.mem_of_getElem? (i := 149) rfl), lw_i5 (List.mem_of_getElem? (i := 150) rfl)⟩
set_option maxRecDepth 20000 in
theorem lw_p44 : lw_okq (⟨"MachineText$Reader", "parameter", "()V"⟩, 10) := ⟨⟨by decide +kernel, by decide +kernel⟩, lw_n4, lw_i5 (List.mem_of_getElem? (i := 153) rfl), lw_i5 (List.mem_of_getElem? (i := 154) rfl)⟩
set_option maxRecDepth 20000 in
theorem lw_p45 : lw_okq (⟨"MachineText$Reader", "instruction", "()V"⟩, 10) := ⟨⟨by decide +kernel, by decide +kernel⟩, lw_n4, lw_i5 (List.mem_of_getElem? (i := 157) rfl), lw_i5 (List.mem_of_getElem? (i := 158) rfl)⟩
set_option maxRecDepth 20000 in
theorem lw_p46 : lw_okq (⟨"MachineText$Reader", "bitsPart", "()V"⟩, 10) := ⟨⟨by decide +kernel, by decide +kernel⟩, lw_n4, lw_i5 (List.mem_of_getElem? (i := 161) rfl), lw_i5 (List.mem_of_getElem? (i := 162) rfl)⟩
set_option maxRecDepth 20000 in
theorem lw_p47 : lw_okq (⟨"MachineText$Reader", "namedPart", "()V"⟩, 10) := ⟨⟨by decide +kernel, by decide +kernel⟩, lw_n4, lw_i5 (List.mem_of_getElem? (i := 175) rfl), lw_i5 (List.mem_of_getElem? (i := 176) rfl)⟩
def lw_privs_3 : List (MethodName × Nat) := [(⟨"MachineText$Expressions", "signAt", "(I)I"⟩, 13), (⟨"MachineText$Expressions", "reduce", "(II)V"⟩, 13), (⟨"MachineText$Expressions", "operator", "(I)V"⟩, 13), (⟨"MachineText$Expressions", "choice", "(I)V"⟩, 13), (⟨"MachineText$Claims", "add", "(IIII)V"⟩, 5), (⟨"MachineText$Reader", "branch", "()V"⟩, 10), (⟨"MachineText$Reader", "repetition", "()V"⟩, 10), (⟨"MachineText$Reader", "bind", "(III)V"⟩, 10), (⟨"MachineText$Reader", "register", "()V"⟩, 10), (⟨"MachineText$Reader", "head", "(I)V"⟩, 10), (⟨"MachineText$Reader", "memory", "()V"⟩, 10), (⟨"MachineText$Reader", "helper", "()V"⟩, 10), (⟨"MachineText$Reader", "parameter", "()V"⟩, 10), (⟨"MachineText$Reader", "instruction", "()V"⟩, 10), (⟨"MachineText$Reader", "bitsPart", "()V"⟩, 10), (⟨"MachineText$Reader", "namedPart", "()V"⟩, 10)]
theorem lw_r3 : ∀ q ∈ lw_privs_3, lw_okq q := List.forall_mem_cons.mpr ⟨lw_p32, List.forall_mem_cons.mpr ⟨lw_p33, List.forall_mem_cons.mpr ⟨lw_p34, List.forall_mem_cons.mpr ⟨lw_p35, List.forall_mem_cons.mpr ⟨lw_p36, List.forall_mem_cons.mpr ⟨lw_p37, List.forall_mem_cons.mpr ⟨lw_p38, List.forall_mem_cons.mpr ⟨lw_p39, List.forall_mem_cons.mpr ⟨lw_p40, List.forall_mem_cons.mpr ⟨lw_p41, List.forall_mem_cons.mpr ⟨lw_p42, List.forall_mem_cons.mpr ⟨lw_p43, List.forall_mem_cons.mpr ⟨lw_p44, List.forall_mem_cons.mpr ⟨lw_p45, List.forall_mem_cons.mpr ⟨lw_p46, List.forall_mem_cons.mpr ⟨lw_p47, fun _ h => absurd h List.not_mem_nil⟩⟩⟩⟩⟩⟩⟩⟩⟩⟩⟩⟩⟩⟩⟩⟩
set_option maxRecDepth 20000 in
theorem lw_p48 : lw_okq (⟨"MachineText", "check", "()V"⟩, 14) := ⟨⟨by decide +kernel, by decide +kernel⟩, lw_n1, lw_i5 (List.mem_of_getElem? (i := 182) rfl), lw_i5 (List.mem_of_getElem? (i := 183) rfl)⟩
set_option maxRecDepth 20000 in
theorem lw_p49 : lw_okq (⟨"MachineText$Checker", "checkName", "(III)V"⟩, 6) := ⟨⟨by decide +kernel, by decide +kernel⟩, lw_n7, lw_i5 (List.mem_of_getElem? (i := 207) rfl), lw_i5 (List.mem_of_getElem? (i := 208) rfl)⟩
set_option maxRecDepth 20000 in
theorem lw_p50 : lw_okq (⟨"MachineText$Checker", "ownerAt", "(I)I"⟩, 6) := ⟨⟨by decide +kernel, by decide +kernel⟩, lw_n7, lw_i5 (List.mem_of_getElem? (i := 211) rfl), lw_i5 (List.mem_of_getElem? (i := 212) rfl)⟩
set_option maxRecDepth 20000 in
theorem lw_p51 : lw_okq (⟨"MachineText$Checker", "fits", "(III)Z"⟩, 6) := ⟨⟨by decide +kernel, by decide +kernel⟩, lw_n7, lw_i5 (List.mem_of_getElem? (i := 219) rfl), lw_i5 (List.mem_of_getElem? (i := 220) rfl)⟩
set_option maxRecDepth 20000 in
theorem lw_p52 : lw_okq (⟨"MachineText$Rings", "collect", "()V"⟩, 14) := ⟨⟨by decide +kernel, by decide +kernel⟩, lw_n8, lw_i6 (List.mem_of_getElem? (i := 11) rfl), lw_i6 (List.mem_of_getElem? (i := 12) rfl)⟩
set_option maxRecDepth 20000 in
theorem lw_p53 : lw_okq (⟨"MachineText$Rings", "lastLexeme", "(I)I"⟩, 14) := ⟨⟨by decide +kernel, by decide +kernel⟩, lw_n8, lw_i6 (List.mem_of_getElem? (i := 15) rfl), lw_i6 (List.mem_of_getElem? (i := 16) rfl)⟩
set_option maxRecDepth 20000 in
theorem lw_p54 : lw_okq (⟨"MachineText$Rings", "calledAt", "(I)I"⟩, 14) := ⟨⟨by decide +kernel, by decide +kernel⟩, lw_n8, lw_i6 (List.mem_of_getElem? (i := 25) rfl), lw_i6 (List.mem_of_getElem? (i := 26) rfl)⟩
set_option maxRecDepth 20000 in
theorem lw_p55 : lw_okq (⟨"MachineText$Rings", "addCall", "(II)V"⟩, 14) := ⟨⟨by decide +kernel, by decide +kernel⟩, lw_n8, lw_i6 (List.mem_of_getElem? (i := 31) rfl), lw_i6 (List.mem_of_getElem? (i := 32) rfl)⟩
set_option maxRecDepth 20000 in
theorem lw_p56 : lw_okq (⟨"MachineText$Rings", "isRow", "(I)Z"⟩, 14) := ⟨⟨by decide +kernel, by decide +kernel⟩, lw_n8, lw_i6 (List.mem_of_getElem? (i := 35) rfl), lw_i6 (List.mem_of_getElem? (i := 36) rfl)⟩
set_option maxRecDepth 20000 in
theorem lw_p57 : lw_okq (⟨"MachineText$Rings", "isFree", "()Z"⟩, 14) := ⟨⟨by decide +kernel, by decide +kernel⟩, lw_n8, lw_i6 (List.mem_of_getElem? (i := 39) rfl), lw_i6 (List.mem_of_getElem? (i := 40) rfl)⟩
set_option maxRecDepth 20000 in
theorem lw_p58 : lw_okq (⟨"MachineText$Rings", "enqueue", "(I)V"⟩, 14) := ⟨⟨by decide +kernel, by decide +kernel⟩, lw_n8, lw_i6 (List.mem_of_getElem? (i := 43) rfl), lw_i6 (List.mem_of_getElem? (i := 44) rfl)⟩
set_option maxRecDepth 20000 in
theorem lw_p59 : lw_okq (⟨"MachineText$Rings", "chainOf", "(I)I"⟩, 14) := ⟨⟨by decide +kernel, by decide +kernel⟩, lw_n8, lw_i6 (List.mem_of_getElem? (i := 47) rfl), lw_i6 (List.mem_of_getElem? (i := 48) rfl)⟩
set_option maxRecDepth 20000 in
theorem lw_p60 : lw_okq (⟨"MachineText$Rings", "isCall", "(I)Z"⟩, 14) := ⟨⟨by decide +kernel, by decide +kernel⟩, lw_n8, lw_i6 (List.mem_of_getElem? (i := 51) rfl), lw_i6 (List.mem_of_getElem? (i := 52) rfl)⟩
set_option maxRecDepth 20000 in
theorem lw_p61 : lw_okq (⟨"MachineText$Rings", "settleOne", "(I)V"⟩, 14) := ⟨⟨by decide +kernel, by decide +kernel⟩, lw_n8, lw_i6 (List.mem_of_getElem? (i := 55) rfl), lw_i6 (List.mem_of_getElem? (i := 56) rfl)⟩
set_option maxRecDepth 20000 in
theorem lw_p62 : lw_okq (⟨"MachineText$Rings", "measure", "(I)V"⟩, 14) := ⟨⟨by decide +kernel, by decide +kernel⟩, lw_n8, lw_i6 (List.mem_of_getElem? (i := 59) rfl), lw_i6 (List.mem_of_getElem? (i := 60) rfl)⟩
set_option maxRecDepth 20000 in
theorem lw_p63 : lw_okq (⟨"MachineText$Rings", "reach", "(II)V"⟩, 14) := ⟨⟨by decide +kernel, by decide +kernel⟩, lw_n8, lw_i6 (List.mem_of_getElem? (i := 63) rfl), lw_i6 (List.mem_of_getElem? (i := 64) rfl)⟩
def lw_privs_4 : List (MethodName × Nat) := [(⟨"MachineText", "check", "()V"⟩, 14), (⟨"MachineText$Checker", "checkName", "(III)V"⟩, 6), (⟨"MachineText$Checker", "ownerAt", "(I)I"⟩, 6), (⟨"MachineText$Checker", "fits", "(III)Z"⟩, 6), (⟨"MachineText$Rings", "collect", "()V"⟩, 14), (⟨"MachineText$Rings", "lastLexeme", "(I)I"⟩, 14), (⟨"MachineText$Rings", "calledAt", "(I)I"⟩, 14), (⟨"MachineText$Rings", "addCall", "(II)V"⟩, 14), (⟨"MachineText$Rings", "isRow", "(I)Z"⟩, 14), (⟨"MachineText$Rings", "isFree", "()Z"⟩, 14), (⟨"MachineText$Rings", "enqueue", "(I)V"⟩, 14), (⟨"MachineText$Rings", "chainOf", "(I)I"⟩, 14), (⟨"MachineText$Rings", "isCall", "(I)Z"⟩, 14), (⟨"MachineText$Rings", "settleOne", "(I)V"⟩, 14), (⟨"MachineText$Rings", "measure", "(I)V"⟩, 14), (⟨"MachineText$Rings", "reach", "(II)V"⟩, 14)]
theorem lw_r4 : ∀ q ∈ lw_privs_4, lw_okq q := List.forall_mem_cons.mpr ⟨lw_p48, List.forall_mem_cons.mpr ⟨lw_p49, List.forall_mem_cons.mpr ⟨lw_p50, List.forall_mem_cons.mpr ⟨lw_p51, List.forall_mem_cons.mpr ⟨lw_p52, List.forall_mem_cons.mpr ⟨lw_p53, List.forall_mem_cons.mpr ⟨lw_p54, List.forall_mem_cons.mpr ⟨lw_p55, List.forall_mem_cons.mpr ⟨lw_p56, List.forall_mem_cons.mpr ⟨lw_p57, List.forall_mem_cons.mpr ⟨lw_p58, List.forall_mem_cons.mpr ⟨lw_p59, List.forall_mem_cons.mpr ⟨lw_p60, List.forall_mem_cons.mpr ⟨lw_p61, List.forall_mem_cons.mpr ⟨lw_p62, List.forall_mem_cons.mpr ⟨lw_p63, fun _ h => absurd h List.not_mem_nil⟩⟩⟩⟩⟩⟩⟩⟩⟩⟩⟩⟩⟩⟩⟩⟩
set_option maxRecDepth 20000 in
theorem lw_p64 : lw_okq (⟨"MachineText$Rings", "nearest", "(I)I"⟩, 14) := ⟨⟨by decide +kernel, by decide +kernel⟩, lw_n8, lw_i6 (List.mem_of_getElem? (i := 67) rfl), lw_i6 (List.mem_of_getElem? (i := 68) rfl)⟩
set_option maxRecDepth 20000 in
theorem lw_p65 : lw_okq (⟨"MachineText$Rings", "trace", "(I)V"⟩, 14) := ⟨⟨by decide +kernel, by decide +kernel⟩, lw_n8, lw_i6 (List.mem_of_getElem? (i := 71) rfl), lw_i6 (List.mem_of_getElem? (i := 72) rfl)⟩
set_option maxRecDepth 20000 in
theorem lw_p66 : lw_okq (⟨"MachineText$Checker", "hasRightParts", "(I)Z"⟩, 6) := ⟨⟨by decide +kernel, by decide +kernel⟩, lw_n7, lw_i6 (List.mem_of_getElem? (i := 81) rfl), lw_i6 (List.mem_of_getElem? (i := 82) rfl)⟩
set_option maxRecDepth 20000 in
theorem lw_p67 : lw_okq (⟨"MachineText$Checker", "widthOf", "(I)I"⟩, 6) := ⟨⟨by decide +kernel, by decide +kernel⟩, lw_n7, lw_i6 (List.mem_of_getElem? (i := 93) rfl), lw_i6 (List.mem_of_getElem? (i := 94) rfl)⟩
set_option maxRecDepth 20000 in
theorem lw_p68 : lw_okq (⟨"MachineText$Checker", "indexWidth", "(I)I"⟩, 6) := ⟨⟨by decide +kernel, by decide +kernel⟩, lw_n7, lw_i6 (List.mem_of_getElem? (i := 101) rfl), lw_i6 (List.mem_of_getElem? (i := 102) rfl)⟩
set_option maxRecDepth 20000 in
theorem lw_p69 : lw_okq (⟨"MachineText$Checker", "callWidth", "(I)I"⟩, 6) := ⟨⟨by decide +kernel, by decide +kernel⟩, lw_n7, lw_i6 (List.mem_of_getElem? (i := 109) rfl), lw_i6 (List.mem_of_getElem? (i := 110) rfl)⟩
set_option maxRecDepth 20000 in
theorem lw_p70 : lw_okq (⟨"MachineText$Checker", "joinedWidth", "(I)I"⟩, 6) := ⟨⟨by decide +kernel, by decide +kernel⟩, lw_n7, lw_i6 (List.mem_of_getElem? (i := 115) rfl), lw_i6 (List.mem_of_getElem? (i := 116) rfl)⟩
set_option maxRecDepth 20000 in
theorem lw_p71 : lw_okq (⟨"MachineText$Checker", "pairWidth", "(I)I"⟩, 6) := ⟨⟨by decide +kernel, by decide +kernel⟩, lw_n7, lw_i6 (List.mem_of_getElem? (i := 129) rfl), lw_i6 (List.mem_of_getElem? (i := 130) rfl)⟩
set_option maxRecDepth 20000 in
theorem lw_p72 : lw_okq (⟨"MachineText$Checker", "isTargetRight", "(I)Z"⟩, 6) := ⟨⟨by decide +kernel, by decide +kernel⟩, lw_n7, lw_i6 (List.mem_of_getElem? (i := 134) rfl), lw_i6 (List.mem_of_getElem? (i := 135) rfl)⟩
set_option maxRecDepth 20000 in
theorem lw_p73 : lw_okq (⟨"MachineText$Checker", "isWidthRight", "(I)Z"⟩, 6) := ⟨⟨by decide +kernel, by decide +kernel⟩, lw_n7, lw_i6 (List.mem_of_getElem? (i := 142) rfl), lw_i6 (List.mem_of_getElem? (i := 143) rfl)⟩
set_option maxRecDepth 20000 in
theorem lw_p74 : lw_okq (⟨"MachineText$Printer", "writeGap", "(II)V"⟩, 3) := ⟨⟨by decide +kernel, by decide +kernel⟩, lw_n9, lw_i7 (List.mem_of_getElem? (i := 23) rfl), lw_i7 (List.mem_of_getElem? (i := 24) rfl)⟩
set_option maxRecDepth 20000 in
theorem lw_p75 : lw_okq (⟨"MachineText$Printer", "put", "(I)V"⟩, 3) := ⟨⟨by decide +kernel, by decide +kernel⟩, lw_n9, lw_i7 (List.mem_of_getElem? (i := 28) rfl), lw_i7 (List.mem_of_getElem? (i := 29) rfl)⟩
set_option maxRecDepth 20000 in
theorem lw_p76 : lw_okq (⟨"MachineText$Printer", "isSpaced", "(I)Z"⟩, 3) := ⟨⟨by decide +kernel, by decide +kernel⟩, lw_n9, lw_i7 (List.mem_of_getElem? (i := 32) rfl), lw_i7 (List.mem_of_getElem? (i := 33) rfl)⟩
set_option maxRecDepth 20000 in
theorem lw_p77 : lw_okq (⟨"MachineText$Printer", "writeLexeme", "(I)V"⟩, 3) := ⟨⟨by decide +kernel, by decide +kernel⟩, lw_n9, lw_i7 (List.mem_of_getElem? (i := 42) rfl), lw_i7 (List.mem_of_getElem? (i := 43) rfl)⟩
set_option maxRecDepth 20000 in
theorem lw_p78 : lw_okq (⟨"MachineText$Printer", "writeDecimal", "(J)V"⟩, 3) := ⟨⟨by decide +kernel, by decide +kernel⟩, lw_n9, lw_i7 (List.mem_of_getElem? (i := 47) rfl), lw_i7 (List.mem_of_getElem? (i := 48) rfl)⟩
set_option maxRecDepth 20000 in
theorem lw_p79 : lw_okq (⟨"MachineTextModel", "fail", "(I)I"⟩, 75) := ⟨⟨by decide +kernel, by decide +kernel⟩, lw_n10, lw_i8 (List.mem_of_getElem? (i := 83) rfl), lw_i8 (List.mem_of_getElem? (i := 84) rfl)⟩
def lw_privs_5 : List (MethodName × Nat) := [(⟨"MachineText$Rings", "nearest", "(I)I"⟩, 14), (⟨"MachineText$Rings", "trace", "(I)V"⟩, 14), (⟨"MachineText$Checker", "hasRightParts", "(I)Z"⟩, 6), (⟨"MachineText$Checker", "widthOf", "(I)I"⟩, 6), (⟨"MachineText$Checker", "indexWidth", "(I)I"⟩, 6), (⟨"MachineText$Checker", "callWidth", "(I)I"⟩, 6), (⟨"MachineText$Checker", "joinedWidth", "(I)I"⟩, 6), (⟨"MachineText$Checker", "pairWidth", "(I)I"⟩, 6), (⟨"MachineText$Checker", "isTargetRight", "(I)Z"⟩, 6), (⟨"MachineText$Checker", "isWidthRight", "(I)Z"⟩, 6), (⟨"MachineText$Printer", "writeGap", "(II)V"⟩, 3), (⟨"MachineText$Printer", "put", "(I)V"⟩, 3), (⟨"MachineText$Printer", "isSpaced", "(I)Z"⟩, 3), (⟨"MachineText$Printer", "writeLexeme", "(I)V"⟩, 3), (⟨"MachineText$Printer", "writeDecimal", "(J)V"⟩, 3), (⟨"MachineTextModel", "fail", "(I)I"⟩, 75)]
theorem lw_r5 : ∀ q ∈ lw_privs_5, lw_okq q := List.forall_mem_cons.mpr ⟨lw_p64, List.forall_mem_cons.mpr ⟨lw_p65, List.forall_mem_cons.mpr ⟨lw_p66, List.forall_mem_cons.mpr ⟨lw_p67, List.forall_mem_cons.mpr ⟨lw_p68, List.forall_mem_cons.mpr ⟨lw_p69, List.forall_mem_cons.mpr ⟨lw_p70, List.forall_mem_cons.mpr ⟨lw_p71, List.forall_mem_cons.mpr ⟨lw_p72, List.forall_mem_cons.mpr ⟨lw_p73, List.forall_mem_cons.mpr ⟨lw_p74, List.forall_mem_cons.mpr ⟨lw_p75, List.forall_mem_cons.mpr ⟨lw_p76, List.forall_mem_cons.mpr ⟨lw_p77, List.forall_mem_cons.mpr ⟨lw_p78, List.forall_mem_cons.mpr ⟨lw_p79, fun _ h => absurd h List.not_mem_nil⟩⟩⟩⟩⟩⟩⟩⟩⟩⟩⟩⟩⟩⟩⟩⟩
set_option maxRecDepth 20000 in
theorem lw_p80 : lw_okq (⟨"MachineTextModel", "cut", "()V"⟩, 75) := ⟨⟨by decide +kernel, by decide +kernel⟩, lw_n10, lw_i8 (List.mem_of_getElem? (i := 99) rfl), lw_i8 (List.mem_of_getElem? (i := 100) rfl)⟩
set_option maxRecDepth 20000 in
theorem lw_p81 : lw_okq (⟨"MachineTextModel", "skip", "(I)I"⟩, 75) := ⟨⟨by decide +kernel, by decide +kernel⟩, lw_n10, lw_i8 (List.mem_of_getElem? (i := 103) rfl), lw_i8 (List.mem_of_getElem? (i := 104) rfl)⟩
set_option maxRecDepth 20000 in
theorem lw_p82 : lw_okq (⟨"MachineTextModel", "ch", "(I)I"⟩, 75) := ⟨⟨by decide +kernel, by decide +kernel⟩, lw_n10, lw_i8 (List.mem_of_getElem? (i := 107) rfl), lw_i8 (List.mem_of_getElem? (i := 108) rfl)⟩
set_option maxRecDepth 20000 in
theorem lw_p83 : lw_okq (⟨"MachineTextModel", "tell", "(II)V"⟩, 75) := ⟨⟨by decide +kernel, by decide +kernel⟩, lw_n10, lw_i8 (List.mem_of_getElem? (i := 123) rfl), lw_i8 (List.mem_of_getElem? (i := 124) rfl)⟩
set_option maxRecDepth 20000 in
theorem lw_p84 : lw_okq (⟨"MachineTextModel", "nameKind", "(II)I"⟩, 75) := ⟨⟨by decide +kernel, by decide +kernel⟩, lw_n10, lw_i8 (List.mem_of_getElem? (i := 127) rfl), lw_i8 (List.mem_of_getElem? (i := 128) rfl)⟩
set_option maxRecDepth 20000 in
theorem lw_p85 : lw_okq (⟨"MachineTextModel", "number", "(I)I"⟩, 75) := ⟨⟨by decide +kernel, by decide +kernel⟩, lw_n10, lw_i8 (List.mem_of_getElem? (i := 143) rfl), lw_i8 (List.mem_of_getElem? (i := 144) rfl)⟩
set_option maxRecDepth 20000 in
theorem lw_p86 : lw_okq (⟨"MachineTextModel", "sign", "(I)I"⟩, 75) := ⟨⟨by decide +kernel, by decide +kernel⟩, lw_n10, lw_i8 (List.mem_of_getElem? (i := 151) rfl), lw_i8 (List.mem_of_getElem? (i := 152) rfl)⟩
set_option maxRecDepth 20000 in
theorem lw_p87 : lw_okq (⟨"MachineTextModel", "readAll", "()V"⟩, 75) := ⟨⟨by decide +kernel, by decide +kernel⟩, lw_n10, lw_i8 (List.mem_of_getElem? (i := 155) rfl), lw_i8 (List.mem_of_getElem? (i := 156) rfl)⟩
set_option maxRecDepth 20000 in
theorem lw_p88 : lw_okq (⟨"MachineTextModel", "take", "(I)I"⟩, 75) := ⟨⟨by decide +kernel, by decide +kernel⟩, lw_n10, lw_i8 (List.mem_of_getElem? (i := 159) rfl), lw_i8 (List.mem_of_getElem? (i := 160) rfl)⟩
set_option maxRecDepth 20000 in
theorem lw_p89 : lw_okq (⟨"MachineTextModel", "is", "(I)Z"⟩, 75) := ⟨⟨by decide +kernel, by decide +kernel⟩, lw_n10, lw_i8 (List.mem_of_getElem? (i := 163) rfl), lw_i8 (List.mem_of_getElem? (i := 164) rfl)⟩
set_option maxRecDepth 20000 in
theorem lw_p90 : lw_okq (⟨"MachineTextModel", "statement", "()V"⟩, 75) := ⟨⟨by decide +kernel, by decide +kernel⟩, lw_n10, lw_i8 (List.mem_of_getElem? (i := 167) rfl), lw_i8 (List.mem_of_getElem? (i := 168) rfl)⟩
set_option maxRecDepth 20000 in
theorem lw_p91 : lw_okq (⟨"MachineTextModel", "eat", "(I)Z"⟩, 75) := ⟨⟨by decide +kernel, by decide +kernel⟩, lw_n10, lw_i8 (List.mem_of_getElem? (i := 171) rfl), lw_i8 (List.mem_of_getElem? (i := 172) rfl)⟩
set_option maxRecDepth 20000 in
theorem lw_p92 : lw_okq (⟨"MachineTextModel", "helper", "(I)V"⟩, 75) := ⟨⟨by decide +kernel, by decide +kernel⟩, lw_n10, lw_i8 (List.mem_of_getElem? (i := 175) rfl), lw_i8 (List.mem_of_getElem? (i := 176) rfl)⟩
set_option maxRecDepth 20000 in
theorem lw_p93 : lw_okq (⟨"MachineTextModel", "expression", "(II)I"⟩, 75) := ⟨⟨by decide +kernel, by decide +kernel⟩, lw_n10, lw_i8 (List.mem_of_getElem? (i := 179) rfl), lw_i8 (List.mem_of_getElem? (i := 180) rfl)⟩
set_option maxRecDepth 20000 in
theorem lw_p94 : lw_okq (⟨"MachineTextModel", "primary", "()Z"⟩, 75) := ⟨⟨by decide +kernel, by decide +kernel⟩, lw_n10, lw_i8 (List.mem_of_getElem? (i := 183) rfl), lw_i8 (List.mem_of_getElem? (i := 184) rfl)⟩
set_option maxRecDepth 20000 in
theorem lw_p95 : lw_okq (⟨"MachineTextModel", "open", "(II)V"⟩, 75) := ⟨⟨by decide +kernel, by decide +kernel⟩, lw_n10, lw_i8 (List.mem_of_getElem? (i := 187) rfl), lw_i8 (List.mem_of_getElem? (i := 188) rfl)⟩
def lw_privs_6 : List (MethodName × Nat) := [(⟨"MachineTextModel", "cut", "()V"⟩, 75), (⟨"MachineTextModel", "skip", "(I)I"⟩, 75), (⟨"MachineTextModel", "ch", "(I)I"⟩, 75), (⟨"MachineTextModel", "tell", "(II)V"⟩, 75), (⟨"MachineTextModel", "nameKind", "(II)I"⟩, 75), (⟨"MachineTextModel", "number", "(I)I"⟩, 75), (⟨"MachineTextModel", "sign", "(I)I"⟩, 75), (⟨"MachineTextModel", "readAll", "()V"⟩, 75), (⟨"MachineTextModel", "take", "(I)I"⟩, 75), (⟨"MachineTextModel", "is", "(I)Z"⟩, 75), (⟨"MachineTextModel", "statement", "()V"⟩, 75), (⟨"MachineTextModel", "eat", "(I)Z"⟩, 75), (⟨"MachineTextModel", "helper", "(I)V"⟩, 75), (⟨"MachineTextModel", "expression", "(II)I"⟩, 75), (⟨"MachineTextModel", "primary", "()Z"⟩, 75), (⟨"MachineTextModel", "open", "(II)V"⟩, 75)]
theorem lw_r6 : ∀ q ∈ lw_privs_6, lw_okq q := List.forall_mem_cons.mpr ⟨lw_p80, List.forall_mem_cons.mpr ⟨lw_p81, List.forall_mem_cons.mpr ⟨lw_p82, List.forall_mem_cons.mpr ⟨lw_p83, List.forall_mem_cons.mpr ⟨lw_p84, List.forall_mem_cons.mpr ⟨lw_p85, List.forall_mem_cons.mpr ⟨lw_p86, List.forall_mem_cons.mpr ⟨lw_p87, List.forall_mem_cons.mpr ⟨lw_p88, List.forall_mem_cons.mpr ⟨lw_p89, List.forall_mem_cons.mpr ⟨lw_p90, List.forall_mem_cons.mpr ⟨lw_p91, List.forall_mem_cons.mpr ⟨lw_p92, List.forall_mem_cons.mpr ⟨lw_p93, List.forall_mem_cons.mpr ⟨lw_p94, List.forall_mem_cons.mpr ⟨lw_p95, fun _ h => absurd h List.not_mem_nil⟩⟩⟩⟩⟩⟩⟩⟩⟩⟩⟩⟩⟩⟩⟩⟩
set_option maxRecDepth 20000 in
theorem lw_p96 : lw_okq (⟨"MachineTextModel", "node", "(IIII)I"⟩, 75) := ⟨⟨by decide +kernel, by decide +kernel⟩, lw_n10, lw_i8 (List.mem_of_getElem? (i := 191) rfl), lw_i8 (List.mem_of_getElem? (i := 192) rfl)⟩
set_option maxRecDepth 20000 in
theorem lw_p97 : lw_okq (⟨"MachineTextModel", "operand", "(III)V"⟩, 75) := ⟨⟨by decide +kernel, by decide +kernel⟩, lw_n10, lw_i8 (List.mem_of_getElem? (i := 195) rfl), lw_i8 (List.mem_of_getElem? (i := 196) rfl)⟩
set_option maxRecDepth 20000 in
theorem lw_p98 : lw_okq (⟨"MachineTextModel", "behind", "()I"⟩, 75) := ⟨⟨by decide +kernel, by decide +kernel⟩, lw_n10, lw_i8 (List.mem_of_getElem? (i := 199) rfl), lw_i8 (List.mem_of_getElem? (i := 200) rfl)⟩
set_option maxRecDepth 20000 in
theorem lw_p99 : lw_okq (⟨"MachineTextModel", "use", "(II)V"⟩, 75) := ⟨⟨by decide +kernel, by decide +kernel⟩, lw_n10, lw_i8 (List.mem_of_getElem? (i := 203) rfl), lw_i8 (List.mem_of_getElem? (i := 204) rfl)⟩
set_option maxRecDepth 20000 in
theorem lw_p100 : lw_okq (⟨"MachineTextModel", "make", "(IIIII)V"⟩, 75) := ⟨⟨by decide +kernel, by decide +kernel⟩, lw_n10, lw_i8 (List.mem_of_getElem? (i := 210) rfl), lw_i8 (List.mem_of_getElem? (i := 211) rfl)⟩
set_option maxRecDepth 20000 in
theorem lw_p101 : lw_okq (⟨"MachineTextModel", "binary", "(I)I"⟩, 75) := ⟨⟨by decide +kernel, by decide +kernel⟩, lw_n10, lw_i8 (List.mem_of_getElem? (i := 214) rfl), lw_i8 (List.mem_of_getElem? (i := 215) rfl)⟩
set_option maxRecDepth 20000 in
theorem lw_p102 : lw_okq (⟨"MachineTextModel", "reduce", "(I)V"⟩, 75) := ⟨⟨by decide +kernel, by decide +kernel⟩, lw_n10, lw_i8 (List.mem_of_getElem? (i := 218) rfl), lw_i8 (List.mem_of_getElem? (i := 219) rfl)⟩
set_option maxRecDepth 20000 in
theorem lw_p103 : lw_okq (⟨"MachineTextModel", "close", "()I"⟩, 75) := ⟨⟨by decide +kernel, by decide +kernel⟩, lw_n10, lw_i8 (List.mem_of_getElem? (i := 222) rfl), lw_i8 (List.mem_of_getElem? (i := 223) rfl)⟩
set_option maxRecDepth 20000 in
theorem lw_p104 : lw_okq (⟨"MachineTextModel", "list", "(II)I"⟩, 75) := ⟨⟨by decide +kernel, by decide +kernel⟩, lw_n10, lw_i8 (List.mem_of_getElem? (i := 226) rfl), lw_i8 (List.mem_of_getElem? (i := 227) rfl)⟩
set_option maxRecDepth 20000 in
theorem lw_p105 : lw_okq (⟨"MachineTextModel", "body", "(I)V"⟩, 75) := ⟨⟨by decide +kernel, by decide +kernel⟩, lw_n10, lw_i8 (List.mem_of_getElem? (i := 230) rfl), lw_i8 (List.mem_of_getElem? (i := 231) rfl)⟩
set_option maxRecDepth 20000 in
theorem lw_p106 : lw_okq (⟨"MachineTextModel", "openBody", "(Z)V"⟩, 75) := ⟨⟨by decide +kernel, by decide +kernel⟩, lw_n10, lw_i8 (List.mem_of_getElem? (i := 234) rfl), lw_i8 (List.mem_of_getElem? (i := 235) rfl)⟩
set_option maxRecDepth 20000 in
theorem lw_p107 : lw_okq (⟨"MachineTextModel", "action", "(I)V"⟩, 75) := ⟨⟨by decide +kernel, by decide +kernel⟩, lw_n10, lw_i8 (List.mem_of_getElem? (i := 238) rfl), lw_i8 (List.mem_of_getElem? (i := 239) rfl)⟩
set_option maxRecDepth 20000 in
theorem lw_p108 : lw_okq (⟨"MachineTextModel", "checkNumbers", "()V"⟩, 75) := ⟨⟨by decide +kernel, by decide +kernel⟩, lw_n10, lw_i9 (List.mem_of_getElem? (i := 2) rfl), lw_i9 (List.mem_of_getElem? (i := 3) rfl)⟩
set_option maxRecDepth 20000 in
theorem lw_p109 : lw_okq (⟨"MachineTextModel", "bounds", "(IJJ)Z"⟩, 75) := ⟨⟨by decide +kernel, by decide +kernel⟩, lw_n10, lw_i9 (List.mem_of_getElem? (i := 7) rfl), lw_i9 (List.mem_of_getElem? (i := 8) rfl)⟩
set_option maxRecDepth 20000 in
theorem lw_p110 : lw_okq (⟨"MachineTextModel", "value", "(I)J"⟩, 75) := ⟨⟨by decide +kernel, by decide +kernel⟩, lw_n10, lw_i9 (List.mem_of_getElem? (i := 11) rfl), lw_i9 (List.mem_of_getElem? (i := 12) rfl)⟩
set_option maxRecDepth 20000 in
theorem lw_p111 : lw_okq (⟨"MachineTextModel", "isHexNumber", "(I)Z"⟩, 75) := ⟨⟨by decide +kernel, by decide +kernel⟩, lw_n10, lw_i9 (List.mem_of_getElem? (i := 15) rfl), lw_i9 (List.mem_of_getElem? (i := 16) rfl)⟩
def lw_privs_7 : List (MethodName × Nat) := [(⟨"MachineTextModel", "node", "(IIII)I"⟩, 75), (⟨"MachineTextModel", "operand", "(III)V"⟩, 75), (⟨"MachineTextModel", "behind", "()I"⟩, 75), (⟨"MachineTextModel", "use", "(II)V"⟩, 75), (⟨"MachineTextModel", "make", "(IIIII)V"⟩, 75), (⟨"MachineTextModel", "binary", "(I)I"⟩, 75), (⟨"MachineTextModel", "reduce", "(I)V"⟩, 75), (⟨"MachineTextModel", "close", "()I"⟩, 75), (⟨"MachineTextModel", "list", "(II)I"⟩, 75), (⟨"MachineTextModel", "body", "(I)V"⟩, 75), (⟨"MachineTextModel", "openBody", "(Z)V"⟩, 75), (⟨"MachineTextModel", "action", "(I)V"⟩, 75), (⟨"MachineTextModel", "checkNumbers", "()V"⟩, 75), (⟨"MachineTextModel", "bounds", "(IJJ)Z"⟩, 75), (⟨"MachineTextModel", "value", "(I)J"⟩, 75), (⟨"MachineTextModel", "isHexNumber", "(I)Z"⟩, 75)]
theorem lw_r7 : ∀ q ∈ lw_privs_7, lw_okq q := List.forall_mem_cons.mpr ⟨lw_p96, List.forall_mem_cons.mpr ⟨lw_p97, List.forall_mem_cons.mpr ⟨lw_p98, List.forall_mem_cons.mpr ⟨lw_p99, List.forall_mem_cons.mpr ⟨lw_p100, List.forall_mem_cons.mpr ⟨lw_p101, List.forall_mem_cons.mpr ⟨lw_p102, List.forall_mem_cons.mpr ⟨lw_p103, List.forall_mem_cons.mpr ⟨lw_p104, List.forall_mem_cons.mpr ⟨lw_p105, List.forall_mem_cons.mpr ⟨lw_p106, List.forall_mem_cons.mpr ⟨lw_p107, List.forall_mem_cons.mpr ⟨lw_p108, List.forall_mem_cons.mpr ⟨lw_p109, List.forall_mem_cons.mpr ⟨lw_p110, List.forall_mem_cons.mpr ⟨lw_p111, fun _ h => absurd h List.not_mem_nil⟩⟩⟩⟩⟩⟩⟩⟩⟩⟩⟩⟩⟩⟩⟩⟩
set_option maxRecDepth 20000 in
theorem lw_p112 : lw_okq (⟨"MachineTextModel", "first", "(I)V"⟩, 75) := ⟨⟨by decide +kernel, by decide +kernel⟩, lw_n10, lw_i9 (List.mem_of_getElem? (i := 21) rfl), lw_i9 (List.mem_of_getElem? (i := 22) rfl)⟩
set_option maxRecDepth 20000 in
theorem lw_p113 : lw_okq (⟨"MachineTextModel", "isBits", "(I)Z"⟩, 75) := ⟨⟨by decide +kernel, by decide +kernel⟩, lw_n10, lw_i9 (List.mem_of_getElem? (i := 28) rfl), lw_i9 (List.mem_of_getElem? (i := 29) rfl)⟩
set_option maxRecDepth 20000 in
theorem lw_p114 : lw_okq (⟨"MachineTextModel", "told", "(I)V"⟩, 75) := ⟨⟨by decide +kernel, by decide +kernel⟩, lw_n10, lw_i9 (List.mem_of_getElem? (i := 34) rfl), lw_i9 (List.mem_of_getElem? (i := 35) rfl)⟩
set_option maxRecDepth 20000 in
theorem lw_p115 : lw_okq (⟨"MachineTextModel", "checkTwice", "()V"⟩, 75) := ⟨⟨by decide +kernel, by decide +kernel⟩, lw_n10, lw_i9 (List.mem_of_getElem? (i := 38) rfl), lw_i9 (List.mem_of_getElem? (i := 39) rfl)⟩
set_option maxRecDepth 20000 in
theorem lw_p116 : lw_okq (⟨"MachineTextModel", "statementOf", "(I)I"⟩, 75) := ⟨⟨by decide +kernel, by decide +kernel⟩, lw_n10, lw_i9 (List.mem_of_getElem? (i := 42) rfl), lw_i9 (List.mem_of_getElem? (i := 43) rfl)⟩
set_option maxRecDepth 20000 in
theorem lw_p117 : lw_okq (⟨"MachineTextModel", "sameName", "(II)Z"⟩, 75) := ⟨⟨by decide +kernel, by decide +kernel⟩, lw_n10, lw_i9 (List.mem_of_getElem? (i := 46) rfl), lw_i9 (List.mem_of_getElem? (i := 47) rfl)⟩
set_option maxRecDepth 20000 in
theorem lw_p118 : lw_okq (⟨"MachineTextModel", "isOwn", "(III)Z"⟩, 75) := ⟨⟨by decide +kernel, by decide +kernel⟩, lw_n10, lw_i9 (List.mem_of_getElem? (i := 50) rfl), lw_i9 (List.mem_of_getElem? (i := 51) rfl)⟩
set_option maxRecDepth 20000 in
theorem lw_p119 : lw_okq (⟨"MachineTextModel", "checkUnknown", "()V"⟩, 75) := ⟨⟨by decide +kernel, by decide +kernel⟩, lw_n10, lw_i9 (List.mem_of_getElem? (i := 54) rfl), lw_i9 (List.mem_of_getElem? (i := 55) rfl)⟩
set_option maxRecDepth 20000 in
theorem lw_p120 : lw_okq (⟨"MachineTextModel", "isNamed", "(I)Z"⟩, 75) := ⟨⟨by decide +kernel, by decide +kernel⟩, lw_n10, lw_i9 (List.mem_of_getElem? (i := 58) rfl), lw_i9 (List.mem_of_getElem? (i := 59) rfl)⟩
set_option maxRecDepth 20000 in
theorem lw_p121 : lw_okq (⟨"MachineTextModel", "checkMeaning", "()V"⟩, 75) := ⟨⟨by decide +kernel, by decide +kernel⟩, lw_n10, lw_i9 (List.mem_of_getElem? (i := 62) rfl), lw_i9 (List.mem_of_getElem? (i := 63) rfl)⟩
set_option maxRecDepth 20000 in
theorem lw_p122 : lw_okq (⟨"MachineTextModel", "isPlainReg", "(I)Z"⟩, 75) := ⟨⟨by decide +kernel, by decide +kernel⟩, lw_n10, lw_i9 (List.mem_of_getElem? (i := 66) rfl), lw_i9 (List.mem_of_getElem? (i := 67) rfl)⟩
set_option maxRecDepth 20000 in
theorem lw_p123 : lw_okq (⟨"MachineTextModel", "isRow", "(I)Z"⟩, 75) := ⟨⟨by decide +kernel, by decide +kernel⟩, lw_n10, lw_i9 (List.mem_of_getElem? (i := 70) rfl), lw_i9 (List.mem_of_getElem? (i := 71) rfl)⟩
set_option maxRecDepth 20000 in
theorem lw_p124 : lw_okq (⟨"MachineTextModel", "checkRings", "()V"⟩, 75) := ⟨⟨by decide +kernel, by decide +kernel⟩, lw_n10, lw_i9 (List.mem_of_getElem? (i := 74) rfl), lw_i9 (List.mem_of_getElem? (i := 75) rfl)⟩
set_option maxRecDepth 20000 in
theorem lw_p125 : lw_okq (⟨"MachineTextModel", "findFar", "(I)V"⟩, 75) := ⟨⟨by decide +kernel, by decide +kernel⟩, lw_n10, lw_i9 (List.mem_of_getElem? (i := 78) rfl), lw_i9 (List.mem_of_getElem? (i := 79) rfl)⟩
set_option maxRecDepth 20000 in
theorem lw_p126 : lw_okq (⟨"MachineTextModel", "nearest", "(I)I"⟩, 75) := ⟨⟨by decide +kernel, by decide +kernel⟩, lw_n10, lw_i9 (List.mem_of_getElem? (i := 82) rfl), lw_i9 (List.mem_of_getElem? (i := 83) rfl)⟩
set_option maxRecDepth 20000 in
theorem lw_p127 : lw_okq (⟨"MachineTextModel", "checkWidths", "()V"⟩, 75) := ⟨⟨by decide +kernel, by decide +kernel⟩, lw_n10, lw_i9 (List.mem_of_getElem? (i := 86) rfl), lw_i9 (List.mem_of_getElem? (i := 87) rfl)⟩
def lw_privs_8 : List (MethodName × Nat) := [(⟨"MachineTextModel", "first", "(I)V"⟩, 75), (⟨"MachineTextModel", "isBits", "(I)Z"⟩, 75), (⟨"MachineTextModel", "told", "(I)V"⟩, 75), (⟨"MachineTextModel", "checkTwice", "()V"⟩, 75), (⟨"MachineTextModel", "statementOf", "(I)I"⟩, 75), (⟨"MachineTextModel", "sameName", "(II)Z"⟩, 75), (⟨"MachineTextModel", "isOwn", "(III)Z"⟩, 75), (⟨"MachineTextModel", "checkUnknown", "()V"⟩, 75), (⟨"MachineTextModel", "isNamed", "(I)Z"⟩, 75), (⟨"MachineTextModel", "checkMeaning", "()V"⟩, 75), (⟨"MachineTextModel", "isPlainReg", "(I)Z"⟩, 75), (⟨"MachineTextModel", "isRow", "(I)Z"⟩, 75), (⟨"MachineTextModel", "checkRings", "()V"⟩, 75), (⟨"MachineTextModel", "findFar", "(I)V"⟩, 75), (⟨"MachineTextModel", "nearest", "(I)I"⟩, 75), (⟨"MachineTextModel", "checkWidths", "()V"⟩, 75)]
theorem lw_r8 : ∀ q ∈ lw_privs_8, lw_okq q := List.forall_mem_cons.mpr ⟨lw_p112, List.forall_mem_cons.mpr ⟨lw_p113, List.forall_mem_cons.mpr ⟨lw_p114, List.forall_mem_cons.mpr ⟨lw_p115, List.forall_mem_cons.mpr ⟨lw_p116, List.forall_mem_cons.mpr ⟨lw_p117, List.forall_mem_cons.mpr ⟨lw_p118, List.forall_mem_cons.mpr ⟨lw_p119, List.forall_mem_cons.mpr ⟨lw_p120, List.forall_mem_cons.mpr ⟨lw_p121, List.forall_mem_cons.mpr ⟨lw_p122, List.forall_mem_cons.mpr ⟨lw_p123, List.forall_mem_cons.mpr ⟨lw_p124, List.forall_mem_cons.mpr ⟨lw_p125, List.forall_mem_cons.mpr ⟨lw_p126, List.forall_mem_cons.mpr ⟨lw_p127, fun _ h => absurd h List.not_mem_nil⟩⟩⟩⟩⟩⟩⟩⟩⟩⟩⟩⟩⟩⟩⟩⟩
set_option maxRecDepth 20000 in
theorem lw_p128 : lw_okq (⟨"MachineTextModel", "kidWidth", "(II)I"⟩, 75) := ⟨⟨by decide +kernel, by decide +kernel⟩, lw_n10, lw_i9 (List.mem_of_getElem? (i := 90) rfl), lw_i9 (List.mem_of_getElem? (i := 91) rfl)⟩
set_option maxRecDepth 20000 in
theorem lw_p129 : lw_okq (⟨"MachineTextModel", "work", "(I)I"⟩, 75) := ⟨⟨by decide +kernel, by decide +kernel⟩, lw_n10, lw_i9 (List.mem_of_getElem? (i := 94) rfl), lw_i9 (List.mem_of_getElem? (i := 95) rfl)⟩
set_option maxRecDepth 20000 in
theorem lw_p130 : lw_okq (⟨"MachineTextModel", "widthOf", "(III)I"⟩, 75) := ⟨⟨by decide +kernel, by decide +kernel⟩, lw_n10, lw_i9 (List.mem_of_getElem? (i := 98) rfl), lw_i9 (List.mem_of_getElem? (i := 99) rfl)⟩
set_option maxRecDepth 20000 in
theorem lw_p131 : lw_okq (⟨"MachineTextModel", "indexWidth", "(I)I"⟩, 75) := ⟨⟨by decide +kernel, by decide +kernel⟩, lw_n10, lw_i9 (List.mem_of_getElem? (i := 102) rfl), lw_i9 (List.mem_of_getElem? (i := 103) rfl)⟩
set_option maxRecDepth 20000 in
theorem lw_p132 : lw_okq (⟨"MachineTextModel", "checkSet", "(I)V"⟩, 75) := ⟨⟨by decide +kernel, by decide +kernel⟩, lw_n10, lw_i9 (List.mem_of_getElem? (i := 106) rfl), lw_i9 (List.mem_of_getElem? (i := 107) rfl)⟩
set_option maxRecDepth 20000 in
theorem lw_p133 : lw_okq (⟨"MachineTextModel", "checkBits", "()V"⟩, 75) := ⟨⟨by decide +kernel, by decide +kernel⟩, lw_n10, lw_i9 (List.mem_of_getElem? (i := 110) rfl), lw_i9 (List.mem_of_getElem? (i := 111) rfl)⟩
set_option maxRecDepth 20000 in
theorem lw_p134 : lw_okq (⟨"MachineTextModel", "bitsOf", "(I)I"⟩, 75) := ⟨⟨by decide +kernel, by decide +kernel⟩, lw_n10, lw_i9 (List.mem_of_getElem? (i := 114) rfl), lw_i9 (List.mem_of_getElem? (i := 115) rfl)⟩
set_option maxRecDepth 20000 in
theorem lw_p135 : lw_okq (⟨"MachineTextModel", "isStatement", "(I)Z"⟩, 75) := ⟨⟨by decide +kernel, by decide +kernel⟩, lw_n10, lw_i9 (List.mem_of_getElem? (i := 126) rfl), lw_i9 (List.mem_of_getElem? (i := 127) rfl)⟩
set_option maxRecDepth 20000 in
theorem lw_p136 : lw_okq (⟨"MachineTextModel", "isBlank", "(II)Z"⟩, 75) := ⟨⟨by decide +kernel, by decide +kernel⟩, lw_n10, lw_i9 (List.mem_of_getElem? (i := 149) rfl), lw_i9 (List.mem_of_getElem? (i := 150) rfl)⟩
set_option maxRecDepth 20000 in
theorem lw_p137 : lw_okq (⟨"MachineTextModel", "say", "(I)V"⟩, 75) := ⟨⟨by decide +kernel, by decide +kernel⟩, lw_n10, lw_i9 (List.mem_of_getElem? (i := 156) rfl), lw_i9 (List.mem_of_getElem? (i := 157) rfl)⟩
set_option maxRecDepth 20000 in
theorem lw_p138 : lw_okq (⟨"MachineTextModel", "sayLexeme", "(I)V"⟩, 75) := ⟨⟨by decide +kernel, by decide +kernel⟩, lw_n10, lw_i9 (List.mem_of_getElem? (i := 160) rfl), lw_i9 (List.mem_of_getElem? (i := 161) rfl)⟩
def lw_privs_9 : List (MethodName × Nat) := [(⟨"MachineTextModel", "kidWidth", "(II)I"⟩, 75), (⟨"MachineTextModel", "work", "(I)I"⟩, 75), (⟨"MachineTextModel", "widthOf", "(III)I"⟩, 75), (⟨"MachineTextModel", "indexWidth", "(I)I"⟩, 75), (⟨"MachineTextModel", "checkSet", "(I)V"⟩, 75), (⟨"MachineTextModel", "checkBits", "()V"⟩, 75), (⟨"MachineTextModel", "bitsOf", "(I)I"⟩, 75), (⟨"MachineTextModel", "isStatement", "(I)Z"⟩, 75), (⟨"MachineTextModel", "isBlank", "(II)Z"⟩, 75), (⟨"MachineTextModel", "say", "(I)V"⟩, 75), (⟨"MachineTextModel", "sayLexeme", "(I)V"⟩, 75)]
theorem lw_r9 : ∀ q ∈ lw_privs_9, lw_okq q := List.forall_mem_cons.mpr ⟨lw_p128, List.forall_mem_cons.mpr ⟨lw_p129, List.forall_mem_cons.mpr ⟨lw_p130, List.forall_mem_cons.mpr ⟨lw_p131, List.forall_mem_cons.mpr ⟨lw_p132, List.forall_mem_cons.mpr ⟨lw_p133, List.forall_mem_cons.mpr ⟨lw_p134, List.forall_mem_cons.mpr ⟨lw_p135, List.forall_mem_cons.mpr ⟨lw_p136, List.forall_mem_cons.mpr ⟨lw_p137, List.forall_mem_cons.mpr ⟨lw_p138, fun _ h => absurd h List.not_mem_nil⟩⟩⟩⟩⟩⟩⟩⟩⟩⟩⟩
def lw_privs : List (MethodName × Nat) := lw_privs_1 ++ (lw_privs_2 ++ (lw_privs_3 ++ (lw_privs_4 ++ (lw_privs_5 ++ (lw_privs_6 ++ (lw_privs_7 ++ (lw_privs_8 ++ (lw_privs_9))))))))
def lw_tbl : List Cond := k2_sels lw_privs ++ tables_1
theorem lw_privs_ok : ∀ q ∈ lw_privs, lw_okq q := by
  show ∀ q ∈ lw_privs_1 ++ (lw_privs_2 ++ (lw_privs_3 ++ (lw_privs_4 ++ (lw_privs_5 ++ (lw_privs_6 ++ (lw_privs_7 ++ (lw_privs_8 ++ (lw_privs_9)))))))), lw_okq q
  exact List.forall_mem_append.mpr ⟨lw_r1, List.forall_mem_append.mpr ⟨lw_r2, List.forall_mem_append.mpr ⟨lw_r3, List.forall_mem_append.mpr ⟨lw_r4, List.forall_mem_append.mpr ⟨lw_r5, List.forall_mem_append.mpr ⟨lw_r6, List.forall_mem_append.mpr ⟨lw_r7, List.forall_mem_append.mpr ⟨lw_r8, lw_r9⟩⟩⟩⟩⟩⟩⟩⟩
