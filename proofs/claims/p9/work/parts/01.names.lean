-- ===== PART A: goes FIRST, ahead of the names: the tables' words, and 'selects' of the private methods out of them =====
/-- a private method of a class that the tables say can be made, by its rows of tables_1 -/
def lw_okq (q : MethodName × Nat) : Prop := (q.1.cls ≠ "java/lang/invoke/MethodHandle" ∧ q.1.cls ≠ "java/lang/invoke/VarHandle") ∧ Cond.instantiable q.1.cls q.2 ∈ tables_1 ∧ Cond.privateMethod q.1 ∈ tables_1 ∧ Cond.instanceMethod q.1 ∈ tables_1
theorem lw_i1 {w : Cond} (h : w ∈ tables_1_1) : w ∈ tables_1 := List.mem_append_left _ h
theorem lw_i2 {w : Cond} (h : w ∈ tables_1_2) : w ∈ tables_1 := List.mem_append_right _ (List.mem_append_left _ h)
theorem lw_i3 {w : Cond} (h : w ∈ tables_1_3) : w ∈ tables_1 := List.mem_append_right _ (List.mem_append_right _ (List.mem_append_left _ h))
theorem lw_i4 {w : Cond} (h : w ∈ tables_1_4) : w ∈ tables_1 := List.mem_append_right _ (List.mem_append_right _ (List.mem_append_right _ (List.mem_append_left _ h)))
theorem lw_i5 {w : Cond} (h : w ∈ tables_1_5) : w ∈ tables_1 := List.mem_append_right _ (List.mem_append_right _ (List.mem_append_right _ (List.mem_append_right _ (List.mem_append_left _ h))))
theorem lw_i6 {w : Cond} (h : w ∈ tables_1_6) : w ∈ tables_1 := List.mem_append_right _ (List.mem_append_right _ (List.mem_append_right _ (List.mem_append_right _ (List.mem_append_right _ (List.mem_append_left _ h)))))
theorem lw_i7 {w : Cond} (h : w ∈ tables_1_7) : w ∈ tables_1 := List.mem_append_right _ (List.mem_append_right _ (List.mem_append_right _ (List.mem_append_right _ (List.mem_append_right _ (List.mem_append_right _ (List.mem_append_left _ h))))))
theorem lw_i8 {w : Cond} (h : w ∈ tables_1_8) : w ∈ tables_1 := List.mem_append_right _ (List.mem_append_right _ (List.mem_append_right _ (List.mem_append_right _ (List.mem_append_right _ (List.mem_append_right _ (List.mem_append_right _ (List.mem_append_left _ h)))))))
theorem lw_i9 {w : Cond} (h : w ∈ tables_1_9) : w ∈ tables_1 := List.mem_append_right _ (List.mem_append_right _ (List.mem_append_right _ (List.mem_append_right _ (List.mem_append_right _ (List.mem_append_right _ (List.mem_append_right _ (List.mem_append_right _ (h))))))))
set_option maxRecDepth 20000 in
theorem lw_n0 : Cond.instantiable "java/lang/Throwable" 6 ∈ tables_1 := lw_i3 (List.mem_of_getElem? (i := 27) rfl)
set_option maxRecDepth 20000 in
theorem lw_n1 : Cond.instantiable "MachineText" 14 ∈ tables_1 := lw_i1 (List.mem_of_getElem? (i := 30) rfl)
set_option maxRecDepth 20000 in
theorem lw_n2 : Cond.instantiable "MachineText$Names" 11 ∈ tables_1 := lw_i1 (List.mem_of_getElem? (i := 53) rfl)
set_option maxRecDepth 20000 in
theorem lw_n3 : Cond.instantiable "MachineText$Lexemes" 12 ∈ tables_1 := lw_i1 (List.mem_of_getElem? (i := 95) rfl)
set_option maxRecDepth 20000 in
theorem lw_n4 : Cond.instantiable "MachineText$Reader" 10 ∈ tables_1 := lw_i2 (List.mem_of_getElem? (i := 46) rfl)
set_option maxRecDepth 20000 in
theorem lw_n5 : Cond.instantiable "MachineText$Expressions" 13 ∈ tables_1 := lw_i1 (List.mem_of_getElem? (i := 239) rfl)
set_option maxRecDepth 20000 in
theorem lw_n6 : Cond.instantiable "MachineText$Claims" 5 ∈ tables_1 := lw_i1 (List.mem_of_getElem? (i := 216) rfl)
set_option maxRecDepth 20000 in
theorem lw_n7 : Cond.instantiable "MachineText$Checker" 6 ∈ tables_1 := lw_i2 (List.mem_of_getElem? (i := 83) rfl)
set_option maxRecDepth 20000 in
theorem lw_n8 : Cond.instantiable "MachineText$Rings" 14 ∈ tables_1 := lw_i2 (List.mem_of_getElem? (i := 108) rfl)
set_option maxRecDepth 20000 in
theorem lw_n9 : Cond.instantiable "MachineText$Printer" 3 ∈ tables_1 := lw_i2 (List.mem_of_getElem? (i := 157) rfl)
set_option maxRecDepth 20000 in
theorem lw_n10 : Cond.instantiable "MachineTextModel" 75 ∈ tables_1 := lw_i7 (List.mem_of_getElem? (i := 86) rfl)
set_option maxRecDepth 20000 in
theorem lw_p0 : lw_okq (⟨"java/lang/Throwable", "fillInStackTrace", "(I)Ljava/lang/Throwable;"⟩, 6) := ⟨⟨by decide +kernel, by decide +kernel⟩, lw_n0, lw_i3 (List.mem_of_getElem? (i := 25) rfl), lw_i3 (List.mem_of_getElem? (i := 26) rfl)⟩
set_option maxRecDepth 20000 in
theorem lw_p1 : lw_okq (⟨"MachineText", "putFour", "(I)V"⟩, 14) := ⟨⟨by decide +kernel, by decide +kernel⟩, lw_n1, lw_i3 (List.mem_of_getElem? (i := 56) rfl), lw_i3 (List.mem_of_getElem? (i := 57) rfl)⟩
set_option maxRecDepth 20000 in
theorem lw_p2 : lw_okq (⟨"MachineText", "forget", "()V"⟩, 14) := ⟨⟨by decide +kernel, by decide +kernel⟩, lw_n1, lw_i3 (List.mem_of_getElem? (i := 92) rfl), lw_i3 (List.mem_of_getElem? (i := 93) rfl)⟩
set_option maxRecDepth 20000 in
theorem lw_p3 : lw_okq (⟨"MachineText$Names", "addWords", "()V"⟩, 11) := ⟨⟨by decide +kernel, by decide +kernel⟩, lw_n2, lw_i3 (List.mem_of_getElem? (i := 111) rfl), lw_i3 (List.mem_of_getElem? (i := 112) rfl)⟩
set_option maxRecDepth 20000 in
theorem lw_p4 : lw_okq (⟨"MachineText$Names", "idOf", "(JJ)I"⟩, 11) := ⟨⟨by decide +kernel, by decide +kernel⟩, lw_n2, lw_i3 (List.mem_of_getElem? (i := 168) rfl), lw_i3 (List.mem_of_getElem? (i := 169) rfl)⟩
set_option maxRecDepth 20000 in
theorem lw_p5 : lw_okq (⟨"MachineText$Names", "added", "(JJI)I"⟩, 11) := ⟨⟨by decide +kernel, by decide +kernel⟩, lw_n2, lw_i3 (List.mem_of_getElem? (i := 174) rfl), lw_i3 (List.mem_of_getElem? (i := 175) rfl)⟩
set_option maxRecDepth 20000 in
theorem lw_p6 : lw_okq (⟨"MachineText$Lexemes", "behindWhite", "(I)I"⟩, 12) := ⟨⟨by decide +kernel, by decide +kernel⟩, lw_n3, lw_i3 (List.mem_of_getElem? (i := 221) rfl), lw_i3 (List.mem_of_getElem? (i := 222) rfl)⟩
set_option maxRecDepth 20000 in
theorem lw_p7 : lw_okq (⟨"MachineText$Lexemes", "cutOne", "(I)I"⟩, 12) := ⟨⟨by decide +kernel, by decide +kernel⟩, lw_n3, lw_i3 (List.mem_of_getElem? (i := 229) rfl), lw_i3 (List.mem_of_getElem? (i := 230) rfl)⟩
set_option maxRecDepth 20000 in
theorem lw_p8 : lw_okq (⟨"MachineText$Lexemes", "cutName", "(I)I"⟩, 12) := ⟨⟨by decide +kernel, by decide +kernel⟩, lw_n3, lw_i3 (List.mem_of_getElem? (i := 236) rfl), lw_i3 (List.mem_of_getElem? (i := 237) rfl)⟩
set_option maxRecDepth 20000 in
theorem lw_p9 : lw_okq (⟨"MachineText$Lexemes", "add", "(IIIJ)V"⟩, 12) := ⟨⟨by decide +kernel, by decide +kernel⟩, lw_n3, lw_i4 (List.mem_of_getElem? (i := 5) rfl), lw_i4 (List.mem_of_getElem? (i := 6) rfl)⟩
set_option maxRecDepth 20000 in
theorem lw_p10 : lw_okq (⟨"MachineText$Lexemes", "cutSign", "(I)I"⟩, 12) := ⟨⟨by decide +kernel, by decide +kernel⟩, lw_n3, lw_i4 (List.mem_of_getElem? (i := 9) rfl), lw_i4 (List.mem_of_getElem? (i := 10) rfl)⟩
set_option maxRecDepth 20000 in
theorem lw_p11 : lw_okq (⟨"MachineText$Lexemes", "cutHex", "(I)I"⟩, 12) := ⟨⟨by decide +kernel, by decide +kernel⟩, lw_n3, lw_i4 (List.mem_of_getElem? (i := 75) rfl), lw_i4 (List.mem_of_getElem? (i := 76) rfl)⟩
set_option maxRecDepth 20000 in
theorem lw_p12 : lw_okq (⟨"MachineText$Lexemes", "cutDecimal", "(I)I"⟩, 12) := ⟨⟨by decide +kernel, by decide +kernel⟩, lw_n3, lw_i4 (List.mem_of_getElem? (i := 84) rfl), lw_i4 (List.mem_of_getElem? (i := 85) rfl)⟩
set_option maxRecDepth 20000 in
theorem lw_p13 : lw_okq (⟨"MachineText", "parse", "()V"⟩, 14) := ⟨⟨by decide +kernel, by decide +kernel⟩, lw_n1, lw_i4 (List.mem_of_getElem? (i := 97) rfl), lw_i4 (List.mem_of_getElem? (i := 98) rfl)⟩
set_option maxRecDepth 20000 in
theorem lw_p14 : lw_okq (⟨"MachineText$Reader", "closeBody", "()V"⟩, 10) := ⟨⟨by decide +kernel, by decide +kernel⟩, lw_n4, lw_i4 (List.mem_of_getElem? (i := 142) rfl), lw_i4 (List.mem_of_getElem? (i := 143) rfl)⟩
set_option maxRecDepth 20000 in
theorem lw_p15 : lw_okq (⟨"MachineText$Reader", "openBody", "(II)V"⟩, 10) := ⟨⟨by decide +kernel, by decide +kernel⟩, lw_n4, lw_i4 (List.mem_of_getElem? (i := 148) rfl), lw_i4 (List.mem_of_getElem? (i := 149) rfl)⟩
def lw_privs_1 : List (MethodName × Nat) := [(⟨"java/lang/Throwable", "fillInStackTrace", "(I)Ljava/lang/Throwable;"⟩, 6), (⟨"MachineText", "putFour", "(I)V"⟩, 14), (⟨"MachineText", "forget", "()V"⟩, 14), (⟨"MachineText$Names", "addWords", "()V"⟩, 11), (⟨"MachineText$Names", "idOf", "(JJ)I"⟩, 11), (⟨"MachineText$Names", "added", "(JJI)I"⟩, 11), (⟨"MachineText$Lexemes", "behindWhite", "(I)I"⟩, 12), (⟨"MachineText$Lexemes", "cutOne", "(I)I"⟩, 12), (⟨"MachineText$Lexemes", "cutName", "(I)I"⟩, 12), (⟨"MachineText$Lexemes", "add", "(IIIJ)V"⟩, 12), (⟨"MachineText$Lexemes", "cutSign", "(I)I"⟩, 12), (⟨"MachineText$Lexemes", "cutHex", "(I)I"⟩, 12), (⟨"MachineText$Lexemes", "cutDecimal", "(I)I"⟩, 12), (⟨"MachineText", "parse", "()V"⟩, 14), (⟨"MachineText$Reader", "closeBody", "()V"⟩, 10), (⟨"MachineText$Reader", "openBody", "(II)V"⟩, 10)]
theorem lw_r1 : ∀ q ∈ lw_privs_1, lw_okq q := List.forall_mem_cons.mpr ⟨lw_p0, List.forall_mem_cons.mpr ⟨lw_p1, List.forall_mem_cons.mpr ⟨lw_p2, List.forall_mem_cons.mpr ⟨lw_p3, List.forall_mem_cons.mpr ⟨lw_p4, List.forall_mem_cons.mpr ⟨lw_p5, List.forall_mem_cons.mpr ⟨lw_p6, List.forall_mem_cons.mpr ⟨lw_p7, List.forall_mem_cons.mpr ⟨lw_p8, List.forall_mem_cons.mpr ⟨lw_p9, List.forall_mem_cons.mpr ⟨lw_p10, List.forall_mem_cons.mpr ⟨lw_p11, List.forall_mem_cons.mpr ⟨lw_p12, List.forall_mem_cons.mpr ⟨lw_p13, List.forall_mem_cons.mpr ⟨lw_p14, List.forall_mem_cons.mpr ⟨lw_p15, fun _ h => absurd h List.not_mem_nil⟩⟩⟩⟩⟩⟩⟩⟩⟩⟩⟩⟩⟩⟩⟩⟩
set_option maxRecDepth 20000 in
theorem lw_p16 : lw_okq (⟨"MachineText$Reader", "assignment", "()V"⟩, 10) := ⟨⟨by decide +kernel, by decide +kernel⟩, lw_n4, lw_i4 (List.mem_of_getElem? (i := 163) rfl), lw_i4 (List.mem_of_getElem? (i := 164) rfl)⟩
set_option maxRecDepth 20000 in
theorem lw_p17 : lw_okq (⟨"MachineText$Expressions", "prefixes", "()V"⟩, 13) := ⟨⟨by decide +kernel, by decide +kernel⟩, lw_n5, lw_i4 (List.mem_of_getElem? (i := 183) rfl), lw_i4 (List.mem_of_getElem? (i := 184) rfl)⟩
set_option maxRecDepth 20000 in
theorem lw_p18 : lw_okq (⟨"MachineText$Expressions", "push", "(III)V"⟩, 13) := ⟨⟨by decide +kernel, by decide +kernel⟩, lw_n5, lw_i4 (List.mem_of_getElem? (i := 187) rfl), lw_i4 (List.mem_of_getElem? (i := 188) rfl)⟩
set_option maxRecDepth 20000 in
theorem lw_p19 : lw_okq (⟨"MachineText$Expressions", "operandKind", "()I"⟩, 13) := ⟨⟨by decide +kernel, by decide +kernel⟩, lw_n5, lw_i4 (List.mem_of_getElem? (i := 192) rfl), lw_i4 (List.mem_of_getElem? (i := 193) rfl)⟩
set_option maxRecDepth 20000 in
theorem lw_p20 : lw_okq (⟨"MachineText$Expressions", "value", "()V"⟩, 13) := ⟨⟨by decide +kernel, by decide +kernel⟩, lw_n5, lw_i4 (List.mem_of_getElem? (i := 200) rfl), lw_i4 (List.mem_of_getElem? (i := 201) rfl)⟩
set_option maxRecDepth 20000 in
theorem lw_p21 : lw_okq (⟨"MachineText$Expressions", "primary", "(II)V"⟩, 13) := ⟨⟨by decide +kernel, by decide +kernel⟩, lw_n5, lw_i4 (List.mem_of_getElem? (i := 213) rfl), lw_i4 (List.mem_of_getElem? (i := 214) rfl)⟩
set_option maxRecDepth 20000 in
theorem lw_p22 : lw_okq (⟨"MachineText$Expressions", "settle", "(III)V"⟩, 13) := ⟨⟨by decide +kernel, by decide +kernel⟩, lw_n5, lw_i4 (List.mem_of_getElem? (i := 217) rfl), lw_i4 (List.mem_of_getElem? (i := 218) rfl)⟩
set_option maxRecDepth 20000 in
theorem lw_p23 : lw_okq (⟨"MachineText$Expressions", "plainName", "()V"⟩, 13) := ⟨⟨by decide +kernel, by decide +kernel⟩, lw_n5, lw_i4 (List.mem_of_getElem? (i := 233) rfl), lw_i4 (List.mem_of_getElem? (i := 234) rfl)⟩
set_option maxRecDepth 20000 in
theorem lw_p24 : lw_okq (⟨"MachineText$Expressions", "element", "(I)V"⟩, 13) := ⟨⟨by decide +kernel, by decide +kernel⟩, lw_n5, lw_i4 (List.mem_of_getElem? (i := 237) rfl), lw_i4 (List.mem_of_getElem? (i := 238) rfl)⟩
set_option maxRecDepth 20000 in
theorem lw_p25 : lw_okq (⟨"MachineText$Expressions", "extension", "(II)V"⟩, 13) := ⟨⟨by decide +kernel, by decide +kernel⟩, lw_n5, lw_i5 (List.mem_of_getElem? (i := 2) rfl), lw_i5 (List.mem_of_getElem? (i := 3) rfl)⟩
set_option maxRecDepth 20000 in
theorem lw_p26 : lw_okq (⟨"MachineText$Expressions", "group", "(I)V"⟩, 13) := ⟨⟨by decide +kernel, by decide +kernel⟩, lw_n5, lw_i5 (List.mem_of_getElem? (i := 6) rfl), lw_i5 (List.mem_of_getElem? (i := 7) rfl)⟩
set_option maxRecDepth 20000 in
theorem lw_p27 : lw_okq (⟨"MachineText$Expressions", "list", "(II)V"⟩, 13) := ⟨⟨by decide +kernel, by decide +kernel⟩, lw_n5, lw_i5 (List.mem_of_getElem? (i := 14) rfl), lw_i5 (List.mem_of_getElem? (i := 15) rfl)⟩
set_option maxRecDepth 20000 in
theorem lw_p28 : lw_okq (⟨"MachineText$Expressions", "hide", "(I)V"⟩, 13) := ⟨⟨by decide +kernel, by decide +kernel⟩, lw_n5, lw_i5 (List.mem_of_getElem? (i := 22) rfl), lw_i5 (List.mem_of_getElem? (i := 23) rfl)⟩
set_option maxRecDepth 20000 in
theorem lw_p29 : lw_okq (⟨"MachineText$Expressions", "slices", "()V"⟩, 13) := ⟨⟨by decide +kernel, by decide +kernel⟩, lw_n5, lw_i5 (List.mem_of_getElem? (i := 35) rfl), lw_i5 (List.mem_of_getElem? (i := 36) rfl)⟩
set_option maxRecDepth 20000 in
theorem lw_p30 : lw_okq (⟨"MachineText$Expressions", "want", "(I)V"⟩, 13) := ⟨⟨by decide +kernel, by decide +kernel⟩, lw_n5, lw_i5 (List.mem_of_getElem? (i := 39) rfl), lw_i5 (List.mem_of_getElem? (i := 40) rfl)⟩
set_option maxRecDepth 20000 in
theorem lw_p31 : lw_okq (⟨"MachineText$Expressions", "operatorKind", "(I)I"⟩, 13) := ⟨⟨by decide +kernel, by decide +kernel⟩, lw_n5, lw_i5 (List.mem_of_getElem? (i := 43) rfl), lw_i5 (List.mem_of_getElem? (i := 44) rfl)⟩
def lw_privs_2 : List (MethodName × Nat) := [(⟨"MachineText$Reader", "assignment", "()V"⟩, 10), (⟨"MachineText$Expressions", "prefixes", "()V"⟩, 13), (⟨"MachineText$Expressions", "push", "(III)V"⟩, 13), (⟨"MachineText$Expressions", "operandKind", "()I"⟩, 13), (⟨"MachineText$Expressions", "value", "()V"⟩, 13), (⟨"MachineText$Expressions", "primary", "(II)V"⟩, 13), (⟨"MachineText$Expressions", "settle", "(III)V"⟩, 13), (⟨"MachineText$Expressions", "plainName", "()V"⟩, 13), (⟨"MachineText$Expressions", "element", "(I)V"⟩, 13), (⟨"MachineText$Expressions", "extension", "(II)V"⟩, 13), (⟨"MachineText$Expressions", "group", "(I)V"⟩, 13), (⟨"MachineText$Expressions", "list", "(II)V"⟩, 13), (⟨"MachineText$Expressions", "hide", "(I)V"⟩, 13), (⟨"MachineText$Expressions", "slices", "()V"⟩, 13), (⟨"MachineText$Expressions", "want", "(I)V"⟩, 13), (⟨"MachineText$Expressions", "operatorKind", "(I)I"⟩, 13)]
theorem lw_r2 : ∀ q ∈ lw_privs_2, lw_okq q := List.forall_mem_cons.mpr ⟨lw_p16, List.forall_mem_cons.mpr ⟨lw_p17, List.forall_mem_cons.mpr ⟨lw_p18, List.forall_mem_cons.mpr ⟨lw_p19, List.forall_mem_cons.mpr ⟨lw_p20, List.forall_mem_cons.mpr ⟨lw_p21, List.forall_mem_cons.mpr ⟨lw_p22, List.forall_mem_cons.mpr ⟨lw_p23, List.forall_mem_cons.mpr ⟨lw_p24, List.forall_mem_cons.mpr ⟨lw_p25, List.forall_mem_cons.mpr ⟨lw_p26, List.forall_mem_cons.mpr ⟨lw_p27, List.forall_mem_cons.mpr ⟨lw_p28, List.forall_mem_cons.mpr ⟨lw_p29, List.forall_mem_cons.mpr ⟨lw_p30, List.forall_mem_cons.mpr ⟨lw_p31, fun _ h => absurd h List.not_mem_nil⟩⟩⟩⟩⟩⟩⟩⟩⟩⟩⟩⟩⟩⟩⟩⟩
set_option maxRecDepth 20000 in
theorem lw_p32 : lw_okq (⟨"MachineText$Expressions", "signAt", "(I)I"⟩, 13) := ⟨⟨by decide +kernel, by decide +kernel⟩, lw_n5, lw_i5 (List.mem_of_getElem? (i := 50) rfl), lw_i5 (List.mem_of_getElem? (i := 51) rfl)⟩
set_option maxRecDepth 20000 in
theorem lw_p33 : lw_okq (⟨"MachineText$Expressions", "reduce", "(II)V"⟩, 13) := ⟨⟨by decide +kernel, by decide +kernel⟩, lw_n5, lw_i5 (List.mem_of_getElem? (i := 59) rfl), lw_i5 (List.mem_of_getElem? (i := 60) rfl)⟩
set_option maxRecDepth 20000 in
theorem lw_p34 : lw_okq (⟨"MachineText$Expressions", "operator", "(I)V"⟩, 13) := ⟨⟨by decide +kernel, by decide +kernel⟩, lw_n5, lw_i5 (List.mem_of_getElem? (i := 63) rfl), lw_i5 (List.mem_of_getElem? (i := 64) rfl)⟩
set_option maxRecDepth 20000 in
theorem lw_p35 : lw_okq (⟨"MachineText$Expressions", "choice", "(I)V"⟩, 13) := ⟨⟨by decide +kernel, by decide +kernel⟩, lw_n5, lw_i5 (List.mem_of_getElem? (i := 67) rfl), lw_i5 (List.mem_of_getElem? (i := 68) rfl)⟩
set_option maxRecDepth 20000 in
theorem lw_p36 : lw_okq (⟨"MachineText$Claims", "add", "(IIII)V"⟩, 5) := ⟨⟨by decide +kernel, by decide +kernel⟩, lw_n6, lw_i5 (List.mem_of_getElem? (i := 78) rfl), lw_i5 (List.mem_of_getElem? (i := 79) rfl)⟩
set_option maxRecDepth 20000 in
theorem lw_p37 : lw_okq (⟨"MachineText$Reader", "branch", "()V"⟩, 10) := ⟨⟨by decide +kernel, by decide +kernel⟩, lw_n4, lw_i5 (List.mem_of_getElem? (i := 82) rfl), lw_i5 (List.mem_of_getElem? (i := 83) rfl)⟩
set_option maxRecDepth 20000 in
theorem lw_p38 : lw_okq (⟨"MachineText$Reader", "repetition", "()V"⟩, 10) := ⟨⟨by decide +kernel, by decide +kernel⟩, lw_n4, lw_i5 (List.mem_of_getElem? (i := 91) rfl), lw_i5 (List.mem_of_getElem? (i := 92) rfl)⟩
set_option maxRecDepth 20000 in
theorem lw_p39 : lw_okq (⟨"MachineText$Reader", "bind", "(III)V"⟩, 10) := ⟨⟨by decide +kernel, by decide +kernel⟩, lw_n4, lw_i5 (List.mem_of_getElem? (i := 95) rfl), lw_i5 (List.mem_of_getElem? (i := 96) rfl)⟩
set_option maxRecDepth 20000 in
theorem lw_p40 : lw_okq (⟨"MachineText$Reader", "register", "()V"⟩, 10) := ⟨⟨by decide +kernel, by decide +kernel⟩, lw_n4, lw_i5 (List.mem_of_getElem? (i := 111) rfl), lw_i5 (List.mem_of_getElem? (i := 112) rfl)⟩
set_option maxRecDepth 20000 in
theorem lw_p41 : lw_okq (⟨"MachineText$Reader", "head", "(I)V"⟩, 10) := ⟨⟨by decide +kernel, by decide +kernel⟩, lw_n4, lw_i5 (List.mem_of_getElem? (i := 115) rfl), lw_i5 (List.mem_of_getElem? (i := 116) rfl)⟩
set_option maxRecDepth 20000 in
theorem lw_p42 : lw_okq (⟨"MachineText$Reader", "memory", "()V"⟩, 10) := ⟨⟨by decide +kernel, by decide +kernel⟩, lw_n4, lw_i5 (List.mem_of_getElem? (i := 145) rfl), lw_i5 (List.mem_of_getElem? (i := 146) rfl)⟩
set_option maxRecDepth 20000 in
theorem lw_p43 : lw_okq (⟨"MachineText$Reader", "helper", "()V"⟩, 10) := ⟨⟨by decide +kernel, by decide +kernel⟩, lw_n4, lw_i5 (List.mem_of_getElem? (i := 149) rfl), lw_i5 (List.mem_of_getElem? (i := 150) rfl)⟩
set_option maxRecDepth 20000 in
theorem lw_p44 : lw_okq (⟨"MachineText$Reader", "parameter", "()V"⟩, 10) := ⟨⟨by decide +kernel, by decide +kernel⟩, lw_n4, lw_i5 (List.mem_of_getElem? (i := 153) rfl), lw_i5 (List.mem_of_getElem? (i := 154) rfl)⟩
set_option maxRecDepth 20000 in
theorem lw_p45 : lw_okq (⟨"MachineText$Reader", "instruction", "()V"⟩, 10) := ⟨⟨by decide +kernel, by decide +kernel⟩, lw_n4, lw_i5 (List.mem_of_getElem? (i := 157) rfl), lw_i5 (List.mem_of_getElem? (i := 158) rfl)⟩
set_option maxRecDepth 20000 in
theorem lw_p46 : lw_okq (⟨"MachineText$Reader", "bitsPart", "()V"⟩, 10) := ⟨⟨by decide +kernel, by decide +kernel⟩, lw_n4, lw_i5 (List.mem_of_getElem? (i := 161) rfl), lw_i5 (List.mem_of_getElem? (i := 162) rfl)⟩
set_option maxRecDepth 20000 in
theorem lw_p47 : lw_okq (⟨"MachineText$Reader", "namedPart", "()V"⟩, 10) := ⟨⟨by decide +kernel, by decide +kernel⟩, lw_n4, lw_i5 (List.mem_of_getElem? (i := 175) rfl), lw_i5 (List.mem_of_getElem? (i := 176) rfl)⟩
def lw_privs_3 : List (MethodName × Nat) := [(⟨"MachineText$Expressions", "signAt", "(I)I"⟩, 13), (⟨"MachineText$Expressions", "reduce", "(II)V"⟩, 13), (⟨"MachineText$Expressions", "operator", "(I)V"⟩, 13), (⟨"MachineText$Expressions", "choice", "(I)V"⟩, 13), (⟨"MachineText$Claims", "add", "(IIII)V"⟩, 5), (⟨"MachineText$Reader", "branch", "()V"⟩, 10), (⟨"MachineText$Reader", "repetition", "()V"⟩, 10), (⟨"MachineText$Reader", "bind", "(III)V"⟩, 10), (⟨"MachineText$Reader", "register", "()V"⟩, 10), (⟨"MachineText$Reader", "head", "(I)V"⟩, 10), (⟨"MachineText$Reader", "memory", "()V"⟩, 10), (⟨"MachineText$Reader", "helper", "()V"⟩, 10), (⟨"MachineText$Reader", "parameter", "()V"⟩, 10), (⟨"MachineText$Reader", "instruction", "()V"⟩, 10), (⟨"MachineText$Reader", "bitsPart", "()V"⟩, 10), (⟨"MachineText$Reader", "namedPart", "()V"⟩, 10)]
theorem lw_r3 : ∀ q ∈ lw_privs_3, lw_okq q := List.forall_mem_cons.mpr ⟨lw_p32, List.forall_mem_cons.mpr ⟨lw_p33, List.forall_mem_cons.mpr ⟨lw_p34, List.forall_mem_cons.mpr ⟨lw_p35, List.forall_mem_cons.mpr ⟨lw_p36, List.forall_mem_cons.mpr ⟨lw_p37, List.forall_mem_cons.mpr ⟨lw_p38, List.forall_mem_cons.mpr ⟨lw_p39, List.forall_mem_cons.mpr ⟨lw_p40, List.forall_mem_cons.mpr ⟨lw_p41, List.forall_mem_cons.mpr ⟨lw_p42, List.forall_mem_cons.mpr ⟨lw_p43, List.forall_mem_cons.mpr ⟨lw_p44, List.forall_mem_cons.mpr ⟨lw_p45, List.forall_mem_cons.mpr ⟨lw_p46, List.forall_mem_cons.mpr ⟨lw_p47, fun _ h => absurd h List.not_mem_nil⟩⟩⟩⟩⟩⟩⟩⟩⟩⟩⟩⟩⟩⟩⟩⟩
set_option maxRecDepth 20000 in
theorem lw_p48 : lw_okq (⟨"MachineText", "check", "()V"⟩, 14) := ⟨⟨by decide +kernel, by decide +kernel⟩, lw_n1, lw_i5 (List.mem_of_getElem? (i := 182) rfl), lw_i5 (List.mem_of_getElem? (i := 183) rfl)⟩
set_option maxRecDepth 20000 in
theorem lw_p49 : lw_okq (⟨"MachineText$Checker", "checkName", "(III)V"⟩, 6) := ⟨⟨by decide +kernel, by decide +kernel⟩, lw_n7, lw_i5 (List.mem_of_getElem? (i := 207) rfl), lw_i5 (List.mem_of_getElem? (i := 208) rfl)⟩
set_option maxRecDepth 20000 in
theorem lw_p50 : lw_okq (⟨"MachineText$Checker", "ownerAt", "(I)I"⟩, 6) := ⟨⟨by decide +kernel, by decide +kernel⟩, lw_n7, lw_i5 (List.mem_of_getElem? (i := 211) rfl), lw_i5 (List.mem_of_getElem? (i := 212) rfl)⟩
set_option maxRecDepth 20000 in
theorem lw_p51 : lw_okq (⟨"MachineText$Checker", "fits", "(III)Z"⟩, 6) := ⟨⟨by decide +kernel, by decide +kernel⟩, lw_n7, lw_i5 (List.mem_of_getElem? (i := 219) rfl), lw_i5 (List.mem_of_getElem? (i := 220) rfl)⟩
set_option maxRecDepth 20000 in
theorem lw_p52 : lw_okq (⟨"MachineText$Rings", "collect", "()V"⟩, 14) := ⟨⟨by decide +kernel, by decide +kernel⟩, lw_n8, lw_i6 (List.mem_of_getElem? (i := 11) rfl), lw_i6 (List.mem_of_getElem? (i := 12) rfl)⟩
set_option maxRecDepth 20000 in
theorem lw_p53 : lw_okq (⟨"MachineText$Rings", "lastLexeme", "(I)I"⟩, 14) := ⟨⟨by decide +kernel, by decide +kernel⟩, lw_n8, lw_i6 (List.mem_of_getElem? (i := 15) rfl), lw_i6 (List.mem_of_getElem? (i := 16) rfl)⟩
set_option maxRecDepth 20000 in
theorem lw_p54 : lw_okq (⟨"MachineText$Rings", "calledAt", "(I)I"⟩, 14) := ⟨⟨by decide +kernel, by decide +kernel⟩, lw_n8, lw_i6 (List.mem_of_getElem? (i := 25) rfl), lw_i6 (List.mem_of_getElem? (i := 26) rfl)⟩
set_option maxRecDepth 20000 in
theorem lw_p55 : lw_okq (⟨"MachineText$Rings", "addCall", "(II)V"⟩, 14) := ⟨⟨by decide +kernel, by decide +kernel⟩, lw_n8, lw_i6 (List.mem_of_getElem? (i := 31) rfl), lw_i6 (List.mem_of_getElem? (i := 32) rfl)⟩
set_option maxRecDepth 20000 in
theorem lw_p56 : lw_okq (⟨"MachineText$Rings", "isRow", "(I)Z"⟩, 14) := ⟨⟨by decide +kernel, by decide +kernel⟩, lw_n8, lw_i6 (List.mem_of_getElem? (i := 35) rfl), lw_i6 (List.mem_of_getElem? (i := 36) rfl)⟩
set_option maxRecDepth 20000 in
theorem lw_p57 : lw_okq (⟨"MachineText$Rings", "isFree", "()Z"⟩, 14) := ⟨⟨by decide +kernel, by decide +kernel⟩, lw_n8, lw_i6 (List.mem_of_getElem? (i := 39) rfl), lw_i6 (List.mem_of_getElem? (i := 40) rfl)⟩
set_option maxRecDepth 20000 in
theorem lw_p58 : lw_okq (⟨"MachineText$Rings", "enqueue", "(I)V"⟩, 14) := ⟨⟨by decide +kernel, by decide +kernel⟩, lw_n8, lw_i6 (List.mem_of_getElem? (i := 43) rfl), lw_i6 (List.mem_of_getElem? (i := 44) rfl)⟩
set_option maxRecDepth 20000 in
theorem lw_p59 : lw_okq (⟨"MachineText$Rings", "chainOf", "(I)I"⟩, 14) := ⟨⟨by decide +kernel, by decide +kernel⟩, lw_n8, lw_i6 (List.mem_of_getElem? (i := 47) rfl), lw_i6 (List.mem_of_getElem? (i := 48) rfl)⟩
set_option maxRecDepth 20000 in
theorem lw_p60 : lw_okq (⟨"MachineText$Rings", "isCall", "(I)Z"⟩, 14) := ⟨⟨by decide +kernel, by decide +kernel⟩, lw_n8, lw_i6 (List.mem_of_getElem? (i := 51) rfl), lw_i6 (List.mem_of_getElem? (i := 52) rfl)⟩
set_option maxRecDepth 20000 in
theorem lw_p61 : lw_okq (⟨"MachineText$Rings", "settleOne", "(I)V"⟩, 14) := ⟨⟨by decide +kernel, by decide +kernel⟩, lw_n8, lw_i6 (List.mem_of_getElem? (i := 55) rfl), lw_i6 (List.mem_of_getElem? (i := 56) rfl)⟩
set_option maxRecDepth 20000 in
theorem lw_p62 : lw_okq (⟨"MachineText$Rings", "measure", "(I)V"⟩, 14) := ⟨⟨by decide +kernel, by decide +kernel⟩, lw_n8, lw_i6 (List.mem_of_getElem? (i := 59) rfl), lw_i6 (List.mem_of_getElem? (i := 60) rfl)⟩
set_option maxRecDepth 20000 in
theorem lw_p63 : lw_okq (⟨"MachineText$Rings", "reach", "(II)V"⟩, 14) := ⟨⟨by decide +kernel, by decide +kernel⟩, lw_n8, lw_i6 (List.mem_of_getElem? (i := 63) rfl), lw_i6 (List.mem_of_getElem? (i := 64) rfl)⟩
def lw_privs_4 : List (MethodName × Nat) := [(⟨"MachineText", "check", "()V"⟩, 14), (⟨"MachineText$Checker", "checkName", "(III)V"⟩, 6), (⟨"MachineText$Checker", "ownerAt", "(I)I"⟩, 6), (⟨"MachineText$Checker", "fits", "(III)Z"⟩, 6), (⟨"MachineText$Rings", "collect", "()V"⟩, 14), (⟨"MachineText$Rings", "lastLexeme", "(I)I"⟩, 14), (⟨"MachineText$Rings", "calledAt", "(I)I"⟩, 14), (⟨"MachineText$Rings", "addCall", "(II)V"⟩, 14), (⟨"MachineText$Rings", "isRow", "(I)Z"⟩, 14), (⟨"MachineText$Rings", "isFree", "()Z"⟩, 14), (⟨"MachineText$Rings", "enqueue", "(I)V"⟩, 14), (⟨"MachineText$Rings", "chainOf", "(I)I"⟩, 14), (⟨"MachineText$Rings", "isCall", "(I)Z"⟩, 14), (⟨"MachineText$Rings", "settleOne", "(I)V"⟩, 14), (⟨"MachineText$Rings", "measure", "(I)V"⟩, 14), (⟨"MachineText$Rings", "reach", "(II)V"⟩, 14)]
theorem lw_r4 : ∀ q ∈ lw_privs_4, lw_okq q := List.forall_mem_cons.mpr ⟨lw_p48, List.forall_mem_cons.mpr ⟨lw_p49, List.forall_mem_cons.mpr ⟨lw_p50, List.forall_mem_cons.mpr ⟨lw_p51, List.forall_mem_cons.mpr ⟨lw_p52, List.forall_mem_cons.mpr ⟨lw_p53, List.forall_mem_cons.mpr ⟨lw_p54, List.forall_mem_cons.mpr ⟨lw_p55, List.forall_mem_cons.mpr ⟨lw_p56, List.forall_mem_cons.mpr ⟨lw_p57, List.forall_mem_cons.mpr ⟨lw_p58, List.forall_mem_cons.mpr ⟨lw_p59, List.forall_mem_cons.mpr ⟨lw_p60, List.forall_mem_cons.mpr ⟨lw_p61, List.forall_mem_cons.mpr ⟨lw_p62, List.forall_mem_cons.mpr ⟨lw_p63, fun _ h => absurd h List.not_mem_nil⟩⟩⟩⟩⟩⟩⟩⟩⟩⟩⟩⟩⟩⟩⟩⟩
set_option maxRecDepth 20000 in
theorem lw_p64 : lw_okq (⟨"MachineText$Rings", "nearest", "(I)I"⟩, 14) := ⟨⟨by decide +kernel, by decide +kernel⟩, lw_n8, lw_i6 (List.mem_of_getElem? (i := 67) rfl), lw_i6 (List.mem_of_getElem? (i := 68) rfl)⟩
set_option maxRecDepth 20000 in
theorem lw_p65 : lw_okq (⟨"MachineText$Rings", "trace", "(I)V"⟩, 14) := ⟨⟨by decide +kernel, by decide +kernel⟩, lw_n8, lw_i6 (List.mem_of_getElem? (i := 71) rfl), lw_i6 (List.mem_of_getElem? (i := 72) rfl)⟩
set_option maxRecDepth 20000 in
theorem lw_p66 : lw_okq (⟨"MachineText$Checker", "hasRightParts", "(I)Z"⟩, 6) := ⟨⟨by decide +kernel, by decide +kernel⟩, lw_n7, lw_i6 (List.mem_of_getElem? (i := 81) rfl), lw_i6 (List.mem_of_getElem? (i := 82) rfl)⟩
set_option maxRecDepth 20000 in
theorem lw_p67 : lw_okq (⟨"MachineText$Checker", "widthOf", "(I)I"⟩, 6) := ⟨⟨by decide +kernel, by decide +kernel⟩, lw_n7, lw_i6 (List.mem_of_getElem? (i := 93) rfl), lw_i6 (List.mem_of_getElem? (i := 94) rfl)⟩
set_option maxRecDepth 20000 in
theorem lw_p68 : lw_okq (⟨"MachineText$Checker", "indexWidth", "(I)I"⟩, 6) := ⟨⟨by decide +kernel, by decide +kernel⟩, lw_n7, lw_i6 (List.mem_of_getElem? (i := 101) rfl), lw_i6 (List.mem_of_getElem? (i := 102) rfl)⟩
set_option maxRecDepth 20000 in
theorem lw_p69 : lw_okq (⟨"MachineText$Checker", "callWidth", "(I)I"⟩, 6) := ⟨⟨by decide +kernel, by decide +kernel⟩, lw_n7, lw_i6 (List.mem_of_getElem? (i := 109) rfl), lw_i6 (List.mem_of_getElem? (i := 110) rfl)⟩
set_option maxRecDepth 20000 in
theorem lw_p70 : lw_okq (⟨"MachineText$Checker", "joinedWidth", "(I)I"⟩, 6) := ⟨⟨by decide +kernel, by decide +kernel⟩, lw_n7, lw_i6 (List.mem_of_getElem? (i := 115) rfl), lw_i6 (List.mem_of_getElem? (i := 116) rfl)⟩
set_option maxRecDepth 20000 in
theorem lw_p71 : lw_okq (⟨"MachineText$Checker", "pairWidth", "(I)I"⟩, 6) := ⟨⟨by decide +kernel, by decide +kernel⟩, lw_n7, lw_i6 (List.mem_of_getElem? (i := 129) rfl), lw_i6 (List.mem_of_getElem? (i := 130) rfl)⟩
set_option maxRecDepth 20000 in
theorem lw_p72 : lw_okq (⟨"MachineText$Checker", "isTargetRight", "(I)Z"⟩, 6) := ⟨⟨by decide +kernel, by decide +kernel⟩, lw_n7, lw_i6 (List.mem_of_getElem? (i := 134) rfl), lw_i6 (List.mem_of_getElem? (i := 135) rfl)⟩
set_option maxRecDepth 20000 in
theorem lw_p73 : lw_okq (⟨"MachineText$Checker", "isWidthRight", "(I)Z"⟩, 6) := ⟨⟨by decide +kernel, by decide +kernel⟩, lw_n7, lw_i6 (List.mem_of_getElem? (i := 142) rfl), lw_i6 (List.mem_of_getElem? (i := 143) rfl)⟩
set_option maxRecDepth 20000 in
theorem lw_p74 : lw_okq (⟨"MachineText$Printer", "writeGap", "(II)V"⟩, 3) := ⟨⟨by decide +kernel, by decide +kernel⟩, lw_n9, lw_i7 (List.mem_of_getElem? (i := 23) rfl), lw_i7 (List.mem_of_getElem? (i := 24) rfl)⟩
set_option maxRecDepth 20000 in
theorem lw_p75 : lw_okq (⟨"MachineText$Printer", "put", "(I)V"⟩, 3) := ⟨⟨by decide +kernel, by decide +kernel⟩, lw_n9, lw_i7 (List.mem_of_getElem? (i := 28) rfl), lw_i7 (List.mem_of_getElem? (i := 29) rfl)⟩
set_option maxRecDepth 20000 in
theorem lw_p76 : lw_okq (⟨"MachineText$Printer", "isSpaced", "(I)Z"⟩, 3) := ⟨⟨by decide +kernel, by decide +kernel⟩, lw_n9, lw_i7 (List.mem_of_getElem? (i := 32) rfl), lw_i7 (List.mem_of_getElem? (i := 33) rfl)⟩
set_option maxRecDepth 20000 in
theorem lw_p77 : lw_okq (⟨"MachineText$Printer", "writeLexeme", "(I)V"⟩, 3) := ⟨⟨by decide +kernel, by decide +kernel⟩, lw_n9, lw_i7 (List.mem_of_getElem? (i := 42) rfl), lw_i7 (List.mem_of_getElem? (i := 43) rfl)⟩
set_option maxRecDepth 20000 in
theorem lw_p78 : lw_okq (⟨"MachineText$Printer", "writeDecimal", "(J)V"⟩, 3) := ⟨⟨by decide +kernel, by decide +kernel⟩, lw_n9, lw_i7 (List.mem_of_getElem? (i := 47) rfl), lw_i7 (List.mem_of_getElem? (i := 48) rfl)⟩
set_option maxRecDepth 20000 in
theorem lw_p79 : lw_okq (⟨"MachineTextModel", "fail", "(I)I"⟩, 75) := ⟨⟨by decide +kernel, by decide +kernel⟩, lw_n10, lw_i8 (List.mem_of_getElem? (i := 87) rfl), lw_i8 (List.mem_of_getElem? (i := 88) rfl)⟩
def lw_privs_5 : List (MethodName × Nat) := [(⟨"MachineText$Rings", "nearest", "(I)I"⟩, 14), (⟨"MachineText$Rings", "trace", "(I)V"⟩, 14), (⟨"MachineText$Checker", "hasRightParts", "(I)Z"⟩, 6), (⟨"MachineText$Checker", "widthOf", "(I)I"⟩, 6), (⟨"MachineText$Checker", "indexWidth", "(I)I"⟩, 6), (⟨"MachineText$Checker", "callWidth", "(I)I"⟩, 6), (⟨"MachineText$Checker", "joinedWidth", "(I)I"⟩, 6), (⟨"MachineText$Checker", "pairWidth", "(I)I"⟩, 6), (⟨"MachineText$Checker", "isTargetRight", "(I)Z"⟩, 6), (⟨"MachineText$Checker", "isWidthRight", "(I)Z"⟩, 6), (⟨"MachineText$Printer", "writeGap", "(II)V"⟩, 3), (⟨"MachineText$Printer", "put", "(I)V"⟩, 3), (⟨"MachineText$Printer", "isSpaced", "(I)Z"⟩, 3), (⟨"MachineText$Printer", "writeLexeme", "(I)V"⟩, 3), (⟨"MachineText$Printer", "writeDecimal", "(J)V"⟩, 3), (⟨"MachineTextModel", "fail", "(I)I"⟩, 75)]
theorem lw_r5 : ∀ q ∈ lw_privs_5, lw_okq q := List.forall_mem_cons.mpr ⟨lw_p64, List.forall_mem_cons.mpr ⟨lw_p65, List.forall_mem_cons.mpr ⟨lw_p66, List.forall_mem_cons.mpr ⟨lw_p67, List.forall_mem_cons.mpr ⟨lw_p68, List.forall_mem_cons.mpr ⟨lw_p69, List.forall_mem_cons.mpr ⟨lw_p70, List.forall_mem_cons.mpr ⟨lw_p71, List.forall_mem_cons.mpr ⟨lw_p72, List.forall_mem_cons.mpr ⟨lw_p73, List.forall_mem_cons.mpr ⟨lw_p74, List.forall_mem_cons.mpr ⟨lw_p75, List.forall_mem_cons.mpr ⟨lw_p76, List.forall_mem_cons.mpr ⟨lw_p77, List.forall_mem_cons.mpr ⟨lw_p78, List.forall_mem_cons.mpr ⟨lw_p79, fun _ h => absurd h List.not_mem_nil⟩⟩⟩⟩⟩⟩⟩⟩⟩⟩⟩⟩⟩⟩⟩⟩
set_option maxRecDepth 20000 in
theorem lw_p80 : lw_okq (⟨"MachineTextModel", "cut", "()V"⟩, 75) := ⟨⟨by decide +kernel, by decide +kernel⟩, lw_n10, lw_i8 (List.mem_of_getElem? (i := 103) rfl), lw_i8 (List.mem_of_getElem? (i := 104) rfl)⟩
set_option maxRecDepth 20000 in
theorem lw_p81 : lw_okq (⟨"MachineTextModel", "skip", "(I)I"⟩, 75) := ⟨⟨by decide +kernel, by decide +kernel⟩, lw_n10, lw_i8 (List.mem_of_getElem? (i := 107) rfl), lw_i8 (List.mem_of_getElem? (i := 108) rfl)⟩
set_option maxRecDepth 20000 in
theorem lw_p82 : lw_okq (⟨"MachineTextModel", "ch", "(I)I"⟩, 75) := ⟨⟨by decide +kernel, by decide +kernel⟩, lw_n10, lw_i8 (List.mem_of_getElem? (i := 111) rfl), lw_i8 (List.mem_of_getElem? (i := 112) rfl)⟩
set_option maxRecDepth 20000 in
theorem lw_p83 : lw_okq (⟨"MachineTextModel", "tell", "(II)V"⟩, 75) := ⟨⟨by decide +kernel, by decide +kernel⟩, lw_n10, lw_i8 (List.mem_of_getElem? (i := 127) rfl), lw_i8 (List.mem_of_getElem? (i := 128) rfl)⟩
set_option maxRecDepth 20000 in
theorem lw_p84 : lw_okq (⟨"MachineTextModel", "nameKind", "(II)I"⟩, 75) := ⟨⟨by decide +kernel, by decide +kernel⟩, lw_n10, lw_i8 (List.mem_of_getElem? (i := 131) rfl), lw_i8 (List.mem_of_getElem? (i := 132) rfl)⟩
set_option maxRecDepth 20000 in
theorem lw_p85 : lw_okq (⟨"MachineTextModel", "number", "(I)I"⟩, 75) := ⟨⟨by decide +kernel, by decide +kernel⟩, lw_n10, lw_i8 (List.mem_of_getElem? (i := 147) rfl), lw_i8 (List.mem_of_getElem? (i := 148) rfl)⟩
set_option maxRecDepth 20000 in
theorem lw_p86 : lw_okq (⟨"MachineTextModel", "sign", "(I)I"⟩, 75) := ⟨⟨by decide +kernel, by decide +kernel⟩, lw_n10, lw_i8 (List.mem_of_getElem? (i := 155) rfl), lw_i8 (List.mem_of_getElem? (i := 156) rfl)⟩
set_option maxRecDepth 20000 in
theorem lw_p87 : lw_okq (⟨"MachineTextModel", "readAll", "()V"⟩, 75) := ⟨⟨by decide +kernel, by decide +kernel⟩, lw_n10, lw_i8 (List.mem_of_getElem? (i := 159) rfl), lw_i8 (List.mem_of_getElem? (i := 160) rfl)⟩
set_option maxRecDepth 20000 in
theorem lw_p88 : lw_okq (⟨"MachineTextModel", "take", "(I)I"⟩, 75) := ⟨⟨by decide +kernel, by decide +kernel⟩, lw_n10, lw_i8 (List.mem_of_getElem? (i := 163) rfl), lw_i8 (List.mem_of_getElem? (i := 164) rfl)⟩
set_option maxRecDepth 20000 in
theorem lw_p89 : lw_okq (⟨"MachineTextModel", "is", "(I)Z"⟩, 75) := ⟨⟨by decide +kernel, by decide +kernel⟩, lw_n10, lw_i8 (List.mem_of_getElem? (i := 167) rfl), lw_i8 (List.mem_of_getElem? (i := 168) rfl)⟩
set_option maxRecDepth 20000 in
theorem lw_p90 : lw_okq (⟨"MachineTextModel", "statement", "()V"⟩, 75) := ⟨⟨by decide +kernel, by decide +kernel⟩, lw_n10, lw_i8 (List.mem_of_getElem? (i := 171) rfl), lw_i8 (List.mem_of_getElem? (i := 172) rfl)⟩
set_option maxRecDepth 20000 in
theorem lw_p91 : lw_okq (⟨"MachineTextModel", "eat", "(I)Z"⟩, 75) := ⟨⟨by decide +kernel, by decide +kernel⟩, lw_n10, lw_i8 (List.mem_of_getElem? (i := 175) rfl), lw_i8 (List.mem_of_getElem? (i := 176) rfl)⟩
set_option maxRecDepth 20000 in
theorem lw_p92 : lw_okq (⟨"MachineTextModel", "helper", "(I)V"⟩, 75) := ⟨⟨by decide +kernel, by decide +kernel⟩, lw_n10, lw_i8 (List.mem_of_getElem? (i := 179) rfl), lw_i8 (List.mem_of_getElem? (i := 180) rfl)⟩
set_option maxRecDepth 20000 in
theorem lw_p93 : lw_okq (⟨"MachineTextModel", "expression", "(II)I"⟩, 75) := ⟨⟨by decide +kernel, by decide +kernel⟩, lw_n10, lw_i8 (List.mem_of_getElem? (i := 183) rfl), lw_i8 (List.mem_of_getElem? (i := 184) rfl)⟩
set_option maxRecDepth 20000 in
theorem lw_p94 : lw_okq (⟨"MachineTextModel", "primary", "()Z"⟩, 75) := ⟨⟨by decide +kernel, by decide +kernel⟩, lw_n10, lw_i8 (List.mem_of_getElem? (i := 187) rfl), lw_i8 (List.mem_of_getElem? (i := 188) rfl)⟩
set_option maxRecDepth 20000 in
theorem lw_p95 : lw_okq (⟨"MachineTextModel", "open", "(II)V"⟩, 75) := ⟨⟨by decide +kernel, by decide +kernel⟩, lw_n10, lw_i8 (List.mem_of_getElem? (i := 191) rfl), lw_i8 (List.mem_of_getElem? (i := 192) rfl)⟩
def lw_privs_6 : List (MethodName × Nat) := [(⟨"MachineTextModel", "cut", "()V"⟩, 75), (⟨"MachineTextModel", "skip", "(I)I"⟩, 75), (⟨"MachineTextModel", "ch", "(I)I"⟩, 75), (⟨"MachineTextModel", "tell", "(II)V"⟩, 75), (⟨"MachineTextModel", "nameKind", "(II)I"⟩, 75), (⟨"MachineTextModel", "number", "(I)I"⟩, 75), (⟨"MachineTextModel", "sign", "(I)I"⟩, 75), (⟨"MachineTextModel", "readAll", "()V"⟩, 75), (⟨"MachineTextModel", "take", "(I)I"⟩, 75), (⟨"MachineTextModel", "is", "(I)Z"⟩, 75), (⟨"MachineTextModel", "statement", "()V"⟩, 75), (⟨"MachineTextModel", "eat", "(I)Z"⟩, 75), (⟨"MachineTextModel", "helper", "(I)V"⟩, 75), (⟨"MachineTextModel", "expression", "(II)I"⟩, 75), (⟨"MachineTextModel", "primary", "()Z"⟩, 75), (⟨"MachineTextModel", "open", "(II)V"⟩, 75)]
theorem lw_r6 : ∀ q ∈ lw_privs_6, lw_okq q := List.forall_mem_cons.mpr ⟨lw_p80, List.forall_mem_cons.mpr ⟨lw_p81, List.forall_mem_cons.mpr ⟨lw_p82, List.forall_mem_cons.mpr ⟨lw_p83, List.forall_mem_cons.mpr ⟨lw_p84, List.forall_mem_cons.mpr ⟨lw_p85, List.forall_mem_cons.mpr ⟨lw_p86, List.forall_mem_cons.mpr ⟨lw_p87, List.forall_mem_cons.mpr ⟨lw_p88, List.forall_mem_cons.mpr ⟨lw_p89, List.forall_mem_cons.mpr ⟨lw_p90, List.forall_mem_cons.mpr ⟨lw_p91, List.forall_mem_cons.mpr ⟨lw_p92, List.forall_mem_cons.mpr ⟨lw_p93, List.forall_mem_cons.mpr ⟨lw_p94, List.forall_mem_cons.mpr ⟨lw_p95, fun _ h => absurd h List.not_mem_nil⟩⟩⟩⟩⟩⟩⟩⟩⟩⟩⟩⟩⟩⟩⟩⟩
set_option maxRecDepth 20000 in
theorem lw_p96 : lw_okq (⟨"MachineTextModel", "node", "(IIII)I"⟩, 75) := ⟨⟨by decide +kernel, by decide +kernel⟩, lw_n10, lw_i8 (List.mem_of_getElem? (i := 195) rfl), lw_i8 (List.mem_of_getElem? (i := 196) rfl)⟩
set_option maxRecDepth 20000 in
theorem lw_p97 : lw_okq (⟨"MachineTextModel", "operand", "(III)V"⟩, 75) := ⟨⟨by decide +kernel, by decide +kernel⟩, lw_n10, lw_i8 (List.mem_of_getElem? (i := 199) rfl), lw_i8 (List.mem_of_getElem? (i := 200) rfl)⟩
set_option maxRecDepth 20000 in
theorem lw_p98 : lw_okq (⟨"MachineTextModel", "behind", "()I"⟩, 75) := ⟨⟨by decide +kernel, by decide +kernel⟩, lw_n10, lw_i8 (List.mem_of_getElem? (i := 203) rfl), lw_i8 (List.mem_of_getElem? (i := 204) rfl)⟩
set_option maxRecDepth 20000 in
theorem lw_p99 : lw_okq (⟨"MachineTextModel", "use", "(II)V"⟩, 75) := ⟨⟨by decide +kernel, by decide +kernel⟩, lw_n10, lw_i8 (List.mem_of_getElem? (i := 207) rfl), lw_i8 (List.mem_of_getElem? (i := 208) rfl)⟩
set_option maxRecDepth 20000 in
theorem lw_p100 : lw_okq (⟨"MachineTextModel", "make", "(IIIII)V"⟩, 75) := ⟨⟨by decide +kernel, by decide +kernel⟩, lw_n10, lw_i8 (List.mem_of_getElem? (i := 214) rfl), lw_i8 (List.mem_of_getElem? (i := 215) rfl)⟩
set_option maxRecDepth 20000 in
theorem lw_p101 : lw_okq (⟨"MachineTextModel", "binary", "(I)I"⟩, 75) := ⟨⟨by decide +kernel, by decide +kernel⟩, lw_n10, lw_i8 (List.mem_of_getElem? (i := 218) rfl), lw_i8 (List.mem_of_getElem? (i := 219) rfl)⟩
set_option maxRecDepth 20000 in
theorem lw_p102 : lw_okq (⟨"MachineTextModel", "reduce", "(I)V"⟩, 75) := ⟨⟨by decide +kernel, by decide +kernel⟩, lw_n10, lw_i8 (List.mem_of_getElem? (i := 222) rfl), lw_i8 (List.mem_of_getElem? (i := 223) rfl)⟩
set_option maxRecDepth 20000 in
theorem lw_p103 : lw_okq (⟨"MachineTextModel", "close", "()I"⟩, 75) := ⟨⟨by decide +kernel, by decide +kernel⟩, lw_n10, lw_i8 (List.mem_of_getElem? (i := 226) rfl), lw_i8 (List.mem_of_getElem? (i := 227) rfl)⟩
set_option maxRecDepth 20000 in
theorem lw_p104 : lw_okq (⟨"MachineTextModel", "list", "(II)I"⟩, 75) := ⟨⟨by decide +kernel, by decide +kernel⟩, lw_n10, lw_i8 (List.mem_of_getElem? (i := 230) rfl), lw_i8 (List.mem_of_getElem? (i := 231) rfl)⟩
set_option maxRecDepth 20000 in
theorem lw_p105 : lw_okq (⟨"MachineTextModel", "body", "(I)V"⟩, 75) := ⟨⟨by decide +kernel, by decide +kernel⟩, lw_n10, lw_i8 (List.mem_of_getElem? (i := 234) rfl), lw_i8 (List.mem_of_getElem? (i := 235) rfl)⟩
set_option maxRecDepth 20000 in
theorem lw_p106 : lw_okq (⟨"MachineTextModel", "openBody", "(Z)V"⟩, 75) := ⟨⟨by decide +kernel, by decide +kernel⟩, lw_n10, lw_i8 (List.mem_of_getElem? (i := 238) rfl), lw_i8 (List.mem_of_getElem? (i := 239) rfl)⟩
set_option maxRecDepth 20000 in
theorem lw_p107 : lw_okq (⟨"MachineTextModel", "action", "(I)V"⟩, 75) := ⟨⟨by decide +kernel, by decide +kernel⟩, lw_n10, lw_i9 (List.mem_of_getElem? (i := 2) rfl), lw_i9 (List.mem_of_getElem? (i := 3) rfl)⟩
set_option maxRecDepth 20000 in
theorem lw_p108 : lw_okq (⟨"MachineTextModel", "checkNumbers", "()V"⟩, 75) := ⟨⟨by decide +kernel, by decide +kernel⟩, lw_n10, lw_i9 (List.mem_of_getElem? (i := 6) rfl), lw_i9 (List.mem_of_getElem? (i := 7) rfl)⟩
set_option maxRecDepth 20000 in
theorem lw_p109 : lw_okq (⟨"MachineTextModel", "bounds", "(IJJ)Z"⟩, 75) := ⟨⟨by decide +kernel, by decide +kernel⟩, lw_n10, lw_i9 (List.mem_of_getElem? (i := 11) rfl), lw_i9 (List.mem_of_getElem? (i := 12) rfl)⟩
set_option maxRecDepth 20000 in
theorem lw_p110 : lw_okq (⟨"MachineTextModel", "value", "(I)J"⟩, 75) := ⟨⟨by decide +kernel, by decide +kernel⟩, lw_n10, lw_i9 (List.mem_of_getElem? (i := 15) rfl), lw_i9 (List.mem_of_getElem? (i := 16) rfl)⟩
set_option maxRecDepth 20000 in
theorem lw_p111 : lw_okq (⟨"MachineTextModel", "isHexNumber", "(I)Z"⟩, 75) := ⟨⟨by decide +kernel, by decide +kernel⟩, lw_n10, lw_i9 (List.mem_of_getElem? (i := 19) rfl), lw_i9 (List.mem_of_getElem? (i := 20) rfl)⟩
def lw_privs_7 : List (MethodName × Nat) := [(⟨"MachineTextModel", "node", "(IIII)I"⟩, 75), (⟨"MachineTextModel", "operand", "(III)V"⟩, 75), (⟨"MachineTextModel", "behind", "()I"⟩, 75), (⟨"MachineTextModel", "use", "(II)V"⟩, 75), (⟨"MachineTextModel", "make", "(IIIII)V"⟩, 75), (⟨"MachineTextModel", "binary", "(I)I"⟩, 75), (⟨"MachineTextModel", "reduce", "(I)V"⟩, 75), (⟨"MachineTextModel", "close", "()I"⟩, 75), (⟨"MachineTextModel", "list", "(II)I"⟩, 75), (⟨"MachineTextModel", "body", "(I)V"⟩, 75), (⟨"MachineTextModel", "openBody", "(Z)V"⟩, 75), (⟨"MachineTextModel", "action", "(I)V"⟩, 75), (⟨"MachineTextModel", "checkNumbers", "()V"⟩, 75), (⟨"MachineTextModel", "bounds", "(IJJ)Z"⟩, 75), (⟨"MachineTextModel", "value", "(I)J"⟩, 75), (⟨"MachineTextModel", "isHexNumber", "(I)Z"⟩, 75)]
theorem lw_r7 : ∀ q ∈ lw_privs_7, lw_okq q := List.forall_mem_cons.mpr ⟨lw_p96, List.forall_mem_cons.mpr ⟨lw_p97, List.forall_mem_cons.mpr ⟨lw_p98, List.forall_mem_cons.mpr ⟨lw_p99, List.forall_mem_cons.mpr ⟨lw_p100, List.forall_mem_cons.mpr ⟨lw_p101, List.forall_mem_cons.mpr ⟨lw_p102, List.forall_mem_cons.mpr ⟨lw_p103, List.forall_mem_cons.mpr ⟨lw_p104, List.forall_mem_cons.mpr ⟨lw_p105, List.forall_mem_cons.mpr ⟨lw_p106, List.forall_mem_cons.mpr ⟨lw_p107, List.forall_mem_cons.mpr ⟨lw_p108, List.forall_mem_cons.mpr ⟨lw_p109, List.forall_mem_cons.mpr ⟨lw_p110, List.forall_mem_cons.mpr ⟨lw_p111, fun _ h => absurd h List.not_mem_nil⟩⟩⟩⟩⟩⟩⟩⟩⟩⟩⟩⟩⟩⟩⟩⟩
set_option maxRecDepth 20000 in
theorem lw_p112 : lw_okq (⟨"MachineTextModel", "first", "(I)V"⟩, 75) := ⟨⟨by decide +kernel, by decide +kernel⟩, lw_n10, lw_i9 (List.mem_of_getElem? (i := 25) rfl), lw_i9 (List.mem_of_getElem? (i := 26) rfl)⟩
set_option maxRecDepth 20000 in
theorem lw_p113 : lw_okq (⟨"MachineTextModel", "isBits", "(I)Z"⟩, 75) := ⟨⟨by decide +kernel, by decide +kernel⟩, lw_n10, lw_i9 (List.mem_of_getElem? (i := 32) rfl), lw_i9 (List.mem_of_getElem? (i := 33) rfl)⟩
set_option maxRecDepth 20000 in
theorem lw_p114 : lw_okq (⟨"MachineTextModel", "told", "(I)V"⟩, 75) := ⟨⟨by decide +kernel, by decide +kernel⟩, lw_n10, lw_i9 (List.mem_of_getElem? (i := 38) rfl), lw_i9 (List.mem_of_getElem? (i := 39) rfl)⟩
set_option maxRecDepth 20000 in
theorem lw_p115 : lw_okq (⟨"MachineTextModel", "checkTwice", "()V"⟩, 75) := ⟨⟨by decide +kernel, by decide +kernel⟩, lw_n10, lw_i9 (List.mem_of_getElem? (i := 42) rfl), lw_i9 (List.mem_of_getElem? (i := 43) rfl)⟩
set_option maxRecDepth 20000 in
theorem lw_p116 : lw_okq (⟨"MachineTextModel", "statementOf", "(I)I"⟩, 75) := ⟨⟨by decide +kernel, by decide +kernel⟩, lw_n10, lw_i9 (List.mem_of_getElem? (i := 46) rfl), lw_i9 (List.mem_of_getElem? (i := 47) rfl)⟩
set_option maxRecDepth 20000 in
theorem lw_p117 : lw_okq (⟨"MachineTextModel", "sameName", "(II)Z"⟩, 75) := ⟨⟨by decide +kernel, by decide +kernel⟩, lw_n10, lw_i9 (List.mem_of_getElem? (i := 50) rfl), lw_i9 (List.mem_of_getElem? (i := 51) rfl)⟩
set_option maxRecDepth 20000 in
theorem lw_p118 : lw_okq (⟨"MachineTextModel", "isOwn", "(III)Z"⟩, 75) := ⟨⟨by decide +kernel, by decide +kernel⟩, lw_n10, lw_i9 (List.mem_of_getElem? (i := 54) rfl), lw_i9 (List.mem_of_getElem? (i := 55) rfl)⟩
set_option maxRecDepth 20000 in
theorem lw_p119 : lw_okq (⟨"MachineTextModel", "checkUnknown", "()V"⟩, 75) := ⟨⟨by decide +kernel, by decide +kernel⟩, lw_n10, lw_i9 (List.mem_of_getElem? (i := 58) rfl), lw_i9 (List.mem_of_getElem? (i := 59) rfl)⟩
set_option maxRecDepth 20000 in
theorem lw_p120 : lw_okq (⟨"MachineTextModel", "isNamed", "(I)Z"⟩, 75) := ⟨⟨by decide +kernel, by decide +kernel⟩, lw_n10, lw_i9 (List.mem_of_getElem? (i := 62) rfl), lw_i9 (List.mem_of_getElem? (i := 63) rfl)⟩
set_option maxRecDepth 20000 in
theorem lw_p121 : lw_okq (⟨"MachineTextModel", "checkMeaning", "()V"⟩, 75) := ⟨⟨by decide +kernel, by decide +kernel⟩, lw_n10, lw_i9 (List.mem_of_getElem? (i := 66) rfl), lw_i9 (List.mem_of_getElem? (i := 67) rfl)⟩
set_option maxRecDepth 20000 in
theorem lw_p122 : lw_okq (⟨"MachineTextModel", "isPlainReg", "(I)Z"⟩, 75) := ⟨⟨by decide +kernel, by decide +kernel⟩, lw_n10, lw_i9 (List.mem_of_getElem? (i := 70) rfl), lw_i9 (List.mem_of_getElem? (i := 71) rfl)⟩
set_option maxRecDepth 20000 in
theorem lw_p123 : lw_okq (⟨"MachineTextModel", "isRow", "(I)Z"⟩, 75) := ⟨⟨by decide +kernel, by decide +kernel⟩, lw_n10, lw_i9 (List.mem_of_getElem? (i := 74) rfl), lw_i9 (List.mem_of_getElem? (i := 75) rfl)⟩
set_option maxRecDepth 20000 in
theorem lw_p124 : lw_okq (⟨"MachineTextModel", "checkRings", "()V"⟩, 75) := ⟨⟨by decide +kernel, by decide +kernel⟩, lw_n10, lw_i9 (List.mem_of_getElem? (i := 78) rfl), lw_i9 (List.mem_of_getElem? (i := 79) rfl)⟩
set_option maxRecDepth 20000 in
theorem lw_p125 : lw_okq (⟨"MachineTextModel", "findFar", "(I)V"⟩, 75) := ⟨⟨by decide +kernel, by decide +kernel⟩, lw_n10, lw_i9 (List.mem_of_getElem? (i := 82) rfl), lw_i9 (List.mem_of_getElem? (i := 83) rfl)⟩
set_option maxRecDepth 20000 in
theorem lw_p126 : lw_okq (⟨"MachineTextModel", "nearest", "(I)I"⟩, 75) := ⟨⟨by decide +kernel, by decide +kernel⟩, lw_n10, lw_i9 (List.mem_of_getElem? (i := 86) rfl), lw_i9 (List.mem_of_getElem? (i := 87) rfl)⟩
set_option maxRecDepth 20000 in
theorem lw_p127 : lw_okq (⟨"MachineTextModel", "checkWidths", "()V"⟩, 75) := ⟨⟨by decide +kernel, by decide +kernel⟩, lw_n10, lw_i9 (List.mem_of_getElem? (i := 90) rfl), lw_i9 (List.mem_of_getElem? (i := 91) rfl)⟩
def lw_privs_8 : List (MethodName × Nat) := [(⟨"MachineTextModel", "first", "(I)V"⟩, 75), (⟨"MachineTextModel", "isBits", "(I)Z"⟩, 75), (⟨"MachineTextModel", "told", "(I)V"⟩, 75), (⟨"MachineTextModel", "checkTwice", "()V"⟩, 75), (⟨"MachineTextModel", "statementOf", "(I)I"⟩, 75), (⟨"MachineTextModel", "sameName", "(II)Z"⟩, 75), (⟨"MachineTextModel", "isOwn", "(III)Z"⟩, 75), (⟨"MachineTextModel", "checkUnknown", "()V"⟩, 75), (⟨"MachineTextModel", "isNamed", "(I)Z"⟩, 75), (⟨"MachineTextModel", "checkMeaning", "()V"⟩, 75), (⟨"MachineTextModel", "isPlainReg", "(I)Z"⟩, 75), (⟨"MachineTextModel", "isRow", "(I)Z"⟩, 75), (⟨"MachineTextModel", "checkRings", "()V"⟩, 75), (⟨"MachineTextModel", "findFar", "(I)V"⟩, 75), (⟨"MachineTextModel", "nearest", "(I)I"⟩, 75), (⟨"MachineTextModel", "checkWidths", "()V"⟩, 75)]
theorem lw_r8 : ∀ q ∈ lw_privs_8, lw_okq q := List.forall_mem_cons.mpr ⟨lw_p112, List.forall_mem_cons.mpr ⟨lw_p113, List.forall_mem_cons.mpr ⟨lw_p114, List.forall_mem_cons.mpr ⟨lw_p115, List.forall_mem_cons.mpr ⟨lw_p116, List.forall_mem_cons.mpr ⟨lw_p117, List.forall_mem_cons.mpr ⟨lw_p118, List.forall_mem_cons.mpr ⟨lw_p119, List.forall_mem_cons.mpr ⟨lw_p120, List.forall_mem_cons.mpr ⟨lw_p121, List.forall_mem_cons.mpr ⟨lw_p122, List.forall_mem_cons.mpr ⟨lw_p123, List.forall_mem_cons.mpr ⟨lw_p124, List.forall_mem_cons.mpr ⟨lw_p125, List.forall_mem_cons.mpr ⟨lw_p126, List.forall_mem_cons.mpr ⟨lw_p127, fun _ h => absurd h List.not_mem_nil⟩⟩⟩⟩⟩⟩⟩⟩⟩⟩⟩⟩⟩⟩⟩⟩
set_option maxRecDepth 20000 in
theorem lw_p128 : lw_okq (⟨"MachineTextModel", "kidWidth", "(II)I"⟩, 75) := ⟨⟨by decide +kernel, by decide +kernel⟩, lw_n10, lw_i9 (List.mem_of_getElem? (i := 94) rfl), lw_i9 (List.mem_of_getElem? (i := 95) rfl)⟩
set_option maxRecDepth 20000 in
theorem lw_p129 : lw_okq (⟨"MachineTextModel", "work", "(I)I"⟩, 75) := ⟨⟨by decide +kernel, by decide +kernel⟩, lw_n10, lw_i9 (List.mem_of_getElem? (i := 98) rfl), lw_i9 (List.mem_of_getElem? (i := 99) rfl)⟩
set_option maxRecDepth 20000 in
theorem lw_p130 : lw_okq (⟨"MachineTextModel", "widthOf", "(III)I"⟩, 75) := ⟨⟨by decide +kernel, by decide +kernel⟩, lw_n10, lw_i9 (List.mem_of_getElem? (i := 102) rfl), lw_i9 (List.mem_of_getElem? (i := 103) rfl)⟩
set_option maxRecDepth 20000 in
theorem lw_p131 : lw_okq (⟨"MachineTextModel", "indexWidth", "(I)I"⟩, 75) := ⟨⟨by decide +kernel, by decide +kernel⟩, lw_n10, lw_i9 (List.mem_of_getElem? (i := 106) rfl), lw_i9 (List.mem_of_getElem? (i := 107) rfl)⟩
set_option maxRecDepth 20000 in
theorem lw_p132 : lw_okq (⟨"MachineTextModel", "checkSet", "(I)V"⟩, 75) := ⟨⟨by decide +kernel, by decide +kernel⟩, lw_n10, lw_i9 (List.mem_of_getElem? (i := 110) rfl), lw_i9 (List.mem_of_getElem? (i := 111) rfl)⟩
set_option maxRecDepth 20000 in
theorem lw_p133 : lw_okq (⟨"MachineTextModel", "checkBits", "()V"⟩, 75) := ⟨⟨by decide +kernel, by decide +kernel⟩, lw_n10, lw_i9 (List.mem_of_getElem? (i := 114) rfl), lw_i9 (List.mem_of_getElem? (i := 115) rfl)⟩
set_option maxRecDepth 20000 in
theorem lw_p134 : lw_okq (⟨"MachineTextModel", "bitsOf", "(I)I"⟩, 75) := ⟨⟨by decide +kernel, by decide +kernel⟩, lw_n10, lw_i9 (List.mem_of_getElem? (i := 118) rfl), lw_i9 (List.mem_of_getElem? (i := 119) rfl)⟩
set_option maxRecDepth 20000 in
theorem lw_p135 : lw_okq (⟨"MachineTextModel", "isStatement", "(I)Z"⟩, 75) := ⟨⟨by decide +kernel, by decide +kernel⟩, lw_n10, lw_i9 (List.mem_of_getElem? (i := 130) rfl), lw_i9 (List.mem_of_getElem? (i := 131) rfl)⟩
set_option maxRecDepth 20000 in
theorem lw_p136 : lw_okq (⟨"MachineTextModel", "isBlank", "(II)Z"⟩, 75) := ⟨⟨by decide +kernel, by decide +kernel⟩, lw_n10, lw_i9 (List.mem_of_getElem? (i := 153) rfl), lw_i9 (List.mem_of_getElem? (i := 154) rfl)⟩
set_option maxRecDepth 20000 in
theorem lw_p137 : lw_okq (⟨"MachineTextModel", "say", "(I)V"⟩, 75) := ⟨⟨by decide +kernel, by decide +kernel⟩, lw_n10, lw_i9 (List.mem_of_getElem? (i := 160) rfl), lw_i9 (List.mem_of_getElem? (i := 161) rfl)⟩
set_option maxRecDepth 20000 in
theorem lw_p138 : lw_okq (⟨"MachineTextModel", "sayLexeme", "(I)V"⟩, 75) := ⟨⟨by decide +kernel, by decide +kernel⟩, lw_n10, lw_i9 (List.mem_of_getElem? (i := 164) rfl), lw_i9 (List.mem_of_getElem? (i := 165) rfl)⟩
def lw_privs_9 : List (MethodName × Nat) := [(⟨"MachineTextModel", "kidWidth", "(II)I"⟩, 75), (⟨"MachineTextModel", "work", "(I)I"⟩, 75), (⟨"MachineTextModel", "widthOf", "(III)I"⟩, 75), (⟨"MachineTextModel", "indexWidth", "(I)I"⟩, 75), (⟨"MachineTextModel", "checkSet", "(I)V"⟩, 75), (⟨"MachineTextModel", "checkBits", "()V"⟩, 75), (⟨"MachineTextModel", "bitsOf", "(I)I"⟩, 75), (⟨"MachineTextModel", "isStatement", "(I)Z"⟩, 75), (⟨"MachineTextModel", "isBlank", "(II)Z"⟩, 75), (⟨"MachineTextModel", "say", "(I)V"⟩, 75), (⟨"MachineTextModel", "sayLexeme", "(I)V"⟩, 75)]
theorem lw_r9 : ∀ q ∈ lw_privs_9, lw_okq q := List.forall_mem_cons.mpr ⟨lw_p128, List.forall_mem_cons.mpr ⟨lw_p129, List.forall_mem_cons.mpr ⟨lw_p130, List.forall_mem_cons.mpr ⟨lw_p131, List.forall_mem_cons.mpr ⟨lw_p132, List.forall_mem_cons.mpr ⟨lw_p133, List.forall_mem_cons.mpr ⟨lw_p134, List.forall_mem_cons.mpr ⟨lw_p135, List.forall_mem_cons.mpr ⟨lw_p136, List.forall_mem_cons.mpr ⟨lw_p137, List.forall_mem_cons.mpr ⟨lw_p138, fun _ h => absurd h List.not_mem_nil⟩⟩⟩⟩⟩⟩⟩⟩⟩⟩⟩
def lw_privs : List (MethodName × Nat) := lw_privs_1 ++ (lw_privs_2 ++ (lw_privs_3 ++ (lw_privs_4 ++ (lw_privs_5 ++ (lw_privs_6 ++ (lw_privs_7 ++ (lw_privs_8 ++ (lw_privs_9))))))))
def lw_tbl : List Cond := k2_sels lw_privs ++ tables_1
theorem lw_privs_ok : ∀ q ∈ lw_privs, lw_okq q := by
  show ∀ q ∈ lw_privs_1 ++ (lw_privs_2 ++ (lw_privs_3 ++ (lw_privs_4 ++ (lw_privs_5 ++ (lw_privs_6 ++ (lw_privs_7 ++ (lw_privs_8 ++ (lw_privs_9)))))))), lw_okq q
  exact List.forall_mem_append.mpr ⟨lw_r1, List.forall_mem_append.mpr ⟨lw_r2, List.forall_mem_append.mpr ⟨lw_r3, List.forall_mem_append.mpr ⟨lw_r4, List.forall_mem_append.mpr ⟨lw_r5, List.forall_mem_append.mpr ⟨lw_r6, List.forall_mem_append.mpr ⟨lw_r7, List.forall_mem_append.mpr ⟨lw_r8, lw_r9⟩⟩⟩⟩⟩⟩⟩⟩
/-! A call whose callee may return or throw. -/
section SOA
variable {l : Launch} {R : Room} {p : Program} {e : Env} {below : List Frame} {s : State} {sargs : Array Value} {m : MethodId} {meth : Method} {c : Code} {T : State} {locs : List Loc} {cells slots : Nat}
/-- how an invocation ends: the tables are warmer, nothing has moved but the slots L and at most k new cells of n slots -/
def so_End (first t : State) (L : List Loc) (k n : Nat) : Prop := first.WarmedH t.vm ∧ first.sameButNew ({ t with vm := first.vm } : State) L k n
/-- what the tables say of a method that is called -/
def so_Callee (y : MethodName) (maxL : Nat) (U : State) : Prop := ∃ (my : MethodId) (methY : Method) (cY : Code) (kY : Class), U.methodNamed? y = some my ∧ U.vm.method? my = some methY ∧ methY.code = some cY ∧ cY.maxLocals = maxL ∧ U.vm.classes[my.cls]? = some kY ∧ kY.init = .initialized
theorem so_call (X : Stand p l e R s m sargs below meth c T locs cells slots) {y : MethodName} {S : Spec} {P : Array Value → State → Prop} {Q : Array Value → State → Outcome → State → Prop} {maxL WW : Nat}
    (hM : MetFree l y S P (fun _ _ _ _ _ => True) Q) {g : JFrame} {ig : Instr} {len : Nat} (hg : g.method = m) (hsize : g.locals.size = c.maxLocals) (hdg : decode c.code g.pc = .ok (ig, len))
    (hW : 2 * g.monitorRoom + (g.stack.map fun v => v.category).sum ≤ WW) {mk : MethodId} (hn : T.methodNamed? y = some mk) {a : Array Value} (hC : so_Callee y maxL T)
    (hframes : S.room.frames + 1 ≤ R.frames) (hlocals : WW + (maxL + 11) + S.room.locals ≤ R.locals) (hcells : cells + S.room.cells ≤ R.cells) (hslots : slots + S.room.slots ≤ R.slots)
    (hpre : S.pre.before a T = true) (hP : P a (T.calling g mk a)) {k n : Nat} {PL : List Loc → Prop} (hQ : ∀ o t, Q a (T.calling g mk a) o t → ∃ L, so_End (T.calling g mk a) t L k n ∧ PL L) :
    ∃ (o : Outcome) (t T' : State) (L : List Loc), Q a (T.calling g mk a) o t ∧ so_End (T.calling g mk a) t L k n ∧ PL L ∧ Stand p l e R s m sargs below meth c T' (locs ++ L) (cells + k) (slots + n) ∧ T'.heap = t.heap ∧ T'.vm = t.vm ∧
      ((∃ v, o = .returned v ∧ Steps p.tables e below (doInvoke e (T.setTop g) [] mk a).1 (T'.setTop { g with pc := g.pc + len, stack := v.toList ++ g.stack })) ∨
       (∃ x, o = .threw x ∧ Steps p.tables e below (doInvoke e (T.setTop g) [] mk a).1 ((T'.setTop g).pushFrame (.throwing x)))) := by
  obtain ⟨my, methY, cY, kY, hn9, hmY, hcY, hlY, hkY, hinitY⟩ := hC
  cases hn.symm.trans hn9
  have h : At T g.method c below := by rw [hg]; exact X.here
  have happ : S.appliesLoose y e.platform (T.calling g mk a) = true :=
    Spec.appliesLoose_calling (g := g) h hdg hn hkY hinitY
      (X.room_calling (g := g) (R' := S.room) hsize hmY hcY hframes (by rw [hlY]; omega) hcells hslots) hpre
  obtain ⟨mid, hmid⟩ := h.above
  have hfr : (T.setTop g).frames = (.java g :: mid) ++ below := by rw [State.frames_setTop' g h.top, hmid]; rfl
  obtain ⟨o, s₂, hsteps, -, hend, hq⟩ := Steps.callFree hM p X.admits X.cas X.clock (acts := []) hfr happ hP trivial
  have hq' : Q a (T.calling g mk a) o s₂ := hq
  rw [State.frames_setTop' g h.top] at hend
  obtain ⟨L, hE, hPL⟩ := hQ _ _ hq'
  cases o with
  | returned v =>
    obtain ⟨hW₂, e2, q2, q3, q4, q5, q6⟩ := id hE
    have e3 : s₂ = ({ (T.calling g mk a).setFrames s₂.frames with heap := s₂.heap, slotsUsed := s₂.slotsUsed } : State).setVm s₂.vm := by
      have : s₂ = ({ s₂ with vm := (T.calling g mk a).vm } : State).setVm s₂.vm := rfl
      rw [e2] at this
      exact this
    obtain ⟨c₂, i₂, len₂, hc₂, hd₂, hf₂⟩ := hend
    have hW' : T.WarmedH s₂.vm := hW₂
    have hcc : c₂ = c := by
      have h1 : s₂.code? g.method = T.code? g.method := by
        rw [State.code?_eq, State.code?_eq, hW'.alike.method?]
      exact Option.some.inj (hc₂.symm.trans (h1.trans h.code))
    subst hcc
    have hlen : len₂ = len := by rw [hdg] at hd₂; cases hd₂; rfl
    subst hlen
    obtain ⟨g₀, hg0⟩ := Option.isSome_iff_exists.mp h.top
    obtain ⟨r, hr⟩ := State.topJava?_eq_some.mp hg0
    have hs₂ : s₂ = (({ T with heap := s₂.heap, slotsUsed := s₂.slotsUsed } : State).setVm s₂.vm).setTop { g with pc := g.pc + len₂, stack := v.toList ++ g.stack } := by
      have hr' : (({ T with heap := s₂.heap, slotsUsed := s₂.slotsUsed } : State).setVm s₂.vm).frames = .java g₀ :: r := hr
      refine e3.trans ?_
      rw [hf₂, State.calling_eq h.top, State.setFrames_setFrames, State.setTop_of_frames _ hr', hr]
      rfl
    have hsame : T.sameButNew ({ T with heap := s₂.heap, slotsUsed := s₂.slotsUsed } : State) L k n := by
      refine ⟨?_, q2, q3, q4, q5, q6⟩
      obtain ⟨t, ht, -⟩ := State.frames_cons hr
      show ({ T with heap := s₂.heap, slotsUsed := s₂.slotsUsed } : State) = { T.setFrames T.frames with heap := s₂.heap, slotsUsed := s₂.slotsUsed }
      rw [State.setFrames_self ht]
    subst hg
    refine ⟨.returned v, s₂, ({ T with heap := s₂.heap, slotsUsed := s₂.slotsUsed } : State).setVm s₂.vm, L, hq', hE, hPL,
      ⟨X.admits, X.cas, X.clock, X.frames, X.room, X.hears, X.method, X.code, (X.here.setHeapUsed s₂.heap s₂.slotsUsed).setVm hW'.alike, X.tail, State.WarmedH.trans X.warmed hW', X.limits, X.bytes, X.same.trans (hsame.setVm s.vm)⟩, rfl, rfl, Or.inl ⟨v, rfl, ?_⟩⟩
    rw [← hs₂]
    exact hsteps
  | threw x =>
    have htl : (T.frames.tail : List Frame) = below := X.tail
    rw [htl] at hend
    obtain ⟨T', X', hW', hB, ht⟩ := X.outOfThrown hg hend hE.1 hE.2
    refine ⟨.threw x, s₂, T', L, hq', hE, hPL, X', ?_, ?_, Or.inr ⟨x, rfl, ?_⟩⟩
    · rw [ht]; simp [State.pushFrame, State.setFrames, State.setTop, State.modifyTopJava]
    · rw [ht]; simp [State.pushFrame, State.setFrames, State.setTop, State.modifyTopJava]
    · rw [← ht]; exact hsteps
end SOA
/-! THE ABSTRACT MACHINE: ints and longs as Int, cells by their number, arrays and objects as functions. -/
/-- a value: an int, a long, a reference or null -/
abbrev ax_V : Type := Sum Int (Sum Int (Option Nat))
/-- the locals, by their places -/
abbrev ax_L : Type := List (Option ax_V)
/-- the heap: how many cells were made, of how many slots; each cell's kind and length, its numbers, its references; which cells are exceptions -/
abbrev ax_H : Type := Nat × Nat × (Nat → Nat × Nat) × (Nat → Nat → Int) × (Nat → Nat → Option Nat) × (Nat → Nat)
def ax_w32 (z : Int) : Int := Int.bmod z 4294967296
def ax_w64 (z : Int) : Int := Int.bmod z 18446744073709551616
def ax_w8 (z : Int) : Int := Int.bmod z 256
def ax_w16 (z : Int) : Int := Int.bmod z 65536
def ax_u16 (z : Int) : Int := z % 65536
def ax_cat (v : ax_V) : Nat := match v with
  | .inr (.inl _) => 2
  | _ => 1
/-- is the place before it a long's? then that is gone -/
def ax_cut (ls : ax_L) (i : Nat) : ax_L := match i with
  | 0 => ls
  | j + 1 => match ls[j]? with
    | some (some (.inr (.inl _))) => ls.set j none
    | _ => ls
def ax_st1 (ls : ax_L) (i : Nat) (v : ax_V) : ax_L := (ax_cut ls i).set i (some v)
def ax_st2 (ls : ax_L) (i : Nat) (v : ax_V) : ax_L := ((ax_cut ls i).set i (some v)).set (i + 1) none
def ax_ld (ls : ax_L) (i : Nat) : Option ax_V := match ls[i]? with
  | some (some v) => some v
  | _ => none
def ax_iload (ls : ax_L) (st : List ax_V) (i : Nat) : Option (ax_L × List ax_V) := match ax_ld ls i with
  | some (.inl x) => some (ls, .inl x :: st)
  | _ => none
def ax_lload (ls : ax_L) (st : List ax_V) (i : Nat) : Option (ax_L × List ax_V) := match ax_ld ls i with
  | some (.inr (.inl x)) => some (ls, .inr (.inl x) :: st)
  | _ => none
def ax_aload (ls : ax_L) (st : List ax_V) (i : Nat) : Option (ax_L × List ax_V) := match ax_ld ls i with
  | some (.inr (.inr x)) => some (ls, .inr (.inr x) :: st)
  | _ => none
def ax_istore (ls : ax_L) (st : List ax_V) (i : Nat) : Option (ax_L × List ax_V) := match st with
  | .inl x :: r => if i < ls.length then some (ax_st1 ls i (.inl x), r) else none
  | _ => none
def ax_lstore (ls : ax_L) (st : List ax_V) (i : Nat) : Option (ax_L × List ax_V) := match st with
  | .inr (.inl x) :: r => if i + 1 < ls.length then some (ax_st2 ls i (.inr (.inl x)), r) else none
  | _ => none
def ax_astore (ls : ax_L) (st : List ax_V) (i : Nat) : Option (ax_L × List ax_V) := match st with
  | .inr (.inr x) :: r => if i < ls.length then some (ax_st1 ls i (.inr (.inr x)), r) else none
  | _ => none
def ax_iinc (ls : ax_L) (st : List ax_V) (i : Nat) (n : Int) : Option (ax_L × List ax_V) := match ax_ld ls i with
  | some (.inl x) => some (ax_st1 ls i (.inl (ax_w32 (x + n))), st)
  | _ => none
/-- two ints to an int -/
def ax_ii (f : Int → Int → Int) (ls : ax_L) (st : List ax_V) : Option (ax_L × List ax_V) := match st with
  | .inl y :: .inl x :: r => some (ls, .inl (f x y) :: r)
  | _ => none
def ax_ll (f : Int → Int → Int) (ls : ax_L) (st : List ax_V) : Option (ax_L × List ax_V) := match st with
  | .inr (.inl y) :: .inr (.inl x) :: r => some (ls, .inr (.inl (f x y)) :: r)
  | _ => none
/-- a long and an int to a long: the shifts -/
def ax_li (f : Int → Int → Int) (ls : ax_L) (st : List ax_V) : Option (ax_L × List ax_V) := match st with
  | .inl y :: .inr (.inl x) :: r => some (ls, .inr (.inl (f x y)) :: r)
  | _ => none
def ax_i1 (f : Int → ax_V) (ls : ax_L) (st : List ax_V) : Option (ax_L × List ax_V) := match st with
  | .inl x :: r => some (ls, f x :: r)
  | _ => none
def ax_l1 (f : Int → ax_V) (ls : ax_L) (st : List ax_V) : Option (ax_L × List ax_V) := match st with
  | .inr (.inl x) :: r => some (ls, f x :: r)
  | _ => none
def ax_iand (x y : Int) : Int := (Int32.ofInt x &&& Int32.ofInt y).toInt
def ax_ior (x y : Int) : Int := (Int32.ofInt x ||| Int32.ofInt y).toInt
def ax_ixor (x y : Int) : Int := (Int32.ofInt x ^^^ Int32.ofInt y).toInt
def ax_ishl (x y : Int) : Int := (Int32.ofInt x <<< (Int32.ofInt y &&& 31)).toInt
def ax_ishr (x y : Int) : Int := (Int32.ofInt x >>> (Int32.ofInt y &&& 31)).toInt
def ax_iushr (x y : Int) : Int := ((Int32.ofInt x).toUInt32 >>> ((Int32.ofInt y).toUInt32 &&& Int32.toUInt32 31)).toInt32.toInt
def ax_land (x y : Int) : Int := (Int64.ofInt x &&& Int64.ofInt y).toInt
def ax_lor (x y : Int) : Int := (Int64.ofInt x ||| Int64.ofInt y).toInt
def ax_lxor (x y : Int) : Int := (Int64.ofInt x ^^^ Int64.ofInt y).toInt
def ax_lshl (x y : Int) : Int := (Int64.ofInt x <<< ((Int32.ofInt y).toInt64 &&& 63)).toInt
def ax_lshr (x y : Int) : Int := (Int64.ofInt x >>> ((Int32.ofInt y).toInt64 &&& 63)).toInt
def ax_lushr (x y : Int) : Int := ((Int64.ofInt x).toUInt64 >>> ((Int32.ofInt y).toInt64.toUInt64 &&& Int64.toUInt64 63)).toInt64.toInt
def ax_idiv (x y : Int) : Int := (Int32.ofInt x / Int32.ofInt y).toInt
def ax_irem (x y : Int) : Int := (Int32.ofInt x - Int32.ofInt x / Int32.ofInt y * Int32.ofInt y).toInt
def ax_ldiv (x y : Int) : Int := (Int64.ofInt x / Int64.ofInt y).toInt
def ax_lrem (x y : Int) : Int := (Int64.ofInt x - Int64.ofInt x / Int64.ofInt y * Int64.ofInt y).toInt
def ax_cmp (x y : Int) : Int := if y < x then 1 else if x = y then 0 else -1
/-- how long an instruction is (the switches aside) -/
def ax_len (i : Instr) : Nat := match i with
  | .bipush _ => 2
  | .iload _ => 2
  | .lload _ => 2
  | .aload _ => 2
  | .istore _ => 2
  | .lstore _ => 2
  | .astore _ => 2
  | .ldc _ => 2
  | .newarray _ => 2
  | .sipush _ => 3
  | .iinc _ _ => 3
  | .ifCond _ _ => 3
  | .if_icmp _ _ => 3
  | .if_acmp _ _ => 3
  | .goto _ => 3
  | .getfield _ => 3
  | .putfield _ => 3
  | .getstatic _ => 3
  | .ldc2_w _ => 3
  | .ldc_w _ => 3
  | .new _ => 3
  | .anewarray _ => 3
  | .invokevirtual _ => 3
  | .invokespecial _ => 3
  | .invokestatic _ => 3
  | .checkcast _ => 3
  | _ => 1
/-- the operands are what the machine takes as they are -/
def ax_fine (i : Instr) : Bool := match i with
  | .iconst n => decide ((Int32.ofInt n).toInt = n)
  | .bipush n => decide ((Int8.ofInt n).toInt32.toInt = n)
  | .sipush n => decide ((Int16.ofInt n).toInt32.toInt = n)
  | .iinc _ n => decide ((Int32.ofInt n).toInt = n)
  | .lookupswitch _ ps => (ps.toList.zip (ps.toList.drop 1)).all (fun (a, next) => a.1 < next.1)
  | _ => true
/-- what an instruction without heap and jump does to locals and stack -/
def ax_pure (i : Instr) (ls : ax_L) (st : List ax_V) : Option (ax_L × List ax_V) := match i with
  | .iconst n => some (ls, .inl n :: st)
  | .bipush n => some (ls, .inl n :: st)
  | .sipush n => some (ls, .inl n :: st)
  | .lconst n => some (ls, .inr (.inl (n.val : Int)) :: st)
  | .aconst_null => some (ls, .inr (.inr none) :: st)
  | .iload k => ax_iload ls st k
  | .iload_n k => ax_iload ls st k.val
  | .lload k => ax_lload ls st k
  | .lload_n k => ax_lload ls st k.val
  | .aload k => ax_aload ls st k
  | .aload_n k => ax_aload ls st k.val
  | .istore k => ax_istore ls st k
  | .istore_n k => ax_istore ls st k.val
  | .lstore k => ax_lstore ls st k
  | .lstore_n k => ax_lstore ls st k.val
  | .astore k => ax_astore ls st k
  | .astore_n k => ax_astore ls st k.val
  | .iinc k n => ax_iinc ls st k n
  | .iadd => ax_ii (fun x y => ax_w32 (x + y)) ls st
  | .isub => ax_ii (fun x y => ax_w32 (x - y)) ls st
  | .imul => ax_ii (fun x y => ax_w32 (x * y)) ls st
  | .iand => ax_ii ax_iand ls st
  | .ior => ax_ii ax_ior ls st
  | .ixor => ax_ii ax_ixor ls st
  | .ishl => ax_ii ax_ishl ls st
  | .ishr => ax_ii ax_ishr ls st
  | .iushr => ax_ii ax_iushr ls st
  | .ineg => ax_i1 (fun x => .inl (ax_w32 (-x))) ls st
  | .ladd => ax_ll (fun x y => ax_w64 (x + y)) ls st
  | .lsub => ax_ll (fun x y => ax_w64 (x - y)) ls st
  | .lmul => ax_ll (fun x y => ax_w64 (x * y)) ls st
  | .land => ax_ll ax_land ls st
  | .lor => ax_ll ax_lor ls st
  | .lxor => ax_ll ax_lxor ls st
  | .lneg => ax_l1 (fun x => .inr (.inl (ax_w64 (-x)))) ls st
  | .lshl => ax_li ax_lshl ls st
  | .lshr => ax_li ax_lshr ls st
  | .lushr => ax_li ax_lushr ls st
  | .i2l => ax_i1 (fun x => .inr (.inl x)) ls st
  | .l2i => ax_l1 (fun x => .inl (ax_w32 x)) ls st
  | .i2b => ax_i1 (fun x => .inl (ax_w8 x)) ls st
  | .i2s => ax_i1 (fun x => .inl (ax_w16 x)) ls st
  | .i2c => ax_i1 (fun x => .inl (ax_u16 x)) ls st
  | .lcmp => match st with
    | .inr (.inl y) :: .inr (.inl x) :: r => some (ls, .inl (ax_cmp x y) :: r)
    | _ => none
  | .dup => match st with
    | a :: r => if ax_cat a = 1 then some (ls, a :: a :: r) else none
    | _ => none
  | .pop => match st with
    | a :: r => if ax_cat a = 1 then some (ls, r) else none
    | _ => none
  | .dup_x1 => match st with
    | a :: b :: r => if ax_cat a = 1 ∧ ax_cat b = 1 then some (ls, a :: b :: a :: r) else none
    | _ => none
  | .dup_x2 => match st with
    | a :: b :: d :: r => if ax_cat a = 1 ∧ ax_cat b = 1 ∧ ax_cat d = 1 then some (ls, a :: b :: d :: a :: r) else none
    | _ => none
  | .dup2 => match st with
    | a :: b :: r => if ax_cat a = 1 ∧ ax_cat b = 1 then some (ls, a :: b :: a :: b :: r) else none
    | _ => none
  | .idiv => match st with
    | .inl y :: .inl x :: r => if y = 0 then none else some (ls, .inl (ax_idiv x y) :: r)
    | _ => none
  | .irem => match st with
    | .inl y :: .inl x :: r => if y = 0 then none else some (ls, .inl (ax_irem x y) :: r)
    | _ => none
  | .ldiv => match st with
    | .inr (.inl y) :: .inr (.inl x) :: r => if y = 0 then none else some (ls, .inr (.inl (ax_ldiv x y)) :: r)
    | _ => none
  | .lrem => match st with
    | .inr (.inl y) :: .inr (.inl x) :: r => if y = 0 then none else some (ls, .inr (.inl (ax_lrem x y)) :: r)
    | _ => none
  | _ => none
/-- the place that is jumped to -/
def ax_to (pc : Nat) (off : Int) : Nat := ((pc : Int) + off).toNat
def ax_jif (t : Prop) [Decidable t] (pc : Nat) (off : Int) (r : List ax_V) : Option (Nat × List ax_V) := if t then some (ax_to pc off, r) else some (pc + 3, r)
/-- what a jump does -/
def ax_jump (i : Instr) (pc : Nat) (st : List ax_V) : Option (Nat × List ax_V) := match i with
  | .goto off => some (ax_to pc off, st)
  | .ifCond cd off => match st with
    | .inl x :: r => match cd with
      | .eq => ax_jif (x = 0) pc off r
      | .ne => ax_jif (¬ x = 0) pc off r
      | .lt => ax_jif (x < 0) pc off r
      | .ge => ax_jif (0 ≤ x) pc off r
      | .gt => ax_jif (0 < x) pc off r
      | .le => ax_jif (x ≤ 0) pc off r
    | _ => none
  | .if_icmp cd off => match st with
    | .inl y :: .inl x :: r => match cd with
      | .eq => ax_jif (x = y) pc off r
      | .ne => ax_jif (¬ x = y) pc off r
      | .lt => ax_jif (x < y) pc off r
      | .ge => ax_jif (y ≤ x) pc off r
      | .gt => ax_jif (y < x) pc off r
      | .le => ax_jif (x ≤ y) pc off r
    | _ => none
  | .tableswitch d lo hi offs => match st with
    | .inl x :: r => if x < lo ∨ hi < x then some (ax_to pc d, r) else match offs[(x - lo).toNat]? with
      | some off => some (ax_to pc off, r)
      | none => none
    | _ => none
  | .lookupswitch d ps => match st with
    | .inl x :: r => some (ax_to pc (Op.lookupswitch.offset ps.toList d x), r)
    | _ => none
  | _ => none
/-! THE ABSTRACT MACHINE's values, locals and stack beside the machine's own. -/
def so_v (ad : Nat → Option Nat) (v : ax_V) : Value := match v with
  | .inl z => .int (Int32.ofInt z)
  | .inr (.inl z) => .long (Int64.ofInt z)
  | .inr (.inr none) => .null
  | .inr (.inr (some a)) => va_rf (ad a)
def so_ok (v : ax_V) : Prop := match v with
  | .inl z => (Int32.ofInt z).toInt = z
  | .inr (.inl z) => (Int64.ofInt z).toInt = z
  | .inr (.inr _) => True
def so_okL (ls : ax_L) : Prop := ∀ (i : Nat) (v : ax_V), ls[i]? = some (some v) → so_ok v
def so_okS (st : List ax_V) : Prop := ∀ v ∈ st, so_ok v
def so_prs (ad : Nat → Option Nat) : Nat → ax_L → List (Nat × Value)
  | _, [] => []
  | k, none :: r => so_prs ad (k + 1) r
  | k, some v :: r => (k, so_v ad v) :: so_prs ad (k + 1) r
theorem so_cat (ad : Nat → Option Nat) (v : ax_V) : (so_v ad v).category = ax_cat v := by
  rcases v with z | z | _ | a
  · rfl
  · rfl
  · rfl
  · show (va_rf (ad a)).category = 1
    cases ad a <;> rfl
theorem so_prs_of (ad : Nat → Option Nat) : ∀ (ls : ax_L) (k : Nat) (q : Nat × Value), q ∈ so_prs ad k ls → ∃ (j : Nat) (v : ax_V), q = (k + j, so_v ad v) ∧ ls[j]? = some (some v) := by
  intro ls
  induction ls with
  | nil => intro k q h; cases h
  | cons a r ih =>
    intro k q h
    cases a with
    | none =>
      obtain ⟨j, v, e, g⟩ := ih (k + 1) q h
      exact ⟨j + 1, v, by rw [e]; congr 1; omega, by simpa using g⟩
    | some w =>
      rcases List.mem_cons.mp h with h | h
      · exact ⟨0, w, h, rfl⟩
      · obtain ⟨j, v, e, g⟩ := ih (k + 1) q h
        exact ⟨j + 1, v, by rw [e]; congr 1; omega, by simpa using g⟩
theorem so_prs_to (ad : Nat → Option Nat) : ∀ (ls : ax_L) (k j : Nat) (v : ax_V), ls[j]? = some (some v) → (k + j, so_v ad v) ∈ so_prs ad k ls := by
  intro ls
  induction ls with
  | nil => intro k j v h; simp at h
  | cons a r ih =>
    intro k j v h
    cases j with
    | zero =>
      have h : a = some v := by simpa using h
      subst h
      exact List.mem_cons_self
    | succ j =>
      have h : r[j]? = some (some v) := by simpa using h
      have h2 := ih (k + 1) j v h
      have e : k + 1 + j = k + (j + 1) := by omega
      rw [e] at h2
      cases a with
      | none => exact h2
      | some w => exact List.mem_cons_of_mem _ h2
/-- the machine's locals hold the abstract ones -/
def so_L (ad : Nat → Option Nat) (lsA : Array Slot) (nL : Nat) (ls : ax_L) : Prop := ls.length = nL ∧ lv_has lsA nL (so_prs ad 0 ls)
theorem so_L.get {ad : Nat → Option Nat} {lsA : Array Slot} {nL : Nat} {ls : ax_L} (h : so_L ad lsA nL ls) {i : Nat} {v : ax_V} (hi : ls[i]? = some (some v)) : lsA[i]? = some (.val (so_v ad v)) := by
  have h2 := so_prs_to ad ls 0 i v hi
  rw [Nat.zero_add] at h2
  exact h.2.2.2 _ h2
theorem so_cut_len (ls : ax_L) (i : Nat) : (ax_cut ls i).length = ls.length := by
  unfold ax_cut
  cases i with
  | zero => rfl
  | succ j => dsimp only; split <;> simp
theorem so_cut {ls : ax_L} {i j : Nat} {u : ax_V} (h : (ax_cut ls i)[j]? = some (some u)) : ls[j]? = some (some u) ∧ ¬ (j + 1 = i ∧ ax_cat u = 2) := by
  unfold ax_cut at h
  cases i with
  | zero => exact ⟨h, by omega⟩
  | succ k =>
    dsimp only at h
    split at h
    · rename_i z hz
      by_cases e : j = k
      · subst e
        rw [List.getElem?_set] at h
        simp only [if_true] at h
        split at h <;> cases h
      · rw [List.getElem?_set_ne (fun q => e q.symm)] at h
        exact ⟨h, by omega⟩
    · rename_i hz
      refine ⟨h, ?_⟩
      rintro ⟨e, g⟩
      have e : j = k := by omega
      subst e
      rcases u with z | z | z
      · simp [ax_cat] at g
      · exact hz z h
      · simp [ax_cat] at g
theorem so_st1_len (ls : ax_L) (i : Nat) (v : ax_V) : (ax_st1 ls i v).length = ls.length := by simp [ax_st1, so_cut_len]
theorem so_st2_len (ls : ax_L) (i : Nat) (v : ax_V) : (ax_st2 ls i v).length = ls.length := by simp [ax_st2, so_cut_len]
theorem so_st1_get {ls : ax_L} {i j : Nat} {v u : ax_V} (h : (ax_st1 ls i v)[j]? = some (some u)) : (j = i ∧ u = v) ∨ (j ≠ i ∧ ls[j]? = some (some u) ∧ ¬ (j + 1 = i ∧ ax_cat u = 2)) := by
  unfold ax_st1 at h
  by_cases e : j = i
  · subst e
    rw [List.getElem?_set] at h
    simp only [if_true] at h
    split at h
    · exact Or.inl ⟨rfl, (Option.some.inj (Option.some.inj h)).symm⟩
    · cases h
  · rw [List.getElem?_set_ne (fun q => e q.symm)] at h
    exact Or.inr ⟨e, so_cut h⟩
theorem so_st2_get {ls : ax_L} {i j : Nat} {v u : ax_V} (h : (ax_st2 ls i v)[j]? = some (some u)) : (j = i ∧ u = v) ∨ (j ≠ i ∧ j ≠ i + 1 ∧ ls[j]? = some (some u) ∧ ¬ (j + 1 = i ∧ ax_cat u = 2)) := by
  unfold ax_st2 at h
  by_cases e1 : j = i + 1
  · subst e1
    rw [List.getElem?_set] at h
    simp only [if_true] at h
    split at h <;> cases h
  · rw [List.getElem?_set_ne (fun q => e1 q.symm)] at h
    rcases so_st1_get (ls := ls) (i := i) (v := v) h with h | ⟨a, b⟩
    · exact Or.inl h
    · exact Or.inr ⟨a, e1, b⟩
theorem so_L.st1 {ad : Nat → Option Nat} {lsA lsB : Array Slot} {nL : Nat} {ls : ax_L} {i : Nat} {v : ax_V} (h : so_L ad lsA nL ls) (hs : lv_has lsB nL ((i, so_v ad v) :: (so_prs ad 0 ls).filter (fun q => !(q.1 == i) && !(q.1 + 1 == i && q.2.category == 2)))) : so_L ad lsB nL (ax_st1 ls i v) := by
  refine ⟨by rw [so_st1_len]; exact h.1, hs.1, hs.2.1, fun q hq => ?_⟩
  obtain ⟨j, u, e, g⟩ := so_prs_of ad _ 0 q hq
  rw [Nat.zero_add] at e
  subst e
  rcases so_st1_get g with ⟨e1, e2⟩ | ⟨e1, e2, e3⟩
  · subst e1; subst e2
    exact hs.2.2 _ List.mem_cons_self
  · refine hs.2.2 _ (List.mem_cons_of_mem _ (List.mem_filter.mpr ⟨?_, ?_⟩))
    · have h2 := so_prs_to ad ls 0 j u e2
      rw [Nat.zero_add] at h2
      exact h2
    · rw [so_cat]
      simp only [Bool.and_eq_true, Bool.not_eq_true', beq_eq_false_iff_ne, ne_eq, Bool.and_eq_false_iff]
      refine ⟨e1, ?_⟩
      by_cases z : j + 1 = i
      · exact Or.inr (fun w => e3 ⟨z, w⟩)
      · exact Or.inl z
theorem so_L.st2 {ad : Nat → Option Nat} {lsA lsB : Array Slot} {nL : Nat} {ls : ax_L} {i : Nat} {v : ax_V} (h : so_L ad lsA nL ls) (hs : lv_has lsB nL ((i, so_v ad v) :: (so_prs ad 0 ls).filter (fun q => !(q.1 == i) && (!(q.1 == i + 1) && !(q.1 + 1 == i && q.2.category == 2))))) : so_L ad lsB nL (ax_st2 ls i v) := by
  refine ⟨by rw [so_st2_len]; exact h.1, hs.1, hs.2.1, fun q hq => ?_⟩
  obtain ⟨j, u, e, g⟩ := so_prs_of ad _ 0 q hq
  rw [Nat.zero_add] at e
  subst e
  rcases so_st2_get g with ⟨e1, e2⟩ | ⟨e1, e0, e2, e3⟩
  · subst e1; subst e2
    exact hs.2.2 _ List.mem_cons_self
  · refine hs.2.2 _ (List.mem_cons_of_mem _ (List.mem_filter.mpr ⟨?_, ?_⟩))
    · have h2 := so_prs_to ad ls 0 j u e2
      rw [Nat.zero_add] at h2
      exact h2
    · rw [so_cat]
      simp only [Bool.and_eq_true, Bool.not_eq_true', beq_eq_false_iff_ne, ne_eq, Bool.and_eq_false_iff]
      refine ⟨e1, e0, ?_⟩
      by_cases z : j + 1 = i
      · exact Or.inr (fun w => e3 ⟨z, w⟩)
      · exact Or.inl z
theorem so_okL.st1 {ls : ax_L} {i : Nat} {v : ax_V} (h : so_okL ls) (hv : so_ok v) : so_okL (ax_st1 ls i v) := by
  intro j u g
  rcases so_st1_get g with ⟨-, e⟩ | ⟨-, e, -⟩
  · rw [e]; exact hv
  · exact h j u e
theorem so_okL.st2 {ls : ax_L} {i : Nat} {v : ax_V} (h : so_okL ls) (hv : so_ok v) : so_okL (ax_st2 ls i v) := by
  intro j u g
  rcases so_st2_get g with ⟨-, e⟩ | ⟨-, -, e, -⟩
  · rw [e]; exact hv
  · exact h j u e
theorem so_ld {ls : ax_L} {i : Nat} {v : ax_V} (h : ax_ld ls i = some v) : ls[i]? = some (some v) := by
  unfold ax_ld at h
  split at h
  · rename_i w e
    rw [e, Option.some.inj h]
  · cases h
/-! numbers -/
theorem so_w32 (z : Int) : (Int32.ofInt (ax_w32 z)) = Int32.ofInt z := by
  apply Int32.toInt_inj.mp
  simp [ax_w32, Int32.toInt_ofInt, Int32.size]
theorem so_w32_ok (z : Int) : (Int32.ofInt (ax_w32 z)).toInt = ax_w32 z := by
  rw [so_w32]
  simp [ax_w32, Int32.toInt_ofInt, Int32.size]
theorem so_w64 (z : Int) : (Int64.ofInt (ax_w64 z)) = Int64.ofInt z := by
  apply Int64.toInt_inj.mp
  simp [ax_w64, Int64.toInt_ofInt, Int64.size]
theorem so_w64_ok (z : Int) : (Int64.ofInt (ax_w64 z)).toInt = ax_w64 z := by
  rw [so_w64]
  simp [ax_w64, Int64.toInt_ofInt, Int64.size]
theorem so_oi (x : Int32) : Int32.ofInt x.toInt = x := Int32.ofInt_toInt x
theorem so_ol (x : Int64) : Int64.ofInt x.toInt = x := Int64.ofInt_toInt x
/-! AN INSTRUCTION WITHOUT HEAP AND JUMP. -/
theorem so_okS.cons {v : ax_V} {r : List ax_V} (h : so_ok v) (hr : so_okS r) : so_okS (v :: r) := fun w hw => by
  rcases List.mem_cons.mp hw with e | e
  · rw [e]; exact h
  · exact hr w e
theorem so_okS.hd {v : ax_V} {r : List ax_V} (h : so_okS (v :: r)) : so_ok v := h v List.mem_cons_self
theorem so_okS.tl {v : ax_V} {r : List ax_V} (h : so_okS (v :: r)) : so_okS r := fun w hw => h w (List.mem_cons_of_mem _ hw)
theorem so_i_ok (x : Int32) : so_ok (.inl x.toInt) := by show (Int32.ofInt x.toInt).toInt = x.toInt; rw [so_oi]
theorem so_l_ok (x : Int64) : so_ok (.inr (.inl x.toInt)) := by show (Int64.ofInt x.toInt).toInt = x.toInt; rw [so_ol]
section SOP
variable {p : Program} {l : Launch} {e : Env} {R : Room} {s : State} {m : MethodId} {args : Array Value} {below : List Frame} {meth : Method} {c : Code} {H : Heap} {locs : List Loc} {cells slots : Nat} {Q : State → Prop}
variable {cc : ByteArray} {pc nL : Nat} {lsA : Array Slot} {ls ls' : ax_L} {st st' : List ax_V} {ad : Nat → Option Nat}
theorem so_ii {f : Int → Int → Int} (F : Int32 → Int32 → Int32) (row : ∀ (rest : List Value) (x y : Int32), W p l e R s m args below meth c H locs cells slots Q (F0 m (pc + 1) lsA (.int (F x y) :: rest)) → W p l e R s m args below meth c H locs cells slots Q (F0 m pc lsA (.int y :: .int x :: rest)))
    (hf : ∀ x y : Int, Int32.ofInt (f x y) = F (Int32.ofInt x) (Int32.ofInt y)) (hr : ∀ x y : Int, (Int32.ofInt (f x y)).toInt = f x y) (hL : so_L ad lsA nL ls) (okL : so_okL ls) (okS : so_okS st) (h : ax_ii f ls st = some (ls', st'))
    (k : ∀ lsB : Array Slot, so_L ad lsB nL ls' → so_okL ls' → so_okS st' → W p l e R s m args below meth c H locs cells slots Q (F0 m (pc + 1) lsB (st'.map (so_v ad)))) : W p l e R s m args below meth c H locs cells slots Q (F0 m pc lsA (st.map (so_v ad))) := by
  unfold ax_ii at h
  split at h
  · rename_i y x r
    cases h
    refine row _ _ _ ?_
    rw [← hf]
    exact k lsA hL okL (so_okS.cons (hr x y) okS.tl.tl)
  · cases h
theorem so_ll {f : Int → Int → Int} (F : Int64 → Int64 → Int64) (row : ∀ (rest : List Value) (x y : Int64), W p l e R s m args below meth c H locs cells slots Q (F0 m (pc + 1) lsA (.long (F x y) :: rest)) → W p l e R s m args below meth c H locs cells slots Q (F0 m pc lsA (.long y :: .long x :: rest)))
    (hf : ∀ x y : Int, Int64.ofInt (f x y) = F (Int64.ofInt x) (Int64.ofInt y)) (hr : ∀ x y : Int, (Int64.ofInt (f x y)).toInt = f x y) (hL : so_L ad lsA nL ls) (okL : so_okL ls) (okS : so_okS st) (h : ax_ll f ls st = some (ls', st'))
    (k : ∀ lsB : Array Slot, so_L ad lsB nL ls' → so_okL ls' → so_okS st' → W p l e R s m args below meth c H locs cells slots Q (F0 m (pc + 1) lsB (st'.map (so_v ad)))) : W p l e R s m args below meth c H locs cells slots Q (F0 m pc lsA (st.map (so_v ad))) := by
  unfold ax_ll at h
  split at h
  · rename_i y x r
    cases h
    refine row _ _ _ ?_
    rw [← hf]
    exact k lsA hL okL (so_okS.cons (hr x y) okS.tl.tl)
  · cases h
theorem so_li {f : Int → Int → Int} (F : Int64 → Int32 → Int64) (row : ∀ (rest : List Value) (x : Int64) (y : Int32), W p l e R s m args below meth c H locs cells slots Q (F0 m (pc + 1) lsA (.long (F x y) :: rest)) → W p l e R s m args below meth c H locs cells slots Q (F0 m pc lsA (.int y :: .long x :: rest)))
    (hf : ∀ x y : Int, Int64.ofInt (f x y) = F (Int64.ofInt x) (Int32.ofInt y)) (hr : ∀ x y : Int, (Int64.ofInt (f x y)).toInt = f x y) (hL : so_L ad lsA nL ls) (okL : so_okL ls) (okS : so_okS st) (h : ax_li f ls st = some (ls', st'))
    (k : ∀ lsB : Array Slot, so_L ad lsB nL ls' → so_okL ls' → so_okS st' → W p l e R s m args below meth c H locs cells slots Q (F0 m (pc + 1) lsB (st'.map (so_v ad)))) : W p l e R s m args below meth c H locs cells slots Q (F0 m pc lsA (st.map (so_v ad))) := by
  unfold ax_li at h
  split at h
  · rename_i y x r
    cases h
    refine row _ _ _ ?_
    rw [← hf]
    exact k lsA hL okL (so_okS.cons (hr x y) okS.tl.tl)
  · cases h
theorem so_i1 {f : Int → ax_V} (F : Int32 → Value) (row : ∀ (rest : List Value) (x : Int32), W p l e R s m args below meth c H locs cells slots Q (F0 m (pc + 1) lsA (F x :: rest)) → W p l e R s m args below meth c H locs cells slots Q (F0 m pc lsA (.int x :: rest)))
    (hf : ∀ x : Int, (Int32.ofInt x).toInt = x → so_v ad (f x) = F (Int32.ofInt x) ∧ so_ok (f x)) (hL : so_L ad lsA nL ls) (okL : so_okL ls) (okS : so_okS st) (h : ax_i1 f ls st = some (ls', st'))
    (k : ∀ lsB : Array Slot, so_L ad lsB nL ls' → so_okL ls' → so_okS st' → W p l e R s m args below meth c H locs cells slots Q (F0 m (pc + 1) lsB (st'.map (so_v ad)))) : W p l e R s m args below meth c H locs cells slots Q (F0 m pc lsA (st.map (so_v ad))) := by
  unfold ax_i1 at h
  split at h
  · rename_i x r
    cases h
    refine row _ _ ?_
    rw [← (hf x okS.hd).1]
    exact k lsA hL okL (so_okS.cons (hf x okS.hd).2 okS.tl)
  · cases h
theorem so_l1 {f : Int → ax_V} (F : Int64 → Value) (row : ∀ (rest : List Value) (x : Int64), W p l e R s m args below meth c H locs cells slots Q (F0 m (pc + 1) lsA (F x :: rest)) → W p l e R s m args below meth c H locs cells slots Q (F0 m pc lsA (.long x :: rest)))
    (hf : ∀ x : Int, (Int64.ofInt x).toInt = x → so_v ad (f x) = F (Int64.ofInt x) ∧ so_ok (f x)) (hL : so_L ad lsA nL ls) (okL : so_okL ls) (okS : so_okS st) (h : ax_l1 f ls st = some (ls', st'))
    (k : ∀ lsB : Array Slot, so_L ad lsB nL ls' → so_okL ls' → so_okS st' → W p l e R s m args below meth c H locs cells slots Q (F0 m (pc + 1) lsB (st'.map (so_v ad)))) : W p l e R s m args below meth c H locs cells slots Q (F0 m pc lsA (st.map (so_v ad))) := by
  unfold ax_l1 at h
  split at h
  · rename_i x r
    cases h
    refine row _ _ ?_
    rw [← (hf x okS.hd).1]
    exact k lsA hL okL (so_okS.cons (hf x okS.hd).2 okS.tl)
  · cases h
theorem so_iload {i n : Nat} (row : ∀ (rest : List Value) (x : Int32), lsA[i]? = some (.val (.int x)) → W p l e R s m args below meth c H locs cells slots Q (F0 m (pc + n) lsA (.int x :: rest)) → W p l e R s m args below meth c H locs cells slots Q (F0 m pc lsA rest))
    (hL : so_L ad lsA nL ls) (okL : so_okL ls) (okS : so_okS st) (h : ax_iload ls st i = some (ls', st'))
    (k : ∀ lsB : Array Slot, so_L ad lsB nL ls' → so_okL ls' → so_okS st' → W p l e R s m args below meth c H locs cells slots Q (F0 m (pc + n) lsB (st'.map (so_v ad)))) : W p l e R s m args below meth c H locs cells slots Q (F0 m pc lsA (st.map (so_v ad))) := by
  unfold ax_iload at h
  split at h
  · rename_i x g
    cases h
    exact row _ _ (hL.get (so_ld g)) (k lsA hL okL (so_okS.cons (okL _ _ (so_ld g)) okS))
  · cases h
theorem so_lload {i n : Nat} (row : ∀ (rest : List Value) (x : Int64), lsA[i]? = some (.val (.long x)) → W p l e R s m args below meth c H locs cells slots Q (F0 m (pc + n) lsA (.long x :: rest)) → W p l e R s m args below meth c H locs cells slots Q (F0 m pc lsA rest))
    (hL : so_L ad lsA nL ls) (okL : so_okL ls) (okS : so_okS st) (h : ax_lload ls st i = some (ls', st'))
    (k : ∀ lsB : Array Slot, so_L ad lsB nL ls' → so_okL ls' → so_okS st' → W p l e R s m args below meth c H locs cells slots Q (F0 m (pc + n) lsB (st'.map (so_v ad)))) : W p l e R s m args below meth c H locs cells slots Q (F0 m pc lsA (st.map (so_v ad))) := by
  unfold ax_lload at h
  split at h
  · rename_i x g
    cases h
    exact row _ _ (hL.get (so_ld g)) (k lsA hL okL (so_okS.cons (okL _ _ (so_ld g)) okS))
  · cases h
theorem so_aload {i n : Nat} (row : ∀ (rest : List Value) (x : Nat), lsA[i]? = some (.val (.ref x)) → W p l e R s m args below meth c H locs cells slots Q (F0 m (pc + n) lsA (.ref x :: rest)) → W p l e R s m args below meth c H locs cells slots Q (F0 m pc lsA rest))
    (rowN : ∀ (rest : List Value), lsA[i]? = some (.val .null) → W p l e R s m args below meth c H locs cells slots Q (F0 m (pc + n) lsA (.null :: rest)) → W p l e R s m args below meth c H locs cells slots Q (F0 m pc lsA rest))
    (hL : so_L ad lsA nL ls) (okL : so_okL ls) (okS : so_okS st) (h : ax_aload ls st i = some (ls', st'))
    (k : ∀ lsB : Array Slot, so_L ad lsB nL ls' → so_okL ls' → so_okS st' → W p l e R s m args below meth c H locs cells slots Q (F0 m (pc + n) lsB (st'.map (so_v ad)))) : W p l e R s m args below meth c H locs cells slots Q (F0 m pc lsA (st.map (so_v ad))) := by
  unfold ax_aload at h
  split at h
  · rename_i x g
    cases h
    cases x with
    | none => exact rowN _ (hL.get (so_ld g)) (k lsA hL okL (so_okS.cons trivial okS))
    | some x =>
      have g1 := hL.get (so_ld g)
      have k1 := k lsA hL okL (so_okS.cons trivial okS)
      cases hx : ad x with
      | none =>
        have e : so_v ad (.inr (.inr (some x))) = .null := by show va_rf (ad x) = _; rw [hx]; rfl
        rw [e] at g1
        rw [List.map_cons, e] at k1
        exact rowN _ g1 k1
      | some z =>
        have e : so_v ad (.inr (.inr (some x))) = .ref z := by show va_rf (ad x) = _; rw [hx]; rfl
        rw [e] at g1
        rw [List.map_cons, e] at k1
        exact row _ _ g1 k1
  · cases h
theorem so_istore {i n : Nat} (row : ∀ (rest : List Value) (x : Int32) (lv' : List (Nat × Value)), i < nL → (i, Value.int x) :: (so_prs ad 0 ls).filter (fun q => !(q.1 == i) && !(q.1 + 1 == i && q.2.category == 2)) = lv' → (∀ ls' : Array Slot, lv_has ls' nL lv' → W p l e R s m args below meth c H locs cells slots Q (F0 m (pc + n) ls' rest)) → W p l e R s m args below meth c H locs cells slots Q (F0 m pc lsA (.int x :: rest)))
    (hL : so_L ad lsA nL ls) (okL : so_okL ls) (okS : so_okS st) (h : ax_istore ls st i = some (ls', st'))
    (k : ∀ lsB : Array Slot, so_L ad lsB nL ls' → so_okL ls' → so_okS st' → W p l e R s m args below meth c H locs cells slots Q (F0 m (pc + n) lsB (st'.map (so_v ad)))) : W p l e R s m args below meth c H locs cells slots Q (F0 m pc lsA (st.map (so_v ad))) := by
  unfold ax_istore at h
  split at h
  · rename_i x r
    split at h
    · rename_i hi
      cases h
      exact row _ _ _ (by rw [← hL.1]; exact hi) rfl (fun lsB hB => k lsB (hL.st1 (v := .inl x) hB) (okL.st1 okS.hd) okS.tl)
    · cases h
  · cases h
theorem so_lstore {i n : Nat} (row : ∀ (rest : List Value) (x : Int64) (lv' : List (Nat × Value)), i + 1 < nL → (i, Value.long x) :: (so_prs ad 0 ls).filter (fun q => !(q.1 == i) && (!(q.1 == i + 1) && !(q.1 + 1 == i && q.2.category == 2))) = lv' → (∀ ls' : Array Slot, lv_has ls' nL lv' → W p l e R s m args below meth c H locs cells slots Q (F0 m (pc + n) ls' rest)) → W p l e R s m args below meth c H locs cells slots Q (F0 m pc lsA (.long x :: rest)))
    (hL : so_L ad lsA nL ls) (okL : so_okL ls) (okS : so_okS st) (h : ax_lstore ls st i = some (ls', st'))
    (k : ∀ lsB : Array Slot, so_L ad lsB nL ls' → so_okL ls' → so_okS st' → W p l e R s m args below meth c H locs cells slots Q (F0 m (pc + n) lsB (st'.map (so_v ad)))) : W p l e R s m args below meth c H locs cells slots Q (F0 m pc lsA (st.map (so_v ad))) := by
  unfold ax_lstore at h
  split at h
  · rename_i x r
    split at h
    · rename_i hi
      cases h
      exact row _ _ _ (by rw [← hL.1]; exact hi) rfl (fun lsB hB => k lsB (hL.st2 (v := .inr (.inl x)) hB) (okL.st2 okS.hd) okS.tl)
    · cases h
  · cases h
theorem so_astore {i n : Nat} (row : ∀ (rest : List Value) (x : Nat) (lv' : List (Nat × Value)), i < nL → (i, Value.ref x) :: (so_prs ad 0 ls).filter (fun q => !(q.1 == i) && !(q.1 + 1 == i && q.2.category == 2)) = lv' → (∀ ls' : Array Slot, lv_has ls' nL lv' → W p l e R s m args below meth c H locs cells slots Q (F0 m (pc + n) ls' rest)) → W p l e R s m args below meth c H locs cells slots Q (F0 m pc lsA (.ref x :: rest)))
    (rowN : ∀ (rest : List Value) (lv' : List (Nat × Value)), i < nL → (i, Value.null) :: (so_prs ad 0 ls).filter (fun q => !(q.1 == i) && !(q.1 + 1 == i && q.2.category == 2)) = lv' → (∀ ls' : Array Slot, lv_has ls' nL lv' → W p l e R s m args below meth c H locs cells slots Q (F0 m (pc + n) ls' rest)) → W p l e R s m args below meth c H locs cells slots Q (F0 m pc lsA (.null :: rest)))
    (hL : so_L ad lsA nL ls) (okL : so_okL ls) (okS : so_okS st) (h : ax_astore ls st i = some (ls', st'))
    (k : ∀ lsB : Array Slot, so_L ad lsB nL ls' → so_okL ls' → so_okS st' → W p l e R s m args below meth c H locs cells slots Q (F0 m (pc + n) lsB (st'.map (so_v ad)))) : W p l e R s m args below meth c H locs cells slots Q (F0 m pc lsA (st.map (so_v ad))) := by
  unfold ax_astore at h
  split at h
  · rename_i x r
    split at h
    · rename_i hi
      cases h
      cases x with
      | none => exact rowN _ _ (by rw [← hL.1]; exact hi) rfl (fun lsB hB => k lsB (hL.st1 (v := .inr (.inr none)) hB) (okL.st1 trivial) okS.tl)
      | some x =>
        cases hx : ad x with
        | none =>
          have e : so_v ad (.inr (.inr (some x))) = .null := by show va_rf (ad x) = _; rw [hx]; rfl
          rw [List.map_cons, e]
          exact rowN _ _ (by rw [← hL.1]; exact hi) rfl (fun lsB hB => k lsB (hL.st1 (v := .inr (.inr (some x))) (by rw [e]; exact hB)) (okL.st1 trivial) okS.tl)
        | some z =>
          have e : so_v ad (.inr (.inr (some x))) = .ref z := by show va_rf (ad x) = _; rw [hx]; rfl
          rw [List.map_cons, e]
          exact row _ _ _ (by rw [← hL.1]; exact hi) rfl (fun lsB hB => k lsB (hL.st1 (v := .inr (.inr (some x))) (by rw [e]; exact hB)) (okL.st1 trivial) okS.tl)
    · cases h
  · cases h
end SOP
/-! ANY INSTRUCTION WITHOUT HEAP AND JUMP; any jump. -/
theorem so_cmp {x y : Int} (hx : (Int64.ofInt x).toInt = x) (hy : (Int64.ofInt y).toInt = y) : Int32.ofInt (ax_cmp x y) = lg_cmp (Int64.ofInt x) (Int64.ofInt y) := by
  unfold ax_cmp lg_cmp
  simp only [gt_iff_lt, Int64.lt_iff_toInt_lt, ← Int64.toInt_inj, hx, hy]
  split
  · rfl
  · split <;> rfl
theorem so_cmp_ok (x y : Int) : so_ok (.inl (ax_cmp x y)) := by
  unfold ax_cmp
  split
  · rfl
  · split <;> rfl
theorem so_lc : ∀ n : Fin 2, Int64.ofNat (n : Nat) = Int64.ofInt ((n.val : Nat) : Int) ∧ (Int64.ofInt ((n.val : Nat) : Int)).toInt = ((n.val : Nat) : Int) := by decide
theorem so_bp {n : Int} (h : (Int8.ofInt n).toInt32.toInt = n) : (Int8.ofInt n).toInt32 = Int32.ofInt n := by
  have e := so_oi (Int8.ofInt n).toInt32
  rw [h] at e
  exact e.symm
theorem so_sp {n : Int} (h : (Int16.ofInt n).toInt32.toInt = n) : (Int16.ofInt n).toInt32 = Int32.ofInt n := by
  have e := so_oi (Int16.ofInt n).toInt32
  rw [h] at e
  exact e.symm
theorem so_add32 (x y : Int) : Int32.ofInt (ax_w32 (x + y)) = Int32.ofInt x + Int32.ofInt y := by rw [so_w32, Int32.ofInt_add]
theorem so_sub32 (x y : Int) : Int32.ofInt (ax_w32 (x - y)) = Int32.ofInt x - Int32.ofInt y := by rw [so_w32, Int32.ofInt_sub]
theorem so_mul32 (x y : Int) : Int32.ofInt (ax_w32 (x * y)) = Int32.ofInt x * Int32.ofInt y := by rw [so_w32, Int32.ofInt_mul]
theorem so_neg32 (x : Int) : Int32.ofInt (ax_w32 (-x)) = -Int32.ofInt x := by rw [so_w32, Int32.ofInt_neg]
theorem so_add64 (x y : Int) : Int64.ofInt (ax_w64 (x + y)) = Int64.ofInt x + Int64.ofInt y := by rw [so_w64, Int64.ofInt_add]
theorem so_sub64 (x y : Int) : Int64.ofInt (ax_w64 (x - y)) = Int64.ofInt x - Int64.ofInt y := by rw [so_w64, Int64.ofInt_sub]
theorem so_mul64 (x y : Int) : Int64.ofInt (ax_w64 (x * y)) = Int64.ofInt x * Int64.ofInt y := by rw [so_w64, Int64.ofInt_mul]
theorem so_neg64 (x : Int) : Int64.ofInt (ax_w64 (-x)) = -Int64.ofInt x := by rw [so_w64, Int64.ofInt_neg]
theorem so_i2l {x : Int} (h : (Int32.ofInt x).toInt = x) : (Int32.ofInt x).toInt64 = Int64.ofInt x ∧ (Int64.ofInt x).toInt = x := by
  have e : (Int32.ofInt x).toInt64.toInt = x := by rw [Int32.toInt_toInt64]; exact h
  have e2 := so_ol (Int32.ofInt x).toInt64
  rw [e] at e2
  exact ⟨e2.symm, by rw [e2]; exact e⟩
theorem so_l2i {x : Int} (h : (Int64.ofInt x).toInt = x) : Int32.ofInt (ax_w32 x) = (Int64.ofInt x).toInt32 := by
  rw [so_w32]
  apply Int32.toInt_inj.mp
  rw [Int64.toInt_toInt32, h, Int32.toInt_ofInt]
theorem so_i2b {x : Int} (h : (Int32.ofInt x).toInt = x) : (Int32.ofInt x).toInt8.toInt32 = Int32.ofInt (ax_w8 x) ∧ (Int32.ofInt (ax_w8 x)).toInt = ax_w8 x := by
  have e : (Int32.ofInt x).toInt8.toInt32.toInt = ax_w8 x := by rw [Int8.toInt_toInt32, Int32.toInt_toInt8, h]; rfl
  have e2 := so_oi (Int32.ofInt x).toInt8.toInt32
  rw [e] at e2
  exact ⟨e2.symm, by rw [e2]; exact e⟩
theorem so_i2s {x : Int} (h : (Int32.ofInt x).toInt = x) : (Int32.ofInt x).toInt16.toInt32 = Int32.ofInt (ax_w16 x) ∧ (Int32.ofInt (ax_w16 x)).toInt = ax_w16 x := by
  have e : (Int32.ofInt x).toInt16.toInt32.toInt = ax_w16 x := by rw [Int16.toInt_toInt32, Int32.toInt_toInt16, h]; rfl
  have e2 := so_oi (Int32.ofInt x).toInt16.toInt32
  rw [e] at e2
  exact ⟨e2.symm, by rw [e2]; exact e⟩
theorem so_i2c {x : Int} (h : (Int32.ofInt x).toInt = x) : ((Int32.ofInt x).toUInt32 % 65536).toInt32 = Int32.ofInt (ax_u16 x) ∧ (Int32.ofInt (ax_u16 x)).toInt = ax_u16 x := by
  have e0 : (Int32.ofInt x).toBitVec.toInt = x := h
  have e1 : ((Int32.ofInt x).toBitVec.toNat : Int) % 65536 = x % 65536 := by
    have := BitVec.toInt_eq_toNat_cond (Int32.ofInt x).toBitVec
    rw [e0] at this
    split at this <;> omega
  have e : ((Int32.ofInt x).toUInt32 % 65536).toInt32.toInt = ax_u16 x := by
    rw [pk_char]
    unfold ax_u16
    have hl : (Int32.ofInt x).toBitVec.toNat % 65536 < 2 ^ 31 := by omega
    rw [nI_toInt hl]
    omega
  have e2 := so_oi ((Int32.ofInt x).toUInt32 % 65536).toInt32
  rw [e] at e2
  exact ⟨e2.symm, by rw [e2]; exact e⟩
section SOQ
variable {p : Program} {l : Launch} {e : Env} {R : Room} {s : State} {m : MethodId} {args : Array Value} {below : List Frame} {meth : Method} {c : Code} {H : Heap} {locs : List Loc} {cells slots : Nat} {Q : State → Prop}
variable {cc : ByteArray} {pc nL : Nat} {lsA : Array Slot} {ls ls' : ax_L} {st st' : List ax_V} {ad : Nat → Option Nat}
theorem so_iinc {i : Nat} {n : Int} (hexec : p.tables.exec = Jvm.exec) (hb : c.code = cc) (hdg : decode cc pc = .ok (.iinc i n, 3)) (hL : so_L ad lsA nL ls) (okL : so_okL ls) (okS : so_okS st) (h : ax_iinc ls st i n = some (ls', st'))
    (k : ∀ lsB : Array Slot, so_L ad lsB nL ls' → so_okL ls' → so_okS st' → W p l e R s m args below meth c H locs cells slots Q (F0 m (pc + 3) lsB (st'.map (so_v ad)))) : W p l e R s m args below meth c H locs cells slots Q (F0 m pc lsA (st.map (so_v ad))) := by
  unfold ax_iinc at h
  split at h
  · rename_i x g
    cases h
    have g1 := so_ld g
    have g2 := so_prs_to ad ls 0 i (.inl x) g1
    rw [Nat.zero_add] at g2
    obtain ⟨kk, hk⟩ := List.getElem?_of_mem g2
    have hi : i < nL := by rw [← hL.1]; exact (List.getElem?_eq_some_iff.mp g1).1
    exact lv_iinc hexec hb hdg hL.2 hk (so_add32 x n).symm hi rfl (fun lsB hB => k lsB (hL.st1 (v := .inl (ax_w32 (x + n))) hB) (okL.st1 (so_w32_ok _)) okS)
  · cases h
set_option maxHeartbeats 4000000 in
theorem so_pure {i : Instr} (hexec : p.tables.exec = Jvm.exec) (hb : c.code = cc) (hdg : decode cc pc = .ok (i, ax_len i)) (hf : ax_fine i = true) (hL : so_L ad lsA nL ls) (okL : so_okL ls) (okS : so_okS st) (h : ax_pure i ls st = some (ls', st'))
    (k : ∀ lsB : Array Slot, so_L ad lsB nL ls' → so_okL ls' → so_okS st' → W p l e R s m args below meth c H locs cells slots Q (F0 m (pc + ax_len i) lsB (st'.map (so_v ad)))) : W p l e R s m args below meth c H locs cells slots Q (F0 m pc lsA (st.map (so_v ad))) := by
  cases i with
  | iconst n =>
    have hn : (Int32.ofInt n).toInt = n := of_decide_eq_true hf
    cases h
    exact lv_iconst hexec hb hdg rfl (k lsA hL okL (so_okS.cons hn okS))
  | bipush n =>
    have hn : (Int8.ofInt n).toInt32.toInt = n := of_decide_eq_true hf
    cases h
    exact lv_bipush hexec hb hdg (so_bp hn) (k lsA hL okL (so_okS.cons (by show (Int32.ofInt n).toInt = n; rw [← so_bp hn]; exact hn) okS))
  | sipush n =>
    have hn : (Int16.ofInt n).toInt32.toInt = n := of_decide_eq_true hf
    cases h
    exact lv_sipush hexec hb hdg (so_sp hn) (k lsA hL okL (so_okS.cons (by show (Int32.ofInt n).toInt = n; rw [← so_sp hn]; exact hn) okS))
  | lconst n =>
    cases h
    exact lv_lconst hexec hb hdg (so_lc n).1 (k lsA hL okL (so_okS.cons (so_lc n).2 okS))
  | aconst_null =>
    cases h
    exact lv_null hexec hb hdg (k lsA hL okL (so_okS.cons trivial okS))
  | iload j => exact so_iload (n := 2) (fun rest x hx kk => lv_iload hexec hb hdg hx kk) hL okL okS h k
  | iload_n j => exact so_iload (n := 1) (fun rest x hx kk => lv_iload_n hexec hb hdg rfl hx kk) hL okL okS h k
  | lload j => exact so_lload (n := 2) (fun rest x hx kk => lv_lload hexec hb hdg hx kk) hL okL okS h k
  | lload_n j => exact so_lload (n := 1) (fun rest x hx kk => lv_lload_n hexec hb hdg rfl hx kk) hL okL okS h k
  | aload j => exact so_aload (n := 2) (fun rest x hx kk => lv_aload hexec hb hdg hx kk) (fun rest hx kk => lv_aloadN hexec hb hdg hx kk) hL okL okS h k
  | aload_n j => exact so_aload (n := 1) (fun rest x hx kk => lv_aload_n hexec hb hdg rfl hx kk) (fun rest hx kk => lv_aload_nN hexec hb hdg rfl hx kk) hL okL okS h k
  | istore j => exact so_istore (n := 2) (fun rest x lv hi hl kk => lv_istore hexec hb hdg hL.2 hi hl kk) hL okL okS h k
  | istore_n j => exact so_istore (n := 1) (fun rest x lv hi hl kk => lv_istore_n hexec hb hdg rfl hL.2 hi hl kk) hL okL okS h k
  | lstore j => exact so_lstore (n := 2) (fun rest x lv hi hl kk => lv_lstore hexec hb hdg hL.2 hi hl kk) hL okL okS h k
  | lstore_n j => exact so_lstore (n := 1) (fun rest x lv hi hl kk => lv_lstore_n hexec hb hdg rfl hL.2 hi hl kk) hL okL okS h k
  | astore j => exact so_astore (n := 2) (fun rest x lv hi hl kk => lv_astore hexec hb hdg hL.2 hi hl kk) (fun rest lv hi hl kk => lv_astoreN hexec hb hdg hL.2 hi hl kk) hL okL okS h k
  | astore_n j => exact so_astore (n := 1) (fun rest x lv hi hl kk => lv_astore_n hexec hb hdg rfl hL.2 hi hl kk) (fun rest lv hi hl kk => lv_astore_nN hexec hb hdg rfl hL.2 hi hl kk) hL okL okS h k
  | iinc j n => exact so_iinc hexec hb hdg hL okL okS h k
  | iadd => exact so_ii (fun x y => x + y) (fun rest x y kk => lv_iadd hexec hb hdg kk) so_add32 (fun x y => so_w32_ok _) hL okL okS h k
  | isub => exact so_ii (fun x y => x - y) (fun rest x y kk => lv_isub hexec hb hdg kk) so_sub32 (fun x y => so_w32_ok _) hL okL okS h k
  | imul => exact so_ii (fun x y => x * y) (fun rest x y kk => lv_imul hexec hb hdg kk) so_mul32 (fun x y => so_w32_ok _) hL okL okS h k
  | iand => exact so_ii (fun x y => x &&& y) (fun rest x y kk => lv_iand hexec hb hdg kk) (fun x y => so_oi _) (fun x y => so_i_ok _) hL okL okS h k
  | ior => exact so_ii (fun x y => x ||| y) (fun rest x y kk => lv_ior hexec hb hdg kk) (fun x y => so_oi _) (fun x y => so_i_ok _) hL okL okS h k
  | ixor => exact so_ii (fun x y => x ^^^ y) (fun rest x y kk => lv_ixor hexec hb hdg kk) (fun x y => so_oi _) (fun x y => so_i_ok _) hL okL okS h k
  | ishl => exact so_ii (fun x y => x <<< (y &&& 31)) (fun rest x y kk => lv_ishl hexec hb hdg kk) (fun x y => so_oi _) (fun x y => so_i_ok _) hL okL okS h k
  | ishr => exact so_ii (fun x y => x >>> (y &&& 31)) (fun rest x y kk => lv_ishr hexec hb hdg kk) (fun x y => so_oi _) (fun x y => so_i_ok _) hL okL okS h k
  | iushr => exact so_ii (fun x y => (x.toUInt32 >>> (y.toUInt32 &&& Int32.toUInt32 31)).toInt32) (fun rest x y kk => lv_iushr hexec hb hdg rfl kk) (fun x y => so_oi _) (fun x y => so_i_ok _) hL okL okS h k
  | ineg => exact so_i1 (f := fun x => .inl (ax_w32 (-x))) (fun x => .int (-x)) (fun rest x kk => lv_ineg hexec hb hdg kk) (fun x _ => ⟨congrArg Value.int (so_neg32 x), so_w32_ok _⟩) hL okL okS h k
  | ladd => exact so_ll (fun x y => x + y) (fun rest x y kk => lv_ladd hexec hb hdg kk) so_add64 (fun x y => so_w64_ok _) hL okL okS h k
  | lsub => exact so_ll (fun x y => x - y) (fun rest x y kk => lv_lsub hexec hb hdg kk) so_sub64 (fun x y => so_w64_ok _) hL okL okS h k
  | lmul => exact so_ll (fun x y => x * y) (fun rest x y kk => lv_lmul hexec hb hdg kk) so_mul64 (fun x y => so_w64_ok _) hL okL okS h k
  | land => exact so_ll (fun x y => x &&& y) (fun rest x y kk => lv_land hexec hb hdg kk) (fun x y => so_ol _) (fun x y => so_l_ok _) hL okL okS h k
  | lor => exact so_ll (fun x y => x ||| y) (fun rest x y kk => lv_lor hexec hb hdg kk) (fun x y => so_ol _) (fun x y => so_l_ok _) hL okL okS h k
  | lxor => exact so_ll (fun x y => x ^^^ y) (fun rest x y kk => lv_lxor hexec hb hdg kk) (fun x y => so_ol _) (fun x y => so_l_ok _) hL okL okS h k
  | lneg => exact so_l1 (f := fun x => .inr (.inl (ax_w64 (-x)))) (fun x => .long (-x)) (fun rest x kk => lv_lneg hexec hb hdg kk) (fun x _ => ⟨congrArg Value.long (so_neg64 x), so_w64_ok _⟩) hL okL okS h k
  | lshl => exact so_li (fun x y => x <<< (y.toInt64 &&& 63)) (fun rest x y kk => lv_lshl hexec hb hdg rfl kk) (fun x y => so_ol _) (fun x y => so_l_ok _) hL okL okS h k
  | lshr => exact so_li (fun x y => x >>> (y.toInt64 &&& 63)) (fun rest x y kk => lv_lshr hexec hb hdg rfl kk) (fun x y => so_ol _) (fun x y => so_l_ok _) hL okL okS h k
  | lushr => exact so_li (fun x y => (x.toUInt64 >>> (y.toInt64.toUInt64 &&& Int64.toUInt64 63)).toInt64) (fun rest x y kk => lv_lushr hexec hb hdg rfl kk) (fun x y => so_ol _) (fun x y => so_l_ok _) hL okL okS h k
  | i2l => exact so_i1 (f := fun x => .inr (.inl x)) (fun x => .long x.toInt64) (fun rest x kk => lv_i2l hexec hb hdg rfl kk) (fun x hx => ⟨congrArg Value.long (so_i2l hx).1.symm, (so_i2l hx).2⟩) hL okL okS h k
  | l2i => exact so_l1 (f := fun x => .inl (ax_w32 x)) (fun x => .int x.toInt32) (fun rest x kk => lv_l2i hexec hb hdg rfl kk) (fun x hx => ⟨congrArg Value.int (so_l2i hx), so_w32_ok _⟩) hL okL okS h k
  | i2b => exact so_i1 (f := fun x => .inl (ax_w8 x)) (fun x => .int x.toInt8.toInt32) (fun rest x kk => lv_i2b hexec hb hdg rfl kk) (fun x hx => ⟨congrArg Value.int (so_i2b hx).1.symm, (so_i2b hx).2⟩) hL okL okS h k
  | i2s => exact so_i1 (f := fun x => .inl (ax_w16 x)) (fun x => .int x.toInt16.toInt32) (fun rest x kk => lv_i2s hexec hb hdg rfl kk) (fun x hx => ⟨congrArg Value.int (so_i2s hx).1.symm, (so_i2s hx).2⟩) hL okL okS h k
  | i2c => exact so_i1 (f := fun x => .inl (ax_u16 x)) (fun x => .int (x.toUInt32 % 65536).toInt32) (fun rest x kk => lv_i2c hexec hb hdg rfl kk) (fun x hx => ⟨congrArg Value.int (so_i2c hx).1.symm, (so_i2c hx).2⟩) hL okL okS h k
  | lcmp =>
    dsimp only [ax_pure] at h
    split at h
    · rename_i y x r
      cases h
      refine W.lcmp hexec hb hdg ?_
      rw [← so_cmp okS.tl.hd okS.hd]
      exact k lsA hL okL (so_okS.cons (so_cmp_ok x y) okS.tl.tl)
    · cases h
  | dup =>
    dsimp only [ax_pure] at h
    split at h
    · split at h
      · rename_i a r g
        cases h
        exact lv_dup hexec hb hdg (by rw [so_cat]; exact g) (k lsA hL okL (so_okS.cons okS.hd okS))
      · cases h
    · cases h
  | pop =>
    dsimp only [ax_pure] at h
    split at h
    · split at h
      · rename_i a r g
        cases h
        exact lv_pop hexec hb hdg (by rw [so_cat]; exact g) (k lsA hL okL okS.tl)
      · cases h
    · cases h
  | dup_x1 =>
    dsimp only [ax_pure] at h
    split at h
    · split at h
      · rename_i a b r g
        cases h
        exact lv_dup_x1 hexec hb hdg (by rw [so_cat]; exact g.1) (by rw [so_cat]; exact g.2) (k lsA hL okL (so_okS.cons okS.hd (so_okS.cons okS.tl.hd (so_okS.cons okS.hd okS.tl.tl))))
      · cases h
    · cases h
  | dup_x2 =>
    dsimp only [ax_pure] at h
    split at h
    · split at h
      · rename_i a b d r g
        cases h
        exact lv_dup_x2 hexec hb hdg (by rw [so_cat]; exact g.1) (by rw [so_cat]; exact g.2.1) (by rw [so_cat]; exact g.2.2) (k lsA hL okL (so_okS.cons okS.hd (so_okS.cons okS.tl.hd (so_okS.cons okS.tl.tl.hd (so_okS.cons okS.hd okS.tl.tl.tl)))))
      · cases h
    · cases h
  | dup2 =>
    dsimp only [ax_pure] at h
    split at h
    · split at h
      · rename_i a b r g
        cases h
        exact lv_dup2_11 hexec hb hdg (by rw [so_cat]; exact g.1) (by rw [so_cat]; exact g.2) (k lsA hL okL (so_okS.cons okS.hd (so_okS.cons okS.tl.hd okS)))
      · cases h
    · cases h
  | idiv =>
    dsimp only [ax_pure] at h
    split at h
    · rename_i y x r
      split at h
      · cases h
      · rename_i g
        cases h
        refine lv_idiv hexec hb hdg (fun z => g ?_) ?_
        · have hy := okS.hd
          have hy : (Int32.ofInt y).toInt = y := hy
          rw [z] at hy
          exact hy.symm
        · have e1 : Int32.ofInt (ax_idiv x y) = Int32.ofInt x / Int32.ofInt y := so_oi _
          rw [← e1]
          exact k lsA hL okL (so_okS.cons (so_i_ok _) okS.tl.tl)
    · cases h
  | irem =>
    dsimp only [ax_pure] at h
    split at h
    · rename_i y x r
      split at h
      · cases h
      · rename_i g
        cases h
        refine lv_irem hexec hb hdg (fun z => g ?_) ?_
        · have hy := okS.hd
          have hy : (Int32.ofInt y).toInt = y := hy
          rw [z] at hy
          exact hy.symm
        · have e1 : Int32.ofInt (ax_irem x y) = Int32.ofInt x - Int32.ofInt x / Int32.ofInt y * Int32.ofInt y := so_oi _
          rw [← e1]
          exact k lsA hL okL (so_okS.cons (so_i_ok _) okS.tl.tl)
    · cases h
  | ldiv =>
    dsimp only [ax_pure] at h
    split at h
    · rename_i y x r
      split at h
      · cases h
      · rename_i g
        cases h
        refine lv_ldiv hexec hb hdg (fun z => g ?_) ?_
        · have hy := okS.hd
          have hy : (Int64.ofInt y).toInt = y := hy
          rw [z] at hy
          exact hy.symm
        · have e1 : Int64.ofInt (ax_ldiv x y) = Int64.ofInt x / Int64.ofInt y := so_ol _
          rw [← e1]
          exact k lsA hL okL (so_okS.cons (so_l_ok _) okS.tl.tl)
    · cases h
  | lrem =>
    dsimp only [ax_pure] at h
    split at h
    · rename_i y x r
      split at h
      · cases h
      · rename_i g
        cases h
        refine lv_lrem hexec hb hdg (fun z => g ?_) ?_
        · have hy := okS.hd
          have hy : (Int64.ofInt y).toInt = y := hy
          rw [z] at hy
          exact hy.symm
        · have e1 : Int64.ofInt (ax_lrem x y) = Int64.ofInt x - Int64.ofInt x / Int64.ofInt y * Int64.ofInt y := so_ol _
          rw [← e1]
          exact k lsA hL okL (so_okS.cons (so_l_ok _) okS.tl.tl)
    · cases h
  | _ => exact absurd h (by simp [ax_pure])

end SOQ
/-! ANY JUMP. -/
def ax_sw (i : Instr) : Bool := match i with
  | .tableswitch _ _ _ _ => true
  | .lookupswitch _ _ => true
  | _ => false
/-- no jump goes below 0 -/
def ax_jok (i : Instr) (pc : Nat) : Bool := match i with
  | .goto off => decide (0 ≤ (pc : Int) + off)
  | .ifCond _ off => decide (0 ≤ (pc : Int) + off)
  | .if_icmp _ off => decide (0 ≤ (pc : Int) + off)
  | .tableswitch d _ _ offs => decide (0 ≤ (pc : Int) + d) && offs.toList.all (fun off => decide (0 ≤ (pc : Int) + off))
  | .lookupswitch d ps => decide (0 ≤ (pc : Int) + d) && ps.toList.all (fun q => decide (0 ≤ (pc : Int) + q.2))
  | _ => true
theorem so_to {pc : Nat} {off : Int} (h : 0 ≤ (pc : Int) + off) : (pc : Int) + off = ((ax_to pc off : Nat) : Int) := by
  unfold ax_to
  omega
theorem so_offs (d : Int) (k : Int) (P : Int → Prop) (hd : P d) : ∀ l : List (Int × Int), (∀ q ∈ l, P q.2) → P (Op.lookupswitch.offset l d k) := by
  intro l
  induction l with
  | nil => intro _; exact hd
  | cons a r ih =>
    intro h
    obtain ⟨a1, a2⟩ := a
    rw [Op.lookupswitch.offset_cons]
    split
    · exact h _ List.mem_cons_self
    · exact ih (fun q hq => h q (List.mem_cons_of_mem _ hq))
section SOJ
variable {p : Program} {l : Launch} {e : Env} {R : Room} {s : State} {m : MethodId} {args : Array Value} {below : List Frame} {meth : Method} {c : Code} {H : Heap} {locs : List Loc} {cells slots : Nat} {Q : State → Prop}
variable {cc : ByteArray} {pc pc' nL : Nat} {lsA : Array Slot} {st st' : List ax_V} {ad : Nat → Option Nat}
theorem so_jif {t : Prop} [Decidable t] {off : Int} {r : List ax_V} (h : ax_jif t pc off r = some (pc', st')) (okS : so_okS r) (k : so_okS st' → W p l e R s m args below meth c H locs cells slots Q (F0 m pc' lsA (st'.map (so_v ad)))) :
    (t → W p l e R s m args below meth c H locs cells slots Q (F0 m (ax_to pc off) lsA (r.map (so_v ad)))) ∧ (¬ t → W p l e R s m args below meth c H locs cells slots Q (F0 m (pc + 3) lsA (r.map (so_v ad)))) := by
  unfold ax_jif at h
  constructor
  · intro ht
    rw [if_pos ht] at h
    cases h
    exact k okS
  · intro ht
    rw [if_neg ht] at h
    cases h
    exact k okS
theorem so_z32 {x : Int} (hx : (Int32.ofInt x).toInt = x) : (Int32.ofInt x = 0 ↔ x = 0) ∧ (Int32.ofInt x < 0 ↔ x < 0) ∧ (0 ≤ Int32.ofInt x ↔ 0 ≤ x) ∧ (0 < Int32.ofInt x ↔ 0 < x) ∧ (Int32.ofInt x ≤ 0 ↔ x ≤ 0) := by
  have z : (0 : Int32).toInt = 0 := rfl
  refine ⟨?_, ?_, ?_, ?_, ?_⟩
  · rw [← Int32.toInt_inj, hx, z]
  · rw [Int32.lt_iff_toInt_lt, hx, z]
  · rw [Int32.le_iff_toInt_le, hx, z]
  · rw [Int32.lt_iff_toInt_lt, hx, z]
  · rw [Int32.le_iff_toInt_le, hx, z]
theorem so_c32 {x y : Int} (hx : (Int32.ofInt x).toInt = x) (hy : (Int32.ofInt y).toInt = y) : (Int32.ofInt x = Int32.ofInt y ↔ x = y) ∧ (Int32.ofInt x < Int32.ofInt y ↔ x < y) ∧ (Int32.ofInt x ≤ Int32.ofInt y ↔ x ≤ y) := by
  refine ⟨?_, ?_, ?_⟩
  · rw [← Int32.toInt_inj, hx, hy]
  · rw [Int32.lt_iff_toInt_lt, hx, hy]
  · rw [Int32.le_iff_toInt_le, hx, hy]
set_option maxHeartbeats 4000000 in
theorem so_jump {i : Instr} {n : Nat} (hexec : p.tables.exec = Jvm.exec) (hb : c.code = cc) (hdg : decode cc pc = .ok (i, n)) (hn : ax_sw i = false → n = ax_len i) (hf : ax_fine i = true) (hj : ax_jok i pc = true) (okS : so_okS st) (h : ax_jump i pc st = some (pc', st'))
    (k : so_okS st' → W p l e R s m args below meth c H locs cells slots Q (F0 m pc' lsA (st'.map (so_v ad)))) : W p l e R s m args below meth c H locs cells slots Q (F0 m pc lsA (st.map (so_v ad))) := by
  cases i with
  | goto off =>
    cases hn rfl
    cases h
    exact lv_goto hexec hb hdg (so_to (of_decide_eq_true hj)) (k okS)
  | ifCond cd off =>
    cases hn rfl
    have ht := so_to (of_decide_eq_true hj)
    dsimp only [ax_jump] at h
    split at h
    · rename_i x r
      have hx : (Int32.ofInt x).toInt = x := okS.hd
      obtain ⟨z1, z2, z3, z4, z5⟩ := so_z32 hx
      cases cd with
      | eq =>
        obtain ⟨a, b⟩ := so_jif h okS.tl k
        exact lv_if_eq hexec hb hdg ht (fun g => a (z1.mp g)) (fun g => b (fun w => g (z1.mpr w)))
      | ne =>
        obtain ⟨a, b⟩ := so_jif h okS.tl k
        exact lv_if_ne hexec hb hdg ht (fun g => a (fun w => g (z1.mpr w))) (fun g => b (fun w => w (z1.mp g)))
      | lt =>
        obtain ⟨a, b⟩ := so_jif h okS.tl k
        exact lv_if_lt hexec hb hdg ht (fun g => a (z2.mp g)) (fun g => b (fun w => g (z2.mpr w)))
      | ge =>
        obtain ⟨a, b⟩ := so_jif h okS.tl k
        exact lv_if_ge hexec hb hdg ht (fun g => a (z3.mp g)) (fun g => b (fun w => g (z3.mpr w)))
      | gt =>
        obtain ⟨a, b⟩ := so_jif h okS.tl k
        exact lv_if_gt hexec hb hdg ht (fun g => a (z4.mp g)) (fun g => b (fun w => g (z4.mpr w)))
      | le =>
        obtain ⟨a, b⟩ := so_jif h okS.tl k
        exact lv_if_le hexec hb hdg ht (fun g => a (z5.mp g)) (fun g => b (fun w => g (z5.mpr w)))
    · cases h
  | if_icmp cd off =>
    cases hn rfl
    have ht := so_to (of_decide_eq_true hj)
    dsimp only [ax_jump] at h
    split at h
    · rename_i y x r
      have hx : (Int32.ofInt x).toInt = x := okS.tl.hd
      have hy : (Int32.ofInt y).toInt = y := okS.hd
      obtain ⟨z1, z2, z3⟩ := so_c32 hx hy
      obtain ⟨-, y2, y3⟩ := so_c32 hy hx
      cases cd with
      | eq =>
        obtain ⟨a, b⟩ := so_jif h okS.tl.tl k
        exact lv_icmp_eq hexec hb hdg ht (fun g => a (z1.mp g)) (fun g => b (fun w => g (z1.mpr w)))
      | ne =>
        obtain ⟨a, b⟩ := so_jif h okS.tl.tl k
        exact lv_icmp_ne hexec hb hdg ht (fun g => a (fun w => g (z1.mpr w))) (fun g => b (fun w => w (z1.mp g)))
      | lt =>
        obtain ⟨a, b⟩ := so_jif h okS.tl.tl k
        exact lv_icmp_lt hexec hb hdg ht (fun g => a (z2.mp g)) (fun g => b (fun w => g (z2.mpr w)))
      | ge =>
        obtain ⟨a, b⟩ := so_jif h okS.tl.tl k
        exact lv_icmp_ge hexec hb hdg ht (fun g => a (y3.mp g)) (fun g => b (fun w => g (y3.mpr w)))
      | gt =>
        obtain ⟨a, b⟩ := so_jif h okS.tl.tl k
        exact lv_icmp_gt hexec hb hdg ht (fun g => a (y2.mp g)) (fun g => b (fun w => g (y2.mpr w)))
      | le =>
        obtain ⟨a, b⟩ := so_jif h okS.tl.tl k
        exact lv_icmp_le hexec hb hdg ht (fun g => a (z3.mp g)) (fun g => b (fun w => g (z3.mpr w)))
    · cases h
  | tableswitch d lo hi offs =>
    simp only [ax_jok, Bool.and_eq_true, decide_eq_true_eq, List.all_eq_true] at hj
    dsimp only [ax_jump] at h
    split at h
    · rename_i x r
      have hx : (Int32.ofInt x).toInt = x := okS.hd
      split at h
      · rename_i g
        cases h
        exact lv_tableOut hexec hb hdg (by rw [hx]; exact g) (so_to hj.1) (k okS.tl)
      · rename_i g
        split at h
        · rename_i off ho
          cases h
          refine lv_tableIn hexec hb hdg (by rw [hx]; omega) (by rw [hx]; omega) (by rw [hx]; exact ho) (so_to (hj.2 off ?_)) (k okS.tl)
          rw [← Array.getElem?_toList] at ho
          exact List.mem_of_getElem? ho
        · cases h
    · cases h
  | lookupswitch d ps =>
    simp only [ax_jok, Bool.and_eq_true, decide_eq_true_eq, List.all_eq_true] at hj
    dsimp only [ax_jump] at h
    split at h
    · rename_i x r
      have hx : (Int32.ofInt x).toInt = x := okS.hd
      cases h
      refine lv_lookup hexec hb hdg hf (by rw [hx]) (so_to ?_) (k okS.tl)
      exact so_offs d x (fun z => 0 ≤ (pc : Int) + z) hj.1 _ hj.2
    · cases h
  | _ => exact absurd h (by simp [ax_jump])
end SOJ
