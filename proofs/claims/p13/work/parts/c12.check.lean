/-! WHAT THE TABLES SAY, and that they are right. -/
def tb_rt' (rt : Nat) : Option FieldType := match rt with
  | 1 => some .int
  | 2 => some .long
  | 3 => some .boolean
  | 4 => some .char
  | 5 => some .byte
  | _ => none
def tb_name (y : Nat) : MethodName := (tb_nm.getD y (⟨"", "", ""⟩, ⟨#[]⟩, none, 0, 0, 0, false)).1
def tb_bytes (y : Nat) : ByteArray := (tb_nm.getD y (⟨"", "", ""⟩, ⟨#[]⟩, none, 0, 0, 0, false)).2.1
def tb_ret (y : Nat) : Option FieldType := (tb_nm.getD y (⟨"", "", ""⟩, ⟨#[]⟩, none, 0, 0, 0, false)).2.2.1
def tb_static (y : Nat) : Bool := (tb_nm.getD y (⟨"", "", ""⟩, ⟨#[]⟩, none, 0, 0, 0, false)).2.2.2.2.2.2
def tb_M (y : Nat) : ax_M := tb_ms.getD y (99, 0, 0, false, [], [])
def lk_ok (r : Nat × Nat × Nat × Nat × Nat × Int) : Prop := match r with
  | (k, cls, idx, a, b, d) => match k with
    | 1 => Cond.fieldLink (tb_RN cls) idx (tb_RN a) (tb_f a b).1 (tb_f a b).2.1 ∈ lw_tbl
    | 2 => Cond.fieldLinkNest (tb_RN cls) idx (tb_RN a) (tb_f a b).1 (tb_f a b).2.1 "MachineText" ∈ lw_tbl
    | 3 => Cond.fieldLinkNest (tb_RN cls) idx "MachineText" "LEVELS" "[I" "MachineText" ∈ lw_tbl
    | 4 => Cond.fieldLink (tb_RN cls) idx "java/lang/String" "COMPACT_STRINGS" "Z" ∈ lw_tbl
    | 5 => Cond.fieldLink (tb_RN cls) idx "jdk/internal/util/Preconditions" "SIOOBE_FORMATTER" "Ljava/util/function/BiFunction;" ∈ lw_tbl
    | 6 => Cond.constant (tb_RN cls) idx (Int32.ofInt d) ∈ lw_tbl
    | 7 => Cond.stringRef (tb_RN cls) idx (tb_st.getD b (0, 0, "")).2.2 ∈ lw_tbl
    | 8 => Cond.constantLong (tb_RN cls) idx (Int64.ofInt d) ∈ lw_tbl
    | 9 => Cond.classLink (tb_RN cls) idx (tb_RN b) ∈ lw_tbl
    | 10 => Cond.classLink (tb_RN cls) idx (tb_RN b) ∈ lw_tbl
    | 11 => Cond.methodLink (tb_RN cls) idx (tb_name b) ∈ lw_tbl
    | 12 => Cond.methodLinkNest (tb_RN cls) idx (tb_name b) "MachineText" ∈ lw_tbl
    | 13 => Cond.methodLink (tb_RN cls) idx objectInit ∈ lw_tbl
    | 14 => Cond.methodLink (tb_RN cls) idx arraycopyName ∈ lw_tbl
    | 15 => Cond.methodLink (tb_RN cls) idx ⟨tb_RN b, "<init>", "(Ljava/lang/String;)V"⟩ ∈ lw_tbl
    | 16 => Cond.classLink (tb_RN cls) idx (tb_RN b) ∈ lw_tbl
    | _ => False
/-- a method's own words -/
def mw_ok (y : Nat) : Prop := (tb_name y).cls = tb_RN (tb_M y).1 ∧ tb_ret y = tb_rt' (tb_M y).2.2.1 ∧
  ((tb_M y).1 < 24 ∧ ((tb_M y).2.2.2.1 = true → (tb_name y).name = "<init>") ∧ (tb_M y).2.1 ≤ 20 ∧ (parseMethodDescriptor (tb_name y).desc).map (fun d => d.parameters.length) = some (tb_np.getD y 0)) ∧
  (match (tb_M y).2.2.2.2.1 with
    | [] => Cond.code (tb_name y) (tb_bytes y) (tb_M y).2.1 (tb_ret y) ∈ lw_tbl
    | q :: r => Cond.codeWith (tb_name y) (tb_bytes y) (tb_M y).2.1 (tb_ret y) ((q :: r).map fun q => (q.1, q.2.1, q.2.2.1, q.2.2.2.1)) ∈ lw_tbl) ∧
  (match tb_static y with
    | true => Cond.static (tb_name y) ∈ lw_tbl
    | false => Cond.instanceMethod (tb_name y) ∈ lw_tbl) ∧
  (match tb_static y || (tb_M y).2.2.2.1 with
    | true => True
    | false => Cond.selects (tb_RN (tb_M y).1) (tb_name y) (tb_name y) ∈ lw_tbl) ∧
  Cond.initialized (tb_RN (tb_M y).1) ∈ lw_tbl
def tb_d (bytes : ByteArray) (pc : Nat) (i : Instr) : Bool := match decode bytes pc with
  | .ok (j, n) => decide (j = i) && (ax_sw i || n == ax_len i) && ax_fine i && ax_jok i pc
  | .error _ => false
def tb_k (c : Nat) (r : Nat × Nat × Nat × Nat × Nat × Int) : Bool := decide (tb_lk[c]? = some r)
def tb_l (cls : Nat) (init : Bool) (e : ax_E) : Bool := match e with
  | (.getfield idx, a, b, c, d) => decide (a < 14) && decide (b < tb_N a) && tb_k c (if d = 0 then 1 else 2, cls, idx, a, b, 0)
  | (.putfield idx, a, b, c, d) => decide (a < 13) && decide (b < tb_N a) && tb_k c (if d = 0 then 1 else 2, cls, idx, a, b, 0) && (!(tb_f a b).2.2.2 || (init && cls == a && d == 0))
  | (.getstatic idx, a, b, c, d) => (a == 0 && b == 1 && tb_k c (3, cls, idx, 0, 1, 0)) || (a == 1 && d == 1 && tb_k c (4, cls, idx, 1, 0, 0)) || (a == 0 && b == 26 && tb_k c (5, cls, idx, 0, 26, 0))
  | (.ldc idx, a, b, c, d) => if a = 0 then tb_k c (6, cls, idx, 0, 0, d) && decide ((Int32.ofInt d).toInt = d) else decide (2 ≤ b) && decide (b < 26) && decide (b ≠ 3) && decide (b ≠ 5) && decide ((tb_st.getD b (0, 0, "")).1 = cls) && decide ((tb_st.getD b (0, 0, "")).2.1 = idx) && tb_k c (7, cls, idx, 1, b, 0)
  | (.ldc_w idx, a, _, c, d) => decide (a = 0) && tb_k c (6, cls, idx, 0, 0, d) && decide ((Int32.ofInt d).toInt = d)
  | (.ldc2_w idx, _, _, c, d) => tb_k c (8, cls, idx, 0, 0, d) && decide ((Int64.ofInt d).toInt = d)
  | (.new idx, a, b, c, _) => if a = 0 then decide (b < 13) && tb_k c (9, cls, idx, 0, b, 0) else decide (14 ≤ b) && decide (b < 17) && tb_k c (10, cls, idx, a, b, 0)
  | (.newarray t, a, _, _, _) => (a == 0 && decide (t = .int)) || (a == 1 && decide (t = .byte)) || (a == 2 && decide (t = .long)) || (a == 3 && decide (t = .boolean))
  | (.invokevirtual idx, a, b, c, d) => decide (a = 0) && tb_k c (11, cls, idx, 0, b, 0) && decide (b < 302) && decide (b ≠ tb_law) && decide (tb_np.getD b 0 = d.toNat) && !tb_static b && !(tb_M b).2.2.2.1
  | (.invokestatic idx, a, b, c, d) => if a = 6 then tb_k c (14, cls, idx, 0, 0, 0) else decide (a = 2) && tb_k c (11, cls, idx, 0, b, 0) && decide (b < 302) && decide (b ≠ tb_law) && decide (tb_np.getD b 0 = d.toNat) && tb_static b
  | (.invokespecial idx, a, b, c, d) => if a = 5 then tb_k c (13, cls, idx, 0, 0, 0) else if a = 7 then tb_k c (15, cls, idx, 0, b, 0) && decide (14 ≤ b) && decide (b < 17) else
    (tb_M b).2.2.2.1 && decide (b < 302) && decide (b ≠ tb_law) && decide (tb_np.getD b 0 = d.toNat) && !tb_static b && (if a = 3 then tb_k c (11, cls, idx, 0, b, 0) else decide (a = 4) && tb_k c (12, cls, idx, 0, b, 0))
  | _ => true
def tb_all (cls : Nat) (init : Bool) (bytes : ByteArray) : List (Option ax_E) → Nat → Bool
  | [], _ => true
  | none :: r, pc => tb_all cls init bytes r (pc + 1)
  | some e :: r, pc => tb_d bytes pc e.1 && tb_l cls init e && tb_all cls init bytes r (pc + 1)
def tb_mok (y : Nat) : Bool := tb_all (tb_M y).1 (tb_M y).2.2.2.1 (tb_bytes y) (tb_M y).2.2.2.2.2 0 && (tb_M y).2.2.2.2.1.all (fun q => decide (q.2.2.2.1 ≠ 0) && decide (14 ≤ q.2.2.2.2.1) && decide (q.2.2.2.2.1 < 17) && tb_k q.2.2.2.2.2 (16, (tb_M y).1, q.2.2.2.1, 0, q.2.2.2.2.1, 0))
def tb_moks (lo n : Nat) : Bool := (List.range' lo n).all tb_mok
