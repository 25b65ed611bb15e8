/-! KEYS: the bytes of a name in two longs. -/
def u64 (x : Int) : Nat := (BitVec.ofInt 64 x).toNat
theorem u64_or (a b : Int) : u64 (ax_lor a b) = u64 a ||| u64 b := by
  unfold u64 ax_lor
  have e : BitVec.ofInt 64 (Int64.ofInt a ||| Int64.ofInt b).toInt = BitVec.ofInt 64 a ||| BitVec.ofInt 64 b := BitVec.ofInt_toInt
  rw [e, BitVec.toNat_or]
theorem u64_shl8 (a : Int) : u64 (ax_lshl a 8) = u64 a * 256 % 18446744073709551616 := by
  unfold u64 ax_lshl
  have e : BitVec.ofInt 64 (Int64.ofInt a <<< ((Int32.ofInt 8).toInt64 &&& 63)).toInt = BitVec.ofInt 64 a <<< 8 := BitVec.ofInt_toInt
  rw [e, BitVec.toNat_shiftLeft, Nat.shiftLeft_eq]
theorem u64_ushr56 (a : Int) : u64 (ax_lushr a 56) = u64 a / 72057594037927936 := by
  unfold u64 ax_lushr
  have e : BitVec.ofInt 64 (((Int64.ofInt a).toUInt64 >>> ((Int32.ofInt 56).toInt64.toUInt64 &&& Int64.toUInt64 63)).toInt64.toInt) = BitVec.ofInt 64 a >>> 56 := BitVec.ofInt_toInt
  rw [e, BitVec.toNat_ushiftRight, Nat.shiftRight_eq_div_pow]
theorem u64_lt (a : Int) : u64 a < 18446744073709551616 := (BitVec.ofInt 64 a).isLt
theorem u64_nat {c : Nat} (h : c < 18446744073709551616) : u64 (c : Int) = c := by
  unfold u64
  rw [BitVec.ofInt_natCast, BitVec.toNat_ofNat]
  exact Nat.mod_eq_of_lt h
/-- in the bounds of a long -/
def inl64 (a : Int) : Prop := (BitVec.ofInt 64 a).toInt = a
theorem inl64_or (a b : Int) : inl64 (ax_lor a b) := by
  unfold inl64 ax_lor
  have e : BitVec.ofInt 64 (Int64.ofInt a ||| Int64.ofInt b).toInt = BitVec.ofInt 64 a ||| BitVec.ofInt 64 b := BitVec.ofInt_toInt
  rw [e]
  rfl
theorem inl64_inj {a b : Int} (ha : inl64 a) (hb : inl64 b) (h : u64 a = u64 b) : a = b := by
  unfold inl64 at ha hb
  have : BitVec.ofInt 64 a = BitVec.ofInt 64 b := BitVec.eq_of_toNat_eq h
  rw [← ha, ← hb, this]
theorem or_add {a b : Nat} (hb : b < 256) : a * 256 % 18446744073709551616 ||| b = a * 256 % 18446744073709551616 + b := by
  have e : a * 256 % 18446744073709551616 = (a % 72057594037927936) <<< 8 := by
    rw [Nat.shiftLeft_eq]
    omega
  rw [e, ← Nat.shiftLeft_add_eq_or_of_lt (by exact hb)]
theorem or_lo {l c : Int} (h0 : 0 ≤ c) (h1 : c < 256) : u64 (ax_lor (ax_lshl l 8) c) = (u64 l * 256) % 18446744073709551616 + c.toNat := by
  obtain ⟨c, rfl⟩ := Int.eq_ofNat_of_zero_le h0
  rw [u64_or, u64_shl8, u64_nat (by omega), or_add (by omega)]
  rfl
theorem or_hi {u l : Int} : u64 (ax_lor (ax_lshl u 8) (ax_lushr l 56)) = (u64 u * 256) % 18446744073709551616 + u64 l / 72057594037927936 := by
  have := u64_lt l
  rw [u64_or, u64_shl8, u64_ushr56, or_add (by omega)]
/-- a name's letters spelled -/
def spl (t : Nat → Int) : Nat → Nat → Int × Int
  | 0, _ => (0, 0)
  | k + 1, i => (ax_lor (ax_lshl (spl t k i).1 8) (ax_lushr (spl t k i).2 56), ax_lor (ax_lshl (spl t k i).2 8) (t (i + k)))
def pk (t : Nat → Int) : Nat → Nat → Nat
  | 0, _ => 0
  | k + 1, i => pk t k i * 256 + (t (i + k)).toNat
theorem pkn_lt (t : Nat → Int) (i : Nat) : ∀ k, (∀ e, e < k → 0 < t (i + e) ∧ t (i + e) < 256) → pk t k i < 256 ^ k := by
  intro k
  induction k with
  | zero => intro _; exact Nat.one_pos
  | succ k ih =>
    intro h
    have a := ih (fun e he => h e (by omega))
    have b := h k (by omega)
    simp only [pk]
    rw [Nat.pow_succ]
    omega
set_option maxRecDepth 20000 in
theorem spl_pk (t : Nat → Int) (i : Nat) : ∀ k, (∀ e, e < k → 0 < t (i + e) ∧ t (i + e) < 256) → k ≤ 16 → u64 (spl t k i).1 * 18446744073709551616 + u64 (spl t k i).2 = pk t k i ∧ inl64 (spl t k i).1 ∧ inl64 (spl t k i).2 := by
  intro k
  induction k with
  | zero => intro _ _; exact ⟨(by decide : u64 0 * 18446744073709551616 + u64 0 = 0), (by decide : (BitVec.ofInt 64 0).toInt = 0), (by decide : (BitVec.ofInt 64 0).toInt = 0)⟩
  | succ k ih =>
    intro h hk
    obtain ⟨a, b, c⟩ := ih (fun e he => h e (by omega)) (by omega)
    have d := h k (by omega)
    have lt := pkn_lt t i k (fun e he => h e (by omega))
    have l1 := u64_lt (spl t k i).1
    have l2 := u64_lt (spl t k i).2
    have hp : 256 ^ k ≤ 256 ^ 15 := Nat.pow_le_pow_right (by decide) (by omega)
    have hp2 : (256 : Nat) ^ 15 = 1329227995784915872903807060280344576 := by decide
    rw [hp2] at hp
    have lt2 := Nat.lt_of_lt_of_le lt hp
    clear lt hp hp2
    refine ⟨?_, inl64_or _ _, inl64_or _ _⟩
    simp only [spl, pk]
    rw [or_hi, or_lo (by omega) (by omega), ← a]
    rw [← a] at lt2
    clear a b c
    generalize u64 (spl t k i).1 = A at *
    generalize u64 (spl t k i).2 = B at *
    generalize (t (i + k)).toNat = C
    have hA : A < 72057594037927936 := by omega
    have e1 : A * 256 % 18446744073709551616 = A * 256 := Nat.mod_eq_of_lt (by omega)
    have e2 := Nat.div_add_mod B 72057594037927936
    have e3 := Nat.mod_lt B (show 72057594037927936 > 0 by decide)
    generalize B / 72057594037927936 = D at *
    generalize B % 72057594037927936 = E at *
    have e4 : B * 256 % 18446744073709551616 = E * 256 := by
      rw [← e2, show (72057594037927936 * D + E) * 256 = E * 256 + 18446744073709551616 * D by omega, Nat.add_mul_mod_self_left]
      exact Nat.mod_eq_of_lt (by omega)
    rw [e1, e4, ← e2]
    omega
theorem pkn_inj (t t' : Nat → Int) : ∀ (k k' i i' : Nat), (∀ e, e < k → 0 < t (i + e) ∧ t (i + e) < 256) → (∀ e, e < k' → 0 < t' (i' + e) ∧ t' (i' + e) < 256) → pk t k i = pk t' k' i' → k = k' ∧ ∀ e, e < k → t (i + e) = t' (i' + e) := by
  intro k
  induction k with
  | zero =>
    intro k' i i' _ h' e
    cases k' with
    | zero => exact ⟨rfl, fun e he => absurd he (by omega)⟩
    | succ k' =>
      have := h' k' (by omega)
      simp only [pk] at e
      omega
  | succ k ih =>
    intro k' i i' h h' e
    cases k' with
    | zero =>
      have := h k (by omega)
      simp only [pk] at e
      omega
    | succ k' =>
      have a := h k (by omega)
      have b := h' k' (by omega)
      simp only [pk] at e
      obtain ⟨e1, e2⟩ := ih k' i i' (fun e he => h e (by omega)) (fun e he => h' e (by omega)) (by omega)
      subst e1
      refine ⟨rfl, fun e0 he => ?_⟩
      by_cases x : e0 = k
      · subst x
        omega
      · exact e2 e0 (by omega)
theorem spl_inj {t t' : Nat → Int} {k k' i i' : Nat} (h : ∀ e, e < k → 0 < t (i + e) ∧ t (i + e) < 256) (h' : ∀ e, e < k' → 0 < t' (i' + e) ∧ t' (i' + e) < 256) (hk : k ≤ 16) (hk' : k' ≤ 16) (e1 : (spl t k i).1 = (spl t' k' i').1) (e2 : (spl t k i).2 = (spl t' k' i').2) : k = k' ∧ ∀ e, e < k → t (i + e) = t' (i' + e) := by
  obtain ⟨a, -, -⟩ := spl_pk t i k h hk
  obtain ⟨b, -, -⟩ := spl_pk t' i' k' h' hk'
  exact pkn_inj t t' k k' i i' h h' (by rw [← a, ← b, e1, e2])
theorem spl_congr {t t' : Nat → Int} {i i' : Nat} : ∀ k, (∀ e, e < k → t (i + e) = t' (i' + e)) → spl t k i = spl t' k i' := by
  intro k
  induction k with
  | zero => intro _; rfl
  | succ k ih =>
    intro h
    simp only [spl]
    rw [ih (fun e he => h e (by omega)), h k (by omega)]
theorem pkn_congr {t t' : Nat → Int} {i i' : Nat} : ∀ k, (∀ e, e < k → t (i + e) = t' (i' + e)) → pk t k i = pk t' k i' := by
  intro k
  induction k with
  | zero => intro _; rfl
  | succ k ih =>
    intro h
    simp only [pk]
    rw [ih (fun e he => h e (by omega)), h k (by omega)]
/-- a short name is its lower long -/
theorem spl_short {t : Nat → Int} {k i : Nat} (h : ∀ e, e < k → 0 < t (i + e) ∧ t (i + e) < 256) (hk : k ≤ 16) (v : Nat) (hv : v < 9223372036854775808) : (spl t k i = (0, (v : Int))) ↔ pk t k i = v := by
  obtain ⟨a, b, c⟩ := spl_pk t i k h hk
  constructor
  · intro e
    rw [e] at a
    have z : u64 0 = 0 := by decide
    rw [← a]
    simp only [z, u64_nat (show v < 18446744073709551616 by omega), Nat.zero_mul, Nat.zero_add]
  · intro e
    have l1 := u64_lt (spl t k i).1
    have l2 := u64_lt (spl t k i).2
    have q1 : (spl t k i).1 = 0 := inl64_inj b (by unfold inl64; decide) (by rw [show u64 0 = 0 by decide]; omega)
    have q2 : (spl t k i).2 = (v : Int) := inl64_inj c (by
      unfold inl64
      rw [BitVec.toInt_ofInt, Int.bmod_eq_of_le] <;> omega) (by rw [u64_nat (by omega)]; omega)
    exact Prod.ext q1 q2
