/-! SMALL FACTS of the functions. -/
theorem u2_same {α : Type} (f : Nat → Nat → α) (a j : Nat) (z : α) : ax_u2 f a j z a j = z := by simp [ax_u2]
theorem u2_row {α : Type} (f : Nat → Nat → α) {a b : Nat} (j : Nat) (z : α) (h : b ≠ a) : ax_u2 f a j z b = f b := by funext k; simp [ax_u2, h]
theorem u2_col {α : Type} (f : Nat → Nat → α) (a : Nat) {j k : Nat} (z : α) (h : k ≠ j) : ax_u2 f a j z a k = f a k := by simp [ax_u2, h]
theorem u2_at {α : Type} (f : Nat → Nat → α) (a j k : Nat) (z : α) : ax_u2 f a j z a k = if k = j then z else f a k := by simp [ax_u2]
theorem w32_id {z : Int} (h : -2147483648 ≤ z) (h2 : z < 2147483648) : ax_w32 z = z := by unfold ax_w32; rw [Int.bmod_eq_of_le]  <;> omega
theorem w64_id {z : Int} (h : -9223372036854775808 ≤ z) (h2 : z < 9223372036854775808) : ax_w64 z = z := by unfold ax_w64; rw [Int.bmod_eq_of_le] <;> omega
theorem w8_mod (z : Int) : ax_w8 z % 256 = z % 256 := by unfold ax_w8; exact Int.bmod_emod (x := z) (m := 256)
theorem w8_lo (z : Int) : -128 ≤ ax_w8 z := by unfold ax_w8; have := Int.le_bmod (x := z) (m := 256) (by decide); omega
theorem w8_hi (z : Int) : ax_w8 z < 128 := by unfold ax_w8; have := Int.bmod_lt (x := z) (m := 256) (by decide); omega
theorem cmp_eq {x y : Int} : ax_cmp x y = 0 ↔ x = y := by
  unfold ax_cmp
  split
  · constructor
    · intro h; omega
    · intro h; omega
  · split
    · constructor
      · intro _; assumption
      · intro _; rfl
    · constructor
      · intro h; omega
      · intro h; contradiction
theorem cmp_lt {x y : Int} : ax_cmp x y < 0 ↔ x < y := by
  unfold ax_cmp
  split
  · constructor <;> intro h <;> omega
  · split
    · constructor <;> intro h <;> omega
    · constructor <;> intro h <;> omega
theorem cmp_gt {x y : Int} : 0 < ax_cmp x y ↔ y < x := by
  unfold ax_cmp
  split
  · constructor <;> intro h <;> omega
  · split
    · constructor <;> intro h <;> omega
    · constructor <;> intro h <;> omega
theorem cmp_le {x y : Int} : ax_cmp x y ≤ 0 ↔ x ≤ y := by
  unfold ax_cmp
  split
  · constructor <;> intro h <;> omega
  · split
    · constructor <;> intro h <;> omega
    · constructor <;> intro h <;> omega
theorem within_eq (x a b : Int) (s : Sg) : f_207 x a b s = if a ≤ x ∧ x ≤ b then 1 else 0 := by
  unfold f_207
  simp only [cmp_lt, cmp_gt]
  split
  · rw [if_neg (by omega)]
  · split
    · rw [if_neg (by omega)]
    · rw [if_pos (by omega)]
theorem iand_mod (x : Int) (k : Nat) (hk : k < 31) : ax_iand x ((2 ^ k - 1 : Nat) : Int) = x % ((2 ^ k : Nat) : Int) := by
  have hp : 2 ^ k ≤ 2 ^ 30 := Nat.pow_le_pow_right (by decide) (by omega)
  have hp0 : 0 < 2 ^ k := Nat.two_pow_pos k
  have h30 : (2 : Nat) ^ 30 = 1073741824 := by decide
  have hb : (BitVec.ofInt 32 ((2 ^ k - 1 : Nat) : Int)).toNat = 2 ^ k - 1 := by
    rw [BitVec.toNat_ofInt]
    have : (((2 ^ k - 1 : Nat) : Int) % ((2 ^ 32 : Nat) : Int)) = ((2 ^ k - 1 : Nat) : Int) := Int.emod_eq_of_lt (by omega) (by omega)
    rw [this]
    omega
  have e : (BitVec.ofInt 32 x &&& BitVec.ofInt 32 ((2 ^ k - 1 : Nat) : Int)).toNat = (x % ((2 ^ 32 : Nat) : Int)).toNat % 2 ^ k := by
    rw [BitVec.toNat_and, hb, Nat.and_two_pow_sub_one_eq_mod, BitVec.toNat_ofInt]
  have hlt : (x % ((2 ^ 32 : Nat) : Int)).toNat % 2 ^ k < 2 ^ k := Nat.mod_lt _ hp0
  show (BitVec.ofInt 32 x &&& BitVec.ofInt 32 ((2 ^ k - 1 : Nat) : Int)).toInt = _
  rw [BitVec.toInt_eq_toNat_of_lt (by rw [e]; omega), e]
  have h0 : 0 ≤ x % ((2 ^ 32 : Nat) : Int) := Int.emod_nonneg _ (by decide)
  have e2 : (((x % ((2 ^ 32 : Nat) : Int)).toNat % 2 ^ k : Nat) : Int) = (x % ((2 ^ 32 : Nat) : Int)) % ((2 ^ k : Nat) : Int) := by
    rw [Int.natCast_emod, Int.toNat_of_nonneg h0]
  rw [e2]
  have hd : ((2 ^ k : Nat) : Int) ∣ ((2 ^ 32 : Nat) : Int) := by
    refine ⟨((2 ^ (32 - k) : Nat) : Int), ?_⟩
    rw [← Int.natCast_mul, ← Nat.pow_add, show k + (32 - k) = 32 by omega]
  exact Int.emod_emod_of_dvd x hd
theorem iand255 (x : Int) : ax_iand x 255 = x % 256 := iand_mod x 8 (by decide)
theorem iand15 (x : Int) : ax_iand x 15 = x % 16 := iand_mod x 4 (by decide)
theorem iand8191 (x : Int) : ax_iand x 8191 = x % 8192 := iand_mod x 13 (by decide)
theorem FU_split {k : Nat} (h : k ≤ 1000000) : ∃ F, FU = F + k := ⟨1000000 - k, by unfold FU; omega⟩
