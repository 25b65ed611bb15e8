/-! PRINTING: bytes written, decimals. -/
section WRI
variable {s sc sm : Sg} {v w : Int} {n : Nat} {t : Nat → Int}
def cwr (s : Sg) (B : List Int) : Sg := B.foldl (fun s b => f_134 b s) s
def mwr (s : Sg) (B : List Int) : Sg := B.foldl (fun s b => f_221 b s) s
theorem cwr_nil (s : Sg) : cwr s [] = s := rfl
theorem mwr_nil (s : Sg) : mwr s [] = s := rfl
theorem cwr_cons (s : Sg) (b : Int) (B : List Int) : cwr s (b :: B) = cwr (f_134 b s) B := rfl
theorem mwr_cons (s : Sg) (b : Int) (B : List Int) : mwr s (b :: B) = mwr (f_221 b s) B := rfl
theorem cwr_app (s : Sg) (A B : List Int) : cwr s (A ++ B) = cwr (cwr s A) B := List.foldl_append
theorem mwr_app (s : Sg) (A B : List Int) : mwr s (A ++ B) = mwr (mwr s A) B := List.foldl_append
def WC (s : Sg) : Prop := 0 ≤ s 82 2 ∧ s 82 2 ≤ 16384
theorem WC.g (h : WC s) (b : Int) : g_134 b s := by
  unfold g_134
  exact ⟨fun _ => trivial, fun a => ⟨⟨h.1, by omega⟩, trivial⟩⟩
theorem c134_row (b : Int) (s : Sg) {c : Nat} (h : c ≠ 82) (h' : c ≠ 83) : f_134 b s c = s c := by
  unfold f_134
  split
  · rfl
  · rw [u2_row _ _ _ h, u2_row _ _ _ h']
theorem c134_j (b : Int) (s : Sg) {j : Nat} (h : j ≠ 2) : f_134 b s 82 j = s 82 j := by
  unfold f_134
  split
  · rfl
  · rw [u2_col _ _ _ h, u2_row _ _ _ (by decide)]
theorem c134_len (b : Int) (h : WC s) : f_134 b s 82 2 = (if 16384 ≤ s 82 2 then s 82 2 else s 82 2 + 1) := by
  unfold f_134
  split
  · rfl
  · rw [u2_at, if_pos rfl, w32_id (by have := h.1; omega) (by omega)]
theorem WC.put (h : WC s) (b : Int) : WC (f_134 b s) := by
  unfold WC
  rw [c134_len b h]
  have := h.1
  have := h.2
  split <;> omega
theorem WC.wr : ∀ (B : List Int) (s : Sg), WC s → WC (cwr s B) := by
  intro B
  induction B with
  | nil => intro s h; exact h
  | cons b B ih => intro s h; exact ih _ (h.put b)
theorem cwr_row {c : Nat} (h : c ≠ 82) (h' : c ≠ 83) : ∀ (B : List Int) (s : Sg), cwr s B c = s c := by
  intro B
  induction B with
  | nil => intro s; rfl
  | cons b B ih => intro s; rw [cwr_cons, ih, c134_row b s h h']
theorem cwr_j {j : Nat} (h : j ≠ 2) : ∀ (B : List Int) (s : Sg), cwr s B 82 j = s 82 j := by
  intro B
  induction B with
  | nil => intro s; rfl
  | cons b B ih => intro s; rw [cwr_cons, ih, c134_j b s h]
theorem cwr_len : ∀ (B : List Int) (s : Sg), 0 ≤ s 82 2 → s 82 2 + (B.length : Int) ≤ 16384 → cwr s B 82 2 = s 82 2 + (B.length : Int) := by
  intro B
  induction B with
  | nil => intro s _ _; simp [cwr_nil]
  | cons b B ih =>
    intro s h1 h2
    rw [List.length_cons] at h2 ⊢
    have e := c134_len b (s := s) ⟨h1, by omega⟩
    rw [if_neg (by omega)] at e
    rw [cwr_cons, ih _ (by rw [e]; omega) (by rw [e]; omega), e]
    omega
theorem cwr_at : ∀ (B : List Int) (s : Sg) (L : Nat), s 82 2 = (L : Int) → L + B.length ≤ 16384 → (∀ i, i < L → cwr s B 83 i = s 83 i) ∧ (∀ i, i < B.length → cwr s B 83 (L + i) % 256 = B.getD i 0 % 256) := by
  intro B
  induction B with
  | nil => intro s L _ _; exact ⟨fun _ _ => rfl, fun i hi => absurd hi (by simp)⟩
  | cons b B ih =>
    intro s L h1 h2
    rw [List.length_cons] at h2
    have e := c134_len b (s := s) ⟨by omega, by omega⟩
    rw [if_neg (by omega)] at e
    have r : f_134 b s 83 = ax_u2 s 83 L (ax_w8 (ax_w8 b)) 83 := by
      unfold f_134
      rw [if_neg (by omega), u2_row _ _ _ (by decide), h1, Int.toNat_natCast]
    obtain ⟨i1, i2⟩ := ih (f_134 b s) (L + 1) (by rw [e, h1]; omega) (by omega)
    refine ⟨fun i hi => ?_, fun i hi => ?_⟩
    · rw [cwr_cons, i1 i (by omega), r, u2_col _ _ _ (by omega)]
    · rw [List.length_cons] at hi
      cases i with
      | zero => rw [cwr_cons, Nat.add_zero, i1 L (by omega), r, u2_at, if_pos rfl, w8_mod, w8_mod]; rfl
      | succ i =>
        have := i2 i (by omega)
        rw [cwr_cons, show L + (i + 1) = L + 1 + i by omega, this]
        rfl
theorem m221_row (b : Int) (s : Sg) {c : Nat} (h : c ≠ 84) (h' : c ≠ 87) : f_221 b s c = s c := by
  unfold f_221
  rw [u2_row _ _ _ h, u2_row _ _ _ h']
theorem m221_j (b : Int) (s : Sg) {j : Nat} (h : j ≠ 9) : f_221 b s 84 j = s 84 j := by
  unfold f_221
  rw [u2_col _ _ _ h, u2_row _ _ _ (by decide)]
theorem m221_len (b : Int) (h : 0 ≤ s 84 9) (h' : s 84 9 < 25000) : f_221 b s 84 9 = s 84 9 + 1 := by
  unfold f_221
  rw [u2_at, if_pos rfl, w32_id (by omega) (by omega)]
theorem mwr_row {c : Nat} (h : c ≠ 84) (h' : c ≠ 87) : ∀ (B : List Int) (s : Sg), mwr s B c = s c := by
  intro B
  induction B with
  | nil => intro s; rfl
  | cons b B ih => intro s; rw [mwr_cons, ih, m221_row b s h h']
theorem mwr_j {j : Nat} (h : j ≠ 9) : ∀ (B : List Int) (s : Sg), mwr s B 84 j = s 84 j := by
  intro B
  induction B with
  | nil => intro s; rfl
  | cons b B ih => intro s; rw [mwr_cons, ih, m221_j b s h]
theorem mwr_len : ∀ (B : List Int) (s : Sg), 0 ≤ s 84 9 → s 84 9 + (B.length : Int) ≤ 25000 → mwr s B 84 9 = s 84 9 + (B.length : Int) := by
  intro B
  induction B with
  | nil => intro s _ _; simp [mwr_nil]
  | cons b B ih =>
    intro s h1 h2
    rw [List.length_cons] at h2 ⊢
    have e := m221_len b (s := s) h1 (by omega)
    rw [mwr_cons, ih _ (by rw [e]; omega) (by rw [e]; omega), e]
    omega
theorem mwr_at : ∀ (B : List Int) (s : Sg) (L : Nat), s 84 9 = (L : Int) → L + B.length ≤ 25000 → (∀ i, i < L → mwr s B 87 i = s 87 i) ∧ (∀ i, i < B.length → mwr s B 87 (L + i) = B.getD i 0) := by
  intro B
  induction B with
  | nil => intro s L _ _; exact ⟨fun _ _ => rfl, fun i hi => absurd hi (by simp)⟩
  | cons b B ih =>
    intro s L h1 h2
    rw [List.length_cons] at h2
    have e := m221_len b (s := s) (by omega) (by omega)
    have r : f_221 b s 87 = ax_u2 s 87 L b 87 := by
      unfold f_221
      rw [u2_row _ _ _ (by decide), h1, Int.toNat_natCast]
    obtain ⟨i1, i2⟩ := ih (f_221 b s) (L + 1) (by rw [e, h1]; omega) (by omega)
    refine ⟨fun i hi => ?_, fun i hi => ?_⟩
    · rw [mwr_cons, i1 i (by omega), r, u2_col _ _ _ (by omega)]
    · rw [List.length_cons] at hi
      cases i with
      | zero => rw [mwr_cons, Nat.add_zero, i1 L (by omega), r, u2_at, if_pos rfl]; rfl
      | succ i =>
        have := i2 i (by omega)
        rw [mwr_cons, show L + (i + 1) = L + 1 + i by omega, this]
        rfl
/-- division -/
theorem ldiv_p (h0 : 0 ≤ v) (h1 : v < 9223372036854775808) (w0 : 0 < w) (w1 : w < 9223372036854775808) : ax_ldiv v w = v / w := by
  unfold ax_ldiv
  rw [Int64.toInt_div, Int64.toInt_ofInt, Int64.toInt_ofInt, Int.bmod_eq_of_le (n := v) (by simp only [Int64.size]; omega) (by simp only [Int64.size]; omega), Int.bmod_eq_of_le (n := w) (by simp only [Int64.size]; omega) (by simp only [Int64.size]; omega), Int.tdiv_eq_ediv_of_nonneg h0]
  have a := Int.ediv_nonneg h0 (Int.le_of_lt w0)
  have b : v / w ≤ v := Int.ediv_le_self _ h0
  rw [Int.bmod_eq_of_le] <;> omega
theorem lrem_p (h0 : 0 ≤ v) (h1 : v < 9223372036854775808) : ax_lrem v 10 = v % 10 := by
  unfold ax_lrem
  rw [Int64.toInt_sub, Int64.toInt_mul, Int64.toInt_div, Int64.toInt_ofInt, Int64.toInt_ofInt, Int.bmod_eq_of_le (n := v) (by simp only [Int64.size]; omega) (by simp only [Int64.size]; omega), Int.bmod_eq_of_le (n := 10) (by decide) (by decide), Int.tdiv_eq_ediv_of_nonneg h0]
  have : (v / 10).bmod (2 ^ 64) = v / 10 := by rw [Int.bmod_eq_of_le] <;> omega
  rw [this]
  have : (v / 10 * 10).bmod (2 ^ 64) = v / 10 * 10 := by rw [Int.bmod_eq_of_le] <;> omega
  rw [this, Int.bmod_eq_of_le] <;> omega
/-- digits -/
def tn (e : Nat) : Int := ((10 ^ e : Nat) : Int)
theorem tn_s (e : Nat) : tn (e + 1) = tn e * 10 := by unfold tn; rw [Nat.pow_succ]; omega
theorem tn_b {e : Nat} (h : e ≤ 13) : 1 ≤ tn e ∧ tn e ≤ 10000000000000 := by
  unfold tn
  have a : 10 ^ e ≤ 10 ^ 13 := Nat.pow_le_pow_right (by decide) h
  have b : 0 < 10 ^ e := Nat.pow_pos (by decide)
  have c : (10 ^ 13 : Nat) = 10000000000000 := by decide
  rw [c] at a
  omega
def dgl (v : Int) : Nat → List Int
  | 0 => [48 + v % 10]
  | e + 1 => (48 + v / tn (e + 1) % 10) :: dgl v e
theorem dgl_len (v : Int) (e : Nat) : (dgl v e).length = e + 1 := by
  induction e with
  | zero => rfl
  | succ e ih => rw [dgl, List.length_cons, ih]
def dxp (v : Int) : Nat → Nat → Nat
  | 0, e => e
  | k + 1, e => if v / tn e < 10 then e else dxp v k (e + 1)
theorem dxp_le {M : Nat} (h : v / tn M < 10) : ∀ k e, e ≤ M → dxp v k e ≤ M := by
  intro k
  induction k with
  | zero => intro e he; exact he
  | succ k ih =>
    intro e he
    rw [dxp]
    split
    · exact he
    · rename_i c
      have : e ≠ M := fun u => c (by rw [u]; exact h)
      exact ih (e + 1) (by omega)
theorem dxp_b : ∀ k e, dxp v k e ≤ e + k := by
  intro k
  induction k with
  | zero => intro e; exact Nat.le_refl _
  | succ k ih =>
    intro e
    rw [dxp]
    split
    · omega
    · have := ih (e + 1); omega
theorem dig_b (h0 : 0 ≤ v) (h1 : v ≤ 1099511627776) {e : Nat} (he : e ≤ 13) : 0 ≤ v / tn e ∧ v / tn e ≤ 1099511627776 ∧ 0 ≤ v / tn e % 10 ∧ v / tn e % 10 < 10 := by
  have a := (tn_b he).1
  have b := Int.ediv_nonneg h0 (show 0 ≤ tn e by omega)
  have c : v / tn e ≤ v := Int.ediv_le_self _ h0
  omega
theorem c137a (h0 : 0 ≤ v) (h1 : v ≤ 1099511627776) : ∀ (e : Nat) (F : Nat) (l5 : Int) (s : Sg), WC s → 0 ≤ l5 → l5 + (e : Int) + 1 ≤ 13 → j_137_37 (F + e + 2) v (tn e) l5 s = some (cwr s (dgl v e)) := by
  intro e
  induction e with
  | zero =>
    intro F l5 s hw hl hb
    have b := tn_b (e := 0) (by omega)
    have d := dig_b h0 h1 (e := 0) (by omega)
    have t0 : tn 0 = 1 := rfl
    rw [show F + 0 + 2 = F + 1 + 1 by omega, j_137_37, if_neg (by omega), if_neg (by rw [cmp_le]; omega), gd_pos (by omega), ldiv_p h0 (by omega) (by omega) (by omega), lrem_p d.1 (by omega), w32_id (z := v / tn 0 % 10) (by omega) (by omega), w32_id (z := 48 + v / tn 0 % 10) (by omega) (by omega), gd_pos (hw.g _), Option.bind_some, ldiv_p (by omega) (by omega) (by omega) (by omega), j_137_37]
    have z : tn 0 / 10 = 0 := rfl
    rw [z]
    by_cases c : 13 ≤ ax_w32 (l5 + 1)
    · rw [if_pos c, t0, Int.ediv_one]; rfl
    · rw [if_neg c, if_pos (by decide), t0, Int.ediv_one]; rfl
  | succ e ih =>
    intro F l5 s hw hl hb
    have b := tn_b (e := e + 1) (by omega)
    have d := dig_b h0 h1 (e := e + 1) (by omega)
    have q : tn (e + 1) / 10 = tn e := by rw [tn_s]; omega
    rw [show F + (e + 1) + 2 = (F + e + 2) + 1 by omega, j_137_37, if_neg (by omega), if_neg (by rw [cmp_le]; omega), gd_pos (by omega), ldiv_p h0 (by omega) (by omega) (by omega), lrem_p d.1 (by omega), w32_id (z := v / tn (e + 1) % 10) (by omega) (by omega), w32_id (z := 48 + v / tn (e + 1) % 10) (by omega) (by omega), gd_pos (hw.g _), Option.bind_some, ldiv_p (by omega) (by omega) (by omega) (by omega), q, w32_id (by omega) (by omega), ih F (l5 + 1) _ (hw.put _) (by omega) (by omega)]
    rfl
theorem c137b (h0 : 0 ≤ v) (h1 : v ≤ 1099511627776) (hw : WC s) : ∀ (k e F : Nat), e + k = 12 → j_137_5 (F + k + 1) v (tn e) (e : Int) s = some (cwr s (dgl v (dxp v k e))) := by
  have fin : ∀ e, e ≤ 12 → j_137_34 v (tn e) s = some (cwr s (dgl v e)) := fun e he => by
    unfold j_137_34
    obtain ⟨F, hF⟩ := FU_split (k := e + 2) (by omega)
    rw [hF]
    exact c137a h0 h1 e F 0 s hw (by omega) (by omega)
  intro k
  induction k with
  | zero =>
    intro e F he
    rw [j_137_5, if_pos (by omega), dxp]
    exact fin e (by omega)
  | succ k ih =>
    intro e F he
    have b := tn_b (e := e) (by omega)
    rw [show F + (k + 1) + 1 = (F + k + 1) + 1 by omega, j_137_5, if_neg (by omega), gd_pos (by omega), ldiv_p h0 (by omega) (by omega) (by omega), dxp]
    by_cases c : v / tn e < 10
    · rw [if_pos (by rw [cmp_lt]; omega), if_pos c]
      exact fin e (by omega)
    · rw [if_neg (by rw [cmp_lt]; omega), if_neg c, w64_id (by omega) (by omega), ← tn_s, w32_nat (by omega)]
      exact ih (e + 1) F (by omega)
theorem c137 (h0 : 0 ≤ v) (h1 : v ≤ 1099511627776) (hw : WC s) : f_137 v s = some (cwr s (dgl v (dxp v 12 0))) := by
  unfold f_137
  obtain ⟨F, hF⟩ := FU_split (k := 13) (by omega)
  rw [hF]
  exact c137b h0 h1 hw 12 0 F rfl
theorem m222a (h0 : 0 ≤ v) (h1 : v ≤ 1099511627776) : ∀ (e : Nat) (F : Nat) (s : Sg), e ≤ 12 → 0 ≤ s 84 9 → s 84 9 + (e : Int) + 1 ≤ 25000 → j_222_54 (F + e + 2) v (tn e) s = some (mwr s (dgl v e)) := by
  intro e
  induction e with
  | zero =>
    intro F s he hl hb
    have b := tn_b (e := 0) (by omega)
    have d := dig_b h0 h1 (e := 0) (by omega)
    have t0 : tn 0 = 1 := rfl
    rw [show F + 0 + 2 = F + 1 + 1 by omega, j_222_54, if_neg (by rw [cmp_le]; omega), gd_pos (by omega), ldiv_p h0 (by omega) (by omega) (by omega), lrem_p d.1 (by omega), w64_id (z := 48 + v / tn 0 % 10) (by omega) (by omega), w32_id (z := 48 + v / tn 0 % 10) (by omega) (by omega), gd_pos (by unfold g_221; exact ⟨⟨by omega, by omega⟩, trivial⟩), Option.bind_some, ldiv_p (by omega) (by omega) (by omega) (by omega), j_222_54]
    have z : tn 0 / 10 = 0 := rfl
    rw [z, if_pos (by decide), t0, Int.ediv_one]
    rfl
  | succ e ih =>
    intro F s he hl hb
    have b := tn_b (e := e + 1) (by omega)
    have d := dig_b h0 h1 (e := e + 1) (by omega)
    have q : tn (e + 1) / 10 = tn e := by rw [tn_s]; omega
    have l := m221_len (48 + v / tn (e + 1) % 10) (s := s) hl (by omega)
    rw [show F + (e + 1) + 2 = (F + e + 2) + 1 by omega, j_222_54, if_neg (by rw [cmp_le]; omega), gd_pos (by omega), ldiv_p h0 (by omega) (by omega) (by omega), lrem_p d.1 (by omega), w64_id (z := 48 + v / tn (e + 1) % 10) (by omega) (by omega), w32_id (z := 48 + v / tn (e + 1) % 10) (by omega) (by omega), gd_pos (by unfold g_221; exact ⟨⟨by omega, by omega⟩, trivial⟩), Option.bind_some, ldiv_p (by omega) (by omega) (by omega) (by omega), q, ih F _ (by omega) (by omega) (by omega)]
    rfl
theorem m222b (h0 : 0 ≤ v) (h1 : v ≤ 1099511627776) (hl : 0 ≤ s 84 9) (hb : s 84 9 + 13 ≤ 25000) : ∀ (k e F : Nat), e + k = 12 → j_222_28 (F + k + 1) v (tn e) s = some (mwr s (dgl v (dxp v k e))) := by
  have fin : ∀ e, e ≤ 12 → j_222_50 v (tn e) s = some (mwr s (dgl v e)) := fun e he => by
    unfold j_222_50
    obtain ⟨F, hF⟩ := FU_split (k := e + 2) (by omega)
    rw [hF]
    exact m222a h0 h1 e F s he hl (by omega)
  intro k
  induction k with
  | zero =>
    intro e F he
    have e12 : e = 12 := by omega
    subst e12
    have t12 : tn 12 = 1000000000000 := by decide
    have q9 : v / tn 12 ≤ 9 := by rw [t12]; omega
    rw [j_222_28, gd_pos (by omega), ldiv_p h0 (by omega) (by omega) (by omega), if_pos (by rw [cmp_le]; omega), dxp]
    exact fin 12 (by omega)
  | succ k ih =>
    intro e F he
    have b := tn_b (e := e) (by omega)
    rw [show F + (k + 1) + 1 = (F + k + 1) + 1 by omega, j_222_28, gd_pos (by omega), ldiv_p h0 (by omega) (by omega) (by omega), dxp]
    by_cases c : v / tn e < 10
    · rw [if_pos (by rw [cmp_le]; omega), if_pos c]
      exact fin e (by omega)
    · rw [if_neg (by rw [cmp_le]; omega), if_neg c, w64_id (by omega) (by omega), ← tn_s]
      exact ih (e + 1) F (by omega)
theorem m222d (h0 : 0 ≤ v) (h1 : v ≤ 1099511627776) (hl : 0 ≤ s 84 9) (hb : s 84 9 + 13 ≤ 25000) : j_222_28 FU v 1 s = some (mwr s (dgl v (dxp v 12 0))) := by
  obtain ⟨F, hF⟩ := FU_split (k := 13) (by omega)
  rw [hF]
  exact m222b h0 h1 hl hb 12 0 F rfl
/-- a number takes no more digits than it had -/
theorem cap_le (x : Int) : cap x ≤ x := by unfold cap; split <;> omega
theorem dvl_lt (t : Nat → Int) : ∀ k i v, (∀ e, i ≤ e → e < i + k → isD (t e) = true) → 0 ≤ v → dvl t k i v < (v + 1) * tn k := by
  intro k
  induction k with
  | zero => intro i v _ _; rw [dvl]; have : tn 0 = 1 := rfl; rw [this]; omega
  | succ k ih =>
    intro i v hd hv
    have h := hd i (Nat.le_refl _) (by omega)
    unfold isD at h
    rw [decide_eq_true_eq] at h
    have cb := cap_b (x := v * 10 + (t i - 48)) (by omega)
    have := ih (i + 1) (cap (v * 10 + (t i - 48))) (fun e a b => hd e (by omega) (by omega)) cb.1
    rw [dvl]
    refine Int.lt_of_lt_of_le this ?_
    rw [tn_s, Int.mul_comm (tn k), ← Int.mul_assoc]
    have cl := cap_le (v * 10 + (t i - 48))
    have p : 0 < 10 ^ k := Nat.pow_pos (by decide)
    exact Int.mul_le_mul_of_nonneg_right (by omega) (by unfold tn; omega)
theorem hvl_lt (t : Nat → Int) : ∀ k i v, (∀ e, i ≤ e → e < i + k → isH (t e) = true) → 0 ≤ v → hvl t k i v < (v + 1) * ((16 ^ k : Nat) : Int) := by
  intro k
  induction k with
  | zero => intro i v _ _; rw [hvl]; omega
  | succ k ih =>
    intro i v hd hv
    have h := hd i (Nat.le_refl _) (by omega)
    unfold isH at h
    rw [decide_eq_true_eq] at h
    have hb : 0 ≤ hxv (t i) ∧ hxv (t i) ≤ 15 := by unfold hxv; split <;> omega
    have cb := cap_b (x := v * 16 + hxv (t i)) (by omega)
    have := ih (i + 1) (cap (v * 16 + hxv (t i))) (fun e a b => hd e (by omega) (by omega)) cb.1
    rw [hvl]
    refine Int.lt_of_lt_of_le this ?_
    have e : ((16 ^ (k + 1) : Nat) : Int) = 16 * ((16 ^ k : Nat) : Int) := by rw [Nat.pow_succ]; omega
    rw [e, ← Int.mul_assoc]
    have cl := cap_le (v * 16 + hxv (t i))
    have p : 0 < 16 ^ k := Nat.pow_pos (by decide)
    exact Int.mul_le_mul_of_nonneg_right (by omega) (by omega)
theorem tn_16 : ∀ k, k ≤ 8 → 16 ^ k ≤ 10 ^ (k + 2) := by decide
theorem num_len {i j : Nat} {k : Int} (h : LXv t n i j k v) (hi : i < j) (hj : j ≤ n) : dxp v 12 0 + 1 ≤ j - i := by
  obtain ⟨h1, h2, h3, h4, h5⟩ := h
  have key : ∀ M : Nat, v < tn (M + 1) → dxp v 12 0 ≤ M := fun M hM => by
    refine dxp_le ?_ 12 0 (by omega)
    have p : 0 < 10 ^ M := Nat.pow_pos (by decide)
    rw [tn_s] at hM
    exact Int.ediv_lt_of_lt_mul (by unfold tn; omega) (by rw [Int.mul_comm]; exact hM)
  unfold nmV at h5
  rw [← h3] at h5
  unfold nmE at h3
  unfold nmOk nmE at h2
  by_cases c : hxq t n i = true
  · rw [if_pos c] at h3 h5 h2
    rw [if_pos c, ← h3, decide_eq_true_eq] at h2
    have l3 := hxq_len c
    have g := rn_ge isH t (n - (i + 2)) (i + 2)
    have b := hvl_lt t (j - (i + 2)) (i + 2) 0 (fun e x y => rn_all isH t (n - (i + 2)) (i + 2) e x (by omega)) (by decide)
    have u := tn_16 (j - (i + 2)) (by omega)
    have := key (j - (i + 2) + 1) (by rw [show j - (i + 2) + 1 + 1 = j - (i + 2) + 2 by omega]; unfold tn; omega)
    omega
  · rw [if_neg c] at h3 h5
    have g := rn_ge isD t (n - i) i
    have b := dvl_lt t (j - i) i 0 (fun e x y => rn_all isD t (n - i) i e x (by omega)) (by decide)
    have := key (j - i - 1) (by rw [show j - i - 1 + 1 = j - i by omega]; omega)
    omega
end WRI
