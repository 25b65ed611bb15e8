/-! PARSING: the tokens of both sides, the cursor, taking and eating. -/
def kvl : List Int := [0, 1, 2, 16, 17, 18, 19, 20, 21, 22, 23, 24, 25, 26, 27, 38, 40, 41, 42, 43, 44, 45, 46, 58, 59, 60, 61, 63, 91, 93, 94, 123, 124, 125, 126, 128, 129, 130, 131]
theorem km_inj : ∀ a ∈ kvl, ∀ b ∈ kvl, km a = km b → a = b := by decide +kernel
/-- z lexemes, m names, kinds, places, values -/
abbrev TT : Type := Nat × Nat × (Nat → Int) × (Nat → Int) × (Nat → Int)
def TT.z (T : TT) : Nat := T.1
def TT.m (T : TT) : Nat := T.2.1
def TT.tk (T : TT) : Nat → Int := T.2.2.1
def TT.fm (T : TT) : Nat → Int := T.2.2.2.1
def TT.vl (T : TT) : Nat → Int := T.2.2.2.2
def TWF (T : TT) : Prop := T.z ≤ 8192 ∧ T.tk T.z = 0 ∧ (∀ k, k < T.z → T.tk k ∈ kvl ∧ T.tk k ≠ 0) ∧ (∀ k, k ≤ T.z → 0 ≤ T.fm k) ∧ (∀ k, k < T.z → 0 ≤ T.vl k ∧ T.vl k ≤ 1099511627776) ∧ (∀ k, k < T.z → T.tk k = 1 → T.vl k < (T.m : Int)) ∧ T.m ≤ 4112
/-- what parsing leaves alone: the class's tokens, the reference's -/
def CC (T : TT) (s : Sg) : Prop := s 39 9 = (T.z : Int) ∧ s 41 = T.tk ∧ s 42 = T.fm ∧ s 44 = T.vl ∧ s 31 7 = (T.m : Int) ∧ ∀ k, k < 22 → s 1 k = lvl.getD k 0
def MC (T : TT) (s : Sg) : Prop := s 84 11 = (T.z : Int) ∧ ∀ k, k ≤ T.z → s 88 k = km (T.tk k)
def CU (T : TT) (s : Sg) (a : Nat) : Prop := s 39 10 = (a : Int) ∧ s 39 11 = T.tk a ∧ a ≤ T.z
/-- no fault of the numbers 4 to 7 is noted -/
def CN (s : Sg) : Prop := s 30 4 = -1 ∧ s 30 5 = -1 ∧ s 30 6 = -1 ∧ s 30 7 = -1
def mn (v : Int) : Int := if 1073741824 < v then 1073741824 else v
def cur (T : TT) (s : Sg) (a : Nat) : Sg := ax_u2 (ax_u2 s 39 10 (a : Int)) 39 11 (T.tk a)
def adv (s : Sg) (a : Nat) : Sg := ax_u2 s 84 18 (a : Int)
def tel (s : Sg) (n : Int) (a : Nat) : Sg := ax_u2 (ax_u2 s 84 6 n) 84 7 (s 89 a)
section PRIM
variable {T : TT} {s : Sg} {a : Nat}
theorem TWF.kv (h : TWF T) (ha : a ≤ T.z) : T.tk a ∈ kvl := by
  by_cases c : a < T.z
  · exact (h.2.2.1 a c).1
  · have : a = T.z := by omega
    rw [this, h.2.1]
    decide
theorem TWF.lt (h : TWF T) (ha : a ≤ T.z) (h0 : T.tk a ≠ 0) : a < T.z := by
  apply Decidable.byContradiction
  intro c
  have : a = T.z := by omega
  rw [this, h.2.1] at h0
  exact h0 rfl
theorem TWF.km (h : TWF T) (ha : a ≤ T.z) {k : Int} (hk : k ∈ kvl) (hn : T.tk a ≠ k) : km (T.tk a) ≠ km k := fun e => hn (km_inj _ (h.kv ha) _ hk e)
/-! the class -/
theorem CC.row {s' : Sg} (h : CC T s) (h1 : s' 39 9 = s 39 9) (h2 : s' 41 = s 41) (h3 : s' 42 = s 42) (h4 : s' 44 = s 44) (h5 : s' 31 7 = s 31 7) (h6 : s' 1 = s 1) : CC T s' := by
  unfold CC at *
  rw [h1, h2, h3, h4, h5, h6]
  exact h
theorem MC.row {s' : Sg} (h : MC T s) (h1 : s' 84 11 = s 84 11) (h2 : s' 88 = s 88) : MC T s' := by
  unfold MC at *
  rw [h1, h2]
  exact h
theorem cur_row {c : Nat} (h : c ≠ 39) : cur T s a c = s c := by
  funext x
  simp [cur, ax_u2, h]
theorem cur_col {j : Nat} (h : j ≠ 10) (h2 : j ≠ 11) : cur T s a 39 j = s 39 j := by simp [cur, ax_u2, h, h2]
theorem cur_cu (ha : a ≤ T.z) : CU T (cur T s a) a := ⟨by simp [cur, ax_u2], by simp [cur, ax_u2], ha⟩
theorem cur_cc (h : CC T s) : CC T (cur T s a) := h.row (cur_col (by decide) (by decide)) (cur_row (by decide)) (cur_row (by decide)) (cur_row (by decide)) (by rw [cur_row (by decide)]) (cur_row (by decide))
theorem c94 (hT : TWF T) (hc : CC T s) (hu : CU T s a) (h0 : T.tk a ≠ 0) : f_94 s = cur T s (a + 1) ∧ g_94 s := by
  have ha := hT.lt hu.2.2 h0
  have h8 := hT.1
  have e1 := hc.1
  have e2 := hu.1
  have w : ax_w32 ((a : Int) + 1) = ((a + 1 : Nat) : Int) := w32_nat (by omega)
  unfold f_94 g_94
  rw [e1, e2, w]
  refine ⟨?_, ⟨fun h => absurd h (by omega), fun _ => ⟨fun _ => trivial, fun _ => ⟨⟨by omega, by omega⟩, trivial⟩⟩⟩⟩
  rw [if_neg (by omega)]
  unfold cur
  by_cases c : a + 1 = T.z
  · rw [if_pos (by omega), c, hT.2.1]
  · rw [if_neg (by omega), Int.toNat_natCast, hc.2.1]
theorem nxt {α : Type} {k : Sg → Option α} (hT : TWF T) (hc : CC T s) (hu : CU T s a) (h0 : T.tk a ≠ 0) : gd (g_94 s) ((some (f_94 s)).bind k) = k (cur T s (a + 1)) := by
  rw [gd_pos (c94 hT hc hu h0).2, (c94 hT hc hu h0).1]
  rfl
theorem c92y {k : Int} (hT : TWF T) (hc : CC T s) (hu : CU T s a) (h : T.tk a = k) (h0 : k ≠ 0) : f_92 k s = some (.inl (cur T s (a + 1))) := by
  unfold f_92
  rw [if_pos (by rw [hu.2.1, h]), nxt hT hc hu (by rw [h]; exact h0)]
theorem c92n {k : Int} (hu : CU T s a) (h : T.tk a ≠ k) : f_92 k s = some (.inr (15, s)) := by
  unfold f_92
  rw [if_neg (by rw [hu.2.1]; exact h)]
theorem c79 (hc : CC T s) (hT : TWF T) (ha : a ≤ T.z) : f_79 (a : Int) s = T.tk a ∧ g_79 (a : Int) s := by
  have h8 := hT.1
  unfold f_79 g_79
  rw [hc.1, hc.2.1, Int.toNat_natCast]
  refine ⟨?_, fun h => absurd h (by omega), fun _ => ⟨fun _ => trivial, fun _ => ⟨⟨by omega, by omega⟩, trivial⟩⟩⟩
  rw [if_neg (by omega)]
  by_cases c : a = T.z
  · rw [if_pos (by omega), c, hT.2.1]
  · rw [if_neg (by omega)]
theorem c80 (hc : CC T s) (hT : TWF T) (ha : a ≤ T.z) : f_80 (a : Int) s = T.fm a ∧ g_80 (a : Int) s := by
  have h8 := hT.1
  unfold f_80 g_80
  rw [hc.1, hc.2.2.1, Int.toNat_natCast]
  refine ⟨?_, fun h => absurd h (by omega), fun _ => ⟨fun _ => trivial, fun _ => ⟨fun _ => trivial, fun _ => ⟨⟨by omega, by omega⟩, trivial⟩⟩⟩⟩
  rw [if_neg (by omega), if_neg (by omega), if_neg (by omega)]
theorem c81 (hc : CC T s) (hT : TWF T) (ha : a < T.z) : f_81 (a : Int) s = T.vl a ∧ g_81 (a : Int) s := by
  have h8 := hT.1
  unfold f_81 g_81
  rw [hc.1, hc.2.2.2.1, Int.toNat_natCast]
  refine ⟨?_, fun h => absurd h (by omega), fun _ => ⟨fun _ => trivial, fun _ => ⟨⟨by omega, by omega⟩, trivial⟩⟩⟩
  rw [if_neg (by omega), if_neg (by omega)]
theorem c97 (hc : CC T s) (hT : TWF T) (ha : a ≤ T.z) : f_97 (a : Int) s = (if T.tk a = 1 then T.vl a else -1) ∧ g_97 (a : Int) s := by
  have h8 := hT.1
  unfold f_97 g_97
  rw [hc.1, hc.2.1, hc.2.2.2.1, Int.toNat_natCast]
  refine ⟨?_, fun h => absurd h (by omega), fun _ => ⟨fun _ => trivial, fun _ => ⟨⟨by omega, by omega⟩, fun _ => trivial, fun _ => ⟨⟨by omega, by omega⟩, trivial⟩⟩⟩⟩
  rw [if_neg (by omega)]
  by_cases c : a = T.z
  · rw [if_pos (by omega), c, hT.2.1, if_neg (by decide)]
  · rw [if_neg (by omega)]
    by_cases d : T.tk a = 1
    · have := hT.2.2.2.2.1 a (by omega)
      have h2 := hT.2.2.2.2.2.1 a (by omega) d
      have h3 := hT.2.2.2.2.2.2
      rw [if_neg (by simp [d]), if_pos d, w32_id (by omega) (by omega)]
    · rw [if_pos d, if_neg d]
/-- a fault is noted -/
theorem c71n {k : Nat} {p : Int} (hk : 4 ≤ k) (hk2 : k ≤ 7) (hp : 0 ≤ p) : g_71 (k : Int) p s ∧ ¬ CN (f_71 (k : Int) p s) ∧ (∀ c, c ≠ 30 → f_71 (k : Int) p s c = s c) ∧ (∀ j, j < 4 ∨ 7 < j → f_71 (k : Int) p s 30 j = s 30 j) := by
  have e : f_71 (k : Int) p s = s ∧ s 30 k ≠ -1 ∨ f_71 (k : Int) p s = ax_u2 s 30 k p := by
    unfold f_71
    rw [if_neg (by omega), if_pos (by omega), Int.toNat_natCast]
    split
    · exact Or.inr rfl
    · split
      · exact Or.inl ⟨rfl, by assumption⟩
      · exact Or.inr rfl
  have hk3 : k = 4 ∨ k = 5 ∨ k = 6 ∨ k = 7 := by omega
  refine ⟨?_, ?_, ?_, ?_⟩
  · unfold g_71
    refine ⟨fun h => absurd h (by omega), fun _ => ⟨fun _ => ⟨⟨by omega, by omega⟩, fun _ => ⟨⟨by omega, by omega⟩, trivial⟩, fun _ => ⟨⟨by omega, by omega⟩, fun _ => trivial, fun _ => ⟨⟨by omega, by omega⟩, trivial⟩⟩⟩, fun h => absurd h (by omega)⟩⟩
  · rcases e with ⟨e1, e2⟩ | e1
    · rw [e1]
      unfold CN
      rcases hk3 with rfl | rfl | rfl | rfl <;> simp [e2]
    · rw [e1]
      unfold CN
      have : p ≠ -1 := by omega
      rcases hk3 with rfl | rfl | rfl | rfl <;> simp [ax_u2, this]
  · intro c hc
    rcases e with ⟨e1, e2⟩ | e1
    · rw [e1]
    · rw [e1]
      exact u2_row _ _ _ hc
  · intro j hj
    rcases e with ⟨e1, e2⟩ | e1
    · rw [e1]
    · rw [e1]
      exact u2_col _ _ _ (by omega)
theorem c71 {x p : Int} (hx : x = 4 ∨ x = 5 ∨ x = 6 ∨ x = 7) (hp : 0 ≤ p) : g_71 x p s ∧ ¬ CN (f_71 x p s) ∧ (∀ c, c ≠ 30 → f_71 x p s c = s c) ∧ (∀ j, j < 4 ∨ 7 < j → f_71 x p s 30 j = s 30 j) := by
  rcases hx with rfl | rfl | rfl | rfl
  · exact c71n (k := 4) (by decide) (by decide) hp
  · exact c71n (k := 5) (by decide) (by decide) hp
  · exact c71n (k := 6) (by decide) (by decide) hp
  · exact c71n (k := 7) (by decide) (by decide) hp
theorem mn_eq (v : Int) (h : 0 ≤ v) (h2 : v ≤ 1099511627776) (q : Sg) : ax_w32 (f_293 v 1073741824 q) = mn v := by
  unfold f_293 mn
  simp only [cmp_gt]
  split
  · rw [w32_id (by decide) (by decide)]
  · rw [w32_id (by omega) (by omega)]
/-- a NUMBER with its bounds -/
theorem c93 {lo hi : Int} (hT : TWF T) (hc : CC T s) (hu : CU T s a) (h : T.tk a = 2) :
    ∃ s1 : Sg, f_93 lo hi s = some (.inl (mn (T.vl a), cur T s1 (a + 1))) ∧ (CN s1 ↔ CN s ∧ lo ≤ T.vl a ∧ T.vl a ≤ hi) ∧ (∀ c, c ≠ 30 → s1 c = s c) ∧ (∀ j, j < 4 ∨ 7 < j → s1 30 j = s 30 j) := by
  have ha := hT.lt hu.2.2 (by rw [h]; decide)
  have hv := hT.2.2.2.2.1 a ha
  have c1 := c81 hc hT ha
  have c2 := c80 hc hT (Nat.le_of_lt ha)
  have fin : ∀ s1 : Sg, (∀ c, c ≠ 30 → s1 c = s c) → j_93_57 (T.vl a) s1 = some (.inl (mn (T.vl a), cur T s1 (a + 1))) := by
    intro s1 h1
    unfold j_93_57
    have hc1 : CC T s1 := hc.row (by rw [h1 39 (by decide)]) (h1 41 (by decide)) (h1 42 (by decide)) (h1 44 (by decide)) (by rw [h1 31 (by decide)]) (h1 1 (by decide))
    have hu1 : CU T s1 a := by unfold CU at *; rw [h1 39 (by decide)]; exact hu
    rw [nxt hT hc1 hu1 (by rw [h]; decide), mn_eq _ hv.1 hv.2]
  have note : ∃ s1 : Sg, j_93_41 (T.vl a) s = some (.inl (mn (T.vl a), cur T s1 (a + 1))) ∧ ¬ CN s1 ∧ (∀ c, c ≠ 30 → s1 c = s c) ∧ (∀ j, j < 4 ∨ 7 < j → s1 30 j = s 30 j) := by
    obtain ⟨n1, n2, n3, n4⟩ := c71 (s := s) (x := 4) (p := T.fm a) (Or.inl rfl) (hT.2.2.2.1 a (by omega))
    refine ⟨f_71 4 (T.fm a) s, ?_, n2, n3, n4⟩
    unfold j_93_41
    rw [hu.1, gd_pos c2.2, c2.1, gd_pos n1]
    exact fin _ n3
  unfold f_93
  rw [if_pos (by rw [hu.2.1, h]), hu.1, gd_pos c1.2, c1.1]
  simp only [cmp_lt, cmp_le]
  by_cases d1 : T.vl a < lo
  · rw [if_pos d1]
    obtain ⟨s1, x1, x2, x3, x4⟩ := note
    exact ⟨s1, x1, ⟨fun x => absurd x x2, fun x => absurd x.2.1 (by omega)⟩, x3, x4⟩
  · rw [if_neg d1]
    by_cases d2 : T.vl a ≤ hi
    · rw [if_pos d2]
      exact ⟨s, fin s (fun _ _ => rfl), ⟨fun x => ⟨x, by omega, d2⟩, fun x => x.1⟩, fun _ _ => rfl, fun _ _ => rfl⟩
    · rw [if_neg d2]
      obtain ⟨s1, x1, x2, x3, x4⟩ := note
      exact ⟨s1, x1, ⟨fun x => absurd x x2, fun x => absurd x.2.2 d2⟩, x3, x4⟩
theorem c93n {lo hi : Int} (hu : CU T s a) (h : T.tk a ≠ 2) : f_93 lo hi s = some (.inr (15, s)) := by
  unfold f_93
  rw [if_neg (by rw [hu.2.1]; exact h)]
/-! the reference -/
theorem is_y (hM : MC T s) (hT : TWF T) (hu : s 84 18 = (a : Int)) (ha : a ≤ T.z) {K k : Int} (hK : km k = K) (h : T.tk a = k) : f_232 K s = 1 ∧ g_232 K s := by
  have h8 := hT.1
  unfold f_232 g_232
  rw [hu, Int.toNat_natCast, hM.2 a ha, h, hK]
  exact ⟨if_neg (by simp), ⟨by omega, by omega⟩, trivial⟩
theorem is_n (hM : MC T s) (hT : TWF T) (hu : s 84 18 = (a : Int)) (ha : a ≤ T.z) {K k : Int} (hK : km k = K) (hk : k ∈ kvl) (h : T.tk a ≠ k) : f_232 K s = 0 ∧ g_232 K s := by
  have h8 := hT.1
  unfold f_232 g_232
  rw [hu, Int.toNat_natCast, hM.2 a ha, ← hK]
  exact ⟨if_pos (hT.km ha hk h), ⟨by omega, by omega⟩, trivial⟩
theorem eat_y (hM : MC T s) (hT : TWF T) (hf : s 84 6 = 0) (hu : s 84 18 = (a : Int)) (ha : a ≤ T.z) {K k : Int} (hK : km k = K) (h : T.tk a = k) : f_252 K s = (1, adv s (a + 1)) ∧ g_252 K s := by
  obtain ⟨e, g⟩ := is_y hM hT hu ha hK h
  have h8 := hT.1
  unfold f_252 g_252
  rw [if_neg (by omega), e, if_pos (by decide), hu, w32_nat (by omega)]
  exact ⟨rfl, fun _ => trivial, fun _ => ⟨g, trivial⟩⟩
theorem eat_n (hM : MC T s) (hT : TWF T) (hu : s 84 18 = (a : Int)) (ha : a ≤ T.z) {K k : Int} (hK : km k = K) (hk : k ∈ kvl) (h : T.tk a ≠ k) : f_252 K s = (0, s) ∧ g_252 K s := by
  obtain ⟨e, g⟩ := is_n hM hT hu ha hK hk h
  unfold f_252 g_252
  rw [e]
  refine ⟨?_, fun _ => trivial, fun _ => ⟨g, trivial⟩⟩
  split <;> simp
theorem eatY {α : Type} {kk : Int × Sg → Option α} (hM : MC T s) (hT : TWF T) (hf : s 84 6 = 0) (hu : s 84 18 = (a : Int)) (ha : a ≤ T.z) {K k : Int} (hK : km k = K) (h : T.tk a = k) : gd (g_252 K s) ((some (f_252 K s)).bind kk) = kk (1, adv s (a + 1)) := by
  obtain ⟨e, g⟩ := eat_y hM hT hf hu ha hK h
  rw [gd_pos g, e]
  rfl
theorem eatN {α : Type} {kk : Int × Sg → Option α} (hM : MC T s) (hT : TWF T) (hu : s 84 18 = (a : Int)) (ha : a ≤ T.z) {K k : Int} (hK : km k = K) (hk : k ∈ kvl) (h : T.tk a ≠ k) : gd (g_252 K s) ((some (f_252 K s)).bind kk) = kk (0, s) := by
  obtain ⟨e, g⟩ := eat_n hM hT hu ha hK hk h
  rw [gd_pos g, e]
  rfl
theorem takeY (hM : MC T s) (hT : TWF T) (hf : s 84 6 = 0) (hu : s 84 18 = (a : Int)) (ha : a ≤ T.z) {K k : Int} (hK : km k = K) (h : T.tk a = k) : f_231 K s = some ((a : Int), adv s (a + 1)) := by
  obtain ⟨e, g⟩ := is_y hM hT hu ha hK h
  have h8 := hT.1
  unfold f_231
  rw [if_pos (by omega), gd_pos g, e, if_pos (by decide), hu, w32_nat (by omega), w32_id (by omega) (by omega)]
  have : ((a + 1 : Nat) : Int) - 1 = (a : Int) := by omega
  rw [this]
  rfl
theorem takeN (hM : MC T s) (hT : TWF T) (hf : s 84 6 = 0) (hu : s 84 18 = (a : Int)) (ha : a ≤ T.z) {K k : Int} (hK : km k = K) (hk : k ∈ kvl) (h : T.tk a ≠ k) : f_231 K s = some (0, tel s 2 a) := by
  obtain ⟨e, g⟩ := is_n hM hT hu ha hK hk h
  have h8 := hT.1
  unfold f_231
  rw [if_pos (by omega), gd_pos g, e, if_neg (by simp), hu, gd_pos (by omega), Int.toNat_natCast]
  have : f_227 2 (s 89 a) s = tel s 2 a := by unfold f_227; rw [if_pos (by omega)]; rfl
  rw [this]
  rfl
theorem takeF {K : Int} (hf : 0 < s 84 6) : f_231 K s = some (0, s) := by
  unfold f_231
  rw [if_neg (by omega)]
theorem adv_row {c : Nat} (h : c ≠ 84) : adv s a c = s c := by
  funext x
  simp [adv, ax_u2, h]
theorem adv_col {j : Nat} (h : j ≠ 18) : adv s a 84 j = s 84 j := by simp [adv, ax_u2, h]
theorem adv_at : adv s a 84 18 = (a : Int) := by simp [adv, ax_u2]
theorem adv_mc (h : MC T s) : MC T (adv s a) := h.row (adv_col (by decide)) (adv_row (by decide))
theorem tel_row {c : Nat} {n : Int} (h : c ≠ 84) : tel s n a c = s c := by
  funext x
  simp [tel, ax_u2, h]
theorem tel_col {j : Nat} {n : Int} (h : j ≠ 6) (h2 : j ≠ 7) : tel s n a 84 j = s 84 j := by simp [tel, ax_u2, h, h2]
theorem tel_at {n : Int} : tel s n a 84 6 = n := by simp [tel, ax_u2]
end PRIM
