/-! AN INSTRUCTION's parts: bits. -/
/-- where a lexeme's bytes are -/
def CX (T : TT) (s : Sg) : Prop := s 39 8 ≤ 8192 ∧ ∀ k, k < T.z → 0 ≤ s 43 k ∧ T.fm k + s 43 k ≤ s 39 8
section BITS
variable {T : TT} {s : Sg} {a k S : Nat}
theorem c82 (hT : TWF T) (hc : CC T s) (hk : k < T.z) : f_82 (k : Int) s = s 43 k ∧ g_82 (k : Int) s := by
  have h8 := hT.1
  unfold f_82 g_82
  rw [hc.1, Int.toNat_natCast]
  refine ⟨by rw [if_neg (by omega), if_neg (by omega)], fun h => absurd h (by omega), fun _ => ⟨fun _ => trivial, fun _ => ⟨⟨by omega, by omega⟩, trivial⟩⟩⟩
theorem c98l (hT : TWF T) (hc : CC T s) (hx : CX T s) (hk : k < T.z) : ∀ (r : Nat) (e F : Nat), (e : Int) + (r : Int) = s 43 k → (∀ i : Nat, i < e → s 40 ((s 42 k).toNat + i) % 256 = 48 ∨ s 40 ((s 42 k).toNat + i) % 256 = 49) →
    (j_98_8 (F + r + 1) (k : Int) (T.fm k) (e : Int) s = some 1 ∧ BIN s k) ∨ (j_98_8 (F + r + 1) (k : Int) (T.fm k) (e : Int) s = some 0 ∧ ¬ BIN s k) := by
  intro r
  have h8 := hT.1
  have hf := hT.2.2.2.1 k (by omega)
  obtain ⟨x1, x2⟩ := hx
  have x3 := x2 k hk
  obtain ⟨c1, c2⟩ := c82 hT hc hk
  have h42 : s 42 k = T.fm k := by rw [hc.2.2.1]
  induction r with
  | zero =>
    intro e F he hb
    left
    rw [j_98_8, gd_pos c2, c1, if_pos (by omega)]
    refine ⟨rfl, fun i hi => hb i (by omega)⟩
  | succ r ih =>
    intro e F he hb
    have w1 : ax_w32 (T.fm k + (e : Int)) = T.fm k + (e : Int) := w32_id (by omega) (by omega)
    have g83 : g_83 (T.fm k + (e : Int)) s := ⟨fun h => absurd h (by omega), fun _ => ⟨fun h => absurd h (by omega), fun _ => ⟨⟨by omega, by omega⟩, trivial⟩⟩⟩
    have ix : (T.fm k + (e : Int)).toNat = (s 42 k).toNat + e := by rw [h42]; omega
    have f83 : f_83 (T.fm k + (e : Int)) s = s 40 ((s 42 k).toNat + e) % 256 := by
      unfold f_83
      rw [if_neg (by omega), if_neg (by omega), ix, iand255]
    rw [show F + (r + 1) + 1 = (F + r + 1) + 1 by omega, j_98_8, gd_pos c2, c1, if_neg (by omega), w1, gd_pos g83, f83]
    have nx : (s 40 ((s 42 k).toNat + e) % 256 = 48 ∨ s 40 ((s 42 k).toNat + e) % 256 = 49) → (j_98_8 (F + r + 1) (k : Int) (T.fm k) (ax_w32 ((e : Int) + 1)) s = some 1 ∧ BIN s k) ∨ (j_98_8 (F + r + 1) (k : Int) (T.fm k) (ax_w32 ((e : Int) + 1)) s = some 0 ∧ ¬ BIN s k) := by
      intro y
      rw [w32_nat (i := e) (by omega)]
      refine ih (e + 1) F (by omega) (fun i hi => ?_)
      by_cases ie : i = e
      · rw [ie]; exact y
      · exact hb i (by omega)
    by_cases b0 : s 40 ((s 42 k).toNat + e) % 256 = 48
    · rw [if_pos b0]
      exact nx (Or.inl b0)
    · rw [if_neg b0]
      by_cases b1 : s 40 ((s 42 k).toNat + e) % 256 = 49
      · rw [if_pos b1]
        exact nx (Or.inr b1)
      · rw [if_neg b1]
        right
        refine ⟨rfl, fun y => ?_⟩
        rcases y e (by omega) with z | z
        · exact b0 z
        · exact b1 z
theorem c98 (hT : TWF T) (hc : CC T s) (hx : CX T s) (hk : k < T.z) : (f_98 (k : Int) s = some 1 ∧ BIN s k) ∨ (f_98 (k : Int) s = some 0 ∧ ¬ BIN s k) := by
  have x3 := hx.2 k hk
  have hf := hT.2.2.2.1 k (by omega)
  have x1 := hx.1
  obtain ⟨F, hF⟩ := FU_split (k := (s 43 k).toNat + 1) (by omega)
  have := c98l hT hc hx hk (s 43 k).toNat 0 F (by omega) (fun i hi => absurd hi (by omega))
  obtain ⟨c1, c2⟩ := c80 (a := k) hc hT (by omega)
  unfold f_98
  rw [gd_pos c2, c1, hF]
  exact this
/-- a part of bits -/
theorem c158 (hT : TWF T) (hc : CC T s) (hx : CX T s) (hu : CU T s a) (t : T.tk a = 2) (hS : s 54 6 = ((S + 1 : Nat) : Int)) (hS8 : S < 1171) :
    ∃ s' : Sg, f_158 s = some s' ∧ CU T s' (a + 1) ∧ s' 45 a = 3 ∧ (∀ i, i ≠ a → s' 45 i = s 45 i) ∧ s' 57 S = ax_w32 (s 57 S + s 43 a) ∧ (∀ i, i ≠ S → s' 57 i = s 57 i) ∧ (∀ c, ¬ (c = 30 ∨ c = 39 ∨ c = 45 ∨ c = 57) → s' c = s c) ∧ (∀ j, j ≠ 10 → j ≠ 11 → s' 39 j = s 39 j) ∧ (∀ j, j < 4 ∨ 7 < j → s' 30 j = s 30 j) ∧ (CN s' ↔ CN s ∧ BIN s a) := by
  have hz := hT.lt hu.2.2 (by rw [t]; decide)
  have h8 := hT.1
  -- behind the check
  have key : ∀ s1 : Sg, (∀ c, c ≠ 30 → s1 c = s c) → (∀ j, j < 4 ∨ 7 < j → s1 30 j = s 30 j) → ∃ s' : Sg, j_158_35 (a : Int) s1 = some s' ∧ CU T s' (a + 1) ∧ s' 45 a = 3 ∧ (∀ i, i ≠ a → s' 45 i = s 45 i) ∧ s' 57 S = ax_w32 (s 57 S + s 43 a) ∧ (∀ i, i ≠ S → s' 57 i = s 57 i) ∧ (∀ c, ¬ (c = 30 ∨ c = 39 ∨ c = 45 ∨ c = 57) → s' c = s c) ∧ (∀ j, j ≠ 10 → j ≠ 11 → s' 39 j = s 39 j) ∧ (∀ j, j < 4 ∨ 7 < j → s' 30 j = s 30 j) ∧ (CN s' ↔ CN s1) := by
    intro s1 n3 n4
    have cc1 : CC T s1 := (ef30 n3 n4).cc hc
    have g99 : g_99 (a : Int) 3 s1 ∧ f_99 (a : Int) 3 s1 = ax_u2 s1 45 a 3 := by
      unfold g_99 f_99
      rw [cc1.1, if_neg (by omega), if_neg (by omega), Int.toNat_natCast]
      exact ⟨⟨fun h => absurd h (by omega), fun _ => ⟨fun h => absurd h (by omega), fun _ => ⟨⟨by omega, by omega⟩, trivial⟩⟩⟩, rfl⟩
    obtain ⟨s2, hs2⟩ : ∃ s2 : Sg, s2 = ax_u2 s1 45 a 3 := ⟨_, rfl⟩
    have r2 : ∀ c, c ≠ 45 → s2 c = s1 c := fun c x => by rw [hs2]; exact u2_row _ _ _ x
    have cc2 : CC T s2 := cc1.row (by rw [r2 39 (by decide)]) (r2 41 (by decide)) (r2 42 (by decide)) (r2 44 (by decide)) (by rw [r2 31 (by decide)]) (r2 1 (by decide))
    obtain ⟨d1, d2⟩ := c82 hT cc2 hz
    obtain ⟨_, ⟨g1, g2⟩, _⟩ := c181 (s := s2) (S := S) (by rw [r2 54 (by decide), n3 54 (by decide)]; exact hS) hS8 (s2 43 a)
    obtain ⟨s3, hs3⟩ : ∃ s3 : Sg, s3 = ax_u2 s2 57 S (ax_w32 (s2 57 S + s2 43 a)) := ⟨_, rfl⟩
    have r3 : ∀ c, c ≠ 57 → s3 c = s2 c := fun c x => by rw [hs3]; exact u2_row _ _ _ x
    have cc3 : CC T s3 := cc2.row (by rw [r3 39 (by decide)]) (r3 41 (by decide)) (r3 42 (by decide)) (r3 44 (by decide)) (by rw [r3 31 (by decide)]) (r3 1 (by decide))
    have cu3 : CU T s3 a := by
      unfold CU at *
      rw [r3 39 (by decide), r2 39 (by decide), n3 39 (by decide)]
      exact hu
    refine ⟨cur T s3 (a + 1), ?_, cur_cu (by omega), ?_, ?_, ?_, ?_, ?_, ?_, ?_, ?_⟩
    · unfold j_158_35
      rw [gd_pos g99.1, g99.2, Option.bind_some, ← hs2, gd_pos d2, d1, gd_pos g1, g2, Option.bind_some, ← hs3, nxt hT cc3 cu3 (by rw [t]; decide)]
    · rw [cur_row (by decide), r3 45 (by decide), hs2]; exact u2_same _ _ _ _
    · intro i hi
      rw [cur_row (by decide), r3 45 (by decide), hs2, u2_col _ _ _ hi, n3 45 (by decide)]
    · rw [cur_row (by decide), hs3, u2_same, r2 57 (by decide), r2 43 (by decide), n3 57 (by decide), n3 43 (by decide)]
    · intro i hi
      rw [cur_row (by decide), hs3, u2_col _ _ _ hi, r2 57 (by decide), n3 57 (by decide)]
    · intro c x
      rw [cur_row (by omega), r3 c (by omega), r2 c (by omega), n3 c (by omega)]
    · intro j x y
      rw [cur_col x y, r3 39 (by decide), r2 39 (by decide), n3 39 (by decide)]
    · intro j x
      rw [cur_row (by decide), r3 30 (by decide), r2 30 (by decide), n4 j x]
    · unfold CN
      rw [cur_row (by decide), r3 30 (by decide), r2 30 (by decide)]
  unfold f_158
  rw [hu.1]
  rcases c98 hT hc hx hz with ⟨b1, b2⟩ | ⟨b1, b2⟩
  · obtain ⟨s', z1, z2, z3, z4, z5, z6, z7, z8, z9, z10⟩ := key s (fun _ _ => rfl) (fun _ _ => rfl)
    rw [b1, Option.bind_some, if_pos (by decide)]
    exact ⟨s', z1, z2, z3, z4, z5, z6, z7, z8, z9, by rw [z10]; exact ⟨fun y => ⟨y, b2⟩, fun y => y.1⟩⟩
  · obtain ⟨c1, c2⟩ := c80 (a := a) hc hT (by omega)
    obtain ⟨g, nc, n3, n4⟩ := c71 (s := s) (x := 4) (p := T.fm a) (Or.inl rfl) (hT.2.2.2.1 a (by omega))
    obtain ⟨s', z1, z2, z3, z4, z5, z6, z7, z8, z9, z10⟩ := key (f_71 4 (T.fm a) s) n3 n4
    rw [b1, Option.bind_some, if_neg (by decide), gd_pos c2, c1, gd_pos g, Option.bind_some]
    exact ⟨s', z1, z2, z3, z4, z5, z6, z7, z8, z9, by rw [z10]; exact ⟨fun y => absurd y nc, fun y => absurd y.2 b2⟩⟩
end BITS
