/-! THE CLASS's small steps in statements: heads, bound names, claims, bodies. -/
section CST
variable {T : TT} {s : Sg} {a S N C B b : Nat}
theorem c109 (hT : TWF T) (hc : CC T s) {x : Nat} (hx : x < T.z) (ht : T.tk x = 1) : g_109 (T.vl x) s ∧ f_109 (T.vl x) s = s 36 (T.vl x).toNat ∧ g_106 (T.vl x) s ∧ f_106 (T.vl x) s = s 37 (T.vl x).toNat ∧ (∀ y, g_110 (T.vl x) y s ∧ f_110 (T.vl x) y s = ax_u2 s 36 (T.vl x).toNat y) := by
  have hv := hT.2.2.2.2.1 x hx
  have hv2 := hT.2.2.2.2.2.1 x hx ht
  have hm := hT.2.2.2.2.2.2
  have h7 := hc.2.2.2.2.1
  refine ⟨⟨fun _ => trivial, fun _ => ⟨fun _ => trivial, fun _ => ⟨⟨by omega, by omega⟩, trivial⟩⟩⟩, ?_, ⟨fun _ => trivial, fun _ => ⟨fun _ => trivial, fun _ => ⟨⟨by omega, by omega⟩, trivial⟩⟩⟩, ?_, fun y => ⟨⟨fun _ => trivial, fun _ => ⟨fun _ => trivial, fun _ => ⟨⟨by omega, by omega⟩, trivial⟩⟩⟩, ?_⟩⟩
  · unfold f_109; rw [if_neg (by omega), if_neg (by omega)]
  · unfold f_106; rw [if_neg (by omega), if_neg (by omega)]
  · unfold f_110; rw [if_neg (by omega), if_neg (by omega)]
/-- a NAME -/
theorem c96y (hT : TWF T) (hc : CC T s) (hu : CU T s a) (h : T.tk a = 1) : f_96 s = some (.inl (T.vl a, cur T s (a + 1))) := by
  have c9 := c97 hc hT (a := a) hu.2.2
  rw [if_pos h] at c9
  unfold f_96
  rw [if_pos (by rw [hu.2.1, h]), hu.1, gd_pos c9.2, c9.1, nxt hT hc hu (by rw [h]; decide)]
theorem c96n (hu : CU T s a) (h : T.tk a ≠ 1) : f_96 s = some (.inr (15, s)) := by
  unfold f_96
  rw [if_neg (by rw [hu.2.1]; exact h)]
/-- what binding a name changes -/
def BDd (T : TT) (s s' : Sg) (B : Nat) (id : Nat) (w : Int) : Prop := s' 31 8 = ((B + 1 : Nat) : Int) ∧ s' 38 B = (id : Int) ∧ s' 37 id = w ∧ (∀ i, i ≠ B → s' 38 i = s 38 i) ∧ (∀ i, i ≠ id → s' 37 i = s 37 i) ∧ (∀ j, j ≠ 8 → s' 31 j = s 31 j) ∧ (∀ c, ¬ (c = 30 ∨ c = 31 ∨ c = 37 ∨ c = 38) → s' c = s c) ∧ (∀ j, j < 4 ∨ 7 < j → s' 30 j = s 30 j)
theorem c155 {x : Nat} {w : Int} (hT : TWF T) (hc : CC T s) (hx : x < T.z) (ht : T.tk x = 1) (hB : s 31 8 = (B : Int)) (hB8 : B < 4112) :
    ∃ s' : Sg, f_155 (T.vl x) (x : Int) w s = some s' ∧ BDd T s s' B (T.vl x).toNat (if w < 1 then 1 else w) ∧ (CN s' ↔ CN s ∧ s 37 (T.vl x).toNat = 0) := by
  obtain ⟨_, _, c1, c2, _⟩ := c109 hT hc hx ht
  have hv := hT.2.2.2.2.1 x hx
  have hv2 := hT.2.2.2.2.2.1 x hx ht
  have hm := hT.2.2.2.2.2.2
  have key : ∀ s1 : Sg, (∀ c, c ≠ 30 → s1 c = s c) → (∀ j, j < 4 ∨ 7 < j → s1 30 j = s 30 j) → ∃ s' : Sg, j_155_27 (T.vl x) w s1 = some s' ∧ BDd T s s' B (T.vl x).toNat (if w < 1 then 1 else w) ∧ s' 30 = s1 30 := by
    intro s1 h1 h2
    have h7 : s1 31 7 = (T.m : Int) := by rw [h1 31 (by decide)]; exact hc.2.2.2.2.1
    have h8 : s1 31 8 = (B : Int) := by rw [h1 31 (by decide)]; exact hB
    have e : f_108 (T.vl x) w s1 = ax_u2 (ax_u2 (ax_u2 s1 37 (T.vl x).toNat (if w < 1 then 1 else w)) 38 B (T.vl x)) 31 8 ((B + 1 : Nat) : Int) := by
      unfold f_108
      rw [h7, h8, if_neg (by omega), if_neg (by omega), if_neg (by omega), Int.toNat_natCast, w32_nat (by omega)]
      have : f_292 1 w s1 = (if w < 1 then 1 else w) := by unfold f_292; split <;> split <;> omega
      rw [this]
    have g : g_108 (T.vl x) w s1 := ⟨fun _ => trivial, fun _ => ⟨fun _ => trivial, fun _ => ⟨fun _ => trivial, fun _ => ⟨⟨by omega, by omega⟩, ⟨by omega, by omega⟩, trivial⟩⟩⟩⟩
    unfold j_155_27
    rw [gd_pos g, e]
    refine ⟨_, rfl, ⟨by simp [ax_u2], ?_, by simp [ax_u2], ?_, ?_, ?_, ?_, ?_⟩, ?_⟩
    · rw [u2_row _ _ _ (by decide), u2_same]; omega
    · intro i hi
      rw [u2_row _ _ _ (by decide), u2_col _ _ _ hi, u2_row _ _ _ (by decide), h1 38 (by decide)]
    · intro i hi
      rw [u2_row _ _ _ (by decide), u2_row _ _ _ (by decide), u2_col _ _ _ hi, h1 37 (by decide)]
    · intro j hj
      rw [u2_col _ _ _ hj, u2_row _ _ _ (by decide), u2_row _ _ _ (by decide), h1 31 (by decide)]
    · intro c hc
      rw [u2_row _ _ _ (by omega), u2_row _ _ _ (by omega), u2_row _ _ _ (by omega), h1 c (by omega)]
    · intro j hj
      rw [u2_row _ _ _ (by decide), u2_row _ _ _ (by decide), u2_row _ _ _ (by decide), h2 j hj]
    · rw [u2_row _ _ _ (by decide), u2_row _ _ _ (by decide), u2_row _ _ _ (by decide)]
  unfold f_155
  rw [gd_pos c1, c2]
  by_cases d : s 37 (T.vl x).toNat = 0
  · rw [if_pos d]
    obtain ⟨s', k1, k2, k3⟩ := key s (fun _ _ => rfl) (fun _ _ => rfl)
    refine ⟨s', k1, k2, ?_⟩
    have : CN s' ↔ CN s := by unfold CN; rw [k3]
    rw [this]
    exact ⟨fun y => ⟨y, d⟩, fun y => y.1⟩
  · rw [if_neg d]
    have c8 := c80 hc hT (a := x) (by omega)
    obtain ⟨n1, n2, n3, n4⟩ := c71 (s := s) (x := 5) (p := T.fm x) (Or.inr (Or.inl rfl)) (hT.2.2.2.1 x (by omega))
    rw [gd_pos c8.2, c8.1, gd_pos n1, Option.bind_some]
    obtain ⟨s', k1, k2, k3⟩ := key (f_71 5 (T.fm x) s) n3 n4
    refine ⟨s', k1, k2, ?_⟩
    have : CN s' ↔ CN (f_71 5 (T.fm x) s) := by unfold CN; rw [k3]
    rw [this]
    exact ⟨fun y => absurd y n2, fun y => absurd y.2 d⟩
/-- names are released -/
theorem c102l {M : Nat} : ∀ (r : Nat) {s : Sg} {B : Nat} (F : Nat), B = M + r → B ≤ 4112 → s 31 8 = (B : Int) →
    ∃ s' : Sg, j_102_0 (F + r + 1) (M : Int) s = some s' ∧ s' 31 8 = (M : Int) ∧ (∀ j, j ≠ 8 → s' 31 j = s 31 j) ∧ (∀ c, c ≠ 31 → c ≠ 37 → s' c = s c) ∧ (∀ i, M ≤ i → i < B → 0 ≤ s 38 i → s 38 i < 4112 → s' 37 (s 38 i).toNat = 0) ∧ (∀ id : Nat, (∀ i, M ≤ i → i < B → s 38 i ≠ (id : Int)) → s' 37 id = s 37 id) ∧ (∀ id : Nat, s' 37 id = s 37 id ∨ s' 37 id = 0) := by
  intro r
  induction r with
  | zero =>
    intro s B F hB h8 h
    refine ⟨s, ?_, by rw [h, hB]; rfl, fun _ _ => rfl, fun _ _ _ => rfl, fun i x y => absurd y (by omega), fun _ _ => rfl, fun _ => Or.inl rfl⟩
    rw [j_102_0, if_pos (by omega)]
  | succ r ih =>
    intro s B F hB h8 h
    have hw : ax_w32 (s 31 8 - 1) = ((B - 1 : Nat) : Int) := by rw [h, w32_id (by omega) (by omega)]; omega
    have step : ∀ s1 : Sg, s1 31 8 = ((B - 1 : Nat) : Int) → (∀ j, j ≠ 8 → s1 31 j = s 31 j) → (∀ c, c ≠ 31 → c ≠ 37 → s1 c = s c) → (∀ id : Nat, s 38 (B - 1) ≠ (id : Int) → s1 37 id = s 37 id) → (0 ≤ s 38 (B - 1) → s 38 (B - 1) < 4112 → s1 37 (s 38 (B - 1)).toNat = 0) → (∀ id : Nat, s1 37 id = s 37 id ∨ s1 37 id = 0) →
        ∃ s' : Sg, j_102_0 (F + r + 1) (M : Int) s1 = some s' ∧ s' 31 8 = (M : Int) ∧ (∀ j, j ≠ 8 → s' 31 j = s 31 j) ∧ (∀ c, c ≠ 31 → c ≠ 37 → s' c = s c) ∧ (∀ i, M ≤ i → i < B → 0 ≤ s 38 i → s 38 i < 4112 → s' 37 (s 38 i).toNat = 0) ∧ (∀ id : Nat, (∀ i, M ≤ i → i < B → s 38 i ≠ (id : Int)) → s' 37 id = s 37 id) ∧ (∀ id : Nat, s' 37 id = s 37 id ∨ s' 37 id = 0) := by
      intro s1 k1 k2 k3 k4 k5 k6
      obtain ⟨s', z1, z2, z3, z4, z5, z6, z7⟩ := ih (s := s1) (B := B - 1) F (by omega) (by omega) k1
      have e38 : s1 38 = s 38 := k3 38 (by decide) (by decide)
      rw [e38] at z5 z6
      refine ⟨s', z1, z2, fun j x => (z3 j x).trans (k2 j x), fun c x y => (z4 c x y).trans (k3 c x y), ?_, ?_, ?_⟩
      · intro i x y u v
        by_cases e : i = B - 1
        · subst e
          rcases z7 (s 38 (B - 1)).toNat with w | w
          · rw [w]; exact k5 u v
          · exact w
        · exact z5 i x (by omega) u v
      · intro id x
        rw [z6 id (fun i y z => x i y (by omega))]
        exact k4 id (x (B - 1) (by omega) (by omega))
      · intro id
        rcases z7 id with w | w
        · rw [w]; exact k6 id
        · exact Or.inr w
    rw [show F + (r + 1) + 1 = F + r + 1 + 1 by omega, j_102_0, if_neg (by omega), if_neg (by omega), hw, gd_pos (by omega), Int.toNat_natCast]
    by_cases d1 : s 38 (B - 1) < 0
    · rw [if_pos d1]
      exact step _ (u2_same _ _ _ _) (fun j x => u2_col _ _ _ x) (fun c x y => u2_row _ _ _ x) (fun id _ => by rw [u2_row _ _ _ (by decide)]) (fun y => absurd d1 (by omega)) (fun id => Or.inl (by rw [u2_row _ _ _ (by decide)]))
    · rw [if_neg d1]
      by_cases d2 : 4112 ≤ s 38 (B - 1)
      · rw [if_pos d2]
        exact step _ (u2_same _ _ _ _) (fun j x => u2_col _ _ _ x) (fun c x y => u2_row _ _ _ x) (fun id _ => by rw [u2_row _ _ _ (by decide)]) (fun _ y => absurd d2 (by omega)) (fun id => Or.inl (by rw [u2_row _ _ _ (by decide)]))
      · rw [if_neg d2, gd_pos (by omega)]
        refine step _ (by rw [u2_row _ _ _ (by decide)]; exact u2_same _ _ _ _) (fun j x => by rw [u2_row _ _ _ (by decide)]; exact u2_col _ _ _ x) (fun c x y => by rw [u2_row _ _ _ y, u2_row _ _ _ x]) (fun id x => ?_) (fun _ _ => u2_same _ _ _ _) (fun id => ?_)
        · rw [u2_col _ _ _ (by omega), u2_row _ _ _ (by decide)]
        · by_cases e : id = (s 38 (B - 1)).toNat
          · subst e; exact Or.inr (u2_same _ _ _ _)
          · left; rw [u2_col _ _ _ e, u2_row _ _ _ (by decide)]
theorem c102 {M : Nat} (hM : M ≤ B) (hB8 : B ≤ 4112) (hB : s 31 8 = (B : Int)) :
    ∃ s' : Sg, f_102 (M : Int) s = some s' ∧ s' 31 8 = (M : Int) ∧ (∀ j, j ≠ 8 → s' 31 j = s 31 j) ∧ (∀ c, c ≠ 31 → c ≠ 37 → s' c = s c) ∧ (∀ i, M ≤ i → i < B → 0 ≤ s 38 i → s 38 i < 4112 → s' 37 (s 38 i).toNat = 0) ∧ (∀ id : Nat, (∀ i, M ≤ i → i < B → s 38 i ≠ (id : Int)) → s' 37 id = s 37 id) := by
  obtain ⟨F, hF⟩ := FU_split (k := (B - M) + 1) (by omega)
  obtain ⟨s', z1, z2, z3, z4, z5, z6, _⟩ := c102l (M := M) (B - M) (s := s) (B := B) F (by omega) hB8 hB
  refine ⟨s', ?_, z2, z3, z4, z5, z6⟩
  unfold f_102
  rw [hF, show F + (B - M + 1) = F + (B - M) + 1 by omega]
  exact z1
/-- the head of a statement -/
def HDd (s s' : Sg) (S a N id : Nat) (kd : Int) : Prop := s' 54 6 = ((S + 1 : Nat) : Int) ∧ s' 55 S = kd ∧ s' 56 S = (a : Int) ∧ s' 57 S = 0 ∧ s' 58 S = 0 ∧ s' 59 S = 0 ∧ s' 60 S = (N : Int) ∧ s' 36 id = (S : Int) ∧ (∀ i, i ≠ id → s' 36 i = s 36 i) ∧ (∀ c i, 55 ≤ c → c ≤ 60 → i ≠ S → s' c i = s c i) ∧ (∀ j, j ≠ 6 → s' 54 j = s 54 j) ∧ (∀ c, ¬ (c = 30 ∨ c = 36 ∨ c = 39 ∨ 54 ≤ c ∧ c ≤ 60) → s' c = s c) ∧ (∀ j, j ≠ 10 → j ≠ 11 → s' 39 j = s 39 j) ∧ (∀ j, j < 4 ∨ 7 < j → s' 30 j = s 30 j)
theorem c156 {kd : Int} (hT : TWF T) (hc : CC T s) (hu : CU T s a) (h0 : T.tk a ≠ 0) (h1 : T.tk (a + 1) = 1) (hS : s 54 6 = (S : Int)) (hS8 : S < 1171) (hN : s 46 7 = (N : Int)) :
    ∃ s' : Sg, f_156 kd s = some (.inl s') ∧ CU T s' (a + 2) ∧ HDd s s' S (a + 1) N (T.vl (a + 1)).toNat kd ∧ (CN s' ↔ CN s ∧ s 36 (T.vl (a + 1)).toNat = -1) := by
  have hz := hT.lt hu.2.2 h0
  have hz1 := hT.lt (show a + 1 ≤ T.z by omega) (by rw [h1]; decide)
  have cc1 := cur_cc (a := a + 1) hc
  have cu1 : CU T (cur T s (a + 1)) (a + 1) := cur_cu (by omega)
  have cc2 := cur_cc (a := a + 2) cc1
  have cu2 : CU T (cur T (cur T s (a + 1)) (a + 2)) (a + 2) := cur_cu (by omega)
  obtain ⟨c1, c2, _⟩ := c109 hT cc2 hz1 h1
  have r36 : (cur T (cur T s (a + 1)) (a + 2)) 36 = s 36 := by rw [cur_row (by decide), cur_row (by decide)]
  have fin : ∀ s1 : Sg, (∀ c, c ≠ 30 → s1 c = (cur T (cur T s (a + 1)) (a + 2)) c) → (∀ j, j < 4 ∨ 7 < j → s1 30 j = s 30 j) → ∃ s' : Sg, j_156_51 kd ((a + 1 : Nat) : Int) (T.vl (a + 1)) s1 = some (.inl s') ∧ CU T s' (a + 2) ∧ HDd s s' S (a + 1) N (T.vl (a + 1)).toNat kd ∧ s' 30 = s1 30 := by
    intro s1 k1 k2
    have k54 : s1 54 6 = (S : Int) := by rw [k1 54 (by decide), cur_row (by decide), cur_row (by decide)]; exact hS
    have k46 : s1 46 7 = (N : Int) := by rw [k1 46 (by decide), cur_row (by decide), cur_row (by decide)]; exact hN
    have e : f_191 kd ((a + 1 : Nat) : Int) (s1 46 7) s1 = ((S : Int), (ax_u2 (ax_u2 (ax_u2 (ax_u2 (ax_u2 (ax_u2 (ax_u2 s1 55 S kd) 56 S ((a + 1 : Nat) : Int)) 57 S 0) 58 S 0) 59 S 0) 60 S (N : Int)) 54 6 ((S + 1 : Nat) : Int))) := by
      unfold f_191
      rw [k54, k46, if_pos (by omega), w32_nat (by omega), w32_id (by omega) (by omega), Int.toNat_natCast, show ((S + 1 : Nat) : Int) - 1 = (S : Int) by omega]
    have g : g_191 kd ((a + 1 : Nat) : Int) (s1 46 7) s1 := by
      unfold g_191
      rw [k54]
      have : 0 ≤ (S : Int) ∧ (S : Int) < 1171 := by omega
      exact ⟨fun _ => ⟨this, this, this, this, this, this, trivial⟩, fun _ => trivial⟩
    obtain ⟨s2, hs2⟩ : ∃ s2 : Sg, s2 = (ax_u2 (ax_u2 (ax_u2 (ax_u2 (ax_u2 (ax_u2 (ax_u2 s1 55 S kd) 56 S ((a + 1 : Nat) : Int)) 57 S 0) 58 S 0) 59 S 0) 60 S (N : Int)) 54 6 ((S + 1 : Nat) : Int)) := ⟨_, rfl⟩
    have r2 : ∀ c, ¬ (54 ≤ c ∧ c ≤ 60) → s2 c = s1 c := fun c x => by rw [hs2, u2_row _ _ _ (by omega), u2_row _ _ _ (by omega), u2_row _ _ _ (by omega), u2_row _ _ _ (by omega), u2_row _ _ _ (by omega), u2_row _ _ _ (by omega), u2_row _ _ _ (by omega)]
    have cc3 : CC T s2 := cc2.row (by rw [r2 39 (by omega), k1 39 (by decide)]) (by rw [r2 41 (by omega), k1 41 (by decide)]) (by rw [r2 42 (by omega), k1 42 (by decide)]) (by rw [r2 44 (by omega), k1 44 (by decide)]) (by rw [r2 31 (by omega), k1 31 (by decide)]) (by rw [r2 1 (by omega), k1 1 (by decide)])
    obtain ⟨_, _, _, _, d5⟩ := c109 hT cc3 hz1 h1
    obtain ⟨d1, d2⟩ := d5 (S : Int)
    unfold j_156_51
    rw [gd_pos g, e, ← hs2, Option.bind_some]
    dsimp only
    rw [gd_pos d1, d2, Option.bind_some]
    have r3 : ∀ c, c ≠ 30 → c ≠ 36 → c ≠ 39 → ¬ (54 ≤ c ∧ c ≤ 60) → (ax_u2 s2 36 (T.vl (a + 1)).toNat (S : Int)) c = s c := fun c x y z w => by rw [u2_row _ _ _ y, r2 c w, k1 c x, cur_row z, cur_row z]
    refine ⟨_, rfl, ?_, ⟨?_, ?_, ?_, ?_, ?_, ?_, ?_, u2_same _ _ _ _, ?_, ?_, ?_, ?_, ?_, ?_⟩, ?_⟩
    · unfold CU at *
      rw [u2_row _ _ _ (by decide), r2 39 (by omega), k1 39 (by decide)]
      exact cu2
    · rw [u2_row _ _ _ (by decide), hs2]; simp [ax_u2]
    · rw [u2_row _ _ _ (by decide), hs2]; simp [ax_u2]
    · rw [u2_row _ _ _ (by decide), hs2]; simp [ax_u2]
    · rw [u2_row _ _ _ (by decide), hs2]; simp [ax_u2]
    · rw [u2_row _ _ _ (by decide), hs2]; simp [ax_u2]
    · rw [u2_row _ _ _ (by decide), hs2]; simp [ax_u2]
    · rw [u2_row _ _ _ (by decide), hs2]; simp [ax_u2]
    · intro i hi
      rw [u2_col _ _ _ hi, r2 36 (by omega), k1 36 (by decide), r36]
    · intro c i x y z
      rw [u2_row _ _ _ (by omega), hs2]
      simp [ax_u2, z, show c ≠ 54 by omega]
      rw [k1 c (by omega), cur_row (by omega), cur_row (by omega)]
    · intro j hj
      rw [u2_row _ _ _ (by decide), hs2]
      simp [ax_u2, hj]
      rw [k1 54 (by decide), cur_row (by decide), cur_row (by decide)]
    · intro c x
      exact r3 c (by omega) (by omega) (by omega) (by omega)
    · intro j x y
      rw [u2_row _ _ _ (by decide), r2 39 (by omega), k1 39 (by decide), cur_col x y, cur_col x y]
    · intro j x
      rw [u2_row _ _ _ (by decide), r2 30 (by omega)]
      exact k2 j x
    · rw [u2_row _ _ _ (by decide), r2 30 (by omega)]
  unfold f_156
  rw [nxt hT hc hu h0, c96y hT cc1 cu1 h1]
  show ∃ s' : Sg, gd (g_109 (T.vl (a + 1)) (cur T (cur T s (a + 1)) (a + 2))) _ = _ ∧ _
  rw [gd_pos c1, c2, r36, cu1.1]
  have n30 : ∀ j, (cur T (cur T s (a + 1)) (a + 2)) 30 j = s 30 j := fun j => by rw [cur_row (by decide), cur_row (by decide)]
  by_cases d : s 36 (T.vl (a + 1)).toNat = -1
  · rw [if_pos d]
    obtain ⟨s', z1, z2, z3, z4⟩ := fin (cur T (cur T s (a + 1)) (a + 2)) (fun _ _ => rfl) (fun j _ => n30 j)
    refine ⟨s', z1, z2, z3, ?_⟩
    have : CN s' ↔ CN s := by unfold CN; rw [z4, n30, n30, n30, n30]
    rw [this]
    exact ⟨fun y => ⟨y, d⟩, fun y => y.1⟩
  · rw [if_neg d]
    have c8 := c80 cc2 hT (a := a + 1) (by omega)
    obtain ⟨n1, n2, n3, n4⟩ := c71 (s := cur T (cur T s (a + 1)) (a + 2)) (x := 5) (p := T.fm (a + 1)) (Or.inr (Or.inl rfl)) (hT.2.2.2.1 (a + 1) (by omega))
    rw [gd_pos c8.2, c8.1, gd_pos n1, Option.bind_some]
    obtain ⟨s', z1, z2, z3, z4⟩ := fin _ n3 (fun j x => by rw [n4 j x]; exact n30 j)
    refine ⟨s', z1, z2, z3, ?_⟩
    have : CN s' ↔ CN (f_71 5 (T.fm (a + 1)) (cur T (cur T s (a + 1)) (a + 2))) := by unfold CN; rw [z4]
    rw [this]
    exact ⟨fun y => absurd y n2, fun y => absurd y.2 d⟩
theorem c156n {kd : Int} (hT : TWF T) (hc : CC T s) (hu : CU T s a) (h0 : T.tk a ≠ 0) (h1 : T.tk (a + 1) ≠ 1) : f_156 kd s = some (.inr (15, cur T s (a + 1))) := by
  have hz := hT.lt hu.2.2 h0
  have cu1 : CU T (cur T s (a + 1)) (a + 1) := cur_cu (by omega)
  unfold f_156
  rw [nxt hT hc hu h0, c96n cu1 h1]
  rfl
/-- the last statement grows -/
theorem c181 (hS : s 54 6 = ((S + 1 : Nat) : Int)) (hS8 : S < 1171) (x : Int) : (g_189 x s ∧ f_189 x s = ax_u2 s 58 S (ax_w32 (s 58 S + x))) ∧ (g_190 x s ∧ f_190 x s = ax_u2 s 57 S (ax_w32 (s 57 S + x))) ∧ (g_188 s ∧ f_188 s = ax_u2 s 59 S (ax_w32 (s 59 S + 1))) := by
  have hw : ax_w32 (s 54 6 - 1) = (S : Int) := by rw [hS, w32_id (by omega) (by omega)]; omega
  have e : f_181 (S : Int) s = 1 := by unfold f_181; rw [hS, if_neg (by omega), if_neg (by omega)]
  have g : 0 ≤ (S : Int) ∧ (S : Int) < 1171 := by omega
  unfold g_189 f_189 g_190 f_190 g_188 f_188
  rw [hw, e, if_neg (by decide), if_neg (by decide), if_neg (by decide), Int.toNat_natCast]
  exact ⟨⟨⟨fun _ => trivial, fun _ => ⟨g, g, trivial⟩⟩, rfl⟩, ⟨⟨fun _ => trivial, fun _ => ⟨g, g, trivial⟩⟩, rfl⟩, ⟨⟨fun _ => trivial, fun _ => ⟨g, g, trivial⟩⟩, rfl⟩⟩
/-- a claim -/
theorem c42 (hC : s 61 4 = (C : Int)) (hC8 : C < 2049) (x y z w : Int) : g_42 x y z w s ∧ f_42 x y z w s = ax_u2 (ax_u2 (ax_u2 (ax_u2 (ax_u2 s 62 C x) 63 C y) 64 C z) 65 C w) 61 4 ((C + 1 : Nat) : Int) := by
  have g : 0 ≤ (C : Int) ∧ (C : Int) < 2049 := by omega
  unfold g_42 f_42
  rw [hC]
  refine ⟨⟨fun _ => trivial, fun _ => ⟨g, g, g, g, trivial⟩⟩, ?_⟩
  rw [if_neg (by omega), Int.toNat_natCast, w32_nat (by omega)]
/-- a body is opened -/
theorem c154y {w m : Int} (hT : TWF T) (hc : CC T s) (hu : CU T s a) (h : T.tk a = 123) (hb : s 70 9 = (b : Int)) (hb8 : b < 80) : f_154 w m s = some (.inl (ax_u2 (ax_u2 (ax_u2 (cur T s (a + 1)) 71 b w) 72 b m) 70 9 ((b + 1 : Nat) : Int))) := by
  unfold f_154
  have : (cur T s (a + 1)) 70 9 = (b : Int) := by rw [cur_row (by decide)]; exact hb
  rw [if_pos (by omega), c92y hT hc hu h (by decide)]
  show gd (0 ≤ (cur T s (a + 1)) 70 9 ∧ (cur T s (a + 1)) 70 9 < 80) _ = _
  rw [this, gd_pos (by omega), gd_pos (by omega), Int.toNat_natCast, w32_nat (by omega)]
theorem c154n {w m : Int} (hu : CU T s a) (hb : s 70 9 = (b : Int)) (h : T.tk a ≠ 123 ∨ 80 ≤ b) : ∃ x : Nat, (x = 14 ∨ x = 15) ∧ f_154 w m s = some (.inr (x, s)) := by
  unfold f_154
  by_cases d : s 70 9 < 80
  · rw [if_pos d, c92n hu (by rcases h with y | y; exact y; omega)]
    exact ⟨15, Or.inr rfl, rfl⟩
  · rw [if_neg d]
    exact ⟨14, Or.inl rfl, rfl⟩
end CST
