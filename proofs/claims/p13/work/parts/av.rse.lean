/-! RINGS: the reference's search. -/
/-- the calls by their lexemes -/
def CAT (T : TT) (sm : Sg) (N : Nat) (f : Nat → Int) : Prop := ∀ k, k < T.z → (f k < 0 ∧ ∀ n, n < N → sm 116 n = 3 → sm 118 n ≠ (k : Int)) ∨ (∃ n : Nat, f k = (n : Int) ∧ n < N ∧ sm 116 n = 3 ∧ sm 118 n = (k : Int))
/-- what a calls by a lexeme below i -/
def LOW (T : TT) (sm : Sg) (S N a i c : Nat) : Prop := ∃ n, n < N ∧ sm 116 n = 3 ∧ sm 123 n = (a : Int) ∧ sm 118 n < (i : Int) ∧ SO1 T sm S (T.vl (sm 118 n).toNat) c
section RSE
variable {T : TT} {sc sm s s' : Sg} {n' S P A N K C w a b x k : Nat} {t : Nat → Int}
theorem LOW.up {i c : Nat} (h : LOW T sm S N a (i + 1) c) : LOW T sm S N a i c ∨ (∃ n, n < N ∧ sm 116 n = 3 ∧ sm 123 n = (a : Int) ∧ sm 118 n = (i : Int) ∧ SO1 T sm S (T.vl i) c) := by
  obtain ⟨n, h1, h2, h3, h4, h5⟩ := h
  by_cases e : sm 118 n = (i : Int)
  · rw [e, Int.toNat_natCast] at h5
    exact Or.inr ⟨n, h1, h2, h3, e, h5⟩
  · exact Or.inl ⟨n, h1, h2, h3, by omega, h5⟩
theorem LOW.dn {i c : Nat} (h : LOW T sm S N a i c) : LOW T sm S N a (i + 1) c := by
  obtain ⟨n, h1, h2, h3, h4, h5⟩ := h
  exact ⟨n, h1, h2, h3, by omega, h5⟩
def LBS (T : TT) (sm s : Sg) (S N a i : Nat) (bs : Int) : Prop := (bs = -1 ∧ ∀ c, LOW T sm S N a i c → s 133 c < 0) ∨ (∃ b : Nat, bs = (b : Int) ∧ LOW T sm S N a i b ∧ 0 ≤ s 133 b ∧ ∀ c, LOW T sm S N a i c → 0 ≤ s 133 c → s 133 b ≤ s 133 c)
theorem m245 (h : CKX T sc sm n' t S P A N K C w) (g : GOOD T sc sm S A N w) (n6 : ¬ BD6 T sm S A N) (n7 : ¬ BD7 T sm S A N) (h11 : sm 84 11 = (T.z : Int)) (ha : AGr sm s) (hc : CAT T sm N (s 135)) (aS : a < S) (a2 : sm 94 a = 2) : ∃ r : Int, f_245 (a : Int) s = some r ∧ ((r = -1 ∧ ∀ c, EDG T sc sm S a c → s 133 c < 0) ∨ (∃ b : Nat, r = (b : Int) ∧ EDG T sc sm S a b ∧ 0 ≤ s 133 b ∧ ∀ c, EDG T sc sm S a c → 0 ≤ s 133 c → s 133 b ≤ s 133 c)) := by
  have enode := fun c => edg_node h g n6 n7 (y := a) (c := c)
  have clx := h.2.2.2.1.2.2.2.2.2.2.2.2.1
  have S8 := h.2.2.2.2.2.2.2.2.2.2.2.1
  have N8 := h.2.2.2.2.2.2.2.2.2.2.2.2.2.2
  have z8 := h.1.1
  have rr : ∀ c, c ≠ 84 → c < 133 → s c = sm c := fun c u v => ha.1 c u (Or.inl v)
  have low : ∀ c, LOW T sm S N a T.z c ↔ EDG T sc sm S a c := fun c => by
    rw [enode c]
    constructor
    · intro ⟨n, h1, h2, h3, h4, h5⟩
      exact ⟨n, h1, h2, h3, aS, a2, h5⟩
    · intro ⟨n, h1, h2, h3, _, _, h5⟩
      obtain ⟨x, y, c', x1, x2, -⟩ := call_at h g n6 n7 ha h1 h2
      exact ⟨n, h1, h2, h3, by omega, h5⟩
  have go : ∀ (r i G : Nat) (bs : Int), i + r = T.z → LBS T sm s S N a i bs → ∃ r' : Int, j_245_4 (G + r + 1) (a : Int) bs (i : Int) s = some r' ∧ LBS T sm s S N a T.z r' := by
    intro r
    induction r with
    | zero =>
      intro i G bs hi inv
      rw [show i = T.z by omega] at inv ⊢
      exact ⟨bs, by rw [j_245_4, ha.2 11 (by decide) (by decide), h11, if_pos (by omega)], inv⟩
    | succ r ih =>
      intro i G bs hi inv
      have k82 : ∀ v : Int, j_245_82 (j_245_4 (G + r + 1)) (a : Int) v (i : Int) s = j_245_4 (G + r + 1) (a : Int) v ((i + 1 : Nat) : Int) s := fun v => by
        unfold j_245_82
        rw [w32_nat (by omega)]
      -- nothing new here
      have skip : (∀ c n, n < N → sm 116 n = 3 → sm 123 n = (a : Int) → sm 118 n = (i : Int) → SO1 T sm S (T.vl i) c → s 133 c < 0) → ∃ r' : Int, j_245_82 (j_245_4 (G + r + 1)) (a : Int) bs (i : Int) s = some r' ∧ LBS T sm s S N a T.z r' := fun hno => by
        rw [k82]
        refine ih (i + 1) G bs (by omega) ?_
        have new : ∀ c, LOW T sm S N a (i + 1) c → LOW T sm S N a i c ∨ s 133 c < 0 := fun c hc => by
          rcases hc.up with u | ⟨n, u1, u2, u3, u4, u5⟩
          · exact Or.inl u
          · exact Or.inr (hno c n u1 u2 u3 u4 u5)
        rcases inv with ⟨v1, v2⟩ | ⟨b, v1, v2, v3, v4⟩
        · refine Or.inl ⟨v1, fun c hc => ?_⟩
          rcases new c hc with u | u
          · exact v2 c u
          · exact u
        · refine Or.inr ⟨b, v1, v2.dn, v3, fun c hc u0 => ?_⟩
          rcases new c hc with u | u
          · exact v4 c u u0
          · omega
      rw [show G + (r + 1) + 1 = (G + r + 1) + 1 by omega, j_245_4, ha.2 11 (by decide) (by decide), h11, if_neg (by omega), gd_pos (by omega), Int.toNat_natCast]
      rcases hc i (by omega) with ⟨q1, q2⟩ | ⟨n, q1, q2, q3, q4⟩
      · rw [if_pos q1]
        exact skip (fun c n u1 u2 _ u4 _ => absurd u4 (q2 n u1 u2))
      · rw [q1, if_neg (by omega), gd_pos (by omega), Int.toNat_natCast, rr 123 (by decide) (by decide)]
        by_cases c23 : sm 123 n = (a : Int)
        · obtain ⟨x, y, c, x1, x2, y1, y2, e238, cS, so⟩ := call_at h g n6 n7 ha q2 q3
          have ex : x = i := by omega
          subst ex
          have uq : ∀ c', SO1 T sm S (T.vl x) c' → c' = c := fun c' hc' => hc'.uniq so
          have isl : LOW T sm S N a (x + 1) c := ⟨n, q2, q3, c23, by omega, by rw [x1, Int.toNat_natCast]; exact so⟩
          rw [if_neg (fun e => e c23), gd_pos (by omega), rr 118 (by decide) (by decide), x1, e238, Option.bind_some, gd_pos (by omega), Int.toNat_natCast c]
          by_cases d : s 133 c < 0
          · rw [if_pos d]
            exact skip (fun c' m u1 u2 u3 u4 u5 => by rw [uq c' u5]; exact d)
          · rw [if_neg d]
            have new : ∀ c', LOW T sm S N a (x + 1) c' → LOW T sm S N a x c' ∨ c' = c := fun c' hc' => by
              rcases hc'.up with u | ⟨m, u1, u2, u3, u4, u5⟩
              · exact Or.inl u
              · exact Or.inr (uq c' u5)
            rcases inv with ⟨v1, v2⟩ | ⟨b, v1, v2, v3, v4⟩
            · rw [if_pos (by omega)]
              unfold j_245_79
              rw [k82]
              refine ih (x + 1) G (c : Int) (by omega) (Or.inr ⟨c, rfl, isl, by omega, fun c' hc' u0 => ?_⟩)
              rcases new c' hc' with u | u
              · have := v2 c' u
                omega
              · rw [u]; exact Int.le_refl _
            · have bS : b < S := by
                obtain ⟨_, _, _, _, _, u⟩ := v2
                exact u.1
              rw [if_neg (by omega), gd_pos (by omega), v1, gd_pos (by omega), k82, Int.toNat_natCast b]
              by_cases c0 : s 133 b ≤ s 133 c
              · rw [if_pos c0]
                refine ih (x + 1) G (b : Int) (by omega) (Or.inr ⟨b, rfl, v2.dn, v3, fun c' hc' u0 => ?_⟩)
                rcases new c' hc' with u | u
                · exact v4 c' u u0
                · rw [u]; exact c0
              · rw [if_neg c0]
                refine ih (x + 1) G (c : Int) (by omega) (Or.inr ⟨c, rfl, isl, by omega, fun c' hc' u0 => ?_⟩)
                rcases new c' hc' with u | u
                · have := v4 c' u u0
                  omega
                · rw [u]; exact Int.le_refl _
        · rw [if_pos c23]
          exact skip (fun c m u1 u2 u3 u4 _ => by
            rw [clx.2 m n u1 q2 u2 q3 (by omega)] at u3
            exact absurd u3 c23)
  obtain ⟨G, hG⟩ := FU_split (k := T.z + 1) (by omega)
  obtain ⟨r', y1, y2⟩ := go T.z 0 G (-1) (by omega) (Or.inl ⟨rfl, fun c ⟨n, u1, u2, _, u4, _⟩ => by
    obtain ⟨x, y, c', x1, -⟩ := call_at h g n6 n7 ha u1 u2
    omega⟩)
  rw [show G + T.z + 1 = FU by omega] at y1
  refine ⟨r', y1, ?_⟩
  rcases y2 with ⟨v1, v2⟩ | ⟨b, v1, v2, v3, v4⟩
  · exact Or.inl ⟨v1, fun c u => v2 c ((low c).mpr u)⟩
  · exact Or.inr ⟨b, v1, (low b).mp v2, v3, fun c u => v4 c ((low c).mpr u)⟩
/-- the trace of a ring -/
theorem m214t (h : CKX T sc sm n' t S P A N K C w) (g : GOOD T sc sm S A N w) (n6 : ¬ BD6 T sm S A N) (n7 : ¬ BD7 T sm S A N) (h11 : sm 84 11 = (T.z : Int)) (aS : a < S) (a2 : sm 94 a = 2) (k68 : Int → Sg → Option Sg) {f : Nat → Int} (fS : ∀ b, b < S → f b ≤ (S : Int)) (fw : ∀ b, b < S → b ≠ a → 0 ≤ f b → ∃ c, c < S ∧ EDG T sc sm S b c ∧ 0 ≤ f c ∧ f c < f b) :
    ∀ (v F x k : Nat) (s : Sg), x < S → sm 94 x = 2 → x ≠ a → f x = (v : Int) → k + v ≤ S + 1 → s 84 72 = (k : Int) → s 133 = f → AGr sm s → CAT T sm N (s 135) → 0 ≤ s 84 8 → ∃ s' : Sg, j_214_141 k68 (F + v + 2) (a : Int) (x : Int) 1 s = k68 ((a + 1 : Nat) : Int) s' ∧ AGr sm s' ∧ 0 ≤ s' 84 8 ∧ RM s' := by
  have S8 := h.2.2.2.2.2.2.2.2.2.2.2.1
  have z8 := h.1.1
  intro v
  induction v using Nat.strongRecOn with
  | ind v ih =>
    intro F x k s xS x2 xa fx kv h72 hf ha hc h8
    obtain ⟨c0, c1, c2, c3, c4⟩ := fw x xS xa (by omega)
    obtain ⟨hd, p0, pc, n0, b1, b2, b3, -⟩ := h.2.2.2.1.1 x xS
    have ha2 : AGr sm (ax_u2 (ax_u2 s 134 k (s 89 hd)) 84 72 ((k + 1 : Nat) : Int)) := ⟨fun c u y => by rw [u2_row _ _ _ u, u2_row _ _ _ (by omega)]; exact ha.1 c u y, fun j u y => by rw [u2_col _ _ _ y, u2_row _ _ _ (by decide)]; exact ha.2 j u y⟩
    have hf2 : (ax_u2 (ax_u2 s 134 k (s 89 hd)) 84 72 ((k + 1 : Nat) : Int)) 133 = f := by rw [u2_row _ _ _ (by decide), u2_row _ _ _ (by decide)]; exact hf
    have hc2 : CAT T sm N ((ax_u2 (ax_u2 s 134 k (s 89 hd)) 84 72 ((k + 1 : Nat) : Int)) 135) := by rw [u2_row _ _ _ (by decide), u2_row _ _ _ (by decide)]; exact hc
    have h82 : 0 ≤ (ax_u2 (ax_u2 s 134 k (s 89 hd)) 84 72 ((k + 1 : Nat) : Int)) 84 8 := by rw [u2_col _ _ _ (by decide), u2_row _ _ _ (by decide)]; exact h8
    have h72' : (ax_u2 (ax_u2 s 134 k (s 89 hd)) 84 72 ((k + 1 : Nat) : Int)) 84 72 = ((k + 1 : Nat) : Int) := u2_same _ _ _ _
    obtain ⟨r, e1, e2⟩ := m245 h g n6 n7 h11 ha2 hc2 xS x2
    rw [hf2] at e2
    rw [show F + v + 2 = (F + v + 1) + 1 by omega, j_214_141, if_neg (by decide), gd_pos (by omega), Int.toNat_natCast, ha.1 95 (by decide) (by decide), b2, gd_pos (by omega), h72, gd_pos (by omega), Int.toNat_natCast k, Int.toNat_natCast hd, w32_nat (by omega), e1, Option.bind_some]
    rcases e2 with ⟨_, y⟩ | ⟨b, y1, y2, y3, y4⟩
    · have := y c0 c2
      omega
    · have lt : f b < f x := by
        have := y4 c0 c2 c3
        omega
      by_cases e : b = a
      · rw [if_pos (by omega), show F + v + 1 = (F + v) + 1 by omega, j_214_141, if_pos rfl]
        unfold j_214_195
        rw [w32_nat (by omega)]
        exact ⟨_, rfl, ha2, h82, by unfold RM; rw [h72']; omega⟩
      · rw [if_neg (by omega), y1]
        have b94 : sm 94 b = 2 := by
          obtain ⟨_, _, hd', st, ee, q, hl, k1, k2, k3, k4⟩ := y2
          obtain ⟨hd2, st2, ee2, hl2, ca, -⟩ := h.hlp g n6 n7 xS x2
          have eh : hd2 = hd' := by have := hl.1; have := hl2.1; omega
          subst eh
          have ee' : ee2 = ee := hl2.2.2.2.2.2.2.1.uniq hl.2.2.2.2.2.2.1
          subst ee'
          obtain ⟨b', m, _, u1, u2, -⟩ := ca q k1 k2 k3
          rw [show b = b' by omega]; exact u2
        obtain ⟨vb, hvb⟩ : ∃ vb : Nat, f b = (vb : Int) := ⟨(f b).toNat, by omega⟩
        obtain ⟨s', z1, z2⟩ := ih vb (by omega) (F + (v - vb) - 1) b (k + 1) _ y2.2.1 b94 e hvb (by omega) h72' hf2 ha2 hc2 h82
        rw [show F + (v - vb) - 1 + vb + 2 = F + v + 1 by omega] at z1
        exact ⟨s', z1, z2⟩
/-- rings -/
theorem m214 (h : CKX T sc sm n' t S P A N K C w) (g : GOOD T sc sm S A N w) (n6 : ¬ BD6 T sm S A N) (n7 : ¬ BD7 T sm S A N) (h11 : sm 84 11 = (T.z : Int)) (h8 : sm 84 8 = -1) (h6 : sm 84 6 = 0) (h103 : ∀ i, i < S → sm 94 i = 2 → 1 ≤ sm 103 i ∧ sm 103 i ≤ 8192) : ∃ s' : Sg, f_214 sm = some s' ∧ (∀ c, c ≠ 84 → c < 133 ∨ 135 < c → s' c = sm c) ∧ (∀ j, j ≠ 6 → j ≠ 7 → j ≠ 8 → j ≠ 72 → s' 84 j = sm 84 j) ∧ s' 84 8 = -1 ∧ ((∃ k, k < S ∧ CYC (EDG T sc sm S) k) → s' 84 6 = 8) ∧ (¬ (∃ k, k < S ∧ CYC (EDG T sc sm S) k) → s' 84 6 = 0) ∧ RM s' := by
  have S8 := h.2.2.2.2.2.2.2.2.2.2.2.1
  have N8 := h.2.2.2.2.2.2.2.2.2.2.2.2.2.2
  have P8 := h.2.2.2.2.2.2.2.2.2.2.2.2.1
  have hN := h.2.2.2.2.1
  have h19 := h.2.2.2.2.2.1
  have clx := h.2.2.2.1.2.2.2.2.2.2.2.2.1
  have z8 := h.1.1
  -- the end
  have fin : ∀ s, AGr sm s → (0 ≤ s 84 8 ↔ ∃ k, k < S ∧ CYC (EDG T sc sm S) k) → RM s → ∃ s' : Sg, j_214_201 s = some s' ∧ (∀ c, c ≠ 84 → c < 133 ∨ 135 < c → s' c = sm c) ∧ (∀ j, j ≠ 6 → j ≠ 7 → j ≠ 8 → j ≠ 72 → s' 84 j = sm 84 j) ∧ s' 84 8 = -1 ∧ ((∃ k, k < S ∧ CYC (EDG T sc sm S) k) → s' 84 6 = 8) ∧ (¬ (∃ k, k < S ∧ CYC (EDG T sc sm S) k) → s' 84 6 = 0) ∧ RM s' := by
    intro s ha hi hr
    obtain ⟨s', e1, e2, e3, e4, e5, e6⟩ := m237w (s := s) (k := 8) (by rw [ha.2 6 (by decide) (by decide)]; exact h6)
    refine ⟨s', by unfold j_214_201; rw [e1, Option.bind_some], fun c u v => by rw [e2 c u]; exact ha.1 c u v, fun j u1 u2 u3 u4 => by rw [e3 j u1 u2 u3]; exact ha.2 j u3 u4, e4, fun u => e5 (hi.mpr u), fun u => e6 (fun y => u (hi.mp y)), by unfold RM; rw [e3 72 (by decide) (by decide) (by decide)]; exact hr⟩
  -- the search
  have go : ∀ (r l F : Nat) (s : Sg), l + r = S → AGr sm s → CAT T sm N (s 135) → s 84 8 = -1 → s 84 72 = 0 → (∀ j, j < l → ¬ CYC (EDG T sc sm S) j) → ∃ s' : Sg, j_214_68 (F + r + 2) (l : Int) s = some s' ∧ (∀ c, c ≠ 84 → c < 133 ∨ 135 < c → s' c = sm c) ∧ (∀ j, j ≠ 6 → j ≠ 7 → j ≠ 8 → j ≠ 72 → s' 84 j = sm 84 j) ∧ s' 84 8 = -1 ∧ ((∃ k, k < S ∧ CYC (EDG T sc sm S) k) → s' 84 6 = 8) ∧ (¬ (∃ k, k < S ∧ CYC (EDG T sc sm S) k) → s' 84 6 = 0) ∧ RM s' := by
    intro r
    induction r with
    | zero =>
      intro l F s hl ha hc e8 e72 no
      rw [show F + 0 + 2 = (F + 1) + 1 by omega, j_214_68, ha.2 19 (by decide) (by decide), h19, if_pos (by omega)]
      exact fin s ha ⟨fun y => absurd y (by omega), fun ⟨k, k1, k2⟩ => absurd k2 (no k (by omega))⟩ (by unfold RM; rw [e72]; decide)
    | succ r ih =>
      intro l F s hl ha hc e8 e72 no
      have k195 : ∀ z : Sg, j_214_195 (j_214_68 (F + r + 2)) (l : Int) z = j_214_68 (F + r + 2) ((l + 1 : Nat) : Int) z := fun z => by
        unfold j_214_195
        rw [w32_nat (by omega)]
      have lS : l < S := by omega
      rw [show F + (r + 1) + 2 = (F + r + 2) + 1 by omega, j_214_68, ha.2 19 (by decide) (by decide), h19, if_neg (by omega), e8, if_neg (by decide), gd_pos (by omega), Int.toNat_natCast, ha.1 94 (by decide) (by decide)]
      by_cases c2 : sm 94 l = 2
      · obtain ⟨hd, p0, pc, n0, b1, b2, b3, b4, b5, b6, b7, b8, -⟩ := h.2.2.2.1.1 l lS
        have q := h103 l lS c2
        rw [if_neg (fun e => e c2), gd_pos (by omega), gd_pos (by omega), ha.1 99 (by decide) (by decide), ha.1 103 (by decide) (by decide), b7, w32_id (z := (pc : Int) + sm 103 l) (by omega) (by omega), if_neg (by omega)]
        obtain ⟨s1, e1, a1, f1, w1, w2, w3, w4⟩ := m244 h g n6 n7 ha lS
        have hc1 : CAT T sm N (s1 135) := by rw [f1 135 (by decide)]; exact hc
        have e81 : s1 84 8 = -1 := by rw [f1 84 (by decide)]; exact e8
        have e721 : s1 84 72 = 0 := by rw [f1 84 (by decide)]; exact e72
        obtain ⟨r', e2, e3⟩ := m245 h g n6 n7 h11 a1 hc1 lS c2
        rw [e1, Option.bind_some, e2, Option.bind_some]
        rcases e3 with ⟨y1, y2⟩ | ⟨b, y1, y2, y3, y4⟩
        · rw [if_pos (by omega), k195]
          refine ih (l + 1) F s1 (by omega) a1 hc1 e81 e721 (fun j hj => ?_)
          by_cases e : j = l
          · rw [e]
            intro ⟨b, u1, u2⟩
            have := (w1 b u1.2.1).mpr u2
            have := y2 b u1
            omega
          · exact no j (by omega)
        · have cyc : ∃ k, k < S ∧ CYC (EDG T sc sm S) k := ⟨l, lS, b, y2, (w1 b y2.2.1).mp y3⟩
          rw [if_neg (by omega), gd_pos (by omega), a1.1 95 (by decide) (by decide), b2, gd_pos (by omega), Option.bind_some, Int.toNat_natCast]
          obtain ⟨i1, j1, _, _, d1, _⟩ := h.2.1.2.2.2 hd b3
          have x0 : 0 ≤ s1 89 hd := by rw [a1.1 89 (by decide) (by decide), d1]; omega
          have m5 := m235 (s := s1) x0
          have ha3 : AGr sm (f_235 (s1 89 hd) s1) := ⟨fun c u v => by rw [m5.1 c u]; exact a1.1 c u v, fun j u v => by rw [m5.2.1 j u]; exact a1.2 j u v⟩
          have h83 : 0 ≤ (f_235 (s1 89 hd) s1) 84 8 := m5.2.2.mpr (Or.inr trivial)
          have h723 : (f_235 (s1 89 hd) s1) 84 72 = ((0 : Nat) : Int) := by rw [m5.2.1 72 (by decide)]; exact e721
          have hc3 : CAT T sm N ((f_235 (s1 89 hd) s1) 135) := by rw [m5.1 135 (by decide)]; exact hc1
          have hf3 : (f_235 (s1 89 hd) s1) 133 = s1 133 := m5.1 133 (by decide)
          -- what follows, once found
          have aft : ∀ z : Sg, AGr sm z → 0 ≤ z 84 8 → RM z → ∃ s' : Sg, j_214_68 (F + r + 2) ((l + 1 : Nat) : Int) z = some s' ∧ (∀ c, c ≠ 84 → c < 133 ∨ 135 < c → s' c = sm c) ∧ (∀ j, j ≠ 6 → j ≠ 7 → j ≠ 8 → j ≠ 72 → s' 84 j = sm 84 j) ∧ s' 84 8 = -1 ∧ ((∃ k, k < S ∧ CYC (EDG T sc sm S) k) → s' 84 6 = 8) ∧ (¬ (∃ k, k < S ∧ CYC (EDG T sc sm S) k) → s' 84 6 = 0) ∧ RM s' := fun z az z8' rz => by
            rw [show F + r + 2 = (F + r + 1) + 1 by omega, j_214_68]
            obtain ⟨s', u1, u2⟩ := fin z az ⟨fun _ => cyc, fun _ => z8'⟩ rz
            by_cases c : z 84 19 ≤ ((l + 1 : Nat) : Int)
            · rw [if_pos c]
              exact ⟨s', u1, u2⟩
            · rw [if_neg c, if_pos z8']
              exact ⟨s', u1, u2⟩
          generalize f_235 (s1 89 hd) s1 = s3 at ha3 h83 h723 hc3 hf3
          -- the first step
          have ha2 : AGr sm (ax_u2 (ax_u2 s3 134 0 (s3 89 hd)) 84 72 ((0 + 1 : Nat) : Int)) := ⟨fun c u y => by rw [u2_row _ _ _ u, u2_row _ _ _ (by omega)]; exact ha3.1 c u y, fun j u y => by rw [u2_col _ _ _ y, u2_row _ _ _ (by decide)]; exact ha3.2 j u y⟩
          have hf2 : (ax_u2 (ax_u2 s3 134 0 (s3 89 hd)) 84 72 ((0 + 1 : Nat) : Int)) 133 = s1 133 := by rw [u2_row _ _ _ (by decide), u2_row _ _ _ (by decide)]; exact hf3
          have hc2 : CAT T sm N ((ax_u2 (ax_u2 s3 134 0 (s3 89 hd)) 84 72 ((0 + 1 : Nat) : Int)) 135) := by rw [u2_row _ _ _ (by decide), u2_row _ _ _ (by decide)]; exact hc3
          have h82 : 0 ≤ (ax_u2 (ax_u2 s3 134 0 (s3 89 hd)) 84 72 ((0 + 1 : Nat) : Int)) 84 8 := by rw [u2_col _ _ _ (by decide), u2_row _ _ _ (by decide)]; exact h83
          have h72' : (ax_u2 (ax_u2 s3 134 0 (s3 89 hd)) 84 72 ((0 + 1 : Nat) : Int)) 84 72 = ((0 + 1 : Nat) : Int) := u2_same _ _ _ _
          obtain ⟨r2, e5, e6⟩ := m245 h g n6 n7 h11 ha2 hc2 lS c2
          rw [hf2] at e6
          obtain ⟨H, hH⟩ := FU_split (k := S + 3) (by omega)
          rw [show FU = (H + S + 2) + 1 by omega, j_214_141, if_neg (by decide), gd_pos (by omega), Int.toNat_natCast, ha3.1 95 (by decide) (by decide), b2, gd_pos (by omega), h723, gd_pos (by decide), Int.toNat_natCast 0, Int.toNat_natCast hd, w32_nat (by decide), e5, Option.bind_some]
          rcases e6 with ⟨_, u⟩ | ⟨b', v1, v2, v3, v4⟩
          · have := u b y2
            omega
          · by_cases e : b' = l
            · rw [if_pos (by omega), show H + S + 2 = (H + S + 1) + 1 by omega, j_214_141, if_pos rfl, k195]
              exact aft _ ha2 h82 (by unfold RM; rw [h72']; decide)
            · rw [if_neg (by omega), v1]
              have b94 : sm 94 b' = 2 := by
                obtain ⟨_, _, hd', st, ee, q, hl, k1, k2, k3, k4⟩ := v2
                obtain ⟨hd2, st2, ee2, hl2, ca, -⟩ := h.hlp g n6 n7 lS c2
                have eh : hd2 = hd' := by have := hl.1; have := hl2.1; omega
                subst eh
                have ee' : ee2 = ee := hl2.2.2.2.2.2.2.1.uniq hl.2.2.2.2.2.2.1
                subst ee'
                obtain ⟨b'', m, _, u1, u2, -⟩ := ca q k1 k2 k3
                rw [show b' = b'' by omega]; exact u2
              have vS := w3 b' v2.2.1
              obtain ⟨vb, hvb⟩ : ∃ vb : Nat, s1 133 b' = (vb : Int) := ⟨(s1 133 b').toNat, by omega⟩
              obtain ⟨s', z1, z2, z3, z4⟩ := m214t h g n6 n7 h11 lS c2 (j_214_68 (F + r + 2)) w3 w4 vb (H + (S - vb)) b' (0 + 1) _ v2.2.1 b94 e hvb (by omega) h72' hf2 ha2 hc2 h82
              rw [show H + (S - vb) + vb + 2 = H + S + 2 by omega] at z1
              rw [z1]
              exact aft s' z2 z3 z4
      · rw [if_pos c2, k195]
        refine ih (l + 1) F s (by omega) ha hc e8 e72 (fun j hj => ?_)
        by_cases e : j = l
        · rw [e]
          intro ⟨b, ⟨_, _, _, _, _, _, hl, _⟩, _⟩
          exact c2 hl.2.2.1
        · exact no j (by omega)
  -- the calls by lexemes
  have cal : ∀ (r m F : Nat) (s : Sg), m + r = N → AGr sm s → s 84 8 = -1 → s 84 72 = 0 → (∀ k, k < T.z → (s 135 k < 0 ∧ ∀ n, n < m → sm 116 n = 3 → sm 118 n ≠ (k : Int)) ∨ (∃ n : Nat, s 135 k = (n : Int) ∧ n < m ∧ sm 116 n = 3 ∧ sm 118 n = (k : Int))) → ∃ s2 : Sg, j_214_30 (F + r + 1) (m : Int) s = j_214_66 s2 ∧ AGr sm s2 ∧ s2 84 8 = -1 ∧ s2 84 72 = 0 ∧ CAT T sm N (s2 135) := by
    intro r
    induction r with
    | zero =>
      intro m F s hm ha e8 e72 ca
      rw [show m = N by omega] at ca ⊢
      exact ⟨s, by rw [j_214_30, ha.2 47 (by decide) (by decide), hN.2.1, if_pos (by omega)], ha, e8, e72, ca⟩
    | succ r ih =>
      intro m F s hm ha e8 e72 ca
      have k60 : ∀ z : Sg, j_214_60 (j_214_30 (F + r + 1)) (m : Int) z = j_214_30 (F + r + 1) ((m + 1 : Nat) : Int) z := fun z => by
        unfold j_214_60
        rw [w32_nat (by omega)]
      rw [show F + (r + 1) + 1 = (F + r + 1) + 1 by omega, j_214_30, ha.2 47 (by decide) (by decide), hN.2.1, if_neg (by omega), gd_pos (by omega), Int.toNat_natCast, ha.1 116 (by decide) (by decide)]
      by_cases c3 : sm 116 m = 3
      · obtain ⟨x, y, c, x1, x2, -⟩ := call_at h g n6 n7 ha (n := m) (by omega) c3
        rw [if_neg (fun e => e c3), gd_pos (by omega), ha.1 118 (by decide) (by decide), x1, gd_pos (by omega), k60, Int.toNat_natCast x]
        refine ih (m + 1) F _ (by omega) ⟨fun c u v => by rw [u2_row _ _ _ (by omega)]; exact ha.1 c u v, fun j u v => by rw [u2_row _ _ _ (by decide)]; exact ha.2 j u v⟩ (by rw [u2_row _ _ _ (by decide)]; exact e8) (by rw [u2_row _ _ _ (by decide)]; exact e72) (fun k hk => ?_)
        by_cases e : k = x
        · subst e
          exact Or.inr ⟨m, u2_same _ _ _ _, by omega, c3, x1⟩
        · rw [u2_col _ _ _ e]
          rcases ca k hk with ⟨u1, u2⟩ | ⟨n, u1, u2, u3, u4⟩
          · refine Or.inl ⟨u1, fun n hn n3 => ?_⟩
            by_cases en : n = m
            · rw [en, x1]; omega
            · exact u2 n (by omega) n3
          · exact Or.inr ⟨n, u1, by omega, u3, u4⟩
      · rw [if_pos c3, k60]
        refine ih (m + 1) F s (by omega) ha e8 e72 (fun k hk => ?_)
        rcases ca k hk with ⟨u1, u2⟩ | ⟨n, u1, u2, u3, u4⟩
        · refine Or.inl ⟨u1, fun n hn n3 => ?_⟩
          by_cases en : n = m
          · rw [en] at n3; exact absurd n3 c3
          · exact u2 n (by omega) n3
        · exact Or.inr ⟨n, u1, by omega, u3, u4⟩
  -- none at first
  have ini : ∀ (r l F : Nat) (s : Sg), l + r = T.z + 1 → AGr sm s → s 84 8 = -1 → s 84 72 = 0 → (∀ k, k < l → s 135 k = -1) → ∃ s1 : Sg, j_214_7 (F + r + 1) (l : Int) s = j_214_28 s1 ∧ AGr sm s1 ∧ s1 84 8 = -1 ∧ s1 84 72 = 0 ∧ (∀ k, k < T.z → s1 135 k = -1) := by
    intro r
    induction r with
    | zero =>
      intro l F s hl ha e8 e72 v
      exact ⟨s, by rw [j_214_7, ha.2 11 (by decide) (by decide), h11, if_pos (by omega)], ha, e8, e72, fun k hk => v k (by omega)⟩
    | succ r ih =>
      intro l F s hl ha e8 e72 v
      rw [show F + (r + 1) + 1 = (F + r + 1) + 1 by omega, j_214_7, ha.2 11 (by decide) (by decide), h11, if_neg (by omega), gd_pos (by omega), w32_nat (by omega), Int.toNat_natCast]
      refine ih (l + 1) F _ (by omega) ⟨fun c u v => by rw [u2_row _ _ _ (by omega)]; exact ha.1 c u v, fun j u v => by rw [u2_row _ _ _ (by decide)]; exact ha.2 j u v⟩ (by rw [u2_row _ _ _ (by decide)]; exact e8) (by rw [u2_row _ _ _ (by decide)]; exact e72) (fun k hk => ?_)
      by_cases e : k = l
      · rw [e, u2_same]
      · rw [u2_col _ _ _ e]; exact v k (by omega)
  obtain ⟨F1, hF1⟩ := FU_split (k := T.z + 2) (by omega)
  obtain ⟨s1, e1, a1, p1, p2, p3⟩ := ini (T.z + 1) 0 F1 (ax_u2 sm 84 72 0) (by omega) ⟨fun c u _ => u2_row _ _ _ u, fun j _ v => u2_col _ _ _ v⟩ (by rw [u2_col _ _ _ (by decide)]; exact h8) (u2_same _ _ _ _) (fun k hk => absurd hk (by omega))
  obtain ⟨F2, hF2⟩ := FU_split (k := N + 1) (by omega)
  obtain ⟨s2, e2, a2, q1, q2, q3⟩ := cal N 0 F2 s1 (by omega) a1 p1 p2 (fun k hk => Or.inl ⟨by rw [p3 k hk]; decide, fun n hn => absurd hn (by omega)⟩)
  obtain ⟨F3, hF3⟩ := FU_split (k := S + 2) (by omega)
  obtain ⟨s', e3, e4⟩ := go S 0 F3 s2 (by omega) a2 q3 q1 q2 (fun j hj => absurd hj (by omega))
  rw [show F1 + (T.z + 1) + 1 = FU by omega] at e1
  rw [show F2 + N + 1 = FU by omega] at e2
  rw [show F3 + S + 2 = FU by omega] at e3
  refine ⟨s', ?_, e4⟩
  unfold f_214
  have e1' : j_214_7 FU 0 (ax_u2 sm 84 72 0) = _ := e1
  have e2' : j_214_30 FU 0 s1 = _ := e2
  have e3' : j_214_68 FU 0 s2 = _ := e3
  rw [e1']
  unfold j_214_28
  rw [e2']
  unfold j_214_66
  exact e3'
end RSE
