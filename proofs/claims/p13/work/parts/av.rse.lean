/-! RINGS: the reference's search. -/
/-- the calls by their lexemes -/
def CAT (T : TT) (sm : Sg) (N : Nat) (f : Nat → Int) : Prop := ∀ k, k < T.z → (f k < 0 ∧ ∀ n, n < N → sm 116 n = 3 → sm 118 n ≠ (k : Int)) ∨ (∃ n : Nat, f k = (n : Int) ∧ n < N ∧ sm 116 n = 3 ∧ sm 118 n = (k : Int))
/-- what a calls by a lexeme below i -/
def LOW (T : TT) (sm : Sg) (S N a i c : Nat) : Prop := ∃ n, n < N ∧ sm 116 n = 3 ∧ sm 123 n = (a : Int) ∧ sm 118 n < (i : Int) ∧ SO1 T sm S (T.vl (sm 118 n).toNat) c
section RSE
variable {T : TT} {sc sm s s' : Sg} {n' S P A N K C w a b x k : Nat} {t : Nat → Int}
theorem LOW.up {i c : Nat} (h : LOW T sm S N a (i + 1) c) : LOW T sm S N a i c ∨ (∃ n, n < N ∧ sm 116 n = 3 ∧ sm 123 n = (a : Int) ∧ sm 118 n = (i : Int) ∧ SO1 T sm S (T.vl i) c) := by
  obtain ⟨n, h1, h2, h3, h4, h5⟩ := h
  by_cases e : sm 118 n = (i : Int)
  · rw [e, Int.toNat_natCast] at h5
    exact Or.inr ⟨n, h1, h2, h3, e, h5⟩
  · exact Or.inl ⟨n, h1, h2, h3, by omega, h5⟩
theorem LOW.dn {i c : Nat} (h : LOW T sm S N a i c) : LOW T sm S N a (i + 1) c := by
  obtain ⟨n, h1, h2, h3, h4, h5⟩ := h
  exact ⟨n, h1, h2, h3, by omega, h5⟩
def LBS (T : TT) (sm s : Sg) (S N a i : Nat) (bs : Int) : Prop := (bs = -1 ∧ ∀ c, LOW T sm S N a i c → s 133 c < 0) ∨ (∃ b : Nat, bs = (b : Int) ∧ LOW T sm S N a i b ∧ 0 ≤ s 133 b ∧ ∀ c, LOW T sm S N a i c → 0 ≤ s 133 c → s 133 b ≤ s 133 c)
theorem m245 (h : CKX T sc sm n' t S P A N K C w) (g : GOOD T sc sm S A N w) (n6 : ¬ BD6 T sm S A N) (n7 : ¬ BD7 T sm S A N) (h11 : sm 84 11 = (T.z : Int)) (ha : AGr sm s) (hc : CAT T sm N (s 135)) (aS : a < S) (a2 : sm 94 a = 2) : ∃ r : Int, f_245 (a : Int) s = some r ∧ ((r = -1 ∧ ∀ c, EDG T sc sm S a c → s 133 c < 0) ∨ (∃ b : Nat, r = (b : Int) ∧ EDG T sc sm S a b ∧ 0 ≤ s 133 b ∧ ∀ c, EDG T sc sm S a c → 0 ≤ s 133 c → s 133 b ≤ s 133 c)) := by
  have enode := fun c => edg_node h g n6 n7 (y := a) (c := c)
  have clx := h.2.2.2.1.2.2.2.2.2.2.2.2.1
  have S8 := h.2.2.2.2.2.2.2.2.2.2.2.1
  have N8 := h.2.2.2.2.2.2.2.2.2.2.2.2.2.2
  have z8 := h.1.1
  have rr : ∀ c, c ≠ 84 → c < 133 → s c = sm c := fun c u v => ha.1 c u (Or.inl v)
  have low : ∀ c, LOW T sm S N a T.z c ↔ EDG T sc sm S a c := fun c => by
    rw [enode c]
    constructor
    · intro ⟨n, h1, h2, h3, h4, h5⟩
      exact ⟨n, h1, h2, h3, aS, a2, h5⟩
    · intro ⟨n, h1, h2, h3, _, _, h5⟩
      obtain ⟨x, y, c', x1, x2, -⟩ := call_at h g n6 n7 ha h1 h2
      exact ⟨n, h1, h2, h3, by omega, h5⟩
  have go : ∀ (r i G : Nat) (bs : Int), i + r = T.z → LBS T sm s S N a i bs → ∃ r' : Int, j_245_4 (G + r + 1) (a : Int) bs (i : Int) s = some r' ∧ LBS T sm s S N a T.z r' := by
    intro r
    induction r with
    | zero =>
      intro i G bs hi inv
      rw [show i = T.z by omega] at inv ⊢
      exact ⟨bs, by rw [j_245_4, ha.2 11 (by decide) (by decide), h11, if_pos (by omega)], inv⟩
    | succ r ih =>
      intro i G bs hi inv
      have k82 : ∀ v : Int, j_245_82 (j_245_4 (G + r + 1)) (a : Int) v (i : Int) s = j_245_4 (G + r + 1) (a : Int) v ((i + 1 : Nat) : Int) s := fun v => by
        unfold j_245_82
        rw [w32_nat (by omega)]
      -- nothing new here
      have skip : (∀ c n, n < N → sm 116 n = 3 → sm 123 n = (a : Int) → sm 118 n = (i : Int) → SO1 T sm S (T.vl i) c → s 133 c < 0) → ∃ r' : Int, j_245_82 (j_245_4 (G + r + 1)) (a : Int) bs (i : Int) s = some r' ∧ LBS T sm s S N a T.z r' := fun hno => by
        rw [k82]
        refine ih (i + 1) G bs (by omega) ?_
        have new : ∀ c, LOW T sm S N a (i + 1) c → LOW T sm S N a i c ∨ s 133 c < 0 := fun c hc => by
          rcases hc.up with u | ⟨n, u1, u2, u3, u4, u5⟩
          · exact Or.inl u
          · exact Or.inr (hno c n u1 u2 u3 u4 u5)
        rcases inv with ⟨v1, v2⟩ | ⟨b, v1, v2, v3, v4⟩
        · refine Or.inl ⟨v1, fun c hc => ?_⟩
          rcases new c hc with u | u
          · exact v2 c u
          · exact u
        · refine Or.inr ⟨b, v1, v2.dn, v3, fun c hc u0 => ?_⟩
          rcases new c hc with u | u
          · exact v4 c u u0
          · omega
      rw [show G + (r + 1) + 1 = (G + r + 1) + 1 by omega, j_245_4, ha.2 11 (by decide) (by decide), h11, if_neg (by omega), gd_pos (by omega), Int.toNat_natCast]
      rcases hc i (by omega) with ⟨q1, q2⟩ | ⟨n, q1, q2, q3, q4⟩
      · rw [if_pos q1]
        exact skip (fun c n u1 u2 _ u4 _ => absurd u4 (q2 n u1 u2))
      · rw [q1, if_neg (by omega), gd_pos (by omega), Int.toNat_natCast, rr 123 (by decide) (by decide)]
        by_cases c23 : sm 123 n = (a : Int)
        · obtain ⟨x, y, c, x1, x2, y1, y2, e238, cS, so⟩ := call_at h g n6 n7 ha q2 q3
          have ex : x = i := by omega
          subst ex
          have uq : ∀ c', SO1 T sm S (T.vl x) c' → c' = c := fun c' hc' => hc'.uniq so
          have isl : LOW T sm S N a (x + 1) c := ⟨n, q2, q3, c23, by omega, by rw [x1, Int.toNat_natCast]; exact so⟩
          rw [if_neg (fun e => e c23), gd_pos (by omega), rr 118 (by decide) (by decide), x1, e238, Option.bind_some, gd_pos (by omega), Int.toNat_natCast c]
          by_cases d : s 133 c < 0
          · rw [if_pos d]
            exact skip (fun c' m u1 u2 u3 u4 u5 => by rw [uq c' u5]; exact d)
          · rw [if_neg d]
            have new : ∀ c', LOW T sm S N a (x + 1) c' → LOW T sm S N a x c' ∨ c' = c := fun c' hc' => by
              rcases hc'.up with u | ⟨m, u1, u2, u3, u4, u5⟩
              · exact Or.inl u
              · exact Or.inr (uq c' u5)
            rcases inv with ⟨v1, v2⟩ | ⟨b, v1, v2, v3, v4⟩
            · rw [if_pos (by omega)]
              unfold j_245_79
              rw [k82]
              refine ih (x + 1) G (c : Int) (by omega) (Or.inr ⟨c, rfl, isl, by omega, fun c' hc' u0 => ?_⟩)
              rcases new c' hc' with u | u
              · have := v2 c' u
                omega
              · rw [u]; exact Int.le_refl _
            · have bS : b < S := by
                obtain ⟨_, _, _, _, _, u⟩ := v2
                exact u.1
              rw [if_neg (by omega), gd_pos (by omega), v1, gd_pos (by omega), k82, Int.toNat_natCast b]
              by_cases c0 : s 133 b ≤ s 133 c
              · rw [if_pos c0]
                refine ih (x + 1) G (b : Int) (by omega) (Or.inr ⟨b, rfl, v2.dn, v3, fun c' hc' u0 => ?_⟩)
                rcases new c' hc' with u | u
                · exact v4 c' u u0
                · rw [u]; exact c0
              · rw [if_neg c0]
                refine ih (x + 1) G (c : Int) (by omega) (Or.inr ⟨c, rfl, isl, by omega, fun c' hc' u0 => ?_⟩)
                rcases new c' hc' with u | u
                · have := v4 c' u u0
                  omega
                · rw [u]; exact Int.le_refl _
        · rw [if_pos c23]
          exact skip (fun c m u1 u2 u3 u4 _ => by
            rw [clx.2 m n u1 q2 u2 q3 (by omega)] at u3
            exact absurd u3 c23)
  obtain ⟨G, hG⟩ := FU_split (k := T.z + 1) (by omega)
  obtain ⟨r', y1, y2⟩ := go T.z 0 G (-1) (by omega) (Or.inl ⟨rfl, fun c ⟨n, u1, u2, _, u4, _⟩ => by
    obtain ⟨x, y, c', x1, -⟩ := call_at h g n6 n7 ha u1 u2
    omega⟩)
  rw [show G + T.z + 1 = FU by omega] at y1
  refine ⟨r', y1, ?_⟩
  rcases y2 with ⟨v1, v2⟩ | ⟨b, v1, v2, v3, v4⟩
  · exact Or.inl ⟨v1, fun c u => v2 c ((low c).mpr u)⟩
  · exact Or.inr ⟨b, v1, (low b).mp v2, v3, fun c u => v4 c ((low c).mpr u)⟩
/-- the trace of a ring -/
theorem m214t (h : CKX T sc sm n' t S P A N K C w) (g : GOOD T sc sm S A N w) (n6 : ¬ BD6 T sm S A N) (n7 : ¬ BD7 T sm S A N) (h11 : sm 84 11 = (T.z : Int)) (aS : a < S) (a2 : sm 94 a = 2) (k68 : Int → Sg → Option Sg) {f : Nat → Int} (fS : ∀ b, b < S → f b ≤ (S : Int)) (fw : ∀ b, b < S → b ≠ a → 0 ≤ f b → ∃ c, c < S ∧ EDG T sc sm S b c ∧ 0 ≤ f c ∧ f c < f b) :
    ∀ (v F x k : Nat) (s : Sg), x < S → sm 94 x = 2 → x ≠ a → f x = (v : Int) → k + v ≤ S + 1 → s 84 72 = (k : Int) → s 133 = f → AGr sm s → CAT T sm N (s 135) → 0 ≤ s 84 8 → ∃ s' : Sg, j_214_141 k68 (F + v + 2) (a : Int) (x : Int) 1 s = k68 ((a + 1 : Nat) : Int) s' ∧ AGr sm s' ∧ 0 ≤ s' 84 8 ∧ RM s' := by
  have S8 := h.2.2.2.2.2.2.2.2.2.2.2.1
  have z8 := h.1.1
  intro v
  induction v using Nat.strongRecOn with
  | ind v ih =>
    intro F x k s xS x2 xa fx kv h72 hf ha hc h8
    obtain ⟨c0, c1, c2, c3, c4⟩ := fw x xS xa (by omega)
    obtain ⟨hd, p0, pc, n0, b1, b2, b3, -⟩ := h.2.2.2.1.1 x xS
    have ha2 : AGr sm (ax_u2 (ax_u2 s 134 k (s 89 hd)) 84 72 ((k + 1 : Nat) : Int)) := ⟨fun c u y => by rw [u2_row _ _ _ u, u2_row _ _ _ (by omega)]; exact ha.1 c u y, fun j u y => by rw [u2_col _ _ _ y, u2_row _ _ _ (by decide)]; exact ha.2 j u y⟩
    have hf2 : (ax_u2 (ax_u2 s 134 k (s 89 hd)) 84 72 ((k + 1 : Nat) : Int)) 133 = f := by rw [u2_row _ _ _ (by decide), u2_row _ _ _ (by decide)]; exact hf
    have hc2 : CAT T sm N ((ax_u2 (ax_u2 s 134 k (s 89 hd)) 84 72 ((k + 1 : Nat) : Int)) 135) := by rw [u2_row _ _ _ (by decide), u2_row _ _ _ (by decide)]; exact hc
    have h82 : 0 ≤ (ax_u2 (ax_u2 s 134 k (s 89 hd)) 84 72 ((k + 1 : Nat) : Int)) 84 8 := by rw [u2_col _ _ _ (by decide), u2_row _ _ _ (by decide)]; exact h8
    have h72' : (ax_u2 (ax_u2 s 134 k (s 89 hd)) 84 72 ((k + 1 : Nat) : Int)) 84 72 = ((k + 1 : Nat) : Int) := u2_same _ _ _ _
    obtain ⟨r, e1, e2⟩ := m245 h g n6 n7 h11 ha2 hc2 xS x2
    rw [hf2] at e2
    rw [show F + v + 2 = (F + v + 1) + 1 by omega, j_214_141, if_neg (by decide), gd_pos (by omega), Int.toNat_natCast, ha.1 95 (by decide) (by decide), b2, gd_pos (by omega), h72, gd_pos (by omega), Int.toNat_natCast k, Int.toNat_natCast hd, w32_nat (by omega), e1, Option.bind_some]
    rcases e2 with ⟨_, y⟩ | ⟨b, y1, y2, y3, y4⟩
    · have := y c0 c2
      omega
    · have lt : f b < f x := by
        have := y4 c0 c2 c3
        omega
      by_cases e : b = a
      · rw [if_pos (by omega), show F + v + 1 = (F + v) + 1 by omega, j_214_141, if_pos rfl]
        unfold j_214_195
        rw [w32_nat (by omega)]
        exact ⟨_, rfl, ha2, h82, by unfold RM; rw [h72']; omega⟩
      · rw [if_neg (by omega), y1]
        have b94 : sm 94 b = 2 := by
          obtain ⟨_, _, hd', st, ee, q, hl, k1, k2, k3, k4⟩ := y2
          obtain ⟨hd2, st2, ee2, hl2, ca, -⟩ := h.hlp g n6 n7 xS x2
          have eh : hd2 = hd' := by have := hl.1; have := hl2.1; omega
          subst eh
          have ee' : ee2 = ee := hl2.2.2.2.2.2.2.1.uniq hl.2.2.2.2.2.2.1
          subst ee'
          obtain ⟨b', m, _, u1, u2, -⟩ := ca q k1 k2 k3
          rw [show b = b' by omega]; exact u2
        obtain ⟨vb, hvb⟩ : ∃ vb : Nat, f b = (vb : Int) := ⟨(f b).toNat, by omega⟩
        obtain ⟨s', z1, z2⟩ := ih vb (by omega) (F + (v - vb) - 1) b (k + 1) _ y2.2.1 b94 e hvb (by omega) h72' hf2 ha2 hc2 h82
        rw [show F + (v - vb) - 1 + vb + 2 = F + v + 1 by omega] at z1
        exact ⟨s', z1, z2⟩
/-- rings -/
theorem m214 (h : CKX T sc sm n' t S P A N K C w) (g : GOOD T sc sm S A N w) (n6 : ¬ BD6 T sm S A N) (n7 : ¬ BD7 T sm S A N) (h11 : sm 84 11 = (T.z : Int)) (h8 : sm 84 8 = -1) (h6 : sm 84 6 = 0) (h103 : ∀ i, i < S → sm 94 i = 2 → 1 ≤ sm 103 i ∧ sm 103 i ≤ 8192) : ∃ s' : Sg, f_214 sm = some s' ∧ (∀ c, c ≠ 84 → c < 133 ∨ 135 < c → s' c = sm c) ∧ (∀ j, j ≠ 6 → j ≠ 7 → j ≠ 8 → j ≠ 72 → s' 84 j = sm 84 j) ∧ s' 84 8 = -1 ∧ ((∃ k, k < S ∧ CYC (EDG T sc sm S) k) → s' 84 6 = 8) ∧ (¬ (∃ k, k < S ∧ CYC (EDG T sc sm S) k) → s' 84 6 = 0) ∧ RM s' := by
  have S8 := h.2.2.2.2.2.2.2.2.2.2.2.1
  have N8 := h.2.2.2.2.2.2.2.2.2.2.2.2.2.2
  have P8 := h.2.2.2.2.2.2.2.2.2.2.2.2.1
  have hN := h.2.2.2.2.1
  have h19 := h.2.2.2.2.2.1
  have clx := h.2.2.2.1.2.2.2.2.2.2.2.2.1
  have z8 := h.1.1
  -- the end
  have fin : ∀ s, AGr sm s → (0 ≤ s 84 8 ↔ ∃ k, k < S ∧ CYC (EDG T sc sm S) k) → RM s → ∃ s' : Sg, j_214_201 s = some s' ∧ (∀ c, c ≠ 84 → c < 133 ∨ 135 < c → s' c = sm c) ∧ (∀ j, j ≠ 6 → j ≠ 7 → j ≠ 8 → j ≠ 72 → s' 84 j = sm 84 j) ∧ s' 84 8 = -1 ∧ ((∃ k, k < S ∧ CYC (EDG T sc sm S) k) → s' 84 6 = 8) ∧ (¬ (∃ k, k < S ∧ CYC (EDG T sc sm S) k) → s' 84 6 = 0) ∧ RM s' := by
    intro s ha hi hr
    obtain ⟨s', e1, e2, e3, e4, e5, e6⟩ := m237w (s := s) (k := 8) (by rw [ha.2 6 (by decide) (by decide)]; exact h6)
    refine ⟨s', by unfold j_214_201; rw [e1, Option.bind_some], fun c u v => by rw [e2 c u]; exact ha.1 c u v, fun j u1 u2 u3 u4 => by rw [e3 j u1 u2 u3]; exact ha.2 j u3 u4, e4, fun u => e5 (hi.mpr u), fun u => e6 (fun y => u (hi.mp y)), by unfold RM; rw [e3 72 (by decide) (by decide) (by decide)]; exact hr⟩
  -- the search
  have go : ∀ (r l F : Nat) (s : Sg), l + r = S → AGr sm s → CAT T sm N (s 135) → s 84 8 = -1 → s 84 72 = 0 → (∀ j, j < l → ¬ CYC (EDG T sc sm S) j) → ∃ s' : Sg, j_214_68 (F + r + 2) (l : Int) s = some s' ∧ (∀ c, c ≠ 84 → c < 133 ∨ 135 < c → s' c = sm c) ∧ (∀ j, j ≠ 6 → j ≠ 7 → j ≠ 8 → j ≠ 72 → s' 84 j = sm 84 j) ∧ s' 84 8 = -1 ∧ ((∃ k, k < S ∧ CYC (EDG T sc sm S) k) → s' 84 6 = 8) ∧ (¬ (∃ k, k < S ∧ CYC (EDG T sc sm S) k) → s' 84 6 = 0) ∧ RM s' := by
    intro r
    induction r with
    | zero =>
      intro l F s hl ha hc e8 e72 no
      rw [show F + 0 + 2 = (F + 1) + 1 by omega, j_214_68, ha.2 19 (by decide) (by decide), h19, if_pos (by omega)]
      exact fin s ha ⟨fun y => absurd y (by omega), fun ⟨k, k1, k2⟩ => absurd k2 (no k (by omega))⟩ (by unfold RM; rw [e72]; decide)
    | succ r ih =>
      intro l F s hl ha hc e8 e72 no
      have k195 : ∀ z : Sg, j_214_195 (j_214_68 (F + r + 2)) (l : Int) z = j_214_68 (F + r + 2) ((l + 1 : Nat) : Int) z := fun z => by
        unfold j_214_195
        rw [w32_nat (by omega)]
      have lS : l < S := by omega
      rw [show F + (r + 1) + 2 = (F + r + 2) + 1 by omega, j_214_68, ha.2 19 (by decide) (by decide), h19, if_neg (by omega), e8, if_neg (by decide), gd_pos (by omega), Int.toNat_natCast, ha.1 94 (by decide) (by decide)]
      by_cases c2 : sm 94 l = 2
      · obtain ⟨hd, p0, pc, n0, b1, b2, b3, b4, b5, b6, b7, b8, -⟩ := h.2.2.2.1.1 l lS
        have q := h103 l lS c2
        rw [if_neg (fun e => e c2), gd_pos (by omega), gd_pos (by omega), ha.1 99 (by decide) (by decide), ha.1 103 (by decide) (by decide), b7, w32_id (z := (pc : Int) + sm 103 l) (by omega) (by omega), if_neg (by omega)]
        obtain ⟨s1, e1, a1, f1, w1, w2, w3, w4⟩ := m244 h g n6 n7 ha lS
        have hc1 : CAT T sm N (s1 135) := by rw [f1 135 (by decide)]; exact hc
        have e81 : s1 84 8 = -1 := by rw [f1 84 (by decide)]; exact e8
        have e721 : s1 84 72 = 0 := by rw [f1 84 (by decide)]; exact e72
        obtain ⟨r', e2, e3⟩ := m245 h g n6 n7 h11 a1 hc1 lS c2
        rw [e1, Option.bind_some, e2, Option.bind_some]
        rcases e3 with ⟨y1, y2⟩ | ⟨b, y1, y2, y3, y4⟩
        · rw [if_pos (by omega), k195]
          refine ih (l + 1) F s1 (by omega) a1 hc1 e81 e721 (fun j hj => ?_)
          by_cases e : j = l
          · rw [e]
            intro ⟨b, u1, u2⟩
            have := (w1 b u1.2.1).mpr u2
            have := y2 b u1
            omega
          · exact no j (by omega)
        · have cyc : ∃ k, k < S ∧ CYC (EDG T sc sm S) k := ⟨l, lS, b, y2, (w1 b y2.2.1).mp y3⟩
          rw [if_neg (by omega), gd_pos (by omega), a1.1 95 (by decide) (by decide), b2, gd_pos (by omega), Option.bind_some, Int.toNat_natCast]
          obtain ⟨i1, j1, _, _, d1, _⟩ := h.2.1.2.2.2 hd b3
          have x0 : 0 ≤ s1 89 hd := by rw [a1.1 89 (by decide) (by decide), d1]; omega
          have m5 := m235 (s := s1) x0
          have ha3 : AGr sm (f_235 (s1 89 hd) s1) := ⟨fun c u v => by rw [m5.1 c u]; exact a1.1 c u v, fun j u v => by rw [m5.2.1 j u]; exact a1.2 j u v⟩
          have h83 : 0 ≤ (f_235 (s1 89 hd) s1) 84 8 := m5.2.2.mpr (Or.inr trivial)
          have h723 : (f_235 (s1 89 hd) s1) 84 72 = ((0 : Nat) : Int) := by rw [m5.2.1 72 (by decide)]; exact e721
          have hc3 : CAT T sm N ((f_235 (s1 89 hd) s1) 135) := by rw [m5.1 135 (by decide)]; exact hc1
          have hf3 : (f_235 (s1 89 hd) s1) 133 = s1 133 := m5.1 133 (by decide)
          -- what follows, once found
          have aft : ∀ z : Sg, AGr sm z → 0 ≤ z 84 8 → RM z → ∃ s' : Sg, j_214_68 (F + r + 2) ((l + 1 : Nat) : Int) z = some s' ∧ (∀ c, c ≠ 84 → c < 133 ∨ 135 < c → s' c = sm c) ∧ (∀ j, j ≠ 6 → j ≠ 7 → j ≠ 8 → j ≠ 72 → s' 84 j = sm 84 j) ∧ s' 84 8 = -1 ∧ ((∃ k, k < S ∧ CYC (EDG T sc sm S) k) → s' 84 6 = 8) ∧ (¬ (∃ k, k < S ∧ CYC (EDG T sc sm S) k) → s' 84 6 = 0) ∧ RM s' := fun z az z8' rz => by
            rw [show F + r + 2 = (F + r + 1) + 1 by omega, j_214_68]
            obtain ⟨s', u1, u2⟩ := fin z az ⟨fun _ => cyc, fun _ => z8'⟩ rz
            by_cases c : z 84 19 ≤ ((l + 1 : Nat) : Int)
            · rw [if_pos c]
              exact ⟨s', u1, u2⟩
            · rw [if_neg c, if_pos z8']
              exact ⟨s', u1, u2⟩
          generalize f_235 (s1 89 hd) s1 = s3 at ha3 h83 h723 hc3 hf3
          -- the first step
          have ha2 : AGr sm (ax_u2 (ax_u2 s3 134 0 (s3 89 hd)) 84 72 ((0 + 1 : Nat) : Int)) := ⟨fun c u y => by rw [u2_row _ _ _ u, u2_row _ _ _ (by omega)]; exact ha3.1 c u y, fun j u y => by rw [u2_col _ _ _ y, u2_row _ _ _ (by decide)]; exact ha3.2 j u y⟩
          have hf2 : (ax_u2 (ax_u2 s3 134 0 (s3 89 hd)) 84 72 ((0 + 1 : Nat) : Int)) 133 = s1 133 := by rw [u2_row _ _ _ (by decide), u2_row _ _ _ (by decide)]; exact hf3
          have hc2 : CAT T sm N ((ax_u2 (ax_u2 s3 134 0 (s3 89 hd)) 84 72 ((0 + 1 : Nat) : Int)) 135) := by rw [u2_row _ _ _ (by decide), u2_row _ _ _ (by decide)]; exact hc3
          have h82 : 0 ≤ (ax_u2 (ax_u2 s3 134 0 (s3 89 hd)) 84 72 ((0 + 1 : Nat) : Int)) 84 8 := by rw [u2_col _ _ _ (by decide), u2_row _ _ _ (by decide)]; exact h83
          have h72' : (ax_u2 (ax_u2 s3 134 0 (s3 89 hd)) 84 72 ((0 + 1 : Nat) : Int)) 84 72 = ((0 + 1 : Nat) : Int) := u2_same _ _ _ _
          obtain ⟨r2, e5, e6⟩ := m245 h g n6 n7 h11 ha2 hc2 lS c2
          rw [hf2] at e6
          obtain ⟨H, hH⟩ := FU_split (k := S + 3) (by omega)
          rw [show FU = (H + S + 2) + 1 by omega, j_214_141, if_neg (by decide), gd_pos (by omega), Int.toNat_natCast, ha3.1 95 (by decide) (by decide), b2, gd_pos (by omega), h723, gd_pos (by decide), Int.toNat_natCast 0, Int.toNat_natCast hd, w32_nat (by decide), e5, Option.bind_some]
          rcases e6 with ⟨_, u⟩ | ⟨b', v1, v2, v3, v4⟩
          · have := u b y2
            omega
          · by_cases e : b' = l
            · rw [if_pos (by omega), show H + S + 2 = (H + S + 1) + 1 by omega, j_214_141, if_pos rfl, k195]
              exact aft _ ha2 h82 (by unfold RM; rw [h72']; decide)
            · rw [if_neg (by omega), v1]
              have b94 : sm 94 b' = 2 := by
                obtain ⟨_, _, hd', st, ee, q, hl, k1, k2, k3, k4⟩ := v2
                obtain ⟨hd2, st2, ee2, hl2, ca, -⟩ := h.hlp g n6 n7 lS c2
                have eh : hd2 = hd' := by have := hl.1; have := hl2.1; omega
                subst eh
                have ee' : ee2 = ee := hl2.2.2.2.2.2.2.1.uniq hl.2.2.2.2.2.2.1
                subst ee'
                obtain ⟨b'', m, _, u1, u2, -⟩ := ca q k1 k2 k3
                rw [show b' = b'' by omega]; exact u2
              have vS := w3 b' v2.2.1
              obtain ⟨vb, hvb⟩ : ∃ vb : Nat, s1 133 b' = (vb : Int) := ⟨(s1 133 b').toNat, by omega⟩
              obtain ⟨s', z1, z2, z3, z4⟩ := m214t h g n6 n7 h11 lS c2 (j_214_68 (F + r + 2)) w3 w4 vb (H + (S - vb)) b' (0 + 1) _ v2.2.1 b94 e hvb (by omega) h72' hf2 ha2 hc2 h82
              rw [show H + (S - vb) + vb + 2 = H + S + 2 by omega] at z1
              rw [z1]
              exact aft s' z2 z3 z4
      · rw [if_pos c2, k195]
        refine ih (l + 1) F s (by omega) ha hc e8 e72 (fun j hj => ?_)
        by_cases e : j = l
        · rw [e]
          intro ⟨b, ⟨_, _, _, _, _, _, hl, _⟩, _⟩
          exact c2 hl.2.2.1
        · exact no j (by omega)
  -- the calls by lexemes
  have cal : ∀ (r m F : Nat) (s : Sg), m + r = N → AGr sm s → s 84 8 = -1 → s 84 72 = 0 → (∀ k, k < T.z → (s 135 k < 0 ∧ ∀ n, n < m → sm 116 n = 3 → sm 118 n ≠ (k : Int)) ∨ (∃ n : Nat, s 135 k = (n : Int) ∧ n < m ∧ sm 116 n = 3 ∧ sm 118 n = (k : Int))) → ∃ s2 : Sg, j_214_30 (F + r + 1) (m : Int) s = j_214_66 s2 ∧ AGr sm s2 ∧ s2 84 8 = -1 ∧ s2 84 72 = 0 ∧ CAT T sm N (s2 135) := by
    intro r
    induction r with
    | zero =>
      intro m F s hm ha e8 e72 ca
      rw [show m = N by omega] at ca ⊢
      exact ⟨s, by rw [j_214_30, ha.2 47 (by decide) (by decide), hN.2.1, if_pos (by omega)], ha, e8, e72, ca⟩
    | succ r ih =>
      intro m F s hm ha e8 e72 ca
      have k60 : ∀ z : Sg, j_214_60 (j_214_30 (F + r + 1)) (m : Int) z = j_214_30 (F + r + 1) ((m + 1 : Nat) : Int) z := fun z => by
        unfold j_214_60
        rw [w32_nat (by omega)]
      rw [show F + (r + 1) + 1 = (F + r + 1) + 1 by omega, j_214_30, ha.2 47 (by decide) (by decide), hN.2.1, if_neg (by omega), gd_pos (by omega), Int.toNat_natCast, ha.1 116 (by decide) (by decide)]
      by_cases c3 : sm 116 m = 3
      · obtain ⟨x, y, c, x1, x2, -⟩ := call_at h g n6 n7 ha (n := m) (by omega) c3
        rw [if_neg (fun e => e c3), gd_pos (by omega), ha.1 118 (by decide) (by decide), x1, gd_pos (by omega), k60, Int.toNat_natCast x]
        refine ih (m + 1) F _ (by omega) ⟨fun c u v => by rw [u2_row _ _ _ (by omega)]; exact ha.1 c u v, fun j u v => by rw [u2_row _ _ _ (by decide)]; exact ha.2 j u v⟩ (by rw [u2_row _ _ _ (by decide)]; exact e8) (by rw [u2_row _ _ _ (by decide)]; exact e72) (fun k hk => ?_)
        by_cases e : k = x
        · subst e
          exact Or.inr ⟨m, u2_same _ _ _ _, by omega, c3, x1⟩
        · rw [u2_col _ _ _ e]
          rcases ca k hk with ⟨u1, u2⟩ | ⟨n, u1, u2, u3, u4⟩
          · refine Or.inl ⟨u1, fun n hn n3 => ?_⟩
            by_cases en : n = m
            · rw [en, x1]; omega
            · exact u2 n (by omega) n3
          · exact Or.inr ⟨n, u1, by omega, u3, u4⟩
      · rw [if_pos c3, k60]
        refine ih (m + 1) F s (by omega) ha e8 e72 (fun k hk => ?_)
        rcases ca k hk with ⟨u1, u2⟩ | ⟨n, u1, u2, u3, u4⟩
        · refine Or.inl ⟨u1, fun n hn n3 => ?_⟩
          by_cases en : n = m
          · rw [en] at n3; exact absurd n3 c3
          · exact u2 n (by omega) n3
        · exact Or.inr ⟨n, u1, by omega, u3, u4⟩
  -- none at first
  have ini : ∀ (r l F : Nat) (s : Sg), l + r = T.z + 1 → AGr sm s → s 84 8 = -1 → s 84 72 = 0 → (∀ k, k < l → s 135 k = -1) → ∃ s1 : Sg, j_214_7 (F + r + 1) (l : Int) s = j_214_28 s1 ∧ AGr sm s1 ∧ s1 84 8 = -1 ∧ s1 84 72 = 0 ∧ (∀ k, k < T.z → s1 135 k = -1) := by
    intro r
    induction r with
    | zero =>
      intro l F s hl ha e8 e72 v
      exact ⟨s, by rw [j_214_7, ha.2 11 (by decide) (by decide), h11, if_pos (by omega)], ha, e8, e72, fun k hk => v k (by omega)⟩
    | succ r ih =>
      intro l F s hl ha e8 e72 v
      rw [show F + (r + 1) + 1 = (F + r + 1) + 1 by omega, j_214_7, ha.2 11 (by decide) (by decide), h11, if_neg (by omega), gd_pos (by omega), w32_nat (by omega), Int.toNat_natCast]
      refine ih (l + 1) F _ (by omega) ⟨fun c u v => by rw [u2_row _ _ _ (by omega)]; exact ha.1 c u v, fun j u v => by rw [u2_row _ _ _ (by decide)]; exact ha.2 j u v⟩ (by rw [u2_row _ _ _ (by decide)]; exact e8) (by rw [u2_row _ _ _ (by decide)]; exact e72) (fun k hk => ?_)
      by_cases e : k = l
      · rw [e, u2_same]
      · rw [u2_col _ _ _ e]; exact v k (by omega)
  obtain ⟨F1, hF1⟩ := FU_split (k := T.z + 2) (by omega)
  obtain ⟨s1, e1, a1, p1, p2, p3⟩ := ini (T.z + 1) 0 F1 (ax_u2 sm 84 72 0) (by omega) ⟨fun c u _ => u2_row _ _ _ u, fun j _ v => u2_col _ _ _ v⟩ (by rw [u2_col _ _ _ (by decide)]; exact h8) (u2_same _ _ _ _) (fun k hk => absurd hk (by omega))
  obtain ⟨F2, hF2⟩ := FU_split (k := N + 1) (by omega)
  obtain ⟨s2, e2, a2, q1, q2, q3⟩ := cal N 0 F2 s1 (by omega) a1 p1 p2 (fun k hk => Or.inl ⟨by rw [p3 k hk]; decide, fun n hn => absurd hn (by omega)⟩)
  obtain ⟨F3, hF3⟩ := FU_split (k := S + 2) (by omega)
  obtain ⟨s', e3, e4⟩ := go S 0 F3 s2 (by omega) a2 q3 q1 q2 (fun j hj => absurd hj (by omega))
  rw [show F1 + (T.z + 1) + 1 = FU by omega] at e1
  rw [show F2 + N + 1 = FU by omega] at e2
  rw [show F3 + S + 2 = FU by omega] at e3
  refine ⟨s', ?_, e4⟩
  unfold f_214
  have e1' : j_214_7 FU 0 (ax_u2 sm 84 72 0) = _ := e1
  have e2' : j_214_30 FU 0 s1 = _ := e2
  have e3' : j_214_68 FU 0 s2 = _ := e3
  rw [e1']
  unfold j_214_28
  rw [e2']
  unfold j_214_66
  exact e3'
end RSE
/-! THE CHECKS: what they leave alone. -/
/-- rows that no check touches -/
def MVr (sc sm sc' sm' : Sg) : Prop := (∀ c, c ≠ 30 → (c = 1 ∨ 31 ≤ c ∧ c < 74) → sc' c = sc c) ∧ (CN sc' ↔ CN sc) ∧ (∀ c, c ≠ 84 → c ≠ 122 → (c = 86 ∨ 88 ≤ c ∧ c < 133) → sm' c = sm c) ∧ (∀ j, j ≠ 6 → j ≠ 7 → j ≠ 8 → (j ≠ 72 ∧ j ≠ 0 ∧ j ≠ 1 ∧ j ≠ 5 ∧ j ≠ 9) → sm' 84 j = sm 84 j)
section MV
variable {T : TT} {sc sm sc' sm' : Sg} {n' S P A N K C w : Nat} {t : Nat → Int}
theorem bsm_mv (h : MVr sc sm sc' sm') : bsm T sc' sm' = bsm T sc sm := by
  funext p0 j
  induction j with
  | zero => rfl
  | succ j ih => simp only [bsm]; rw [ih, h.1 43 (by decide) (by decide), h.2.2.1 104 (by decide) (by decide) (by decide), h.2.2.1 105 (by decide) (by decide) (by decide)]
theorem rin_mv (h : MVr sc sm sc' sm') : rin T sm' = rin T sm := by
  funext id k
  induction k with
  | zero => rfl
  | succ k ih =>
    funext r
    simp only [rin]
    rw [ih, h.2.2.1 107 (by decide) (by decide) (by decide), h.2.2.1 113 (by decide) (by decide) (by decide)]
theorem OWN_mv (h : MVr sc sm sc' sm') : OWN T sm' = OWN T sm := by
  have o1 := rin_mv (T := T) h
  obtain ⟨r, cn, m, mj⟩ := h
  funext s q id
  unfold OWN PIN
  rw [o1, m 98 (by decide) (by decide) (by decide), m 99 (by decide) (by decide) (by decide), m 104 (by decide) (by decide) (by decide)]
theorem OWW_mv (h : MVr sc sm sc' sm') : OWW T sm' = OWW T sm := by
  have o1 := rin_mv (T := T) h
  obtain ⟨r, cn, m, mj⟩ := h
  funext s q id v
  unfold OWW
  rw [o1, m 98 (by decide) (by decide) (by decide), m 99 (by decide) (by decide) (by decide), m 104 (by decide) (by decide) (by decide), m 105 (by decide) (by decide) (by decide)]
theorem SRL_mv (h : MVr sc sm sc' sm') : SRL T sc' sm' = SRL T sc sm := by
  have o1 := bsm_mv (T := T) h
  obtain ⟨r, cn, m, mj⟩ := h
  funext P N i
  unfold SRL SKW SKC DEFX CSG INSX
  rw [o1, r 56 (by decide) (by decide), r 55 (by decide) (by decide), r 60 (by decide) (by decide), r 58 (by decide) (by decide), r 57 (by decide) (by decide), m 95 (by decide) (by decide) (by decide), m 94 (by decide) (by decide) (by decide), m 98 (by decide) (by decide) (by decide), m 99 (by decide) (by decide) (by decide), m 97 (by decide) (by decide) (by decide), m 96 (by decide) (by decide) (by decide), m 100 (by decide) (by decide) (by decide), m 101 (by decide) (by decide) (by decide), m 123 (by decide) (by decide) (by decide), m 116 (by decide) (by decide) (by decide), m 118 (by decide) (by decide) (by decide), m 104 (by decide) (by decide) (by decide), m 105 (by decide) (by decide) (by decide)]
theorem ARL_mv (h : MVr sc sm sc' sm') : ARL T sm' = ARL T sm := by
  obtain ⟨r, cn, m, mj⟩ := h
  funext S N a
  unfold ARL
  rw [m 112 (by decide) (by decide) (by decide), m 94 (by decide) (by decide) (by decide), m 113 (by decide) (by decide) (by decide), m 106 (by decide) (by decide) (by decide), m 107 (by decide) (by decide) (by decide), m 109 (by decide) (by decide) (by decide), m 110 (by decide) (by decide) (by decide), m 111 (by decide) (by decide) (by decide), m 108 (by decide) (by decide) (by decide)]
theorem CLA_mv (h : MVr sc sm sc' sm') : CLA sc' sm' = CLA sc sm := by
  obtain ⟨r, cn, m, mj⟩ := h
  funext S A C
  unfold CLA CLc
  rw [propext cn, r 62 (by decide) (by decide), r 63 (by decide) (by decide), r 64 (by decide) (by decide), r 65 (by decide) (by decide), r 57 (by decide) (by decide), m 106 (by decide) (by decide) (by decide), m 107 (by decide) (by decide) (by decide), m 109 (by decide) (by decide) (by decide), m 110 (by decide) (by decide) (by decide), m 111 (by decide) (by decide) (by decide), m 94 (by decide) (by decide) (by decide), m 101 (by decide) (by decide) (by decide), m 100 (by decide) (by decide) (by decide)]
theorem NOW_mv (h : MVr sc sm sc' sm') : NOW sc' sm' = NOW sc sm := by
  obtain ⟨r, cn, m, mj⟩ := h
  funext S A n
  unfold NOW
  rw [r 60 (by decide) (by decide), m 123 (by decide) (by decide) (by decide), m 124 (by decide) (by decide) (by decide), m 106 (by decide) (by decide) (by decide)]
theorem NEV_mv (h : MVr sc sm sc' sm') : NEV T sc' sm' = NEV T sc sm := by
  have o1 := OWN_mv (T := T) h
  have o2 := OWW_mv (T := T) h
  obtain ⟨r, cn, m, mj⟩ := h
  funext n
  unfold NEV
  rw [o1, o2, r 48 (by decide) (by decide), m 116 (by decide) (by decide) (by decide), m 123 (by decide) (by decide) (by decide), m 124 (by decide) (by decide) (by decide), m 118 (by decide) (by decide) (by decide)]
theorem OWR_mv (h : MVr sc sm sc' sm') : OWR T sc' sm' = OWR T sc sm := by
  obtain ⟨r, cn, m, mj⟩ := h
  funext S
  unfold OWR
  rw [r 36 (by decide) (by decide), m 95 (by decide) (by decide) (by decide)]
theorem BIN_mv (h : MVr sc sm sc' sm') : BIN sc' = BIN sc := by
  obtain ⟨r, cn, m, mj⟩ := h
  funext k
  unfold BIN
  rw [r 43 (by decide) (by decide), r 40 (by decide) (by decide), r 42 (by decide) (by decide)]
theorem GST_mv (h : MVr sc sm sc' sm') : GST T sc' sm' = GST T sc sm := by
  have o1 := BIN_mv h
  obtain ⟨r, cn, m, mj⟩ := h
  funext i
  unfold GST GPT
  rw [o1, m 94 (by decide) (by decide) (by decide), m 97 (by decide) (by decide) (by decide), m 96 (by decide) (by decide) (by decide), m 95 (by decide) (by decide) (by decide), m 98 (by decide) (by decide) (by decide), m 99 (by decide) (by decide) (by decide), m 104 (by decide) (by decide) (by decide), m 105 (by decide) (by decide) (by decide)]
theorem GAC_mv (h : MVr sc sm sc' sm') : GAC T sm' = GAC T sm := by
  have o1 := OWN_mv (T := T) h
  obtain ⟨r, cn, m, mj⟩ := h
  funext a
  unfold GAC
  rw [o1, m 106 (by decide) (by decide) (by decide), m 108 (by decide) (by decide) (by decide), m 112 (by decide) (by decide) (by decide), m 113 (by decide) (by decide) (by decide), m 107 (by decide) (by decide) (by decide)]
theorem GNO_mv (h : MVr sc sm sc' sm') : GNO T sm' = GNO T sm := by
  have o1 := OWN_mv (T := T) h
  obtain ⟨r, cn, m, mj⟩ := h
  funext n
  unfold GNO
  rw [o1, m 116 (by decide) (by decide) (by decide), m 119 (by decide) (by decide) (by decide), m 118 (by decide) (by decide) (by decide), m 123 (by decide) (by decide) (by decide), m 124 (by decide) (by decide) (by decide)]
theorem GOOD_mv (h : MVr sc sm sc' sm') : GOOD T sc' sm' = GOOD T sc sm := by
  have o1 := GST_mv (T := T) h
  have o2 := GAC_mv (T := T) h
  have o3 := GNO_mv (T := T) h
  obtain ⟨r, cn, m, mj⟩ := h
  funext S A N w
  unfold GOOD
  rw [o1, o2, o3]
theorem PHX_mv (h : MVr sc sm sc' sm') : PHX sc' sm' = PHX sc sm := by
  obtain ⟨r, cn, m, mj⟩ := h
  funext S P N
  unfold PHX
  rw [r 60 (by decide) (by decide), m 98 (by decide) (by decide) (by decide), m 99 (by decide) (by decide) (by decide), m 94 (by decide) (by decide) (by decide), m 100 (by decide) (by decide) (by decide)]
theorem CLX_mv (h : MVr sc sm sc' sm') : CLX sm' = CLX sm := by
  obtain ⟨r, cn, m, mj⟩ := h
  funext N
  unfold CLX
  rw [m 116 (by decide) (by decide) (by decide), m 118 (by decide) (by decide) (by decide), mj 18 (by decide) (by decide) (by decide) (by decide)]
theorem LOR_mv (h : MVr sc sm sc' sm') : LOR T sm' = LOR T sm := by
  obtain ⟨r, cn, m, mj⟩ := h
  funext S
  unfold LOR
  rw [m 94 (by decide) (by decide) (by decide), m 95 (by decide) (by decide) (by decide), mj 18 (by decide) (by decide) (by decide) (by decide)]
theorem DAT_mv (h : MVr sc sm sc' sm') : DAT T sc' sm' = DAT T sc sm := by
  have o1 := SRL_mv (T := T) h
  have o2 := ARL_mv (T := T) h
  have o3 := CLA_mv h
  have o4 := NOW_mv h
  have o5 := NEV_mv (T := T) h
  have o6 := OWR_mv (T := T) h
  have o7 := GOOD_mv (T := T) h
  have o8 := PHX_mv h
  have o9 := CLX_mv h
  have o10 := LOR_mv (T := T) h
  obtain ⟨r, cn, m, mj⟩ := h
  funext S P A N C w
  unfold DAT
  rw [o1, o2, o3, o4, o5, o6, o7, o8, o9, o10, propext cn]
theorem NV_mv (h : MVr sc sm sc' sm') : NV T sc' sm' = NV T sc sm := by
  obtain ⟨r, cn, m, mj⟩ := h
  funext n
  unfold NV
  rw [r 49 (by decide) (by decide), r 48 (by decide) (by decide), m 116 (by decide) (by decide) (by decide), m 118 (by decide) (by decide) (by decide), m 119 (by decide) (by decide) (by decide), m 117 (by decide) (by decide) (by decide)]
theorem NR_mv (h : MVr sc sm sc' sm') : NR T sc' sm' = NR T sc sm := by
  have o1 := NV_mv (T := T) h
  obtain ⟨r, cn, m, mj⟩ := h
  funext K n
  unfold NR
  rw [o1, r 53 (by decide) (by decide), r 47 (by decide) (by decide), r 50 (by decide) (by decide), r 51 (by decide) (by decide), r 52 (by decide) (by decide), m 120 (by decide) (by decide) (by decide), m 121 (by decide) (by decide) (by decide), m 116 (by decide) (by decide) (by decide), m 117 (by decide) (by decide) (by decide), m 125 (by decide) (by decide) (by decide)]
theorem ND_mv (h : MVr sc sm sc' sm') : ND T sc' sm' = ND T sc sm := by
  have o1 := NR_mv (T := T) h
  obtain ⟨r, cn, m, mj⟩ := h
  funext N K
  unfold ND
  rw [o1, r 46 (by decide) (by decide), mj 47 (by decide) (by decide) (by decide) (by decide), mj 57 (by decide) (by decide) (by decide) (by decide)]
theorem TX_mv (h : MVr sc sm sc' sm') : TX T sc' sm' = TX T sc sm := by
  obtain ⟨r, cn, m, mj⟩ := h
  funext n t
  unfold TX CT MT NI LXn
  rw [r 39 (by decide) (by decide), r 40 (by decide) (by decide), r 31 (by decide) (by decide), r 32 (by decide) (by decide), r 33 (by decide) (by decide), r 34 (by decide) (by decide), r 35 (by decide) (by decide), r 43 (by decide) (by decide), mj 3 (by decide) (by decide) (by decide) (by decide), m 86 (by decide) (by decide) (by decide), m 89 (by decide) (by decide) (by decide), m 90 (by decide) (by decide) (by decide)]
theorem CC_mv (h : MVr sc sm sc' sm') : CC T sc' = CC T sc := by
  obtain ⟨r, cn, m, mj⟩ := h
  unfold CC
  rw [r 39 (by decide) (by decide), r 41 (by decide) (by decide), r 42 (by decide) (by decide), r 44 (by decide) (by decide), r 31 (by decide) (by decide), r 1 (by decide) (by decide)]
theorem CKX_mv (h : MVr sc sm sc' sm') : CKX T sc' sm' = CKX T sc sm := by
  have o1 := TX_mv (T := T) h
  have o2 := CC_mv (T := T) h
  have o3 := DAT_mv (T := T) h
  have o4 := ND_mv (T := T) h
  obtain ⟨r, cn, m, mj⟩ := h
  funext n t S P A N K C w
  unfold CKX
  rw [o1, o2, o3, o4, mj 19 (by decide) (by decide) (by decide) (by decide), mj 31 (by decide) (by decide) (by decide) (by decide), mj 34 (by decide) (by decide) (by decide) (by decide), mj 30 (by decide) (by decide) (by decide) (by decide)]
theorem SO1_mv (h : MVr sc sm sc' sm') : SO1 T sm' = SO1 T sm := by
  obtain ⟨r, cn, m, mj⟩ := h
  funext S v i
  unfold SO1
  rw [m 95 (by decide) (by decide) (by decide)]
theorem FIT_mv (h : MVr sc sm sc' sm') : FIT sm' = FIT sm := by
  obtain ⟨r, cn, m, mj⟩ := h
  funext k i c
  unfold FIT
  rw [m 94 (by decide) (by decide) (by decide), m 96 (by decide) (by decide) (by decide), m 99 (by decide) (by decide) (by decide)]
theorem BD6_mv (h : MVr sc sm sc' sm') : BD6 T sm' = BD6 T sm := by
  have o1 := OWN_mv (T := T) h
  obtain ⟨r, cn, m, mj⟩ := h
  funext S A N
  unfold BD6 bd6n bd6a NOS
  rw [o1, m 116 (by decide) (by decide) (by decide), m 123 (by decide) (by decide) (by decide), m 124 (by decide) (by decide) (by decide), m 118 (by decide) (by decide) (by decide), m 95 (by decide) (by decide) (by decide), m 106 (by decide) (by decide) (by decide), m 112 (by decide) (by decide) (by decide), m 113 (by decide) (by decide) (by decide), m 107 (by decide) (by decide) (by decide)]
theorem BD7_mv (h : MVr sc sm sc' sm') : BD7 T sm' = BD7 T sm := by
  have o1 := OWN_mv (T := T) h
  have o2 := SO1_mv (T := T) h
  have o3 := FIT_mv h
  obtain ⟨r, cn, m, mj⟩ := h
  funext S A N
  unfold BD7 bd7n bd7a
  rw [o1, o2, o3, m 116 (by decide) (by decide) (by decide), m 123 (by decide) (by decide) (by decide), m 124 (by decide) (by decide) (by decide), m 118 (by decide) (by decide) (by decide), m 120 (by decide) (by decide) (by decide), m 106 (by decide) (by decide) (by decide), m 112 (by decide) (by decide) (by decide), m 113 (by decide) (by decide) (by decide), m 107 (by decide) (by decide) (by decide), m 109 (by decide) (by decide) (by decide)]
theorem bdB_mv (h : MVr sc sm sc' sm') : bdB T sc' sm' = bdB T sc sm := by
  obtain ⟨r, cn, m, mj⟩ := h
  funext w i
  unfold bdB
  rw [m 94 (by decide) (by decide) (by decide), r 57 (by decide) (by decide)]
end MV
/-! THE CHECKS as a whole. -/
section CHK
variable {T : TT} {sc sm s x y : Sg} {n' S P A N K C w : Nat} {t : Nat → Int}
theorem c68f {j : Nat} (h1 : 1 ≤ j) (h2 : j ≤ 10) (h3 : s 30 j ≠ -1) : ∃ r : Int, f_68 s = some r ∧ r ≠ 0 := by
  obtain ⟨r, e, -, -, z, -⟩ := c68 s
  exact ⟨r, e, fun y => h3 (z.mp y j h1 h2)⟩
theorem c68n (h : ∀ j : Nat, 1 ≤ j → j ≤ 10 → s 30 j = -1) : f_68 s = some 0 := by
  obtain ⟨r, e, -, -, z, -⟩ := c68 s
  rw [e, z.mpr h]
theorem c16_58 {j : Nat} (h1 : 1 ≤ j) (h2 : j ≤ 10) (h3 : s 30 j ≠ -1) : j_16_58 s = some s := by
  obtain ⟨r, e, z⟩ := c68f h1 h2 h3
  unfold j_16_58
  rw [e, Option.bind_some, if_pos z]
theorem c16_41 {j : Nat} (h1 : 1 ≤ j) (h2 : j ≤ 10) (h3 : s 30 j ≠ -1) : j_16_41 s = some s := by
  obtain ⟨r, e, z⟩ := c68f h1 h2 h3
  unfold j_16_41
  rw [e, Option.bind_some, if_pos z, c16_58 h1 h2 h3]
theorem c16_24 {j : Nat} (h1 : 1 ≤ j) (h2 : j ≤ 10) (h3 : s 30 j ≠ -1) : j_16_24 s = some s := by
  obtain ⟨r, e, z⟩ := c68f h1 h2 h3
  unfold j_16_24
  rw [e, Option.bind_some, if_pos z, c16_41 h1 h2 h3]
/-- a fault of the reading: nothing is checked -/
theorem c16_0 {j : Nat} (h1 : 1 ≤ j) (h2 : j ≤ 3) (h3 : s 30 j ≠ -1) : f_16 s = some s := by
  obtain ⟨r, e, b0, b1, z, nz⟩ := c68 s
  have r0 : r ≠ 0 := fun y => h3 (z.mp y j h1 (by omega))
  have r3 : r ≤ 3 := by
    apply Decidable.byContradiction
    intro hn
    exact h3 ((nz (by omega)).2 j h1 (by omega))
  unfold f_16
  rw [e, Option.bind_some, if_neg r0, if_pos r3, c16_24 h1 (by omega) h3]
theorem m196f (h : sm 84 6 ≠ 0) : j_196_177 sm = j_196_188 sm ∧ j_196_166 sm = j_196_188 sm ∧ j_196_155 sm = j_196_188 sm ∧ j_196_144 sm = j_196_188 sm ∧ j_196_133 sm = j_196_188 sm ∧ j_196_122 sm = j_196_188 sm ∧ j_196_111 sm = j_196_188 sm := by
  have e1 : j_196_177 sm = j_196_188 sm := by unfold j_196_177; rw [if_pos h]
  have e2 : j_196_166 sm = j_196_188 sm := by unfold j_196_166; rw [if_pos h, e1]
  have e3 : j_196_155 sm = j_196_188 sm := by unfold j_196_155; rw [if_pos h, e2]
  have e4 : j_196_144 sm = j_196_188 sm := by unfold j_196_144; rw [if_pos h, e3]
  have e5 : j_196_133 sm = j_196_188 sm := by unfold j_196_133; rw [if_pos h, e4]
  have e6 : j_196_122 sm = j_196_188 sm := by unfold j_196_122; rw [if_pos h, e5]
  have e7 : j_196_111 sm = j_196_188 sm := by unfold j_196_111; rw [if_pos h, e6]
  exact ⟨e1, e2, e3, e4, e5, e6, e7⟩
/-- what the checks leave, and what they tell -/
def CHO (sc sm x y : Sg) (N : Nat) : Prop := (∀ b, b ≠ 30 → b ≠ 48 → b < 74 ∨ 81 < b → x b = sc b) ∧ (∀ j, j < 4 ∨ 10 < j → x 30 j = sc 30 j) ∧ (∀ b, b ≠ 84 → b ≠ 122 → b < 133 ∨ 135 < b → y b = sm b) ∧ (∀ j, j ≠ 6 → j ≠ 7 → j ≠ 8 → j ≠ 72 → y 84 j = sm 84 j) ∧ y 84 8 = -1 ∧ 0 ≤ y 84 6 ∧ y 84 6 ≤ 10 ∧ ((∀ j : Nat, 1 ≤ j → j ≤ 10 → x 30 j = -1) ↔ y 84 6 = 0) ∧ (y 84 6 = 0 → ∀ k, k < N → (y 122 k = -2 ∧ x 48 k = 0) ∨ (1 ≤ y 122 k ∧ y 122 k ≤ 32 ∧ x 48 k = y 122 k)) ∧ (RB sc → RB x) ∧ (RM sm → RM y) ∧ (y 84 6 = 0 → CN sc) ∧ (y 84 6 = 0 → ∀ i : Nat, (i : Int) < sc 54 6 → sm 94 i = 3 → sc 57 i = sc 54 7)
theorem chk (h : CKX T sc sm n' t S P A N K C w) (h54 : sc 54 6 = (S : Int)) (h57 : sc 54 7 = mn (T.vl w)) (hS8 : S ≤ 1171) (h61 : sc 61 4 = (C : Int)) (hC8 : C ≤ 2049) (hK8 : K ≤ 8192) (hf : ∀ j : Nat, 1 ≤ j → j ≤ 10 → j < 4 ∨ 7 < j → sc 30 j = -1) (h8 : sm 84 8 = -1) (h6 : sm 84 6 = 0) (h11 : sm 84 11 = (T.z : Int)) (h103 : ∀ i, i < S → sm 94 i = 2 → 1 ≤ sm 103 i ∧ sm 103 i ≤ 8192) : ∃ x y : Sg, f_16 sc = some x ∧ j_196_111 sm = j_196_188 y ∧ CHO sc sm x y N := by
  have cng := h.2.2.2.1.2.2.2.2.2.2.1
  have hC := h.2.2.1
  obtain ⟨s1, e18, t1, t2, t3⟩ := c18 h h54 hS8 h61 hC8
  have nmi := nm_iff h
  -- the class comes to its names
  have c17 : f_16 sc = j_16_24 s1 := by
    obtain ⟨r, e, b0, b1, z, nz⟩ := c68 sc
    have e17 : j_16_17 sc = j_16_24 s1 := by
      unfold j_16_17
      rw [e18, Option.bind_some]
    unfold f_16
    rw [e, Option.bind_some]
    by_cases r0 : r = 0
    · rw [if_pos r0, e17]
    · rw [if_neg r0, if_neg (fun r3 => (nz (by omega)).1 (hf r.toNat (by omega) (by omega) (by omega))), e17]
  rw [c17]
  by_cases cn : CN s1
  · -- nothing wrong so far
    have cnp := t3.mp cn
    have nb := nmi.mp cnp
    have nb4 : ¬ BD4 T sc sm S P A N w := fun u => nb (Or.inl u)
    have nb5 : ¬ BD5 T sm S A := fun u => nb (Or.inr (Or.inl u))
    have n6 : ¬ BD6 T sm S A N := fun u => nb (Or.inr (Or.inr (Or.inl u)))
    have n7 : ¬ BD7 T sm S A N := fun u => nb (Or.inr (Or.inr (Or.inr u)))
    have r155 : j_196_111 sm = j_196_155 sm := by
      obtain ⟨a4, e4, -, -, -, -, l4⟩ := ck4 h h8 h6
      obtain ⟨a5, e5, -, -, -, -, l5⟩ := ck5 h h8 h6
      obtain ⟨a6, e6, -, -, -, -, l6⟩ := ck6 h h8 h6
      obtain ⟨a7, e7, -, -, -, -, l7⟩ := ck7 h n6 h8 h6
      rw [(l4 nb4).2] at e4
      rw [(l5 nb5).2] at e5
      rw [(l6 n6).2] at e6
      rw [(l7 n7).2] at e7
      have nn : ¬ ¬ sm 84 6 = 0 := fun u => u h6
      unfold j_196_111
      rw [if_neg nn, e4, Option.bind_some]
      unfold j_196_122
      rw [if_neg nn, e5, Option.bind_some]
      unfold j_196_133
      rw [if_neg nn, e6, Option.bind_some]
      unfold j_196_144
      rw [if_neg nn, e7, Option.bind_some]
    rw [r155]
    have mv1 : MVr sc sm s1 sm := ⟨fun c u _ => t1 c u, ⟨fun _ => cnp.1, fun _ => cn⟩, fun _ _ _ _ => rfl, fun _ _ _ _ _ => rfl⟩
    have h1 : CKX T s1 sm n' t S P A N K C w := by rw [CKX_mv mv1]; exact h
    have g1 : GOOD T s1 sm S A N w := h1.2.2.2.1.2.2.2.2.2.2.1.mp cn
    have f1 : ∀ j : Nat, 1 ≤ j → j ≤ 10 → s1 30 j = -1 := fun j u v => by
      obtain ⟨q4, q5, q6, q7⟩ := cn
      by_cases e : j < 4 ∨ 7 < j
      · rw [t2 j e]; exact hf j u v e
      · have : j = 4 ∨ j = 5 ∨ j = 6 ∨ j = 7 := by omega
        rcases this with e | e | e | e <;> subst e <;> assumption
    obtain ⟨s2, e164, u1, u2, u3, u4⟩ := c164 h1 g1 n6 n7 (by rw [t1 54 (by decide)]; exact h54) hS8 (f1 8 (by decide) (by decide))
    obtain ⟨m2, e214, v1, v2, v3, v4, v5, v6⟩ := m214 h1 g1 n6 n7 h11 h8 h6 h103
    have c24 : j_16_24 s1 = j_16_41 s2 := by
      unfold j_16_24
      rw [c68n f1, Option.bind_some, if_neg (fun u => u rfl), e164, Option.bind_some]
    have r166 : j_196_155 sm = j_196_166 m2 := by
      unfold j_196_155
      rw [if_neg (fun u => u h6), e214, Option.bind_some]
    rw [c24, r166]
    have rb2 : RB sc → RB s2 := fun u => u4 (by unfold RB at *; rw [t1 74 (by decide)]; exact u)
    have x30 : ∀ j, j < 4 ∨ 10 < j → s2 30 j = sc 30 j := fun j u => by rw [u2 j (by omega), t2 j (by omega)]
    by_cases cy : ∃ k, k < S ∧ CYC (EDG T s1 sm S) k
    · -- a ring
      have z8 := u3.mpr cy
      have z6 := v4 cy
      refine ⟨s2, m2, c16_41 (j := 8) (by decide) (by decide) z8, (m196f (by rw [z6]; decide)).2.1, fun b a1 a2 a3 => by rw [u1 b a1 a3, t1 b a1], x30, fun b a1 _ a3 => v1 b a1 a3, v2, v3, by omega, by omega, ⟨fun q => absurd (q 8 (by decide) (by decide)) z8, fun q => absurd q (by omega)⟩, fun q => absurd q (by omega), rb2, fun _ => v6, fun q => absurd q (by omega), fun q => absurd q (by omega)⟩
    · have z8 : s2 30 8 = -1 := Decidable.byContradiction (fun q => cy (u3.mp q))
      have z6 := v5 cy
      have f2 : ∀ j : Nat, 1 ≤ j → j ≤ 10 → s2 30 j = -1 := fun j a1 a2 => by
        by_cases e : j = 8
        · rw [e]; exact z8
        · rw [u2 j e]; exact f1 j a1 a2
      have mv2 : MVr s1 sm s2 m2 := ⟨fun c a b => u1 c a (by omega), ⟨fun _ => cn, fun _ => ⟨f2 4 (by decide) (by decide), f2 5 (by decide) (by decide), f2 6 (by decide) (by decide), f2 7 (by decide) (by decide)⟩⟩, fun c a1 _ a3 => v1 c a1 (by omega), fun j a1 a2 a3 a4 => v2 j a1 a2 a3 a4.1⟩
      have h2 : CKX T s2 m2 n' t S P A N K C w := by rw [CKX_mv mv2]; exact h1
      have g2 : GOOD T s2 m2 S A N w := by rw [GOOD_mv mv2]; exact g1
      have n62 : ¬ BD6 T m2 S A N := by rw [BD6_mv mv2]; exact n6
      have n72 : ¬ BD7 T m2 S A N := by rw [BD7_mv mv2]; exact n7
      have r54 : s2 54 = sc 54 := by rw [u1 54 (by decide) (by decide), t1 54 (by decide)]
      obtain ⟨x3, y3, e19, e215, w1, w2, w3, w4, w5, w6, w7, w8⟩ := wid_sim h2 g2 n62 n72 (by rw [r54]; exact h54) hS8 (by rw [u1 61 (by decide) (by decide), t1 61 (by decide)]; exact h61) hC8 hK8 (f2 9 (by decide) (by decide)) v3 z6
      have c41 : j_16_41 s2 = j_16_58 x3 := by
        unfold j_16_41
        rw [c68n f2, Option.bind_some, if_neg (fun u => u rfl), e19, Option.bind_some]
      have r177 : j_196_166 m2 = j_196_177 y3 := by
        unfold j_196_166
        rw [if_neg (fun u => u z6), e215, Option.bind_some]
      rw [c41, r177]
      have fx : ∀ b, b ≠ 30 → b ≠ 48 → b < 74 ∨ 81 < b → x3 b = sc b := fun b a1 a2 a3 => by rw [w1 b a1 a2, u1 b a1 a3, t1 b a1]
      have fx30 : ∀ j, j < 4 ∨ 10 < j → x3 30 j = sc 30 j := fun j a => by rw [w2 j (by omega), x30 j a]
      have fy : ∀ b, b ≠ 84 → b ≠ 122 → b < 133 ∨ 135 < b → y3 b = sm b := fun b a1 a2 a3 => by rw [w3 b a1 a2, v1 b a1 a3]
      have fyj : ∀ j, j ≠ 6 → j ≠ 7 → j ≠ 8 → j ≠ 72 → y3 84 j = sm 84 j := fun j a1 a2 a3 a4 => by rw [w4 j a1 a2 a3, v2 j a1 a2 a3 a4]
      by_cases c9 : x3 30 9 = -1
      · have z63 := w7 c9
        have f3 : ∀ j : Nat, 1 ≤ j → j ≤ 10 → x3 30 j = -1 := fun j a1 a2 => by
          by_cases e : j = 9
          · rw [e]; exact c9
          · rw [w2 j e]; exact f2 j a1 a2
        have mv3 : MVr s2 m2 s2 y3 := ⟨fun _ _ _ => rfl, Iff.rfl, fun c a1 a2 _ => w3 c a1 a2, fun j a1 a2 a3 _ => w4 j a1 a2 a3⟩
        have h3 : CKX T s2 y3 n' t S P A N K C w := by rw [CKX_mv mv3]; exact h2
        have g3 : GOOD T s2 y3 S A N w := by rw [GOOD_mv mv3]; exact g2
        obtain ⟨x4, e20, p1, p2, p3⟩ := c20 (s := x3) h3 g3 (by rw [w1 54 (by decide) (by decide), r54]; exact h54) (by rw [w1 54 (by decide) (by decide), r54]; exact h57) hS8 (by
          have := h2.2.2.1
          exact this.row (by rw [w1 39 (by decide) (by decide)]) (w1 41 (by decide) (by decide)) (w1 42 (by decide) (by decide)) (w1 44 (by decide) (by decide)) (by rw [w1 31 (by decide) (by decide)]) (w1 1 (by decide) (by decide))) (fun c a1 a2 => w1 c (by omega) (by omega))
        obtain ⟨y4, e216, k1, k2, k3, k4, k5⟩ := ckb h3 g3 w5 z63
        have c58 : j_16_58 x3 = some x4 := by
          unfold j_16_58
          rw [c68n f3, Option.bind_some, if_neg (fun u => u rfl), e20, Option.bind_some]
        have r188 : j_196_177 y3 = j_196_188 y4 := by
          unfold j_196_177
          rw [if_neg (fun u => u z63), e216, Option.bind_some]
        have s48 : x4 48 = x3 48 := p1 48 (by decide)
        have s122 : y4 122 = y3 122 := k1 122 (by decide)
        refine ⟨x4, y4, c58, r188, fun b a1 a2 a3 => by rw [p1 b a1]; exact fx b a1 a2 a3, fun j a => by rw [p2 j (by omega)]; exact fx30 j a, fun b a1 a2 a3 => by rw [k1 b a1]; exact fy b a1 a2 a3, fun j a1 a2 a3 a4 => by rw [k2 j a1 a2 a3]; exact fyj j a1 a2 a3 a4, k3, ?_, ?_, ?_, ?_, fun u => by unfold RB; rw [p1 74 (by decide), w1 74 (by decide) (by decide)]; exact rb2 u, fun _ => by unfold RM; rw [k2 72 (by decide) (by decide) (by decide), w4 72 (by decide) (by decide) (by decide)]; exact v6, fun _ => cnp.1, ?_⟩
        · by_cases d : ∃ i, i < S ∧ bdB T s2 y3 w i
          · rw [k4 d]; decide
          · rw [(k5 d).1]; decide
        · by_cases d : ∃ i, i < S ∧ bdB T s2 y3 w i
          · rw [k4 d]; decide
          · rw [(k5 d).1]; decide
        · by_cases d : ∃ i, i < S ∧ bdB T s2 y3 w i
          · exact ⟨fun q => absurd (q 10 (by decide) (by decide)) (p3.mpr (Or.inr d)), fun q => absurd q (by rw [k4 d]; decide)⟩
          · refine ⟨fun _ => (k5 d).1, fun _ j a1 a2 => ?_⟩
            by_cases e : j = 10
            · rw [e]
              apply Decidable.byContradiction
              intro hn
              rcases p3.mp hn with q | q
              · exact q (f3 10 (by decide) (by decide))
              · exact d q
            · rw [p2 j e]; exact f3 j a1 a2
        · intro _ k hk
          rw [s48, s122]
          exact w8 k hk
        · intro q i hi h3
          have nd : ¬ (∃ i, i < S ∧ bdB T s2 y3 w i) := fun d => absurd q (by rw [k4 d]; decide)
          have wb := g1.1.2
          have e7 : sc 54 7 = T.vl w := by rw [h57]; unfold mn; rw [if_neg (by omega)]
          apply Decidable.byContradiction
          intro ne
          refine nd ⟨i, by omega, by rw [fy 94 (by decide) (by decide) (by decide)]; exact h3, ?_⟩
          rw [u1 57 (by decide) (by decide), t1 57 (by decide), ← e7]
          exact ne
      · have z63 := w6.mp c9
        exact ⟨x3, y3, c16_58 (j := 9) (by decide) (by decide) c9, (m196f (by rw [z63]; decide)).1, fx, fx30, fy, fyj, w5, by omega, by omega, ⟨fun q => absurd (q 9 (by decide) (by decide)) c9, fun q => absurd q (by omega)⟩, fun q => absurd q (by omega), fun u => by unfold RB; rw [w1 74 (by decide) (by decide)]; exact rb2 u, fun _ => by unfold RM; rw [w4 72 (by decide) (by decide) (by decide)]; exact v6, fun q => absurd q (by omega), fun q => absurd q (by omega)⟩
  · -- a number, a name
    have bad : BD4 T sc sm S P A N w ∨ BD5 T sm S A ∨ BD6 T sm S A N ∨ BD7 T sm S A N := by
      apply Classical.byContradiction
      intro hn
      exact cn (t3.mpr (nmi.mpr hn))
    obtain ⟨jf, j1, j2, j3⟩ : ∃ j : Nat, 4 ≤ j ∧ j ≤ 7 ∧ s1 30 j ≠ -1 := by
      apply Classical.byContradiction
      intro hn
      have q : ∀ j : Nat, 4 ≤ j → j ≤ 7 → s1 30 j = -1 := fun j a b => Decidable.byContradiction (fun c => hn ⟨j, a, b, c⟩)
      exact cn ⟨q 4 (by decide) (by decide), q 5 (by decide) (by decide), q 6 (by decide) (by decide), q 7 (by decide) (by decide)⟩
    have fin : ∀ y : Sg, ∀ k : Int, 4 ≤ k → k ≤ 7 → (∀ c, c ≠ 84 → y c = sm c) → (∀ j, j ≠ 6 → j ≠ 7 → j ≠ 8 → y 84 j = sm 84 j) → y 84 8 = -1 → y 84 6 = k → j_196_111 sm = j_196_188 y → ∃ x y : Sg, j_16_24 s1 = some x ∧ j_196_111 sm = j_196_188 y ∧ CHO sc sm x y N := fun y k a1 a2 a3 a4 a5 a6 a7 =>
      ⟨s1, y, c16_24 (j := jf) (by omega) (by omega) j3, a7, fun b b1 _ _ => t1 b b1, fun j b => t2 j (by omega), fun b b1 _ _ => a3 b b1, fun j b1 b2 b3 _ => a4 j b1 b2 b3, a5, by omega, by omega, ⟨fun q => absurd (q jf (by omega) (by omega)) j3, fun q => absurd q (by omega)⟩, fun q => absurd q (by omega), fun u => by unfold RB at *; rw [t1 74 (by decide)]; exact u, fun u => by unfold RM at *; rw [a4 72 (by decide) (by decide) (by decide)]; exact u, fun q => absurd q (by omega), fun q => absurd q (by omega)⟩
    have nn : ¬ ¬ sm 84 6 = 0 := fun u => u h6
    obtain ⟨a4, e4, p41, p42, p43, p44, p45⟩ := ck4 h h8 h6
    by_cases b4 : BD4 T sc sm S P A N w
    · refine fin a4 4 (by decide) (by decide) p41 p42 p43 (p44 b4) ?_
      unfold j_196_111
      rw [if_neg nn, e4, Option.bind_some, (m196f (by rw [p44 b4]; decide)).2.2.2.2.2.1]
    · rw [(p45 b4).2] at e4
      obtain ⟨a5, e5, p51, p52, p53, p54, p55⟩ := ck5 h h8 h6
      by_cases b5 : BD5 T sm S A
      · refine fin a5 5 (by decide) (by decide) p51 p52 p53 (p54 b5) ?_
        unfold j_196_111
        rw [if_neg nn, e4, Option.bind_some]
        unfold j_196_122
        rw [if_neg nn, e5, Option.bind_some, (m196f (by rw [p54 b5]; decide)).2.2.2.2.1]
      · rw [(p55 b5).2] at e5
        obtain ⟨a6, e6, p61, p62, p63, p64, p65⟩ := ck6 h h8 h6
        by_cases b6 : BD6 T sm S A N
        · refine fin a6 6 (by decide) (by decide) p61 p62 p63 (p64 b6) ?_
          unfold j_196_111
          rw [if_neg nn, e4, Option.bind_some]
          unfold j_196_122
          rw [if_neg nn, e5, Option.bind_some]
          unfold j_196_133
          rw [if_neg nn, e6, Option.bind_some, (m196f (by rw [p64 b6]; decide)).2.2.2.1]
        · rw [(p65 b6).2] at e6
          have b7 : BD7 T sm S A N := by
            rcases bad with q | q | q | q
            · exact absurd q b4
            · exact absurd q b5
            · exact absurd q b6
            · exact q
          obtain ⟨a7, e7, p71, p72, p73, p74, p75⟩ := ck7 h b6 h8 h6
          refine fin a7 7 (by decide) (by decide) p71 p72 p73 (p74 b7) ?_
          unfold j_196_111
          rw [if_neg nn, e4, Option.bind_some]
          unfold j_196_122
          rw [if_neg nn, e5, Option.bind_some]
          unfold j_196_133
          rw [if_neg nn, e6, Option.bind_some]
          unfold j_196_144
          rw [if_neg nn, e7, Option.bind_some, (m196f (by rw [p74 b7]; decide)).2.2.1]
end CHK
/-! FROM READING to the checks. -/
section CKI
variable {T : TT} {sc sm sc0 sm0 : Sg} {n' S P A N K C w : Nat} {t : Nat → Int}
theorem ckx_in (hT : TWF T) (hp : POS T) (h : PS0 T sc0 sm0 sc sm T.z S P A N K C w) (hX : TX T sc0 sm0 n' t) : CKX T sc sm n' t S P A N K C w ∧ S ≤ 1171 ∧ C ≤ 2049 ∧ K ≤ 8192 ∧ (∀ i, i < S → sm 94 i = 2 → 1 ≤ sm 103 i ∧ sm 103 i ≤ 8192) := by
  obtain ⟨hB, h70, h19, h7, h37, hnc, htl, hdp⟩ := h
  obtain ⟨e1, e2, e3, e4, e5, e6, e7, e8, e9, e10, e11, e12, e13, e14, e15, e16, e17, e18, e19, e20, e21, e22, e23, e24, e25, e26, e27, e28, e29, e30, e31⟩ := hB
  have z8 := hT.1
  have p8 := hp.2.2.2
  refine ⟨⟨hT, hX.sf e15 e16, e1, e17, e6, h19, e11, e12, e28, e30, e31, by omega, by omega, by omega, by omega⟩, by omega, by omega, by omega, fun i hi h2 => ?_⟩
  obtain ⟨hd, p0, pc, n0, b1, b2, b3, b4, b5, b6, b7, b8, b9, b10, b11⟩ := e17.1 i hi
  have dx : DEFX T sc sm N i hd p0 pc := by
    rcases b11 with ⟨u, -⟩ | ⟨u, -⟩ | ⟨_, _, _, u⟩ | ⟨u, -⟩
    · omega
    · omega
    · exact u
    · omega
  obtain ⟨st, e, m0, m1, d1, d2, d3, d4, -⟩ := dx
  obtain ⟨q1, q2⟩ := e17.2.2.2.2.2.2.2.1.2 i hi h2
  have q := hnc i hi
  by_cases c : i + 1 < S
  · rw [if_pos c] at q
    have := q1 c
    omega
  · rw [if_neg c] at q
    have := q2 (by omega)
    omega
theorem chk_in (hT : TWF T) (hp : POS T) (h : PS0 T sc0 sm0 sc sm T.z S P A N K C w) (hX : TX T sc0 sm0 n' t) (f0 : ∀ j : Nat, 1 ≤ j → j ≤ 10 → sc0 30 j = -1) (h8 : sm0 84 8 = -1) : ∃ x y : Sg, f_16 sc = some x ∧ j_196_111 sm = j_196_188 y ∧ CHO sc sm x y N := by
  obtain ⟨hk, hS, hC, hK, h103⟩ := ckx_in hT hp h hX
  obtain ⟨hB, -⟩ := h
  obtain ⟨e1, e2, e3, e4, e5, e6, e7, e8, e9, e10, e11, e12, e13, e14, e15, e16, e17, e18, e19, e20, e21, e22, e23, e24, e25, e26, e27, e28, e29, e30, e31⟩ := hB
  exact chk hk e10 e29 hS e13 hC hK (fun j a b c => by rw [e15.2.2.1 j c]; exact f0 j a b) (by rw [e16.2 8 (by omega)]; exact h8) e5 e2.1 h103
end CKI
/-! FORGETTING: faults, bound names, the names' slots, the words. -/
section FGT
variable {s s0 s' : Sg} {m l : Nat}
theorem c70 (s : Sg) : ∃ s' : Sg, f_70 s = some s' ∧ (∀ c, c ≠ 30 → s' c = s c) ∧ (∀ j, j < 11 → s' 30 j = -1) ∧ (∀ j, 11 ≤ j → s' 30 j = s 30 j) := by
  have go : ∀ (r l F : Nat) (z : Sg), l + r = 11 → (∀ c, c ≠ 30 → z c = s c) → (∀ j, j < l → z 30 j = -1) → (∀ j, 11 ≤ j → z 30 j = s 30 j) → ∃ s' : Sg, j_301_30_5 (F + r + 1) (-1) (l : Int) 11 z = some s' ∧ (∀ c, c ≠ 30 → s' c = s c) ∧ (∀ j, j < 11 → s' 30 j = -1) ∧ (∀ j, 11 ≤ j → s' 30 j = s 30 j) := by
    intro r
    induction r with
    | zero =>
      intro l F z hl h1 h2 h3
      exact ⟨z, by rw [j_301_30_5, if_pos (by omega)], h1, fun j hj => h2 j (by omega), h3⟩
    | succ r ih =>
      intro l F z hl h1 h2 h3
      rw [show F + (r + 1) + 1 = (F + r + 1) + 1 by omega, j_301_30_5, if_neg (by omega), gd_pos (by omega), w32_nat (by omega), Int.toNat_natCast]
      refine ih (l + 1) F _ (by omega) (fun c x => by rw [u2_row _ _ _ x]; exact h1 c x) (fun j hj => ?_) (fun j hj => by rw [u2_col _ _ _ (by omega)]; exact h3 j hj)
      by_cases e : j = l
      · rw [e, u2_same]
      · rw [u2_col _ _ _ e]; exact h2 j (by omega)
  obtain ⟨F, hF⟩ := FU_split (k := 12) (by omega)
  obtain ⟨s', e1, e2⟩ := go 11 0 F s (by omega) (fun _ _ => rfl) (fun j hj => absurd hj (by omega)) (fun _ _ => rfl)
  rw [show F + 11 + 1 = FU by omega] at e1
  have e1' : j_301_30_5 FU (-1) 0 11 s = _ := e1
  refine ⟨s', ?_, e2⟩
  unfold f_70 f_301_30
  rw [e1', Option.bind_some]
theorem c102f {B : Nat} (hB : s 31 8 = (B : Int)) (hB8 : B ≤ 4112) : ∃ s' : Sg, f_102 0 s = some s' ∧ s' 31 8 = 0 ∧ (∀ c, c ≠ 31 → c ≠ 37 → s' c = s c) ∧ (∀ j, j ≠ 8 → s' 31 j = s 31 j) ∧ (∀ k, s' 37 k = s 37 k ∨ s' 37 k = 0) := by
  have go : ∀ (B F : Nat) (z : Sg), B ≤ 4112 → z 31 8 = (B : Int) → ∃ s' : Sg, j_102_0 (F + B + 1) 0 z = some s' ∧ s' 31 8 = 0 ∧ (∀ c, c ≠ 31 → c ≠ 37 → s' c = z c) ∧ (∀ j, j ≠ 8 → s' 31 j = z 31 j) ∧ (∀ k, s' 37 k = z 37 k ∨ s' 37 k = 0) := by
    intro B
    induction B with
    | zero =>
      intro F z _ hz
      exact ⟨z, by rw [j_102_0, if_pos (by omega)], hz, fun _ _ _ => rfl, fun _ _ => rfl, fun _ => Or.inl rfl⟩
    | succ B ih =>
      intro F z hB hz
      have w : ax_w32 (z 31 8 - 1) = (B : Int) := by rw [hz, w32_id (by omega) (by omega)]; omega
      rw [show F + (B + 1) + 1 = (F + B + 1) + 1 by omega, j_102_0, if_neg (by omega), if_neg (by omega), w, gd_pos (by omega), Int.toNat_natCast]
      unfold j_102_53
      have st1 : ∀ z' : Sg, z' 31 8 = (B : Int) → (∀ c, c ≠ 31 → c ≠ 37 → z' c = z c) → (∀ j, j ≠ 8 → z' 31 j = z 31 j) → (∀ k, z' 37 k = z 37 k ∨ z' 37 k = 0) → ∃ s' : Sg, j_102_0 (F + B + 1) 0 z' = some s' ∧ s' 31 8 = 0 ∧ (∀ c, c ≠ 31 → c ≠ 37 → s' c = z c) ∧ (∀ j, j ≠ 8 → s' 31 j = z 31 j) ∧ (∀ k, s' 37 k = z 37 k ∨ s' 37 k = 0) := fun z' a1 a2 a3 a4 => by
        obtain ⟨s', e1, e2, e3, e4, e5⟩ := ih F z' (by omega) a1
        refine ⟨s', e1, e2, fun c x y => by rw [e3 c x y, a2 c x y], fun j x => by rw [e4 j x, a3 j x], fun k => ?_⟩
        rcases e5 k with e | e
        · rw [e]; exact a4 k
        · exact Or.inr e
      have plain : ∃ s' : Sg, j_102_0 (F + B + 1) 0 (ax_u2 z 31 8 (B : Int)) = some s' ∧ s' 31 8 = 0 ∧ (∀ c, c ≠ 31 → c ≠ 37 → s' c = z c) ∧ (∀ j, j ≠ 8 → s' 31 j = z 31 j) ∧ (∀ k, s' 37 k = z 37 k ∨ s' 37 k = 0) :=
        st1 _ (u2_same _ _ _ _) (fun c x _ => u2_row _ _ _ x) (fun j x => u2_col _ _ _ x) (fun k => Or.inl (by rw [u2_row _ _ _ (by decide)]))
      by_cases c1 : z 38 B < 0
      · rw [if_pos c1]; exact plain
      · rw [if_neg c1]
        by_cases c2 : 4112 ≤ z 38 B
        · rw [if_pos c2]; exact plain
        · rw [if_neg c2, gd_pos (by omega)]
          refine st1 _ ?_ (fun c x y => by rw [u2_row _ _ _ y, u2_row _ _ _ x]) (fun j x => by rw [u2_row _ _ _ (by decide), u2_col _ _ _ x]) (fun k => ?_)
          · rw [u2_row _ _ _ (by decide)]; exact u2_same _ _ _ _
          · by_cases e : k = (z 38 B).toNat
            · rw [e]; exact Or.inr (u2_same _ _ _ _)
            · rw [u2_col _ _ _ e, u2_row _ _ _ (by decide)]; exact Or.inl rfl
  obtain ⟨F, hF⟩ := FU_split (k := B + 1) (by omega)
  obtain ⟨s', e1, e2⟩ := go B F s hB8 hB
  rw [show F + B + 1 = FU by omega] at e1
  exact ⟨s', e1, e2⟩
/-- the slots of names from 12 on are freed -/
def SLF (s0 s : Sg) (l : Nat) : Prop := (∀ c, c ≠ 32 → s c = s0 c) ∧ (∀ q : Nat, (∃ k, 12 ≤ k ∧ k < l ∧ s0 33 k = (q : Int)) → s 32 q = 0) ∧ (∀ q : Nat, ¬ (∃ k, 12 ≤ k ∧ k < l ∧ s0 33 k = (q : Int)) → s 32 q = s0 32 q)
theorem c101a (h : NI s0 m) : ∀ (r l F : Nat) (s : Sg), l + r = m → 12 ≤ l → SLF s0 s l → ∃ s' : Sg, j_101_3 (F + r + 1) (l : Int) s = j_101_49 s' ∧ SLF s0 s' m := by
  obtain ⟨h1, h2, h3, h4, h5, h6, h7⟩ := h
  intro r
  induction r with
  | zero =>
    intro l F s hl h12 sl
    rw [show l = m by omega] at sl ⊢
    exact ⟨s, by rw [j_101_3, sl.1 31 (by decide), h1, if_pos (by omega)], sl⟩
  | succ r ih =>
    intro l F s hl h12 sl
    obtain ⟨q, q1, q2, q3⟩ := h4 l (by omega)
    obtain ⟨l1, l2, l3⟩ := sl
    rw [show F + (r + 1) + 1 = (F + r + 1) + 1 by omega, j_101_3, l1 31 (by decide), h1, if_neg (by omega), if_neg (by omega), gd_pos (by omega), Int.toNat_natCast, l1 33 (by decide), q2, if_neg (by omega), if_neg (by omega), gd_pos (by omega), Int.toNat_natCast]
    unfold j_101_43
    rw [w32_nat (by omega)]
    refine ih (l + 1) F _ (by omega) (by omega) ⟨fun c x => by rw [u2_row _ _ _ x]; exact l1 c x, fun p hp => ?_, fun p hp => ?_⟩
    · by_cases e : p = q
      · rw [e, u2_same]
      · rw [u2_col _ _ _ e]
        obtain ⟨k, k1, k2, k3⟩ := hp
        refine l2 p ⟨k, k1, ?_, k3⟩
        by_cases ek : k = l
        · rw [ek, q2] at k3; omega
        · omega
    · have e : p ≠ q := fun e => hp ⟨l, h12, by omega, by rw [q2, e]⟩
      rw [u2_col _ _ _ e]
      exact l3 p (fun ⟨k, k1, k2, k3⟩ => hp ⟨k, k1, by omega, k3⟩)
theorem NI.trim (h : NI s0 m) (hm : 12 ≤ m) (sl : SLF s0 s m) (h7' : s' 31 7 = 12) (r : ∀ c, c ≠ 31 → c ≠ 37 → s' c = s c) : NI s' 12 := by
  obtain ⟨h1, h2, h3, h4, h5, h6, h7⟩ := h
  obtain ⟨l1, l2, l3⟩ := sl
  have r33 : s' 33 = s0 33 := by rw [r 33 (by decide) (by decide), l1 33 (by decide)]
  have r34 : s' 34 = s0 34 := by rw [r 34 (by decide) (by decide), l1 34 (by decide)]
  have r35 : s' 35 = s0 35 := by rw [r 35 (by decide) (by decide), l1 35 (by decide)]
  have r32 : s' 32 = s 32 := r 32 (by decide) (by decide)
  -- a slot of a word stays
  have keep : ∀ q : Nat, q < 8192 → 1 ≤ s0 32 q → s0 32 q ≤ 12 → s 32 q = s0 32 q := fun q hq a b => by
    refine l3 q (fun ⟨k, k1, k2, k3⟩ => ?_)
    obtain ⟨q', a1, a2, a3⟩ := h4 k k2
    have : q' = q := by omega
    subst this
    omega
  have gone : ∀ q : Nat, q < 8192 → 12 < s0 32 q → s 32 q = 0 := fun q hq a => by
    refine l2 q ⟨(s0 32 q - 1).toNat, by omega, ?_, h5 q hq (by omega)⟩
    have := h3 q hq
    omega
  have cases3 : ∀ q : Nat, q < 8192 → (s 32 q = s0 32 q ∧ 0 ≤ s0 32 q ∧ s0 32 q ≤ 12) ∨ s 32 q = 0 := fun q hq => by
    have a := h3 q hq
    by_cases c : 12 < s0 32 q
    · exact Or.inr (gone q hq c)
    · by_cases d : s0 32 q = 0
      · by_cases e : ∃ k, 12 ≤ k ∧ k < m ∧ s0 33 k = (q : Int)
        · exact Or.inr (l2 q e)
        · exact Or.inr (by rw [l3 q e]; exact d)
      · exact Or.inl ⟨keep q hq (by omega) (by omega), by omega, by omega⟩
  refine ⟨h7', by decide, fun q hq => ?_, fun k hk => ?_, fun q hq hne => ?_, fun k hk => ?_, fun k l hk hl e1 e2 => ?_⟩
  · rw [r32]
    rcases cases3 q hq with ⟨a, b, c⟩ | a
    · rw [a]; exact ⟨b, c⟩
    · rw [a]; decide
  · obtain ⟨q, a1, a2, a3⟩ := h4 k (by omega)
    exact ⟨q, a1, by rw [r33]; exact a2, by rw [r32, keep q a1 (by omega) (by omega)]; exact a3⟩
  · rw [r32] at hne ⊢
    rcases cases3 q hq with ⟨a, b, c⟩ | a
    · rw [a] at hne ⊢
      rw [r33]
      exact h5 q hq hne
    · exact absurd a hne
  · obtain ⟨d, a1, a2, a3⟩ := h6 k (by omega)
    refine ⟨d, a1, by rw [r33, r34, r35]; exact a2, fun e he => ?_⟩
    obtain ⟨b1, b2⟩ := a3 e he
    rw [r32, r34, r35, keep _ (pb_lt _ _) b1 (by omega)]
    exact ⟨b1, b2⟩
  · rw [r34] at e1
    rw [r35] at e2
    exact h7 k l (by omega) (by omega) e1 e2
end FGT
/-! FORGETTING: the words are entered; all is as new. -/
def wch (l : Nat) : Int := wdl.getD l 0
def wix : Nat → Nat
  | 0 => 0
  | l + 1 => wix l + (if wch l = 32 then 1 else 0)
def wky : Nat → Int × Int
  | 0 => (0, 0)
  | l + 1 => if wch l = 32 then (0, 0) else (ax_lor (ax_lshl (wky l).1 8) (ax_lushr (wky l).2 56), ax_lor (ax_lshl (wky l).2 8) (wch l))
theorem w_ch : ∀ l : Nat, l < 49 → ax_u16 (ax_iand (wch l) 255) = wch l ∧ 0 ≤ wch l ∧ wch l < 65536 := by decide +kernel
theorem w_sp : ∀ l : Nat, l < 49 → wch l = 32 → (wky l).1 = 0 ∧ (wky l).2 = wdk.getD (wix l) 0 ∧ wix l < 12 := by decide +kernel
theorem w_di : ∀ a : Nat, a < 12 → ∀ b : Nat, b < a → wdk.getD b 0 ≠ wdk.getD a 0 := by decide +kernel
theorem w_en : wix 49 = 12 ∧ (wky 49).1 = 0 ∧ (wky 49).2 = 0 := by decide +kernel
section WDS
variable {s s0 s' : Sg} {m l : Nat}
/-- m words have been entered -/
def WDM (s0 s : Sg) (m : Nat) : Prop := NI s m ∧ (∀ k, k < m → s 34 k = 0 ∧ s 35 k = wdk.getD k 0 ∧ s 36 k = -1 ∧ s 37 k = 0) ∧ s 31 9 = 0 ∧ s 31 10 = 0 ∧ s 31 8 = s0 31 8 ∧ (∀ a, a < 31 ∨ 37 < a → s a = s0 a)
theorem c103 (hk : KO s0) (h0 : NI s0 0) (h9 : s0 31 9 = 0) (h10 : s0 31 10 = 0) : ∃ s' : Sg, f_103 s0 = some s' ∧ WDM s0 s' 12 := by
  have go : ∀ (r l F : Nat) (z : Sg), l + r = 49 → WDM s0 z (wix l) → ∃ s' : Sg, j_103_2 (F + r + 1) (l : Int) (ax_u2 (ax_u2 z 31 9 (wky l).1) 31 10 (wky l).2) = some s' ∧ WDM s0 s' 12 := by
    intro r
    induction r with
    | zero =>
      intro l F z hl hw
      have e : l = 49 := by omega
      subst e
      have k2 : (ax_u2 (ax_u2 z 31 9 (wky 49).1) 31 10 (wky 49).2) 2 1 = 0 := by rw [u2_row _ _ _ (by decide), u2_row _ _ _ (by decide), hw.2.2.2.2.2 2 (by decide)]; exact hk.1
      refine ⟨ax_u2 (ax_u2 z 31 9 (wky 49).1) 31 10 (wky 49).2, ?_, ?_⟩
      · rw [j_103_2]
        unfold f_272_2 f_275_2
        rw [k2, gd_pos (by decide), Option.bind_some, Option.bind_some, if_pos (by decide)]
      · rw [w_en.2.1, w_en.2.2]
        rw [w_en.1] at hw
        obtain ⟨a1, a2, a3, a4, a5, a6⟩ := hw
        rw [u2_self z a3, u2_self z a4]
        exact ⟨a1, a2, a3, a4, a5, a6⟩
    | succ r ih =>
      intro l F z hl hw
      obtain ⟨a1, a2, a3, a4, a5, a6⟩ := id hw
      obtain ⟨c1, c2, c3⟩ := w_ch l (by omega)
      have lw : wix (l + 1) = wix l + (if wch l = 32 then 1 else 0) := rfl
      have lk : wky (l + 1) = if wch l = 32 then (0, 0) else (ax_lor (ax_lshl (wky l).1 8) (ax_lushr (wky l).2 56), ax_lor (ax_lshl (wky l).2 8) (wch l)) := rfl
      have row : ∀ a, a ≠ 31 → (ax_u2 (ax_u2 z 31 9 (wky l).1) 31 10 (wky l).2) a = z a := fun a x => by rw [u2_row _ _ _ x, u2_row _ _ _ x]
      have k2 : (ax_u2 (ax_u2 z 31 9 (wky l).1) 31 10 (wky l).2) 2 1 = 0 := by rw [row 2 (by decide), a6 2 (by decide)]; exact hk.1
      have k3 : (ax_u2 (ax_u2 z 31 9 (wky l).1) 31 10 (wky l).2) 3 l = wch l := by rw [row 3 (by decide), a6 3 (by decide)]; exact hk.2.2.1 l (by omega)
      have v9 : (ax_u2 (ax_u2 z 31 9 (wky l).1) 31 10 (wky l).2) 31 9 = (wky l).1 := by rw [u2_col _ _ _ (by decide)]; exact u2_same _ _ _ _
      have v10 : (ax_u2 (ax_u2 z 31 9 (wky l).1) 31 10 (wky l).2) 31 10 = (wky l).2 := u2_same _ _ _ _
      have e73 : f_273_2 (l : Int) (ax_u2 (ax_u2 z 31 9 (wky l).1) 31 10 (wky l).2) = some (wch l, ax_u2 (ax_u2 z 31 9 (wky l).1) 31 10 (wky l).2) := by
        unfold f_273_2 f_276_2
        rw [if_neg (fun u => by rw [if_neg (fun w => w k2)] at u; exact absurd u (by decide))]
        unfold f_296_3 f_278 f_300_26
        rw [if_neg (by omega), if_pos (by omega), Option.bind_some, Option.bind_some, gd_pos (by omega), Option.bind_some, Int.toNat_natCast]
        show gd (0 ≤ ax_u16 (ax_iand ((ax_u2 (ax_u2 z 31 9 (wky l).1) 31 10 (wky l).2) 3 l) 255) ∧ ax_u16 (ax_iand ((ax_u2 (ax_u2 z 31 9 (wky l).1) 31 10 (wky l).2) 3 l) 255) < 65536) _ = _
        rw [k3, c1, gd_pos ⟨c2, c3⟩]
      rw [show F + (r + 1) + 1 = (F + r + 1) + 1 by omega, j_103_2]
      have e72 : f_272_2 (ax_u2 (ax_u2 z 31 9 (wky l).1) 31 10 (wky l).2) = some 49 := by
        unfold f_272_2 f_275_2
        rw [k2, gd_pos (by decide), Option.bind_some]
        rfl
      rw [e72, Option.bind_some, if_neg (by omega), e73, Option.bind_some]
      have k40 : ∀ y : Sg, j_103_40 (j_103_2 (F + r + 1)) (l : Int) y = j_103_2 (F + r + 1) ((l + 1 : Nat) : Int) y := fun y => by
        unfold j_103_40
        rw [w32_nat (by omega)]
      by_cases c : wch l = 32
      · obtain ⟨p1, p2, p3⟩ := w_sp l (by omega) c
        rw [if_pos c] at lw lk
        obtain ⟨id, s1, e1, e2⟩ := c104 a1 (by omega) a3 a4 (wky l).1 (wky l).2
        dsimp only
        rw [if_neg (fun u => u c), e1, Option.bind_some]
        dsimp only
        rw [k40]
        rcases e2 with ⟨f1, f2, f3, f4⟩ | ⟨f1, ⟨g1, g2, g3, g4, g5, g6, g7, g8⟩, f3⟩
        · exfalso
          rw [(a2 id f1).2.1, p2] at f3
          exact w_di (wix l) p3 id f1 f3
        · have b9 : s1 31 9 = 0 := by rw [g7 9 (by decide)]; exact a3
          have b10 : s1 31 10 = 0 := by rw [g7 10 (by decide)]; exact a4
          have := ih (l + 1) F s1 (by omega) (by
            rw [lw]
            refine ⟨g1, fun k hk => ?_, b9, b10, by rw [g7 8 (by decide)]; exact a5, fun a x => by rw [g8 a x]; exact a6 a x⟩
            by_cases e : k = wix l
            · rw [e]
              exact ⟨by rw [g3]; exact p1, by rw [g4]; exact p2, g5, g6⟩
            · obtain ⟨q1, q2, q3, q4⟩ := g2 k (by omega)
              rw [q1, q2, q3, q4]
              exact a2 k (by omega))
          rw [lk] at this
          dsimp only at this
          rw [u2_self s1 b9, u2_self s1 b10] at this
          exact this
      · rw [if_neg c] at lw lk
        dsimp only
        rw [if_pos c, e73, Option.bind_some]
        dsimp only
        rw [Option.bind_some, k40]
        have e5 : f_105 (wch l) (ax_u2 (ax_u2 z 31 9 (wky l).1) 31 10 (wky l).2) = ax_u2 (ax_u2 z 31 9 (wky (l + 1)).1) 31 10 (wky (l + 1)).2 := by
          unfold f_105
          rw [v9, v10, sp_over, lk]
        rw [e5]
        exact ih (l + 1) F z (by omega) (by rw [lw]; exact hw)
  obtain ⟨F, hF⟩ := FU_split (k := 50) (by omega)
  obtain ⟨s', e1, e2⟩ := go 49 0 F s0 (by omega) ⟨h0, fun k hk => absurd hk (by show ¬ k < 0; omega), h9, h10, rfl, fun _ _ => rfl⟩
  rw [show F + 49 + 1 = FU by omega] at e1
  have e0 : ax_u2 (ax_u2 s0 31 9 (wky 0).1) 31 10 (wky 0).2 = s0 := by
    show ax_u2 (ax_u2 s0 31 9 0) 31 10 0 = s0
    rw [u2_self s0 h9, u2_self s0 h10]
  rw [e0] at e1
  exact ⟨s', e1, e2⟩
/-- the names, between two readings -/
def NMI (s : Sg) : Prop := KO s ∧ s 31 9 = 0 ∧ s 31 10 = 0 ∧ (∃ B : Nat, s 31 8 = (B : Int) ∧ B ≤ 4112) ∧ (NI s 0 ∨ ∃ m, NI s m ∧ 12 ≤ m ∧ m ≤ 4111 ∧ WD s)
theorem KO.row (h : KO s) (h1 : s' 1 = s 1) (h2 : s' 2 = s 2) (h3 : s' 3 = s 3) (h4 : s' 4 = s 4) (h5 : s' 5 = s 5) : KO s' := by
  unfold KO
  rw [h1, h2, h3, h4, h5]
  exact h
theorem c101 (h : NMI s) : ∃ s' : Sg, f_101 s = some s' ∧ NI s' 12 ∧ WD s' ∧ s' 31 8 = 0 ∧ s' 31 9 = 0 ∧ s' 31 10 = 0 ∧ (∀ a, a < 31 ∨ 37 < a → s' a = s a) := by
  obtain ⟨hk, h9, h10, ⟨B, hB, hB8⟩, h⟩ := h
  rcases h with h | ⟨m, h, hm1, hm2, hw⟩
  · -- for the first time
    have h7 : s 31 7 = 0 := h.1
    obtain ⟨F, hF⟩ := FU_split (k := 1) (by omega)
    have w7 : f_291 (s 31 7) 12 s = 0 := by
      unfold f_291
      rw [h7, if_neg (by decide)]
    obtain ⟨s1, e1, e2, e3, e4, e5⟩ := c102f (s := ax_u2 s 31 7 0) (B := B) (by rw [u2_col _ _ _ (by decide)]; exact hB) hB8
    have r1 : ∀ c, c ≠ 31 → c ≠ 37 → s1 c = s c := fun c x y => by rw [e3 c x y, u2_row _ _ _ x]
    have n0 : NI s1 0 := h.congr (by rw [e4 7 (by decide), u2_same, h7]) (r1 32 (by decide) (by decide)) (r1 33 (by decide) (by decide)) (r1 34 (by decide) (by decide)) (r1 35 (by decide) (by decide))
    have b9 : s1 31 9 = 0 := by rw [e4 9 (by decide), u2_col _ _ _ (by decide)]; exact h9
    have b10 : s1 31 10 = 0 := by rw [e4 10 (by decide), u2_col _ _ _ (by decide)]; exact h10
    obtain ⟨s2, f1, g1, g2, g3, g4, g5, g6⟩ := c103 (s0 := s1) (hk.row (r1 1 (by decide) (by decide)) (r1 2 (by decide) (by decide)) (r1 3 (by decide) (by decide)) (r1 4 (by decide) (by decide)) (r1 5 (by decide) (by decide))) n0 b9 b10
    refine ⟨s2, ?_, g1, fun k hk => ⟨(g2 k hk).1, (g2 k hk).2.1⟩, by rw [g5]; exact e2, g3, g4, fun a x => by rw [g6 a x, r1 a (by omega) (by omega)]⟩
    unfold f_101
    rw [show FU = F + 1 by omega, j_101_3, h7, if_pos (by decide)]
    unfold j_101_49
    rw [w7, e1, Option.bind_some, if_neg (fun u => u n0.1), f1, Option.bind_some]
  · obtain ⟨F, hF⟩ := FU_split (k := (m - 12) + 1) (by omega)
    obtain ⟨s1, e1, sl⟩ := c101a h (m - 12) 12 F s (by omega) (Nat.le_refl _) ⟨fun _ _ => rfl, fun q ⟨k, k1, k2, _⟩ => absurd k2 (by omega), fun _ _ => rfl⟩
    rw [show F + (m - 12) + 1 = FU by omega] at e1
    have h7 : s1 31 7 = (m : Int) := by rw [sl.1 31 (by decide)]; exact h.1
    have w7 : f_291 (s1 31 7) 12 s1 = 12 := by
      unfold f_291
      rw [h7]
      by_cases c : (12 : Int) < m
      · rw [if_pos c]
      · rw [if_neg c]; omega
    obtain ⟨s2, f1, f2, f3, f4, f5⟩ := c102f (s := ax_u2 s1 31 7 12) (B := B) (by rw [u2_col _ _ _ (by decide), sl.1 31 (by decide)]; exact hB) hB8
    have r1 : ∀ c, c ≠ 31 → c ≠ 37 → s2 c = s1 c := fun c x y => by rw [f3 c x y, u2_row _ _ _ x]
    have r2 : ∀ c, c ≠ 31 → c ≠ 32 → c ≠ 37 → s2 c = s c := fun c x y w => by rw [r1 c x w, sl.1 c y]
    have b7 : s2 31 7 = 12 := by rw [f4 7 (by decide)]; exact u2_same _ _ _ _
    refine ⟨s2, ?_, h.trim hm1 sl b7 r1, fun k hk => ?_, f2, ?_, ?_, fun a x => r2 a (by omega) (by omega) (by omega)⟩
    · unfold f_101
      have e1' : j_101_3 FU 12 s = _ := e1
      rw [e1']
      unfold j_101_49
      rw [w7, f1, Option.bind_some, if_pos (by rw [b7]; decide)]
    · rw [r2 34 (by decide) (by decide) (by decide), r2 35 (by decide) (by decide) (by decide)]
      exact hw k hk
    · rw [f4 9 (by decide), u2_col _ _ _ (by decide), sl.1 31 (by decide)]; exact h9
    · rw [f4 10 (by decide), u2_col _ _ _ (by decide), sl.1 31 (by decide)]; exact h10
/-- all is forgotten -/
theorem c14 (h : NMI s) : ∃ s' : Sg, f_14 s = some s' ∧ NI s' 12 ∧ WD s' ∧ s' 31 8 = 0 ∧ s' 31 9 = 0 ∧ s' 31 10 = 0 ∧ (∀ j, j < 11 → s' 30 j = -1) ∧ s' 39 9 = 0 ∧ s' 46 7 = 0 ∧ s' 54 6 = 0 ∧ s' 61 4 = 0 ∧ s' 66 7 = 0 ∧ s' 70 9 = 0 ∧ (∀ j, j ≠ 9 → j ≠ 10 → j ≠ 11 → s' 39 j = s 39 j) ∧ (∀ a, a < 30 ∨ 37 < a → a ≠ 39 → a ≠ 46 → a ≠ 54 → a ≠ 61 → a ≠ 66 → a ≠ 70 → a ≠ 74 → s' a = s a) ∧ s' 74 13 = 0 := by
  obtain ⟨s1, e1, p1, p2, -⟩ := c70 s
  have h1 : NMI s1 := by
    obtain ⟨hk, h9, h10, hB, h⟩ := h
    refine ⟨hk.row (p1 1 (by decide)) (p1 2 (by decide)) (p1 3 (by decide)) (p1 4 (by decide)) (p1 5 (by decide)), by rw [p1 31 (by decide)]; exact h9, by rw [p1 31 (by decide)]; exact h10, by rw [p1 31 (by decide)]; exact hB, ?_⟩
    rcases h with h | ⟨m, h, hm1, hm2, hw⟩
    · exact Or.inl (h.congr (by rw [p1 31 (by decide)]) (p1 32 (by decide)) (p1 33 (by decide)) (p1 34 (by decide)) (p1 35 (by decide)))
    · refine Or.inr ⟨m, h.congr (by rw [p1 31 (by decide)]) (p1 32 (by decide)) (p1 33 (by decide)) (p1 34 (by decide)) (p1 35 (by decide)), hm1, hm2, ?_⟩
      unfold WD
      rw [p1 34 (by decide), p1 35 (by decide)]
      exact hw
  obtain ⟨s2, e2, q1, q2, q4, q5, q6, q7⟩ := c101 h1
  obtain ⟨z, hz⟩ : ∃ z : Sg, z = f_163 (f_140 (f_44 (f_33 (f_180 (f_113 (f_74 s2)))))) := ⟨_, rfl⟩
  have rw31 : ∀ a, a ≠ 39 → a ≠ 46 → a ≠ 54 → a ≠ 61 → a ≠ 66 → a ≠ 70 → a ≠ 74 → z a = s2 a := fun a x1 x2 x3 x4 x5 x6 x7 => by
    rw [hz]
    unfold f_163 f_140 f_44 f_33 f_180 f_113 f_74
    rw [u2_row _ _ _ x7, u2_row _ _ _ x6, u2_row _ _ _ x5, u2_row _ _ _ x4, u2_row _ _ _ x3, u2_row _ _ _ x3, u2_row _ _ _ x2, u2_row _ _ _ x1, u2_row _ _ _ x1, u2_row _ _ _ x1]
  have rs : ∀ a, a < 38 → z a = s2 a := fun a x => rw31 a (by omega) (by omega) (by omega) (by omega) (by omega) (by omega) (by omega)
  refine ⟨z, ?_, q1.congr (by rw [rs 31 (by decide)]) (rs 32 (by decide)) (rs 33 (by decide)) (rs 34 (by decide)) (rs 35 (by decide)), ?_, by rw [rs 31 (by decide)]; exact q4, by rw [rs 31 (by decide)]; exact q5, by rw [rs 31 (by decide)]; exact q6, fun j hj => by rw [rs 30 (by decide), q7 30 (by decide)]; exact p2 j hj, ?_, ?_, ?_, ?_, ?_, ?_, fun j a b c => ?_, fun a x x1 x2 x3 x4 x5 x6 x7 => by rw [rw31 a x1 x2 x3 x4 x5 x6 x7, q7 a (by omega), p1 a (by omega)], ?_⟩
  · unfold f_14
    rw [e1, Option.bind_some, e2, Option.bind_some, Option.bind_some, Option.bind_some, Option.bind_some, Option.bind_some, Option.bind_some, Option.bind_some, Option.bind_some, hz]
  · unfold WD
    rw [rs 34 (by decide), rs 35 (by decide)]
    exact q2
  · rw [hz]; simp [f_163, f_140, f_44, f_33, f_180, f_113, f_74, ax_u2]
  · rw [hz]; simp [f_163, f_140, f_44, f_33, f_180, f_113, f_74, ax_u2]
  · rw [hz]; simp [f_163, f_140, f_44, f_33, f_180, f_113, f_74, ax_u2]
  · rw [hz]; simp [f_163, f_140, f_44, f_33, f_180, f_113, f_74, ax_u2]
  · rw [hz]; simp [f_163, f_140, f_44, f_33, f_180, f_113, f_74, ax_u2]
  · rw [hz]; simp [f_163, f_140, f_44, f_33, f_180, f_113, f_74, ax_u2]
  · have e : z 39 j = s2 39 j := by rw [hz]; simp [f_163, f_140, f_44, f_33, f_180, f_113, f_74, ax_u2, a, b, c]
    rw [e, q7 39 (by decide), p1 39 (by decide)]
  · rw [hz]; simp [f_163, ax_u2]
end WDS
/-! CUTTING as a whole. -/
section CUTW
variable {s1 m1 : Sg} {n : Nat} {t : Nat → Int}
/-- what cutting leaves of the class; m names -/
def CWc (s s' : Sg) (m : Nat) : Prop := NI s' m ∧ 12 ≤ m ∧ m ≤ 4111 ∧ WD s' ∧ s' 31 9 = 0 ∧ s' 31 10 = 0 ∧ s' 31 8 = s 31 8 ∧ (∀ k, k < 12 → s' 36 k = s 36 k ∧ s' 37 k = s 37 k) ∧ (∀ k, 12 ≤ k → k < m → s' 36 k = -1 ∧ s' 37 k = 0) ∧ (∀ a, a < 30 ∨ 37 < a ∧ a < 39 ∨ 45 < a → s' a = s a) ∧ (∀ j, j < 8 → s' 39 j = s 39 j)
/-- and of the reference -/
def CWm (s s' : Sg) : Prop := (∀ a, a < 84 ∨ 84 < a ∧ a < 88 ∨ 93 < a → s' a = s a) ∧ ∀ j, j ≠ 6 → j ≠ 7 → j ≠ 11 → s' 84 j = s 84 j
theorem cut_sim (hN : NI s1 12) (hW : WD s1) (hK : KO s1) (h9 : s1 31 9 = 0) (h10 : s1 31 10 = 0) (h27 : s1 27 1 = (n : Int)) (hn : n ≤ 8192) (hb : ∀ i, i < n → s1 28 i % 256 = t i) (hM : MT m1 n t) (h6 : m1 84 6 = 0) :
    (∃ (T : TT) (sc0 sm0 : Sg), f_73_28 (s1 27 1) s1 = some (1, sc0) ∧ f_208 m1 = some sm0 ∧ TWF T ∧ POS T ∧ CC T sc0 ∧ MC T sm0 ∧ CU T sc0 0 ∧ CX T sc0 ∧ TX T sc0 sm0 n t ∧ (∀ k, k < T.z → FRS T sc0 sm0 k) ∧ sm0 84 6 = 0 ∧ CWc s1 sc0 T.m ∧ sc0 30 = s1 30 ∧ CWm m1 sm0 ∧ XO T sc0) ∨
    (∃ (sc0 sm0 : Sg) (m : Nat), f_73_28 (s1 27 1) s1 = some (0, sc0) ∧ f_208 m1 = some sm0 ∧ sc0 30 1 ≠ -1 ∧ (∀ j, j ≠ 1 → sc0 30 j = s1 30 j) ∧ sm0 84 6 = 1 ∧ CWc s1 sc0 m ∧ CWm m1 sm0) := by
  have hbb : ∀ i, i < n → 0 ≤ t i ∧ t i < 256 := fun i hi => (hM.2.2 i hi).2
  -- before the first lexeme
  obtain ⟨s2, hs2⟩ : ∃ s : Sg, s = ax_u2 (cpy (ax_u2 s1 39 8 (n : Int)) 28 40 0 0 n) 39 9 0 := ⟨_, rfl⟩
  have r2 : ∀ c, c ≠ 39 → c ≠ 40 → s2 c = s1 c := fun c x y => by
    rw [hs2, u2_row _ _ _ x]
    show (if c = 40 then _ else (ax_u2 s1 39 8 (n : Int)) c) = _
    rw [if_neg y, u2_row _ _ _ x]
  have r40 : ∀ i, i < n → s2 40 i = s1 28 i := fun i hi => by
    rw [hs2, u2_row _ _ _ (by decide)]
    show (if (40 : Nat) = 40 then ax_cpy ((ax_u2 s1 39 8 (n : Int)) 28) ((ax_u2 s1 39 8 (n : Int)) 40) 0 0 n else (ax_u2 s1 39 8 (n : Int)) 40) i = _
    rw [if_pos rfl]
    show (if 0 ≤ i ∧ i < 0 + n then (ax_u2 s1 39 8 (n : Int)) 28 (0 + (i - 0)) else _) = _
    rw [if_pos (by omega), u2_row _ _ _ (by decide), show 0 + (i - 0) = i by omega]
  have r39 : s2 39 8 = (n : Int) ∧ s2 39 9 = 0 ∧ ∀ j, j ≠ 8 → j ≠ 9 → s2 39 j = s1 39 j := by
    have q : ∀ j, j ≠ 9 → s2 39 j = (ax_u2 s1 39 8 (n : Int)) 39 j := fun j x => by
      rw [hs2, u2_col _ _ _ x]
      show (if (39 : Nat) = 40 then _ else (ax_u2 s1 39 8 (n : Int)) 39) j = _
      rw [if_neg (by decide)]
    refine ⟨by rw [q 8 (by decide)]; exact u2_same _ _ _ _, by rw [hs2]; exact u2_same _ _ _ _, fun j x y => by rw [q j y, u2_col _ _ _ x]⟩
  have ct : CT s2 n t := ⟨r39.1, hn, fun i hi => by rw [r40 i hi]; exact ⟨hb i hi, hbb i hi⟩⟩
  have cls : CLS s2 n t 0 12 := by
    refine ⟨ct, ?_, hN.congr (by rw [r2 31 (by decide) (by decide)]) (r2 32 (by decide) (by decide)) (r2 33 (by decide) (by decide)) (r2 34 (by decide) (by decide)) (r2 35 (by decide) (by decide)), Nat.le_refl _, ?_, by rw [r2 31 (by decide) (by decide)]; exact h9, by rw [r2 31 (by decide) (by decide)]; exact h10, r39.2.1⟩
    · exact hK.row (r2 1 (by decide) (by decide)) (r2 2 (by decide) (by decide)) (r2 3 (by decide) (by decide)) (r2 4 (by decide) (by decide)) (r2 5 (by decide) (by decide))
    · unfold WD
      rw [r2 34 (by decide) (by decide), r2 35 (by decide) (by decide)]
      exact hW
  obtain ⟨m2, hm2⟩ : ∃ s : Sg, s = ax_u2 m1 84 11 0 := ⟨_, rfl⟩
  have mr : ∀ c, c ≠ 84 → m2 c = m1 c := fun c x => by rw [hm2, u2_row _ _ _ x]
  have mj : ∀ j, j ≠ 11 → m2 84 j = m1 84 j := fun j x => by rw [hm2, u2_col _ _ _ x]
  have mt : MT m2 n t := hM.congr (mj 3 (by decide)) (mr 86 (by decide))
  have m11 : m2 84 11 = ((0 : Nat) : Int) := by rw [hm2]; exact u2_same _ _ _ _
  -- both begin at the same place
  obtain ⟨i, hi⟩ : ∃ i : Nat, i = wsk t n false 0 := ⟨_, rfl⟩
  have ge := wsk_ge t n false 0
  rw [← hi] at ge
  have e76 : f_76 0 s2 = some (i : Int) := by
    have := c76 r39.1 hn 0 (by omega)
    rw [show n - 0 = n by omega, wsk_congr (t' := t) n false 0 (fun e _ y => (ct.2.2 e (by omega)).1), ← hi] at this
    exact this
  have e223 : f_223 0 m2 = some (i : Int) := by
    have := m223 mt.1 hn 0 (by omega)
    rw [show n - 0 = n by omega, wsk_congr (t' := t) n false 0 (fun e _ y => (mt.2.2 e (by omega)).1), ← hi] at this
    exact this
  have ln : f_292 0 (f_291 (s1 27 1) (f_291 8192 8192 s1) s1) s1 = (n : Int) := by
    have a1 : f_291 8192 8192 s1 = 8192 := by unfold f_291; rw [if_neg (by decide)]
    have a2 : f_291 (s1 27 1) 8192 s1 = (n : Int) := by unfold f_291; rw [h27, if_neg (by omega)]
    rw [a1, a2]
    unfold f_292
    by_cases c : (0 : Int) < n
    · rw [if_pos c]
    · rw [if_neg c]; omega
  have ec : f_73_28 (s1 27 1) s1 = j_73_28_48 FU (i : Int) 0 s2 := by
    unfold f_73_28
    rw [ln, gd_pos (by omega), Int.toNat_natCast]
    show ((f_76 0 (ax_u2 (cpy (ax_u2 s1 39 8 (n : Int)) 28 40 0 0 n) 39 9 0)).bind fun q1 => j_73_28_48 FU q1 0 (ax_u2 (cpy (ax_u2 s1 39 8 (n : Int)) 28 40 0 0 n) 39 9 0)) = _
    rw [← hs2, e76, Option.bind_some]
  have em : f_208 m1 = j_208_11 FU (i : Int) m2 := by
    unfold f_208
    rw [← hm2, e223, Option.bind_some]
  obtain ⟨F, hF⟩ := FU_split (k := (n - i) + 1) (by omega)
  -- what is known of the class behind it
  have cw : ∀ (s' : Sg) (m : Nat), CF s2 s' 12 m → CLS s' n t (s' 39 9).toNat m → m ≤ 4111 → CWc s1 s' m ∧ s' 30 = s1 30 := fun s' m cf cl hm => by
    obtain ⟨f1, f2, f3, f4, f5, f6⟩ := cf
    obtain ⟨_, _, c3, c4, c5, c6, c7, _⟩ := cl
    refine ⟨⟨c3, c4, hm, c5, c6, c7, by rw [f4, r2 31 (by decide) (by decide)], fun k hk => ?_, f3, fun a x => by rw [f5 a (by omega) (by omega) (by omega), r2 a (by omega) (by omega)], fun j hj => by rw [f6 j (by omega), r39.2.2 j (by omega) (by omega)]⟩, by rw [f5 30 (by decide) (by decide) (by decide), r2 30 (by decide) (by decide)]⟩
    obtain ⟨_, _, a3, a4⟩ := f2 k hk
    rw [a3, a4, r2 36 (by decide) (by decide), r2 37 (by decide) (by decide)]
    exact ⟨rfl, rfl⟩
  have mw : ∀ m' : Sg, MF m2 m' → CWm m1 m' := fun m' mf => ⟨fun a x => by rw [mf.1 a x, mr a (by omega)], fun j x y z => by rw [mf.2 j x y z, mj j z]⟩
  rcases cutl (n - i) i 0 12 F F s2 m2 (by omega) cls mt m11 (by rw [mj 6 (by decide)]; exact h6) (by omega) (fun k hk => absurd hk (by omega)) ⟨fun k hk => absurd hk (by omega), fun u => absurd u (by omega)⟩ (Or.inl (by omega)) with ⟨sc', sm', z', m', a1, a2, a3, a4, a5, a6, a7, a8, a9, a10, a11, a12⟩ | ⟨sc', sm', z', m', i', a1, a2, a3, a4, a5, a6, a7, a8, a9, a10⟩
  · left
    rw [show F + (n - i) + 1 = FU by omega] at a1 a2
    obtain ⟨T, t1, t2, t3, t4, t5, t6, t7, t8, t9, t10, t11⟩ := cut_in a3 a4 a5 a7 a8 a9 a10
    obtain ⟨v41, v42, v43, v44, v45, v9, v10, v11, vo⟩ := ENc_at (sc := sc') (z := z') (n := n)
    have h39 : (sc' 39 9).toNat = z' := by rw [a3.2.2.2.2.2.2.2, Int.toNat_natCast]
    obtain ⟨⟨w1, w2, w3, w4, w5, w6, w7, w8, w9, w10, w11⟩, w12⟩ := cw sc' m' a11 (by rw [h39]; exact a3) a8
    have er : ∀ c, c ≠ 39 → c < 41 ∨ 45 < c → ENc sc' z' n c = sc' c := fun c x y => ENc_row (by omega)
    refine ⟨T, ENc sc' z' n, ENm sm' z' n, ?_, ?_, t3, t4, t5, t6, t7, t8, t9, fun k hk => t10 k (by omega), ?_, ?_, ?_, ?_, t11⟩
    · have a1' : j_73_28_48 FU (i : Int) 0 s2 = _ := a1
      rw [ec, a1', c101e a3 a7]
    · rw [em, a2, m222e a5 a4.1 (by omega)]
    · rw [ENm_row (by decide)]; exact a6
    · rw [t2]
      refine ⟨w1.congr (by rw [er 31 (by decide) (by decide)]) (er 32 (by decide) (by decide)) (er 33 (by decide) (by decide)) (er 34 (by decide) (by decide)) (er 35 (by decide) (by decide)), w2, w3, ?_, by rw [er 31 (by decide) (by decide)]; exact w5, by rw [er 31 (by decide) (by decide)]; exact w6, by rw [er 31 (by decide) (by decide)]; exact w7, ?_, ?_, fun a x => by rw [er a (by omega) (by omega)]; exact w10 a x, fun j hj => by rw [vo j (by omega) (by omega) (by omega)]; exact w11 j hj⟩
      · unfold WD
        rw [er 34 (by decide) (by decide), er 35 (by decide) (by decide)]
        exact w4
      · rw [er 36 (by decide) (by decide), er 37 (by decide) (by decide)]
        exact w8
      · rw [er 36 (by decide) (by decide), er 37 (by decide) (by decide)]
        exact w9
    · rw [er 30 (by decide) (by decide)]; exact w12
    · have mw' := mw sm' a12
      exact ⟨fun a x => by rw [ENm_row (by omega)]; exact mw'.1 a x, fun j x y z => by rw [ENm_row (by decide)]; exact mw'.2 j x y z⟩
  · right
    rw [show F + (n - i) + 1 = FU by omega] at a1 a2
    have h39 : (sc' 39 9).toNat = z' := by rw [a3.2.2.2.2.2.2.2, Int.toNat_natCast]
    obtain ⟨⟨w1, w2, w3, w4, w5, w6, w7, w8, w9, w10, w11⟩, w12⟩ := cw sc' m' a9 (by rw [h39]; exact a3) a8
    obtain ⟨k1, k2⟩ := c71k (s := sc') (k := 1) (x := (i' : Int)) (by decide) (by decide) (by omega)
    have k1' : g_71 1 (i' : Int) sc' := k1
    have k2' : NTk 1 sc' (f_71 1 (i' : Int) sc') True := k2
    obtain ⟨p1, p2, p3⟩ := k2'
    refine ⟨f_71 1 (i' : Int) sc', ENm sm' (z' + 1) n, m', ?_, ?_, p3.mpr (Or.inr trivial), fun j hj => by rw [p2 j hj, w12], ?_, ?_, ?_⟩
    · have a1' : j_73_28_48 FU (i : Int) 0 s2 = _ := a1
      rw [ec, a1']
      unfold j_73_28_77
      rw [gd_pos k1', Option.bind_some]
    · rw [em, a2, m222e a4 a5 (by omega)]
    · rw [ENm_row (by decide)]; exact a6
    · refine ⟨w1.congr (by rw [p1 31 (by decide)]) (p1 32 (by decide)) (p1 33 (by decide)) (p1 34 (by decide)) (p1 35 (by decide)), w2, w3, ?_, by rw [p1 31 (by decide)]; exact w5, by rw [p1 31 (by decide)]; exact w6, by rw [p1 31 (by decide)]; exact w7, ?_, ?_, fun a x => by rw [p1 a (by omega)]; exact w10 a x, fun j hj => by rw [p1 39 (by decide)]; exact w11 j hj⟩
      · unfold WD
        rw [p1 34 (by decide), p1 35 (by decide)]
        exact w4
      · rw [p1 36 (by decide), p1 37 (by decide)]
        exact w8
      · rw [p1 36 (by decide), p1 37 (by decide)]
        exact w9
    · have mw' := mw sm' a10
      exact ⟨fun a x => by rw [ENm_row (by omega)]; exact mw'.1 a x, fun j x y z => by rw [ENm_row (by decide)]; exact mw'.2 j x y z⟩
end CUTW
/-! READING as a whole: how it begins. -/
section RDB
variable {T : TT} {sc sm sc0 sm0 s1 m1 : Sg} {n id : Nat} {t : Nat → Int}
theorem IDN.ge (hX : TX T sc sm n t) (h : IDN T id) : 12 ≤ id := by
  obtain ⟨x, h1, h2, h3⟩ := h
  obtain ⟨i, j, -, -, -, -, -, -, -, id', e1, e2, -, -, e5⟩ := hX.nm h1 h2
  by_cases c : 12 ≤ id'
  · omega
  · rw [if_neg c] at e5
    omega
/-- behind cutting, all is ready to be read -/
theorem in0 (hX : TX T sc0 sm0 n t) (c1 : CC T sc0) (c2 : MC T sm0) (c3 : CU T sc0 0) (c4 : CX T sc0) (c5 : ∀ k, k < T.z → FRS T sc0 sm0 k) (c6 : sm0 84 6 = 0) (cw : CWc s1 sc0 T.m) (c30 : sc0 30 = s1 30) (mw : CWm m1 sm0) (hT : TWF T)
    (f30 : ∀ j, j < 11 → s1 30 j = -1) (a31 : s1 31 8 = 0) (a46 : s1 46 7 = 0) (a54 : s1 54 6 = 0) (a61 : s1 61 4 = 0) (a66 : s1 66 7 = 0) (a70 : s1 70 9 = 0) (b19 : m1 84 19 = 0) (b31 : m1 84 31 = 0) (b34 : m1 84 34 = 0) (b47 : m1 84 47 = 0) (b57 : m1 84 57 = 0) : IN0 T sc0 sm0 := by
  obtain ⟨w1, w2, w3, w4, w5, w6, w7, w8, w9, w10, w11⟩ := cw
  refine ⟨c1, c2, c3, c6, by rw [w10 46 (by decide)]; exact a46, by rw [mw.2 47 (by decide) (by decide) (by decide)]; exact b47, by rw [mw.2 57 (by decide) (by decide) (by decide)]; exact b57, by rw [w10 66 (by decide)]; exact a66, c5, by rw [w10 54 (by decide)]; exact a54, by rw [mw.2 19 (by decide) (by decide) (by decide)]; exact b19, by rw [mw.2 31 (by decide) (by decide) (by decide)]; exact b31, by rw [mw.2 34 (by decide) (by decide) (by decide)]; exact b34, by rw [w10 61 (by decide)]; exact a61, by rw [w7]; exact a31, by rw [w10 70 (by decide)]; exact a70, ?_, fun id hid => w9 id (hid.ge hX) (hid.lt hT), c4⟩
  unfold CN
  rw [c30]
  exact ⟨f30 4 (by decide), f30 5 (by decide), f30 6 (by decide), f30 7 (by decide)⟩
/-- the reference takes the text -/
theorem m196b (h1 : sm 84 1 = (n : Int)) (hn : n ≤ 8192) : ∃ m2 : Sg, f_196 sm = j_196_66 m2 ∧ (∀ c, c ≠ 84 → c ≠ 86 → m2 c = sm c) ∧ (∀ i, i < n → m2 86 i = sm 85 i) ∧ m2 84 3 = (n : Int) ∧ m2 84 0 = 0 ∧ m2 84 5 = 0 ∧ m2 84 6 = 0 ∧ m2 84 8 = -1 ∧ m2 84 72 = 0 ∧ (∀ j, j ≠ 0 → j ≠ 3 → j ≠ 5 → j ≠ 6 → j ≠ 7 → j ≠ 8 → j ≠ 72 → m2 84 j = sm 84 j) := by
  obtain ⟨m0, hm0⟩ : ∃ s : Sg, s = ax_u2 (ax_u2 (ax_u2 (ax_u2 (ax_u2 (ax_u2 (ax_u2 sm 84 0 0) 84 5 0) 84 6 0) 84 7 0) 84 8 (-1)) 84 72 0) 84 3 (sm 84 1) := ⟨_, rfl⟩
  have r0 : ∀ c, c ≠ 84 → m0 c = sm c := fun c x => by rw [hm0, u2_row _ _ _ x, u2_row _ _ _ x, u2_row _ _ _ x, u2_row _ _ _ x, u2_row _ _ _ x, u2_row _ _ _ x, u2_row _ _ _ x]
  have rj : ∀ j, j ≠ 0 → j ≠ 3 → j ≠ 5 → j ≠ 6 → j ≠ 7 → j ≠ 8 → j ≠ 72 → m0 84 j = sm 84 j := fun j x0 x3 x5 x6 x7 x8 x72 => by rw [hm0, u2_col _ _ _ x3, u2_col _ _ _ x72, u2_col _ _ _ x8, u2_col _ _ _ x7, u2_col _ _ _ x6, u2_col _ _ _ x5, u2_col _ _ _ x0]
  have g1 : m0 84 1 = (n : Int) := by rw [rj 1 (by decide) (by decide) (by decide) (by decide) (by decide) (by decide) (by decide)]; exact h1
  have go : ∀ (r l F : Nat) (z : Sg), l + r = n → (∀ c, c ≠ 86 → z c = m0 c) → (∀ i, i < l → z 86 i = sm 85 i) → ∃ m2 : Sg, j_196_40 (F + r + 1) (l : Int) z = j_196_66 m2 ∧ (∀ c, c ≠ 86 → m2 c = m0 c) ∧ (∀ i, i < n → m2 86 i = sm 85 i) := by
    intro r
    induction r with
    | zero =>
      intro l F z hl p1 p2
      exact ⟨z, by rw [j_196_40, p1 84 (by decide), g1, if_pos (by omega)], p1, fun i hi => p2 i (by omega)⟩
    | succ r ih =>
      intro l F z hl p1 p2
      rw [show F + (r + 1) + 1 = (F + r + 1) + 1 by omega, j_196_40, p1 84 (by decide), g1, if_neg (by omega), gd_pos (by omega), gd_pos (by omega), w32_nat (by omega), Int.toNat_natCast]
      refine ih (l + 1) F _ (by omega) (fun c x => by rw [u2_row _ _ _ x]; exact p1 c x) (fun i hi => ?_)
      by_cases e : i = l
      · rw [e, u2_same, p1 85 (by decide), r0 85 (by decide)]
      · rw [u2_col _ _ _ e]; exact p2 i (by omega)
  obtain ⟨F, hF⟩ := FU_split (k := n + 1) (by omega)
  obtain ⟨m2, e1, e2, e3⟩ := go n 0 F m0 (by omega) (fun _ _ => rfl) (fun i hi => absurd hi (by omega))
  rw [show F + n + 1 = FU by omega] at e1
  refine ⟨m2, ?_, fun c x y => by rw [e2 c y, r0 c x], e3, ?_, ?_, ?_, ?_, ?_, ?_, fun j x0 x3 x5 x6 x7 x8 x72 => by rw [e2 84 (by decide)]; exact rj j x0 x3 x5 x6 x7 x8 x72⟩
  · unfold f_196
    rw [← hm0]
    exact e1
  · rw [e2 84 (by decide), hm0, u2_same]; exact h1
  · rw [e2 84 (by decide), hm0]; simp [ax_u2]
  · rw [e2 84 (by decide), hm0]; simp [ax_u2]
  · rw [e2 84 (by decide), hm0]; simp [ax_u2]
  · rw [e2 84 (by decide), hm0]; simp [ax_u2]
  · rw [e2 84 (by decide), hm0]; simp [ax_u2]
end RDB
/-! READING as a whole. -/
section RDS
variable {T : TT} {sc sm s s' x s1 sc0 : Sg} {n m : Nat} {t : Nat → Int}
theorem c4_30n (h : ∀ j : Nat, 1 ≤ j → j ≤ 10 → x 30 j = -1) : j_4_30 x = some (.inl (x 54 6, ax_u2 (ax_u2 x 27 1 0) 27 2 1)) := by
  have e : f_68 (ax_u2 x 27 1 0) = some 0 := c68n (fun j a b => by rw [u2_row _ _ _ (by decide)]; exact h j a b)
  have v : ((if ¬ (0 : Int) = 0 then 0 else 1) : Int) = 1 := if_neg (fun u => u rfl)
  unfold j_4_30
  rw [e, Option.bind_some, v, gd_pos (Or.inr rfl), if_pos (by decide)]
theorem c4_30f {j : Nat} (h1 : 1 ≤ j) (h2 : j ≤ 10) (h3 : x 30 j ≠ -1) : j_4_30 x = some (.inr (15, f_180 (f_113 (f_74 (ax_u2 (ax_u2 x 27 1 0) 27 2 0))))) := by
  obtain ⟨r, e, z⟩ := c68f (s := ax_u2 x 27 1 0) h1 h2 (by rw [u2_row _ _ _ (by decide)]; exact h3)
  have v : ((if ¬ r = 0 then 0 else 1) : Int) = 0 := if_pos z
  unfold j_4_30
  rw [e, Option.bind_some, v, gd_pos (Or.inl rfl), if_neg (fun u => u rfl), Option.bind_some, Option.bind_some, Option.bind_some]
theorem NMI.mk (hK : KO s1) (h8 : s1 31 8 = 0) (cw : CWc s1 sc0 m) (r1 : ∀ c, c < 30 ∨ c = 32 ∨ c = 33 ∨ c = 34 ∨ c = 35 → x c = sc0 c) (r2 : ∀ j, j ≠ 8 → x 31 j = sc0 31 j) (w8 : W8 sc0 x) : NMI x := by
  obtain ⟨w1, w2, w3, w4, w5, w6, w7, -, -, w10, -⟩ := cw
  have rk : ∀ c, c < 30 → x c = s1 c := fun c a => by rw [r1 c (Or.inl a), w10 c (Or.inl a)]
  have b := w8 (by rw [w7, h8]; decide)
  refine ⟨hK.row (rk 1 (by decide)) (rk 2 (by decide)) (rk 3 (by decide)) (rk 4 (by decide)) (rk 5 (by decide)), by rw [r2 9 (by decide)]; exact w5, by rw [r2 10 (by decide)]; exact w6, ⟨(x 31 8).toNat, by omega, by omega⟩, Or.inr ⟨m, w1.congr (r2 7 (by decide)) (r1 32 (by decide)) (r1 33 (by decide)) (r1 34 (by decide)) (r1 35 (by decide)), w2, w3, ?_⟩⟩
  unfold WD
  rw [r1 34 (by decide), r1 35 (by decide)]
  exact w4
/-- what reading leaves alone -/
def RFc (s x : Sg) : Prop := (∀ a, a < 30 ∨ 81 < a → x a = s a) ∧ RB x
def RFm (s y : Sg) : Prop := (∀ a, a < 84 ∨ a = 85 ∨ a = 87 ∨ 135 < a → y a = s a) ∧ y 84 0 = 0 ∧ y 84 1 = 0 ∧ y 84 5 = 0 ∧ (∀ j, j = 2 ∨ j = 4 ∨ j = 9 ∨ 72 < j → y 84 j = s 84 j) ∧ RM y
/-- reading: the same number of statements, or a fault on both sides -/
theorem read_sim (hN : NMI sc) (h27 : sc 27 1 = (n : Int)) (hn : n ≤ 8192) (h84 : sm 84 1 = (n : Int)) (ht : ∀ i, i < n → sc 28 i % 256 = sm 85 i ∧ 0 ≤ sm 85 i ∧ sm 85 i < 256) :
    (∃ (T : TT) (t : Nat → Int) (sc0 sm0 sc1 sm1 x y : Sg) (S P A N K C : Nat), f_4 sc = some (.inl ((S : Int), ax_u2 (ax_u2 x 27 1 0) 27 2 1)) ∧ f_196 sm = some ((S : Int), ax_u2 y 84 5 1) ∧ TWF T ∧ POS T ∧ TX T sc0 sm0 n t ∧ PS0 T sc0 sm0 sc1 sm1 T.z S P A N K C 1 ∧ CHO sc1 sm1 x y N ∧ y 84 6 = 0 ∧ NMI x ∧ RFc sc x ∧ RFm sm y ∧ XO T sc0 ∧ t = sm 85) ∨
    (∃ x y : Sg, f_4 sc = some (.inr (15, f_180 (f_113 (f_74 (ax_u2 (ax_u2 x 27 1 0) 27 2 0))))) ∧ f_196 sm = some (0, ax_u2 y 84 0 1) ∧ 0 < y 84 6 ∧ NMI x ∧ RFc sc x ∧ RFm sm y) := by
  obtain ⟨s1, e14, n1, n2, n3, n4, n5, n6, n7, n8, n9, n10, n11, n12, n13, n14, n15⟩ := c14 hN
  obtain ⟨m2, f1, f2, f3, f4, f5, f6, f7, f8, f9, f10⟩ := m196b h84 hn
  have r30 : ∀ c, c < 30 → s1 c = sc c := fun c x => n14 c (Or.inl x) (by omega) (by omega) (by omega) (by omega) (by omega) (by omega) (by omega)
  have r82 : ∀ c, 81 < c → s1 c = sc c := fun c x => n14 c (Or.inr (by omega)) (by omega) (by omega) (by omega) (by omega) (by omega) (by omega) (by omega)
  have hK : KO s1 := hN.1.row (r30 1 (by decide)) (r30 2 (by decide)) (r30 3 (by decide)) (r30 4 (by decide)) (r30 5 (by decide))
  obtain ⟨m1, hm1⟩ : ∃ z : Sg, z = ax_u2 (ax_u2 (ax_u2 (ax_u2 (ax_u2 (ax_u2 m2 84 1 0) 84 19 0) 84 31 0) 84 34 0) 84 47 0) 84 57 0 := ⟨_, rfl⟩
  have mr : ∀ c, c ≠ 84 → m1 c = m2 c := fun c a => by rw [hm1, u2_row _ _ _ a, u2_row _ _ _ a, u2_row _ _ _ a, u2_row _ _ _ a, u2_row _ _ _ a, u2_row _ _ _ a]
  have mj : ∀ j, j ≠ 1 → j ≠ 19 → j ≠ 31 → j ≠ 34 → j ≠ 47 → j ≠ 57 → m1 84 j = m2 84 j := fun j a b c d e f => by rw [hm1, u2_col _ _ _ f, u2_col _ _ _ e, u2_col _ _ _ d, u2_col _ _ _ c, u2_col _ _ _ b, u2_col _ _ _ a]
  have z1 : m1 84 1 = 0 := by rw [hm1]; simp [ax_u2]
  have z19 : m1 84 19 = 0 := by rw [hm1]; simp [ax_u2]
  have z31 : m1 84 31 = 0 := by rw [hm1]; simp [ax_u2]
  have z34 : m1 84 34 = 0 := by rw [hm1]; simp [ax_u2]
  have z47 : m1 84 47 = 0 := by rw [hm1]; simp [ax_u2]
  have z57 : m1 84 57 = 0 := by rw [hm1]; simp [ax_u2]
  have q : ∀ j, j < 19 → j ≠ 1 → m1 84 j = m2 84 j := fun j a b => mj j b (by omega) (by omega) (by omega) (by omega) (by omega)
  have hM : MT m1 n (sm 85) := ⟨by rw [q 3 (by decide) (by decide)]; exact f4, hn, fun i hi => ⟨by rw [mr 86 (by decide)]; exact f3 i hi, (ht i hi).2⟩⟩
  have s27 : s1 27 1 = (n : Int) := by rw [r30 27 (by decide)]; exact h27
  -- what is left alone
  have rfm : ∀ sm0 y : Sg, CWm m1 sm0 → (∀ a, a < 84 ∨ a = 85 ∨ a = 87 ∨ 135 < a → y a = sm0 a) → (∀ j, j < 6 ∨ j = 9 ∨ 72 < j → y 84 j = sm0 84 j) → (RM sm0 → RM y) → RFm sm y := fun sm0 y cw a1 a2 a3 => by
    have w : ∀ j, j < 6 ∨ j = 9 ∨ 72 < j → y 84 j = m1 84 j := fun j u => by rw [a2 j u, cw.2 j (by omega) (by omega) (by omega)]
    refine ⟨fun a u => by rw [a1 a u, cw.1 a (by omega), mr a (by omega), f2 a (by omega) (by omega)], by rw [w 0 (by decide), q 0 (by decide) (by decide)]; exact f5, by rw [w 1 (by decide)]; exact z1, by rw [w 5 (by decide), q 5 (by decide) (by decide)]; exact f6, fun j u => ?_, a3 (by unfold RM; rw [cw.2 72 (by decide) (by decide) (by decide), mj 72 (by decide) (by decide) (by decide) (by decide) (by decide) (by decide), f9]; decide)⟩
    rw [w j (by omega), mj j (by omega) (by omega) (by omega) (by omega) (by omega) (by omega), f10 j (by omega) (by omega) (by omega) (by omega) (by omega) (by omega) (by omega)]
  have rfc : ∀ (sc0 x : Sg) (m : Nat), CWc s1 sc0 m → (∀ a, a < 30 ∨ 81 < a → x a = sc0 a) → (RB sc0 → RB x) → RFc sc x := fun sc0 x m cw a1 a3 => by
    refine ⟨fun a u => ?_, a3 (by unfold RB; rw [cw.2.2.2.2.2.2.2.2.2.1 74 (by decide), n15]; decide)⟩
    rw [a1 a u, cw.2.2.2.2.2.2.2.2.2.1 a (by omega)]
    rcases u with u | u
    · exact r30 a u
    · exact r82 a u
  -- a fault
  have flt : ∀ (sc0 sm0 x y : Sg) (m j : Nat), 1 ≤ j → j ≤ 10 → x 30 j ≠ -1 → f_4 sc = j_4_30 x → f_196 sm = j_196_188 y → 0 < y 84 6 → NMI x → RFc sc x → RFm sm y → (∃ x y : Sg, f_4 sc = some (.inr (15, f_180 (f_113 (f_74 (ax_u2 (ax_u2 x 27 1 0) 27 2 0))))) ∧ f_196 sm = some (0, ax_u2 y 84 0 1) ∧ 0 < y 84 6 ∧ NMI x ∧ RFc sc x ∧ RFm sm y) := fun sc0 sm0 x y m j j1 j2 j3 a1 a2 a3 a4 a5 a6 => by
    refine ⟨x, y, by rw [a1, c4_30f j1 j2 j3], ?_, a3, a4, a5, a6⟩
    rw [a2]
    unfold j_196_188
    rw [if_neg (by omega), Option.bind_some]
    rfl
  rcases cut_sim n1 n2 hK n4 n5 s27 hn (fun i hi => by rw [r30 28 (by decide)]; exact (ht i hi).1) hM (by rw [q 6 (by decide) (by decide)]; exact f7) with ⟨T, sc0, sm0, a1, a2, a3, a4, a5, a6, a7, a8, a9, a10, a11, a12, a13, a14, a15⟩ | ⟨sc0, sm0, m, a1, a2, a3, a4, a5, a6, a7⟩
  · have hi := in0 a9 a5 a6 a7 a8 a10 a11 a12 a13 a14 a3 n6 n3 n8 n9 n10 n11 n12 z19 z31 z34 z47 z57
    have c0 : f_4 sc = (f_15 sc0).bind fun q3 => j_4_26 q3 := by
      unfold f_4
      rw [e14, Option.bind_some, a1, Option.bind_some]
      rfl
    have d0 : f_196 sm = (f_209 sm0).bind fun q10 => j_196_111 q10 := by
      rw [f1]
      unfold j_196_66
      rw [← hm1, a2, Option.bind_some, if_neg (fun u => u a11)]
    have g8 : sm0 84 8 = -1 := by rw [a14.2 8 (by decide) (by decide) (by decide), q 8 (by decide) (by decide)]; exact f8
    have g30 : ∀ j : Nat, 1 ≤ j → j ≤ 10 → sc0 30 j = -1 := fun j _ v => by rw [a13]; exact n6 j (by omega)
    rcases all_sim a3 a4 hi with ⟨sc1, sm1, S, P, A, N, K, C, b1, b2, b3, ps⟩ | ⟨sc1, mF, b1, b2, b3, b4, b5, b6⟩
    · obtain ⟨x, y, k1, k2, cho⟩ := chk_in a3 a4 ps a9 g30 g8
      have c1 : f_4 sc = j_4_30 x := by
        rw [c0, b1, Option.bind_some]
        unfold j_4_26
        rw [k1, Option.bind_some]
      have d1 : f_196 sm = j_196_188 y := by rw [d0, b2, Option.bind_some, k2]
      obtain ⟨hB, h70, h19, -⟩ := id ps
      obtain ⟨e1, e2, e3, e4, e5, e6, e7, e8, e9, e10, e11, e12, e13, e14', e15, e16, -⟩ := hB
      obtain ⟨o1, o2, o3, o4, o5, o6, o7, o8, o9, o10⟩ := id cho
      have nmi : NMI x := NMI.mk hK n3 a12 (fun c u => by rw [o1 c (by omega) (by omega) (by omega), e15.1 c (by omega)]) (fun j u => by rw [o1 31 (by decide) (by decide) (by decide), e15.2.2.2.1 j u]) (fun u => by rw [o1 31 (by decide) (by decide) (by decide)]; exact e15.2.2.2.2 u)
      have fc : RFc sc x := rfc sc0 x T.m a12 (fun a u => by rw [o1 a (by omega) (by omega) (by omega), e15.1 a (by omega)]) (fun u => o10.1 (by unfold RB at *; rw [e15.1 74 (by decide)]; exact u))
      have fm : RFm sm y := rfm sm0 y a14 (fun a u => by rw [o3 a (by omega) (by omega) (by omega), e16.1 a (by omega)]) (fun j u => by rw [o4 j (by omega) (by omega) (by omega) (by omega), e16.2 j (by omega)]) (fun u => o10.2.1 (by unfold RM at *; rw [e16.2 72 (by decide)]; exact u))
      by_cases z : y 84 6 = 0
      · left
        refine ⟨T, sm 85, sc0, sm0, sc1, sm1, x, y, S, P, A, N, K, C, ?_, ?_, a3, a4, a9, ps, cho, z, nmi, fc, fm, a15, rfl⟩
        · rw [c1, c4_30n (o8.mpr z), o1 54 (by decide) (by decide) (by decide), e10]
        · rw [d1]
          unfold j_196_188
          rw [if_pos (by omega), o4 19 (by decide) (by decide) (by decide) (by decide), h19]
      · right
        obtain ⟨j, j1, j2, j3⟩ : ∃ j : Nat, 1 ≤ j ∧ j ≤ 10 ∧ x 30 j ≠ -1 := by
          apply Classical.byContradiction
          intro hn
          exact z (o8.mp (fun j u v => Decidable.byContradiction (fun w => hn ⟨j, u, v, w⟩)))
        exact flt sc0 sm0 x y T.m j j1 j2 j3 c1 d1 (by omega) nmi fc fm
    · right
      obtain ⟨j, j1, j2, j3⟩ : ∃ j : Nat, 1 ≤ j ∧ j ≤ 3 ∧ sc1 30 j ≠ -1 := by
        rcases b4 with u | u
        · exact ⟨2, by decide, by decide, u⟩
        · exact ⟨3, by decide, by decide, u⟩
      refine flt sc0 sm0 sc1 mF T.m j j1 (by omega) j3 ?_ ?_ b6 (NMI.mk hK n3 a12 (fun c u => b3.1 c (by omega)) (fun j u => b3.2.2.2.1 j u) b3.2.2.2.2) (rfc sc0 sc1 T.m a12 (fun a u => b3.1 a (by omega)) (fun u => by unfold RB at *; rw [b3.1 74 (by decide)]; exact u)) (rfm sm0 mF a14 (fun a u => b5.1 a (by omega)) (fun j u => b5.2 j (by omega)) (fun u => by unfold RM at *; rw [b5.2 72 (by decide)]; exact u))
      · rw [c0, b1, Option.bind_some]
        unfold j_4_26
        rw [c16_0 j1 j2 j3, Option.bind_some]
      · rw [d0, b2, Option.bind_some, (m196f (by omega)).2.2.2.2.2.2]
  · right
    refine flt sc0 sm0 sc0 sm0 m 1 (by decide) (by decide) a3 ?_ ?_ (by omega) (NMI.mk hK n3 a6 (fun _ _ => rfl) (fun _ _ => rfl) (fun u => u)) (rfc sc0 sc0 m a6 (fun _ _ => rfl) id) (rfm sm0 sm0 a7 (fun _ _ => rfl) (fun _ _ => rfl) id)
    · unfold f_4
      rw [e14, Option.bind_some, a1, Option.bind_some]
      rfl
    · rw [f1]
      unfold j_196_66
      rw [← hm1, a2, Option.bind_some, if_pos (by omega), (m196f (by omega)).2.2.2.2.2.2]
end RDS
/-! PRINTING: gaps. -/
def prqb (p q : Int) : Bool := decide ((((p ∈ opA ∧ q ∈ opS) ∨ (p ∈ opB ∧ q ∈ opF) ∨ (p = 1 ∧ (q = 91 ∨ q = 40)) ∨ ((p = 25 ∨ p = 26 ∨ p = 27) ∧ q = 40) ∨ (p = 40 ∧ q = 41) ∨ (p = 46 ∧ q = 2))) ∨ (p ∈ opB ∧ (q = 59 ∨ q = 123)) ∨ (p, q) ∈ psl ∨ ((p = 59 ∨ p = 125) ∧ 17 ≤ q ∧ q ≤ 20) ∨ (17 ≤ p ∧ p ≤ 20 ∧ q = 1) ∨ ((p = 123 ∨ p = 59 ∨ p = 125) ∧ (q = 1 ∨ q = 21 ∨ q = 23 ∨ q = 24 ∨ q = 125)) ∨ (p = 125 ∧ q = 22))
theorem prqb_of {p q : Int} (h : PRQ p q) : prqb p q = true := decide_eq_true h
/-- kinds that may come next to each other once brackets are dropped -/
def gpb (p q : Int) : Bool := prqb p q || (decide (p ∈ opA) && prqb 40 q && decide (q ≠ 41)) || (decide (p ≠ 40) && prqb p 41 && prqb 41 q)
/-- the class's gap -/
def gpC (a b : Bool) (p q : Int) : Bool := a || decide (p = 61) || b || decide (q = 61) || decide (f_136 p q (fun _ _ => 0) ≠ 0)
/-- the reference's -/
def gj (q : Int) : Bool := decide (q ≠ 7 ∧ q ≠ 8)
def gpR (a b : Bool) (p q : Int) : Bool := if a || decide (p = 61) || b || decide (q = 61) then gj (km q) else if km p = 8 ∨ km p = 7 ∨ km p = 13 ∨ km p = 14 then gj (km q) else if km q = 14 then gj (km q) else if km q = 13 then true else if f_250 (km p) (fun _ _ => 0) ≠ 0 ∨ km p = 16 ∨ km p = 12 then decide (f_250 (km q) (fun _ _ => 0) ≠ 0) else false
def gok (p q : Int) : Bool := !gpb p q || decide (17 ≤ q ∧ q ≤ 20) || ((gpC false false p q == gpR false false p q) && (!decide (p ∈ opI) || (gpC true false p q == gpR true false p q)) && (!decide (q ∈ opI) || (gpC false true p q == gpR false true p q)) && (!decide (p ∈ opI) || !decide (q ∈ opI) || (gpC true true p q == gpR true true p q)))
theorem gap_d : ∀ p ∈ kvl, ∀ q ∈ kvl, gok p q = true := by decide +kernel
theorem gap_eq {a b : Bool} {p q : Int} (hp : p ∈ kvl) (hq : q ∈ kvl) (h : gpb p q = true) (hs : ¬ (17 ≤ q ∧ q ≤ 20)) (ha : a = true → p ∈ opI) (hb : b = true → q ∈ opI) : gpC a b p q = gpR a b p q := by
  have d := gap_d p hp q hq
  unfold gok at d
  rw [h, decide_eq_false hs] at d
  simp only [Bool.not_true, Bool.false_or, Bool.and_eq_true, Bool.or_eq_true, beq_iff_eq, Bool.not_eq_true', decide_eq_false_iff_not] at d
  obtain ⟨⟨⟨d1, d2⟩, d3⟩, d4⟩ := d
  cases a <;> cases b
  · exact d1
  · exact d3.resolve_left (fun u => u (hb rfl))
  · exact d2.resolve_left (fun u => u (ha rfl))
  · rcases d4 with (u | u) | u
    · exact absurd (ha rfl) u
    · exact absurd (hb rfl) u
    · exact u
/-! PRINTING: bytes written, decimals. -/
section WRI
variable {s sc sm : Sg} {v w : Int} {n : Nat} {t : Nat → Int}
def cwr (s : Sg) (B : List Int) : Sg := B.foldl (fun s b => f_134 b s) s
def mwr (s : Sg) (B : List Int) : Sg := B.foldl (fun s b => f_221 b s) s
theorem cwr_nil (s : Sg) : cwr s [] = s := rfl
theorem mwr_nil (s : Sg) : mwr s [] = s := rfl
theorem cwr_cons (s : Sg) (b : Int) (B : List Int) : cwr s (b :: B) = cwr (f_134 b s) B := rfl
theorem mwr_cons (s : Sg) (b : Int) (B : List Int) : mwr s (b :: B) = mwr (f_221 b s) B := rfl
theorem cwr_app (s : Sg) (A B : List Int) : cwr s (A ++ B) = cwr (cwr s A) B := List.foldl_append
theorem mwr_app (s : Sg) (A B : List Int) : mwr s (A ++ B) = mwr (mwr s A) B := List.foldl_append
def WC (s : Sg) : Prop := 0 ≤ s 82 2 ∧ s 82 2 ≤ 16384
theorem WC.g (h : WC s) (b : Int) : g_134 b s := by
  unfold g_134
  exact ⟨fun _ => trivial, fun a => ⟨⟨h.1, by omega⟩, trivial⟩⟩
theorem c134_row (b : Int) (s : Sg) {c : Nat} (h : c ≠ 82) (h' : c ≠ 83) : f_134 b s c = s c := by
  unfold f_134
  split
  · rfl
  · rw [u2_row _ _ _ h, u2_row _ _ _ h']
theorem c134_j (b : Int) (s : Sg) {j : Nat} (h : j ≠ 2) : f_134 b s 82 j = s 82 j := by
  unfold f_134
  split
  · rfl
  · rw [u2_col _ _ _ h, u2_row _ _ _ (by decide)]
theorem c134_len (b : Int) (h : WC s) : f_134 b s 82 2 = (if 16384 ≤ s 82 2 then s 82 2 else s 82 2 + 1) := by
  unfold f_134
  split
  · rfl
  · rw [u2_at, if_pos rfl, w32_id (by have := h.1; omega) (by omega)]
theorem WC.put (h : WC s) (b : Int) : WC (f_134 b s) := by
  unfold WC
  rw [c134_len b h]
  have := h.1
  have := h.2
  split <;> omega
theorem WC.wr : ∀ (B : List Int) (s : Sg), WC s → WC (cwr s B) := by
  intro B
  induction B with
  | nil => intro s h; exact h
  | cons b B ih => intro s h; exact ih _ (h.put b)
theorem cwr_row {c : Nat} (h : c ≠ 82) (h' : c ≠ 83) : ∀ (B : List Int) (s : Sg), cwr s B c = s c := by
  intro B
  induction B with
  | nil => intro s; rfl
  | cons b B ih => intro s; rw [cwr_cons, ih, c134_row b s h h']
theorem cwr_j {j : Nat} (h : j ≠ 2) : ∀ (B : List Int) (s : Sg), cwr s B 82 j = s 82 j := by
  intro B
  induction B with
  | nil => intro s; rfl
  | cons b B ih => intro s; rw [cwr_cons, ih, c134_j b s h]
theorem cwr_len : ∀ (B : List Int) (s : Sg), 0 ≤ s 82 2 → s 82 2 + (B.length : Int) ≤ 16384 → cwr s B 82 2 = s 82 2 + (B.length : Int) := by
  intro B
  induction B with
  | nil => intro s _ _; simp [cwr_nil]
  | cons b B ih =>
    intro s h1 h2
    rw [List.length_cons] at h2 ⊢
    have e := c134_len b (s := s) ⟨h1, by omega⟩
    rw [if_neg (by omega)] at e
    rw [cwr_cons, ih _ (by rw [e]; omega) (by rw [e]; omega), e]
    omega
theorem cwr_at : ∀ (B : List Int) (s : Sg) (L : Nat), s 82 2 = (L : Int) → L + B.length ≤ 16384 → (∀ i, i < L → cwr s B 83 i = s 83 i) ∧ (∀ i, i < B.length → cwr s B 83 (L + i) % 256 = B.getD i 0 % 256) := by
  intro B
  induction B with
  | nil => intro s L _ _; exact ⟨fun _ _ => rfl, fun i hi => absurd hi (by simp)⟩
  | cons b B ih =>
    intro s L h1 h2
    rw [List.length_cons] at h2
    have e := c134_len b (s := s) ⟨by omega, by omega⟩
    rw [if_neg (by omega)] at e
    have r : f_134 b s 83 = ax_u2 s 83 L (ax_w8 (ax_w8 b)) 83 := by
      unfold f_134
      rw [if_neg (by omega), u2_row _ _ _ (by decide), h1, Int.toNat_natCast]
    obtain ⟨i1, i2⟩ := ih (f_134 b s) (L + 1) (by rw [e, h1]; omega) (by omega)
    refine ⟨fun i hi => ?_, fun i hi => ?_⟩
    · rw [cwr_cons, i1 i (by omega), r, u2_col _ _ _ (by omega)]
    · rw [List.length_cons] at hi
      cases i with
      | zero => rw [cwr_cons, Nat.add_zero, i1 L (by omega), r, u2_at, if_pos rfl, w8_mod, w8_mod]; rfl
      | succ i =>
        have := i2 i (by omega)
        rw [cwr_cons, show L + (i + 1) = L + 1 + i by omega, this]
        rfl
theorem m221_row (b : Int) (s : Sg) {c : Nat} (h : c ≠ 84) (h' : c ≠ 87) : f_221 b s c = s c := by
  unfold f_221
  rw [u2_row _ _ _ h, u2_row _ _ _ h']
theorem m221_j (b : Int) (s : Sg) {j : Nat} (h : j ≠ 9) : f_221 b s 84 j = s 84 j := by
  unfold f_221
  rw [u2_col _ _ _ h, u2_row _ _ _ (by decide)]
theorem m221_len (b : Int) (h : 0 ≤ s 84 9) (h' : s 84 9 < 25000) : f_221 b s 84 9 = s 84 9 + 1 := by
  unfold f_221
  rw [u2_at, if_pos rfl, w32_id (by omega) (by omega)]
theorem mwr_row {c : Nat} (h : c ≠ 84) (h' : c ≠ 87) : ∀ (B : List Int) (s : Sg), mwr s B c = s c := by
  intro B
  induction B with
  | nil => intro s; rfl
  | cons b B ih => intro s; rw [mwr_cons, ih, m221_row b s h h']
theorem mwr_j {j : Nat} (h : j ≠ 9) : ∀ (B : List Int) (s : Sg), mwr s B 84 j = s 84 j := by
  intro B
  induction B with
  | nil => intro s; rfl
  | cons b B ih => intro s; rw [mwr_cons, ih, m221_j b s h]
theorem mwr_len : ∀ (B : List Int) (s : Sg), 0 ≤ s 84 9 → s 84 9 + (B.length : Int) ≤ 25000 → mwr s B 84 9 = s 84 9 + (B.length : Int) := by
  intro B
  induction B with
  | nil => intro s _ _; simp [mwr_nil]
  | cons b B ih =>
    intro s h1 h2
    rw [List.length_cons] at h2 ⊢
    have e := m221_len b (s := s) h1 (by omega)
    rw [mwr_cons, ih _ (by rw [e]; omega) (by rw [e]; omega), e]
    omega
theorem mwr_at : ∀ (B : List Int) (s : Sg) (L : Nat), s 84 9 = (L : Int) → L + B.length ≤ 25000 → (∀ i, i < L → mwr s B 87 i = s 87 i) ∧ (∀ i, i < B.length → mwr s B 87 (L + i) = B.getD i 0) := by
  intro B
  induction B with
  | nil => intro s L _ _; exact ⟨fun _ _ => rfl, fun i hi => absurd hi (by simp)⟩
  | cons b B ih =>
    intro s L h1 h2
    rw [List.length_cons] at h2
    have e := m221_len b (s := s) (by omega) (by omega)
    have r : f_221 b s 87 = ax_u2 s 87 L b 87 := by
      unfold f_221
      rw [u2_row _ _ _ (by decide), h1, Int.toNat_natCast]
    obtain ⟨i1, i2⟩ := ih (f_221 b s) (L + 1) (by rw [e, h1]; omega) (by omega)
    refine ⟨fun i hi => ?_, fun i hi => ?_⟩
    · rw [mwr_cons, i1 i (by omega), r, u2_col _ _ _ (by omega)]
    · rw [List.length_cons] at hi
      cases i with
      | zero => rw [mwr_cons, Nat.add_zero, i1 L (by omega), r, u2_at, if_pos rfl]; rfl
      | succ i =>
        have := i2 i (by omega)
        rw [mwr_cons, show L + (i + 1) = L + 1 + i by omega, this]
        rfl
/-- division -/
theorem ldiv_p (h0 : 0 ≤ v) (h1 : v < 9223372036854775808) (w0 : 0 < w) (w1 : w < 9223372036854775808) : ax_ldiv v w = v / w := by
  unfold ax_ldiv
  rw [Int64.toInt_div, Int64.toInt_ofInt, Int64.toInt_ofInt, Int.bmod_eq_of_le (n := v) (by simp only [Int64.size]; omega) (by simp only [Int64.size]; omega), Int.bmod_eq_of_le (n := w) (by simp only [Int64.size]; omega) (by simp only [Int64.size]; omega), Int.tdiv_eq_ediv_of_nonneg h0]
  have a := Int.ediv_nonneg h0 (Int.le_of_lt w0)
  have b : v / w ≤ v := Int.ediv_le_self _ h0
  rw [Int.bmod_eq_of_le] <;> omega
theorem lrem_p (h0 : 0 ≤ v) (h1 : v < 9223372036854775808) : ax_lrem v 10 = v % 10 := by
  unfold ax_lrem
  rw [Int64.toInt_sub, Int64.toInt_mul, Int64.toInt_div, Int64.toInt_ofInt, Int64.toInt_ofInt, Int.bmod_eq_of_le (n := v) (by simp only [Int64.size]; omega) (by simp only [Int64.size]; omega), Int.bmod_eq_of_le (n := 10) (by decide) (by decide), Int.tdiv_eq_ediv_of_nonneg h0]
  have : (v / 10).bmod (2 ^ 64) = v / 10 := by rw [Int.bmod_eq_of_le] <;> omega
  rw [this]
  have : (v / 10 * 10).bmod (2 ^ 64) = v / 10 * 10 := by rw [Int.bmod_eq_of_le] <;> omega
  rw [this, Int.bmod_eq_of_le] <;> omega
/-- digits -/
def tn (e : Nat) : Int := ((10 ^ e : Nat) : Int)
theorem tn_s (e : Nat) : tn (e + 1) = tn e * 10 := by unfold tn; rw [Nat.pow_succ]; omega
theorem tn_b {e : Nat} (h : e ≤ 13) : 1 ≤ tn e ∧ tn e ≤ 10000000000000 := by
  unfold tn
  have a : 10 ^ e ≤ 10 ^ 13 := Nat.pow_le_pow_right (by decide) h
  have b : 0 < 10 ^ e := Nat.pow_pos (by decide)
  have c : (10 ^ 13 : Nat) = 10000000000000 := by decide
  rw [c] at a
  omega
def dgl (v : Int) : Nat → List Int
  | 0 => [48 + v % 10]
  | e + 1 => (48 + v / tn (e + 1) % 10) :: dgl v e
theorem dgl_len (v : Int) (e : Nat) : (dgl v e).length = e + 1 := by
  induction e with
  | zero => rfl
  | succ e ih => rw [dgl, List.length_cons, ih]
def dxp (v : Int) : Nat → Nat → Nat
  | 0, e => e
  | k + 1, e => if v / tn e < 10 then e else dxp v k (e + 1)
theorem dxp_le {M : Nat} (h : v / tn M < 10) : ∀ k e, e ≤ M → dxp v k e ≤ M := by
  intro k
  induction k with
  | zero => intro e he; exact he
  | succ k ih =>
    intro e he
    rw [dxp]
    split
    · exact he
    · rename_i c
      have : e ≠ M := fun u => c (by rw [u]; exact h)
      exact ih (e + 1) (by omega)
theorem dxp_b : ∀ k e, dxp v k e ≤ e + k := by
  intro k
  induction k with
  | zero => intro e; exact Nat.le_refl _
  | succ k ih =>
    intro e
    rw [dxp]
    split
    · omega
    · have := ih (e + 1); omega
theorem dig_b (h0 : 0 ≤ v) (h1 : v ≤ 1099511627776) {e : Nat} (he : e ≤ 13) : 0 ≤ v / tn e ∧ v / tn e ≤ 1099511627776 ∧ 0 ≤ v / tn e % 10 ∧ v / tn e % 10 < 10 := by
  have a := (tn_b he).1
  have b := Int.ediv_nonneg h0 (show 0 ≤ tn e by omega)
  have c : v / tn e ≤ v := Int.ediv_le_self _ h0
  omega
theorem c137a (h0 : 0 ≤ v) (h1 : v ≤ 1099511627776) : ∀ (e : Nat) (F : Nat) (l5 : Int) (s : Sg), WC s → 0 ≤ l5 → l5 + (e : Int) + 1 ≤ 13 → j_137_37 (F + e + 2) v (tn e) l5 s = some (cwr s (dgl v e)) := by
  intro e
  induction e with
  | zero =>
    intro F l5 s hw hl hb
    have b := tn_b (e := 0) (by omega)
    have d := dig_b h0 h1 (e := 0) (by omega)
    have t0 : tn 0 = 1 := rfl
    rw [show F + 0 + 2 = F + 1 + 1 by omega, j_137_37, if_neg (by omega), if_neg (by rw [cmp_le]; omega), gd_pos (by omega), ldiv_p h0 (by omega) (by omega) (by omega), lrem_p d.1 (by omega), w32_id (z := v / tn 0 % 10) (by omega) (by omega), w32_id (z := 48 + v / tn 0 % 10) (by omega) (by omega), gd_pos (hw.g _), Option.bind_some, ldiv_p (by omega) (by omega) (by omega) (by omega), j_137_37]
    have z : tn 0 / 10 = 0 := rfl
    rw [z]
    by_cases c : 13 ≤ ax_w32 (l5 + 1)
    · rw [if_pos c, t0, Int.ediv_one]; rfl
    · rw [if_neg c, if_pos (by decide), t0, Int.ediv_one]; rfl
  | succ e ih =>
    intro F l5 s hw hl hb
    have b := tn_b (e := e + 1) (by omega)
    have d := dig_b h0 h1 (e := e + 1) (by omega)
    have q : tn (e + 1) / 10 = tn e := by rw [tn_s]; omega
    rw [show F + (e + 1) + 2 = (F + e + 2) + 1 by omega, j_137_37, if_neg (by omega), if_neg (by rw [cmp_le]; omega), gd_pos (by omega), ldiv_p h0 (by omega) (by omega) (by omega), lrem_p d.1 (by omega), w32_id (z := v / tn (e + 1) % 10) (by omega) (by omega), w32_id (z := 48 + v / tn (e + 1) % 10) (by omega) (by omega), gd_pos (hw.g _), Option.bind_some, ldiv_p (by omega) (by omega) (by omega) (by omega), q, w32_id (by omega) (by omega), ih F (l5 + 1) _ (hw.put _) (by omega) (by omega)]
    rfl
theorem c137b (h0 : 0 ≤ v) (h1 : v ≤ 1099511627776) (hw : WC s) : ∀ (k e F : Nat), e + k = 12 → j_137_5 (F + k + 1) v (tn e) (e : Int) s = some (cwr s (dgl v (dxp v k e))) := by
  have fin : ∀ e, e ≤ 12 → j_137_34 v (tn e) s = some (cwr s (dgl v e)) := fun e he => by
    unfold j_137_34
    obtain ⟨F, hF⟩ := FU_split (k := e + 2) (by omega)
    rw [hF]
    exact c137a h0 h1 e F 0 s hw (by omega) (by omega)
  intro k
  induction k with
  | zero =>
    intro e F he
    rw [j_137_5, if_pos (by omega), dxp]
    exact fin e (by omega)
  | succ k ih =>
    intro e F he
    have b := tn_b (e := e) (by omega)
    rw [show F + (k + 1) + 1 = (F + k + 1) + 1 by omega, j_137_5, if_neg (by omega), gd_pos (by omega), ldiv_p h0 (by omega) (by omega) (by omega), dxp]
    by_cases c : v / tn e < 10
    · rw [if_pos (by rw [cmp_lt]; omega), if_pos c]
      exact fin e (by omega)
    · rw [if_neg (by rw [cmp_lt]; omega), if_neg c, w64_id (by omega) (by omega), ← tn_s, w32_nat (by omega)]
      exact ih (e + 1) F (by omega)
theorem c137 (h0 : 0 ≤ v) (h1 : v ≤ 1099511627776) (hw : WC s) : f_137 v s = some (cwr s (dgl v (dxp v 12 0))) := by
  unfold f_137
  obtain ⟨F, hF⟩ := FU_split (k := 13) (by omega)
  rw [hF]
  exact c137b h0 h1 hw 12 0 F rfl
theorem m222a (h0 : 0 ≤ v) (h1 : v ≤ 1099511627776) : ∀ (e : Nat) (F : Nat) (s : Sg), e ≤ 12 → 0 ≤ s 84 9 → s 84 9 + (e : Int) + 1 ≤ 25000 → j_222_54 (F + e + 2) v (tn e) s = some (mwr s (dgl v e)) := by
  intro e
  induction e with
  | zero =>
    intro F s he hl hb
    have b := tn_b (e := 0) (by omega)
    have d := dig_b h0 h1 (e := 0) (by omega)
    have t0 : tn 0 = 1 := rfl
    rw [show F + 0 + 2 = F + 1 + 1 by omega, j_222_54, if_neg (by rw [cmp_le]; omega), gd_pos (by omega), ldiv_p h0 (by omega) (by omega) (by omega), lrem_p d.1 (by omega), w64_id (z := 48 + v / tn 0 % 10) (by omega) (by omega), w32_id (z := 48 + v / tn 0 % 10) (by omega) (by omega), gd_pos (by unfold g_221; exact ⟨⟨by omega, by omega⟩, trivial⟩), Option.bind_some, ldiv_p (by omega) (by omega) (by omega) (by omega), j_222_54]
    have z : tn 0 / 10 = 0 := rfl
    rw [z, if_pos (by decide), t0, Int.ediv_one]
    rfl
  | succ e ih =>
    intro F s he hl hb
    have b := tn_b (e := e + 1) (by omega)
    have d := dig_b h0 h1 (e := e + 1) (by omega)
    have q : tn (e + 1) / 10 = tn e := by rw [tn_s]; omega
    have l := m221_len (48 + v / tn (e + 1) % 10) (s := s) hl (by omega)
    rw [show F + (e + 1) + 2 = (F + e + 2) + 1 by omega, j_222_54, if_neg (by rw [cmp_le]; omega), gd_pos (by omega), ldiv_p h0 (by omega) (by omega) (by omega), lrem_p d.1 (by omega), w64_id (z := 48 + v / tn (e + 1) % 10) (by omega) (by omega), w32_id (z := 48 + v / tn (e + 1) % 10) (by omega) (by omega), gd_pos (by unfold g_221; exact ⟨⟨by omega, by omega⟩, trivial⟩), Option.bind_some, ldiv_p (by omega) (by omega) (by omega) (by omega), q, ih F _ (by omega) (by omega) (by omega)]
    rfl
theorem m222b (h0 : 0 ≤ v) (h1 : v ≤ 1099511627776) (hl : 0 ≤ s 84 9) (hb : s 84 9 + 13 ≤ 25000) : ∀ (k e F : Nat), e + k = 12 → j_222_28 (F + k + 1) v (tn e) s = some (mwr s (dgl v (dxp v k e))) := by
  have fin : ∀ e, e ≤ 12 → j_222_50 v (tn e) s = some (mwr s (dgl v e)) := fun e he => by
    unfold j_222_50
    obtain ⟨F, hF⟩ := FU_split (k := e + 2) (by omega)
    rw [hF]
    exact m222a h0 h1 e F s he hl (by omega)
  intro k
  induction k with
  | zero =>
    intro e F he
    have e12 : e = 12 := by omega
    subst e12
    have t12 : tn 12 = 1000000000000 := by decide
    have q9 : v / tn 12 ≤ 9 := by rw [t12]; omega
    rw [j_222_28, gd_pos (by omega), ldiv_p h0 (by omega) (by omega) (by omega), if_pos (by rw [cmp_le]; omega), dxp]
    exact fin 12 (by omega)
  | succ k ih =>
    intro e F he
    have b := tn_b (e := e) (by omega)
    rw [show F + (k + 1) + 1 = (F + k + 1) + 1 by omega, j_222_28, gd_pos (by omega), ldiv_p h0 (by omega) (by omega) (by omega), dxp]
    by_cases c : v / tn e < 10
    · rw [if_pos (by rw [cmp_le]; omega), if_pos c]
      exact fin e (by omega)
    · rw [if_neg (by rw [cmp_le]; omega), if_neg c, w64_id (by omega) (by omega), ← tn_s]
      exact ih (e + 1) F (by omega)
theorem m222d (h0 : 0 ≤ v) (h1 : v ≤ 1099511627776) (hl : 0 ≤ s 84 9) (hb : s 84 9 + 13 ≤ 25000) : j_222_28 FU v 1 s = some (mwr s (dgl v (dxp v 12 0))) := by
  obtain ⟨F, hF⟩ := FU_split (k := 13) (by omega)
  rw [hF]
  exact m222b h0 h1 hl hb 12 0 F rfl
/-- a number takes no more digits than it had -/
theorem cap_le (x : Int) : cap x ≤ x := by unfold cap; split <;> omega
theorem dvl_lt (t : Nat → Int) : ∀ k i v, (∀ e, i ≤ e → e < i + k → isD (t e) = true) → 0 ≤ v → dvl t k i v < (v + 1) * tn k := by
  intro k
  induction k with
  | zero => intro i v _ _; rw [dvl]; have : tn 0 = 1 := rfl; rw [this]; omega
  | succ k ih =>
    intro i v hd hv
    have h := hd i (Nat.le_refl _) (by omega)
    unfold isD at h
    rw [decide_eq_true_eq] at h
    have cb := cap_b (x := v * 10 + (t i - 48)) (by omega)
    have := ih (i + 1) (cap (v * 10 + (t i - 48))) (fun e a b => hd e (by omega) (by omega)) cb.1
    rw [dvl]
    refine Int.lt_of_lt_of_le this ?_
    rw [tn_s, Int.mul_comm (tn k), ← Int.mul_assoc]
    have cl := cap_le (v * 10 + (t i - 48))
    have p : 0 < 10 ^ k := Nat.pow_pos (by decide)
    exact Int.mul_le_mul_of_nonneg_right (by omega) (by unfold tn; omega)
theorem hvl_lt (t : Nat → Int) : ∀ k i v, (∀ e, i ≤ e → e < i + k → isH (t e) = true) → 0 ≤ v → hvl t k i v < (v + 1) * ((16 ^ k : Nat) : Int) := by
  intro k
  induction k with
  | zero => intro i v _ _; rw [hvl]; omega
  | succ k ih =>
    intro i v hd hv
    have h := hd i (Nat.le_refl _) (by omega)
    unfold isH at h
    rw [decide_eq_true_eq] at h
    have hb : 0 ≤ hxv (t i) ∧ hxv (t i) ≤ 15 := by unfold hxv; split <;> omega
    have cb := cap_b (x := v * 16 + hxv (t i)) (by omega)
    have := ih (i + 1) (cap (v * 16 + hxv (t i))) (fun e a b => hd e (by omega) (by omega)) cb.1
    rw [hvl]
    refine Int.lt_of_lt_of_le this ?_
    have e : ((16 ^ (k + 1) : Nat) : Int) = 16 * ((16 ^ k : Nat) : Int) := by rw [Nat.pow_succ]; omega
    rw [e, ← Int.mul_assoc]
    have cl := cap_le (v * 16 + hxv (t i))
    have p : 0 < 16 ^ k := Nat.pow_pos (by decide)
    exact Int.mul_le_mul_of_nonneg_right (by omega) (by omega)
theorem tn_16 : ∀ k, k ≤ 8 → 16 ^ k ≤ 10 ^ (k + 2) := by decide
theorem num_len {i j : Nat} {k : Int} (h : LXv t n i j k v) (hi : i < j) (hj : j ≤ n) : dxp v 12 0 + 1 ≤ j - i := by
  obtain ⟨h1, h2, h3, h4, h5⟩ := h
  have key : ∀ M : Nat, v < tn (M + 1) → dxp v 12 0 ≤ M := fun M hM => by
    refine dxp_le ?_ 12 0 (by omega)
    have p : 0 < 10 ^ M := Nat.pow_pos (by decide)
    rw [tn_s] at hM
    exact Int.ediv_lt_of_lt_mul (by unfold tn; omega) (by rw [Int.mul_comm]; exact hM)
  unfold nmV at h5
  rw [← h3] at h5
  unfold nmE at h3
  unfold nmOk nmE at h2
  by_cases c : hxq t n i = true
  · rw [if_pos c] at h3 h5 h2
    rw [if_pos c, ← h3, decide_eq_true_eq] at h2
    have l3 := hxq_len c
    have g := rn_ge isH t (n - (i + 2)) (i + 2)
    have b := hvl_lt t (j - (i + 2)) (i + 2) 0 (fun e x y => rn_all isH t (n - (i + 2)) (i + 2) e x (by omega)) (by decide)
    have u := tn_16 (j - (i + 2)) (by omega)
    have := key (j - (i + 2) + 1) (by rw [show j - (i + 2) + 1 + 1 = j - (i + 2) + 2 by omega]; unfold tn; omega)
    omega
  · rw [if_neg c] at h3 h5
    have g := rn_ge isD t (n - i) i
    have b := dvl_lt t (j - i) i 0 (fun e x y => rn_all isD t (n - i) i e x (by omega)) (by decide)
    have := key (j - i - 1) (by rw [show j - i - 1 + 1 = j - i by omega]; omega)
    omega
end WRI
/-! PRINTING: lexemes and gaps. -/
section LXM
variable {T : TT} {sc sm x y : Sg} {n k p : Nat} {t : Nat → Int}
def tbl (t : Nat → Int) : Nat → Nat → List Int
  | 0, _ => []
  | d + 1, i => t i :: tbl t d (i + 1)
theorem tbl_len (t : Nat → Int) : ∀ d i, (tbl t d i).length = d := by
  intro d
  induction d with
  | zero => intro i; rfl
  | succ d ih => intro i; rw [tbl, List.length_cons, ih]
def lxb (T : TT) (sc : Sg) (t : Nat → Int) (k : Nat) : List Int := if T.tk k = 2 ∧ sc 45 k ≠ 3 then dgl (T.vl k) (dxp (T.vl k) 12 0) else tbl t (sc 43 k).toNat (T.fm k).toNat
def AC (sc x : Sg) : Prop := (∀ c, c ≠ 82 → c ≠ 83 → x c = sc c) ∧ WC x
def AM (sm y : Sg) : Prop := (∀ c, c ≠ 84 → c ≠ 87 → y c = sm c) ∧ (∀ j, j ≠ 0 → j ≠ 9 → y 84 j = sm 84 j)
theorem AC.wr (h : AC sc x) (B : List Int) : AC sc (cwr x B) := ⟨fun c a b => by rw [cwr_row a b]; exact h.1 c a b, WC.wr B x h.2⟩
theorem AM.wr (h : AM sm y) (B : List Int) : AM sm (mwr y B) := ⟨fun c a b => by rw [mwr_row a b]; exact h.1 c a b, fun j a b => by rw [mwr_j b]; exact h.2 j a b⟩
theorem AC.cc (h : AC sc x) (hc : CC T sc) : CC T x := by
  unfold CC at *
  rw [h.1 39 (by decide) (by decide), h.1 41 (by decide) (by decide), h.1 42 (by decide) (by decide), h.1 44 (by decide) (by decide), h.1 31 (by decide) (by decide), h.1 1 (by decide) (by decide)]
  exact hc
theorem AC.ct (h : AC sc x) (hc : CT sc n t) : CT x n t := hc.congr (by rw [h.1 39 (by decide) (by decide)]) (h.1 40 (by decide) (by decide))
theorem AM.mc (h : AM sm y) (hc : MC T sm) : MC T y := by
  unfold MC at *
  rw [h.2 11 (by decide) (by decide), h.1 88 (by decide) (by decide)]
  exact hc
theorem AM.mt (h : AM sm y) (hc : MT sm n t) : MT y n t := hc.congr (h.2 3 (by decide) (by decide)) (h.1 86 (by decide) (by decide))
theorem AM.tx (h : AM sm y) (hx : TX T sc sm n t) : TX T sc y n t := by
  obtain ⟨h1, h2, h3, h4⟩ := hx
  refine ⟨h1, h.mt h2, h3, ?_⟩
  rw [h.1 89 (by decide) (by decide), h.1 90 (by decide) (by decide)]
  exact h4
theorem c84 (hT : TWF T) (hc : CC T x) (hk : k < T.z) : f_84 (k : Int) x = x 45 k ∧ g_84 (k : Int) x := by
  have h8 := hT.1
  unfold f_84 g_84
  rw [hc.1, Int.toNat_natCast, if_neg (by omega), if_neg (by omega)]
  exact ⟨rfl, fun _ => trivial, fun _ => ⟨fun _ => trivial, fun _ => ⟨by omega, trivial⟩⟩⟩
theorem c133l {i j : Nat} (hT : TWF T) (hc : CC T sc) (hC : CT sc n t) (hk : k < T.z) (h43 : sc 43 k = (j : Int) - i) (hij : i ≤ j) (hjn : j ≤ n) : ∀ (d e F : Nat) (x : Sg), AC sc x → i + e + d = j → j_133_48 (F + d + 1) (k : Int) (i : Int) (e : Int) x = some (cwr x (tbl t d (i + e))) := by
  intro d
  induction d with
  | zero =>
    intro e F x hx he
    obtain ⟨a1, a2⟩ := c82 hT (hx.cc hc) hk
    rw [j_133_48, gd_pos a2, a1, hx.1 43 (by decide) (by decide), h43, if_pos (by omega)]
    rfl
  | succ d ih =>
    intro e F x hx he
    have n8 := hC.2.1
    obtain ⟨a1, a2⟩ := c82 hT (hx.cc hc) hk
    obtain ⟨b1, b2⟩ := (hx.ct hC).at (i + e)
    rw [show F + (d + 1) + 1 = (F + d + 1) + 1 by omega, j_133_48, gd_pos a2, a1, hx.1 43 (by decide) (by decide), h43, if_neg (by omega), w32_add (by omega), b1, gd_pos b2, gd_pos (hx.2.g _), Option.bind_some, w32_nat (by omega), (hx.ct hC).ch (by omega)]
    have q : AC sc (f_134 (t (i + e)) x) := hx.wr [t (i + e)]
    rw [ih (e + 1) F _ q (by omega)]
    rfl
theorem c133 (hT : TWF T) (hc : CC T sc) (hX : TX T sc sm n t) (hk : k < T.z) (hx : AC sc x) : f_133 (k : Int) x = some (cwr x (lxb T sc t k)) := by
  obtain ⟨i, j, a1, a2, a3, a4, a5, a6, -⟩ := hX.2.2.2 k hk
  have n8 := hX.1.2.1
  have by1 : j_133_37 (k : Int) x = some (cwr x (tbl t (sc 43 k).toNat (T.fm k).toNat)) := by
    obtain ⟨b1, b2⟩ := c80 (hx.cc hc) hT (a := k) (by omega)
    unfold j_133_37
    rw [gd_pos b2, b1, a1]
    obtain ⟨F, hF⟩ := FU_split (k := j - i + 1) (by omega)
    have := c133l hT hc hX.1 hk a2 (by omega) a6 (j - i) 0 F x hx (by omega)
    rw [show F + (j - i) + 1 = FU by omega] at this
    have e0 : ((0 : Nat) : Int) = 0 := rfl
    rw [e0] at this
    rw [this, Int.toNat_natCast, a2, show ((j : Int) - i).toNat = j - i by omega]
    rfl
  obtain ⟨c1, c2⟩ := c79 (hx.cc hc) hT (a := k) (by omega)
  obtain ⟨d1, d2⟩ := c84 hT (hx.cc hc) hk
  obtain ⟨e1, e2⟩ := c81 (hx.cc hc) hT hk
  have vb := hT.2.2.2.2.1 k hk
  unfold f_133 lxb
  rw [gd_pos c2, c1]
  by_cases c : T.tk k = 2
  · rw [if_neg (fun u => u c), gd_pos d2, d1, hx.1 45 (by decide) (by decide)]
    by_cases d : sc 45 k = 3
    · rw [if_pos d, by1, if_neg (fun u => u.2 d)]
    · rw [if_neg d, gd_pos e2, e1, c137 vb.1 vb.2 hx.2, Option.bind_some, if_pos ⟨c, d⟩]
  · rw [if_pos c, by1, if_neg (fun u => c u.1)]
theorem m222l {j : Nat} (hM : MT sm n t) (ha : k < 8200) (a2 : sm 90 k = (j : Int)) (hjn : j ≤ n) : ∀ (d l F : Nat) (y : Sg), AM sm y → l + d = j → 0 ≤ y 84 9 → y 84 9 + (d : Int) ≤ 25000 → j_222_97 (F + d + 1) (k : Int) (l : Int) y = some (mwr y (tbl t d l)) := by
  intro d
  induction d with
  | zero =>
    intro l F y hy he hl hb
    rw [j_222_97, gd_pos (by omega), Int.toNat_natCast, hy.1 90 (by decide) (by decide), a2, if_pos (by omega)]
    rfl
  | succ d ih =>
    intro l F y hy he hl hb
    have n8 := hM.2.1
    have q : AM sm (f_221 (t l) y) := hy.wr [t l]
    have ln := m221_len (t l) (s := y) hl (by omega)
    rw [show F + (d + 1) + 1 = (F + d + 1) + 1 by omega, j_222_97, gd_pos (by omega), Int.toNat_natCast, hy.1 90 (by decide) (by decide), a2, if_neg (by omega), gd_pos (by omega), Int.toNat_natCast, ((hy.mt hM).2.2 l (by omega)).1, gd_pos (by unfold g_221; exact ⟨⟨by omega, by omega⟩, trivial⟩), Option.bind_some, w32_nat (by omega), ih (l + 1) F _ q (by omega) (by omega) (by omega)]
    rfl
theorem lxb_len (hT : TWF T) (hX : TX T sc sm n t) (hO : XO T sc) (hk : k < T.z) : T.fm k + ((lxb T sc t k).length : Int) ≤ T.fm (k + 1) := by
  have o := hO k hk
  unfold lxb
  by_cases c : T.tk k = 2
  · obtain ⟨i, j, a1, a2, a3, a4, a5, a6, aL⟩ := hX.nu hk c
    have nl := num_len aL a5 a6
    split
    · rw [dgl_len]; omega
    · rw [tbl_len]; omega
  · obtain ⟨i, j, a1, a2, a3, a4, a5, a6, -⟩ := hX.2.2.2 k hk
    rw [if_neg (fun u => c u.1), tbl_len]
    omega
theorem m222 (hT : TWF T) (hm : MC T sm) (hX : TX T sc sm n t) (hO : XO T sc) (hL : LF T sc sm k) (hP : POS T) (hk : k < T.z) (hy : AM sm y) (hl : 0 ≤ y 84 9) (hb : y 84 9 ≤ 16400) : f_222 (k : Int) y = some (mwr y (lxb T sc t k)) := by
  obtain ⟨i, j, a1, a2, a3, a4, a5, a6, -⟩ := hX.2.2.2 k hk
  have n8 := hX.1.2.1
  have h8 := hT.1
  have by1 : j_222_90 (k : Int) y = some (mwr y (tbl t (sc 43 k).toNat (T.fm k).toNat)) := by
    unfold j_222_90
    rw [gd_pos (by omega), Int.toNat_natCast, hy.1 89 (by decide) (by decide), a3]
    obtain ⟨F, hF⟩ := FU_split (k := j - i + 1) (by omega)
    have := m222l hX.2.1 (k := k) (by omega) a4 a6 (j - i) i F y hy (by omega) hl (by omega)
    rw [show F + (j - i) + 1 = FU by omega] at this
    rw [this, a1, Int.toNat_natCast, a2, show ((j : Int) - i).toNat = j - i by omega]
  have vb := hT.2.2.2.2.1 k hk
  have k2 : km (T.tk k) = 2 ↔ T.tk k = 2 := ⟨fun u => km_inj _ (hT.2.2.1 k hk).1 2 (by decide) (by rw [u]; decide), fun u => by rw [u]; decide⟩
  unfold f_222 lxb
  rw [gd_pos (by omega), Int.toNat_natCast, hy.1 88 (by decide) (by decide), hm.2 k (by omega)]
  by_cases c : T.tk k = 2
  · rw [if_neg (fun u => u (k2.mpr c)), gd_pos (by omega), hy.1 93 (by decide) (by decide), hL.2.2.1]
    by_cases d : sc 45 k = 3
    · rw [if_pos d, if_pos (by decide), by1, if_neg (fun u => u.2 d)]
    · rw [if_neg d, if_neg (by decide), m218 hT (hy.tx hX) hk c, Option.bind_some, m222d vb.1 vb.2 hl (by omega), if_pos ⟨c, d⟩]
  · rw [if_pos (fun u => c (k2.mp u)), by1, if_neg (fun u => c u.1)]
/-- a gap -/
theorem f136_s (p q : Int) (s s' : Sg) : f_136 p q s = f_136 p q s' := rfl
def gpl (b : Bool) : List Int := if b then [32] else []
theorem c132 (hT : TWF T) (hc : CC T sc) (hp : p < T.z) (hk : k < T.z) (hs : ¬ (17 ≤ T.tk k ∧ T.tk k ≤ 20)) (hx : AC sc x) : f_132 (p : Int) (k : Int) x = some (cwr x (gpl (gpC (decide (sc 45 p = 1)) (decide (sc 45 k = 1)) (T.tk p) (T.tk k)))) := by
  obtain ⟨c1, c2⟩ := c79 (hx.cc hc) hT (a := k) (by omega)
  obtain ⟨d1, d2⟩ := c79 (hx.cc hc) hT (a := p) (by omega)
  obtain ⟨e1, e2⟩ := c84 hT (hx.cc hc) hk
  obtain ⟨f1, f2⟩ := c84 hT (hx.cc hc) hp
  rw [hx.1 45 (by decide) (by decide)] at e1 f1
  have g135 : ∀ a : Int, g_84 a x → g_79 a x → g_135 a x := fun a u v => ⟨u, fun _ => trivial, fun _ => ⟨v, trivial⟩⟩
  have e135 : ∀ a : Nat, f_84 (a : Int) x = sc 45 a → f_79 (a : Int) x = T.tk a → (f_135 (a : Int) x = 0 ↔ ¬ (sc 45 a = 1 ∨ T.tk a = 61)) := fun a u v => by
    unfold f_135
    rw [u, v]
    by_cases q1 : sc 45 a = 1
    · rw [if_pos q1]; simp [q1]
    · rw [if_neg q1]
      by_cases q2 : T.tk a = 61
      · rw [if_neg (fun w => w q2)]; simp [q2]
      · rw [if_pos q2]; simp [q1, q2]
  have put : j_132_67 x = some (cwr x [32]) := by
    unfold j_132_67
    rw [gd_pos (hx.2.g _), Option.bind_some]
    rfl
  have main : j_132_36 (p : Int) (k : Int) (T.tk k) x = some (cwr x (gpl (gpC (decide (sc 45 p = 1)) (decide (sc 45 k = 1)) (T.tk p) (T.tk k)))) := by
    have ep := e135 p f1 d1
    have ek := e135 k e1 c1
    unfold j_132_36 gpC gpl
    rw [gd_pos (g135 _ f2 d2)]
    by_cases q1 : sc 45 p = 1 ∨ T.tk p = 61
    · rw [if_pos (fun u => (ep.mp u) q1), put]
      rcases q1 with u | u <;> simp [u]
    · rw [if_neg (fun u => u (ep.mpr q1)), gd_pos (g135 _ e2 c2)]
      by_cases q2 : sc 45 k = 1 ∨ T.tk k = 61
      · rw [if_pos (fun u => (ek.mp u) q2), put]
        rcases q2 with u | u <;> simp [u]
      · rw [if_neg (fun u => u (ek.mpr q2)), gd_pos d2, d1, f136_s _ _ x (fun _ _ => 0)]
        have q1' := not_or.mp q1
        have q2' := not_or.mp q2
        by_cases q3 : f_136 (T.tk p) (T.tk k) (fun _ _ => 0) = 0
        · rw [if_pos q3]; simp [q1'.1, q1'.2, q2'.1, q2'.2, q3, cwr_nil]
        · rw [if_neg q3, put]; simp [q3]
  unfold f_132
  rw [if_pos (by omega), gd_pos c2, c1]
  by_cases a : T.tk k < 17
  · rw [if_pos a, main]
  · rw [if_neg a, if_pos (by omega), main]
theorem c132n (hT : TWF T) (hc : CC T sc) (hk : k < T.z) (hs : 17 ≤ T.tk k ∧ T.tk k ≤ 20) (hx : AC sc x) : f_132 (p : Int) (k : Int) x = some (cwr x [10]) := by
  obtain ⟨c1, c2⟩ := c79 (hx.cc hc) hT (a := k) (by omega)
  unfold f_132
  rw [if_pos (by omega), gd_pos c2, c1, if_neg (by omega), if_neg (by omega), gd_pos (hx.2.g _), Option.bind_some]
  rfl
theorem f250_s (p : Int) (s s' : Sg) : f_250 p s = f_250 p s' := rfl
theorem m220 (hT : TWF T) (hm : MC T sm) (hp : p < T.z) (hk : k < T.z) (hLp : LF T sc sm p) (hLk : LF T sc sm k) (hy : AM sm y) : f_220 (p : Int) (k : Int) y = some (if gpR (decide (sc 45 p = 1)) (decide (sc 45 k = 1)) (T.tk p) (T.tk k) then 1 else 0) := by
  have h8 := hT.1
  have j64 : ∀ q : Int, j_220_64 q y = some (if gj q then 1 else 0) := fun q => by
    unfold j_220_64 gj
    by_cases a : q = 7
    · simp [a]
    · by_cases b : q = 8
      · simp [b]
      · simp [a, b]
  have j112 : ∀ q : Int, j_220_112 q y = some (if decide (f_250 q (fun _ _ => 0) ≠ 0) then 1 else 0) := fun q => by
    unfold j_220_112
    rw [f250_s _ y (fun _ _ => 0)]
    by_cases a : f_250 q (fun _ _ => 0) = 0
    · simp [a]
    · simp [a]
  unfold f_220 gpR
  simp only [gd_pos (show (0 : Int) ≤ (p : Int) ∧ (p : Int) < 8200 by omega), gd_pos (show (0 : Int) ≤ (k : Int) ∧ (k : Int) < 8200 by omega), Int.toNat_natCast, hy.1 88 (by decide) (by decide), hy.1 92 (by decide) (by decide), hm.2 p (by omega), hm.2 k (by omega), hLp.2.1, hLk.2.1, j64, j112, f250_s _ y (fun _ _ => 0)]
  have hA : (decide (sc 45 p = 1) || decide (T.tk p = 61) || decide (sc 45 k = 1) || decide (T.tk k = 61)) = true ↔ ((sc 45 p = 1 ∨ T.tk p = 61) ∨ (sc 45 k = 1 ∨ T.tk k = 61)) := by simp [or_assoc]
  by_cases A : sc 45 p = 1 ∨ T.tk p = 61
  · rw [if_pos A, if_pos (by decide), if_pos (hA.mpr (Or.inl A))]
  · rw [if_neg A, if_neg (by decide)]
    by_cases B : sc 45 k = 1 ∨ T.tk k = 61
    · rw [if_pos B, if_pos (by decide), if_pos (hA.mpr (Or.inr B))]
    · rw [if_neg B, if_neg (by decide), if_neg (fun u => (hA.mp u).elim A B)]
      generalize f_250 (km (T.tk p)) (fun _ _ => 0) = e
      generalize f_250 (km (T.tk k)) (fun _ _ => 0) = d
      generalize gj (km (T.tk k)) = g
      generalize km (T.tk p) = P
      generalize km (T.tk k) = Q
      by_cases p8 : P = 8
      · simp [p8]
      · by_cases p7 : P = 7
        · simp [p7]
        · by_cases p13 : P = 13
          · simp [p13]
          · by_cases p14 : P = 14
            · simp [p14]
            · rw [if_neg p8, if_neg p7, if_neg p13, if_neg p14, if_neg (show ¬ (P = 8 ∨ P = 7 ∨ P = 13 ∨ P = 14) by omega)]
              by_cases q14 : Q = 14
              · simp [q14]
              · by_cases q13 : Q = 13
                · simp [q13]
                · rw [if_pos q14, if_pos q13, if_neg q14, if_neg q13]
                  by_cases e0 : e = 0
                  · by_cases p16 : P = 16
                    · simp [e0, p16]
                    · by_cases p12 : P = 12
                      · simp [e0, p12]
                      · simp [e0, p16, p12]
                  · simp [e0]
end LXM
/-! PRINTING: the whole text. -/
section PRN
variable {T : TT} {sc sm x y : Sg} {n k p : Nat} {t : Nat → Int}
def ENd (T : TT) (k : Nat) : Prop := 1 ≤ k ∧ (T.tk (k - 1) = 59 ∨ T.tk (k - 1) = 125) ∧ dpt T k = 0
/-- p is the last lexeme before k that stays -/
def PV (T : TT) (p k : Nat) : Prop := p + 1 = k ∨ (p < k ∧ T.tk p ∈ opA ∧ T.tk (k - 1) = 40 ∧ T.tk k ≠ 41) ∨ (p < k ∧ T.tk p ≠ 40 ∧ PRQ (T.tk p) 41 ∧ T.tk (k - 1) = 41)
theorem PV.lt (h : PV T p k) : p < k := by
  rcases h with h | h | h
  · omega
  · exact h.1
  · exact h.1
theorem PV.drop (h : PV T p k) (hd : DR T k) (hq : PRQ (T.tk (k - 1)) (T.tk k)) : PV T p (k + 1) := by
  have lt := h.lt
  have e1 : k + 1 - 1 = k := by omega
  unfold PV
  rw [e1]
  rcases h with h | h | h
  · have e : k - 1 = p := by omega
    unfold DR at hd
    rw [e] at hd hq
    rcases hd with ⟨d1, d2, d3⟩ | ⟨d1, d2⟩
    · exact Or.inr (Or.inl ⟨by omega, d2, d1, d3⟩)
    · rw [d1] at hq
      exact Or.inr (Or.inr ⟨by omega, d2, hq, d1⟩)
  · obtain ⟨h1, h2, h3, h4⟩ := h
    rcases hd with ⟨d1, d2, d3⟩ | ⟨d1, d2⟩
    · exact Or.inr (Or.inl ⟨by omega, h2, d1, d3⟩)
    · exact absurd d1 h4
  · obtain ⟨h1, h2, h3, h4⟩ := h
    rcases hd with ⟨d1, d2, d3⟩ | ⟨d1, d2⟩
    · rw [h4] at d2
      exact absurd d2 (by decide)
    · exact Or.inr (Or.inr ⟨by omega, h2, h3, d1⟩)
theorem PV.gp (h : PV T p k) (hq : PRQ (T.tk (k - 1)) (T.tk k)) : gpb (T.tk p) (T.tk k) = true := by
  have hb := prqb_of hq
  unfold gpb
  rcases h with h | ⟨h1, h2, h3, h4⟩ | ⟨h1, h2, h3, h4⟩
  · rw [show k - 1 = p by omega] at hb
    rw [hb]; rfl
  · rw [h3] at hb
    simp [hb, h2, h4]
  · rw [h4] at hb
    simp [hb, h2, prqb_of h3]
theorem dpt_b (T : TT) (k : Nat) : -(k : Int) ≤ dpt T k ∧ dpt T k ≤ (k : Int) := by
  induction k with
  | zero => exact ⟨by simp [dpt], by simp [dpt]⟩
  | succ k ih =>
    rw [dpt]
    split
    · omega
    · split <;> omega
/-- all that printing asks of what was read -/
def PRI (T : TT) (sc sm : Sg) (n : Nat) (t : Nat → Int) : Prop := TWF T ∧ POS T ∧ XO T sc ∧ TX T sc sm n t ∧ CC T sc ∧ MC T sm ∧ (∀ k, k < T.z → LF T sc sm k) ∧ (∀ k, 1 ≤ k → k < T.z → PRQ (T.tk (k - 1)) (T.tk k)) ∧ (∀ k, k < T.z → STT T k) ∧ ENd T T.z
theorem km_7 : ∀ q ∈ kvl, (km q = 7 ↔ q = 59) ∧ (km q = 13 ↔ q = 123) ∧ (km q = 14 ↔ q = 125) := by decide +kernel
theorem m202s (H : PRI T sc sm n t) (hk : k < T.z) (hy : AM sm y) (hl : 0 ≤ y 84 9) (hb : y 84 9 + ((lxb T sc t k).length : Int) ≤ 16384) (K : Int → Int → Int → Sg → Option (Int × Sg)) :
    (ENd T (k + 1) → j_202_65 K (dpt T k) (k : Int) y = K (-1) (dpt T (k + 1)) ((k + 1 : Nat) : Int) (mwr y (lxb T sc t k ++ [10]))) ∧
    (¬ ENd T (k + 1) → j_202_65 K (dpt T k) (k : Int) y = K (k : Int) (dpt T (k + 1)) ((k + 1 : Nat) : Int) (mwr y (lxb T sc t k))) := by
  obtain ⟨hT, hP, hO, hX, hc, hm, hL, hQ, hS, hE⟩ := H
  have h8 := hT.1
  have db := dpt_b T k
  obtain ⟨k7, k13, k14⟩ := km_7 (T.tk k) (hT.2.2.1 k hk).1
  have hy1 := hy.wr (lxb T sc t k)
  have l1 := mwr_len (lxb T sc t k) y hl (by omega)
  have e0 : j_202_65 K (dpt T k) (k : Int) y = j_202_104 K (k : Int) (k : Int) (if T.tk k = 123 then 1 else if T.tk k = 125 then -1 else 0) (dpt T k) (mwr y (lxb T sc t k)) := by
    unfold j_202_65
    rw [m222 hT hm hX hO (hL k hk) hP hk hy hl (by omega), Option.bind_some, gd_pos (by omega), Int.toNat_natCast, hy1.1 88 (by decide) (by decide), hm.2 k (by omega)]
    by_cases a : T.tk k = 123
    · rw [if_neg (fun u => u (k13.mpr a)), if_pos a]
    · rw [if_pos (fun u => a (k13.mp u)), if_neg a, gd_pos (by omega)]
      by_cases b : T.tk k = 125
      · rw [if_neg (fun u => u (k14.mpr b)), if_pos b]
      · rw [if_pos (fun u => b (k14.mp u)), if_neg b]
  have e1 : ax_w32 (dpt T k + (if T.tk k = 123 then 1 else if T.tk k = 125 then -1 else 0)) = dpt T (k + 1) := by
    rw [dpt]
    split
    · rw [w32_id] <;> omega
    · split
      · rw [w32_id] <;> omega
      · rw [w32_id] <;> omega
  have pt : ∀ l2, j_202_137 K (k : Int) l2 (k : Int) 1 (mwr y (lxb T sc t k)) = K (-1) l2 ((k + 1 : Nat) : Int) (mwr y (lxb T sc t k ++ [10])) := fun l2 => by
    unfold j_202_137 j_202_152
    rw [if_neg (by decide), gd_pos (by unfold g_221; exact ⟨⟨by omega, by omega⟩, trivial⟩), Option.bind_some, w32_nat (by omega), mwr_app]
    rfl
  have np : ∀ l2, j_202_137 K (k : Int) l2 (k : Int) 0 (mwr y (lxb T sc t k)) = K (k : Int) l2 ((k + 1 : Nat) : Int) (mwr y (lxb T sc t k)) := fun l2 => by
    unfold j_202_137 j_202_152
    rw [if_pos rfl, w32_nat (by omega)]
  rw [e0]
  unfold j_202_104
  rw [e1, hy1.1 88 (by decide) (by decide), Int.toNat_natCast, hm.2 k (by omega)]
  have en : ENd T (k + 1) ↔ ((T.tk k = 59 ∨ T.tk k = 125) ∧ dpt T (k + 1) = 0) := by
    unfold ENd
    rw [show k + 1 - 1 = k by omega]
    exact ⟨fun u => u.2, fun u => ⟨by omega, u⟩⟩
  rw [en]
  refine ⟨fun u => ?_, fun u => ?_⟩
  · rw [if_neg (fun v => v u.2), gd_pos (by omega)]
    by_cases a : T.tk k = 59
    · rw [if_pos (k7.mpr a)]
      unfold j_202_132
      exact pt _
    · rw [if_neg (fun v => a (k7.mp v)), gd_pos (by omega), if_neg (fun v => v (k14.mpr (u.1.resolve_left a)))]
      exact pt _
  · by_cases d : dpt T (k + 1) = 0
    · have a : ¬ T.tk k = 59 := fun v => u ⟨Or.inl v, d⟩
      have b : ¬ T.tk k = 125 := fun v => u ⟨Or.inr v, d⟩
      rw [if_neg (fun v => v d), gd_pos (by omega), if_neg (fun v => a (k7.mp v)), gd_pos (by omega), if_pos (fun v => b (k14.mp v))]
      exact np _
    · rw [if_pos d]
      unfold j_202_136
      exact np _
def byl (B : List Int) : Prop := ∀ b ∈ B, 0 ≤ b ∧ b < 256
theorem byl.app {A B : List Int} (h : byl A) (k : byl B) : byl (A ++ B) := fun b hb => (List.mem_append.mp hb).elim (h b) (k b)
theorem byl_dgl (v : Int) : ∀ e, byl (dgl v e) := by
  intro e
  induction e with
  | zero => intro b hb; rw [dgl, List.mem_singleton] at hb; omega
  | succ e ih =>
    intro b hb
    rw [dgl, List.mem_cons] at hb
    rcases hb with u | u
    · omega
    · exact ih b u
theorem byl_tbl {sc : Sg} (h : CT sc n t) : ∀ d i, i + d ≤ n → byl (tbl t d i) := by
  intro d
  induction d with
  | zero => intro i _ b hb; rw [tbl] at hb; cases hb
  | succ d ih =>
    intro i hi b hb
    rw [tbl, List.mem_cons] at hb
    rcases hb with u | u
    · rw [u]; exact (h.2.2 i (by omega)).2
    · exact ih (i + 1) (by omega) b u
theorem byl_lxb (hX : TX T sc sm n t) (hk : k < T.z) : byl (lxb T sc t k) := by
  unfold lxb
  obtain ⟨i, j, a1, a2, a3, a4, a5, a6, -⟩ := hX.2.2.2 k hk
  split
  · exact byl_dgl _ _
  · rw [a1, a2, Int.toNat_natCast]
    exact byl_tbl hX.1 _ _ (by omega)
theorem byl_1 {v : Int} (h : 0 ≤ v ∧ v < 256) : byl [v] := fun b hb => by rw [List.mem_singleton] at hb; omega
theorem byl_gpl (b : Bool) : byl (gpl b) := by
  unfold gpl
  split
  · exact byl_1 (by decide)
  · intro b hb; cases hb
theorem prn (H : PRI T sc sm n t) {x0 y0 : Sg} (hx0 : AC sc x0) (hx2 : x0 82 2 = 0) (hy0 : AM sm y0) (hy2 : y0 84 9 = 0) : ∀ (d k Fc Fm : Nat) (B B' : List Int) (l l' : Int), k + d = T.z → byl B → (B.length : Int) ≤ T.fm k + ((k - 1 : Nat) : Int) →
    ((ENd T k ∧ B' = B ++ [10] ∧ l = ((k - 1 : Nat) : Int) ∧ l' = -1) ∨ (¬ ENd T k ∧ B' = B ∧ l' = l ∧ (l = -1 ∨ ∃ p : Nat, l = (p : Int) ∧ PV T p k))) →
    ∃ R : List Int, j_128_9 (Fc + d + 1) l (k : Int) (cwr x0 B) = some (cwr x0 R) ∧ j_202_29 (Fm + d + 1) l' (dpt T k) (k : Int) (mwr y0 B') = some ((R.length : Int), mwr y0 R) ∧ R.length ≤ 16384 ∧ byl R := by
  obtain ⟨hT, hP, hO, hX, hc, hm, hL, hQ, hS, hE⟩ := id H
  have h8 := hT.1
  have fz := hP.2.2.2
  have fmz : ∀ k, k ≤ T.z → T.fm k + ((T.z - k : Nat) : Int) ≤ T.fm T.z := fun k hk => by
    have := hP.add (T.z - k) (k := k) (by omega)
    rw [show k + (T.z - k) = T.z by omega] at this
    exact this
  intro d
  induction d with
  | zero =>
    intro k Fc Fm B B' l l' hk hy hB hI
    have kz : k = T.z := by omega
    subst kz
    rcases hI with ⟨i1, i2, i3, i4⟩ | ⟨i1, -⟩
    · have hxB := hx0.wr B
      have hyB := hy0.wr B'
      have z1 := hE.1
      have len : (B'.length : Int) = (B.length : Int) + 1 := by rw [i2, List.length_append]; simp
      refine ⟨B ++ [10], ?_, ?_, ?_, hy.app (byl_1 (by decide))⟩
      · rw [j_128_9, hxB.1 39 (by decide) (by decide), hc.1, if_pos (by omega)]
        unfold j_128_51
        rw [gd_pos (hxB.2.g _), Option.bind_some, cwr_app]
        rfl
      · rw [j_202_29, hyB.2 11 (by decide) (by decide), hm.1, if_pos (by omega), mwr_len B' y0 (by omega) (by omega), hy2, i2]
        simp
      · rw [List.length_append]
        simp only [List.length_cons, List.length_nil]
        omega
    · exact absurd hE i1
  | succ d ih =>
    intro k Fc Fm B B' l l' hk hy hB hI
    have kz : k < T.z := by omega
    have hLk := hL k kz
    have hSk := hS k kz
    have f1 := hP.1 k kz
    have f2 := fmz (k + 1) (by omega)
    have hxB := hx0.wr B
    obtain ⟨s1, s2⟩ := c84 hT (hxB.cc hc) kz
    rw [hxB.1 45 (by decide) (by decide)] at s1
    have stk : ENd T k ↔ 17 ≤ T.tk k ∧ T.tk k ≤ 20 := ⟨fun u => hSk.mpr u, fun u => hSk.mp u⟩
    have lB' : (B'.length : Int) ≤ (B.length : Int) + 1 := by
      rcases hI with ⟨-, i2, -⟩ | ⟨-, i2, -⟩
      · rw [i2, List.length_append]; simp
      · rw [i2]; omega
    have bl1 : y0 84 9 + (B'.length : Int) ≤ 25000 := by clear hI; omega
    have ylen := mwr_len B' y0 (by clear hI; omega) bl1
    rw [hy2] at ylen
    have hyB := hy0.wr B'
    have EC : j_128_9 ((Fc + d + 1) + 1) l (k : Int) (cwr x0 B) = if sc 45 k = 2 then j_128_45 (j_128_9 (Fc + d + 1)) l (k : Int) (cwr x0 B) else (f_132 l (k : Int) (cwr x0 B)).bind fun q2 => (f_133 (k : Int) q2).bind fun q3 => j_128_45 (j_128_9 (Fc + d + 1)) (k : Int) (k : Int) q3 := by
      clear hI
      rw [j_128_9, hxB.1 39 (by decide) (by decide), hc.1, if_neg (by omega), gd_pos s2, s1]
    have EM : j_202_29 ((Fm + d + 1) + 1) l' (dpt T k) (k : Int) (mwr y0 B') = if ¬ ((if sc 45 k = 2 then 1 else 0 : Int) = 0) then j_202_152 (j_202_29 (Fm + d + 1)) l' (dpt T k) (k : Int) (mwr y0 B') else (if l' < 0 then j_202_65 (j_202_29 (Fm + d + 1)) (dpt T k) (k : Int) (mwr y0 B') else (f_220 l' (k : Int) (mwr y0 B')).bind fun q3 => if q3 = 0 then j_202_65 (j_202_29 (Fm + d + 1)) (dpt T k) (k : Int) (mwr y0 B') else gd (g_221 32 (mwr y0 B')) ((some (f_221 32 (mwr y0 B'))).bind fun q4 => j_202_65 (j_202_29 (Fm + d + 1)) (dpt T k) (k : Int) q4)) := by
      clear hI
      rw [j_202_29, hyB.2 11 (by decide) (by decide), hm.1, if_neg (by omega), gd_pos (by omega), Int.toNat_natCast, hyB.1 91 (by decide) (by decide), hLk.1]
    rw [show Fc + (d + 1) + 1 = (Fc + d + 1) + 1 by omega, show Fm + (d + 1) + 1 = (Fm + d + 1) + 1 by omega, EC, EM]
    by_cases dr : sc 45 k = 2
    · -- dropped
      have hD := hLk.2.2.2.1 dr
      have tk4 : T.tk k = 40 ∨ T.tk k = 41 := by
        rcases hD with u | u
        · exact Or.inl u.1
        · exact Or.inr u.1
      rw [if_pos dr, if_pos dr, if_pos (by decide)]
      unfold j_128_45 j_202_152
      rw [w32_nat (by omega)]
      rcases hI with ⟨i1, -⟩ | ⟨i1, i2, i3, i4⟩
      · have := stk.mp i1
        omega
      · have de : dpt T (k + 1) = dpt T k := by rw [dpt, if_neg (by omega), if_neg (by omega)]; omega
        rw [← de]
        refine ih (k + 1) Fc Fm B B' l l' (by omega) hy (by omega) (Or.inr ⟨?_, i2, i3, ?_⟩)
        · intro u
          have := u.2.1
          rw [show k + 1 - 1 = k by clear i4; omega] at this
          clear i4
          omega
        · rcases i4 with u | ⟨p, u, v⟩
          · exact Or.inl u
          · have := v.lt
            exact Or.inr ⟨p, u, v.drop hD (hQ k (by omega) kz)⟩
    · rw [if_neg dr, if_neg dr, if_neg (by decide)]
      -- the gap
      have gap : ∃ C : List Int, f_132 l (k : Int) (cwr x0 B) = some (cwr x0 C) ∧ (if l' < 0 then j_202_65 (j_202_29 (Fm + d + 1)) (dpt T k) (k : Int) (mwr y0 B') else (f_220 l' (k : Int) (mwr y0 B')).bind fun q3 => if q3 = 0 then j_202_65 (j_202_29 (Fm + d + 1)) (dpt T k) (k : Int) (mwr y0 B') else gd (g_221 32 (mwr y0 B')) ((some (f_221 32 (mwr y0 B'))).bind fun q4 => j_202_65 (j_202_29 (Fm + d + 1)) (dpt T k) (k : Int) q4)) = j_202_65 (j_202_29 (Fm + d + 1)) (dpt T k) (k : Int) (mwr y0 C) ∧ (C.length : Int) ≤ T.fm k + (k : Int) ∧ byl C := by
        rcases hI with ⟨i1, i2, i3, i4⟩ | ⟨i1, i2, i3, i4⟩
        · refine ⟨B ++ [10], ?_, ?_, ?_, hy.app (byl_1 (by decide))⟩
          · rw [i3, c132n hT hc kz (stk.mp i1) hxB, cwr_app]
          · rw [i4, if_pos (by decide), i2]
          · rw [List.length_append]
            simp only [List.length_cons, List.length_nil]
            have := i1.1
            omega
        · rcases i4 with u | ⟨p, u, v⟩
          · refine ⟨B, ?_, ?_, by omega, hy⟩
            · rw [u]
              unfold f_132
              rw [if_neg (by decide)]
            · rw [i3, u, if_pos (by decide), i2]
          · have plt := v.lt
            have hs : ¬ (17 ≤ T.tk k ∧ T.tk k ≤ 20) := fun w => i1 (stk.mpr w)
            have hLp := hL p (by omega)
            have ge := gap_eq (a := decide (sc 45 p = 1)) (b := decide (sc 45 k = 1)) (hT.2.2.1 p (by omega)).1 (hT.2.2.1 k kz).1 (v.gp (hQ k (by omega) kz)) hs (fun w => hLp.2.2.2.2 (of_decide_eq_true w)) (fun w => hLk.2.2.2.2 (of_decide_eq_true w))
            have e1 := c132 (p := p) hT hc (by omega) kz hs hxB
            have e2 := m220 (p := p) (sc := sc) hT hm (by omega) kz hLp hLk hyB
            rw [← ge] at e2
            refine ⟨B ++ gpl (gpC (decide (sc 45 p = 1)) (decide (sc 45 k = 1)) (T.tk p) (T.tk k)), ?_, ?_, ?_, hy.app (byl_gpl _)⟩
            · rw [u, e1, cwr_app]
            · rw [i3, u, if_neg (by omega), e2, Option.bind_some, mwr_app, i2]
              unfold gpl
              cases gpC (decide (sc 45 p = 1)) (decide (sc 45 k = 1)) (T.tk p) (T.tk k) with
              | true =>
                rw [if_pos rfl, if_neg (by decide), if_pos rfl, gd_pos (by rw [← i2]; unfold g_221; exact ⟨⟨by omega, by omega⟩, trivial⟩), Option.bind_some]
                rfl
              | false =>
                rfl
            · rw [List.length_append]
              have : (gpl (gpC (decide (sc 45 p = 1)) (decide (sc 45 k = 1)) (T.tk p) (T.tk k))).length ≤ 1 := by
                unfold gpl
                split <;> simp
              omega
      obtain ⟨C, g1, g2, g3, g4⟩ := gap
      have hyC2 := g4.app (byl_lxb hX kz)
      have hxC := hx0.wr C
      have hyC := hy0.wr C
      have ll := lxb_len hT hX hO kz
      have clen := mwr_len C y0 (by omega) (by omega)
      rw [hy2] at clen
      rw [g1, Option.bind_some, c133 hT hc hX kz hxC, Option.bind_some, g2, ← cwr_app]
      unfold j_128_45
      rw [w32_nat (by omega)]
      obtain ⟨m1, m2⟩ := m202s H kz hyC (by omega) (by omega) (j_202_29 (Fm + d + 1))
      have le : ((C ++ lxb T sc t k).length : Int) ≤ T.fm (k + 1) + ((k + 1 - 1 : Nat) : Int) := by
        rw [List.length_append, show k + 1 - 1 = k by omega]
        omega
      by_cases en : ENd T (k + 1)
      · rw [m1 en, ← mwr_app, ← List.append_assoc]
        exact ih (k + 1) Fc Fm (C ++ lxb T sc t k) (C ++ lxb T sc t k ++ [10]) (k : Int) (-1) (by omega) hyC2 le (Or.inl ⟨en, rfl, by rw [show k + 1 - 1 = k by omega], rfl⟩)
      · rw [m2 en, ← mwr_app]
        exact ih (k + 1) Fc Fm (C ++ lxb T sc t k) (C ++ lxb T sc t k) (k : Int) (k : Int) (by omega) hyC2 le (Or.inr ⟨en, rfl, rfl, Or.inr ⟨k, rfl, Or.inl rfl⟩⟩)
/-- both print the same bytes -/
theorem print_sim (H : PRI T sc sm n t) : ∃ R : List Int, f_128 sc = some (cwr (ax_u2 sc 82 2 0) R) ∧ (sm 84 5 ≠ 0 → f_202 sm = some ((R.length : Int), mwr (ax_u2 (ax_u2 sm 84 0 0) 84 9 0) R)) ∧ R.length ≤ 16384 ∧ byl R := by
  have h8 := H.1.1
  obtain ⟨F, hF⟩ := FU_split (k := T.z + 1) (by omega)
  have ac : AC sc (ax_u2 sc 82 2 0) := ⟨fun c a b => u2_row _ _ _ a, by unfold WC; rw [u2_at, if_pos rfl]; exact ⟨by decide, by decide⟩⟩
  have am : AM sm (ax_u2 (ax_u2 sm 84 0 0) 84 9 0) := ⟨fun c a b => by rw [u2_row _ _ _ a, u2_row _ _ _ a], fun j a b => by rw [u2_col _ _ _ b, u2_col _ _ _ a]⟩
  have f0 := H.1.2.2.2.1 0 (by omega)
  obtain ⟨R, r1, r2, r3⟩ := prn H ac (by rw [u2_at, if_pos rfl]) am (by rw [u2_at, if_pos rfl]) T.z 0 F F [] [] (-1) (-1) (by omega) (fun b hb => by cases hb) (by simpa using f0) (Or.inr ⟨fun u => absurd u.1 (by omega), rfl, rfl, Or.inl rfl⟩)
  rw [show F + T.z + 1 = FU by omega] at r1 r2
  refine ⟨R, ?_, fun h5 => ?_, r3⟩
  · unfold f_128
    exact r1
  · unfold f_202
    rw [if_pos h5]
    exact r2
end PRN
/-! BETWEEN TWO CALLS. -/
section GII
variable {s s' : Sg} {n : Nat} {a b c d : Int}
/-- all that was read, when nothing was wrong -/
def KN (s : Sg) : Prop := ∃ (T : TT) (t : Nat → Int) (n : Nat) (sc0 sm0 sc1 sm1 x y : Sg) (S P A N K C : Nat), TWF T ∧ POS T ∧ TX T sc0 sm0 n t ∧ XO T sc0 ∧ PS0 T sc0 sm0 sc1 sm1 T.z S P A N K C 1 ∧ CHO sc1 sm1 x y N ∧ y 84 6 = 0 ∧ (∀ c, c = 1 ∨ 30 ≤ c ∧ c ≤ 81 → s c = x c) ∧ (∀ c, c = 86 ∨ 88 ≤ c ∧ c ≤ 135 → s c = y c) ∧ (∀ j, j ≠ 0 → j ≠ 1 → j ≠ 5 → j ≠ 9 → s 84 j = y 84 j)
def GT (s : Sg) : Prop := ∃ n : Nat, s 27 1 = (n : Int) ∧ n ≤ 8192 ∧ s 84 1 = (n : Int) ∧ ∀ i, i < n → s 28 i % 256 = s 85 i ∧ 0 ≤ s 85 i ∧ s 85 i < 256
def GP (s : Sg) : Prop := ∃ L : Nat, s 82 2 = (L : Int) ∧ L ≤ 16384 ∧ s 84 9 = (L : Int) ∧ ∀ i, i < L → s 83 i % 256 = s 87 i ∧ 0 ≤ s 87 i ∧ s 87 i < 256
def GK (s : Sg) : Prop := (s 27 2 = 0 ∧ s 84 5 = 0 ∧ s 54 6 = 0 ∧ s 46 7 = 0 ∧ s 39 9 = 0) ∨ (s 27 2 = 1 ∧ s 84 5 = 1 ∧ KN s)
def GIV (s : Sg) : Prop := NMI s ∧ GT s ∧ GP s ∧ GK s ∧ RB s ∧ RM s
theorem GT.cg (h : GT s) (h1 : s' 27 1 = s 27 1) (h2 : s' 28 = s 28) (h3 : s' 84 1 = s 84 1) (h4 : s' 85 = s 85) : GT s' := by
  unfold GT at *
  rw [h1, h2, h3, h4]
  exact h
theorem GP.cg (h : GP s) (h1 : s' 82 2 = s 82 2) (h2 : s' 83 = s 83) (h3 : s' 84 9 = s 84 9) (h4 : s' 87 = s 87) : GP s' := by
  unfold GP at *
  rw [h1, h2, h3, h4]
  exact h
theorem KN.cg (h : KN s) (h1 : ∀ c, c = 1 ∨ 30 ≤ c ∧ c ≤ 81 → s' c = s c) (h2 : ∀ c, c = 86 ∨ 88 ≤ c ∧ c ≤ 135 → s' c = s c) (h3 : ∀ j, j ≠ 0 → j ≠ 1 → j ≠ 5 → j ≠ 9 → s' 84 j = s 84 j) : KN s' := by
  obtain ⟨T, t, n, sc0, sm0, sc1, sm1, x, y, S, P, A, N, K, C, a1, a2, a3, a4, a5, a6, a7, a8, a9, a10⟩ := h
  exact ⟨T, t, n, sc0, sm0, sc1, sm1, x, y, S, P, A, N, K, C, a1, a2, a3, a4, a5, a6, a7, fun c u => (h1 c u).trans (a8 c u), fun c u => (h2 c u).trans (a9 c u), fun j u1 u2 u3 u4 => (h3 j u1 u2 u3 u4).trans (a10 j u1 u2 u3 u4)⟩
theorem GK.cg (h : GK s) (h0 : s' 27 2 = s 27 2) (h5 : s' 84 5 = s 84 5) (h1 : ∀ c, c = 1 ∨ 30 ≤ c ∧ c ≤ 81 → s' c = s c) (h2 : ∀ c, c = 86 ∨ 88 ≤ c ∧ c ≤ 135 → s' c = s c) (h3 : ∀ j, j ≠ 0 → j ≠ 1 → j ≠ 5 → j ≠ 9 → s' 84 j = s 84 j) : GK s' := by
  rcases h with ⟨a1, a2, a3, a4, a5⟩ | ⟨a1, a2, a3⟩
  · exact Or.inl ⟨h0.trans a1, h5.trans a2, by rw [h1 54 (by decide)]; exact a3, by rw [h1 46 (by decide)]; exact a4, by rw [h1 39 (by decide)]; exact a5⟩
  · exact Or.inr ⟨h0.trans a1, h5.trans a2, a3.cg h1 h2 h3⟩
theorem NMI.cg (h : NMI s) (h0 : ∀ c, 1 ≤ c ∧ c ≤ 5 ∨ 31 ≤ c ∧ c ≤ 35 → s' c = s c) : NMI s' := by
  obtain ⟨h1, h2, h3, h4, h5⟩ := h
  refine ⟨h1.row (h0 1 (by decide)) (h0 2 (by decide)) (h0 3 (by decide)) (h0 4 (by decide)) (h0 5 (by decide)), by rw [h0 31 (by decide)]; exact h2, by rw [h0 31 (by decide)]; exact h3, by rw [h0 31 (by decide)]; exact h4, ?_⟩
  have ni : ∀ m, NI s m → NI s' m := fun m u => u.congr (by rw [h0 31 (by decide)]) (h0 32 (by decide)) (h0 33 (by decide)) (h0 34 (by decide)) (h0 35 (by decide))
  rcases h5 with u | ⟨m, u1, u2, u3, u4⟩
  · exact Or.inl (ni 0 u)
  · refine Or.inr ⟨m, ni m u1, u2, u3, ?_⟩
    unfold WD at *
    rw [h0 34 (by decide), h0 35 (by decide)]
    exact u4
/-- rows that the class keeps its answer and the reference its mark in -/
def QF (s s' : Sg) : Prop := (∀ c, c ≠ 84 → c ≠ 136 → s' c = s c) ∧ (∀ j, j ≠ 0 → s' 84 j = s 84 j)
theorem QF.refl (s : Sg) : QF s s := ⟨fun _ _ _ => rfl, fun _ _ => rfl⟩
theorem QF.trans {s2 : Sg} (h : QF s s') (k : QF s' s2) : QF s s2 := ⟨fun c u v => (k.1 c u v).trans (h.1 c u v), fun j u => (k.2 j u).trans (h.2 j u)⟩
theorem QF.a136 (s : Sg) (v : Int) : QF s (ax_u2 s 136 (0 : Int).toNat v) := ⟨fun c _ v => u2_row _ _ _ v, fun j _ => by rw [u2_row _ _ _ (by decide)]⟩
theorem QF.a84 (s : Sg) (v : Int) : QF s (ax_u2 s 84 0 v) := ⟨fun c u _ => u2_row _ _ _ u, fun j u => u2_col _ _ _ u⟩
theorem QF.gi (h : QF s s') (g : GIV s) : GIV s' := by
  obtain ⟨g1, g2, g3, g4, g5, g6⟩ := g
  have r : ∀ c, c < 84 ∨ 84 < c ∧ c < 136 → s' c = s c := fun c u => h.1 c (by omega) (by omega)
  refine ⟨g1.cg (fun c u => r c (by omega)), g2.cg (by rw [r 27 (by decide)]) (r 28 (by decide)) (h.2 1 (by decide)) (r 85 (by decide)), g3.cg (by rw [r 82 (by decide)]) (r 83 (by decide)) (h.2 9 (by decide)) (r 87 (by decide)), g4.cg (by rw [r 27 (by decide)]) (h.2 5 (by decide)) (fun c u => r c (by omega)) (fun c u => r c (by omega)) (fun j u _ _ _ => h.2 j u), ?_, ?_⟩
  · unfold RB at *
    rw [r 74 (by decide)]; exact g5
  · unfold RM at *
    rw [h.2 72 (by decide)]; exact g6
/-- FEED -/
theorem byt {k : Int} (hk : k = 24 ∨ k = 16 ∨ k = 8 ∨ k = 0) (a : Int) : ax_w8 (ax_w8 (ax_iushr a k)) % 256 = ax_iand (ax_ishr a k) 255 := by
  rw [w8_mod, w8_mod, iand255]
  have key : ∀ m : Nat, m = 24 ∨ m = 16 ∨ m = 8 ∨ m = 0 → (BitVec.ofInt 32 a >>> m).toInt % 256 = ((BitVec.ofInt 32 a).sshiftRight m).toInt % 256 := by
    intro m hm
    generalize BitVec.ofInt 32 a = v
    have lt : v.toNat < 4294967296 := v.isLt
    rw [BitVec.toInt_sshiftRight, BitVec.toInt_eq_toNat_bmod, BitVec.toNat_ushiftRight, BitVec.toInt_eq_toNat_bmod, Nat.shiftRight_eq_div_pow, Int.shiftRight_eq_div_pow]
    unfold Int.bmod
    rcases hm with e | e | e | e <;> subst e <;> simp only [Nat.reducePow, Int.natCast_ediv] <;> split <;> split <;> omega
  rcases hk with e | e | e | e <;> subst e
  · exact key 24 (by decide)
  · exact key 16 (by decide)
  · exact key 8 (by decide)
  · exact key 0 (by decide)
def pt1 (s : Sg) (n : Nat) (b : Int) : Sg := ax_u2 (ax_u2 s 28 n b) 27 1 ((n + 1 : Nat) : Int)
def ptl : Sg → Nat → List Int → Sg
  | s, _, [] => s
  | s, n, b :: L => ptl (pt1 s n b) (n + 1) L
theorem ptl_row {q : Nat} (h : q ≠ 27) (h' : q ≠ 28) : ∀ (L : List Int) (s : Sg) (n : Nat), ptl s n L q = s q := by
  intro L
  induction L with
  | nil => intro s n; rfl
  | cons b L ih => intro s n; rw [ptl, ih]; unfold pt1; rw [u2_row _ _ _ h, u2_row _ _ _ h']
theorem ptl_j {j : Nat} (h : j ≠ 1) : ∀ (L : List Int) (s : Sg) (n : Nat), ptl s n L 27 j = s 27 j := by
  intro L
  induction L with
  | nil => intro s n; rfl
  | cons b L ih => intro s n; rw [ptl, ih]; unfold pt1; rw [u2_col _ _ _ h, u2_row _ _ _ (by decide)]
theorem ptl_len : ∀ (L : List Int) (s : Sg) (n : Nat), s 27 1 = (n : Int) → ptl s n L 27 1 = ((n + L.length : Nat) : Int) := by
  intro L
  induction L with
  | nil => intro s n h; rw [ptl, h]; rfl
  | cons b L ih =>
    intro s n h
    rw [ptl, ih _ (n + 1) (by unfold pt1; rw [u2_at, if_pos rfl]), List.length_cons]
    congr 1
    omega
theorem ptl_at : ∀ (L : List Int) (s : Sg) (n : Nat), (∀ i, i < n → ptl s n L 28 i = s 28 i) ∧ (∀ i, i < L.length → ptl s n L 28 (n + i) = L.getD i 0) := by
  intro L
  induction L with
  | nil => intro s n; exact ⟨fun _ _ => rfl, fun i hi => absurd hi (by simp)⟩
  | cons b L ih =>
    intro s n
    obtain ⟨i1, i2⟩ := ih (pt1 s n b) (n + 1)
    have r : ∀ i, pt1 s n b 28 i = if i = n then b else s 28 i := fun i => by unfold pt1; rw [u2_row _ _ _ (by decide), u2_at]
    refine ⟨fun i hi => ?_, fun i hi => ?_⟩
    · rw [ptl, i1 i (by omega), r, if_neg (by omega)]
    · rw [List.length_cons] at hi
      rw [ptl]
      cases i with
      | zero =>
        show ptl (pt1 s n b) (n + 1) L 28 n = b
        rw [i1 n (by omega), r, if_pos rfl]
      | succ i => rw [show n + (i + 1) = n + 1 + i by omega, i2 i (by omega)]; rfl
def ba (a k : Int) : Int := ax_w8 (ax_w8 (ax_iushr a k))
theorem c13s {F : Nat} {k : Int} (h1 : s 27 1 = (n : Int)) (hn : n < 8192) (k0 : 0 ≤ k) (k1 : k ≤ 24) : j_13_3 (F + 1) a k s = j_13_3 F a (k - 8) (pt1 s n (ba a k)) := by
  rw [j_13_3, if_neg (by omega), h1, if_neg (by omega), gd_pos (by omega), Int.toNat_natCast, w32_nat (by omega)]
  unfold j_13_42
  rw [w32_id (by omega) (by omega)]
  rfl
theorem c13 (h1 : s 27 1 = (n : Int)) (hn : n + 4 ≤ 8192) : f_13 a s = some (ptl s n [ba a 24, ba a 16, ba a 8, ba a 0]) := by
  have p1 : ∀ (s : Sg) (m : Nat) (b : Int), pt1 s m b 27 1 = ((m + 1 : Nat) : Int) := fun s m b => by unfold pt1; rw [u2_at, if_pos rfl]
  obtain ⟨F, hF⟩ := FU_split (k := 5) (by omega)
  unfold f_13
  rw [show FU = ((((F + 1) + 1) + 1) + 1) + 1 by omega, c13s h1 (by omega) (by decide) (by decide), c13s (p1 _ _ _) (by omega) (by decide) (by decide), c13s (p1 _ _ _) (by omega) (by decide) (by decide), c13s (p1 _ _ _) (by omega) (by decide) (by decide), j_13_3, if_pos (by decide)]
  rfl
def rby (a b c d e : Int) : Int := ax_iand (ax_ishr ((if 4 ≤ e then (if 8 ≤ e then (if 12 ≤ e then d else c) else b) else a) : Int) (ax_w32 (24 - (ax_w32 (8 * (ax_irem e 4)))))) 255
theorem m193l : ∀ (r l F : Nat) (s : Sg), l + r = 16 → s 84 1 = (n : Int) → n + 16 ≤ 8192 → ∃ s' : Sg, j_193_27 (F + r + 1) a b c d (l : Int) s = j_193_101 s' ∧ (∀ q, q ≠ 85 → s' q = s q) ∧ (∀ i, i < n + l → s' 85 i = s 85 i) ∧ (∀ e : Nat, l ≤ e → e < 16 → s' 85 (n + e) = rby a b c d (e : Int)) := by
  intro r
  induction r with
  | zero =>
    intro l F s hl h1 hn
    exact ⟨s, by rw [j_193_27, if_pos (by omega)], fun _ _ => rfl, fun _ _ => rfl, fun e x y => absurd y (by omega)⟩
  | succ r ih =>
    intro l F s hl h1 hn
    obtain ⟨s', e1, e2, e3, e4⟩ := ih (l + 1) F (ax_u2 s 85 (n + l) (rby a b c d (l : Int))) (by omega) (by rw [u2_row _ _ _ (by decide)]; exact h1) hn
    refine ⟨s', ?_, fun q u => by rw [e2 q u, u2_row _ _ _ u], fun i hi => by rw [e3 i (by omega), u2_col _ _ _ (by omega)], fun e x y => ?_⟩
    · rw [show F + (r + 1) + 1 = (F + r + 1) + 1 by omega, j_193_27, if_neg (by omega), h1, w32_add (by omega), gd_pos (by omega), Int.toNat_natCast, w32_nat (by omega)]
      exact e1
    · by_cases q : e = l
      · rw [q, e3 (n + l) (by omega), u2_at, if_pos rfl]
      · exact e4 e (by omega) y
theorem irem4 {x : Int} (h0 : 0 ≤ x) (h1 : x < 100) : ax_irem x 4 = x % 4 := by
  unfold ax_irem
  rw [Int32.toInt_sub, Int32.toInt_mul, Int32.toInt_div, Int32.toInt_ofInt, Int32.toInt_ofInt, Int.bmod_eq_of_le (n := x) (by simp only [Int32.size]; omega) (by simp only [Int32.size]; omega), Int.bmod_eq_of_le (n := 4) (by decide) (by decide), Int.tdiv_eq_ediv_of_nonneg h0]
  have : (x / 4).bmod (2 ^ 32) = x / 4 := by rw [Int.bmod_eq_of_le] <;> omega
  rw [this]
  have : (x / 4 * 4).bmod (2 ^ 32) = x / 4 * 4 := by rw [Int.bmod_eq_of_le] <;> omega
  rw [this, Int.bmod_eq_of_le] <;> omega
theorem rby_sh {e : Nat} (h : e < 16) : ax_w32 (24 - (ax_w32 (8 * (ax_irem (e : Int) 4)))) = 24 - 8 * ((e % 4 : Nat) : Int) := by
  rw [irem4 (by omega) (by omega), w32_id (z := 8 * ((e : Int) % 4)) (by omega) (by omega), w32_id (by omega) (by omega)]
  omega
theorem rby_e {e : Nat} (h : e < 16) {v k : Int} (hv : ((if 4 ≤ (e : Int) then (if 8 ≤ (e : Int) then (if 12 ≤ (e : Int) then d else c) else b) else a) : Int) = v) (hk : 24 - 8 * ((e % 4 : Nat) : Int) = k) : rby a b c d (e : Int) = ax_iand (ax_ishr v k) 255 := by
  unfold rby
  rw [rby_sh h, hv, hk]
theorem fd16 {L : List Int} (hL : [ba a 24, ba a 16, ba a 8, ba a 0, ba b 24, ba b 16, ba b 8, ba b 0, ba c 24, ba c 16, ba c 8, ba c 0, ba d 24, ba d 16, ba d 8, ba d 0] = L) : ∀ e : Nat, e < 16 → L.getD e 0 % 256 = rby a b c d (e : Int) ∧ 0 ≤ rby a b c d (e : Int) ∧ rby a b c d (e : Int) < 256 := by
  intro e he
  have rb : 0 ≤ rby a b c d (e : Int) ∧ rby a b c d (e : Int) < 256 := by
    unfold rby
    rw [iand255]
    omega
  refine ⟨?_, rb⟩
  rw [← hL]
  have : e = 0 ∨ e = 1 ∨ e = 2 ∨ e = 3 ∨ e = 4 ∨ e = 5 ∨ e = 6 ∨ e = 7 ∨ e = 8 ∨ e = 9 ∨ e = 10 ∨ e = 11 ∨ e = 12 ∨ e = 13 ∨ e = 14 ∨ e = 15 := by omega
  rcases this with u | u | u | u | u | u | u | u | u | u | u | u | u | u | u | u <;> subst u
  · rw [rby_e (e := 0) he (v := a) (k := 24) (by simp) (by decide)]; exact byt (k := 24) (by decide) a
  · rw [rby_e (e := 1) he (v := a) (k := 16) (by simp) (by decide)]; exact byt (k := 16) (by decide) a
  · rw [rby_e (e := 2) he (v := a) (k := 8) (by simp) (by decide)]; exact byt (k := 8) (by decide) a
  · rw [rby_e (e := 3) he (v := a) (k := 0) (by simp) (by decide)]; exact byt (k := 0) (by decide) a
  · rw [rby_e (e := 4) he (v := b) (k := 24) (by simp) (by decide)]; exact byt (k := 24) (by decide) b
  · rw [rby_e (e := 5) he (v := b) (k := 16) (by simp) (by decide)]; exact byt (k := 16) (by decide) b
  · rw [rby_e (e := 6) he (v := b) (k := 8) (by simp) (by decide)]; exact byt (k := 8) (by decide) b
  · rw [rby_e (e := 7) he (v := b) (k := 0) (by simp) (by decide)]; exact byt (k := 0) (by decide) b
  · rw [rby_e (e := 8) he (v := c) (k := 24) (by simp) (by decide)]; exact byt (k := 24) (by decide) c
  · rw [rby_e (e := 9) he (v := c) (k := 16) (by simp) (by decide)]; exact byt (k := 16) (by decide) c
  · rw [rby_e (e := 10) he (v := c) (k := 8) (by simp) (by decide)]; exact byt (k := 8) (by decide) c
  · rw [rby_e (e := 11) he (v := c) (k := 0) (by simp) (by decide)]; exact byt (k := 0) (by decide) c
  · rw [rby_e (e := 12) he (v := d) (k := 24) (by simp) (by decide)]; exact byt (k := 24) (by decide) d
  · rw [rby_e (e := 13) he (v := d) (k := 16) (by simp) (by decide)]; exact byt (k := 16) (by decide) d
  · rw [rby_e (e := 14) he (v := d) (k := 8) (by simp) (by decide)]; exact byt (k := 8) (by decide) d
  · rw [rby_e (e := 15) he (v := d) (k := 0) (by simp) (by decide)]; exact byt (k := 0) (by decide) d
theorem ptl_app : ∀ (A : List Int) (s : Sg) (n m : Nat) (B : List Int), m = n + A.length → ptl (ptl s n A) m B = ptl s n (A ++ B) := by
  intro A
  induction A with
  | nil => intro s n m B h; rw [h]; rfl
  | cons b A ih =>
    intro s n m B h
    rw [List.length_cons] at h
    exact ih (pt1 s n b) (n + 1) m B (by omega)
theorem fd2 (t1 : s 27 1 = (n : Int)) (h : n + 16 ≤ 8192) : f_2 a b c d s = some (.inl (((n + 16 : Nat) : Int), ptl s n [ba a 24, ba a 16, ba a 8, ba a 0, ba b 24, ba b 16, ba b 8, ba b 0, ba c 24, ba c 16, ba c 8, ba c 0, ba d 24, ba d 16, ba d 8, ba d 0])) := by
  have q : ∀ (x : Int) (A : List Int) (m : Nat), m = n + A.length → m + 4 ≤ 8192 → f_13 x (ptl s n A) = some (ptl s n (A ++ [ba x 24, ba x 16, ba x 8, ba x 0])) := fun x A m hm h8 => by
    rw [c13 (a := x) (n := m) (by rw [hm]; exact ptl_len A s n t1) h8, ptl_app A s n m _ hm]
  have q1 := q a [] n rfl (by omega)
  rw [List.nil_append] at q1
  have q1' : f_13 a s = _ := q1
  unfold f_2
  rw [t1, if_pos (by rw [w32_id (by omega) (by omega)]; omega), q1', Option.bind_some, q b _ (n + 4) rfl (by omega), Option.bind_some, q c _ (n + 8) rfl (by omega), Option.bind_some, q d _ (n + 12) rfl (by omega), Option.bind_some, ptl_len _ s n t1]
  simp only [List.cons_append, List.nil_append, List.length_cons, List.length_nil]
/-- what a call leaves: its answer or its mark on both sides -/
def RES (s : Sg) (rc : Option (Int × Sg)) (rm : Sg → Option (Int × Sg)) (G : Sg → Prop) (E : Prop) : Prop := ∃ (t0 v : Int) (s1 s2 : Sg), rc = some (t0, s1) ∧ rm s1 = some (v, s2) ∧ G s2 ∧ (E → s2 84 0 = t0 ∧ (t0 = 0 → s2 136 0 = v)) ∧ s1 0 = s 0
theorem feed (g : GIV s) : RES s (f_280 a b c d s) (f_193 a b c d) GIV True := by
  obtain ⟨g1, ⟨n, t1, t2, t3, t4⟩, g3, g4, g5, g6⟩ := id g
  by_cases h : n + 16 ≤ 8192
  · -- there is room
    have ec := fd2 (a := a) (b := b) (c := c) (d := d) t1 h
    generalize hL : [ba a 24, ba a 16, ba a 8, ba a 0, ba b 24, ba b 16, ba b 8, ba b 0, ba c 24, ba c 16, ba c 8, ba c 0, ba d 24, ba d 16, ba d 8, ba d 0] = L at ec
    have hL16 : L.length = 16 := by rw [← hL]; rfl
    have by16 := fd16 (a := a) (b := b) (c := c) (d := d) hL
    obtain ⟨s1, hs1⟩ : ∃ z : Sg, z = ax_u2 (ptl s n L) 136 (0 : Int).toNat ((n + 16 : Nat) : Int) := ⟨_, rfl⟩
    have r1 : ∀ q, q ≠ 27 → q ≠ 28 → q ≠ 136 → s1 q = s q := fun q u v w => by rw [hs1, u2_row _ _ _ w, ptl_row u v]
    have r27 : s1 27 = ptl s n L 27 := by rw [hs1, u2_row _ _ _ (by decide)]
    have r28 : s1 28 = ptl s n L 28 := by rw [hs1, u2_row _ _ _ (by decide)]
    obtain ⟨F, hF⟩ := FU_split (k := 17) (by omega)
    obtain ⟨s2, e1, e2, e3, e4⟩ := m193l (a := a) (b := b) (c := c) (d := d) (n := n) 16 0 F (ax_u2 s1 84 0 0) (by omega) (by rw [u2_col _ _ _ (by decide), r1 84 (by decide) (by decide) (by decide)]; exact t3) h
    have e84 : s2 84 1 = (n : Int) := by rw [e2 84 (by decide), u2_col _ _ _ (by decide), r1 84 (by decide) (by decide) (by decide)]; exact t3
    refine ⟨0, ((n + 16 : Nat) : Int), s1, ax_u2 s2 84 1 ((n + 16 : Nat) : Int), ?_, ?_, ?_, fun _ => ⟨?_, fun _ => ?_⟩, r1 0 (by decide) (by decide) (by decide)⟩
    · unfold f_280
      rw [ec, hs1]
      rfl
    · unfold f_193
      rw [r1 84 (by decide) (by decide) (by decide), t3, if_pos (by rw [w32_id (by omega) (by omega)]; omega)]
      have e1' : j_193_27 FU a b c d 0 (ax_u2 s1 84 0 0) = j_193_101 s2 := by rw [show FU = F + 16 + 1 by omega]; exact e1
      rw [e1']
      unfold j_193_101
      rw [e84, w32_id (by omega) (by omega)]
      rfl
    · have r2 : ∀ q, q ≠ 27 → q ≠ 28 → q ≠ 136 → q ≠ 84 → q ≠ 85 → ax_u2 s2 84 1 ((n + 16 : Nat) : Int) q = s q := fun q u1 u2 u3 u4 u5 => by rw [u2_row _ _ _ u4, e2 q u5, u2_row _ _ _ u4, r1 q u1 u2 u3]
      have r84 : ∀ j, j ≠ 0 → j ≠ 1 → ax_u2 s2 84 1 ((n + 16 : Nat) : Int) 84 j = s 84 j := fun j u v => by rw [u2_col _ _ _ v, e2 84 (by decide), u2_col _ _ _ u, r1 84 (by decide) (by decide) (by decide)]
      have q27 : ∀ j, ax_u2 s2 84 1 ((n + 16 : Nat) : Int) 27 j = ptl s n L 27 j := fun j => by rw [u2_row _ _ _ (by decide), e2 27 (by decide), u2_row _ _ _ (by decide), r27]
      have q28 : ∀ j, ax_u2 s2 84 1 ((n + 16 : Nat) : Int) 28 j = ptl s n L 28 j := fun j => by rw [u2_row _ _ _ (by decide), e2 28 (by decide), u2_row _ _ _ (by decide), r28]
      refine ⟨g1.cg (fun q u => r2 q (by omega) (by omega) (by omega) (by omega) (by omega)), ⟨n + 16, by rw [q27, ptl_len L s n t1, hL16], h, by rw [u2_at, if_pos rfl], fun i hi => ?_⟩, g3.cg (by rw [r2 82 (by decide) (by decide) (by decide) (by decide) (by decide)]) (r2 83 (by decide) (by decide) (by decide) (by decide) (by decide)) (r84 9 (by decide) (by decide)) (r2 87 (by decide) (by decide) (by decide) (by decide) (by decide)), g4.cg (by rw [q27, ptl_j (by decide)]) (r84 5 (by decide) (by decide)) (fun q u => r2 q (by omega) (by omega) (by omega) (by omega) (by omega)) (fun q u => r2 q (by omega) (by omega) (by omega) (by omega) (by omega)) (fun j u1 u2 _ _ => r84 j u1 u2), ?_, ?_⟩
      · rw [q28, u2_row _ _ _ (show (85 : Nat) ≠ 84 by decide)]
        obtain ⟨p1, p2⟩ := ptl_at L s n
        by_cases c1 : i < n
        · rw [p1 i c1, e3 i (by omega), u2_row _ _ _ (by decide), r1 85 (by decide) (by decide) (by decide)]
          exact t4 i c1
        · have := by16 (i - n) (by omega)
          have pe := p2 (i - n) (by omega)
          have ee := e4 (i - n) (by omega) (by omega)
          rw [show n + (i - n) = i by omega] at pe ee
          rw [pe, ee]
          exact this
      · unfold RB at *
        rw [r2 74 (by decide) (by decide) (by decide) (by decide) (by decide)]; exact g5
      · unfold RM at *
        rw [r84 72 (by decide) (by decide)]; exact g6
    · rw [u2_col _ _ _ (by decide), e2 84 (by decide), u2_at, if_pos rfl]
    · rw [u2_row _ _ _ (by decide), e2 136 (by decide), u2_row _ _ _ (by decide), hs1, show (0 : Int).toNat = 0 from rfl, u2_at, if_pos rfl]
  · -- there is none
    refine ⟨1, 0, s, ax_u2 (ax_u2 s 84 0 0) 84 0 1, ?_, ?_, ?_, fun _ => ⟨by rw [u2_at, if_pos rfl], fun u => absurd u (by decide)⟩, rfl⟩
    · unfold f_280 f_2
      rw [t1, if_neg (by rw [w32_id (by omega) (by omega)]; omega)]
      rfl
    · unfold f_193
      rw [t3, if_neg (by rw [w32_id (by omega) (by omega)]; omega)]
      rfl
    · exact ((QF.a84 s 0).trans (QF.a84 _ 1)).gi g
end GII
