/-! RINGS: the reference's search. -/
/-- the calls by their lexemes -/
def CAT (T : TT) (sm : Sg) (N : Nat) (f : Nat → Int) : Prop := ∀ k, k < T.z → (f k < 0 ∧ ∀ n, n < N → sm 116 n = 3 → sm 118 n ≠ (k : Int)) ∨ (∃ n : Nat, f k = (n : Int) ∧ n < N ∧ sm 116 n = 3 ∧ sm 118 n = (k : Int))
/-- what a calls by a lexeme below i -/
def LOW (T : TT) (sm : Sg) (S N a i c : Nat) : Prop := ∃ n, n < N ∧ sm 116 n = 3 ∧ sm 123 n = (a : Int) ∧ sm 118 n < (i : Int) ∧ SO1 T sm S (T.vl (sm 118 n).toNat) c
section RSE
variable {T : TT} {sc sm s s' : Sg} {n' S P A N K C w a b x k : Nat} {t : Nat → Int}
theorem LOW.up {i c : Nat} (h : LOW T sm S N a (i + 1) c) : LOW T sm S N a i c ∨ (∃ n, n < N ∧ sm 116 n = 3 ∧ sm 123 n = (a : Int) ∧ sm 118 n = (i : Int) ∧ SO1 T sm S (T.vl i) c) := by
  obtain ⟨n, h1, h2, h3, h4, h5⟩ := h
  by_cases e : sm 118 n = (i : Int)
  · rw [e, Int.toNat_natCast] at h5
    exact Or.inr ⟨n, h1, h2, h3, e, h5⟩
  · exact Or.inl ⟨n, h1, h2, h3, by omega, h5⟩
theorem LOW.dn {i c : Nat} (h : LOW T sm S N a i c) : LOW T sm S N a (i + 1) c := by
  obtain ⟨n, h1, h2, h3, h4, h5⟩ := h
  exact ⟨n, h1, h2, h3, by omega, h5⟩
def LBS (T : TT) (sm s : Sg) (S N a i : Nat) (bs : Int) : Prop := (bs = -1 ∧ ∀ c, LOW T sm S N a i c → s 133 c < 0) ∨ (∃ b : Nat, bs = (b : Int) ∧ LOW T sm S N a i b ∧ 0 ≤ s 133 b ∧ ∀ c, LOW T sm S N a i c → 0 ≤ s 133 c → s 133 b ≤ s 133 c)
theorem m245 (h : CKX T sc sm n' t S P A N K C w) (g : GOOD T sc sm S A N w) (n6 : ¬ BD6 T sm S A N) (n7 : ¬ BD7 T sm S A N) (h11 : sm 84 11 = (T.z : Int)) (ha : AGr sm s) (hc : CAT T sm N (s 135)) (aS : a < S) (a2 : sm 94 a = 2) : ∃ r : Int, f_245 (a : Int) s = some r ∧ ((r = -1 ∧ ∀ c, EDG T sc sm S a c → s 133 c < 0) ∨ (∃ b : Nat, r = (b : Int) ∧ EDG T sc sm S a b ∧ 0 ≤ s 133 b ∧ ∀ c, EDG T sc sm S a c → 0 ≤ s 133 c → s 133 b ≤ s 133 c)) := by
  have enode := fun c => edg_node h g n6 n7 (y := a) (c := c)
  have clx := h.2.2.2.1.2.2.2.2.2.2.2.2.1
  have S8 := h.2.2.2.2.2.2.2.2.2.2.2.1
  have N8 := h.2.2.2.2.2.2.2.2.2.2.2.2.2.2
  have z8 := h.1.1
  have rr : ∀ c, c ≠ 84 → c < 133 → s c = sm c := fun c u v => ha.1 c u (Or.inl v)
  have low : ∀ c, LOW T sm S N a T.z c ↔ EDG T sc sm S a c := fun c => by
    rw [enode c]
    constructor
    · intro ⟨n, h1, h2, h3, h4, h5⟩
      exact ⟨n, h1, h2, h3, aS, a2, h5⟩
    · intro ⟨n, h1, h2, h3, _, _, h5⟩
      obtain ⟨x, y, c', x1, x2, -⟩ := call_at h g n6 n7 ha h1 h2
      exact ⟨n, h1, h2, h3, by omega, h5⟩
  have go : ∀ (r i G : Nat) (bs : Int), i + r = T.z → LBS T sm s S N a i bs → ∃ r' : Int, j_245_4 (G + r + 1) (a : Int) bs (i : Int) s = some r' ∧ LBS T sm s S N a T.z r' := by
    intro r
    induction r with
    | zero =>
      intro i G bs hi inv
      rw [show i = T.z by omega] at inv ⊢
      exact ⟨bs, by rw [j_245_4, ha.2 11 (by decide) (by decide), h11, if_pos (by omega)], inv⟩
    | succ r ih =>
      intro i G bs hi inv
      have k82 : ∀ v : Int, j_245_82 (j_245_4 (G + r + 1)) (a : Int) v (i : Int) s = j_245_4 (G + r + 1) (a : Int) v ((i + 1 : Nat) : Int) s := fun v => by
        unfold j_245_82
        rw [w32_nat (by omega)]
      -- nothing new here
      have skip : (∀ c n, n < N → sm 116 n = 3 → sm 123 n = (a : Int) → sm 118 n = (i : Int) → SO1 T sm S (T.vl i) c → s 133 c < 0) → ∃ r' : Int, j_245_82 (j_245_4 (G + r + 1)) (a : Int) bs (i : Int) s = some r' ∧ LBS T sm s S N a T.z r' := fun hno => by
        rw [k82]
        refine ih (i + 1) G bs (by omega) ?_
        have new : ∀ c, LOW T sm S N a (i + 1) c → LOW T sm S N a i c ∨ s 133 c < 0 := fun c hc => by
          rcases hc.up with u | ⟨n, u1, u2, u3, u4, u5⟩
          · exact Or.inl u
          · exact Or.inr (hno c n u1 u2 u3 u4 u5)
        rcases inv with ⟨v1, v2⟩ | ⟨b, v1, v2, v3, v4⟩
        · refine Or.inl ⟨v1, fun c hc => ?_⟩
          rcases new c hc with u | u
          · exact v2 c u
          · exact u
        · refine Or.inr ⟨b, v1, v2.dn, v3, fun c hc u0 => ?_⟩
          rcases new c hc with u | u
          · exact v4 c u u0
          · omega
      rw [show G + (r + 1) + 1 = (G + r + 1) + 1 by omega, j_245_4, ha.2 11 (by decide) (by decide), h11, if_neg (by omega), gd_pos (by omega), Int.toNat_natCast]
      rcases hc i (by omega) with ⟨q1, q2⟩ | ⟨n, q1, q2, q3, q4⟩
      · rw [if_pos q1]
        exact skip (fun c n u1 u2 _ u4 _ => absurd u4 (q2 n u1 u2))
      · rw [q1, if_neg (by omega), gd_pos (by omega), Int.toNat_natCast, rr 123 (by decide) (by decide)]
        by_cases c23 : sm 123 n = (a : Int)
        · obtain ⟨x, y, c, x1, x2, y1, y2, e238, cS, so⟩ := call_at h g n6 n7 ha q2 q3
          have ex : x = i := by omega
          subst ex
          have uq : ∀ c', SO1 T sm S (T.vl x) c' → c' = c := fun c' hc' => hc'.uniq so
          have isl : LOW T sm S N a (x + 1) c := ⟨n, q2, q3, c23, by omega, by rw [x1, Int.toNat_natCast]; exact so⟩
          rw [if_neg (fun e => e c23), gd_pos (by omega), rr 118 (by decide) (by decide), x1, e238, Option.bind_some, gd_pos (by omega), Int.toNat_natCast c]
          by_cases d : s 133 c < 0
          · rw [if_pos d]
            exact skip (fun c' m u1 u2 u3 u4 u5 => by rw [uq c' u5]; exact d)
          · rw [if_neg d]
            have new : ∀ c', LOW T sm S N a (x + 1) c' → LOW T sm S N a x c' ∨ c' = c := fun c' hc' => by
              rcases hc'.up with u | ⟨m, u1, u2, u3, u4, u5⟩
              · exact Or.inl u
              · exact Or.inr (uq c' u5)
            rcases inv with ⟨v1, v2⟩ | ⟨b, v1, v2, v3, v4⟩
            · rw [if_pos (by omega)]
              unfold j_245_79
              rw [k82]
              refine ih (x + 1) G (c : Int) (by omega) (Or.inr ⟨c, rfl, isl, by omega, fun c' hc' u0 => ?_⟩)
              rcases new c' hc' with u | u
              · have := v2 c' u
                omega
              · rw [u]; exact Int.le_refl _
            · have bS : b < S := by
                obtain ⟨_, _, _, _, _, u⟩ := v2
                exact u.1
              rw [if_neg (by omega), gd_pos (by omega), v1, gd_pos (by omega), k82, Int.toNat_natCast b]
              by_cases c0 : s 133 b ≤ s 133 c
              · rw [if_pos c0]
                refine ih (x + 1) G (b : Int) (by omega) (Or.inr ⟨b, rfl, v2.dn, v3, fun c' hc' u0 => ?_⟩)
                rcases new c' hc' with u | u
                · exact v4 c' u u0
                · rw [u]; exact c0
              · rw [if_neg c0]
                refine ih (x + 1) G (c : Int) (by omega) (Or.inr ⟨c, rfl, isl, by omega, fun c' hc' u0 => ?_⟩)
                rcases new c' hc' with u | u
                · have := v4 c' u u0
                  omega
                · rw [u]; exact Int.le_refl _
        · rw [if_pos c23]
          exact skip (fun c m u1 u2 u3 u4 _ => by
            rw [clx.2 m n u1 q2 u2 q3 (by omega)] at u3
            exact absurd u3 c23)
  obtain ⟨G, hG⟩ := FU_split (k := T.z + 1) (by omega)
  obtain ⟨r', y1, y2⟩ := go T.z 0 G (-1) (by omega) (Or.inl ⟨rfl, fun c ⟨n, u1, u2, _, u4, _⟩ => by
    obtain ⟨x, y, c', x1, -⟩ := call_at h g n6 n7 ha u1 u2
    omega⟩)
  rw [show G + T.z + 1 = FU by omega] at y1
  refine ⟨r', y1, ?_⟩
  rcases y2 with ⟨v1, v2⟩ | ⟨b, v1, v2, v3, v4⟩
  · exact Or.inl ⟨v1, fun c u => v2 c ((low c).mpr u)⟩
  · exact Or.inr ⟨b, v1, (low b).mp v2, v3, fun c u => v4 c ((low c).mpr u)⟩
/-- the trace of a ring -/
theorem m214t (h : CKX T sc sm n' t S P A N K C w) (g : GOOD T sc sm S A N w) (n6 : ¬ BD6 T sm S A N) (n7 : ¬ BD7 T sm S A N) (h11 : sm 84 11 = (T.z : Int)) (aS : a < S) (a2 : sm 94 a = 2) (k68 : Int → Sg → Option Sg) {f : Nat → Int} (fS : ∀ b, b < S → f b ≤ (S : Int)) (fw : ∀ b, b < S → b ≠ a → 0 ≤ f b → ∃ c, c < S ∧ EDG T sc sm S b c ∧ 0 ≤ f c ∧ f c < f b) :
    ∀ (v F x k : Nat) (s : Sg), x < S → sm 94 x = 2 → x ≠ a → f x = (v : Int) → k + v ≤ S + 1 → s 84 72 = (k : Int) → s 133 = f → AGr sm s → CAT T sm N (s 135) → 0 ≤ s 84 8 → ∃ s' : Sg, j_214_141 k68 (F + v + 2) (a : Int) (x : Int) 1 s = k68 ((a + 1 : Nat) : Int) s' ∧ AGr sm s' ∧ 0 ≤ s' 84 8 ∧ RM s' := by
  have S8 := h.2.2.2.2.2.2.2.2.2.2.2.1
  have z8 := h.1.1
  intro v
  induction v using Nat.strongRecOn with
  | ind v ih =>
    intro F x k s xS x2 xa fx kv h72 hf ha hc h8
    obtain ⟨c0, c1, c2, c3, c4⟩ := fw x xS xa (by omega)
    obtain ⟨hd, p0, pc, n0, b1, b2, b3, -⟩ := h.2.2.2.1.1 x xS
    have ha2 : AGr sm (ax_u2 (ax_u2 s 134 k (s 89 hd)) 84 72 ((k + 1 : Nat) : Int)) := ⟨fun c u y => by rw [u2_row _ _ _ u, u2_row _ _ _ (by omega)]; exact ha.1 c u y, fun j u y => by rw [u2_col _ _ _ y, u2_row _ _ _ (by decide)]; exact ha.2 j u y⟩
    have hf2 : (ax_u2 (ax_u2 s 134 k (s 89 hd)) 84 72 ((k + 1 : Nat) : Int)) 133 = f := by rw [u2_row _ _ _ (by decide), u2_row _ _ _ (by decide)]; exact hf
    have hc2 : CAT T sm N ((ax_u2 (ax_u2 s 134 k (s 89 hd)) 84 72 ((k + 1 : Nat) : Int)) 135) := by rw [u2_row _ _ _ (by decide), u2_row _ _ _ (by decide)]; exact hc
    have h82 : 0 ≤ (ax_u2 (ax_u2 s 134 k (s 89 hd)) 84 72 ((k + 1 : Nat) : Int)) 84 8 := by rw [u2_col _ _ _ (by decide), u2_row _ _ _ (by decide)]; exact h8
    have h72' : (ax_u2 (ax_u2 s 134 k (s 89 hd)) 84 72 ((k + 1 : Nat) : Int)) 84 72 = ((k + 1 : Nat) : Int) := u2_same _ _ _ _
    obtain ⟨r, e1, e2⟩ := m245 h g n6 n7 h11 ha2 hc2 xS x2
    rw [hf2] at e2
    rw [show F + v + 2 = (F + v + 1) + 1 by omega, j_214_141, if_neg (by decide), gd_pos (by omega), Int.toNat_natCast, ha.1 95 (by decide) (by decide), b2, gd_pos (by omega), h72, gd_pos (by omega), Int.toNat_natCast k, Int.toNat_natCast hd, w32_nat (by omega), e1, Option.bind_some]
    rcases e2 with ⟨_, y⟩ | ⟨b, y1, y2, y3, y4⟩
    · have := y c0 c2
      omega
    · have lt : f b < f x := by
        have := y4 c0 c2 c3
        omega
      by_cases e : b = a
      · rw [if_pos (by omega), show F + v + 1 = (F + v) + 1 by omega, j_214_141, if_pos rfl]
        unfold j_214_195
        rw [w32_nat (by omega)]
        exact ⟨_, rfl, ha2, h82, by unfold RM; rw [h72']; omega⟩
      · rw [if_neg (by omega), y1]
        have b94 : sm 94 b = 2 := by
          obtain ⟨_, _, hd', st, ee, q, hl, k1, k2, k3, k4⟩ := y2
          obtain ⟨hd2, st2, ee2, hl2, ca, -⟩ := h.hlp g n6 n7 xS x2
          have eh : hd2 = hd' := by have := hl.1; have := hl2.1; omega
          subst eh
          have ee' : ee2 = ee := hl2.2.2.2.2.2.2.1.uniq hl.2.2.2.2.2.2.1
          subst ee'
          obtain ⟨b', m, _, u1, u2, -⟩ := ca q k1 k2 k3
          rw [show b = b' by omega]; exact u2
        obtain ⟨vb, hvb⟩ : ∃ vb : Nat, f b = (vb : Int) := ⟨(f b).toNat, by omega⟩
        obtain ⟨s', z1, z2⟩ := ih vb (by omega) (F + (v - vb) - 1) b (k + 1) _ y2.2.1 b94 e hvb (by omega) h72' hf2 ha2 hc2 h82
        rw [show F + (v - vb) - 1 + vb + 2 = F + v + 1 by omega] at z1
        exact ⟨s', z1, z2⟩
/-- rings -/
theorem m214 (h : CKX T sc sm n' t S P A N K C w) (g : GOOD T sc sm S A N w) (n6 : ¬ BD6 T sm S A N) (n7 : ¬ BD7 T sm S A N) (h11 : sm 84 11 = (T.z : Int)) (h8 : sm 84 8 = -1) (h6 : sm 84 6 = 0) (h103 : ∀ i, i < S → sm 94 i = 2 → 1 ≤ sm 103 i ∧ sm 103 i ≤ 8192) : ∃ s' : Sg, f_214 sm = some s' ∧ (∀ c, c ≠ 84 → c < 133 ∨ 135 < c → s' c = sm c) ∧ (∀ j, j ≠ 6 → j ≠ 7 → j ≠ 8 → j ≠ 72 → s' 84 j = sm 84 j) ∧ s' 84 8 = -1 ∧ ((∃ k, k < S ∧ CYC (EDG T sc sm S) k) → s' 84 6 = 8) ∧ (¬ (∃ k, k < S ∧ CYC (EDG T sc sm S) k) → s' 84 6 = 0) ∧ RM s' := by
  have S8 := h.2.2.2.2.2.2.2.2.2.2.2.1
  have N8 := h.2.2.2.2.2.2.2.2.2.2.2.2.2.2
  have P8 := h.2.2.2.2.2.2.2.2.2.2.2.2.1
  have hN := h.2.2.2.2.1
  have h19 := h.2.2.2.2.2.1
  have clx := h.2.2.2.1.2.2.2.2.2.2.2.2.1
  have z8 := h.1.1
  -- the end
  have fin : ∀ s, AGr sm s → (0 ≤ s 84 8 ↔ ∃ k, k < S ∧ CYC (EDG T sc sm S) k) → RM s → ∃ s' : Sg, j_214_201 s = some s' ∧ (∀ c, c ≠ 84 → c < 133 ∨ 135 < c → s' c = sm c) ∧ (∀ j, j ≠ 6 → j ≠ 7 → j ≠ 8 → j ≠ 72 → s' 84 j = sm 84 j) ∧ s' 84 8 = -1 ∧ ((∃ k, k < S ∧ CYC (EDG T sc sm S) k) → s' 84 6 = 8) ∧ (¬ (∃ k, k < S ∧ CYC (EDG T sc sm S) k) → s' 84 6 = 0) ∧ RM s' := by
    intro s ha hi hr
    obtain ⟨s', e1, e2, e3, e4, e5, e6⟩ := m237w (s := s) (k := 8) (by rw [ha.2 6 (by decide) (by decide)]; exact h6)
    refine ⟨s', by unfold j_214_201; rw [e1, Option.bind_some], fun c u v => by rw [e2 c u]; exact ha.1 c u v, fun j u1 u2 u3 u4 => by rw [e3 j u1 u2 u3]; exact ha.2 j u3 u4, e4, fun u => e5 (hi.mpr u), fun u => e6 (fun y => u (hi.mp y)), by unfold RM; rw [e3 72 (by decide) (by decide) (by decide)]; exact hr⟩
  -- the search
  have go : ∀ (r l F : Nat) (s : Sg), l + r = S → AGr sm s → CAT T sm N (s 135) → s 84 8 = -1 → s 84 72 = 0 → (∀ j, j < l → ¬ CYC (EDG T sc sm S) j) → ∃ s' : Sg, j_214_68 (F + r + 2) (l : Int) s = some s' ∧ (∀ c, c ≠ 84 → c < 133 ∨ 135 < c → s' c = sm c) ∧ (∀ j, j ≠ 6 → j ≠ 7 → j ≠ 8 → j ≠ 72 → s' 84 j = sm 84 j) ∧ s' 84 8 = -1 ∧ ((∃ k, k < S ∧ CYC (EDG T sc sm S) k) → s' 84 6 = 8) ∧ (¬ (∃ k, k < S ∧ CYC (EDG T sc sm S) k) → s' 84 6 = 0) ∧ RM s' := by
    intro r
    induction r with
    | zero =>
      intro l F s hl ha hc e8 e72 no
      rw [show F + 0 + 2 = (F + 1) + 1 by omega, j_214_68, ha.2 19 (by decide) (by decide), h19, if_pos (by omega)]
      exact fin s ha ⟨fun y => absurd y (by omega), fun ⟨k, k1, k2⟩ => absurd k2 (no k (by omega))⟩ (by unfold RM; rw [e72]; decide)
    | succ r ih =>
      intro l F s hl ha hc e8 e72 no
      have k195 : ∀ z : Sg, j_214_195 (j_214_68 (F + r + 2)) (l : Int) z = j_214_68 (F + r + 2) ((l + 1 : Nat) : Int) z := fun z => by
        unfold j_214_195
        rw [w32_nat (by omega)]
      have lS : l < S := by omega
      rw [show F + (r + 1) + 2 = (F + r + 2) + 1 by omega, j_214_68, ha.2 19 (by decide) (by decide), h19, if_neg (by omega), e8, if_neg (by decide), gd_pos (by omega), Int.toNat_natCast, ha.1 94 (by decide) (by decide)]
      by_cases c2 : sm 94 l = 2
      · obtain ⟨hd, p0, pc, n0, b1, b2, b3, b4, b5, b6, b7, b8, -⟩ := h.2.2.2.1.1 l lS
        have q := h103 l lS c2
        rw [if_neg (fun e => e c2), gd_pos (by omega), gd_pos (by omega), ha.1 99 (by decide) (by decide), ha.1 103 (by decide) (by decide), b7, w32_id (z := (pc : Int) + sm 103 l) (by omega) (by omega), if_neg (by omega)]
        obtain ⟨s1, e1, a1, f1, w1, w2, w3, w4⟩ := m244 h g n6 n7 ha lS
        have hc1 : CAT T sm N (s1 135) := by rw [f1 135 (by decide)]; exact hc
        have e81 : s1 84 8 = -1 := by rw [f1 84 (by decide)]; exact e8
        have e721 : s1 84 72 = 0 := by rw [f1 84 (by decide)]; exact e72
        obtain ⟨r', e2, e3⟩ := m245 h g n6 n7 h11 a1 hc1 lS c2
        rw [e1, Option.bind_some, e2, Option.bind_some]
        rcases e3 with ⟨y1, y2⟩ | ⟨b, y1, y2, y3, y4⟩
        · rw [if_pos (by omega), k195]
          refine ih (l + 1) F s1 (by omega) a1 hc1 e81 e721 (fun j hj => ?_)
          by_cases e : j = l
          · rw [e]
            intro ⟨b, u1, u2⟩
            have := (w1 b u1.2.1).mpr u2
            have := y2 b u1
            omega
          · exact no j (by omega)
        · have cyc : ∃ k, k < S ∧ CYC (EDG T sc sm S) k := ⟨l, lS, b, y2, (w1 b y2.2.1).mp y3⟩
          rw [if_neg (by omega), gd_pos (by omega), a1.1 95 (by decide) (by decide), b2, gd_pos (by omega), Option.bind_some, Int.toNat_natCast]
          obtain ⟨i1, j1, _, _, d1, _⟩ := h.2.1.2.2.2 hd b3
          have x0 : 0 ≤ s1 89 hd := by rw [a1.1 89 (by decide) (by decide), d1]; omega
          have m5 := m235 (s := s1) x0
          have ha3 : AGr sm (f_235 (s1 89 hd) s1) := ⟨fun c u v => by rw [m5.1 c u]; exact a1.1 c u v, fun j u v => by rw [m5.2.1 j u]; exact a1.2 j u v⟩
          have h83 : 0 ≤ (f_235 (s1 89 hd) s1) 84 8 := m5.2.2.mpr (Or.inr trivial)
          have h723 : (f_235 (s1 89 hd) s1) 84 72 = ((0 : Nat) : Int) := by rw [m5.2.1 72 (by decide)]; exact e721
          have hc3 : CAT T sm N ((f_235 (s1 89 hd) s1) 135) := by rw [m5.1 135 (by decide)]; exact hc1
          have hf3 : (f_235 (s1 89 hd) s1) 133 = s1 133 := m5.1 133 (by decide)
          -- what follows, once found
          have aft : ∀ z : Sg, AGr sm z → 0 ≤ z 84 8 → RM z → ∃ s' : Sg, j_214_68 (F + r + 2) ((l + 1 : Nat) : Int) z = some s' ∧ (∀ c, c ≠ 84 → c < 133 ∨ 135 < c → s' c = sm c) ∧ (∀ j, j ≠ 6 → j ≠ 7 → j ≠ 8 → j ≠ 72 → s' 84 j = sm 84 j) ∧ s' 84 8 = -1 ∧ ((∃ k, k < S ∧ CYC (EDG T sc sm S) k) → s' 84 6 = 8) ∧ (¬ (∃ k, k < S ∧ CYC (EDG T sc sm S) k) → s' 84 6 = 0) ∧ RM s' := fun z az z8' rz => by
            rw [show F + r + 2 = (F + r + 1) + 1 by omega, j_214_68]
            obtain ⟨s', u1, u2⟩ := fin z az ⟨fun _ => cyc, fun _ => z8'⟩ rz
            by_cases c : z 84 19 ≤ ((l + 1 : Nat) : Int)
            · rw [if_pos c]
              exact ⟨s', u1, u2⟩
            · rw [if_neg c, if_pos z8']
              exact ⟨s', u1, u2⟩
          generalize f_235 (s1 89 hd) s1 = s3 at ha3 h83 h723 hc3 hf3
          -- the first step
          have ha2 : AGr sm (ax_u2 (ax_u2 s3 134 0 (s3 89 hd)) 84 72 ((0 + 1 : Nat) : Int)) := ⟨fun c u y => by rw [u2_row _ _ _ u, u2_row _ _ _ (by omega)]; exact ha3.1 c u y, fun j u y => by rw [u2_col _ _ _ y, u2_row _ _ _ (by decide)]; exact ha3.2 j u y⟩
          have hf2 : (ax_u2 (ax_u2 s3 134 0 (s3 89 hd)) 84 72 ((0 + 1 : Nat) : Int)) 133 = s1 133 := by rw [u2_row _ _ _ (by decide), u2_row _ _ _ (by decide)]; exact hf3
          have hc2 : CAT T sm N ((ax_u2 (ax_u2 s3 134 0 (s3 89 hd)) 84 72 ((0 + 1 : Nat) : Int)) 135) := by rw [u2_row _ _ _ (by decide), u2_row _ _ _ (by decide)]; exact hc3
          have h82 : 0 ≤ (ax_u2 (ax_u2 s3 134 0 (s3 89 hd)) 84 72 ((0 + 1 : Nat) : Int)) 84 8 := by rw [u2_col _ _ _ (by decide), u2_row _ _ _ (by decide)]; exact h83
          have h72' : (ax_u2 (ax_u2 s3 134 0 (s3 89 hd)) 84 72 ((0 + 1 : Nat) : Int)) 84 72 = ((0 + 1 : Nat) : Int) := u2_same _ _ _ _
          obtain ⟨r2, e5, e6⟩ := m245 h g n6 n7 h11 ha2 hc2 lS c2
          rw [hf2] at e6
          obtain ⟨H, hH⟩ := FU_split (k := S + 3) (by omega)
          rw [show FU = (H + S + 2) + 1 by omega, j_214_141, if_neg (by decide), gd_pos (by omega), Int.toNat_natCast, ha3.1 95 (by decide) (by decide), b2, gd_pos (by omega), h723, gd_pos (by decide), Int.toNat_natCast 0, Int.toNat_natCast hd, w32_nat (by decide), e5, Option.bind_some]
          rcases e6 with ⟨_, u⟩ | ⟨b', v1, v2, v3, v4⟩
          · have := u b y2
            omega
          · by_cases e : b' = l
            · rw [if_pos (by omega), show H + S + 2 = (H + S + 1) + 1 by omega, j_214_141, if_pos rfl, k195]
              exact aft _ ha2 h82 (by unfold RM; rw [h72']; decide)
            · rw [if_neg (by omega), v1]
              have b94 : sm 94 b' = 2 := by
                obtain ⟨_, _, hd', st, ee, q, hl, k1, k2, k3, k4⟩ := v2
                obtain ⟨hd2, st2, ee2, hl2, ca, -⟩ := h.hlp g n6 n7 lS c2
                have eh : hd2 = hd' := by have := hl.1; have := hl2.1; omega
                subst eh
                have ee' : ee2 = ee := hl2.2.2.2.2.2.2.1.uniq hl.2.2.2.2.2.2.1
                subst ee'
                obtain ⟨b'', m, _, u1, u2, -⟩ := ca q k1 k2 k3
                rw [show b' = b'' by omega]; exact u2
              have vS := w3 b' v2.2.1
              obtain ⟨vb, hvb⟩ : ∃ vb : Nat, s1 133 b' = (vb : Int) := ⟨(s1 133 b').toNat, by omega⟩
              obtain ⟨s', z1, z2, z3, z4⟩ := m214t h g n6 n7 h11 lS c2 (j_214_68 (F + r + 2)) w3 w4 vb (H + (S - vb)) b' (0 + 1) _ v2.2.1 b94 e hvb (by omega) h72' hf2 ha2 hc2 h82
              rw [show H + (S - vb) + vb + 2 = H + S + 2 by omega] at z1
              rw [z1]
              exact aft s' z2 z3 z4
      · rw [if_pos c2, k195]
        refine ih (l + 1) F s (by omega) ha hc e8 e72 (fun j hj => ?_)
        by_cases e : j = l
        · rw [e]
          intro ⟨b, ⟨_, _, _, _, _, _, hl, _⟩, _⟩
          exact c2 hl.2.2.1
        · exact no j (by omega)
  -- the calls by lexemes
  have cal : ∀ (r m F : Nat) (s : Sg), m + r = N → AGr sm s → s 84 8 = -1 → s 84 72 = 0 → (∀ k, k < T.z → (s 135 k < 0 ∧ ∀ n, n < m → sm 116 n = 3 → sm 118 n ≠ (k : Int)) ∨ (∃ n : Nat, s 135 k = (n : Int) ∧ n < m ∧ sm 116 n = 3 ∧ sm 118 n = (k : Int))) → ∃ s2 : Sg, j_214_30 (F + r + 1) (m : Int) s = j_214_66 s2 ∧ AGr sm s2 ∧ s2 84 8 = -1 ∧ s2 84 72 = 0 ∧ CAT T sm N (s2 135) := by
    intro r
    induction r with
    | zero =>
      intro m F s hm ha e8 e72 ca
      rw [show m = N by omega] at ca ⊢
      exact ⟨s, by rw [j_214_30, ha.2 47 (by decide) (by decide), hN.2.1, if_pos (by omega)], ha, e8, e72, ca⟩
    | succ r ih =>
      intro m F s hm ha e8 e72 ca
      have k60 : ∀ z : Sg, j_214_60 (j_214_30 (F + r + 1)) (m : Int) z = j_214_30 (F + r + 1) ((m + 1 : Nat) : Int) z := fun z => by
        unfold j_214_60
        rw [w32_nat (by omega)]
      rw [show F + (r + 1) + 1 = (F + r + 1) + 1 by omega, j_214_30, ha.2 47 (by decide) (by decide), hN.2.1, if_neg (by omega), gd_pos (by omega), Int.toNat_natCast, ha.1 116 (by decide) (by decide)]
      by_cases c3 : sm 116 m = 3
      · obtain ⟨x, y, c, x1, x2, -⟩ := call_at h g n6 n7 ha (n := m) (by omega) c3
        rw [if_neg (fun e => e c3), gd_pos (by omega), ha.1 118 (by decide) (by decide), x1, gd_pos (by omega), k60, Int.toNat_natCast x]
        refine ih (m + 1) F _ (by omega) ⟨fun c u v => by rw [u2_row _ _ _ (by omega)]; exact ha.1 c u v, fun j u v => by rw [u2_row _ _ _ (by decide)]; exact ha.2 j u v⟩ (by rw [u2_row _ _ _ (by decide)]; exact e8) (by rw [u2_row _ _ _ (by decide)]; exact e72) (fun k hk => ?_)
        by_cases e : k = x
        · subst e
          exact Or.inr ⟨m, u2_same _ _ _ _, by omega, c3, x1⟩
        · rw [u2_col _ _ _ e]
          rcases ca k hk with ⟨u1, u2⟩ | ⟨n, u1, u2, u3, u4⟩
          · refine Or.inl ⟨u1, fun n hn n3 => ?_⟩
            by_cases en : n = m
            · rw [en, x1]; omega
            · exact u2 n (by omega) n3
          · exact Or.inr ⟨n, u1, by omega, u3, u4⟩
      · rw [if_pos c3, k60]
        refine ih (m + 1) F s (by omega) ha e8 e72 (fun k hk => ?_)
        rcases ca k hk with ⟨u1, u2⟩ | ⟨n, u1, u2, u3, u4⟩
        · refine Or.inl ⟨u1, fun n hn n3 => ?_⟩
          by_cases en : n = m
          · rw [en] at n3; exact absurd n3 c3
          · exact u2 n (by omega) n3
        · exact Or.inr ⟨n, u1, by omega, u3, u4⟩
  -- none at first
  have ini : ∀ (r l F : Nat) (s : Sg), l + r = T.z + 1 → AGr sm s → s 84 8 = -1 → s 84 72 = 0 → (∀ k, k < l → s 135 k = -1) → ∃ s1 : Sg, j_214_7 (F + r + 1) (l : Int) s = j_214_28 s1 ∧ AGr sm s1 ∧ s1 84 8 = -1 ∧ s1 84 72 = 0 ∧ (∀ k, k < T.z → s1 135 k = -1) := by
    intro r
    induction r with
    | zero =>
      intro l F s hl ha e8 e72 v
      exact ⟨s, by rw [j_214_7, ha.2 11 (by decide) (by decide), h11, if_pos (by omega)], ha, e8, e72, fun k hk => v k (by omega)⟩
    | succ r ih =>
      intro l F s hl ha e8 e72 v
      rw [show F + (r + 1) + 1 = (F + r + 1) + 1 by omega, j_214_7, ha.2 11 (by decide) (by decide), h11, if_neg (by omega), gd_pos (by omega), w32_nat (by omega), Int.toNat_natCast]
      refine ih (l + 1) F _ (by omega) ⟨fun c u v => by rw [u2_row _ _ _ (by omega)]; exact ha.1 c u v, fun j u v => by rw [u2_row _ _ _ (by decide)]; exact ha.2 j u v⟩ (by rw [u2_row _ _ _ (by decide)]; exact e8) (by rw [u2_row _ _ _ (by decide)]; exact e72) (fun k hk => ?_)
      by_cases e : k = l
      · rw [e, u2_same]
      · rw [u2_col _ _ _ e]; exact v k (by omega)
  obtain ⟨F1, hF1⟩ := FU_split (k := T.z + 2) (by omega)
  obtain ⟨s1, e1, a1, p1, p2, p3⟩ := ini (T.z + 1) 0 F1 (ax_u2 sm 84 72 0) (by omega) ⟨fun c u _ => u2_row _ _ _ u, fun j _ v => u2_col _ _ _ v⟩ (by rw [u2_col _ _ _ (by decide)]; exact h8) (u2_same _ _ _ _) (fun k hk => absurd hk (by omega))
  obtain ⟨F2, hF2⟩ := FU_split (k := N + 1) (by omega)
  obtain ⟨s2, e2, a2, q1, q2, q3⟩ := cal N 0 F2 s1 (by omega) a1 p1 p2 (fun k hk => Or.inl ⟨by rw [p3 k hk]; decide, fun n hn => absurd hn (by omega)⟩)
  obtain ⟨F3, hF3⟩ := FU_split (k := S + 2) (by omega)
  obtain ⟨s', e3, e4⟩ := go S 0 F3 s2 (by omega) a2 q3 q1 q2 (fun j hj => absurd hj (by omega))
  rw [show F1 + (T.z + 1) + 1 = FU by omega] at e1
  rw [show F2 + N + 1 = FU by omega] at e2
  rw [show F3 + S + 2 = FU by omega] at e3
  refine ⟨s', ?_, e4⟩
  unfold f_214
  have e1' : j_214_7 FU 0 (ax_u2 sm 84 72 0) = _ := e1
  have e2' : j_214_30 FU 0 s1 = _ := e2
  have e3' : j_214_68 FU 0 s2 = _ := e3
  rw [e1']
  unfold j_214_28
  rw [e2']
  unfold j_214_66
  exact e3'
end RSE
/-! THE CHECKS: what they leave alone. -/
/-- rows that no check touches -/
def MVr (sc sm sc' sm' : Sg) : Prop := (∀ c, c ≠ 30 → (c = 1 ∨ 31 ≤ c ∧ c < 74) → sc' c = sc c) ∧ (CN sc' ↔ CN sc) ∧ (∀ c, c ≠ 84 → c ≠ 122 → (c = 86 ∨ 88 ≤ c ∧ c < 133) → sm' c = sm c) ∧ (∀ j, j ≠ 6 → j ≠ 7 → j ≠ 8 → (j ≠ 72 ∧ j ≠ 0 ∧ j ≠ 1 ∧ j ≠ 5 ∧ j ≠ 9) → sm' 84 j = sm 84 j)
section MV
variable {T : TT} {sc sm sc' sm' : Sg} {n' S P A N K C w : Nat} {t : Nat → Int}
theorem bsm_mv (h : MVr sc sm sc' sm') : bsm T sc' sm' = bsm T sc sm := by
  funext p0 j
  induction j with
  | zero => rfl
  | succ j ih => simp only [bsm]; rw [ih, h.1 43 (by decide) (by decide), h.2.2.1 104 (by decide) (by decide) (by decide), h.2.2.1 105 (by decide) (by decide) (by decide)]
theorem rin_mv (h : MVr sc sm sc' sm') : rin T sm' = rin T sm := by
  funext id k
  induction k with
  | zero => rfl
  | succ k ih =>
    funext r
    simp only [rin]
    rw [ih, h.2.2.1 107 (by decide) (by decide) (by decide), h.2.2.1 113 (by decide) (by decide) (by decide)]
theorem OWN_mv (h : MVr sc sm sc' sm') : OWN T sm' = OWN T sm := by
  have o1 := rin_mv (T := T) h
  obtain ⟨r, cn, m, mj⟩ := h
  funext s q id
  unfold OWN PIN
  rw [o1, m 98 (by decide) (by decide) (by decide), m 99 (by decide) (by decide) (by decide), m 104 (by decide) (by decide) (by decide)]
theorem OWW_mv (h : MVr sc sm sc' sm') : OWW T sm' = OWW T sm := by
  have o1 := rin_mv (T := T) h
  obtain ⟨r, cn, m, mj⟩ := h
  funext s q id v
  unfold OWW
  rw [o1, m 98 (by decide) (by decide) (by decide), m 99 (by decide) (by decide) (by decide), m 104 (by decide) (by decide) (by decide), m 105 (by decide) (by decide) (by decide)]
theorem SRL_mv (h : MVr sc sm sc' sm') : SRL T sc' sm' = SRL T sc sm := by
  have o1 := bsm_mv (T := T) h
  obtain ⟨r, cn, m, mj⟩ := h
  funext P N i
  unfold SRL SKW SKC DEFX CSG INSX
  rw [o1, r 56 (by decide) (by decide), r 55 (by decide) (by decide), r 60 (by decide) (by decide), r 58 (by decide) (by decide), r 57 (by decide) (by decide), m 95 (by decide) (by decide) (by decide), m 94 (by decide) (by decide) (by decide), m 98 (by decide) (by decide) (by decide), m 99 (by decide) (by decide) (by decide), m 97 (by decide) (by decide) (by decide), m 96 (by decide) (by decide) (by decide), m 100 (by decide) (by decide) (by decide), m 101 (by decide) (by decide) (by decide), m 123 (by decide) (by decide) (by decide), m 116 (by decide) (by decide) (by decide), m 118 (by decide) (by decide) (by decide), m 104 (by decide) (by decide) (by decide), m 105 (by decide) (by decide) (by decide)]
theorem ARL_mv (h : MVr sc sm sc' sm') : ARL T sm' = ARL T sm := by
  obtain ⟨r, cn, m, mj⟩ := h
  funext S N a
  unfold ARL
  rw [m 112 (by decide) (by decide) (by decide), m 94 (by decide) (by decide) (by decide), m 113 (by decide) (by decide) (by decide), m 106 (by decide) (by decide) (by decide), m 107 (by decide) (by decide) (by decide), m 109 (by decide) (by decide) (by decide), m 110 (by decide) (by decide) (by decide), m 111 (by decide) (by decide) (by decide), m 108 (by decide) (by decide) (by decide)]
theorem CLA_mv (h : MVr sc sm sc' sm') : CLA sc' sm' = CLA sc sm := by
  obtain ⟨r, cn, m, mj⟩ := h
  funext S A C
  unfold CLA CLc
  rw [propext cn, r 62 (by decide) (by decide), r 63 (by decide) (by decide), r 64 (by decide) (by decide), r 65 (by decide) (by decide), r 57 (by decide) (by decide), m 106 (by decide) (by decide) (by decide), m 107 (by decide) (by decide) (by decide), m 109 (by decide) (by decide) (by decide), m 110 (by decide) (by decide) (by decide), m 111 (by decide) (by decide) (by decide), m 94 (by decide) (by decide) (by decide), m 101 (by decide) (by decide) (by decide), m 100 (by decide) (by decide) (by decide)]
theorem NOW_mv (h : MVr sc sm sc' sm') : NOW sc' sm' = NOW sc sm := by
  obtain ⟨r, cn, m, mj⟩ := h
  funext S A n
  unfold NOW
  rw [r 60 (by decide) (by decide), m 123 (by decide) (by decide) (by decide), m 124 (by decide) (by decide) (by decide), m 106 (by decide) (by decide) (by decide)]
theorem NEV_mv (h : MVr sc sm sc' sm') : NEV T sc' sm' = NEV T sc sm := by
  have o1 := OWN_mv (T := T) h
  have o2 := OWW_mv (T := T) h
  obtain ⟨r, cn, m, mj⟩ := h
  funext n
  unfold NEV
  rw [o1, o2, r 48 (by decide) (by decide), m 116 (by decide) (by decide) (by decide), m 123 (by decide) (by decide) (by decide), m 124 (by decide) (by decide) (by decide), m 118 (by decide) (by decide) (by decide)]
theorem OWR_mv (h : MVr sc sm sc' sm') : OWR T sc' sm' = OWR T sc sm := by
  obtain ⟨r, cn, m, mj⟩ := h
  funext S
  unfold OWR
  rw [r 36 (by decide) (by decide), m 95 (by decide) (by decide) (by decide)]
theorem BIN_mv (h : MVr sc sm sc' sm') : BIN sc' = BIN sc := by
  obtain ⟨r, cn, m, mj⟩ := h
  funext k
  unfold BIN
  rw [r 43 (by decide) (by decide), r 40 (by decide) (by decide), r 42 (by decide) (by decide)]
theorem GST_mv (h : MVr sc sm sc' sm') : GST T sc' sm' = GST T sc sm := by
  have o1 := BIN_mv h
  obtain ⟨r, cn, m, mj⟩ := h
  funext i
  unfold GST GPT
  rw [o1, m 94 (by decide) (by decide) (by decide), m 97 (by decide) (by decide) (by decide), m 96 (by decide) (by decide) (by decide), m 95 (by decide) (by decide) (by decide), m 98 (by decide) (by decide) (by decide), m 99 (by decide) (by decide) (by decide), m 104 (by decide) (by decide) (by decide), m 105 (by decide) (by decide) (by decide)]
theorem GAC_mv (h : MVr sc sm sc' sm') : GAC T sm' = GAC T sm := by
  have o1 := OWN_mv (T := T) h
  obtain ⟨r, cn, m, mj⟩ := h
  funext a
  unfold GAC
  rw [o1, m 106 (by decide) (by decide) (by decide), m 108 (by decide) (by decide) (by decide), m 112 (by decide) (by decide) (by decide), m 113 (by decide) (by decide) (by decide), m 107 (by decide) (by decide) (by decide)]
theorem GNO_mv (h : MVr sc sm sc' sm') : GNO T sm' = GNO T sm := by
  have o1 := OWN_mv (T := T) h
  obtain ⟨r, cn, m, mj⟩ := h
  funext n
  unfold GNO
  rw [o1, m 116 (by decide) (by decide) (by decide), m 119 (by decide) (by decide) (by decide), m 118 (by decide) (by decide) (by decide), m 123 (by decide) (by decide) (by decide), m 124 (by decide) (by decide) (by decide)]
theorem GOOD_mv (h : MVr sc sm sc' sm') : GOOD T sc' sm' = GOOD T sc sm := by
  have o1 := GST_mv (T := T) h
  have o2 := GAC_mv (T := T) h
  have o3 := GNO_mv (T := T) h
  obtain ⟨r, cn, m, mj⟩ := h
  funext S A N w
  unfold GOOD
  rw [o1, o2, o3]
theorem PHX_mv (h : MVr sc sm sc' sm') : PHX sc' sm' = PHX sc sm := by
  obtain ⟨r, cn, m, mj⟩ := h
  funext S P N
  unfold PHX
  rw [r 60 (by decide) (by decide), m 98 (by decide) (by decide) (by decide), m 99 (by decide) (by decide) (by decide), m 94 (by decide) (by decide) (by decide), m 100 (by decide) (by decide) (by decide)]
theorem CLX_mv (h : MVr sc sm sc' sm') : CLX sm' = CLX sm := by
  obtain ⟨r, cn, m, mj⟩ := h
  funext N
  unfold CLX
  rw [m 116 (by decide) (by decide) (by decide), m 118 (by decide) (by decide) (by decide), mj 18 (by decide) (by decide) (by decide) (by decide)]
theorem LOR_mv (h : MVr sc sm sc' sm') : LOR T sm' = LOR T sm := by
  obtain ⟨r, cn, m, mj⟩ := h
  funext S
  unfold LOR
  rw [m 94 (by decide) (by decide) (by decide), m 95 (by decide) (by decide) (by decide), mj 18 (by decide) (by decide) (by decide) (by decide)]
theorem DAT_mv (h : MVr sc sm sc' sm') : DAT T sc' sm' = DAT T sc sm := by
  have o1 := SRL_mv (T := T) h
  have o2 := ARL_mv (T := T) h
  have o3 := CLA_mv h
  have o4 := NOW_mv h
  have o5 := NEV_mv (T := T) h
  have o6 := OWR_mv (T := T) h
  have o7 := GOOD_mv (T := T) h
  have o8 := PHX_mv h
  have o9 := CLX_mv h
  have o10 := LOR_mv (T := T) h
  obtain ⟨r, cn, m, mj⟩ := h
  funext S P A N C w
  unfold DAT
  rw [o1, o2, o3, o4, o5, o6, o7, o8, o9, o10, propext cn]
theorem NV_mv (h : MVr sc sm sc' sm') : NV T sc' sm' = NV T sc sm := by
  obtain ⟨r, cn, m, mj⟩ := h
  funext n
  unfold NV
  rw [r 49 (by decide) (by decide), r 48 (by decide) (by decide), m 116 (by decide) (by decide) (by decide), m 118 (by decide) (by decide) (by decide), m 119 (by decide) (by decide) (by decide), m 117 (by decide) (by decide) (by decide)]
theorem NR_mv (h : MVr sc sm sc' sm') : NR T sc' sm' = NR T sc sm := by
  have o1 := NV_mv (T := T) h
  obtain ⟨r, cn, m, mj⟩ := h
  funext K n
  unfold NR
  rw [o1, r 53 (by decide) (by decide), r 47 (by decide) (by decide), r 50 (by decide) (by decide), r 51 (by decide) (by decide), r 52 (by decide) (by decide), m 120 (by decide) (by decide) (by decide), m 121 (by decide) (by decide) (by decide), m 116 (by decide) (by decide) (by decide), m 117 (by decide) (by decide) (by decide), m 125 (by decide) (by decide) (by decide)]
theorem ND_mv (h : MVr sc sm sc' sm') : ND T sc' sm' = ND T sc sm := by
  have o1 := NR_mv (T := T) h
  obtain ⟨r, cn, m, mj⟩ := h
  funext N K
  unfold ND
  rw [o1, r 46 (by decide) (by decide), mj 47 (by decide) (by decide) (by decide) (by decide), mj 57 (by decide) (by decide) (by decide) (by decide)]
theorem TX_mv (h : MVr sc sm sc' sm') : TX T sc' sm' = TX T sc sm := by
  obtain ⟨r, cn, m, mj⟩ := h
  funext n t
  unfold TX CT MT NI LXn
  rw [r 39 (by decide) (by decide), r 40 (by decide) (by decide), r 31 (by decide) (by decide), r 32 (by decide) (by decide), r 33 (by decide) (by decide), r 34 (by decide) (by decide), r 35 (by decide) (by decide), r 43 (by decide) (by decide), mj 3 (by decide) (by decide) (by decide) (by decide), m 86 (by decide) (by decide) (by decide), m 89 (by decide) (by decide) (by decide), m 90 (by decide) (by decide) (by decide)]
theorem CC_mv (h : MVr sc sm sc' sm') : CC T sc' = CC T sc := by
  obtain ⟨r, cn, m, mj⟩ := h
  unfold CC
  rw [r 39 (by decide) (by decide), r 41 (by decide) (by decide), r 42 (by decide) (by decide), r 44 (by decide) (by decide), r 31 (by decide) (by decide), r 1 (by decide) (by decide)]
theorem CKX_mv (h : MVr sc sm sc' sm') : CKX T sc' sm' = CKX T sc sm := by
  have o1 := TX_mv (T := T) h
  have o2 := CC_mv (T := T) h
  have o3 := DAT_mv (T := T) h
  have o4 := ND_mv (T := T) h
  obtain ⟨r, cn, m, mj⟩ := h
  funext n t S P A N K C w
  unfold CKX
  rw [o1, o2, o3, o4, mj 19 (by decide) (by decide) (by decide) (by decide), mj 31 (by decide) (by decide) (by decide) (by decide), mj 34 (by decide) (by decide) (by decide) (by decide), mj 30 (by decide) (by decide) (by decide) (by decide)]
theorem SO1_mv (h : MVr sc sm sc' sm') : SO1 T sm' = SO1 T sm := by
  obtain ⟨r, cn, m, mj⟩ := h
  funext S v i
  unfold SO1
  rw [m 95 (by decide) (by decide) (by decide)]
theorem FIT_mv (h : MVr sc sm sc' sm') : FIT sm' = FIT sm := by
  obtain ⟨r, cn, m, mj⟩ := h
  funext k i c
  unfold FIT
  rw [m 94 (by decide) (by decide) (by decide), m 96 (by decide) (by decide) (by decide), m 99 (by decide) (by decide) (by decide)]
theorem BD6_mv (h : MVr sc sm sc' sm') : BD6 T sm' = BD6 T sm := by
  have o1 := OWN_mv (T := T) h
  obtain ⟨r, cn, m, mj⟩ := h
  funext S A N
  unfold BD6 bd6n bd6a NOS
  rw [o1, m 116 (by decide) (by decide) (by decide), m 123 (by decide) (by decide) (by decide), m 124 (by decide) (by decide) (by decide), m 118 (by decide) (by decide) (by decide), m 95 (by decide) (by decide) (by decide), m 106 (by decide) (by decide) (by decide), m 112 (by decide) (by decide) (by decide), m 113 (by decide) (by decide) (by decide), m 107 (by decide) (by decide) (by decide)]
theorem BD7_mv (h : MVr sc sm sc' sm') : BD7 T sm' = BD7 T sm := by
  have o1 := OWN_mv (T := T) h
  have o2 := SO1_mv (T := T) h
  have o3 := FIT_mv h
  obtain ⟨r, cn, m, mj⟩ := h
  funext S A N
  unfold BD7 bd7n bd7a
  rw [o1, o2, o3, m 116 (by decide) (by decide) (by decide), m 123 (by decide) (by decide) (by decide), m 124 (by decide) (by decide) (by decide), m 118 (by decide) (by decide) (by decide), m 120 (by decide) (by decide) (by decide), m 106 (by decide) (by decide) (by decide), m 112 (by decide) (by decide) (by decide), m 113 (by decide) (by decide) (by decide), m 107 (by decide) (by decide) (by decide), m 109 (by decide) (by decide) (by decide)]
theorem bdB_mv (h : MVr sc sm sc' sm') : bdB T sc' sm' = bdB T sc sm := by
  obtain ⟨r, cn, m, mj⟩ := h
  funext w i
  unfold bdB
  rw [m 94 (by decide) (by decide) (by decide), r 57 (by decide) (by decide)]
end MV
/-! RINGS: how far each is, exactly. -/
def DFN (E : Nat → Nat → Prop) (S told : Nat) (f : Nat → Int) : Prop := f told = 0 ∧ (∀ b, b < S → b ≠ told → 0 ≤ f b → ∃ c, c < S ∧ E b c ∧ 0 ≤ f c ∧ f c + 1 ≤ f b) ∧ (∀ b c, E b c → 0 ≤ f c → 0 ≤ f b ∧ f b ≤ f c + 1)
theorem DFN.le {E : Nat → Nat → Prop} {S told : Nat} {f g : Nat → Int} (hf : DFN E S told f) (hg : DFN E S told g) : ∀ (n b : Nat), b < S → g b = (n : Int) → 0 ≤ f b ∧ f b ≤ g b := by
  intro n
  induction n using Nat.strongRecOn with
  | ind n ih =>
    intro b hb e
    by_cases c : b = told
    · rw [c, hf.1, hg.1]
      exact ⟨by decide, by decide⟩
    · obtain ⟨x, x1, x2, x3, x4⟩ := hg.2.1 b hb c (by omega)
      obtain ⟨m, hm⟩ : ∃ m : Nat, g x = (m : Int) := ⟨(g x).toNat, by omega⟩
      obtain ⟨y1, y2⟩ := ih m (by omega) x x1 hm
      obtain ⟨z1, z2⟩ := hf.2.2 b x x2 y1
      exact ⟨z1, by omega⟩
theorem DFN.eq {E : Nat → Nat → Prop} {S told : Nat} {f g : Nat → Int} (hf : DFN E S told f) (hg : DFN E S told g) {b : Nat} (hb : b < S) : (0 ≤ f b ↔ 0 ≤ g b) ∧ (0 ≤ g b → f b = g b) := by
  have a1 : 0 ≤ g b → 0 ≤ f b ∧ f b ≤ g b := fun u => hf.le hg (g b).toNat b hb (by omega)
  have a2 : 0 ≤ f b → 0 ≤ g b ∧ g b ≤ f b := fun u => hg.le hf (f b).toNat b hb (by omega)
  exact ⟨⟨fun u => (a2 u).1, fun u => (a1 u).1⟩, fun u => by
    have x := a1 u
    have y := a2 x.1
    omega⟩
def GIx (E : Nat → Nat → Prop) (S a d : Nat) (f : Nat → Int) : Prop := f a = 0 ∧ (∀ b, b < S → -1 ≤ f b ∧ f b < (d : Int)) ∧ (∀ b, b < S → 0 ≤ f b → WAY E b a) ∧ (∀ b, b < S → b ≠ a → 0 ≤ f b → ∃ c, c < S ∧ E b c ∧ 0 ≤ f c ∧ f c < f b) ∧ (∀ x c, E x c → 0 ≤ f c → f c + 1 < (d : Int) → 0 ≤ f x ∧ f x ≤ f c + 1)
section RMX
variable {T : TT} {sc sm s s' : Sg} {n' S P A N K C w a b x k : Nat} {t : Nat → Int}
theorem m244x (h : CKX T sc sm n' t S P A N K C w) (g : GOOD T sc sm S A N w) (n6 : ¬ BD6 T sm S A N) (n7 : ¬ BD7 T sm S A N) (ha : AGr sm s) (aS : a < S) : ∃ s' : Sg, f_244 (a : Int) s = some s' ∧ AGr sm s' ∧ (∀ c, c ≠ 133 → s' c = s c) ∧ (∀ b, b < S → (0 ≤ s' 133 b ↔ WAY (EDG T sc sm S) b a)) ∧ s' 133 a = 0 ∧ (∀ b, b < S → s' 133 b < (S : Int)) ∧ (∀ b, b < S → b ≠ a → 0 ≤ s' 133 b → ∃ c, c < S ∧ EDG T sc sm S b c ∧ 0 ≤ s' 133 c ∧ s' 133 c < s' 133 b) ∧ DFN (EDG T sc sm S) S a (s' 133) := by
  have S8 := h.2.2.2.2.2.2.2.2.2.2.2.1
  have h19 := h.2.2.2.2.2.1
  have N8 := h.2.2.2.2.2.2.2.2.2.2.2.2.2.2
  have enode := fun y c => edg_node h g n6 n7 (y := y) (c := c)
  have ini : ∀ (r l F : Nat) (s1 : Sg), l + r = S → AGr sm s1 → (∀ c, c ≠ 133 → s1 c = s c) → (∀ b, b < l → s1 133 b = (if b = a then 0 else -1)) → ∃ s' : Sg, j_244_2 (F + r + 1) (a : Int) (l : Int) s1 = j_244_32 s' ∧ AGr sm s' ∧ (∀ c, c ≠ 133 → s' c = s c) ∧ (∀ b, b < S → s' 133 b = (if b = a then 0 else -1)) := by
    intro r
    induction r with
    | zero =>
      intro l F s1 hl q1 q2 q3
      exact ⟨s1, by rw [j_244_2, q1.2 19 (by decide) (by decide), h19, if_pos (by omega)], q1, q2, fun b hb => q3 b (by omega)⟩
    | succ r ih =>
      intro l F s1 hl q1 q2 q3
      rw [show F + (r + 1) + 1 = (F + r + 1) + 1 by omega, j_244_2, q1.2 19 (by decide) (by decide), h19, if_neg (by omega), gd_pos (by omega), w32_nat (by omega), Int.toNat_natCast]
      refine ih (l + 1) F _ (by omega) ⟨fun c u v => by rw [u2_row _ _ _ (by omega)]; exact q1.1 c u v, fun j u v => by rw [u2_row _ _ _ (by decide)]; exact q1.2 j u v⟩ (fun c u => by rw [u2_row _ _ _ u]; exact q2 c u) (fun b hb => ?_)
      by_cases e : b = l
      · rw [e, u2_same]
        by_cases e2 : l = a
        · rw [if_pos e2, if_neg (fun u => u (by omega))]
        · rw [if_neg e2, if_pos (by omega)]
      · rw [u2_col _ _ _ e]; exact q3 b (by omega)
  obtain ⟨F, hF⟩ := FU_split (k := S + 3) (by omega)
  obtain ⟨s1, e1, ag1, fr1, v1⟩ := ini S 0 (F + 2) s (by omega) ha (fun _ _ => rfl) (fun b hb => absurd hb (by omega))
  rw [show F + 2 + S + 1 = FU by omega] at e1
  have gi1 : GIx (EDG T sc sm S) S a 1 (s1 133) := by
    refine ⟨by rw [v1 a aS, if_pos rfl], fun b hb => ?_, fun b hb u => ?_, fun b hb u v => ?_, fun x c ed u v => by omega⟩
    · rw [v1 b hb]
      split <;> omega
    · rw [v1 b hb] at u
      by_cases e : b = a
      · rw [e]; exact WAY.refl a
      · rw [if_neg e] at u; omega
    · rw [v1 b hb, if_neg u] at v
      omega
  -- rounds
  have rnd : ∀ (q d G : Nat) (s2 : Sg), S ≤ cnt (fun b => 0 ≤ s2 133 b) S + q → 1 ≤ d → d ≤ cnt (fun b => 0 ≤ s2 133 b) S → AGr sm s2 → GIx (EDG T sc sm S) S a d (s2 133) → ∃ (s' : Sg) (d' : Nat), j_244_36 (G + q + 2) 1 (d : Int) s2 = some s' ∧ AGr sm s' ∧ (∀ c, c ≠ 133 → s' c = s2 c) ∧ GIx (EDG T sc sm S) S a d' (s' 133) ∧ (∀ b, b < S → s' 133 b + 1 < (d' : Int)) ∧ d' ≤ S + 1 := by
    intro q
    induction q with
    | zero =>
      intro d G s2 hc hd1 hd2 ag gi
      have dS := cnt_le (p := fun b => 0 ≤ s2 133 b) S
      obtain ⟨H, hH⟩ := FU_split (k := N + 1) (by omega)
      obtain ⟨l2', s', z1, z2, z3, z4⟩ := m244i h g n6 n7 hd1 (by omega) gi.2.1 (j_244_36 (G + 1)) N 0 H 0 s2 (by omega) ag ⟨fun b hb => Or.inl rfl, fun n hn => absurd hn (by omega), Or.inl ⟨rfl, fun b _ => rfl⟩⟩
      rw [show H + N + 1 = FU by omega] at z1
      have z1' : j_244_45 (j_244_36 (G + 1)) FU 0 (d : Int) 0 s2 = _ := z1
      obtain ⟨t1, t2, t3⟩ := z3
      have all : ∀ b, b < S → 0 ≤ s2 133 b := cnt_all S (by omega)
      rcases t3 with ⟨u1, u2⟩ | ⟨_, b, u1, u2, _⟩
      · refine ⟨s', d + 1, ?_, z2, z4, ?_, fun b hb => ?_, by omega⟩
        · rw [show G + 0 + 2 = (G + 1) + 1 by omega, j_244_36, if_neg (by decide), z1', j_244_36, if_pos u1]
        · obtain ⟨g1, g2, g3, g4, g5⟩ := gi
          refine ⟨by rw [u2 a aS]; exact g1, fun b hb => by rw [u2 b hb]; have := g2 b hb; omega, fun b hb v => by rw [u2 b hb] at v; exact g3 b hb v, fun b hb v1 v2 => ?_, fun x c ed v1 v2 => ?_⟩
          · rw [u2 b hb] at v2 ⊢
            obtain ⟨c, c1, c2, c3, c4⟩ := g4 b hb v1 v2
            exact ⟨c, c1, c2, by rw [u2 c c1]; exact c3, by rw [u2 c c1]; exact c4⟩
          · rw [u2 c ed.2.1] at v1 v2
            rw [u2 x ed.1, u2 c ed.2.1]
            refine ⟨all x ed.1, ?_⟩
            by_cases q : s2 133 c + 1 < (d : Int)
            · exact (g5 x c ed v1 q).2
            · have := (g2 x ed.1).2
              omega
        · rw [u2 b hb]
          have := (gi.2.1 b hb).2
          omega
      · exact absurd (all b u1) (by omega)
    | succ q ih =>
      intro d G s2 hc hd1 hd2 ag gi
      have dS := cnt_le (p := fun b => 0 ≤ s2 133 b) S
      obtain ⟨H, hH⟩ := FU_split (k := N + 1) (by omega)
      obtain ⟨l2', s', z1, z2, z3, z4⟩ := m244i h g n6 n7 hd1 (by omega) gi.2.1 (j_244_36 (G + q + 2)) N 0 H 0 s2 (by omega) ag ⟨fun b hb => Or.inl rfl, fun n hn => absurd hn (by omega), Or.inl ⟨rfl, fun b _ => rfl⟩⟩
      rw [show H + N + 1 = FU by omega] at z1
      have z1' : j_244_45 (j_244_36 (G + q + 2)) FU 0 (d : Int) 0 s2 = _ := z1
      obtain ⟨t1, t2, t3⟩ := z3
      obtain ⟨g1, g2, g3, g4, g5⟩ := id gi
      have keep : ∀ b, b < S → 0 ≤ s2 133 b → s' 133 b = s2 133 b := fun b hb v => by
        rcases t1 b hb with e | ⟨e, _⟩
        · exact e
        · omega
      have gi' : GIx (EDG T sc sm S) S a (d + 1) (s' 133) := by
        refine ⟨by rw [keep a aS (by omega)]; exact g1, fun b hb => ?_, fun b hb v => ?_, fun b hb v1 v2 => ?_, fun x c ed v1 v2 => ?_⟩
        · have := g2 b hb
          rcases t1 b hb with e | ⟨_, e, _⟩
          · rw [e]; omega
          · rw [e]; omega
        · rcases t1 b hb with e | ⟨_, _, c, c1, c2, c3⟩
          · rw [e] at v; exact g3 b hb v
          · exact WAY.step c2 (g3 c c1 (by omega))
        · rcases t1 b hb with e | ⟨_, e, c, c1, c2, c3⟩
          · rw [e] at v2 ⊢
            obtain ⟨c, c1, c2, c3, c4⟩ := g4 b hb v1 v2
            exact ⟨c, c1, c2, by rw [keep c c1 c3]; exact c3, by rw [keep c c1 c3]; exact c4⟩
          · refine ⟨c, c1, c2, ?_, ?_⟩
            · rw [keep c c1 (by omega)]; omega
            · rw [keep c c1 (by omega), e]; omega
        · have fc : s' 133 c = s2 133 c := by
            rcases t1 c ed.2.1 with e | ⟨_, e, _⟩
            · exact e
            · omega
          rw [fc] at v1 v2
          by_cases e : s2 133 c + 1 < (d : Int)
          · rw [keep x ed.1 (g5 x c ed v1 e).1, fc]
            exact g5 x c ed v1 e
          · obtain ⟨n, nN, n3, n23, _, n94, so⟩ := (enode x c).mp ed
            have p0 := t2 n nN n3 x c n23 n94 so (by omega)
            refine ⟨p0, ?_⟩
            rw [fc]
            have := g2 x ed.1
            rcases t1 x ed.1 with q | ⟨_, q, _⟩
            · rw [q]; omega
            · rw [q]; omega
      rcases t3 with ⟨u1, u2⟩ | ⟨u1, b, u2, u3, u4⟩
      · refine ⟨s', d + 1, ?_, z2, z4, gi', fun b hb => ?_, by omega⟩
        · rw [show G + (q + 1) + 2 = (G + q + 2) + 1 by omega, j_244_36, if_neg (by decide), z1', show G + q + 2 = (G + q + 1) + 1 by omega, j_244_36, if_pos u1]
        · rw [u2 b hb]
          have := (g2 b hb).2
          omega
      · have cgt : cnt (fun b => 0 ≤ s2 133 b) S + 1 ≤ cnt (fun b => 0 ≤ s' 133 b) S := by
          have key : ∀ m, m ≤ S → cnt (fun b => 0 ≤ s2 133 b) m + (if b < m then 1 else 0) ≤ cnt (fun b => 0 ≤ s' 133 b) m := by
            intro m
            induction m with
            | zero => intro _; rw [if_neg (by omega)]; exact Nat.le_refl _
            | succ m ihm =>
              intro hm
              have i1 := ihm (by omega)
              by_cases e : m = b
              · subst e
                rw [cnt_n (p := fun b => 0 ≤ s2 133 b) (by omega), cnt_y (p := fun b => 0 ≤ s' 133 b) u4, if_pos (by omega)]
                rw [if_neg (by omega)] at i1
                omega
              · by_cases c : 0 ≤ s2 133 m
                · rw [cnt_y (p := fun b => 0 ≤ s2 133 b) c, cnt_y (p := fun b => 0 ≤ s' 133 b) (by show 0 ≤ s' 133 m; rw [keep m (by omega) c]; exact c)]
                  by_cases l : b < m
                  · rw [if_pos l] at i1; rw [if_pos (by omega)]; omega
                  · rw [if_neg l] at i1; rw [if_neg (by omega)]; omega
                · rw [cnt_n (p := fun b => 0 ≤ s2 133 b) c]
                  have up : cnt (fun b => 0 ≤ s' 133 b) m ≤ cnt (fun b => 0 ≤ s' 133 b) (m + 1) := by
                    by_cases c' : 0 ≤ s' 133 m
                    · rw [cnt_y (p := fun b => 0 ≤ s' 133 b) c']; omega
                    · rw [cnt_n (p := fun b => 0 ≤ s' 133 b) c']; exact Nat.le_refl _
                  by_cases l : b < m
                  · rw [if_pos l] at i1; rw [if_pos (by omega)]; omega
                  · rw [if_neg l] at i1; rw [if_neg (by omega)]; omega
          have := key S (Nat.le_refl _)
          rw [if_pos u2] at this
          exact this
        obtain ⟨s3, d3, y1, y2, y3, y4, y5, y6⟩ := ih (d + 1) G s' (by omega) (by omega) (by omega) z2 gi'
        refine ⟨s3, d3, ?_, y2, fun c u => by rw [y3 c u, z4 c u], y4, y5, y6⟩
        rw [show G + (q + 1) + 2 = (G + q + 2) + 1 by omega, j_244_36, if_neg (by decide), z1', u1, y1]
  have c1 : 1 ≤ cnt (fun b => 0 ≤ s1 133 b) S := by
    apply Decidable.byContradiction
    intro hn
    exact cnt_0 S (p := fun b => 0 ≤ s1 133 b) (by omega) a aS (by show 0 ≤ s1 133 a; rw [v1 a aS, if_pos rfl]; decide)
  obtain ⟨s', d', y1, y2, y3, ⟨k1, k2, k3, k4, k5⟩, y5, y6⟩ := rnd S 1 (F + 1) s1 (by omega) (Nat.le_refl _) c1 ag1 gi1
  rw [show F + 1 + S + 2 = FU by omega] at y1
  refine ⟨s', ?_, y2, fun c u => by rw [y3 c u, fr1 c u], fun b hb => ⟨k3 b hb, fun u => ?_⟩, k1, fun b hb => by have := y5 b hb; omega, k4, k1, fun b hb u v => ?_, fun b c ed u => k5 b c ed u (y5 c ed.2.1)⟩
  · unfold f_244
    have e1' : j_244_2 FU (a : Int) 0 s = _ := e1
    rw [e1']
    exact y1
  · have := WAY.clos (P := fun x => x < S → 0 ≤ s' 133 x) u (fun _ => by rw [k1]; decide) (fun x z ed hz _ => (k5 x z ed (hz ed.2.1) (y5 z ed.2.1)).1)
    exact this hb
  · obtain ⟨c, c1, c2, c3, c4⟩ := k4 b hb u v
    exact ⟨c, c1, c2, c3, by omega⟩
end RMX
/-- the queue is sorted; what is known is at most one farther than the one looked at -/
def DX (E : Nat → Nat → Prop) (S told : Nat) (s : Sg) (Q i : Nat) : Prop := s 79 told = 0 ∧ (∀ j j' p p' : Nat, j ≤ j' → j' < Q → s 80 j = (p : Int) → s 80 j' = (p' : Int) → s 79 p ≤ s 79 p') ∧ (∀ x, x < S → x ≠ told → s 79 x ≠ -1 → ∃ c, c < S ∧ E x c ∧ s 79 c ≠ -1 ∧ s 79 c + 1 = s 79 x) ∧ (∀ x p : Nat, x < S → s 79 x ≠ -1 → i < Q → s 80 i = (p : Int) → s 79 x ≤ s 79 p + 1)
section MEX
variable {T : TT} {sc sm s s' s0 : Sg} {n' S P A N K C w M Q a b told : Nat} {t : Nat → Int} {tr : Nat → Nat} {E : Nat → Nat → Prop}
theorem c178x {i : Nat} (h : DQ E S told s Q) (dx : DX E S told s Q i) (hiQ : i < Q) (bi : s 80 i = (b : Int)) (hs : RGF sc s) (h54 : sc 54 6 = (S : Int)) (hS8 : S ≤ 1171) (ha : a < S) (hb : b < S) (b79 : s 79 b ≠ -1) (ed : E a b) : ∃ (s' : Sg) (Q' : Nat), f_178 (a : Int) (b : Int) s = some s' ∧ DQ E S told s' Q' ∧ MFR s s' ∧ Q ≤ Q' ∧ (∀ j, j < Q → s' 80 j = s 80 j) ∧ (∀ x, s 79 x ≠ -1 → s' 79 x ≠ -1) ∧ s' 79 a ≠ -1 ∧ DX E S told s' Q' i ∧ (∀ x, s 79 x ≠ -1 → s' 79 x = s 79 x) := by
  obtain ⟨h1, h2, h3, h4, h5, h6, h7⟩ := id h
  have f1 := c173 hs h54 hS8 ha
  have f2 := c173 hs h54 hS8 hb
  unfold f_178
  rw [f1, f2, if_neg (by decide), if_neg (by decide), gd_pos (by omega), Int.toNat_natCast, Int.toNat_natCast]
  by_cases d : s 79 a = -1
  · have q8 : Q < S := by
      have := cnt_lt (p := fun a => s 79 a ≠ -1) ha (fun y => y d)
      omega
    obtain ⟨k1, k2, k3⟩ := h4 b hb b79
    obtain ⟨s1, hs1⟩ : ∃ s1 : Sg, s1 = ax_u2 s 79 a (s 79 b + 1) := ⟨_, rfl⟩
    obtain ⟨s2, hs2⟩ : ∃ s2 : Sg, s2 = ax_u2 (ax_u2 s1 80 Q (a : Int)) 74 11 ((Q + 1 : Nat) : Int) := ⟨_, rfl⟩
    have e11 : s1 74 11 = (Q : Int) := by rw [hs1, u2_row _ _ _ (by decide)]; exact h1
    have g174 : g_174 (a : Int) s1 := by
      unfold g_174
      rw [e11]
      exact ⟨fun _ => trivial, fun _ => ⟨by omega, trivial⟩⟩
    have f174 : f_174 (a : Int) s1 = s2 := by
      unfold f_174
      rw [e11, if_neg (by omega), Int.toNat_natCast, w32_nat (by omega), hs2]
    have v79 : s2 79 a = s 79 b + 1 := by rw [hs2, u2_row _ _ _ (by decide), u2_row _ _ _ (by decide), hs1]; exact u2_same _ _ _ _
    have v79' : ∀ x, x ≠ a → s2 79 x = s 79 x := fun x y => by rw [hs2, u2_row _ _ _ (by decide), u2_row _ _ _ (by decide), hs1, u2_col _ _ _ y]
    have v80 : s2 80 Q = (a : Int) := by rw [hs2, u2_row _ _ _ (by decide)]; exact u2_same _ _ _ _
    have v80' : ∀ j, j ≠ Q → s2 80 j = s 80 j := fun j y => by rw [hs2, u2_row _ _ _ (by decide), u2_col _ _ _ y, hs1, u2_row _ _ _ (by decide)]
    have mono0 : ∀ x, s 79 x ≠ -1 → s2 79 x ≠ -1 := fun x y => by
      by_cases e : x = a
      · rw [e] at y; exact absurd d y
      · rw [v79' x e]; exact y
    have kept : ∀ x, s 79 x ≠ -1 → s2 79 x = s 79 x := fun x y => v79' x (fun e => y (by rw [e]; exact d))
    have dx2 : DX E S told s2 (Q + 1) i := by
      obtain ⟨x1, x2, x3, x4⟩ := dx
      have qb : ∀ j a', j < Q → s 80 j = ((a' : Nat) : Int) → s 79 a' ≠ -1 := fun j a' u v => h7 j u a' v
      refine ⟨by rw [kept told h6]; exact x1, fun j j' p p' u1 u2 u3 u4 => ?_, fun x hx hn hv => ?_, fun x p hx hv u1 u2 => ?_⟩
      · by_cases ej' : j' = Q
        · rw [ej', v80] at u4
          have ep' : p' = a := by omega
          by_cases ej : j = Q
          · rw [ej, v80] at u3
            rw [ep', show p = a by omega]
            exact Int.le_refl _
          · rw [v80' j ej] at u3
            have pv := qb j p (by omega) u3
            obtain ⟨pj, pj1, pj2⟩ := h2 j (by omega)
            rw [ep', v79, kept p pv]
            exact x4 p b (by omega) pv hiQ bi
        · rw [v80' j' ej'] at u4
          rw [v80' j (by omega)] at u3
          rw [kept p (qb j p (by omega) u3), kept p' (qb j' p' (by omega) u4)]
          exact x2 j j' p p' u1 (by omega) u3 u4
      · by_cases ex : x = a
        · exact ⟨b, hb, by rw [ex]; exact ed, mono0 b b79, by rw [ex, v79, kept b b79]⟩
        · rw [v79' x ex] at hv ⊢
          obtain ⟨y, y1, y2, y3, y4⟩ := x3 x hx hn hv
          exact ⟨y, y1, y2, mono0 y y3, by rw [kept y y3]; exact y4⟩
      · rw [v80' i (by omega)] at u2
        have pe : p = b := by omega
        rw [pe, kept b b79]
        by_cases ex : x = a
        · rw [ex, v79]; exact Int.le_refl _
        · rw [v79' x ex] at hv ⊢
          exact x4 x b hx hv hiQ bi
    have mono : ∀ x, s 79 x ≠ -1 → s2 79 x ≠ -1 := fun x y => by
      by_cases e : x = a
      · rw [e] at y; exact absurd d y
      · rw [v79' x e]; exact y
    rw [if_neg (fun e => e d), gd_pos (by omega), gd_pos (by omega), w32_id (z := s 79 b + 1) (by omega) (by omega), ← hs1, gd_pos g174, f174, Option.bind_some]
    refine ⟨s2, Q + 1, rfl, ⟨by rw [hs2]; exact u2_same _ _ _ _, fun j hj => ?_, ?_, fun x hx y => ?_, h5, mono told h6, fun j hj x y => ?_⟩, ⟨fun b x => by rw [hs2, u2_row _ _ _ (by omega), u2_row _ _ _ (by omega), hs1, u2_row _ _ _ (by omega)], fun j x => by rw [hs2, u2_col _ _ _ x, u2_row _ _ _ (by decide), hs1, u2_row _ _ _ (by decide)]⟩, by omega, fun j hj => v80' j (by omega), mono, by rw [v79]; omega, dx2, kept⟩
    · by_cases e : j = Q
      · exact ⟨a, by rw [e]; exact v80, ha⟩
      · obtain ⟨x, x1, x2⟩ := h2 j (by omega)
        exact ⟨x, by rw [v80' j e]; exact x1, x2⟩
    · rw [cnt_u S ha (p := fun a => s 79 a ≠ -1) (p' := fun a => s2 79 a ≠ -1) (fun y => y d) (by show s2 79 a ≠ -1; rw [v79]; omega) (fun i _ hi => by rw [v79' i hi]), ← h3]
    · by_cases e : x = a
      · rw [e, v79]
        exact ⟨by omega, WAY.step ed k2, Q, by omega, v80⟩
      · rw [v79' x e] at y ⊢
        obtain ⟨m1, m2, j, m3, m4⟩ := h4 x hx y
        exact ⟨by omega, m2, j, by omega, by rw [v80' j (by omega)]; exact m4⟩
    · by_cases e : j = Q
      · rw [e, v80] at y
        have : x = a := by omega
        rw [this, v79]
        omega
      · rw [v80' j e] at y
        exact mono x (h7 j (by omega) x y)
  · rw [if_pos d]
    exact ⟨s, Q, rfl, h, ⟨fun _ _ => rfl, fun _ _ => rfl⟩, Nat.le_refl _, fun _ _ => rfl, fun _ y => y, d, dx, fun _ _ => rfl⟩
theorem mea_inx (h54 : sc 54 6 = (S : Int)) (hS8 : S ≤ 1171) (hM : M ≤ 2730) (hs0 : RGF sc s0) (hg : CGW S s0 M tr) (hE : ∀ c, c < M → ∀ a : Nat, s0 76 c = (a : Int) → E a (tr c)) {i : Nat} (hb : b < S) (k61 : Int → Sg → Option Sg) (hi8 : i < 1171) :
    ∀ (lo l5 F : Nat) (p : Int) (s : Sg) (Q : Nat), lo + l5 ≤ M → LN tr b lo p → DQ E S told s Q → DX E S told s Q i → i < Q → s 80 i = (b : Int) → MFR s0 s → s 79 b ≠ -1 → (∀ c, lo ≤ c → c < M → tr c = b → ∀ a : Nat, s0 76 c = (a : Int) → s 79 a ≠ -1) →
      ∃ (s' : Sg) (Q' : Nat), j_167_93 k61 (F + lo + 1) (i : Int) (b : Int) p (l5 : Int) s = k61 ((i + 1 : Nat) : Int) s' ∧ DQ E S told s' Q' ∧ MFR s0 s' ∧ Q ≤ Q' ∧ (∀ j, j < Q → s' 80 j = s 80 j) ∧ (∀ x, s 79 x ≠ -1 → s' 79 x ≠ -1) ∧ (∀ c, c < M → tr c = b → ∀ a : Nat, s0 76 c = (a : Int) → s' 79 a ≠ -1) ∧ DX E S told s' Q' i ∧ (∀ x, s 79 x ≠ -1 → s' 79 x = s 79 x) := by
  intro lo
  induction lo using Nat.strongRecOn with
  | _ lo ih =>
  intro l5 F p s Q hl ln dq dx hiQ bi fr b79 vis
  have k138 : ∀ z : Sg, j_167_138 k61 (i : Int) z = k61 ((i + 1 : Nat) : Int) z := fun z => by
    unfold j_167_138
    rw [w32_nat (by omega)]
  rcases ln with ⟨e1, e2⟩ | ⟨c0, c1, c2, c3, c4⟩
  · refine ⟨s, Q, ?_, dq, fr, Nat.le_refl _, fun _ _ => rfl, fun _ y => y, fun c hc e a ha => vis c ?_ hc e a ha, dx, fun _ _ => rfl⟩
    · rw [j_167_93, e1, c176n, if_pos rfl, k138]
    · apply Decidable.byContradiction
      intro hn
      exact e2 c (by omega) e
  · subst c2
    have h7 : s 74 7 = (M : Int) := by rw [fr.2 7 (by decide)]; exact hg.1
    have hs : RGF sc s := fun b x => by rw [fr.1 b (by omega)]; exact hs0 b x
    obtain ⟨a, a1, a2, a3, a4⟩ := hg.2.1 c0 (by omega)
    have a1' : s 76 c0 = (a : Int) := by rw [fr.1 76 (by decide)]; exact a1
    obtain ⟨s1, Q1, x1, x2, x3, x4, x5, x6, x7, x8, x9⟩ := c178x dq dx hiQ bi hs h54 hS8 a2 hb b79 (by rw [← c3]; exact hE c0 (by omega) a a1)
    have e77 : s1 77 c0 = s0 77 c0 := by rw [x3.1 77 (by decide), fr.1 77 (by decide)]
    obtain ⟨s', Q', y1, y2, y3, y4, y5, y6, y7, y8, y9⟩ := ih c0 (by omega) (l5 + 1) (F + (lo - c0 - 1)) (s0 77 c0) s1 Q1 (by omega) (by rw [c3] at a4; exact a4) x2 x8 (by omega) (by rw [x5 i hiQ]; exact bi) (fr.trans x3) (x6 b b79) (fun c u v e a' ha' => by
      by_cases e3 : c = c0
      · rw [e3, a1] at ha'
        have : a' = a := by omega
        rw [this]; exact x7
      · exact x6 a' (vis c (by
          apply Decidable.byContradiction
          intro hn
          exact c4 c (by omega) (by omega) e) v e a' ha'))
    refine ⟨s', Q', ?_, y2, y3, by omega, fun j hj => by rw [y5 j (by omega)]; exact x5 j hj, fun x u => y6 x (x6 x u), y7, y8, fun x u => by rw [y9 x (x6 x u)]; exact x9 x u⟩
    rw [show F + lo + 1 = (F + (lo - c0 - 1) + c0 + 1) + 1 by omega, j_167_93, c176 h7 hM (by omega), if_neg (by decide), h7, if_neg (by omega), gd_pos (by omega), Int.toNat_natCast, a1', x1, Option.bind_some, gd_pos (by omega), e77, w32_nat (by omega), y1]
theorem c167x (h54 : sc 54 6 = (S : Int)) (hS8 : S ≤ 1171) (hM : M ≤ 2730) (hs0 : RGF sc s0) (hg : CGW S s0 M tr) (hE : ∀ c, c < M → ∀ a : Nat, s0 76 c = (a : Int) → E a (tr c)) (hE2 : ∀ a b, E a b → ∃ c, c < M ∧ s0 76 c = (a : Int) ∧ tr c = b) (hEb : ∀ a b, E a b → a < S ∧ b < S) (ht : told < S) : ∃ s' : Sg, f_167 (told : Int) s0 = some s' ∧ MFR s0 s' ∧ (∀ a, a < S → (s' 79 a ≠ -1 ↔ WAY E a told)) ∧ (∀ a, a < S → s' 79 a ≠ -1 → 0 ≤ s' 79 a) ∧ (∀ a, a < S → -1 ≤ s' 79 a) ∧ DFN E S told (s' 79) := by
  -- rows are cleared
  have clr : ∀ (r l F : Nat) (s : Sg), l + r = S → MFR s0 s → (∀ i, i < l → s 79 i = -1) → ∃ s' : Sg, j_167_2 (F + r + 1) (told : Int) (l : Int) s = j_167_33 (told : Int) s' ∧ MFR s0 s' ∧ (∀ i, i < S → s' 79 i = -1) := by
    intro r
    induction r with
    | zero =>
      intro l F s hl fr q
      exact ⟨s, by rw [j_167_2, fr.1 54 (by decide), hs0 54 (by decide), h54, if_pos (by omega)], fr, fun i hi => q i (by omega)⟩
    | succ r ih =>
      intro l F s hl fr q
      rw [show F + (r + 1) + 1 = (F + r + 1) + 1 by omega, j_167_2, fr.1 54 (by decide), hs0 54 (by decide), h54, if_neg (by omega), if_neg (by omega), gd_pos (by omega), w32_nat (by omega), Int.toNat_natCast]
      refine ih (l + 1) F _ (by omega) ⟨fun b x => by rw [u2_row _ _ _ (by omega)]; exact fr.1 b x, fun j x => by rw [u2_row _ _ _ (by decide)]; exact fr.2 j x⟩ (fun i hi => ?_)
      by_cases e : i = l
      · rw [e]; exact u2_same _ _ _ _
      · rw [u2_col _ _ _ e]; exact q i (by omega)
  obtain ⟨F, hF⟩ := FU_split (k := S + 2) (by omega)
  obtain ⟨s1, e1, fr1, q1⟩ := clr S 0 (F + 1) s0 (by omega) ⟨fun _ _ => rfl, fun _ _ => rfl⟩ (fun i hi => absurd hi (by omega))
  rw [show F + 1 + S + 1 = FU by omega] at e1
  obtain ⟨s2, hs2⟩ : ∃ s2 : Sg, s2 = ax_u2 (ax_u2 (ax_u2 (ax_u2 s1 74 11 0) 79 told 0) 80 0 (told : Int)) 74 11 1 := ⟨_, rfl⟩
  have v79 : s2 79 told = 0 := by rw [hs2, u2_row _ _ _ (by decide), u2_row _ _ _ (by decide)]; exact u2_same _ _ _ _
  have v79' : ∀ x, x ≠ told → s2 79 x = s1 79 x := fun x y => by rw [hs2, u2_row _ _ _ (by decide), u2_row _ _ _ (by decide), u2_col _ _ _ y, u2_row _ _ _ (by decide)]
  have v80 : s2 80 0 = (told : Int) := by rw [hs2, u2_row _ _ _ (by decide)]; exact u2_same _ _ _ _
  have fr2 : MFR s0 s2 := ⟨fun b x => by rw [hs2, u2_row _ _ _ (by omega), u2_row _ _ _ (by omega), u2_row _ _ _ (by omega), u2_row _ _ _ (by omega)]; exact fr1.1 b x, fun j x => by rw [hs2, u2_col _ _ _ x, u2_row _ _ _ (by decide), u2_row _ _ _ (by decide), u2_col _ _ _ x]; exact fr1.2 j x⟩
  have dq : DQ E S told s2 1 := by
    refine ⟨by rw [hs2]; exact u2_same _ _ _ _, fun j hj => ⟨told, by rw [show j = 0 by omega]; exact v80, ht⟩, ?_, fun a ha y => ?_, ht, by rw [v79]; decide, fun j hj x y => by
      rw [show j = 0 by omega, v80] at y
      rw [show x = told by omega, v79]
      decide⟩
    · rw [cnt_u S ht (p := fun a => s1 79 a ≠ -1) (p' := fun a => s2 79 a ≠ -1) (fun y => y (q1 told ht)) (by show s2 79 told ≠ -1; rw [v79]; decide) (fun i _ hi => by rw [v79' i hi]), cnt_z S (fun i hi y => y (q1 i hi))]
    · by_cases e : a = told
      · rw [e, v79]
        exact ⟨by decide, WAY.refl told, 0, by omega, v80⟩
      · rw [v79' a e] at y
        exact absurd (q1 a ha) y
  have dx0 : DX E S told s2 1 0 := by
    refine ⟨v79, fun j j' p p' u1 u2 u3 u4 => ?_, fun x hx hn hv => ?_, fun x p hx hv u1 u2 => ?_⟩
    · rw [show j = 0 by omega, v80] at u3
      rw [show j' = 0 by omega, v80] at u4
      rw [show p = told by omega, show p' = told by omega]
      exact Int.le_refl _
    · rw [v79' x hn] at hv
      exact absurd (q1 x hx) hv
    · rw [v80] at u2
      rw [show p = told by omega, v79]
      by_cases e : x = told
      · rw [e, v79]; decide
      · rw [v79' x e, q1 x hx]; decide
  have e33 : j_167_33 (told : Int) s1 = j_167_61 FU 0 s2 := by
    unfold j_167_33
    have f1 : f_173 (told : Int) (ax_u2 s1 74 11 0) = 1 := c173 (sc := sc) (fun b x => by rw [u2_row _ _ _ (by omega), fr1.1 b (by omega)]; exact hs0 b x) h54 hS8 ht
    have e11 : (ax_u2 (ax_u2 s1 74 11 0) 79 told 0) 74 11 = 0 := by rw [u2_row _ _ _ (by decide)]; exact u2_same _ _ _ _
    have g174 : g_174 (told : Int) (ax_u2 (ax_u2 s1 74 11 0) 79 told 0) := by
      unfold g_174
      rw [e11]
      exact ⟨fun _ => trivial, fun _ => ⟨by decide, trivial⟩⟩
    have f174 : f_174 (told : Int) (ax_u2 (ax_u2 s1 74 11 0) 79 told 0) = s2 := by
      unfold f_174
      rw [e11, if_neg (by decide), hs2]
      rfl
    rw [f1, if_pos (by decide), gd_pos (by omega), Int.toNat_natCast, gd_pos g174, f174, Option.bind_some]
  -- the callers of each
  have go : ∀ (r i G : Nat) (s : Sg) (Q : Nat), i + r = S → i ≤ Q → DQ E S told s Q → DX E S told s Q i → MFR s0 s → (∀ j, j < i → ∀ c, c < M → s 80 j = ((tr c : Nat) : Int) → ∀ a : Nat, s0 76 c = (a : Int) → s 79 a ≠ -1 ∧ s 79 a ≤ s 79 (tr c) + 1) → ∃ (s' : Sg) (Q' : Nat), j_167_61 (G + r + 1) (i : Int) s = some s' ∧ DQ E S told s' Q' ∧ MFR s0 s' ∧ (∀ j, j < Q' → ∀ c, c < M → s' 80 j = ((tr c : Nat) : Int) → ∀ a : Nat, s0 76 c = (a : Int) → s' 79 a ≠ -1 ∧ s' 79 a ≤ s' 79 (tr c) + 1) ∧ (∃ i', DX E S told s' Q' i') := by
    intro r
    induction r with
    | zero =>
      intro i G s Q hr hi dq dx fr pr
      have qS : Q ≤ S := by rw [dq.2.2.1]; exact cnt_le S
      exact ⟨s, Q, by rw [j_167_61, dq.1, if_pos (by omega)], dq, fr, fun j hj => pr j (by omega), i, dx⟩
    | succ r ih =>
      intro i G s Q hr hi dq dx fr pr
      have hs : RGF sc s := fun b x => by rw [fr.1 b (by omega)]; exact hs0 b x
      by_cases d : Q ≤ i
      · exact ⟨s, Q, by rw [j_167_61, dq.1, if_pos (by omega)], dq, fr, fun j hj => pr j (by omega), i, dx⟩
      · obtain ⟨b, b1, b2⟩ := dq.2.1 i (by omega)
        have b79 : s 79 b ≠ -1 := by
          exact dq.2.2.2.2.2.2 i (by omega) b b1
        obtain ⟨p1, p2⟩ := c175 hs h54 hS8 b2
        have e75 : s 75 b = s0 75 b := by rw [fr.1 75 (by decide)]
        obtain ⟨H, hH⟩ := FU_split (k := M + 1) (by omega)
        obtain ⟨s', Q', y1, y2, y3, y4, y5, y6, y7, y8, y9⟩ := mea_inx h54 hS8 hM hs0 hg hE (i := i) b2 (j_167_61 (G + r + 1)) (by omega) M 0 H (s0 75 b) s Q (by omega) (hg.2.2 b b2) dq dx (by omega) b1 fr b79 (fun c u v => absurd v (by omega))
        rw [show H + M + 1 = FU by omega] at y1
        have y1' : j_167_93 (j_167_61 (G + r + 1)) FU (i : Int) (b : Int) (s0 75 b) 0 s = _ := y1
        have dx' : DX E S told s' Q' (i + 1) := by
          obtain ⟨w1, w2, w3, w4⟩ := y8
          refine ⟨w1, w2, w3, fun x p hx hv u1 u2 => ?_⟩
          have p1 := w4 x b hx hv (by omega) (by rw [y5 i (by omega)]; exact b1)
          have p2 := w2 i (i + 1) b p (by omega) u1 (by rw [y5 i (by omega)]; exact b1) u2
          omega
        obtain ⟨s3, Q3, z1, z2, z3, z4⟩ := ih (i + 1) G s' Q' (by omega) (by omega) y2 dx' y3 (fun j hj c hc e a ha => by
          rw [y5 j (by omega)] at e
          obtain ⟨at', q1', q2'⟩ := hg.2.1 c hc
          have aS' : a < S := by
            rw [ha] at q1'
            have : at' = a := by omega
            rw [← this]; exact q2'.1
          by_cases e2 : j = i
          · rw [e2, b1] at e
            have eb : tr c = b := by omega
            have v1 := y7 c hc eb a ha
            refine ⟨v1, ?_⟩
            rw [eb]
            exact y8.2.2.2 a b aS' v1 (by omega) (by rw [y5 i (by omega)]; exact b1)
          · obtain ⟨p1, p2⟩ := pr j (by omega) c hc e a ha
            have tv := dq.2.2.2.2.2.2 j (by omega) (tr c) e
            exact ⟨y6 a p1, by rw [y9 a p1, y9 (tr c) tv]; exact p2⟩)
        refine ⟨s3, Q3, ?_, z2, z3, z4⟩
        rw [show G + (r + 1) + 1 = (G + r + 1) + 1 by omega, j_167_61, dq.1, if_neg (by omega), if_neg (by omega), gd_pos (by omega), Int.toNat_natCast, b1, gd_pos p1, p2, e75, y1', z1]
  obtain ⟨s3, Q3, e3, dq3, fr3, pr3, i3, dx3⟩ := go S 0 (F + 1) s2 1 (by omega) (by omega) dq dx0 fr2 (fun j hj => absurd hj (by omega))
  rw [show F + 1 + S + 1 = FU by omega] at e3
  refine ⟨s3, ?_, fr3, fun a ha => ⟨fun y => (dq3.2.2.2.1 a ha y).2.1, fun y => ?_⟩, fun a ha y => (dq3.2.2.2.1 a ha y).1.1, fun a ha => ?_, dx3.1, fun b hb u v => ?_, fun b c ed u => ?_⟩
  · unfold f_167
    have e1' : j_167_2 FU (told : Int) 0 s0 = _ := e1
    rw [e1', e33]
    exact e3
  · have := WAY.clos (P := fun x => x < S → s3 79 x ≠ -1) y (fun _ => dq3.2.2.2.2.2.1) (fun x z ed h _ => by
      obtain ⟨xS, zS⟩ := hEb x z ed
      obtain ⟨c, c1, c2, c3⟩ := hE2 x z ed
      obtain ⟨_, _, j, j1, j2⟩ := dq3.2.2.2.1 z zS (h zS)
      exact (pr3 j j1 c c1 (by rw [j2, c3]) x c2).1)
    exact this ha
  · by_cases e : s3 79 a = -1
    · omega
    · have := (dq3.2.2.2.1 a ha e).1.1
      omega
  · obtain ⟨c, c1, c2, c3, c4⟩ := dx3.2.2.1 b hb u (by omega)
    have := (dq3.2.2.2.1 c c1 c3).1.1
    exact ⟨c, c1, c2, this, by omega⟩
  · obtain ⟨bS, cS⟩ := hEb b c ed
    obtain ⟨k, k1, k2, k3⟩ := hE2 b c ed
    obtain ⟨_, _, j, j1, j2⟩ := dq3.2.2.2.1 c cS (by omega)
    obtain ⟨p1, p2⟩ := pr3 j j1 k k1 (by rw [j2, k3]) b k2
    rw [k3] at p2
    exact ⟨(dq3.2.2.2.1 b bS p1).1.1, p2⟩
end MEX
/-! RINGS: the nearest, as one run over the lexemes on both sides. -/
def nup (f : Nat → Int) (bs b : Int) : Int := if b < 0 then bs else if f b.toNat < 0 then bs else if bs < 0 then b else if f bs.toNat ≤ f b.toNat then bs else b
def cal (T : TT) (sc : Sg) (i : Nat) : Int := if T.tk i = 1 ∧ T.tk (i + 1) = 40 then sc 36 (T.vl i).toNat else -1
def nst (T : TT) (sc : Sg) (f : Nat → Int) : Nat → Nat → Int → Int
  | 0, _, bs => bs
  | d + 1, i, bs => nst T sc f d (i + 1) (nup f bs (cal T sc i))
section NST
variable {T : TT} {sc sm s s' s0 : Sg} {n' S P A N K C w M Q a b k told : Nat} {t : Nat → Int}
def bsO (S : Nat) (bs : Int) : Prop := bs = -1 ∨ ∃ b : Nat, bs = (b : Int) ∧ b < S
theorem bsO.up {f : Nat → Int} {bs c : Int} (h : bsO S bs) (k : bsO S c) : bsO S (nup f bs c) := by
  unfold nup
  split
  · exact h
  · split
    · exact h
    · split
      · exact k
      · split
        · exact h
        · exact k
theorem nst_cg {f g : Nat → Int} (h : ∀ b, b < S → (0 ≤ f b ↔ 0 ≤ g b) ∧ (0 ≤ g b → f b = g b)) : ∀ (d i : Nat) (bs : Int), (∀ j, i ≤ j → j < i + d → bsO S (cal T sc j)) → bsO S bs → (0 ≤ bs → 0 ≤ g bs.toNat) → nst T sc f d i bs = nst T sc g d i bs := by
  intro d
  induction d with
  | zero => intro i bs _ _ _; rfl
  | succ d ih =>
    intro i bs hc hb hg
    have ci := hc i (Nat.le_refl _) (by omega)
    have e : nup f bs (cal T sc i) = nup g bs (cal T sc i) := by
      unfold nup
      by_cases c0 : cal T sc i < 0
      · rw [if_pos c0, if_pos c0]
      · rw [if_neg c0, if_neg c0]
        obtain ⟨b, b1, b2⟩ : ∃ b : Nat, cal T sc i = (b : Int) ∧ b < S := by
          rcases ci with u | u
          · omega
          · exact u
        rw [b1, Int.toNat_natCast]
        obtain ⟨h1, h2⟩ := h b b2
        by_cases c1 : g b < 0
        · rw [if_pos (by omega), if_pos c1]
        · rw [if_neg (by omega), if_neg c1]
          by_cases c2 : bs < 0
          · rw [if_pos c2, if_pos c2]
          · rw [if_neg c2, if_neg c2]
            obtain ⟨x, x1, x2⟩ : ∃ x : Nat, bs = (x : Int) ∧ x < S := by
              rcases hb with u | u
              · omega
              · exact u
            have g0 := hg (by omega)
            rw [x1, Int.toNat_natCast] at g0 ⊢
            rw [h2 (by omega), (h x x2).2 g0]
    show nst T sc f d (i + 1) (nup f bs (cal T sc i)) = nst T sc g d (i + 1) (nup g bs (cal T sc i))
    rw [e]
    refine ih (i + 1) _ (fun j u v => hc j (by omega) (by omega)) (hb.up ci) (fun u => ?_)
    unfold nup at u ⊢
    by_cases c0 : cal T sc i < 0
    · rw [if_pos c0] at u ⊢
      exact hg u
    · rw [if_neg c0] at u ⊢
      by_cases c1 : g (cal T sc i).toNat < 0
      · rw [if_pos c1] at u ⊢
        exact hg u
      · rw [if_neg c1] at u ⊢
        by_cases c2 : bs < 0
        · rw [if_pos c2] at u ⊢
          omega
        · rw [if_neg c2] at u ⊢
          by_cases c3 : g bs.toNat ≤ g (cal T sc i).toNat
          · rw [if_pos c3] at u ⊢
            exact hg (by omega)
          · rw [if_neg c3] at u ⊢
            omega
/-- the class's -/
theorem c168x (h : CKX T sc sm n' t S P A N K C w) (g : GOOD T sc sm S A N w) (n6 : ¬ BD6 T sm S A N) (n7 : ¬ BD7 T sm S A N) (h54 : sc 54 6 = (S : Int)) (hS8 : S ≤ 1171) (hs : RGF sc s) (hk : k < S) {hd st e : Nat} (hl : HLR T sc sm k hd st e) (v79 : ∀ a, a < S → -1 ≤ s 79 a) : f_168 (k : Int) s = some (nst T sc (s 79) (e - (hd + 1)) (hd + 1) (-1)) := by
  obtain ⟨hd', b1, hdz, p7, e187, e170, e170n⟩ := c170 h hs h54 hS8 hk
  obtain ⟨hd2, st2, e2, hl2, ca, -⟩ := h.hlp g n6 n7 hk hl.2.2.1
  obtain ⟨hT, hX, hC, hD, -⟩ := id h
  have z8 := hT.1
  have eh : hd' = hd := by have := hl.1; omega
  subst eh
  have eh2 : hd2 = hd' := by have := hl.1; have := hl2.1; omega
  subst eh2
  have ee : e2 = e := hl2.2.2.2.2.2.2.1.uniq hl.2.2.2.2.2.2.1
  subst ee
  obtain ⟨l1, l2, l3, l4, l5, l6, l7, l8, l9⟩ := id hl
  have go : ∀ (r i G : Nat) (bs : Int), i + r = e2 → hd2 + 1 ≤ i → bsO S bs → j_168_20 (G + r + 1) bs (e2 : Int) (i : Int) s = some (nst T sc (s 79) r i bs) := by
    intro r
    induction r with
    | zero =>
      intro i G bs hi h1 hb
      rw [j_168_20, if_pos (by omega)]
      rfl
    | succ r ih =>
      intro i G bs hi h1 hb
      obtain ⟨w1, w2, w3⟩ := c171 hT hs hC (k := i) (by omega)
      have k90 : ∀ v : Int, j_168_90 (j_168_20 (G + r + 1)) v (e2 : Int) (i : Int) s = j_168_20 (G + r + 1) v (e2 : Int) ((i + 1 : Nat) : Int) s := fun v => by
        unfold j_168_90
        rw [w32_nat (by omega)]
      rw [show G + (r + 1) + 1 = (G + r + 1) + 1 by omega, j_168_20, if_neg (by omega), gd_pos w1]
      show _ = some (nst T sc (s 79) r (i + 1) (nup (s 79) bs (cal T sc i)))
      by_cases cc : CLL T i
      · obtain ⟨b, m, bS, e36, -⟩ := ca i (by omega) (by omega) cc
        have ec : cal T sc i = (b : Int) := by unfold cal; rw [if_pos (show T.tk i = 1 ∧ T.tk (i + 1) = 40 from cc)]; exact e36
        rw [w2 cc, e36, c173 hs h54 hS8 bS, if_neg (by decide), gd_pos (by omega), Int.toNat_natCast, ec]
        unfold j_168_59
        have vb := v79 b bS
        by_cases d : s 79 b = -1
        · rw [if_pos d, if_pos rfl, k90, ih (i + 1) G bs (by omega) (by omega) hb]
          unfold nup
          rw [if_neg (by omega), Int.toNat_natCast, if_pos (by omega)]
        · rw [if_neg d, if_neg (by decide)]
          have eu : nup (s 79) bs (b : Int) = if bs < 0 then (b : Int) else if s 79 bs.toNat ≤ s 79 b then bs else (b : Int) := by
            unfold nup
            rw [if_neg (by omega), Int.toNat_natCast, if_neg (by omega)]
          rcases hb with v1 | ⟨b0, rfl, v2⟩
          · rw [if_pos v1]
            unfold j_168_87
            rw [k90, ih (i + 1) G (b : Int) (by omega) (by omega) (Or.inr ⟨b, rfl, bS⟩), eu, if_pos (by omega)]
          · rw [if_neg (by omega), gd_pos (by omega), gd_pos (by omega), k90, Int.toNat_natCast b0, Int.toNat_natCast b, ih (i + 1) G _ (by omega) (by omega) (by
              split
              · exact Or.inr ⟨b0, rfl, v2⟩
              · exact Or.inr ⟨b, rfl, bS⟩), eu, if_neg (show ¬ (b0 : Int) < 0 by omega), Int.toNat_natCast]
      · have ec : cal T sc i = -1 := by unfold cal; rw [if_neg (show ¬ (T.tk i = 1 ∧ T.tk (i + 1) = 40) from cc)]
        rw [w3 cc, c173n, if_pos rfl, ec]
        unfold j_168_58 j_168_59
        rw [if_pos rfl, k90, ih (i + 1) G bs (by omega) (by omega) hb]
        unfold nup
        rw [if_pos (by decide)]
  obtain ⟨G, hG⟩ := FU_split (k := (e2 - (hd2 + 1)) + 1) (by omega)
  unfold f_168
  rw [e170 st e2 hl, Option.bind_some, gd_pos p7, e187, w32_nat (by omega), show FU = G + (e2 - (hd2 + 1)) + 1 by omega]
  exact go (e2 - (hd2 + 1)) (hd2 + 1) G (-1) (by omega) (Nat.le_refl _) (Or.inl rfl)
/-- the reference's -/
theorem m245x (h : CKX T sc sm n' t S P A N K C w) (g : GOOD T sc sm S A N w) (n6 : ¬ BD6 T sm S A N) (n7 : ¬ BD7 T sm S A N) (h11 : sm 84 11 = (T.z : Int)) (ha : AGr sm s) (hc : CAT T sm N (s 135)) (aS : a < S) {hd st e : Nat} (hl : HLR T sc sm a hd st e) : f_245 (a : Int) s = some (nst T sc (s 133) (e - (hd + 1)) (hd + 1) (-1)) := by
  obtain ⟨hd2, st2, e2, hl2, ca, cb⟩ := h.hlp g n6 n7 aS hl.2.2.1
  have clx := h.2.2.2.1.2.2.2.2.2.2.2.2.1
  have S8 := h.2.2.2.2.2.2.2.2.2.2.2.1
  have N8 := h.2.2.2.2.2.2.2.2.2.2.2.2.2.2
  have z8 := h.1.1
  have eh2 : hd2 = hd := by have := hl.1; have := hl2.1; omega
  subst eh2
  have ee : e2 = e := hl2.2.2.2.2.2.2.1.uniq hl.2.2.2.2.2.2.1
  subst ee
  obtain ⟨l1, l2, l3, l4, l5, l6, l7, l8, l9⟩ := id hl
  have rr : ∀ c, c ≠ 84 → c < 133 → s c = sm c := fun c u v => ha.1 c u (Or.inl v)
  obtain ⟨V, hV⟩ : ∃ V : Nat → Int → Int, V = fun i bs => if i ≤ hd2 then nst T sc (s 133) (e2 - (hd2 + 1)) (hd2 + 1) (-1) else if i < e2 then nst T sc (s 133) (e2 - i) i bs else bs := ⟨_, rfl⟩
  have vlo : ∀ i bs, i ≤ hd2 → V i bs = nst T sc (s 133) (e2 - (hd2 + 1)) (hd2 + 1) (-1) := fun i bs u => by rw [hV]; simp only [if_pos u]
  have vmi : ∀ i bs, hd2 < i → i ≤ e2 → V i bs = nst T sc (s 133) (e2 - i) i bs := fun i bs u v => by
    rw [hV]
    simp only [if_neg (show ¬ i ≤ hd2 by omega)]
    by_cases c : i < e2
    · rw [if_pos c]
    · rw [if_neg c, show e2 - i = 0 by omega]
      rfl
  have vhi : ∀ i bs, e2 ≤ i → V i bs = bs := fun i bs u => by
    rw [hV]
    simp only [if_neg (show ¬ i ≤ hd2 by omega), if_neg (show ¬ i < e2 by omega)]
  -- no call of a at i
  have stay : ∀ i bs, (i ≤ hd2 → bs = -1) → ¬ (hd2 < i ∧ i < e2 ∧ CLL T i) → V (i + 1) bs = V i bs := fun i bs hb hn => by
    by_cases c1 : i ≤ hd2
    · rw [vlo i bs c1]
      by_cases c2 : i + 1 ≤ hd2
      · rw [vlo (i + 1) bs c2]
      · rw [vmi (i + 1) bs (by omega) (by omega), show i + 1 = hd2 + 1 by omega, hb c1]
    · by_cases c2 : i < e2
      · rw [vmi (i + 1) bs (by omega) (by omega), vmi i bs (by omega) (by omega), show e2 - i = (e2 - (i + 1)) + 1 by omega]
        have ec : cal T sc i = -1 := by
          unfold cal
          rw [if_neg (show ¬ (T.tk i = 1 ∧ T.tk (i + 1) = 40) from fun u => hn ⟨by omega, c2, u⟩)]
        show _ = nst T sc (s 133) (e2 - (i + 1)) (i + 1) (nup (s 133) bs (cal T sc i))
        rw [ec]
        unfold nup
        rw [if_pos (by decide)]
      · rw [vhi (i + 1) bs (by omega), vhi i bs (by omega)]
  have go : ∀ (r i G : Nat) (bs : Int), i + r = T.z → bsO S bs → (i ≤ hd2 → bs = -1) → j_245_4 (G + r + 1) (a : Int) bs (i : Int) s = some (V i bs) := by
    intro r
    induction r with
    | zero =>
      intro i G bs hi hb h0
      rw [j_245_4, ha.2 11 (by decide) (by decide), h11, if_pos (by omega), vhi i bs (by omega)]
    | succ r ih =>
      intro i G bs hi hb h0
      have k82 : ∀ v : Int, j_245_82 (j_245_4 (G + r + 1)) (a : Int) v (i : Int) s = j_245_4 (G + r + 1) (a : Int) v ((i + 1 : Nat) : Int) s := fun v => by
        unfold j_245_82
        rw [w32_nat (by omega)]
      have skip : ¬ (hd2 < i ∧ i < e2 ∧ CLL T i) → j_245_82 (j_245_4 (G + r + 1)) (a : Int) bs (i : Int) s = some (V i bs) := fun hn => by
        rw [k82, ih (i + 1) G bs (by omega) hb (fun u => h0 (by omega)), stay i bs h0 hn]
      rw [show G + (r + 1) + 1 = (G + r + 1) + 1 by omega, j_245_4, ha.2 11 (by decide) (by decide), h11, if_neg (by omega), gd_pos (by omega), Int.toNat_natCast]
      rcases hc i (by omega) with ⟨q1, q2⟩ | ⟨n, q1, q2, q3, q4⟩
      · rw [if_pos q1]
        exact skip (fun u => by
          obtain ⟨b, m, -, -, -, -, m1, m2, m3, -⟩ := ca i u.1 u.2.1 u.2.2
          exact q2 m m1 m2 m3)
      · rw [q1, if_neg (by omega), gd_pos (by omega), Int.toNat_natCast, rr 123 (by decide) (by decide)]
        by_cases c23 : sm 123 n = (a : Int)
        · obtain ⟨x, y, c, x1, x2, y1, y2, e238, cS, so⟩ := call_at h g n6 n7 ha q2 q3
          have ex : x = i := by omega
          subst ex
          obtain ⟨x', k1, k2, k3, k4⟩ := cb n q2 q3 c23
          have ex' : x' = x := by omega
          subst ex'
          obtain ⟨b, m, bS, e36, -, sob, -⟩ := ca x' k2 k3 k4
          have ebc : b = c := sob.uniq so
          subst ebc
          have ec : cal T sc x' = (b : Int) := by unfold cal; rw [if_pos (show T.tk x' = 1 ∧ T.tk (x' + 1) = 40 from k4)]; exact e36
          have ev : V x' bs = nst T sc (s 133) (e2 - (x' + 1)) (x' + 1) (nup (s 133) bs (b : Int)) := by
            rw [vmi x' bs k2 (by omega), show e2 - x' = (e2 - (x' + 1)) + 1 by omega, ← ec]
            rfl
          have nxt : ∀ v : Int, bsO S v → j_245_4 (G + r + 1) (a : Int) v ((x' + 1 : Nat) : Int) s = some (nst T sc (s 133) (e2 - (x' + 1)) (x' + 1) v) := fun v hv => by
            rw [ih (x' + 1) G v (by omega) hv (fun u => absurd u (by omega)), vmi (x' + 1) v (by omega) (by omega)]
          rw [if_neg (fun e => e c23), gd_pos (by omega), rr 118 (by decide) (by decide), x1, e238, Option.bind_some, gd_pos (by omega), Int.toNat_natCast b, ev]
          by_cases d : s 133 b < 0
          · rw [if_pos d, k82, nxt bs hb]
            unfold nup
            rw [if_neg (by omega), Int.toNat_natCast, if_pos d]
          · have eu : nup (s 133) bs (b : Int) = if bs < 0 then (b : Int) else if s 133 bs.toNat ≤ s 133 b then bs else (b : Int) := by
              unfold nup
              rw [if_neg (by omega), Int.toNat_natCast, if_neg d]
            rw [if_neg d, eu]
            rcases hb with v1 | ⟨b0, rfl, v2⟩
            · rw [if_pos (show bs < 0 by omega), if_pos (show bs < 0 by omega)]
              unfold j_245_79
              rw [k82, nxt (b : Int) (Or.inr ⟨b, rfl, bS⟩)]
            · rw [if_neg (show ¬ (b0 : Int) < 0 by omega), if_neg (show ¬ (b0 : Int) < 0 by omega), gd_pos (by omega), gd_pos (by omega), k82, Int.toNat_natCast b0]
              exact nxt _ (by
                split
                · exact Or.inr ⟨b0, rfl, v2⟩
                · exact Or.inr ⟨b, rfl, bS⟩)
        · rw [if_pos c23]
          exact skip (fun u => by
            obtain ⟨b, m, -, -, -, -, m1, m2, m3, m4⟩ := ca i u.1 u.2.1 u.2.2
            rw [clx.2 m n m1 q2 m2 q3 (by omega)] at m4
            exact c23 m4)
  obtain ⟨G, hG⟩ := FU_split (k := T.z + 1) (by omega)
  unfold f_245
  rw [show FU = G + T.z + 1 by omega]
  have := go T.z 0 G (-1) (by omega) (Or.inl rfl) (fun _ => rfl)
  rw [vlo 0 (-1) (by omega)] at this
  exact this
end NST
/-! RINGS: the trace is alike. -/
section TRC
variable {T : TT} {sc sm s s' s0 : Sg} {n' S P A N K C w M Q a b x k told : Nat} {t : Nat → Int}
/-- one step of both traces -/
theorem trs (h : CKX T sc sm n' t S P A N K C w) (g : GOOD T sc sm S A N w) (n6 : ¬ BD6 T sm S A N) (n7 : ¬ BD7 T sm S A N) (h54 : sc 54 6 = (S : Int)) (hS8 : S ≤ 1171) (h11 : sm 84 11 = (T.z : Int)) {fC fM : Nat → Int} (vC : ∀ a, a < S → -1 ≤ fC a) (fe : ∀ b, b < S → (0 ≤ fC b ↔ 0 ≤ fM b) ∧ (0 ≤ fM b → fC b = fM b)) (xS : x < S) (x2 : sm 94 x = 2) {c0 : Nat} (c1 : EDG T sc sm S x c0) (c2 : 0 ≤ fM c0) {l : Nat} (hl : l < S) {sC sM : Sg} (hs : RGF sc sC) (hC79 : sC 79 = fC) (ha : AGr sm sM) (hc : CAT T sm N (sM 135)) (hM133 : sM 133 = fM) (h8 : 0 ≤ sM 84 8) (h72 : sM 84 72 = (l : Int)) :
    ∃ (b : Nat) (u : Int) (sC' sM' : Sg), b < S ∧ EDG T sc sm S x b ∧ 0 ≤ fM b ∧ (∀ c, EDG T sc sm S x c → 0 ≤ fM c → fM b ≤ fM c) ∧
      (∀ (F : Nat), j_169_4 (F + 1) (told : Int) (x : Int) (l : Int) sC = if b = told then some sC' else j_169_4 F (told : Int) (b : Int) ((l + 1 : Nat) : Int) sC') ∧
      (∀ (k68 : Int → Sg → Option Sg) (F : Nat), j_214_141 k68 (F + 1) (told : Int) (x : Int) 1 sM = j_214_141 k68 F (told : Int) (b : Int) (if b = told then 0 else 1) sM') ∧
      RGF sc sC' ∧ sC' 79 = fC ∧ AGr sm sM' ∧ CAT T sm N (sM' 135) ∧ sM' 133 = fM ∧ 0 ≤ sM' 84 8 ∧ sM' 84 72 = ((l + 1 : Nat) : Int) ∧ sC' 74 13 = ((l + 1 : Nat) : Int) ∧ (∀ i, i < l → sC' 81 i = sC 81 i ∧ sM' 134 i = sM 134 i) ∧ sC' 81 l = u ∧ sM' 134 l = u := by
  obtain ⟨hd, b1, hdz, p7, e187, -⟩ := c170 h hs h54 hS8 xS
  obtain ⟨hT, hX, hC, hD, -⟩ := id h
  have S8 := h.2.2.2.2.2.2.2.2.2.2.2.1
  have z8 := hT.1
  obtain ⟨hd2, st, e, hlr, ca, -⟩ := h.hlp g n6 n7 xS x2
  have eh : hd2 = hd := by have := hlr.1; omega
  subst eh
  obtain ⟨o1, o2⟩ := c80 (a := hd2) (hs.cc hC) hT (by omega)
  obtain ⟨i1, j1, d1, -, d3, -⟩ := hX.2.2.2 hd2 hdz
  obtain ⟨sC', hsC⟩ : ∃ z : Sg, z = ax_u2 (ax_u2 sC 81 l (T.fm hd2)) 74 13 ((l + 1 : Nat) : Int) := ⟨_, rfl⟩
  obtain ⟨sM', hsM⟩ : ∃ z : Sg, z = ax_u2 (ax_u2 sM 134 l (sM 89 hd2)) 84 72 ((l + 1 : Nat) : Int) := ⟨_, rfl⟩
  have hs2 : RGF sc sC' := fun b y => by rw [hsC, u2_row _ _ _ (by omega), u2_row _ _ _ (by omega)]; exact hs b y
  have c79 : sC' 79 = fC := by rw [hsC, u2_row _ _ _ (by decide), u2_row _ _ _ (by decide)]; exact hC79
  have ha2 : AGr sm sM' := ⟨fun c u y => by rw [hsM, u2_row _ _ _ u, u2_row _ _ _ (by omega)]; exact ha.1 c u y, fun j u y => by rw [hsM, u2_col _ _ _ y, u2_row _ _ _ (by decide)]; exact ha.2 j u y⟩
  have hf2 : sM' 133 = fM := by rw [hsM, u2_row _ _ _ (by decide), u2_row _ _ _ (by decide)]; exact hM133
  have hc2 : CAT T sm N (sM' 135) := by rw [hsM, u2_row _ _ _ (by decide), u2_row _ _ _ (by decide)]; exact hc
  have h82 : 0 ≤ sM' 84 8 := by rw [hsM, u2_col _ _ _ (by decide), u2_row _ _ _ (by decide)]; exact h8
  have h722 : sM' 84 72 = ((l + 1 : Nat) : Int) := by rw [hsM]; exact u2_same _ _ _ _
  have q1 := c168x h g n6 n7 h54 hS8 hs2 xS hlr (by rw [c79]; exact vC)
  have q2 := m245x h g n6 n7 h11 ha2 hc2 xS hlr
  obtain ⟨r, q3, q4⟩ := m245 h g n6 n7 h11 ha2 hc2 xS x2
  have calO : ∀ j, hd2 + 1 ≤ j → j < hd2 + 1 + (e - (hd2 + 1)) → bsO S (cal T sc j) := fun j u v => by
    unfold cal
    by_cases cc : T.tk j = 1 ∧ T.tk (j + 1) = 40
    · rw [if_pos cc]
      have := hlr.2.2.2.2.2.1
      have l5 := hlr.2.2.2.2.1
      obtain ⟨b, m, bS, e36, -⟩ := ca j (by omega) (by omega) cc
      exact Or.inr ⟨b, e36, bS⟩
    · rw [if_neg cc]
      exact Or.inl rfl
  rw [c79, nst_cg fe (e - (hd2 + 1)) (hd2 + 1) (-1) calO (Or.inl rfl) (fun u => absurd u (by decide))] at q1
  rw [hf2] at q2 q4
  rw [q2] at q3
  have er : nst T sc fM (e - (hd2 + 1)) (hd2 + 1) (-1) = r := Option.some.inj q3
  rw [er] at q1 q2
  rcases q4 with ⟨_, y⟩ | ⟨b, y1, y2, y3, y4⟩
  · have := y c0 c1
    omega
  have bS := y2.2.1
  rw [y1] at q1 q2
  refine ⟨b, T.fm hd2, sC', sM', bS, y2, y3, y4, fun F => ?_, fun k68 F => ?_, hs2, c79, ha2, hc2, hf2, h82, h722, by rw [hsC]; exact u2_same _ _ _ _, fun i hi => ⟨?_, ?_⟩, ?_, ?_⟩
  · rw [j_169_4, if_neg (by omega), gd_pos p7, e187, gd_pos o2, o1, gd_pos (by omega), Int.toNat_natCast, w32_nat (by omega), ← hsC, q1, Option.bind_some]
    by_cases d : b = told
    · rw [if_pos (by omega), if_pos d]
    · rw [if_neg (by omega), if_pos (by omega), if_neg d]
  · rw [j_214_141, if_neg (by decide), gd_pos (by omega), Int.toNat_natCast, ha.1 95 (by decide) (by decide), hlr.2.1, gd_pos (by omega), h72, gd_pos (by omega), Int.toNat_natCast l, Int.toNat_natCast hd2, w32_nat (by omega), ← hsM, q2, Option.bind_some]
    by_cases d : b = told
    · rw [if_pos (by omega), if_pos d]
    · rw [if_neg (by omega), if_neg d]
  · rw [hsC, u2_row _ _ _ (by decide), u2_col _ _ _ (by omega)]
  · rw [hsM, u2_row _ _ _ (by decide), u2_col _ _ _ (by omega)]
  · rw [hsC, u2_row _ _ _ (by decide), u2_at, if_pos rfl]
  · rw [hsM, u2_row _ _ _ (by decide), u2_at, if_pos rfl, ha.1 89 (by decide) (by decide), d3, d1]
/-- what two traces have in common -/
def TRE (sc sm sC sM : Sg) (l : Nat) (sC' sM' : Sg) : Prop := ∃ l' : Nat, RGF sc sC' ∧ AGr sm sM' ∧ 0 ≤ sM' 84 8 ∧ sM' 84 72 = (l' : Int) ∧ sC' 74 13 = (l' : Int) ∧ l ≤ l' ∧ l' ≤ 1171 ∧ (∀ i, i < l → sC' 81 i = sC 81 i ∧ sM' 134 i = sM 134 i) ∧ (∀ i, l ≤ i → i < l' → sC' 81 i = sM' 134 i)
theorem trc (h : CKX T sc sm n' t S P A N K C w) (g : GOOD T sc sm S A N w) (n6 : ¬ BD6 T sm S A N) (n7 : ¬ BD7 T sm S A N) (h54 : sc 54 6 = (S : Int)) (hS8 : S ≤ 1171) (h11 : sm 84 11 = (T.z : Int)) {fC fM : Nat → Int} (vC : ∀ a, a < S → -1 ≤ fC a) (fe : ∀ b, b < S → (0 ≤ fC b ↔ 0 ≤ fM b) ∧ (0 ≤ fM b → fC b = fM b)) (dM : DFN (EDG T sc sm S) S told fM) (hlp2 : ∀ y z, EDG T sc sm S y z → sm 94 z = 2) (tS : told < S) :
    ∀ (v x l Fc Fm : Nat) (k68 : Int → Sg → Option Sg) (sC sM : Sg), x < S → sm 94 x = 2 → x ≠ told → fM x = (v : Int) → l + v ≤ S → RGF sc sC → sC 79 = fC → AGr sm sM → CAT T sm N (sM 135) → sM 133 = fM → 0 ≤ sM 84 8 → sM 84 72 = (l : Int) → ∃ sC' sM' : Sg, j_169_4 (Fc + v + 1) (told : Int) (x : Int) (l : Int) sC = some sC' ∧ j_214_141 k68 (Fm + v + 2) (told : Int) (x : Int) 1 sM = k68 ((told + 1 : Nat) : Int) sM' ∧ TRE sc sm sC sM l sC' sM' := by
  have S8 := h.2.2.2.2.2.2.2.2.2.2.2.1
  intro v
  induction v using Nat.strongRecOn with
  | ind v ih =>
    intro x l Fc Fm k68 sC sM xS x2 xt fx lv r1 r2 r3 r4 r5 r6 r7
    obtain ⟨c0, c1, c2, c3, c4⟩ := dM.2.1 x xS xt (by omega)
    obtain ⟨b, u, sC1, sM1, b1, b2, b3, b4, b5, b6, b7, b8, b9, b10, b11, b12, b13, b14, b15, b16, b17⟩ := trs (told := told) h g n6 n7 h54 hS8 h11 vC fe xS x2 c2 c3 (l := l) (by omega) r1 r2 r3 r4 r5 r6 r7
    have lt : fM b < fM x := by
      have := b4 c0 c2 c3
      omega
    by_cases d : b = told
    · refine ⟨sC1, sM1, by rw [b5, if_pos d], ?_, l + 1, b7, b9, b12, b13, b14, by omega, by omega, b15, fun i u1 u2 => by rw [show i = l by omega, b16, b17]⟩
      rw [show Fm + v + 2 = (Fm + v + 1) + 1 by omega, b6, if_pos d, show Fm + v + 1 = (Fm + v) + 1 by omega, j_214_141, if_pos rfl]
      unfold j_214_195
      rw [w32_nat (by omega)]
    · obtain ⟨vb, hvb⟩ : ∃ vb : Nat, fM b = (vb : Int) := ⟨(fM b).toNat, by omega⟩
      obtain ⟨sC', sM', e1, e2, l', t1, t2, t3, t4, t5, t6, t7, t8, t9⟩ := ih vb (by omega) b (l + 1) (Fc + (v - vb) - 1) (Fm + (v - vb) - 1) k68 sC1 sM1 b1 (hlp2 x b b2) d hvb (by omega) b7 b8 b9 b10 b11 b12 b13
      rw [show Fc + (v - vb) - 1 + vb + 1 = Fc + v by omega] at e1
      rw [show Fm + (v - vb) - 1 + vb + 2 = Fm + v + 1 by omega] at e2
      refine ⟨sC', sM', by rw [b5, if_neg d]; exact e1, ?_, l', t1, t2, t3, t4, t5, by omega, t7, fun i hi => ?_, fun i u1 u2 => ?_⟩
      · rw [show Fm + v + 2 = (Fm + v + 1) + 1 by omega, b6, if_neg d]
        exact e2
      · obtain ⟨p1, p2⟩ := t8 i (by omega)
        obtain ⟨p3, p4⟩ := b15 i hi
        exact ⟨by rw [p1, p3], by rw [p2, p4]⟩
      · by_cases e : i = l
        · obtain ⟨p1, p2⟩ := t8 l (by omega)
          rw [e, p1, p2, b16, b17]
        · exact t9 i (by omega) u2
/-- from the told one on -/
theorem trc0 (h : CKX T sc sm n' t S P A N K C w) (g : GOOD T sc sm S A N w) (n6 : ¬ BD6 T sm S A N) (n7 : ¬ BD7 T sm S A N) (h54 : sc 54 6 = (S : Int)) (hS8 : S ≤ 1171) (h11 : sm 84 11 = (T.z : Int)) {fC fM : Nat → Int} (vC : ∀ a, a < S → -1 ≤ fC a) (dC : DFN (EDG T sc sm S) S told fC) (dM : DFN (EDG T sc sm S) S told fM) (lM : ∀ b, b < S → fM b < (S : Int)) (hlp2 : ∀ y z, EDG T sc sm S y z → sm 94 z = 2) (tS : told < S) (t2 : sm 94 told = 2) {c0 : Nat} (c1 : EDG T sc sm S told c0) (c2 : 0 ≤ fM c0) (k68 : Int → Sg → Option Sg) {sC sM : Sg} (r1 : RGF sc sC) (r2 : sC 79 = fC) (r3 : AGr sm sM) (r4 : CAT T sm N (sM 135)) (r5 : sM 133 = fM) (r6 : 0 ≤ sM 84 8) (r7 : sM 84 72 = 0) :
    ∃ sC' sM' : Sg, f_169 (told : Int) sC = some sC' ∧ j_214_141 k68 FU (told : Int) (told : Int) 1 sM = k68 ((told + 1 : Nat) : Int) sM' ∧ TRE sc sm sC sM 0 sC' sM' := by
  have S8 := h.2.2.2.2.2.2.2.2.2.2.2.1
  have fe : ∀ b, b < S → (0 ≤ fC b ↔ 0 ≤ fM b) ∧ (0 ≤ fM b → fC b = fM b) := fun b hb => dC.eq dM hb
  obtain ⟨b, u, sC1, sM1, b1, b2, b3, b4, b5, b6, b7, b8, b9, b10, b11, b12, b13, b14, b15, b16, b17⟩ := trs (told := told) h g n6 n7 h54 hS8 h11 vC fe tS t2 c1 c2 (l := 0) (by omega) r1 r2 r3 r4 r5 r6 r7
  obtain ⟨G, hG⟩ := FU_split (k := S + 4) (by omega)
  have e169 : f_169 (told : Int) sC = j_169_4 FU (told : Int) (told : Int) 0 sC := rfl
  have b5' : j_169_4 FU (told : Int) (told : Int) 0 sC = if b = told then some sC1 else j_169_4 (G + S + 3) (told : Int) (b : Int) ((0 + 1 : Nat) : Int) sC1 := by rw [show FU = (G + S + 3) + 1 by omega]; exact b5 (G + S + 3)
  by_cases d : b = told
  · refine ⟨sC1, sM1, by rw [e169, b5', if_pos d], ?_, 0 + 1, b7, b9, b12, b13, b14, by omega, by omega, fun i hi => absurd hi (by omega), fun i u1 u2 => by rw [show i = 0 by omega, b16, b17]⟩
    rw [show FU = (G + S + 3) + 1 by omega, b6, if_pos d, show G + S + 3 = (G + S + 2) + 1 by omega, j_214_141, if_pos rfl]
    unfold j_214_195
    rw [w32_nat (by omega)]
  · obtain ⟨vb, hvb⟩ : ∃ vb : Nat, fM b = (vb : Int) := ⟨(fM b).toNat, by omega⟩
    have lb := lM b b1
    obtain ⟨sC', sM', e1, e2, l', t1, t2', t3, t4, t5, t6, t7, t8, t9⟩ := trc h g n6 n7 h54 hS8 h11 vC fe dM hlp2 tS vb b (0 + 1) (G + (S + 2 - vb)) (G + (S + 1 - vb)) k68 sC1 sM1 b1 (hlp2 told b b2) d hvb (by omega) b7 b8 b9 b10 b11 b12 b13
    rw [show G + (S + 2 - vb) + vb + 1 = G + S + 3 by omega] at e1
    rw [show G + (S + 1 - vb) + vb + 2 = G + S + 3 by omega] at e2
    refine ⟨sC', sM', by rw [e169, b5', if_neg d]; exact e1, ?_, l', t1, t2', t3, t4, t5, by omega, t7, fun i hi => absurd hi (by omega), fun i u1 u2 => ?_⟩
    · rw [show FU = (G + S + 3) + 1 by omega, b6, if_neg d]
      exact e2
    · by_cases e : i = 0
      · obtain ⟨p1, p2⟩ := t8 0 (by omega)
        rw [e, p1, p2, b16, b17]
      · exact t9 i (by omega) u2
end TRC
/-! RINGS: which one is told, on both sides. -/
section TLR
variable {T : TT} {sc sm s s' s0 : Sg} {n' S P A N K C w M Q a b x k told : Nat} {t : Nat → Int} {tr : Nat → Nat}
/-- the first that calls itself -/
def LST (E : Nat → Nat → Prop) (S k : Nat) : Prop := k < S ∧ CYC E k ∧ ∀ j, j < k → ¬ CYC E j
theorem c164y (h : CKX T sc sm n' t S P A N K C w) (g : GOOD T sc sm S A N w) (n6 : ¬ BD6 T sm S A N) (n7 : ¬ BD7 T sm S A N) (h54 : sc 54 6 = (S : Int)) (hS8 : S ≤ 1171) :
    (∃ (k : Nat) (sC : Sg), LST (EDG T sc sm S) S k ∧ f_164 sc = j_164_39 (k : Int) sC ∧ RGF sc sC ∧ DFN (EDG T sc sm S) S k (sC 79) ∧ (∀ a, a < S → -1 ≤ sC 79 a)) ∨ ((∀ j, j < S → ¬ CYC (EDG T sc sm S) j) ∧ ∃ s' : Sg, f_164 sc = some s' ∧ s' 74 13 = sc 74 13) := by
  obtain ⟨s1, M, tr, e1, cg, hM, hs1, hE, hE2⟩ := c165 h g n6 n7 h54 hS8
  obtain ⟨s2, Q, e2, fr, r1, r2⟩ := c166 h54 hS8 hM hs1 cg
  have hs2 : RGF sc s2 := fun b x => by rw [r1 b (by omega)]; exact hs1 b x
  have rbs : ∀ s, MFR s2 s → s 74 13 = sc 74 13 := fun s fr => by rw [fr.2 13 (by decide), r2 13 (by decide), k165 e1]
  have cg2 : ∀ s, MFR s2 s → s 74 7 = s1 74 7 ∧ s 75 = s1 75 ∧ s 76 = s1 76 ∧ s 77 = s1 77 := fun s fr => ⟨by rw [fr.2 7 (by decide), r2 7 (by decide)], by rw [fr.1 75 (by decide), r1 75 (by decide)], by rw [fr.1 76 (by decide), r1 76 (by decide)], by rw [fr.1 77 (by decide), r1 77 (by decide)]⟩
  obtain ⟨hT, hX, hC, hD, -⟩ := id h
  have hEe : ∀ c, c < M → ∀ a : Nat, s1 76 c = (a : Int) → EDG T sc sm S a (tr c) := fun c hc a ha => by
    obtain ⟨a', y1, y2⟩ := hE c hc
    have : a' = a := by omega
    rw [← this]; exact y2
  unfold f_164
  rw [e1, Option.bind_some, e2, Option.bind_some]
  by_cases d : Q < S
  · rw [if_pos d, if_pos rfl]
    have go : ∀ (r k F : Nat) (s : Sg), k + r = S → MFR s2 s → (∀ j, j < k → ¬ CYC (EDG T sc sm S) j) → (∃ (k' : Nat) (sC : Sg), LST (EDG T sc sm S) S k' ∧ j_164_14 (F + r + 1) (k : Int) s = j_164_39 (k' : Int) sC ∧ RGF sc sC ∧ DFN (EDG T sc sm S) S k' (sC 79) ∧ (∀ a, a < S → -1 ≤ sC 79 a)) ∨ ((∀ j, j < S → ¬ CYC (EDG T sc sm S) j) ∧ ∃ s' : Sg, j_164_14 (F + r + 1) (k : Int) s = some s' ∧ s' 74 13 = sc 74 13) := by
      intro r
      induction r with
      | zero =>
        intro k F s hk fr no
        have hs : RGF sc s := fun b x => by rw [fr.1 b (by omega)]; exact hs2 b x
        exact Or.inr ⟨fun j hj => no j (by omega), s, by rw [j_164_14, hs 54 (by decide), h54, if_pos (by omega)], rbs s fr⟩
      | succ r ih =>
        intro k F s hk fr no
        have hs : RGF sc s := fun b x => by rw [fr.1 b (by omega)]; exact hs2 b x
        obtain ⟨q1, q2, q3, q4⟩ := cg2 s fr
        have kS : k < S := by omega
        have cgl : ∀ c, c < M → ∃ a : Nat, s 76 c = (a : Int) ∧ a < S ∧ tr c < S ∧ LN tr (tr c) c (s 77 c) := by rw [q3, q4]; exact cg.2.1
        obtain ⟨s', x1, x2, x3, x4, x5, x6⟩ := c167x h54 hS8 hM hs (tr := tr) ⟨by rw [q1]; exact cg.1, cgl, by rw [q2]; exact cg.2.2.1⟩ (E := EDG T sc sm S) (by rw [q3]; exact hEe) (by rw [q3]; exact hE2) (fun a b ed => ⟨ed.1, ed.2.1⟩) kS
        have hs' : RGF sc s' := fun b x => by rw [x2.1 b (by omega)]; exact hs b x
        obtain ⟨r', y1, y2⟩ := c168 h g n6 n7 h54 hS8 hs' kS
        have cyc : CYC (EDG T sc sm S) k ↔ ∃ b, EDG T sc sm S k b ∧ s' 79 b ≠ -1 := by
          constructor
          · intro ⟨b, u1, u2⟩
            exact ⟨b, u1, (x3 b u1.2.1).mpr u2⟩
          · intro ⟨b, u1, u2⟩
            exact ⟨b, u1, (x3 b u1.2.1).mp u2⟩
        have ef : j_164_14 (F + (r + 1) + 1) (k : Int) s = (if r' = -1 then j_164_14 (F + r + 1) ((k + 1 : Nat) : Int) s' else j_164_39 (k : Int) s') := by
          rw [show F + (r + 1) + 1 = (F + r + 1) + 1 by omega, j_164_14, hs 54 (by decide), h54, if_neg (by omega), x1, Option.bind_some, y1, Option.bind_some, w32_nat (by omega)]
        rw [ef]
        rcases y2 with ⟨y2, y3⟩ | ⟨b, y2, y3, y4⟩
        · rw [if_pos y2]
          refine ih (k + 1) F s' (by omega) (fr.trans x2) (fun j hj => ?_)
          by_cases e : j = k
          · rw [e, cyc]
            exact fun ⟨b, u1, u2⟩ => u2 (y3 b u1)
          · exact no j (by omega)
        · rw [if_neg (by omega)]
          exact Or.inl ⟨k, s', ⟨kS, cyc.mpr ⟨b, y3, y4⟩, no⟩, rfl, hs', x6, x5⟩
    obtain ⟨F, hF⟩ := FU_split (k := S + 1) (by omega)
    have := go S 0 F s2 (by omega) ⟨fun _ _ => rfl, fun _ _ => rfl⟩ (fun j hj => absurd hj (by omega))
    rw [show F + S + 1 = FU by omega] at this
    exact this
  · rw [if_neg d, if_neg (show ¬ (1 : Int) = 0 by decide)]
    refine Or.inr ⟨fun k k1 k2 => ?_, s2, rfl, rbs s2 ⟨fun _ _ => rfl, fun _ _ => rfl⟩⟩
    obtain ⟨f, hf⟩ := fr (by omega)
    exact absurd k2 (CYC.no (f := f) (fun x y ed => by
      obtain ⟨c, c1, c2, c3⟩ := hE2 x y ed
      have := hf c c1 x c2
      rw [c3] at this
      exact this))
theorem m214y (h : CKX T sc sm n' t S P A N K C w) (g : GOOD T sc sm S A N w) (n6 : ¬ BD6 T sm S A N) (n7 : ¬ BD7 T sm S A N) (h11 : sm 84 11 = (T.z : Int)) (h8 : sm 84 8 = -1) (h6 : sm 84 6 = 0) (h103 : ∀ i, i < S → sm 94 i = 2 → 1 ≤ sm 103 i ∧ sm 103 i ≤ 8192) (ls : LST (EDG T sc sm S) S told) : ∃ (F : Nat) (sM : Sg), f_214 sm = j_214_141 (j_214_68 (F + 1)) FU (told : Int) (told : Int) 1 sM ∧ AGr sm sM ∧ CAT T sm N (sM 135) ∧ 0 ≤ sM 84 8 ∧ sM 84 72 = 0 ∧ DFN (EDG T sc sm S) S told (sM 133) ∧ (∀ b, b < S → sM 133 b < (S : Int)) := by
  have S8 := h.2.2.2.2.2.2.2.2.2.2.2.1
  have N8 := h.2.2.2.2.2.2.2.2.2.2.2.2.2.2
  have P8 := h.2.2.2.2.2.2.2.2.2.2.2.2.1
  have hN := h.2.2.2.2.1
  have h19 := h.2.2.2.2.2.1
  have clx := h.2.2.2.1.2.2.2.2.2.2.2.2.1
  have z8 := h.1.1
  -- the search
  have go : ∀ (r l F : Nat) (s : Sg), l + r = told → AGr sm s → CAT T sm N (s 135) → s 84 8 = -1 → s 84 72 = 0 → ∃ (F' : Nat) (sM : Sg), j_214_68 (F + r + 3) (l : Int) s = j_214_141 (j_214_68 (F' + 1)) FU (told : Int) (told : Int) 1 sM ∧ AGr sm sM ∧ CAT T sm N (sM 135) ∧ 0 ≤ sM 84 8 ∧ sM 84 72 = 0 ∧ DFN (EDG T sc sm S) S told (sM 133) ∧ (∀ b, b < S → sM 133 b < (S : Int)) := by
    have tS := ls.1
    intro r
    induction r with
    | zero =>
      intro l F s hl ha hc e8 e72
      have el : l = told := by omega
      subst el
      obtain ⟨cb, cb1, cb2⟩ := ls.2.1
      have c2 : sm 94 l = 2 := by
        obtain ⟨_, _, _, _, _, _, hl, _⟩ := cb1
        exact hl.2.2.1
      obtain ⟨hd, p0, pc, n0, b1, b2, b3, b4, b5, b6, b7, b8, -⟩ := h.2.2.2.1.1 l tS
      have q := h103 l tS c2
      obtain ⟨s1, e1, a1, f1, w1, w2, w3, w4, w5⟩ := m244x h g n6 n7 ha tS
      have hc1 : CAT T sm N (s1 135) := by rw [f1 135 (by decide)]; exact hc
      have e81 : s1 84 8 = -1 := by rw [f1 84 (by decide)]; exact e8
      have e721 : s1 84 72 = 0 := by rw [f1 84 (by decide)]; exact e72
      obtain ⟨r', e2, e3⟩ := m245 h g n6 n7 h11 a1 hc1 tS c2
      obtain ⟨b, y1, y2, y3, y4⟩ : ∃ b : Nat, r' = (b : Int) ∧ EDG T sc sm S l b ∧ 0 ≤ s1 133 b ∧ ∀ c, EDG T sc sm S l c → 0 ≤ s1 133 c → s1 133 b ≤ s1 133 c := by
        rcases e3 with ⟨_, y2⟩ | y
        · have := (w1 cb cb1.2.1).mpr cb2
          have := y2 cb cb1
          omega
        · exact y
      obtain ⟨i1, j1, _, _, d1, _⟩ := h.2.1.2.2.2 hd b3
      have x0 : 0 ≤ s1 89 hd := by rw [a1.1 89 (by decide) (by decide), d1]; omega
      have m5 := m235 (s := s1) x0
      refine ⟨F + 1, f_235 (s1 89 hd) s1, ?_, ⟨fun c u v => by rw [m5.1 c u]; exact a1.1 c u v, fun j u v => by rw [m5.2.1 j u]; exact a1.2 j u v⟩, by rw [m5.1 135 (by decide)]; exact hc1, m5.2.2.mpr (Or.inr trivial), by rw [m5.2.1 72 (by decide)]; exact e721, by rw [m5.1 133 (by decide)]; exact w5, by rw [m5.1 133 (by decide)]; exact w3⟩
      rw [show F + 0 + 3 = (F + 1 + 1) + 1 by omega, j_214_68, ha.2 19 (by decide) (by decide), h19, if_neg (by omega), e8, if_neg (by decide), gd_pos (by omega), Int.toNat_natCast, ha.1 94 (by decide) (by decide), if_neg (fun e => e c2), gd_pos (by omega), gd_pos (by omega), ha.1 99 (by decide) (by decide), ha.1 103 (by decide) (by decide), b7, w32_id (z := (pc : Int) + sm 103 l) (by omega) (by omega), if_neg (by omega), e1, Option.bind_some, e2, Option.bind_some, if_neg (by omega), gd_pos (by omega), a1.1 95 (by decide) (by decide), b2, gd_pos (by omega), Option.bind_some, Int.toNat_natCast]
    | succ r ih =>
      intro l F s hl ha hc e8 e72
      have k195 : ∀ z : Sg, j_214_195 (j_214_68 (F + r + 3)) (l : Int) z = j_214_68 (F + r + 3) ((l + 1 : Nat) : Int) z := fun z => by
        unfold j_214_195
        rw [w32_nat (by omega)]
      have lS : l < S := by omega
      have nc := ls.2.2 l (by omega)
      rw [show F + (r + 1) + 3 = (F + r + 3) + 1 by omega, j_214_68, ha.2 19 (by decide) (by decide), h19, if_neg (by omega), e8, if_neg (by decide), gd_pos (by omega), Int.toNat_natCast, ha.1 94 (by decide) (by decide)]
      by_cases c2 : sm 94 l = 2
      · obtain ⟨hd, p0, pc, n0, b1, b2, b3, b4, b5, b6, b7, b8, -⟩ := h.2.2.2.1.1 l lS
        have q := h103 l lS c2
        rw [if_neg (fun e => e c2), gd_pos (by omega), gd_pos (by omega), ha.1 99 (by decide) (by decide), ha.1 103 (by decide) (by decide), b7, w32_id (z := (pc : Int) + sm 103 l) (by omega) (by omega), if_neg (by omega)]
        obtain ⟨s1, e1, a1, f1, w1, w2, w3, w4, w5⟩ := m244x h g n6 n7 ha lS
        have hc1 : CAT T sm N (s1 135) := by rw [f1 135 (by decide)]; exact hc
        have e81 : s1 84 8 = -1 := by rw [f1 84 (by decide)]; exact e8
        have e721 : s1 84 72 = 0 := by rw [f1 84 (by decide)]; exact e72
        obtain ⟨r', e2, e3⟩ := m245 h g n6 n7 h11 a1 hc1 lS c2
        rw [e1, Option.bind_some, e2, Option.bind_some]
        rcases e3 with ⟨y1, y2⟩ | ⟨b, y1, y2, y3, y4⟩
        · rw [if_pos (by omega), k195]
          exact ih (l + 1) F s1 (by omega) a1 hc1 e81 e721
        · exact absurd ⟨b, y2, (w1 b y2.2.1).mp y3⟩ nc
      · rw [if_pos c2, k195]
        exact ih (l + 1) F s (by omega) ha hc e8 e72
  have cal : ∀ (r m F : Nat) (s : Sg), m + r = N → AGr sm s → s 84 8 = -1 → s 84 72 = 0 → (∀ k, k < T.z → (s 135 k < 0 ∧ ∀ n, n < m → sm 116 n = 3 → sm 118 n ≠ (k : Int)) ∨ (∃ n : Nat, s 135 k = (n : Int) ∧ n < m ∧ sm 116 n = 3 ∧ sm 118 n = (k : Int))) → ∃ s2 : Sg, j_214_30 (F + r + 1) (m : Int) s = j_214_66 s2 ∧ AGr sm s2 ∧ s2 84 8 = -1 ∧ s2 84 72 = 0 ∧ CAT T sm N (s2 135) := by
    intro r
    induction r with
    | zero =>
      intro m F s hm ha e8 e72 ca
      rw [show m = N by omega] at ca ⊢
      exact ⟨s, by rw [j_214_30, ha.2 47 (by decide) (by decide), hN.2.1, if_pos (by omega)], ha, e8, e72, ca⟩
    | succ r ih =>
      intro m F s hm ha e8 e72 ca
      have k60 : ∀ z : Sg, j_214_60 (j_214_30 (F + r + 1)) (m : Int) z = j_214_30 (F + r + 1) ((m + 1 : Nat) : Int) z := fun z => by
        unfold j_214_60
        rw [w32_nat (by omega)]
      rw [show F + (r + 1) + 1 = (F + r + 1) + 1 by omega, j_214_30, ha.2 47 (by decide) (by decide), hN.2.1, if_neg (by omega), gd_pos (by omega), Int.toNat_natCast, ha.1 116 (by decide) (by decide)]
      by_cases c3 : sm 116 m = 3
      · obtain ⟨x, y, c, x1, x2, -⟩ := call_at h g n6 n7 ha (n := m) (by omega) c3
        rw [if_neg (fun e => e c3), gd_pos (by omega), ha.1 118 (by decide) (by decide), x1, gd_pos (by omega), k60, Int.toNat_natCast x]
        refine ih (m + 1) F _ (by omega) ⟨fun c u v => by rw [u2_row _ _ _ (by omega)]; exact ha.1 c u v, fun j u v => by rw [u2_row _ _ _ (by decide)]; exact ha.2 j u v⟩ (by rw [u2_row _ _ _ (by decide)]; exact e8) (by rw [u2_row _ _ _ (by decide)]; exact e72) (fun k hk => ?_)
        by_cases e : k = x
        · subst e
          exact Or.inr ⟨m, u2_same _ _ _ _, by omega, c3, x1⟩
        · rw [u2_col _ _ _ e]
          rcases ca k hk with ⟨u1, u2⟩ | ⟨n, u1, u2, u3, u4⟩
          · refine Or.inl ⟨u1, fun n hn n3 => ?_⟩
            by_cases en : n = m
            · rw [en, x1]; omega
            · exact u2 n (by omega) n3
          · exact Or.inr ⟨n, u1, by omega, u3, u4⟩
      · rw [if_pos c3, k60]
        refine ih (m + 1) F s (by omega) ha e8 e72 (fun k hk => ?_)
        rcases ca k hk with ⟨u1, u2⟩ | ⟨n, u1, u2, u3, u4⟩
        · refine Or.inl ⟨u1, fun n hn n3 => ?_⟩
          by_cases en : n = m
          · rw [en] at n3; exact absurd n3 c3
          · exact u2 n (by omega) n3
        · exact Or.inr ⟨n, u1, by omega, u3, u4⟩
  -- none at first
  have ini : ∀ (r l F : Nat) (s : Sg), l + r = T.z + 1 → AGr sm s → s 84 8 = -1 → s 84 72 = 0 → (∀ k, k < l → s 135 k = -1) → ∃ s1 : Sg, j_214_7 (F + r + 1) (l : Int) s = j_214_28 s1 ∧ AGr sm s1 ∧ s1 84 8 = -1 ∧ s1 84 72 = 0 ∧ (∀ k, k < T.z → s1 135 k = -1) := by
    intro r
    induction r with
    | zero =>
      intro l F s hl ha e8 e72 v
      exact ⟨s, by rw [j_214_7, ha.2 11 (by decide) (by decide), h11, if_pos (by omega)], ha, e8, e72, fun k hk => v k (by omega)⟩
    | succ r ih =>
      intro l F s hl ha e8 e72 v
      rw [show F + (r + 1) + 1 = (F + r + 1) + 1 by omega, j_214_7, ha.2 11 (by decide) (by decide), h11, if_neg (by omega), gd_pos (by omega), w32_nat (by omega), Int.toNat_natCast]
      refine ih (l + 1) F _ (by omega) ⟨fun c u v => by rw [u2_row _ _ _ (by omega)]; exact ha.1 c u v, fun j u v => by rw [u2_row _ _ _ (by decide)]; exact ha.2 j u v⟩ (by rw [u2_row _ _ _ (by decide)]; exact e8) (by rw [u2_row _ _ _ (by decide)]; exact e72) (fun k hk => ?_)
      by_cases e : k = l
      · rw [e, u2_same]
      · rw [u2_col _ _ _ e]; exact v k (by omega)
  obtain ⟨F1, hF1⟩ := FU_split (k := T.z + 2) (by omega)
  obtain ⟨s1, e1, a1, p1, p2, p3⟩ := ini (T.z + 1) 0 F1 (ax_u2 sm 84 72 0) (by omega) ⟨fun c u _ => u2_row _ _ _ u, fun j _ v => u2_col _ _ _ v⟩ (by rw [u2_col _ _ _ (by decide)]; exact h8) (u2_same _ _ _ _) (fun k hk => absurd hk (by omega))
  obtain ⟨F2, hF2⟩ := FU_split (k := N + 1) (by omega)
  obtain ⟨s2, e2, a2, q1, q2, q3⟩ := cal N 0 F2 s1 (by omega) a1 p1 p2 (fun k hk => Or.inl ⟨by rw [p3 k hk]; decide, fun n hn => absurd hn (by omega)⟩)
  obtain ⟨F3, hF3⟩ := FU_split (k := S + 3) (by omega)
  obtain ⟨F', sM, e3, e4⟩ := go told 0 (F3 + (S - told)) s2 (by omega) a2 q3 q1 q2
  rw [show F1 + (T.z + 1) + 1 = FU by omega] at e1
  rw [show F2 + N + 1 = FU by omega] at e2
  rw [show F3 + (S - told) + told + 3 = FU by have := ls.1; omega] at e3
  refine ⟨F', sM, ?_, e4⟩
  unfold f_214
  have e1' : j_214_7 FU 0 (ax_u2 sm 84 72 0) = _ := e1
  have e2' : j_214_30 FU 0 s1 = _ := e2
  have e3' : j_214_68 FU 0 s2 = _ := e3
  rw [e1']
  unfold j_214_28
  rw [e2']
  unfold j_214_66
  exact e3'
theorem TLR_eq (h : CKX T sc sm n' t S P A N K C w) (g : GOOD T sc sm S A N w) (n6 : ¬ BD6 T sm S A N) (n7 : ¬ BD7 T sm S A N) (h54 : sc 54 6 = (S : Int)) (hS8 : S ≤ 1171) (h11 : sm 84 11 = (T.z : Int)) (h8 : sm 84 8 = -1) (h6 : sm 84 6 = 0) (h103 : ∀ i, i < S → sm 94 i = 2 → 1 ≤ sm 103 i ∧ sm 103 i ≤ 8192) {x y : Sg} (e1 : f_164 sc = some x) (e2 : f_214 sm = some y) :
    (y 84 6 = 8 → ∃ L : Nat, x 74 13 = (L : Int) ∧ y 84 72 = (L : Int) ∧ ∀ i, i < L → x 81 i = y 134 i) ∧ (y 84 6 ≠ 8 → x 74 13 = sc 74 13) := by
  obtain ⟨y', f1, f2, f3, f4, f5, f6, f7⟩ := m214 h g n6 n7 h11 h8 h6 h103
  rw [e2] at f1
  have ey := Option.some.inj f1
  subst ey
  rcases c164y h g n6 n7 h54 hS8 with ⟨k, sC, ls, c1, c2, c3, c4⟩ | ⟨nc, s', c1, c2⟩
  · have y8 := f5 ⟨k, ls.1, ls.2.1⟩
    refine ⟨fun _ => ?_, fun u => absurd y8 u⟩
    obtain ⟨F, sM, m1, m2, m3, m4, m5, m6, m7⟩ := m214y h g n6 n7 h11 h8 h6 h103 ls
    obtain ⟨b, b1, b2⟩ := ls.2.1
    have t2 : sm 94 k = 2 := by
      obtain ⟨_, _, _, _, _, _, hl, _⟩ := b1
      exact hl.2.2.1
    have hlp2 : ∀ y z, EDG T sc sm S y z → sm 94 z = 2 := fun y z ed => by
      obtain ⟨yS, _, hd, st, e, q, hl, q1, q2, q3, q4⟩ := ed
      obtain ⟨hd2, st2, e2', hl2, ca, -⟩ := h.hlp g n6 n7 yS hl.2.2.1
      have eh : hd2 = hd := by have := hl.1; have := hl2.1; omega
      subst eh
      have ee : e2' = e := hl2.2.2.2.2.2.2.1.uniq hl.2.2.2.2.2.2.1
      subst ee
      obtain ⟨b', m, _, u1, u2, -⟩ := ca q q1 q2 q3
      rw [show z = b' by omega]; exact u2
    have fb : 0 ≤ sM 133 b := by
      have w := WAY.clos (P := fun x => x < S → 0 ≤ sM 133 x) b2 (fun _ => by rw [m6.1]; decide) (fun x z ed hz _ => (m6.2.2 x z ed (hz ed.2.1)).1)
      exact w b1.2.1
    obtain ⟨sC', sM', t1, t2', L, g1, g2, g3, g4, g5, g6, g7, g8, g9⟩ := trc0 h g n6 n7 h54 hS8 h11 c4 c3 m6 m7 hlp2 ls.1 t2 b1 fb (j_214_68 (F + 1)) c2 rfl m2 m3 rfl m4 m5
    -- the class tells
    obtain ⟨hT, hX, hC, hD, -⟩ := id h
    obtain ⟨hd, b1', hdz, p7, e187, -⟩ := c170 h g1 h54 hS8 ls.1
    obtain ⟨o1, o2⟩ := c80 (a := hd) (g1.cc hC) hT (by omega)
    have f0 := hT.2.2.2.1 hd (by omega)
    obtain ⟨k1, k2⟩ := c71k (s := sC') (k := 8) (x := T.fm hd) (by decide) (by decide) f0
    have k1' : g_71 8 (T.fm hd) sC' := k1
    have k2' : NTk 8 sC' (f_71 8 (T.fm hd) sC') True := k2
    have ex : f_164 sc = some (f_71 8 (T.fm hd) sC') := by
      rw [c1]
      unfold j_164_39
      rw [t1, Option.bind_some, gd_pos p7, e187, gd_pos o2, o1, gd_pos k1', Option.bind_some]
    rw [e1] at ex
    have ex' := Option.some.inj ex
    -- the reference tells
    have em : f_214 sm = j_214_201 sM' := by
      rw [m1, t2', j_214_68]
      by_cases c : sM' 84 19 ≤ ((k + 1 : Nat) : Int)
      · rw [if_pos c]
      · rw [if_neg c, if_pos g3]
    obtain ⟨s', w1, w2, w3, w4, w5, w6⟩ := m237w (s := sM') (k := 8) (by rw [g2.2 6 (by decide) (by decide)]; exact h6)
    have em2 : f_214 sm = some s' := by
      rw [em]
      unfold j_214_201
      rw [w1, Option.bind_some]
    rw [e2] at em2
    have ey' := Option.some.inj em2
    refine ⟨L, by rw [ex', k2'.1 74 (by decide)]; exact g5, by rw [ey', w3 72 (by decide) (by decide) (by decide)]; exact g4, fun i hi => ?_⟩
    rw [ex', k2'.1 81 (by decide), ey', w2 134 (by decide)]
    exact g9 i (by omega) hi
  · have y0 := f6 (fun ⟨k, k1, k2⟩ => nc k k1 k2)
    rw [e1] at c1
    have ex := Option.some.inj c1
    exact ⟨fun u => absurd u (by omega), fun _ => by rw [ex]; exact c2⟩
end TLR
/-! THE CHECKS as a whole. -/
section CHK
variable {T : TT} {sc sm s x y : Sg} {n' S P A N K C w : Nat} {t : Nat → Int}
theorem c68f {j : Nat} (h1 : 1 ≤ j) (h2 : j ≤ 10) (h3 : s 30 j ≠ -1) : ∃ r : Int, f_68 s = some r ∧ r ≠ 0 := by
  obtain ⟨r, e, -, -, z, -⟩ := c68 s
  exact ⟨r, e, fun y => h3 (z.mp y j h1 h2)⟩
theorem c68n (h : ∀ j : Nat, 1 ≤ j → j ≤ 10 → s 30 j = -1) : f_68 s = some 0 := by
  obtain ⟨r, e, -, -, z, -⟩ := c68 s
  rw [e, z.mpr h]
theorem c16_58 {j : Nat} (h1 : 1 ≤ j) (h2 : j ≤ 10) (h3 : s 30 j ≠ -1) : j_16_58 s = some s := by
  obtain ⟨r, e, z⟩ := c68f h1 h2 h3
  unfold j_16_58
  rw [e, Option.bind_some, if_pos z]
theorem c16_41 {j : Nat} (h1 : 1 ≤ j) (h2 : j ≤ 10) (h3 : s 30 j ≠ -1) : j_16_41 s = some s := by
  obtain ⟨r, e, z⟩ := c68f h1 h2 h3
  unfold j_16_41
  rw [e, Option.bind_some, if_pos z, c16_58 h1 h2 h3]
theorem c16_24 {j : Nat} (h1 : 1 ≤ j) (h2 : j ≤ 10) (h3 : s 30 j ≠ -1) : j_16_24 s = some s := by
  obtain ⟨r, e, z⟩ := c68f h1 h2 h3
  unfold j_16_24
  rw [e, Option.bind_some, if_pos z, c16_41 h1 h2 h3]
/-- a fault of the reading: nothing is checked -/
theorem c16_0 {j : Nat} (h1 : 1 ≤ j) (h2 : j ≤ 3) (h3 : s 30 j ≠ -1) : f_16 s = some s := by
  obtain ⟨r, e, b0, b1, z, nz⟩ := c68 s
  have r0 : r ≠ 0 := fun y => h3 (z.mp y j h1 (by omega))
  have r3 : r ≤ 3 := by
    apply Decidable.byContradiction
    intro hn
    exact h3 ((nz (by omega)).2 j h1 (by omega))
  unfold f_16
  rw [e, Option.bind_some, if_neg r0, if_pos r3, c16_24 h1 (by omega) h3]
theorem m196f (h : sm 84 6 ≠ 0) : j_196_177 sm = j_196_188 sm ∧ j_196_166 sm = j_196_188 sm ∧ j_196_155 sm = j_196_188 sm ∧ j_196_144 sm = j_196_188 sm ∧ j_196_133 sm = j_196_188 sm ∧ j_196_122 sm = j_196_188 sm ∧ j_196_111 sm = j_196_188 sm := by
  have e1 : j_196_177 sm = j_196_188 sm := by unfold j_196_177; rw [if_pos h]
  have e2 : j_196_166 sm = j_196_188 sm := by unfold j_196_166; rw [if_pos h, e1]
  have e3 : j_196_155 sm = j_196_188 sm := by unfold j_196_155; rw [if_pos h, e2]
  have e4 : j_196_144 sm = j_196_188 sm := by unfold j_196_144; rw [if_pos h, e3]
  have e5 : j_196_133 sm = j_196_188 sm := by unfold j_196_133; rw [if_pos h, e4]
  have e6 : j_196_122 sm = j_196_188 sm := by unfold j_196_122; rw [if_pos h, e5]
  have e7 : j_196_111 sm = j_196_188 sm := by unfold j_196_111; rw [if_pos h, e6]
  exact ⟨e1, e2, e3, e4, e5, e6, e7⟩
/-- what the checks leave, and what they tell -/
def RGX (sc x y : Sg) : Prop := (y 84 6 = 8 → ∃ L : Nat, x 74 13 = (L : Int) ∧ y 84 72 = (L : Int) ∧ ∀ i, i < L → x 81 i = y 134 i) ∧ (y 84 6 ≠ 8 → x 74 13 = sc 74 13)
def CHO (sc sm x y : Sg) (N : Nat) : Prop := (∀ b, b ≠ 30 → b ≠ 48 → b < 74 ∨ 81 < b → x b = sc b) ∧ (∀ j, j < 4 ∨ 10 < j → x 30 j = sc 30 j) ∧ (∀ b, b ≠ 84 → b ≠ 122 → b < 133 ∨ 135 < b → y b = sm b) ∧ (∀ j, j ≠ 6 → j ≠ 7 → j ≠ 8 → j ≠ 72 → y 84 j = sm 84 j) ∧ y 84 8 = -1 ∧ 0 ≤ y 84 6 ∧ y 84 6 ≤ 10 ∧ ((∀ j : Nat, 1 ≤ j → j ≤ 10 → x 30 j = -1) ↔ y 84 6 = 0) ∧ (y 84 6 = 0 → ∀ k, k < N → (y 122 k = -2 ∧ x 48 k = 0) ∨ (1 ≤ y 122 k ∧ y 122 k ≤ 32 ∧ x 48 k = y 122 k)) ∧ (RB sc → RB x) ∧ (RM sm → RM y) ∧ (y 84 6 = 0 → CN sc) ∧ (y 84 6 = 0 → ∀ i : Nat, (i : Int) < sc 54 6 → sm 94 i = 3 → sc 57 i = sc 54 7) ∧ RGX sc x y
theorem chk (h : CKX T sc sm n' t S P A N K C w) (h54 : sc 54 6 = (S : Int)) (h57 : sc 54 7 = mn (T.vl w)) (hS8 : S ≤ 1171) (h61 : sc 61 4 = (C : Int)) (hC8 : C ≤ 2049) (hK8 : K ≤ 8192) (hf : ∀ j : Nat, 1 ≤ j → j ≤ 10 → j < 4 ∨ 7 < j → sc 30 j = -1) (h8 : sm 84 8 = -1) (h6 : sm 84 6 = 0) (h11 : sm 84 11 = (T.z : Int)) (h103 : ∀ i, i < S → sm 94 i = 2 → 1 ≤ sm 103 i ∧ sm 103 i ≤ 8192) : ∃ x y : Sg, f_16 sc = some x ∧ j_196_111 sm = j_196_188 y ∧ CHO sc sm x y N := by
  have cng := h.2.2.2.1.2.2.2.2.2.2.1
  have hC := h.2.2.1
  obtain ⟨s1, e18, t1, t2, t3⟩ := c18 h h54 hS8 h61 hC8
  have nmi := nm_iff h
  -- the class comes to its names
  have c17 : f_16 sc = j_16_24 s1 := by
    obtain ⟨r, e, b0, b1, z, nz⟩ := c68 sc
    have e17 : j_16_17 sc = j_16_24 s1 := by
      unfold j_16_17
      rw [e18, Option.bind_some]
    unfold f_16
    rw [e, Option.bind_some]
    by_cases r0 : r = 0
    · rw [if_pos r0, e17]
    · rw [if_neg r0, if_neg (fun r3 => (nz (by omega)).1 (hf r.toNat (by omega) (by omega) (by omega))), e17]
  rw [c17]
  by_cases cn : CN s1
  · -- nothing wrong so far
    have cnp := t3.mp cn
    have nb := nmi.mp cnp
    have nb4 : ¬ BD4 T sc sm S P A N w := fun u => nb (Or.inl u)
    have nb5 : ¬ BD5 T sm S A := fun u => nb (Or.inr (Or.inl u))
    have n6 : ¬ BD6 T sm S A N := fun u => nb (Or.inr (Or.inr (Or.inl u)))
    have n7 : ¬ BD7 T sm S A N := fun u => nb (Or.inr (Or.inr (Or.inr u)))
    have r155 : j_196_111 sm = j_196_155 sm := by
      obtain ⟨a4, e4, -, -, -, -, l4⟩ := ck4 h h8 h6
      obtain ⟨a5, e5, -, -, -, -, l5⟩ := ck5 h h8 h6
      obtain ⟨a6, e6, -, -, -, -, l6⟩ := ck6 h h8 h6
      obtain ⟨a7, e7, -, -, -, -, l7⟩ := ck7 h n6 h8 h6
      rw [(l4 nb4).2] at e4
      rw [(l5 nb5).2] at e5
      rw [(l6 n6).2] at e6
      rw [(l7 n7).2] at e7
      have nn : ¬ ¬ sm 84 6 = 0 := fun u => u h6
      unfold j_196_111
      rw [if_neg nn, e4, Option.bind_some]
      unfold j_196_122
      rw [if_neg nn, e5, Option.bind_some]
      unfold j_196_133
      rw [if_neg nn, e6, Option.bind_some]
      unfold j_196_144
      rw [if_neg nn, e7, Option.bind_some]
    rw [r155]
    have mv1 : MVr sc sm s1 sm := ⟨fun c u _ => t1 c u, ⟨fun _ => cnp.1, fun _ => cn⟩, fun _ _ _ _ => rfl, fun _ _ _ _ _ => rfl⟩
    have h1 : CKX T s1 sm n' t S P A N K C w := by rw [CKX_mv mv1]; exact h
    have g1 : GOOD T s1 sm S A N w := h1.2.2.2.1.2.2.2.2.2.2.1.mp cn
    have f1 : ∀ j : Nat, 1 ≤ j → j ≤ 10 → s1 30 j = -1 := fun j u v => by
      obtain ⟨q4, q5, q6, q7⟩ := cn
      by_cases e : j < 4 ∨ 7 < j
      · rw [t2 j e]; exact hf j u v e
      · have : j = 4 ∨ j = 5 ∨ j = 6 ∨ j = 7 := by omega
        rcases this with e | e | e | e <;> subst e <;> assumption
    obtain ⟨s2, e164, u1, u2, u3, u4⟩ := c164 h1 g1 n6 n7 (by rw [t1 54 (by decide)]; exact h54) hS8 (f1 8 (by decide) (by decide))
    obtain ⟨m2, e214, v1, v2, v3, v4, v5, v6⟩ := m214 h1 g1 n6 n7 h11 h8 h6 h103
    have rgx := TLR_eq h1 g1 n6 n7 (by rw [t1 54 (by decide)]; exact h54) hS8 h11 h8 h6 h103 e164 e214
    have rgx2 : ∀ x y : Sg, x 74 = s2 74 → y 84 6 ≠ 8 → m2 84 6 = 0 → RGX sc x y := fun x y a1 a2 a3 => ⟨fun u => absurd u a2, fun _ => by rw [a1, rgx.2 (by omega), t1 74 (by decide)]⟩
    have c24 : j_16_24 s1 = j_16_41 s2 := by
      unfold j_16_24
      rw [c68n f1, Option.bind_some, if_neg (fun u => u rfl), e164, Option.bind_some]
    have r166 : j_196_155 sm = j_196_166 m2 := by
      unfold j_196_155
      rw [if_neg (fun u => u h6), e214, Option.bind_some]
    rw [c24, r166]
    have rb2 : RB sc → RB s2 := fun u => u4 (by unfold RB at *; rw [t1 74 (by decide)]; exact u)
    have x30 : ∀ j, j < 4 ∨ 10 < j → s2 30 j = sc 30 j := fun j u => by rw [u2 j (by omega), t2 j (by omega)]
    by_cases cy : ∃ k, k < S ∧ CYC (EDG T s1 sm S) k
    · -- a ring
      have z8 := u3.mpr cy
      have z6 := v4 cy
      refine ⟨s2, m2, c16_41 (j := 8) (by decide) (by decide) z8, (m196f (by rw [z6]; decide)).2.1, fun b a1 a2 a3 => by rw [u1 b a1 a3, t1 b a1], x30, fun b a1 _ a3 => v1 b a1 a3, v2, v3, by omega, by omega, ⟨fun q => absurd (q 8 (by decide) (by decide)) z8, fun q => absurd q (by omega)⟩, fun q => absurd q (by omega), rb2, fun _ => v6, fun q => absurd q (by omega), fun q => absurd q (by omega), rgx.1, fun u => absurd z6 u⟩
    · have z8 : s2 30 8 = -1 := Decidable.byContradiction (fun q => cy (u3.mp q))
      have z6 := v5 cy
      have f2 : ∀ j : Nat, 1 ≤ j → j ≤ 10 → s2 30 j = -1 := fun j a1 a2 => by
        by_cases e : j = 8
        · rw [e]; exact z8
        · rw [u2 j e]; exact f1 j a1 a2
      have mv2 : MVr s1 sm s2 m2 := ⟨fun c a b => u1 c a (by omega), ⟨fun _ => cn, fun _ => ⟨f2 4 (by decide) (by decide), f2 5 (by decide) (by decide), f2 6 (by decide) (by decide), f2 7 (by decide) (by decide)⟩⟩, fun c a1 _ a3 => v1 c a1 (by omega), fun j a1 a2 a3 a4 => v2 j a1 a2 a3 a4.1⟩
      have h2 : CKX T s2 m2 n' t S P A N K C w := by rw [CKX_mv mv2]; exact h1
      have g2 : GOOD T s2 m2 S A N w := by rw [GOOD_mv mv2]; exact g1
      have n62 : ¬ BD6 T m2 S A N := by rw [BD6_mv mv2]; exact n6
      have n72 : ¬ BD7 T m2 S A N := by rw [BD7_mv mv2]; exact n7
      have r54 : s2 54 = sc 54 := by rw [u1 54 (by decide) (by decide), t1 54 (by decide)]
      obtain ⟨x3, y3, e19, e215, w1, w2, w3, w4, w5, w6, w7, w8⟩ := wid_sim h2 g2 n62 n72 (by rw [r54]; exact h54) hS8 (by rw [u1 61 (by decide) (by decide), t1 61 (by decide)]; exact h61) hC8 hK8 (f2 9 (by decide) (by decide)) v3 z6
      have c41 : j_16_41 s2 = j_16_58 x3 := by
        unfold j_16_41
        rw [c68n f2, Option.bind_some, if_neg (fun u => u rfl), e19, Option.bind_some]
      have r177 : j_196_166 m2 = j_196_177 y3 := by
        unfold j_196_166
        rw [if_neg (fun u => u z6), e215, Option.bind_some]
      rw [c41, r177]
      have fx : ∀ b, b ≠ 30 → b ≠ 48 → b < 74 ∨ 81 < b → x3 b = sc b := fun b a1 a2 a3 => by rw [w1 b a1 a2, u1 b a1 a3, t1 b a1]
      have fx30 : ∀ j, j < 4 ∨ 10 < j → x3 30 j = sc 30 j := fun j a => by rw [w2 j (by omega), x30 j a]
      have fy : ∀ b, b ≠ 84 → b ≠ 122 → b < 133 ∨ 135 < b → y3 b = sm b := fun b a1 a2 a3 => by rw [w3 b a1 a2, v1 b a1 a3]
      have fyj : ∀ j, j ≠ 6 → j ≠ 7 → j ≠ 8 → j ≠ 72 → y3 84 j = sm 84 j := fun j a1 a2 a3 a4 => by rw [w4 j a1 a2 a3, v2 j a1 a2 a3 a4]
      by_cases c9 : x3 30 9 = -1
      · have z63 := w7 c9
        have f3 : ∀ j : Nat, 1 ≤ j → j ≤ 10 → x3 30 j = -1 := fun j a1 a2 => by
          by_cases e : j = 9
          · rw [e]; exact c9
          · rw [w2 j e]; exact f2 j a1 a2
        have mv3 : MVr s2 m2 s2 y3 := ⟨fun _ _ _ => rfl, Iff.rfl, fun c a1 a2 _ => w3 c a1 a2, fun j a1 a2 a3 _ => w4 j a1 a2 a3⟩
        have h3 : CKX T s2 y3 n' t S P A N K C w := by rw [CKX_mv mv3]; exact h2
        have g3 : GOOD T s2 y3 S A N w := by rw [GOOD_mv mv3]; exact g2
        obtain ⟨x4, e20, p1, p2, p3⟩ := c20 (s := x3) h3 g3 (by rw [w1 54 (by decide) (by decide), r54]; exact h54) (by rw [w1 54 (by decide) (by decide), r54]; exact h57) hS8 (by
          have := h2.2.2.1
          exact this.row (by rw [w1 39 (by decide) (by decide)]) (w1 41 (by decide) (by decide)) (w1 42 (by decide) (by decide)) (w1 44 (by decide) (by decide)) (by rw [w1 31 (by decide) (by decide)]) (w1 1 (by decide) (by decide))) (fun c a1 a2 => w1 c (by omega) (by omega))
        obtain ⟨y4, e216, k1, k2, k3, k4, k5⟩ := ckb h3 g3 w5 z63
        have c58 : j_16_58 x3 = some x4 := by
          unfold j_16_58
          rw [c68n f3, Option.bind_some, if_neg (fun u => u rfl), e20, Option.bind_some]
        have r188 : j_196_177 y3 = j_196_188 y4 := by
          unfold j_196_177
          rw [if_neg (fun u => u z63), e216, Option.bind_some]
        have s48 : x4 48 = x3 48 := p1 48 (by decide)
        have s122 : y4 122 = y3 122 := k1 122 (by decide)
        refine ⟨x4, y4, c58, r188, fun b a1 a2 a3 => by rw [p1 b a1]; exact fx b a1 a2 a3, fun j a => by rw [p2 j (by omega)]; exact fx30 j a, fun b a1 a2 a3 => by rw [k1 b a1]; exact fy b a1 a2 a3, fun j a1 a2 a3 a4 => by rw [k2 j a1 a2 a3]; exact fyj j a1 a2 a3 a4, k3, ?_, ?_, ?_, ?_, fun u => by unfold RB; rw [p1 74 (by decide), w1 74 (by decide) (by decide)]; exact rb2 u, fun _ => by unfold RM; rw [k2 72 (by decide) (by decide) (by decide), w4 72 (by decide) (by decide) (by decide)]; exact v6, fun _ => cnp.1, ?_, rgx2 _ _ (by rw [p1 74 (by decide), w1 74 (by decide) (by decide)]) (by
          by_cases d : ∃ i, i < S ∧ bdB T s2 y3 w i
          · rw [k4 d]; decide
          · rw [(k5 d).1]; decide) z6⟩
        · by_cases d : ∃ i, i < S ∧ bdB T s2 y3 w i
          · rw [k4 d]; decide
          · rw [(k5 d).1]; decide
        · by_cases d : ∃ i, i < S ∧ bdB T s2 y3 w i
          · rw [k4 d]; decide
          · rw [(k5 d).1]; decide
        · by_cases d : ∃ i, i < S ∧ bdB T s2 y3 w i
          · exact ⟨fun q => absurd (q 10 (by decide) (by decide)) (p3.mpr (Or.inr d)), fun q => absurd q (by rw [k4 d]; decide)⟩
          · refine ⟨fun _ => (k5 d).1, fun _ j a1 a2 => ?_⟩
            by_cases e : j = 10
            · rw [e]
              apply Decidable.byContradiction
              intro hn
              rcases p3.mp hn with q | q
              · exact q (f3 10 (by decide) (by decide))
              · exact d q
            · rw [p2 j e]; exact f3 j a1 a2
        · intro _ k hk
          rw [s48, s122]
          exact w8 k hk
        · intro q i hi h3
          have nd : ¬ (∃ i, i < S ∧ bdB T s2 y3 w i) := fun d => absurd q (by rw [k4 d]; decide)
          have wb := g1.1.2
          have e7 : sc 54 7 = T.vl w := by rw [h57]; unfold mn; rw [if_neg (by omega)]
          apply Decidable.byContradiction
          intro ne
          refine nd ⟨i, by omega, by rw [fy 94 (by decide) (by decide) (by decide)]; exact h3, ?_⟩
          rw [u1 57 (by decide) (by decide), t1 57 (by decide), ← e7]
          exact ne
      · have z63 := w6.mp c9
        exact ⟨x3, y3, c16_58 (j := 9) (by decide) (by decide) c9, (m196f (by rw [z63]; decide)).1, fx, fx30, fy, fyj, w5, by omega, by omega, ⟨fun q => absurd (q 9 (by decide) (by decide)) c9, fun q => absurd q (by omega)⟩, fun q => absurd q (by omega), fun u => by unfold RB; rw [w1 74 (by decide) (by decide)]; exact rb2 u, fun _ => by unfold RM; rw [w4 72 (by decide) (by decide) (by decide)]; exact v6, fun q => absurd q (by omega), fun q => absurd q (by omega), rgx2 _ _ (w1 74 (by decide) (by decide)) (by omega) z6⟩
  · -- a number, a name
    have bad : BD4 T sc sm S P A N w ∨ BD5 T sm S A ∨ BD6 T sm S A N ∨ BD7 T sm S A N := by
      apply Classical.byContradiction
      intro hn
      exact cn (t3.mpr (nmi.mpr hn))
    obtain ⟨jf, j1, j2, j3⟩ : ∃ j : Nat, 4 ≤ j ∧ j ≤ 7 ∧ s1 30 j ≠ -1 := by
      apply Classical.byContradiction
      intro hn
      have q : ∀ j : Nat, 4 ≤ j → j ≤ 7 → s1 30 j = -1 := fun j a b => Decidable.byContradiction (fun c => hn ⟨j, a, b, c⟩)
      exact cn ⟨q 4 (by decide) (by decide), q 5 (by decide) (by decide), q 6 (by decide) (by decide), q 7 (by decide) (by decide)⟩
    have fin : ∀ y : Sg, ∀ k : Int, 4 ≤ k → k ≤ 7 → (∀ c, c ≠ 84 → y c = sm c) → (∀ j, j ≠ 6 → j ≠ 7 → j ≠ 8 → y 84 j = sm 84 j) → y 84 8 = -1 → y 84 6 = k → j_196_111 sm = j_196_188 y → ∃ x y : Sg, j_16_24 s1 = some x ∧ j_196_111 sm = j_196_188 y ∧ CHO sc sm x y N := fun y k a1 a2 a3 a4 a5 a6 a7 =>
      ⟨s1, y, c16_24 (j := jf) (by omega) (by omega) j3, a7, fun b b1 _ _ => t1 b b1, fun j b => t2 j (by omega), fun b b1 _ _ => a3 b b1, fun j b1 b2 b3 _ => a4 j b1 b2 b3, a5, by omega, by omega, ⟨fun q => absurd (q jf (by omega) (by omega)) j3, fun q => absurd q (by omega)⟩, fun q => absurd q (by omega), fun u => by unfold RB at *; rw [t1 74 (by decide)]; exact u, fun u => by unfold RM at *; rw [a4 72 (by decide) (by decide) (by decide)]; exact u, fun q => absurd q (by omega), fun q => absurd q (by omega), fun u => absurd u (by omega), fun _ => by rw [t1 74 (by decide)]⟩
    have nn : ¬ ¬ sm 84 6 = 0 := fun u => u h6
    obtain ⟨a4, e4, p41, p42, p43, p44, p45⟩ := ck4 h h8 h6
    by_cases b4 : BD4 T sc sm S P A N w
    · refine fin a4 4 (by decide) (by decide) p41 p42 p43 (p44 b4) ?_
      unfold j_196_111
      rw [if_neg nn, e4, Option.bind_some, (m196f (by rw [p44 b4]; decide)).2.2.2.2.2.1]
    · rw [(p45 b4).2] at e4
      obtain ⟨a5, e5, p51, p52, p53, p54, p55⟩ := ck5 h h8 h6
      by_cases b5 : BD5 T sm S A
      · refine fin a5 5 (by decide) (by decide) p51 p52 p53 (p54 b5) ?_
        unfold j_196_111
        rw [if_neg nn, e4, Option.bind_some]
        unfold j_196_122
        rw [if_neg nn, e5, Option.bind_some, (m196f (by rw [p54 b5]; decide)).2.2.2.2.1]
      · rw [(p55 b5).2] at e5
        obtain ⟨a6, e6, p61, p62, p63, p64, p65⟩ := ck6 h h8 h6
        by_cases b6 : BD6 T sm S A N
        · refine fin a6 6 (by decide) (by decide) p61 p62 p63 (p64 b6) ?_
          unfold j_196_111
          rw [if_neg nn, e4, Option.bind_some]
          unfold j_196_122
          rw [if_neg nn, e5, Option.bind_some]
          unfold j_196_133
          rw [if_neg nn, e6, Option.bind_some, (m196f (by rw [p64 b6]; decide)).2.2.2.1]
        · rw [(p65 b6).2] at e6
          have b7 : BD7 T sm S A N := by
            rcases bad with q | q | q | q
            · exact absurd q b4
            · exact absurd q b5
            · exact absurd q b6
            · exact q
          obtain ⟨a7, e7, p71, p72, p73, p74, p75⟩ := ck7 h b6 h8 h6
          refine fin a7 7 (by decide) (by decide) p71 p72 p73 (p74 b7) ?_
          unfold j_196_111
          rw [if_neg nn, e4, Option.bind_some]
          unfold j_196_122
          rw [if_neg nn, e5, Option.bind_some]
          unfold j_196_133
          rw [if_neg nn, e6, Option.bind_some]
          unfold j_196_144
          rw [if_neg nn, e7, Option.bind_some, (m196f (by rw [p74 b7]; decide)).2.2.1]
end CHK
/-! FROM READING to the checks. -/
section CKI
variable {T : TT} {sc sm sc0 sm0 : Sg} {n' S P A N K C w : Nat} {t : Nat → Int}
theorem ckx_in (hT : TWF T) (hp : POS T) (h : PS0 T sc0 sm0 sc sm T.z S P A N K C w) (hX : TX T sc0 sm0 n' t) : CKX T sc sm n' t S P A N K C w ∧ S ≤ 1171 ∧ C ≤ 2049 ∧ K ≤ 8192 ∧ (∀ i, i < S → sm 94 i = 2 → 1 ≤ sm 103 i ∧ sm 103 i ≤ 8192) := by
  obtain ⟨hB, h70, h19, h7, h37, hnc, htl, hdp⟩ := h
  obtain ⟨e1, e2, e3, e4, e5, e6, e7, e8, e9, e10, e11, e12, e13, e14, e15, e16, e17, e18, e19, e20, e21, e22, e23, e24, e25, e26, e27, e28, e29, e30, e31⟩ := hB
  have z8 := hT.1
  have p8 := hp.2.2.2
  refine ⟨⟨hT, hX.sf e15 e16, e1, e17, e6, h19, e11, e12, e28, e30, e31, by omega, by omega, by omega, by omega⟩, by omega, by omega, by omega, fun i hi h2 => ?_⟩
  obtain ⟨hd, p0, pc, n0, b1, b2, b3, b4, b5, b6, b7, b8, b9, b10, b11⟩ := e17.1 i hi
  have dx : DEFX T sc sm N i hd p0 pc := by
    rcases b11 with ⟨u, -⟩ | ⟨u, -⟩ | ⟨_, _, _, u⟩ | ⟨u, -⟩
    · omega
    · omega
    · exact u
    · omega
  obtain ⟨st, e, m0, m1, d1, d2, d3, d4, -⟩ := dx
  obtain ⟨q1, q2⟩ := e17.2.2.2.2.2.2.2.1.2 i hi h2
  have q := hnc i hi
  by_cases c : i + 1 < S
  · rw [if_pos c] at q
    have := q1 c
    omega
  · rw [if_neg c] at q
    have := q2 (by omega)
    omega
theorem chk_in (hT : TWF T) (hp : POS T) (h : PS0 T sc0 sm0 sc sm T.z S P A N K C w) (hX : TX T sc0 sm0 n' t) (f0 : ∀ j : Nat, 1 ≤ j → j ≤ 10 → sc0 30 j = -1) (h8 : sm0 84 8 = -1) : ∃ x y : Sg, f_16 sc = some x ∧ j_196_111 sm = j_196_188 y ∧ CHO sc sm x y N := by
  obtain ⟨hk, hS, hC, hK, h103⟩ := ckx_in hT hp h hX
  obtain ⟨hB, -⟩ := h
  obtain ⟨e1, e2, e3, e4, e5, e6, e7, e8, e9, e10, e11, e12, e13, e14, e15, e16, e17, e18, e19, e20, e21, e22, e23, e24, e25, e26, e27, e28, e29, e30, e31⟩ := hB
  exact chk hk e10 e29 hS e13 hC hK (fun j a b c => by rw [e15.2.2.1 j c]; exact f0 j a b) (by rw [e16.2 8 (by omega)]; exact h8) e5 e2.1 h103
end CKI
/-! FORGETTING: faults, bound names, the names' slots, the words. -/
section FGT
variable {s s0 s' : Sg} {m l : Nat}
theorem c70 (s : Sg) : ∃ s' : Sg, f_70 s = some s' ∧ (∀ c, c ≠ 30 → s' c = s c) ∧ (∀ j, j < 11 → s' 30 j = -1) ∧ (∀ j, 11 ≤ j → s' 30 j = s 30 j) := by
  have go : ∀ (r l F : Nat) (z : Sg), l + r = 11 → (∀ c, c ≠ 30 → z c = s c) → (∀ j, j < l → z 30 j = -1) → (∀ j, 11 ≤ j → z 30 j = s 30 j) → ∃ s' : Sg, j_301_30_5 (F + r + 1) (-1) (l : Int) 11 z = some s' ∧ (∀ c, c ≠ 30 → s' c = s c) ∧ (∀ j, j < 11 → s' 30 j = -1) ∧ (∀ j, 11 ≤ j → s' 30 j = s 30 j) := by
    intro r
    induction r with
    | zero =>
      intro l F z hl h1 h2 h3
      exact ⟨z, by rw [j_301_30_5, if_pos (by omega)], h1, fun j hj => h2 j (by omega), h3⟩
    | succ r ih =>
      intro l F z hl h1 h2 h3
      rw [show F + (r + 1) + 1 = (F + r + 1) + 1 by omega, j_301_30_5, if_neg (by omega), gd_pos (by omega), w32_nat (by omega), Int.toNat_natCast]
      refine ih (l + 1) F _ (by omega) (fun c x => by rw [u2_row _ _ _ x]; exact h1 c x) (fun j hj => ?_) (fun j hj => by rw [u2_col _ _ _ (by omega)]; exact h3 j hj)
      by_cases e : j = l
      · rw [e, u2_same]
      · rw [u2_col _ _ _ e]; exact h2 j (by omega)
  obtain ⟨F, hF⟩ := FU_split (k := 12) (by omega)
  obtain ⟨s', e1, e2⟩ := go 11 0 F s (by omega) (fun _ _ => rfl) (fun j hj => absurd hj (by omega)) (fun _ _ => rfl)
  rw [show F + 11 + 1 = FU by omega] at e1
  have e1' : j_301_30_5 FU (-1) 0 11 s = _ := e1
  refine ⟨s', ?_, e2⟩
  unfold f_70 f_301_30
  rw [e1', Option.bind_some]
theorem c102f {B : Nat} (hB : s 31 8 = (B : Int)) (hB8 : B ≤ 4112) : ∃ s' : Sg, f_102 0 s = some s' ∧ s' 31 8 = 0 ∧ (∀ c, c ≠ 31 → c ≠ 37 → s' c = s c) ∧ (∀ j, j ≠ 8 → s' 31 j = s 31 j) ∧ (∀ k, s' 37 k = s 37 k ∨ s' 37 k = 0) := by
  have go : ∀ (B F : Nat) (z : Sg), B ≤ 4112 → z 31 8 = (B : Int) → ∃ s' : Sg, j_102_0 (F + B + 1) 0 z = some s' ∧ s' 31 8 = 0 ∧ (∀ c, c ≠ 31 → c ≠ 37 → s' c = z c) ∧ (∀ j, j ≠ 8 → s' 31 j = z 31 j) ∧ (∀ k, s' 37 k = z 37 k ∨ s' 37 k = 0) := by
    intro B
    induction B with
    | zero =>
      intro F z _ hz
      exact ⟨z, by rw [j_102_0, if_pos (by omega)], hz, fun _ _ _ => rfl, fun _ _ => rfl, fun _ => Or.inl rfl⟩
    | succ B ih =>
      intro F z hB hz
      have w : ax_w32 (z 31 8 - 1) = (B : Int) := by rw [hz, w32_id (by omega) (by omega)]; omega
      rw [show F + (B + 1) + 1 = (F + B + 1) + 1 by omega, j_102_0, if_neg (by omega), if_neg (by omega), w, gd_pos (by omega), Int.toNat_natCast]
      unfold j_102_53
      have st1 : ∀ z' : Sg, z' 31 8 = (B : Int) → (∀ c, c ≠ 31 → c ≠ 37 → z' c = z c) → (∀ j, j ≠ 8 → z' 31 j = z 31 j) → (∀ k, z' 37 k = z 37 k ∨ z' 37 k = 0) → ∃ s' : Sg, j_102_0 (F + B + 1) 0 z' = some s' ∧ s' 31 8 = 0 ∧ (∀ c, c ≠ 31 → c ≠ 37 → s' c = z c) ∧ (∀ j, j ≠ 8 → s' 31 j = z 31 j) ∧ (∀ k, s' 37 k = z 37 k ∨ s' 37 k = 0) := fun z' a1 a2 a3 a4 => by
        obtain ⟨s', e1, e2, e3, e4, e5⟩ := ih F z' (by omega) a1
        refine ⟨s', e1, e2, fun c x y => by rw [e3 c x y, a2 c x y], fun j x => by rw [e4 j x, a3 j x], fun k => ?_⟩
        rcases e5 k with e | e
        · rw [e]; exact a4 k
        · exact Or.inr e
      have plain : ∃ s' : Sg, j_102_0 (F + B + 1) 0 (ax_u2 z 31 8 (B : Int)) = some s' ∧ s' 31 8 = 0 ∧ (∀ c, c ≠ 31 → c ≠ 37 → s' c = z c) ∧ (∀ j, j ≠ 8 → s' 31 j = z 31 j) ∧ (∀ k, s' 37 k = z 37 k ∨ s' 37 k = 0) :=
        st1 _ (u2_same _ _ _ _) (fun c x _ => u2_row _ _ _ x) (fun j x => u2_col _ _ _ x) (fun k => Or.inl (by rw [u2_row _ _ _ (by decide)]))
      by_cases c1 : z 38 B < 0
      · rw [if_pos c1]; exact plain
      · rw [if_neg c1]
        by_cases c2 : 4112 ≤ z 38 B
        · rw [if_pos c2]; exact plain
        · rw [if_neg c2, gd_pos (by omega)]
          refine st1 _ ?_ (fun c x y => by rw [u2_row _ _ _ y, u2_row _ _ _ x]) (fun j x => by rw [u2_row _ _ _ (by decide), u2_col _ _ _ x]) (fun k => ?_)
          · rw [u2_row _ _ _ (by decide)]; exact u2_same _ _ _ _
          · by_cases e : k = (z 38 B).toNat
            · rw [e]; exact Or.inr (u2_same _ _ _ _)
            · rw [u2_col _ _ _ e, u2_row _ _ _ (by decide)]; exact Or.inl rfl
  obtain ⟨F, hF⟩ := FU_split (k := B + 1) (by omega)
  obtain ⟨s', e1, e2⟩ := go B F s hB8 hB
  rw [show F + B + 1 = FU by omega] at e1
  exact ⟨s', e1, e2⟩
/-- the slots of names from 12 on are freed -/
def SLF (s0 s : Sg) (l : Nat) : Prop := (∀ c, c ≠ 32 → s c = s0 c) ∧ (∀ q : Nat, (∃ k, 12 ≤ k ∧ k < l ∧ s0 33 k = (q : Int)) → s 32 q = 0) ∧ (∀ q : Nat, ¬ (∃ k, 12 ≤ k ∧ k < l ∧ s0 33 k = (q : Int)) → s 32 q = s0 32 q)
theorem c101a (h : NI s0 m) : ∀ (r l F : Nat) (s : Sg), l + r = m → 12 ≤ l → SLF s0 s l → ∃ s' : Sg, j_101_3 (F + r + 1) (l : Int) s = j_101_49 s' ∧ SLF s0 s' m := by
  obtain ⟨h1, h2, h3, h4, h5, h6, h7⟩ := h
  intro r
  induction r with
  | zero =>
    intro l F s hl h12 sl
    rw [show l = m by omega] at sl ⊢
    exact ⟨s, by rw [j_101_3, sl.1 31 (by decide), h1, if_pos (by omega)], sl⟩
  | succ r ih =>
    intro l F s hl h12 sl
    obtain ⟨q, q1, q2, q3⟩ := h4 l (by omega)
    obtain ⟨l1, l2, l3⟩ := sl
    rw [show F + (r + 1) + 1 = (F + r + 1) + 1 by omega, j_101_3, l1 31 (by decide), h1, if_neg (by omega), if_neg (by omega), gd_pos (by omega), Int.toNat_natCast, l1 33 (by decide), q2, if_neg (by omega), if_neg (by omega), gd_pos (by omega), Int.toNat_natCast]
    unfold j_101_43
    rw [w32_nat (by omega)]
    refine ih (l + 1) F _ (by omega) (by omega) ⟨fun c x => by rw [u2_row _ _ _ x]; exact l1 c x, fun p hp => ?_, fun p hp => ?_⟩
    · by_cases e : p = q
      · rw [e, u2_same]
      · rw [u2_col _ _ _ e]
        obtain ⟨k, k1, k2, k3⟩ := hp
        refine l2 p ⟨k, k1, ?_, k3⟩
        by_cases ek : k = l
        · rw [ek, q2] at k3; omega
        · omega
    · have e : p ≠ q := fun e => hp ⟨l, h12, by omega, by rw [q2, e]⟩
      rw [u2_col _ _ _ e]
      exact l3 p (fun ⟨k, k1, k2, k3⟩ => hp ⟨k, k1, by omega, k3⟩)
theorem NI.trim (h : NI s0 m) (hm : 12 ≤ m) (sl : SLF s0 s m) (h7' : s' 31 7 = 12) (r : ∀ c, c ≠ 31 → c ≠ 37 → s' c = s c) : NI s' 12 := by
  obtain ⟨h1, h2, h3, h4, h5, h6, h7⟩ := h
  obtain ⟨l1, l2, l3⟩ := sl
  have r33 : s' 33 = s0 33 := by rw [r 33 (by decide) (by decide), l1 33 (by decide)]
  have r34 : s' 34 = s0 34 := by rw [r 34 (by decide) (by decide), l1 34 (by decide)]
  have r35 : s' 35 = s0 35 := by rw [r 35 (by decide) (by decide), l1 35 (by decide)]
  have r32 : s' 32 = s 32 := r 32 (by decide) (by decide)
  -- a slot of a word stays
  have keep : ∀ q : Nat, q < 8192 → 1 ≤ s0 32 q → s0 32 q ≤ 12 → s 32 q = s0 32 q := fun q hq a b => by
    refine l3 q (fun ⟨k, k1, k2, k3⟩ => ?_)
    obtain ⟨q', a1, a2, a3⟩ := h4 k k2
    have : q' = q := by omega
    subst this
    omega
  have gone : ∀ q : Nat, q < 8192 → 12 < s0 32 q → s 32 q = 0 := fun q hq a => by
    refine l2 q ⟨(s0 32 q - 1).toNat, by omega, ?_, h5 q hq (by omega)⟩
    have := h3 q hq
    omega
  have cases3 : ∀ q : Nat, q < 8192 → (s 32 q = s0 32 q ∧ 0 ≤ s0 32 q ∧ s0 32 q ≤ 12) ∨ s 32 q = 0 := fun q hq => by
    have a := h3 q hq
    by_cases c : 12 < s0 32 q
    · exact Or.inr (gone q hq c)
    · by_cases d : s0 32 q = 0
      · by_cases e : ∃ k, 12 ≤ k ∧ k < m ∧ s0 33 k = (q : Int)
        · exact Or.inr (l2 q e)
        · exact Or.inr (by rw [l3 q e]; exact d)
      · exact Or.inl ⟨keep q hq (by omega) (by omega), by omega, by omega⟩
  refine ⟨h7', by decide, fun q hq => ?_, fun k hk => ?_, fun q hq hne => ?_, fun k hk => ?_, fun k l hk hl e1 e2 => ?_⟩
  · rw [r32]
    rcases cases3 q hq with ⟨a, b, c⟩ | a
    · rw [a]; exact ⟨b, c⟩
    · rw [a]; decide
  · obtain ⟨q, a1, a2, a3⟩ := h4 k (by omega)
    exact ⟨q, a1, by rw [r33]; exact a2, by rw [r32, keep q a1 (by omega) (by omega)]; exact a3⟩
  · rw [r32] at hne ⊢
    rcases cases3 q hq with ⟨a, b, c⟩ | a
    · rw [a] at hne ⊢
      rw [r33]
      exact h5 q hq hne
    · exact absurd a hne
  · obtain ⟨d, a1, a2, a3⟩ := h6 k (by omega)
    refine ⟨d, a1, by rw [r33, r34, r35]; exact a2, fun e he => ?_⟩
    obtain ⟨b1, b2⟩ := a3 e he
    rw [r32, r34, r35, keep _ (pb_lt _ _) b1 (by omega)]
    exact ⟨b1, b2⟩
  · rw [r34] at e1
    rw [r35] at e2
    exact h7 k l (by omega) (by omega) e1 e2
end FGT
/-! FORGETTING: the words are entered; all is as new. -/
def wch (l : Nat) : Int := wdl.getD l 0
def wix : Nat → Nat
  | 0 => 0
  | l + 1 => wix l + (if wch l = 32 then 1 else 0)
def wky : Nat → Int × Int
  | 0 => (0, 0)
  | l + 1 => if wch l = 32 then (0, 0) else (ax_lor (ax_lshl (wky l).1 8) (ax_lushr (wky l).2 56), ax_lor (ax_lshl (wky l).2 8) (wch l))
theorem w_ch : ∀ l : Nat, l < 49 → ax_u16 (ax_iand (wch l) 255) = wch l ∧ 0 ≤ wch l ∧ wch l < 65536 := by decide +kernel
theorem w_sp : ∀ l : Nat, l < 49 → wch l = 32 → (wky l).1 = 0 ∧ (wky l).2 = wdk.getD (wix l) 0 ∧ wix l < 12 := by decide +kernel
theorem w_di : ∀ a : Nat, a < 12 → ∀ b : Nat, b < a → wdk.getD b 0 ≠ wdk.getD a 0 := by decide +kernel
theorem w_en : wix 49 = 12 ∧ (wky 49).1 = 0 ∧ (wky 49).2 = 0 := by decide +kernel
section WDS
variable {s s0 s' : Sg} {m l : Nat}
/-- m words have been entered -/
def WDM (s0 s : Sg) (m : Nat) : Prop := NI s m ∧ (∀ k, k < m → s 34 k = 0 ∧ s 35 k = wdk.getD k 0 ∧ s 36 k = -1 ∧ s 37 k = 0) ∧ s 31 9 = 0 ∧ s 31 10 = 0 ∧ s 31 8 = s0 31 8 ∧ (∀ a, a < 31 ∨ 37 < a → s a = s0 a)
theorem c103 (hk : KO s0) (h0 : NI s0 0) (h9 : s0 31 9 = 0) (h10 : s0 31 10 = 0) : ∃ s' : Sg, f_103 s0 = some s' ∧ WDM s0 s' 12 := by
  have go : ∀ (r l F : Nat) (z : Sg), l + r = 49 → WDM s0 z (wix l) → ∃ s' : Sg, j_103_2 (F + r + 1) (l : Int) (ax_u2 (ax_u2 z 31 9 (wky l).1) 31 10 (wky l).2) = some s' ∧ WDM s0 s' 12 := by
    intro r
    induction r with
    | zero =>
      intro l F z hl hw
      have e : l = 49 := by omega
      subst e
      have k2 : (ax_u2 (ax_u2 z 31 9 (wky 49).1) 31 10 (wky 49).2) 2 1 = 0 := by rw [u2_row _ _ _ (by decide), u2_row _ _ _ (by decide), hw.2.2.2.2.2 2 (by decide)]; exact hk.1
      refine ⟨ax_u2 (ax_u2 z 31 9 (wky 49).1) 31 10 (wky 49).2, ?_, ?_⟩
      · rw [j_103_2]
        unfold f_272_2 f_275_2
        rw [k2, gd_pos (by decide), Option.bind_some, Option.bind_some, if_pos (by decide)]
      · rw [w_en.2.1, w_en.2.2]
        rw [w_en.1] at hw
        obtain ⟨a1, a2, a3, a4, a5, a6⟩ := hw
        rw [u2_self z a3, u2_self z a4]
        exact ⟨a1, a2, a3, a4, a5, a6⟩
    | succ r ih =>
      intro l F z hl hw
      obtain ⟨a1, a2, a3, a4, a5, a6⟩ := id hw
      obtain ⟨c1, c2, c3⟩ := w_ch l (by omega)
      have lw : wix (l + 1) = wix l + (if wch l = 32 then 1 else 0) := rfl
      have lk : wky (l + 1) = if wch l = 32 then (0, 0) else (ax_lor (ax_lshl (wky l).1 8) (ax_lushr (wky l).2 56), ax_lor (ax_lshl (wky l).2 8) (wch l)) := rfl
      have row : ∀ a, a ≠ 31 → (ax_u2 (ax_u2 z 31 9 (wky l).1) 31 10 (wky l).2) a = z a := fun a x => by rw [u2_row _ _ _ x, u2_row _ _ _ x]
      have k2 : (ax_u2 (ax_u2 z 31 9 (wky l).1) 31 10 (wky l).2) 2 1 = 0 := by rw [row 2 (by decide), a6 2 (by decide)]; exact hk.1
      have k3 : (ax_u2 (ax_u2 z 31 9 (wky l).1) 31 10 (wky l).2) 3 l = wch l := by rw [row 3 (by decide), a6 3 (by decide)]; exact hk.2.2.1 l (by omega)
      have v9 : (ax_u2 (ax_u2 z 31 9 (wky l).1) 31 10 (wky l).2) 31 9 = (wky l).1 := by rw [u2_col _ _ _ (by decide)]; exact u2_same _ _ _ _
      have v10 : (ax_u2 (ax_u2 z 31 9 (wky l).1) 31 10 (wky l).2) 31 10 = (wky l).2 := u2_same _ _ _ _
      have e73 : f_273_2 (l : Int) (ax_u2 (ax_u2 z 31 9 (wky l).1) 31 10 (wky l).2) = some (wch l, ax_u2 (ax_u2 z 31 9 (wky l).1) 31 10 (wky l).2) := by
        unfold f_273_2 f_276_2
        rw [if_neg (fun u => by rw [if_neg (fun w => w k2)] at u; exact absurd u (by decide))]
        unfold f_296_3 f_278 f_300_26
        rw [if_neg (by omega), if_pos (by omega), Option.bind_some, Option.bind_some, gd_pos (by omega), Option.bind_some, Int.toNat_natCast]
        show gd (0 ≤ ax_u16 (ax_iand ((ax_u2 (ax_u2 z 31 9 (wky l).1) 31 10 (wky l).2) 3 l) 255) ∧ ax_u16 (ax_iand ((ax_u2 (ax_u2 z 31 9 (wky l).1) 31 10 (wky l).2) 3 l) 255) < 65536) _ = _
        rw [k3, c1, gd_pos ⟨c2, c3⟩]
      rw [show F + (r + 1) + 1 = (F + r + 1) + 1 by omega, j_103_2]
      have e72 : f_272_2 (ax_u2 (ax_u2 z 31 9 (wky l).1) 31 10 (wky l).2) = some 49 := by
        unfold f_272_2 f_275_2
        rw [k2, gd_pos (by decide), Option.bind_some]
        rfl
      rw [e72, Option.bind_some, if_neg (by omega), e73, Option.bind_some]
      have k40 : ∀ y : Sg, j_103_40 (j_103_2 (F + r + 1)) (l : Int) y = j_103_2 (F + r + 1) ((l + 1 : Nat) : Int) y := fun y => by
        unfold j_103_40
        rw [w32_nat (by omega)]
      by_cases c : wch l = 32
      · obtain ⟨p1, p2, p3⟩ := w_sp l (by omega) c
        rw [if_pos c] at lw lk
        obtain ⟨id, s1, e1, e2⟩ := c104 a1 (by omega) a3 a4 (wky l).1 (wky l).2
        dsimp only
        rw [if_neg (fun u => u c), e1, Option.bind_some]
        dsimp only
        rw [k40]
        rcases e2 with ⟨f1, f2, f3, f4⟩ | ⟨f1, ⟨g1, g2, g3, g4, g5, g6, g7, g8⟩, f3⟩
        · exfalso
          rw [(a2 id f1).2.1, p2] at f3
          exact w_di (wix l) p3 id f1 f3
        · have b9 : s1 31 9 = 0 := by rw [g7 9 (by decide)]; exact a3
          have b10 : s1 31 10 = 0 := by rw [g7 10 (by decide)]; exact a4
          have := ih (l + 1) F s1 (by omega) (by
            rw [lw]
            refine ⟨g1, fun k hk => ?_, b9, b10, by rw [g7 8 (by decide)]; exact a5, fun a x => by rw [g8 a x]; exact a6 a x⟩
            by_cases e : k = wix l
            · rw [e]
              exact ⟨by rw [g3]; exact p1, by rw [g4]; exact p2, g5, g6⟩
            · obtain ⟨q1, q2, q3, q4⟩ := g2 k (by omega)
              rw [q1, q2, q3, q4]
              exact a2 k (by omega))
          rw [lk] at this
          dsimp only at this
          rw [u2_self s1 b9, u2_self s1 b10] at this
          exact this
      · rw [if_neg c] at lw lk
        dsimp only
        rw [if_pos c, e73, Option.bind_some]
        dsimp only
        rw [Option.bind_some, k40]
        have e5 : f_105 (wch l) (ax_u2 (ax_u2 z 31 9 (wky l).1) 31 10 (wky l).2) = ax_u2 (ax_u2 z 31 9 (wky (l + 1)).1) 31 10 (wky (l + 1)).2 := by
          unfold f_105
          rw [v9, v10, sp_over, lk]
        rw [e5]
        exact ih (l + 1) F z (by omega) (by rw [lw]; exact hw)
  obtain ⟨F, hF⟩ := FU_split (k := 50) (by omega)
  obtain ⟨s', e1, e2⟩ := go 49 0 F s0 (by omega) ⟨h0, fun k hk => absurd hk (by show ¬ k < 0; omega), h9, h10, rfl, fun _ _ => rfl⟩
  rw [show F + 49 + 1 = FU by omega] at e1
  have e0 : ax_u2 (ax_u2 s0 31 9 (wky 0).1) 31 10 (wky 0).2 = s0 := by
    show ax_u2 (ax_u2 s0 31 9 0) 31 10 0 = s0
    rw [u2_self s0 h9, u2_self s0 h10]
  rw [e0] at e1
  exact ⟨s', e1, e2⟩
/-- the names, between two readings -/
def NMI (s : Sg) : Prop := KO s ∧ s 31 9 = 0 ∧ s 31 10 = 0 ∧ (∃ B : Nat, s 31 8 = (B : Int) ∧ B ≤ 4112) ∧ (NI s 0 ∨ ∃ m, NI s m ∧ 12 ≤ m ∧ m ≤ 4111 ∧ WD s)
theorem KO.row (h : KO s) (h1 : s' 1 = s 1) (h2 : s' 2 = s 2) (h3 : s' 3 = s 3) (h4 : s' 4 = s 4) (h5 : s' 5 = s 5) : KO s' := by
  unfold KO
  rw [h1, h2, h3, h4, h5]
  exact h
theorem c101 (h : NMI s) : ∃ s' : Sg, f_101 s = some s' ∧ NI s' 12 ∧ WD s' ∧ s' 31 8 = 0 ∧ s' 31 9 = 0 ∧ s' 31 10 = 0 ∧ (∀ a, a < 31 ∨ 37 < a → s' a = s a) := by
  obtain ⟨hk, h9, h10, ⟨B, hB, hB8⟩, h⟩ := h
  rcases h with h | ⟨m, h, hm1, hm2, hw⟩
  · -- for the first time
    have h7 : s 31 7 = 0 := h.1
    obtain ⟨F, hF⟩ := FU_split (k := 1) (by omega)
    have w7 : f_291 (s 31 7) 12 s = 0 := by
      unfold f_291
      rw [h7, if_neg (by decide)]
    obtain ⟨s1, e1, e2, e3, e4, e5⟩ := c102f (s := ax_u2 s 31 7 0) (B := B) (by rw [u2_col _ _ _ (by decide)]; exact hB) hB8
    have r1 : ∀ c, c ≠ 31 → c ≠ 37 → s1 c = s c := fun c x y => by rw [e3 c x y, u2_row _ _ _ x]
    have n0 : NI s1 0 := h.congr (by rw [e4 7 (by decide), u2_same, h7]) (r1 32 (by decide) (by decide)) (r1 33 (by decide) (by decide)) (r1 34 (by decide) (by decide)) (r1 35 (by decide) (by decide))
    have b9 : s1 31 9 = 0 := by rw [e4 9 (by decide), u2_col _ _ _ (by decide)]; exact h9
    have b10 : s1 31 10 = 0 := by rw [e4 10 (by decide), u2_col _ _ _ (by decide)]; exact h10
    obtain ⟨s2, f1, g1, g2, g3, g4, g5, g6⟩ := c103 (s0 := s1) (hk.row (r1 1 (by decide) (by decide)) (r1 2 (by decide) (by decide)) (r1 3 (by decide) (by decide)) (r1 4 (by decide) (by decide)) (r1 5 (by decide) (by decide))) n0 b9 b10
    refine ⟨s2, ?_, g1, fun k hk => ⟨(g2 k hk).1, (g2 k hk).2.1⟩, by rw [g5]; exact e2, g3, g4, fun a x => by rw [g6 a x, r1 a (by omega) (by omega)]⟩
    unfold f_101
    rw [show FU = F + 1 by omega, j_101_3, h7, if_pos (by decide)]
    unfold j_101_49
    rw [w7, e1, Option.bind_some, if_neg (fun u => u n0.1), f1, Option.bind_some]
  · obtain ⟨F, hF⟩ := FU_split (k := (m - 12) + 1) (by omega)
    obtain ⟨s1, e1, sl⟩ := c101a h (m - 12) 12 F s (by omega) (Nat.le_refl _) ⟨fun _ _ => rfl, fun q ⟨k, k1, k2, _⟩ => absurd k2 (by omega), fun _ _ => rfl⟩
    rw [show F + (m - 12) + 1 = FU by omega] at e1
    have h7 : s1 31 7 = (m : Int) := by rw [sl.1 31 (by decide)]; exact h.1
    have w7 : f_291 (s1 31 7) 12 s1 = 12 := by
      unfold f_291
      rw [h7]
      by_cases c : (12 : Int) < m
      · rw [if_pos c]
      · rw [if_neg c]; omega
    obtain ⟨s2, f1, f2, f3, f4, f5⟩ := c102f (s := ax_u2 s1 31 7 12) (B := B) (by rw [u2_col _ _ _ (by decide), sl.1 31 (by decide)]; exact hB) hB8
    have r1 : ∀ c, c ≠ 31 → c ≠ 37 → s2 c = s1 c := fun c x y => by rw [f3 c x y, u2_row _ _ _ x]
    have r2 : ∀ c, c ≠ 31 → c ≠ 32 → c ≠ 37 → s2 c = s c := fun c x y w => by rw [r1 c x w, sl.1 c y]
    have b7 : s2 31 7 = 12 := by rw [f4 7 (by decide)]; exact u2_same _ _ _ _
    refine ⟨s2, ?_, h.trim hm1 sl b7 r1, fun k hk => ?_, f2, ?_, ?_, fun a x => r2 a (by omega) (by omega) (by omega)⟩
    · unfold f_101
      have e1' : j_101_3 FU 12 s = _ := e1
      rw [e1']
      unfold j_101_49
      rw [w7, f1, Option.bind_some, if_pos (by rw [b7]; decide)]
    · rw [r2 34 (by decide) (by decide) (by decide), r2 35 (by decide) (by decide) (by decide)]
      exact hw k hk
    · rw [f4 9 (by decide), u2_col _ _ _ (by decide), sl.1 31 (by decide)]; exact h9
    · rw [f4 10 (by decide), u2_col _ _ _ (by decide), sl.1 31 (by decide)]; exact h10
/-- all is forgotten -/
theorem c14 (h : NMI s) : ∃ s' : Sg, f_14 s = some s' ∧ NI s' 12 ∧ WD s' ∧ s' 31 8 = 0 ∧ s' 31 9 = 0 ∧ s' 31 10 = 0 ∧ (∀ j, j < 11 → s' 30 j = -1) ∧ s' 39 9 = 0 ∧ s' 46 7 = 0 ∧ s' 54 6 = 0 ∧ s' 61 4 = 0 ∧ s' 66 7 = 0 ∧ s' 70 9 = 0 ∧ (∀ j, j ≠ 9 → j ≠ 10 → j ≠ 11 → s' 39 j = s 39 j) ∧ (∀ a, a < 30 ∨ 37 < a → a ≠ 39 → a ≠ 46 → a ≠ 54 → a ≠ 61 → a ≠ 66 → a ≠ 70 → a ≠ 74 → s' a = s a) ∧ s' 74 13 = 0 := by
  obtain ⟨s1, e1, p1, p2, -⟩ := c70 s
  have h1 : NMI s1 := by
    obtain ⟨hk, h9, h10, hB, h⟩ := h
    refine ⟨hk.row (p1 1 (by decide)) (p1 2 (by decide)) (p1 3 (by decide)) (p1 4 (by decide)) (p1 5 (by decide)), by rw [p1 31 (by decide)]; exact h9, by rw [p1 31 (by decide)]; exact h10, by rw [p1 31 (by decide)]; exact hB, ?_⟩
    rcases h with h | ⟨m, h, hm1, hm2, hw⟩
    · exact Or.inl (h.congr (by rw [p1 31 (by decide)]) (p1 32 (by decide)) (p1 33 (by decide)) (p1 34 (by decide)) (p1 35 (by decide)))
    · refine Or.inr ⟨m, h.congr (by rw [p1 31 (by decide)]) (p1 32 (by decide)) (p1 33 (by decide)) (p1 34 (by decide)) (p1 35 (by decide)), hm1, hm2, ?_⟩
      unfold WD
      rw [p1 34 (by decide), p1 35 (by decide)]
      exact hw
  obtain ⟨s2, e2, q1, q2, q4, q5, q6, q7⟩ := c101 h1
  obtain ⟨z, hz⟩ : ∃ z : Sg, z = f_163 (f_140 (f_44 (f_33 (f_180 (f_113 (f_74 s2)))))) := ⟨_, rfl⟩
  have rw31 : ∀ a, a ≠ 39 → a ≠ 46 → a ≠ 54 → a ≠ 61 → a ≠ 66 → a ≠ 70 → a ≠ 74 → z a = s2 a := fun a x1 x2 x3 x4 x5 x6 x7 => by
    rw [hz]
    unfold f_163 f_140 f_44 f_33 f_180 f_113 f_74
    rw [u2_row _ _ _ x7, u2_row _ _ _ x6, u2_row _ _ _ x5, u2_row _ _ _ x4, u2_row _ _ _ x3, u2_row _ _ _ x3, u2_row _ _ _ x2, u2_row _ _ _ x1, u2_row _ _ _ x1, u2_row _ _ _ x1]
  have rs : ∀ a, a < 38 → z a = s2 a := fun a x => rw31 a (by omega) (by omega) (by omega) (by omega) (by omega) (by omega) (by omega)
  refine ⟨z, ?_, q1.congr (by rw [rs 31 (by decide)]) (rs 32 (by decide)) (rs 33 (by decide)) (rs 34 (by decide)) (rs 35 (by decide)), ?_, by rw [rs 31 (by decide)]; exact q4, by rw [rs 31 (by decide)]; exact q5, by rw [rs 31 (by decide)]; exact q6, fun j hj => by rw [rs 30 (by decide), q7 30 (by decide)]; exact p2 j hj, ?_, ?_, ?_, ?_, ?_, ?_, fun j a b c => ?_, fun a x x1 x2 x3 x4 x5 x6 x7 => by rw [rw31 a x1 x2 x3 x4 x5 x6 x7, q7 a (by omega), p1 a (by omega)], ?_⟩
  · unfold f_14
    rw [e1, Option.bind_some, e2, Option.bind_some, Option.bind_some, Option.bind_some, Option.bind_some, Option.bind_some, Option.bind_some, Option.bind_some, Option.bind_some, hz]
  · unfold WD
    rw [rs 34 (by decide), rs 35 (by decide)]
    exact q2
  · rw [hz]; simp [f_163, f_140, f_44, f_33, f_180, f_113, f_74, ax_u2]
  · rw [hz]; simp [f_163, f_140, f_44, f_33, f_180, f_113, f_74, ax_u2]
  · rw [hz]; simp [f_163, f_140, f_44, f_33, f_180, f_113, f_74, ax_u2]
  · rw [hz]; simp [f_163, f_140, f_44, f_33, f_180, f_113, f_74, ax_u2]
  · rw [hz]; simp [f_163, f_140, f_44, f_33, f_180, f_113, f_74, ax_u2]
  · rw [hz]; simp [f_163, f_140, f_44, f_33, f_180, f_113, f_74, ax_u2]
  · have e : z 39 j = s2 39 j := by rw [hz]; simp [f_163, f_140, f_44, f_33, f_180, f_113, f_74, ax_u2, a, b, c]
    rw [e, q7 39 (by decide), p1 39 (by decide)]
  · rw [hz]; simp [f_163, ax_u2]
end WDS
/-! CUTTING as a whole. -/
section CUTW
variable {s1 m1 : Sg} {n : Nat} {t : Nat → Int}
/-- what cutting leaves of the class; m names -/
def CWc (s s' : Sg) (m : Nat) : Prop := NI s' m ∧ 12 ≤ m ∧ m ≤ 4111 ∧ WD s' ∧ s' 31 9 = 0 ∧ s' 31 10 = 0 ∧ s' 31 8 = s 31 8 ∧ (∀ k, k < 12 → s' 36 k = s 36 k ∧ s' 37 k = s 37 k) ∧ (∀ k, 12 ≤ k → k < m → s' 36 k = -1 ∧ s' 37 k = 0) ∧ (∀ a, a < 30 ∨ 37 < a ∧ a < 39 ∨ 45 < a → s' a = s a) ∧ (∀ j, j < 8 → s' 39 j = s 39 j)
/-- and of the reference -/
def CWm (s s' : Sg) : Prop := (∀ a, a < 84 ∨ 84 < a ∧ a < 88 ∨ 93 < a → s' a = s a) ∧ ∀ j, j ≠ 6 → j ≠ 7 → j ≠ 11 → s' 84 j = s 84 j
theorem cut_sim (hN : NI s1 12) (hW : WD s1) (hK : KO s1) (h9 : s1 31 9 = 0) (h10 : s1 31 10 = 0) (h27 : s1 27 1 = (n : Int)) (hn : n ≤ 8192) (hb : ∀ i, i < n → s1 28 i % 256 = t i) (hM : MT m1 n t) (h6 : m1 84 6 = 0) :
    (∃ (T : TT) (sc0 sm0 : Sg), f_73_28 (s1 27 1) s1 = some (1, sc0) ∧ f_208 m1 = some sm0 ∧ TWF T ∧ POS T ∧ CC T sc0 ∧ MC T sm0 ∧ CU T sc0 0 ∧ CX T sc0 ∧ TX T sc0 sm0 n t ∧ (∀ k, k < T.z → FRS T sc0 sm0 k) ∧ sm0 84 6 = 0 ∧ CWc s1 sc0 T.m ∧ sc0 30 = s1 30 ∧ CWm m1 sm0 ∧ XO T sc0) ∨
    (∃ (sc0 sm0 : Sg) (m : Nat), f_73_28 (s1 27 1) s1 = some (0, sc0) ∧ f_208 m1 = some sm0 ∧ sc0 30 1 ≠ -1 ∧ (∀ j, j ≠ 1 → sc0 30 j = s1 30 j) ∧ sm0 84 6 = 1 ∧ CWc s1 sc0 m ∧ CWm m1 sm0) := by
  have hbb : ∀ i, i < n → 0 ≤ t i ∧ t i < 256 := fun i hi => (hM.2.2 i hi).2
  -- before the first lexeme
  obtain ⟨s2, hs2⟩ : ∃ s : Sg, s = ax_u2 (cpy (ax_u2 s1 39 8 (n : Int)) 28 40 0 0 n) 39 9 0 := ⟨_, rfl⟩
  have r2 : ∀ c, c ≠ 39 → c ≠ 40 → s2 c = s1 c := fun c x y => by
    rw [hs2, u2_row _ _ _ x]
    show (if c = 40 then _ else (ax_u2 s1 39 8 (n : Int)) c) = _
    rw [if_neg y, u2_row _ _ _ x]
  have r40 : ∀ i, i < n → s2 40 i = s1 28 i := fun i hi => by
    rw [hs2, u2_row _ _ _ (by decide)]
    show (if (40 : Nat) = 40 then ax_cpy ((ax_u2 s1 39 8 (n : Int)) 28) ((ax_u2 s1 39 8 (n : Int)) 40) 0 0 n else (ax_u2 s1 39 8 (n : Int)) 40) i = _
    rw [if_pos rfl]
    show (if 0 ≤ i ∧ i < 0 + n then (ax_u2 s1 39 8 (n : Int)) 28 (0 + (i - 0)) else _) = _
    rw [if_pos (by omega), u2_row _ _ _ (by decide), show 0 + (i - 0) = i by omega]
  have r39 : s2 39 8 = (n : Int) ∧ s2 39 9 = 0 ∧ ∀ j, j ≠ 8 → j ≠ 9 → s2 39 j = s1 39 j := by
    have q : ∀ j, j ≠ 9 → s2 39 j = (ax_u2 s1 39 8 (n : Int)) 39 j := fun j x => by
      rw [hs2, u2_col _ _ _ x]
      show (if (39 : Nat) = 40 then _ else (ax_u2 s1 39 8 (n : Int)) 39) j = _
      rw [if_neg (by decide)]
    refine ⟨by rw [q 8 (by decide)]; exact u2_same _ _ _ _, by rw [hs2]; exact u2_same _ _ _ _, fun j x y => by rw [q j y, u2_col _ _ _ x]⟩
  have ct : CT s2 n t := ⟨r39.1, hn, fun i hi => by rw [r40 i hi]; exact ⟨hb i hi, hbb i hi⟩⟩
  have cls : CLS s2 n t 0 12 := by
    refine ⟨ct, ?_, hN.congr (by rw [r2 31 (by decide) (by decide)]) (r2 32 (by decide) (by decide)) (r2 33 (by decide) (by decide)) (r2 34 (by decide) (by decide)) (r2 35 (by decide) (by decide)), Nat.le_refl _, ?_, by rw [r2 31 (by decide) (by decide)]; exact h9, by rw [r2 31 (by decide) (by decide)]; exact h10, r39.2.1⟩
    · exact hK.row (r2 1 (by decide) (by decide)) (r2 2 (by decide) (by decide)) (r2 3 (by decide) (by decide)) (r2 4 (by decide) (by decide)) (r2 5 (by decide) (by decide))
    · unfold WD
      rw [r2 34 (by decide) (by decide), r2 35 (by decide) (by decide)]
      exact hW
  obtain ⟨m2, hm2⟩ : ∃ s : Sg, s = ax_u2 m1 84 11 0 := ⟨_, rfl⟩
  have mr : ∀ c, c ≠ 84 → m2 c = m1 c := fun c x => by rw [hm2, u2_row _ _ _ x]
  have mj : ∀ j, j ≠ 11 → m2 84 j = m1 84 j := fun j x => by rw [hm2, u2_col _ _ _ x]
  have mt : MT m2 n t := hM.congr (mj 3 (by decide)) (mr 86 (by decide))
  have m11 : m2 84 11 = ((0 : Nat) : Int) := by rw [hm2]; exact u2_same _ _ _ _
  -- both begin at the same place
  obtain ⟨i, hi⟩ : ∃ i : Nat, i = wsk t n false 0 := ⟨_, rfl⟩
  have ge := wsk_ge t n false 0
  rw [← hi] at ge
  have e76 : f_76 0 s2 = some (i : Int) := by
    have := c76 r39.1 hn 0 (by omega)
    rw [show n - 0 = n by omega, wsk_congr (t' := t) n false 0 (fun e _ y => (ct.2.2 e (by omega)).1), ← hi] at this
    exact this
  have e223 : f_223 0 m2 = some (i : Int) := by
    have := m223 mt.1 hn 0 (by omega)
    rw [show n - 0 = n by omega, wsk_congr (t' := t) n false 0 (fun e _ y => (mt.2.2 e (by omega)).1), ← hi] at this
    exact this
  have ln : f_292 0 (f_291 (s1 27 1) (f_291 8192 8192 s1) s1) s1 = (n : Int) := by
    have a1 : f_291 8192 8192 s1 = 8192 := by unfold f_291; rw [if_neg (by decide)]
    have a2 : f_291 (s1 27 1) 8192 s1 = (n : Int) := by unfold f_291; rw [h27, if_neg (by omega)]
    rw [a1, a2]
    unfold f_292
    by_cases c : (0 : Int) < n
    · rw [if_pos c]
    · rw [if_neg c]; omega
  have ec : f_73_28 (s1 27 1) s1 = j_73_28_48 FU (i : Int) 0 s2 := by
    unfold f_73_28
    rw [ln, gd_pos (by omega), Int.toNat_natCast]
    show ((f_76 0 (ax_u2 (cpy (ax_u2 s1 39 8 (n : Int)) 28 40 0 0 n) 39 9 0)).bind fun q1 => j_73_28_48 FU q1 0 (ax_u2 (cpy (ax_u2 s1 39 8 (n : Int)) 28 40 0 0 n) 39 9 0)) = _
    rw [← hs2, e76, Option.bind_some]
  have em : f_208 m1 = j_208_11 FU (i : Int) m2 := by
    unfold f_208
    rw [← hm2, e223, Option.bind_some]
  obtain ⟨F, hF⟩ := FU_split (k := (n - i) + 1) (by omega)
  -- what is known of the class behind it
  have cw : ∀ (s' : Sg) (m : Nat), CF s2 s' 12 m → CLS s' n t (s' 39 9).toNat m → m ≤ 4111 → CWc s1 s' m ∧ s' 30 = s1 30 := fun s' m cf cl hm => by
    obtain ⟨f1, f2, f3, f4, f5, f6⟩ := cf
    obtain ⟨_, _, c3, c4, c5, c6, c7, _⟩ := cl
    refine ⟨⟨c3, c4, hm, c5, c6, c7, by rw [f4, r2 31 (by decide) (by decide)], fun k hk => ?_, f3, fun a x => by rw [f5 a (by omega) (by omega) (by omega), r2 a (by omega) (by omega)], fun j hj => by rw [f6 j (by omega), r39.2.2 j (by omega) (by omega)]⟩, by rw [f5 30 (by decide) (by decide) (by decide), r2 30 (by decide) (by decide)]⟩
    obtain ⟨_, _, a3, a4⟩ := f2 k hk
    rw [a3, a4, r2 36 (by decide) (by decide), r2 37 (by decide) (by decide)]
    exact ⟨rfl, rfl⟩
  have mw : ∀ m' : Sg, MF m2 m' → CWm m1 m' := fun m' mf => ⟨fun a x => by rw [mf.1 a x, mr a (by omega)], fun j x y z => by rw [mf.2 j x y z, mj j z]⟩
  rcases cutl (n - i) i 0 12 F F s2 m2 (by omega) cls mt m11 (by rw [mj 6 (by decide)]; exact h6) (by omega) (fun k hk => absurd hk (by omega)) ⟨fun k hk => absurd hk (by omega), fun u => absurd u (by omega)⟩ (Or.inl (by omega)) with ⟨sc', sm', z', m', a1, a2, a3, a4, a5, a6, a7, a8, a9, a10, a11, a12⟩ | ⟨sc', sm', z', m', i', a1, a2, a3, a4, a5, a6, a7, a8, a9, a10⟩
  · left
    rw [show F + (n - i) + 1 = FU by omega] at a1 a2
    obtain ⟨T, t1, t2, t3, t4, t5, t6, t7, t8, t9, t10, t11⟩ := cut_in a3 a4 a5 a7 a8 a9 a10
    obtain ⟨v41, v42, v43, v44, v45, v9, v10, v11, vo⟩ := ENc_at (sc := sc') (z := z') (n := n)
    have h39 : (sc' 39 9).toNat = z' := by rw [a3.2.2.2.2.2.2.2, Int.toNat_natCast]
    obtain ⟨⟨w1, w2, w3, w4, w5, w6, w7, w8, w9, w10, w11⟩, w12⟩ := cw sc' m' a11 (by rw [h39]; exact a3) a8
    have er : ∀ c, c ≠ 39 → c < 41 ∨ 45 < c → ENc sc' z' n c = sc' c := fun c x y => ENc_row (by omega)
    refine ⟨T, ENc sc' z' n, ENm sm' z' n, ?_, ?_, t3, t4, t5, t6, t7, t8, t9, fun k hk => t10 k (by omega), ?_, ?_, ?_, ?_, t11⟩
    · have a1' : j_73_28_48 FU (i : Int) 0 s2 = _ := a1
      rw [ec, a1', c101e a3 a7]
    · rw [em, a2, m222e a5 a4.1 (by omega)]
    · rw [ENm_row (by decide)]; exact a6
    · rw [t2]
      refine ⟨w1.congr (by rw [er 31 (by decide) (by decide)]) (er 32 (by decide) (by decide)) (er 33 (by decide) (by decide)) (er 34 (by decide) (by decide)) (er 35 (by decide) (by decide)), w2, w3, ?_, by rw [er 31 (by decide) (by decide)]; exact w5, by rw [er 31 (by decide) (by decide)]; exact w6, by rw [er 31 (by decide) (by decide)]; exact w7, ?_, ?_, fun a x => by rw [er a (by omega) (by omega)]; exact w10 a x, fun j hj => by rw [vo j (by omega) (by omega) (by omega)]; exact w11 j hj⟩
      · unfold WD
        rw [er 34 (by decide) (by decide), er 35 (by decide) (by decide)]
        exact w4
      · rw [er 36 (by decide) (by decide), er 37 (by decide) (by decide)]
        exact w8
      · rw [er 36 (by decide) (by decide), er 37 (by decide) (by decide)]
        exact w9
    · rw [er 30 (by decide) (by decide)]; exact w12
    · have mw' := mw sm' a12
      exact ⟨fun a x => by rw [ENm_row (by omega)]; exact mw'.1 a x, fun j x y z => by rw [ENm_row (by decide)]; exact mw'.2 j x y z⟩
  · right
    rw [show F + (n - i) + 1 = FU by omega] at a1 a2
    have h39 : (sc' 39 9).toNat = z' := by rw [a3.2.2.2.2.2.2.2, Int.toNat_natCast]
    obtain ⟨⟨w1, w2, w3, w4, w5, w6, w7, w8, w9, w10, w11⟩, w12⟩ := cw sc' m' a9 (by rw [h39]; exact a3) a8
    obtain ⟨k1, k2⟩ := c71k (s := sc') (k := 1) (x := (i' : Int)) (by decide) (by decide) (by omega)
    have k1' : g_71 1 (i' : Int) sc' := k1
    have k2' : NTk 1 sc' (f_71 1 (i' : Int) sc') True := k2
    obtain ⟨p1, p2, p3⟩ := k2'
    refine ⟨f_71 1 (i' : Int) sc', ENm sm' (z' + 1) n, m', ?_, ?_, p3.mpr (Or.inr trivial), fun j hj => by rw [p2 j hj, w12], ?_, ?_, ?_⟩
    · have a1' : j_73_28_48 FU (i : Int) 0 s2 = _ := a1
      rw [ec, a1']
      unfold j_73_28_77
      rw [gd_pos k1', Option.bind_some]
    · rw [em, a2, m222e a4 a5 (by omega)]
    · rw [ENm_row (by decide)]; exact a6
    · refine ⟨w1.congr (by rw [p1 31 (by decide)]) (p1 32 (by decide)) (p1 33 (by decide)) (p1 34 (by decide)) (p1 35 (by decide)), w2, w3, ?_, by rw [p1 31 (by decide)]; exact w5, by rw [p1 31 (by decide)]; exact w6, by rw [p1 31 (by decide)]; exact w7, ?_, ?_, fun a x => by rw [p1 a (by omega)]; exact w10 a x, fun j hj => by rw [p1 39 (by decide)]; exact w11 j hj⟩
      · unfold WD
        rw [p1 34 (by decide), p1 35 (by decide)]
        exact w4
      · rw [p1 36 (by decide), p1 37 (by decide)]
        exact w8
      · rw [p1 36 (by decide), p1 37 (by decide)]
        exact w9
    · have mw' := mw sm' a10
      exact ⟨fun a x => by rw [ENm_row (by omega)]; exact mw'.1 a x, fun j x y z => by rw [ENm_row (by decide)]; exact mw'.2 j x y z⟩
end CUTW
/-! READING as a whole: how it begins. -/
section RDB
variable {T : TT} {sc sm sc0 sm0 s1 m1 : Sg} {n id : Nat} {t : Nat → Int}
theorem IDN.ge (hX : TX T sc sm n t) (h : IDN T id) : 12 ≤ id := by
  obtain ⟨x, h1, h2, h3⟩ := h
  obtain ⟨i, j, -, -, -, -, -, -, -, id', e1, e2, -, -, e5⟩ := hX.nm h1 h2
  by_cases c : 12 ≤ id'
  · omega
  · rw [if_neg c] at e5
    omega
/-- behind cutting, all is ready to be read -/
theorem in0 (hX : TX T sc0 sm0 n t) (c1 : CC T sc0) (c2 : MC T sm0) (c3 : CU T sc0 0) (c4 : CX T sc0) (c5 : ∀ k, k < T.z → FRS T sc0 sm0 k) (c6 : sm0 84 6 = 0) (cw : CWc s1 sc0 T.m) (c30 : sc0 30 = s1 30) (mw : CWm m1 sm0) (hT : TWF T)
    (f30 : ∀ j, j < 11 → s1 30 j = -1) (a31 : s1 31 8 = 0) (a46 : s1 46 7 = 0) (a54 : s1 54 6 = 0) (a61 : s1 61 4 = 0) (a66 : s1 66 7 = 0) (a70 : s1 70 9 = 0) (b19 : m1 84 19 = 0) (b31 : m1 84 31 = 0) (b34 : m1 84 34 = 0) (b47 : m1 84 47 = 0) (b57 : m1 84 57 = 0) : IN0 T sc0 sm0 := by
  obtain ⟨w1, w2, w3, w4, w5, w6, w7, w8, w9, w10, w11⟩ := cw
  refine ⟨c1, c2, c3, c6, by rw [w10 46 (by decide)]; exact a46, by rw [mw.2 47 (by decide) (by decide) (by decide)]; exact b47, by rw [mw.2 57 (by decide) (by decide) (by decide)]; exact b57, by rw [w10 66 (by decide)]; exact a66, c5, by rw [w10 54 (by decide)]; exact a54, by rw [mw.2 19 (by decide) (by decide) (by decide)]; exact b19, by rw [mw.2 31 (by decide) (by decide) (by decide)]; exact b31, by rw [mw.2 34 (by decide) (by decide) (by decide)]; exact b34, by rw [w10 61 (by decide)]; exact a61, by rw [w7]; exact a31, by rw [w10 70 (by decide)]; exact a70, ?_, fun id hid => w9 id (hid.ge hX) (hid.lt hT), c4⟩
  unfold CN
  rw [c30]
  exact ⟨f30 4 (by decide), f30 5 (by decide), f30 6 (by decide), f30 7 (by decide)⟩
/-- the reference takes the text -/
theorem m196b (h1 : sm 84 1 = (n : Int)) (hn : n ≤ 8192) : ∃ m2 : Sg, f_196 sm = j_196_66 m2 ∧ (∀ c, c ≠ 84 → c ≠ 86 → m2 c = sm c) ∧ (∀ i, i < n → m2 86 i = sm 85 i) ∧ m2 84 3 = (n : Int) ∧ m2 84 0 = 0 ∧ m2 84 5 = 0 ∧ m2 84 6 = 0 ∧ m2 84 8 = -1 ∧ m2 84 72 = 0 ∧ (∀ j, j ≠ 0 → j ≠ 3 → j ≠ 5 → j ≠ 6 → j ≠ 7 → j ≠ 8 → j ≠ 72 → m2 84 j = sm 84 j) := by
  obtain ⟨m0, hm0⟩ : ∃ s : Sg, s = ax_u2 (ax_u2 (ax_u2 (ax_u2 (ax_u2 (ax_u2 (ax_u2 sm 84 0 0) 84 5 0) 84 6 0) 84 7 0) 84 8 (-1)) 84 72 0) 84 3 (sm 84 1) := ⟨_, rfl⟩
  have r0 : ∀ c, c ≠ 84 → m0 c = sm c := fun c x => by rw [hm0, u2_row _ _ _ x, u2_row _ _ _ x, u2_row _ _ _ x, u2_row _ _ _ x, u2_row _ _ _ x, u2_row _ _ _ x, u2_row _ _ _ x]
  have rj : ∀ j, j ≠ 0 → j ≠ 3 → j ≠ 5 → j ≠ 6 → j ≠ 7 → j ≠ 8 → j ≠ 72 → m0 84 j = sm 84 j := fun j x0 x3 x5 x6 x7 x8 x72 => by rw [hm0, u2_col _ _ _ x3, u2_col _ _ _ x72, u2_col _ _ _ x8, u2_col _ _ _ x7, u2_col _ _ _ x6, u2_col _ _ _ x5, u2_col _ _ _ x0]
  have g1 : m0 84 1 = (n : Int) := by rw [rj 1 (by decide) (by decide) (by decide) (by decide) (by decide) (by decide) (by decide)]; exact h1
  have go : ∀ (r l F : Nat) (z : Sg), l + r = n → (∀ c, c ≠ 86 → z c = m0 c) → (∀ i, i < l → z 86 i = sm 85 i) → ∃ m2 : Sg, j_196_40 (F + r + 1) (l : Int) z = j_196_66 m2 ∧ (∀ c, c ≠ 86 → m2 c = m0 c) ∧ (∀ i, i < n → m2 86 i = sm 85 i) := by
    intro r
    induction r with
    | zero =>
      intro l F z hl p1 p2
      exact ⟨z, by rw [j_196_40, p1 84 (by decide), g1, if_pos (by omega)], p1, fun i hi => p2 i (by omega)⟩
    | succ r ih =>
      intro l F z hl p1 p2
      rw [show F + (r + 1) + 1 = (F + r + 1) + 1 by omega, j_196_40, p1 84 (by decide), g1, if_neg (by omega), gd_pos (by omega), gd_pos (by omega), w32_nat (by omega), Int.toNat_natCast]
      refine ih (l + 1) F _ (by omega) (fun c x => by rw [u2_row _ _ _ x]; exact p1 c x) (fun i hi => ?_)
      by_cases e : i = l
      · rw [e, u2_same, p1 85 (by decide), r0 85 (by decide)]
      · rw [u2_col _ _ _ e]; exact p2 i (by omega)
  obtain ⟨F, hF⟩ := FU_split (k := n + 1) (by omega)
  obtain ⟨m2, e1, e2, e3⟩ := go n 0 F m0 (by omega) (fun _ _ => rfl) (fun i hi => absurd hi (by omega))
  rw [show F + n + 1 = FU by omega] at e1
  refine ⟨m2, ?_, fun c x y => by rw [e2 c y, r0 c x], e3, ?_, ?_, ?_, ?_, ?_, ?_, fun j x0 x3 x5 x6 x7 x8 x72 => by rw [e2 84 (by decide)]; exact rj j x0 x3 x5 x6 x7 x8 x72⟩
  · unfold f_196
    rw [← hm0]
    exact e1
  · rw [e2 84 (by decide), hm0, u2_same]; exact h1
  · rw [e2 84 (by decide), hm0]; simp [ax_u2]
  · rw [e2 84 (by decide), hm0]; simp [ax_u2]
  · rw [e2 84 (by decide), hm0]; simp [ax_u2]
  · rw [e2 84 (by decide), hm0]; simp [ax_u2]
  · rw [e2 84 (by decide), hm0]; simp [ax_u2]
end RDB
