/-! RINGS: the reference measures. -/
def AGr (s0 s : Sg) : Prop := (∀ c, c ≠ 84 → c < 133 ∨ 135 < c → s c = s0 c) ∧ (∀ j, j ≠ 8 → j ≠ 72 → s 84 j = s0 84 j)
section RMS
variable {T : TT} {sc sm s s' : Sg} {n' S P A N K C w a b x k : Nat} {t : Nat → Int}
theorem AGr.tx (h : AGr sm s) (k : TX T sc sm n' t) : TX T sc s n' t := k.mrow (h.2 3 (by decide) (by decide)) (h.1 86 (by decide) (by decide)) (h.1 89 (by decide) (by decide)) (h.1 90 (by decide) (by decide))
theorem AGr.owk (h : AGr sm s) (k : OWK T sm S A) : OWK T s S A := by
  unfold OWK NMD at *
  rw [h.2 19 (by decide) (by decide), h.1 95 (by decide) (by decide), h.1 98 (by decide) (by decide), h.1 99 (by decide) (by decide), h.1 104 (by decide) (by decide), h.1 113 (by decide) (by decide), h.1 106 (by decide) (by decide), h.1 107 (by decide) (by decide)]
  exact k
/-- an edge is a call's node -/
theorem edg_node (h : CKX T sc sm n' t S P A N K C w) (g : GOOD T sc sm S A N w) (n6 : ¬ BD6 T sm S A N) (n7 : ¬ BD7 T sm S A N) {y c : Nat} : EDG T sc sm S y c ↔ ∃ n, n < N ∧ sm 116 n = 3 ∧ sm 123 n = (y : Int) ∧ y < S ∧ sm 94 y = 2 ∧ SO1 T sm S (T.vl (sm 118 n).toNat) c := by
  constructor
  · intro ⟨yS, cS, hd, st, e, q, hl, k1, k2, k3, k4⟩
    obtain ⟨hd', st', e', hl', ca, -⟩ := h.hlp g n6 n7 yS hl.2.2.1
    have eh : hd' = hd := by have := hl.1; have := hl'.1; omega
    subst eh
    have ee : e' = e := hl'.2.2.2.2.2.2.1.uniq hl.2.2.2.2.2.2.1
    subst ee
    obtain ⟨b, m, bS, e36, b94, so, mN, m3, m18, m23⟩ := ca q k1 k2 k3
    have eb : b = c := by omega
    subst eb
    exact ⟨m, mN, m3, m23, yS, hl.2.2.1, by rw [m18, Int.toNat_natCast]; exact so⟩
  · intro ⟨n, nN, n3, n23, yS, y94, so⟩
    obtain ⟨hd, st, e, hl, ca, cb⟩ := h.hlp g n6 n7 yS y94
    obtain ⟨q, q1, q2, q3, q4⟩ := cb n nN n3 n23
    obtain ⟨b, m, bS, e36, b94, so', -⟩ := ca q q2 q3 q4
    rw [q1, Int.toNat_natCast] at so
    rw [so'.uniq so] at e36
    exact ⟨yS, so.1, hd, st, e, q, hl, q2, q3, q4, e36⟩
/-- a call's node -/
theorem call_at (h : CKX T sc sm n' t S P A N K C w) (g : GOOD T sc sm S A N w) (n6 : ¬ BD6 T sm S A N) (n7 : ¬ BD7 T sm S A N) (ha : AGr sm s) {n : Nat} (hn : n < N) (h3 : sm 116 n = 3) : ∃ x y c : Nat, sm 118 n = (x : Int) ∧ x < T.z ∧ sm 123 n = (y : Int) ∧ y < S ∧ f_238 (x : Int) s = some (c : Int) ∧ c < S ∧ SO1 T sm S (T.vl x) c := by
  have ok := h.owk
  obtain ⟨si, b1, b2, -⟩ := h.nod hn
  obtain ⟨i, x, x1, x0, x2, x3, x4, x5⟩ := h.who g n6 n7 hn (by omega)
  obtain ⟨so, -, -⟩ := x4 (x5 (by omega))
  obtain ⟨hT, hX, -⟩ := h
  obtain ⟨r, e1, e2⟩ := m238 hT (ha.tx hX) (ha.owk ok) x2 x3
  have e3 : SOF T sm S (T.vl x) r := by unfold SOF at *; rw [ha.1 95 (by decide) (by decide)] at e2; exact e2
  rcases e3 with ⟨_, e4⟩ | ⟨f, e4, e5, e6, e7⟩
  · exact absurd so.2.1 (e4 i so.1)
  · have : f = i := SO1.uniq ⟨e5, e6, e7⟩ so
    exact ⟨x, si, i, x1, x2, b1, b2, by rw [e1, e4, this], so.1, so⟩
/-- far as it stands before round d -/
def GI (E : Nat → Nat → Prop) (S a d : Nat) (f : Nat → Int) : Prop := f a = 0 ∧ (∀ b, b < S → -1 ≤ f b ∧ f b < (d : Int)) ∧ (∀ b, b < S → 0 ≤ f b → WAY E b a) ∧ (∀ b, b < S → b ≠ a → 0 ≤ f b → ∃ c, c < S ∧ E b c ∧ 0 ≤ f c ∧ f c < f b) ∧ (∀ x c, E x c → 0 ≤ f c → f c + 1 < (d : Int) → 0 ≤ f x)
/-- within round d, up to node m -/
def RI (E : Nat → Nat → Prop) (sm : Sg) (T : TT) (S d : Nat) (f0 f : Nat → Int) (m : Nat) (l2 : Int) : Prop := (∀ b, b < S → f b = f0 b ∨ (f0 b < 0 ∧ f b = (d : Int) ∧ ∃ c, c < S ∧ E b c ∧ f0 c = (d : Int) - 1)) ∧ (∀ n, n < m → sm 116 n = 3 → ∀ x c : Nat, sm 123 n = (x : Int) → sm 94 x = 2 → SO1 T sm S (T.vl (sm 118 n).toNat) c → f0 c = (d : Int) - 1 → 0 ≤ f x) ∧ ((l2 = 0 ∧ ∀ b, b < S → f b = f0 b) ∨ (l2 = 1 ∧ ∃ b, b < S ∧ f0 b < 0 ∧ 0 ≤ f b))
theorem m244i (h : CKX T sc sm n' t S P A N K C w) (g : GOOD T sc sm S A N w) (n6 : ¬ BD6 T sm S A N) (n7 : ¬ BD7 T sm S A N) {d : Nat} (hd1 : 1 ≤ d) (hd8 : d ≤ 5000) {f0 : Nat → Int} (hf0 : ∀ b, b < S → -1 ≤ f0 b ∧ f0 b < (d : Int)) (k36 : Int → Int → Sg → Option Sg) :
    ∀ (r m F : Nat) (l2 : Int) (s : Sg), m + r = N → AGr sm s → RI (EDG T sc sm S) sm T S d f0 (s 133) m l2 → ∃ (l2' : Int) (s' : Sg), j_244_45 k36 (F + r + 1) l2 (d : Int) (m : Int) s = k36 l2' ((d + 1 : Nat) : Int) s' ∧ AGr sm s' ∧ RI (EDG T sc sm S) sm T S d f0 (s' 133) N l2' ∧ (∀ c, c ≠ 133 → s' c = s c) := by
  have hN := h.2.2.2.2.1
  have S8 := h.2.2.2.2.2.2.2.2.2.2.2.1
  have N8 := h.2.2.2.2.2.2.2.2.2.2.2.2.2.2
  intro r
  induction r with
  | zero =>
    intro m F l2 s hm ha ri
    rw [show m = N by omega] at ri ⊢
    refine ⟨l2, s, ?_, ha, ri, fun _ _ => rfl⟩
    rw [j_244_45, ha.2 47 (by decide) (by decide), hN.2.1, if_pos (by omega)]
    unfold j_244_139
    rw [w32_nat (by omega)]
  | succ r ih =>
    intro m F l2 s hm ha ri
    have rr : ∀ c, c ≠ 84 → c < 133 → s c = sm c := fun c u v => ha.1 c u (Or.inl v)
    obtain ⟨r1, r2, r3⟩ := ri
    have k133 : ∀ (v : Int) (z : Sg), j_244_133 k36 (j_244_45 k36 (F + r + 1)) v (d : Int) (m : Int) z = j_244_45 k36 (F + r + 1) v (d : Int) ((m + 1 : Nat) : Int) z := fun v z => by
      unfold j_244_133
      rw [w32_nat (by omega)]
    have skip : (sm 116 m = 3 → ∀ x c : Nat, sm 123 m = (x : Int) → sm 94 x = 2 → SO1 T sm S (T.vl (sm 118 m).toNat) c → f0 c = (d : Int) - 1 → 0 ≤ s 133 x) → ∃ (l2' : Int) (s' : Sg), j_244_45 k36 (F + r + 1) l2 (d : Int) ((m + 1 : Nat) : Int) s = k36 l2' ((d + 1 : Nat) : Int) s' ∧ AGr sm s' ∧ RI (EDG T sc sm S) sm T S d f0 (s' 133) N l2' ∧ (∀ c, c ≠ 133 → s' c = s c) := fun hno => ih (m + 1) F l2 s (by omega) ha ⟨r1, fun n hn h3 x c e1 e2 e3 e4 => by
      by_cases e : n = m
      · subst e; exact hno h3 x c e1 e2 e3 e4
      · exact r2 n (by omega) h3 x c e1 e2 e3 e4, r3⟩
    rw [show F + (r + 1) + 1 = (F + r + 1) + 1 by omega, j_244_45, ha.2 47 (by decide) (by decide), hN.2.1, if_neg (by omega), gd_pos (by omega), Int.toNat_natCast, rr 116 (by decide) (by decide)]
    by_cases c3 : sm 116 m = 3
    · obtain ⟨x, y, c, x1, x2, y1, y2, e238, cS, so⟩ := call_at h g n6 n7 ha (n := m) (by omega) c3
      rw [if_neg (fun e => e c3), gd_pos (by omega), rr 123 (by decide) (by decide), y1, gd_pos (by omega), Int.toNat_natCast, rr 94 (by decide) (by decide)]
      by_cases c2 : sm 94 y = 2
      · rw [if_neg (fun e => e c2), gd_pos (by omega), gd_pos (by omega)]
        by_cases cf : 0 ≤ s 133 y
        · rw [if_pos cf, k133]
          exact skip (fun _ x' c' e1 _ _ _ => by
            have : x' = y := by omega
            rw [this]; exact cf)
        · rw [if_neg cf, gd_pos (by omega), rr 118 (by decide) (by decide), x1, e238, Option.bind_some, gd_pos (by omega), Int.toNat_natCast, w32_id (z := (d : Int) - 1) (by omega) (by omega)]
          have fc : s 133 c = (d : Int) - 1 ↔ f0 c = (d : Int) - 1 := by
            rcases r1 c cS with e | ⟨e1, e2, _⟩
            · rw [e]
            · omega
          by_cases ce : s 133 c = (d : Int) - 1
          · have ed : EDG T sc sm S y c := (edg_node h g n6 n7).mpr ⟨m, by omega, c3, y1, y2, c2, by rw [x1, Int.toNat_natCast]; exact so⟩
            have f0y : f0 y < 0 := by
              rcases r1 y y2 with e | ⟨e1, _⟩
              · rw [e] at cf; omega
              · exact e1
            rw [if_neg (fun e => e ce), gd_pos (by omega), gd_pos (by omega), k133]
            have v133 : (ax_u2 s 133 y (d : Int)) 133 y = (d : Int) := u2_same _ _ _ _
            have v133' : ∀ z, z ≠ y → (ax_u2 s 133 y (d : Int)) 133 z = s 133 z := fun z u => u2_col _ _ _ u
            obtain ⟨l2', s', z1, z2, z3, z4⟩ := ih (m + 1) F 1 (ax_u2 s 133 y (d : Int)) (by omega) ⟨fun c u v => by rw [u2_row _ _ _ (by omega)]; exact ha.1 c u v, fun j u v => by rw [u2_row _ _ _ (by decide)]; exact ha.2 j u v⟩ ⟨fun b hb => by
              by_cases e : b = y
              · rw [e, v133]
                exact Or.inr ⟨f0y, rfl, c, cS, ed, fc.mp ce⟩
              · rw [v133' b e]; exact r1 b hb, fun n hn h3 x' c' e1 e2 e3 e4 => by
              by_cases e : x' = y
              · rw [e, v133]; omega
              · rw [v133' x' e]
                by_cases en : n = m
                · rw [en, y1] at e1; omega
                · exact r2 n (by omega) h3 x' c' e1 e2 e3 e4, Or.inr ⟨rfl, y, y2, f0y, by rw [v133]; omega⟩⟩
            exact ⟨l2', s', z1, z2, z3, fun c u => by rw [z4 c u, u2_row _ _ _ u]⟩
          · rw [if_pos ce, k133]
            exact skip (fun _ x' c' e1 e2 e3 e4 => by
              rw [x1, Int.toNat_natCast] at e3
              rw [e3.uniq so] at e4
              exact absurd (fc.mpr e4) ce)
      · rw [if_pos c2, k133]
        exact skip (fun _ x' c' e1 e2 _ _ => by
          have : x' = y := by omega
          rw [this] at e2
          exact absurd e2 c2)
    · rw [if_pos c3, k133]
      exact skip (fun u => absurd u c3)
/-- how far all are from a, by calls -/
theorem m244 (h : CKX T sc sm n' t S P A N K C w) (g : GOOD T sc sm S A N w) (n6 : ¬ BD6 T sm S A N) (n7 : ¬ BD7 T sm S A N) (ha : AGr sm s) (aS : a < S) : ∃ s' : Sg, f_244 (a : Int) s = some s' ∧ AGr sm s' ∧ (∀ c, c ≠ 133 → s' c = s c) ∧ (∀ b, b < S → (0 ≤ s' 133 b ↔ WAY (EDG T sc sm S) b a)) ∧ s' 133 a = 0 ∧ (∀ b, b < S → s' 133 b ≤ (S : Int)) ∧ (∀ b, b < S → b ≠ a → 0 ≤ s' 133 b → ∃ c, c < S ∧ EDG T sc sm S b c ∧ 0 ≤ s' 133 c ∧ s' 133 c < s' 133 b) := by
  have S8 := h.2.2.2.2.2.2.2.2.2.2.2.1
  have h19 := h.2.2.2.2.2.1
  have N8 := h.2.2.2.2.2.2.2.2.2.2.2.2.2.2
  have enode := fun y c => edg_node h g n6 n7 (y := y) (c := c)
  have ini : ∀ (r l F : Nat) (s1 : Sg), l + r = S → AGr sm s1 → (∀ c, c ≠ 133 → s1 c = s c) → (∀ b, b < l → s1 133 b = (if b = a then 0 else -1)) → ∃ s' : Sg, j_244_2 (F + r + 1) (a : Int) (l : Int) s1 = j_244_32 s' ∧ AGr sm s' ∧ (∀ c, c ≠ 133 → s' c = s c) ∧ (∀ b, b < S → s' 133 b = (if b = a then 0 else -1)) := by
    intro r
    induction r with
    | zero =>
      intro l F s1 hl q1 q2 q3
      exact ⟨s1, by rw [j_244_2, q1.2 19 (by decide) (by decide), h19, if_pos (by omega)], q1, q2, fun b hb => q3 b (by omega)⟩
    | succ r ih =>
      intro l F s1 hl q1 q2 q3
      rw [show F + (r + 1) + 1 = (F + r + 1) + 1 by omega, j_244_2, q1.2 19 (by decide) (by decide), h19, if_neg (by omega), gd_pos (by omega), w32_nat (by omega), Int.toNat_natCast]
      refine ih (l + 1) F _ (by omega) ⟨fun c u v => by rw [u2_row _ _ _ (by omega)]; exact q1.1 c u v, fun j u v => by rw [u2_row _ _ _ (by decide)]; exact q1.2 j u v⟩ (fun c u => by rw [u2_row _ _ _ u]; exact q2 c u) (fun b hb => ?_)
      by_cases e : b = l
      · rw [e, u2_same]
        by_cases e2 : l = a
        · rw [if_pos e2, if_neg (fun u => u (by omega))]
        · rw [if_neg e2, if_pos (by omega)]
      · rw [u2_col _ _ _ e]; exact q3 b (by omega)
  obtain ⟨F, hF⟩ := FU_split (k := S + 3) (by omega)
  obtain ⟨s1, e1, ag1, fr1, v1⟩ := ini S 0 (F + 2) s (by omega) ha (fun _ _ => rfl) (fun b hb => absurd hb (by omega))
  rw [show F + 2 + S + 1 = FU by omega] at e1
  have gi1 : GI (EDG T sc sm S) S a 1 (s1 133) := by
    refine ⟨by rw [v1 a aS, if_pos rfl], fun b hb => ?_, fun b hb u => ?_, fun b hb u v => ?_, fun x c ed u v => by omega⟩
    · rw [v1 b hb]
      split <;> omega
    · rw [v1 b hb] at u
      by_cases e : b = a
      · rw [e]; exact WAY.refl a
      · rw [if_neg e] at u; omega
    · rw [v1 b hb, if_neg u] at v
      omega
  -- rounds
  have rnd : ∀ (q d G : Nat) (s2 : Sg), S ≤ cnt (fun b => 0 ≤ s2 133 b) S + q → 1 ≤ d → d ≤ cnt (fun b => 0 ≤ s2 133 b) S → AGr sm s2 → GI (EDG T sc sm S) S a d (s2 133) → ∃ (s' : Sg) (d' : Nat), j_244_36 (G + q + 2) 1 (d : Int) s2 = some s' ∧ AGr sm s' ∧ (∀ c, c ≠ 133 → s' c = s2 c) ∧ GI (EDG T sc sm S) S a d' (s' 133) ∧ (∀ b, b < S → s' 133 b + 1 < (d' : Int)) ∧ d' ≤ S + 1 := by
    intro q
    induction q with
    | zero =>
      intro d G s2 hc hd1 hd2 ag gi
      have dS := cnt_le (p := fun b => 0 ≤ s2 133 b) S
      obtain ⟨H, hH⟩ := FU_split (k := N + 1) (by omega)
      obtain ⟨l2', s', z1, z2, z3, z4⟩ := m244i h g n6 n7 hd1 (by omega) gi.2.1 (j_244_36 (G + 1)) N 0 H 0 s2 (by omega) ag ⟨fun b hb => Or.inl rfl, fun n hn => absurd hn (by omega), Or.inl ⟨rfl, fun b _ => rfl⟩⟩
      rw [show H + N + 1 = FU by omega] at z1
      have z1' : j_244_45 (j_244_36 (G + 1)) FU 0 (d : Int) 0 s2 = _ := z1
      obtain ⟨t1, t2, t3⟩ := z3
      have all : ∀ b, b < S → 0 ≤ s2 133 b := cnt_all S (by omega)
      rcases t3 with ⟨u1, u2⟩ | ⟨_, b, u1, u2, _⟩
      · refine ⟨s', d + 1, ?_, z2, z4, ?_, fun b hb => ?_, by omega⟩
        · rw [show G + 0 + 2 = (G + 1) + 1 by omega, j_244_36, if_neg (by decide), z1', j_244_36, if_pos u1]
        · obtain ⟨g1, g2, g3, g4, g5⟩ := gi
          refine ⟨by rw [u2 a aS]; exact g1, fun b hb => by rw [u2 b hb]; have := g2 b hb; omega, fun b hb v => by rw [u2 b hb] at v; exact g3 b hb v, fun b hb v1 v2 => ?_, fun x c ed v1 v2 => ?_⟩
          · rw [u2 b hb] at v2 ⊢
            obtain ⟨c, c1, c2, c3, c4⟩ := g4 b hb v1 v2
            exact ⟨c, c1, c2, by rw [u2 c c1]; exact c3, by rw [u2 c c1]; exact c4⟩
          · rw [u2 x ed.1]
            exact all x ed.1
        · rw [u2 b hb]
          have := (gi.2.1 b hb).2
          omega
      · exact absurd (all b u1) (by omega)
    | succ q ih =>
      intro d G s2 hc hd1 hd2 ag gi
      have dS := cnt_le (p := fun b => 0 ≤ s2 133 b) S
      obtain ⟨H, hH⟩ := FU_split (k := N + 1) (by omega)
      obtain ⟨l2', s', z1, z2, z3, z4⟩ := m244i h g n6 n7 hd1 (by omega) gi.2.1 (j_244_36 (G + q + 2)) N 0 H 0 s2 (by omega) ag ⟨fun b hb => Or.inl rfl, fun n hn => absurd hn (by omega), Or.inl ⟨rfl, fun b _ => rfl⟩⟩
      rw [show H + N + 1 = FU by omega] at z1
      have z1' : j_244_45 (j_244_36 (G + q + 2)) FU 0 (d : Int) 0 s2 = _ := z1
      obtain ⟨t1, t2, t3⟩ := z3
      obtain ⟨g1, g2, g3, g4, g5⟩ := id gi
      have keep : ∀ b, b < S → 0 ≤ s2 133 b → s' 133 b = s2 133 b := fun b hb v => by
        rcases t1 b hb with e | ⟨e, _⟩
        · exact e
        · omega
      have gi' : GI (EDG T sc sm S) S a (d + 1) (s' 133) := by
        refine ⟨by rw [keep a aS (by omega)]; exact g1, fun b hb => ?_, fun b hb v => ?_, fun b hb v1 v2 => ?_, fun x c ed v1 v2 => ?_⟩
        · have := g2 b hb
          rcases t1 b hb with e | ⟨_, e, _⟩
          · rw [e]; omega
          · rw [e]; omega
        · rcases t1 b hb with e | ⟨_, _, c, c1, c2, c3⟩
          · rw [e] at v; exact g3 b hb v
          · exact WAY.step c2 (g3 c c1 (by omega))
        · rcases t1 b hb with e | ⟨_, e, c, c1, c2, c3⟩
          · rw [e] at v2 ⊢
            obtain ⟨c, c1, c2, c3, c4⟩ := g4 b hb v1 v2
            exact ⟨c, c1, c2, by rw [keep c c1 c3]; exact c3, by rw [keep c c1 c3]; exact c4⟩
          · refine ⟨c, c1, c2, ?_, ?_⟩
            · rw [keep c c1 (by omega)]; omega
            · rw [keep c c1 (by omega), e]; omega
        · have fc : s' 133 c = s2 133 c := by
            rcases t1 c ed.2.1 with e | ⟨_, e, _⟩
            · exact e
            · omega
          rw [fc] at v1 v2
          by_cases e : s2 133 c + 1 < (d : Int)
          · rw [keep x ed.1 (g5 x c ed v1 e)]
            exact g5 x c ed v1 e
          · obtain ⟨n, nN, n3, n23, _, n94, so⟩ := (enode x c).mp ed
            exact t2 n nN n3 x c n23 n94 so (by omega)
      rcases t3 with ⟨u1, u2⟩ | ⟨u1, b, u2, u3, u4⟩
      · refine ⟨s', d + 1, ?_, z2, z4, gi', fun b hb => ?_, by omega⟩
        · rw [show G + (q + 1) + 2 = (G + q + 2) + 1 by omega, j_244_36, if_neg (by decide), z1', show G + q + 2 = (G + q + 1) + 1 by omega, j_244_36, if_pos u1]
        · rw [u2 b hb]
          have := (g2 b hb).2
          omega
      · have cgt : cnt (fun b => 0 ≤ s2 133 b) S + 1 ≤ cnt (fun b => 0 ≤ s' 133 b) S := by
          have key : ∀ m, m ≤ S → cnt (fun b => 0 ≤ s2 133 b) m + (if b < m then 1 else 0) ≤ cnt (fun b => 0 ≤ s' 133 b) m := by
            intro m
            induction m with
            | zero => intro _; rw [if_neg (by omega)]; exact Nat.le_refl _
            | succ m ihm =>
              intro hm
              have i1 := ihm (by omega)
              by_cases e : m = b
              · subst e
                rw [cnt_n (p := fun b => 0 ≤ s2 133 b) (by omega), cnt_y (p := fun b => 0 ≤ s' 133 b) u4, if_pos (by omega)]
                rw [if_neg (by omega)] at i1
                omega
              · by_cases c : 0 ≤ s2 133 m
                · rw [cnt_y (p := fun b => 0 ≤ s2 133 b) c, cnt_y (p := fun b => 0 ≤ s' 133 b) (by show 0 ≤ s' 133 m; rw [keep m (by omega) c]; exact c)]
                  by_cases l : b < m
                  · rw [if_pos l] at i1; rw [if_pos (by omega)]; omega
                  · rw [if_neg l] at i1; rw [if_neg (by omega)]; omega
                · rw [cnt_n (p := fun b => 0 ≤ s2 133 b) c]
                  have up : cnt (fun b => 0 ≤ s' 133 b) m ≤ cnt (fun b => 0 ≤ s' 133 b) (m + 1) := by
                    by_cases c' : 0 ≤ s' 133 m
                    · rw [cnt_y (p := fun b => 0 ≤ s' 133 b) c']; omega
                    · rw [cnt_n (p := fun b => 0 ≤ s' 133 b) c']; exact Nat.le_refl _
                  by_cases l : b < m
                  · rw [if_pos l] at i1; rw [if_pos (by omega)]; omega
                  · rw [if_neg l] at i1; rw [if_neg (by omega)]; omega
          have := key S (Nat.le_refl _)
          rw [if_pos u2] at this
          exact this
        obtain ⟨s3, d3, y1, y2, y3, y4, y5, y6⟩ := ih (d + 1) G s' (by omega) (by omega) (by omega) z2 gi'
        refine ⟨s3, d3, ?_, y2, fun c u => by rw [y3 c u, z4 c u], y4, y5, y6⟩
        rw [show G + (q + 1) + 2 = (G + q + 2) + 1 by omega, j_244_36, if_neg (by decide), z1', u1, y1]
  have c1 : 1 ≤ cnt (fun b => 0 ≤ s1 133 b) S := by
    apply Decidable.byContradiction
    intro hn
    exact cnt_0 S (p := fun b => 0 ≤ s1 133 b) (by omega) a aS (by show 0 ≤ s1 133 a; rw [v1 a aS, if_pos rfl]; decide)
  obtain ⟨s', d', y1, y2, y3, ⟨k1, k2, k3, k4, k5⟩, y5, y6⟩ := rnd S 1 (F + 1) s1 (by omega) (Nat.le_refl _) c1 ag1 gi1
  rw [show F + 1 + S + 2 = FU by omega] at y1
  refine ⟨s', ?_, y2, fun c u => by rw [y3 c u, fr1 c u], fun b hb => ⟨k3 b hb, fun u => ?_⟩, k1, fun b hb => by have := y5 b hb; omega, k4⟩
  · unfold f_244
    have e1' : j_244_2 FU (a : Int) 0 s = _ := e1
    rw [e1']
    exact y1
  · have := WAY.clos (P := fun x => x < S → 0 ≤ s' 133 x) u (fun _ => by rw [k1]; decide) (fun x z ed hz _ => k5 x z ed (hz ed.2.1) (y5 z ed.2.1))
    exact this hb
end RMS
