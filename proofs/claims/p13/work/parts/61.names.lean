/-! THE TABLE OF NAMES. -/
theorem php : ∀ (n m : Nat) (f : Nat → Nat), (∀ i, i < n → f i < m) → (∀ i j, i < n → j < n → f i = f j → i = j) → n ≤ m := by
  intro n
  induction n with
  | zero => intro m f _ _; omega
  | succ n ih =>
    intro m f h1 h2
    have h3 := h1 n (by omega)
    obtain ⟨m, rfl⟩ : ∃ k, m = k + 1 := ⟨m - 1, by omega⟩
    have h4 := ih m (fun i => if f i = m then f n else f i) (fun i hi => by
      have a := h1 i (by omega)
      show (if f i = m then f n else f i) < m
      split
      · rename_i e
        have : f n ≠ m := fun e2 => by
          have := h2 i n (by omega) (by omega) (by omega)
          omega
        omega
      · omega) (fun i j hi hj e => by
      have e' : (if f i = m then f n else f i) = (if f j = m then f n else f j) := e
      split at e'
      · split at e'
        · exact h2 i j (by omega) (by omega) (by omega)
        · have := h2 n j (by omega) (by omega) e'
          omega
      · split at e'
        · have := h2 i n (by omega) (by omega) e'
          omega
        · exact h2 i j (by omega) (by omega) e')
    omega
def hsh (hi lo : Int) : Int := ax_iand (ax_w32 (ax_lushr (ax_w64 ((ax_w64 ((ax_w64 (hi * 31)) + lo)) * (-7046029254386353131))) 51)) 8191
def hs (hi lo : Int) : Nat := (hsh hi lo).toNat
theorem hs_eq (hi lo : Int) : hsh hi lo = ((hs hi lo : Nat) : Int) := by
  unfold hs
  rw [Int.toNat_of_nonneg]
  unfold hsh
  rw [iand8191]
  exact Int.emod_nonneg _ (by decide)
theorem hs_lt (hi lo : Int) : hs hi lo < 8192 := by
  have h := hs_eq hi lo
  have : hsh hi lo < 8192 := by
    unfold hsh
    rw [iand8191]
    exact Int.emod_lt_of_pos _ (by decide)
  omega
def pb (h e : Nat) : Nat := (h + e) % 8192
theorem pb_lt (h e : Nat) : pb h e < 8192 := Nat.mod_lt _ (by decide)
theorem pb_next {h e : Nat} : ax_iand (ax_w32 (((pb h e : Nat) : Int) + 1)) 8191 = ((pb h (e + 1) : Nat) : Int) := by
  have h1 := pb_lt h e
  rw [w32_id (by omega) (by omega), iand8191]
  unfold pb at *
  omega
theorem pb_inj {h e e' : Nat} (he : e < 8192) (he' : e' < 8192) (q : pb h e = pb h e') : e = e' := by
  unfold pb at q
  omega
/-- the table holds m names -/
def NI (s : Sg) (m : Nat) : Prop :=
  s 31 7 = (m : Int) ∧ m ≤ 4112 ∧
  (∀ q : Nat, q < 8192 → 0 ≤ s 32 q ∧ s 32 q ≤ (m : Int)) ∧
  (∀ k, k < m → ∃ q : Nat, q < 8192 ∧ s 33 k = (q : Int) ∧ s 32 q = (k : Int) + 1) ∧
  (∀ q : Nat, q < 8192 → s 32 q ≠ 0 → s 33 ((s 32 q) - 1).toNat = (q : Int)) ∧
  (∀ k, k < m → ∃ d, d < 8192 ∧ s 33 k = ((pb (hs (s 34 k) (s 35 k)) d : Nat) : Int) ∧ ∀ e, e < d → 1 ≤ s 32 (pb (hs (s 34 k) (s 35 k)) e) ∧ s 32 (pb (hs (s 34 k) (s 35 k)) e) ≤ (k : Int)) ∧
  (∀ k l, k < m → l < m → s 34 k = s 34 l → s 35 k = s 35 l → k = l)
/-- what a new name changes -/
def NNew (s s' : Sg) (m : Nat) (hi lo : Int) : Prop :=
  NI s' (m + 1) ∧ (∀ k, k < m → s' 34 k = s 34 k ∧ s' 35 k = s 35 k ∧ s' 36 k = s 36 k ∧ s' 37 k = s 37 k) ∧ s' 34 m = hi ∧ s' 35 m = lo ∧ s' 36 m = -1 ∧ s' 37 m = 0 ∧
  (∀ j, j ≠ 7 → s' 31 j = s 31 j) ∧ (∀ a, a < 31 ∨ 37 < a → s' a = s a)
theorem NI.free {s : Sg} {m : Nat} (h : NI s m) (g : Nat) (hm : ∀ e, e < 8192 → s 32 (pb g e) ≠ 0) : False := by
  obtain ⟨h1, h2, h3, h4, h5, h6, h7⟩ := h
  have := php 8192 m (fun e => (s 32 (pb g e) - 1).toNat) (fun e he => by
    have a := h3 (pb g e) (pb_lt g e)
    have b := hm e he
    show (s 32 (pb g e) - 1).toNat < m
    omega) (fun e e' he he' q => by
    have q' : (s 32 (pb g e) - 1).toNat = (s 32 (pb g e') - 1).toNat := q
    have a := h5 (pb g e) (pb_lt g e) (hm e he)
    have b := h5 (pb g e') (pb_lt g e') (hm e' he')
    rw [q', b] at a
    exact pb_inj (h := g) he he' (by omega))
  omega
theorem added_ok {s : Sg} {m : Nat} (h : NI s m) (hm : m < 4112) (hi lo : Int) (e : Nat) (he : e < 8192) (h0 : s 32 (pb (hs hi lo) e) = 0)
    (hv : ∀ e', e' < e → 1 ≤ s 32 (pb (hs hi lo) e') ∧ ¬ (s 34 (s 32 (pb (hs hi lo) e') - 1).toNat = hi ∧ s 35 (s 32 (pb (hs hi lo) e') - 1).toNat = lo)) :
    g_111 hi lo ((pb (hs hi lo) e : Nat) : Int) s ∧ (f_111 hi lo ((pb (hs hi lo) e : Nat) : Int) s).1 = (m : Int) ∧ NNew s (f_111 hi lo ((pb (hs hi lo) e : Nat) : Int) s).2 m hi lo ∧ (∀ k, k < m → ¬ (s 34 k = hi ∧ s 35 k = lo)) := by
  have hp := pb_lt (hs hi lo) e
  generalize hgp : pb (hs hi lo) e = p at *
  obtain ⟨h1, h2, h3, h4, h5, h6, h7⟩ := id h
  have no : ∀ k, k < m → ¬ (s 34 k = hi ∧ s 35 k = lo) := by
    intro k hk ⟨e1, e2⟩
    obtain ⟨d, hd, a, b⟩ := h6 k hk
    rw [e1, e2] at a b
    obtain ⟨q, hq, a2, b2⟩ := h4 k hk
    have hqd : q = pb (hs hi lo) d := by omega
    by_cases c : d < e
    · have := (hv d c).2
      rw [← hqd, b2] at this
      exact this ⟨by rw [show ((k : Int) + 1 - 1).toNat = k by omega]; exact e1, by rw [show ((k : Int) + 1 - 1).toNat = k by omega]; exact e2⟩
    · by_cases c2 : d = e
      · subst c2
        rw [hqd, hgp] at b2
        omega
      · have := (b e (by omega)).1
        rw [hgp] at this
        omega
  have t7 : (s 31 7).toNat = m := by omega
  have w1 : ax_w32 (s 31 7 + 1) = (m : Int) + 1 := by rw [h1, w32_id (by omega) (by omega)]
  have w2 : ax_w32 ((m : Int) + 1 - 1) = (m : Int) := by rw [w32_id (by omega) (by omega)]; omega
  refine ⟨?_, ?_, ?_, no⟩
  · unfold g_111
    refine ⟨fun _ => trivial, fun _ => ⟨fun _ => trivial, fun _ => ⟨fun _ => ?_, fun _ => trivial⟩⟩⟩
    have : 0 ≤ s 31 7 ∧ s 31 7 < 4112 := by omega
    exact ⟨this, this, this, this, this, ⟨by omega, by omega⟩, trivial⟩
  · unfold f_111
    rw [if_neg (by omega), if_neg (by omega), if_pos (by omega), w1]
    exact w2
  · have ef : (f_111 hi lo ((p : Nat) : Int) s).2 = (ax_u2 (ax_u2 (ax_u2 (ax_u2 (ax_u2 (ax_u2 (ax_u2 s 33 m p) 34 m hi) 35 m lo) 36 m (-1)) 37 m 0) 31 7 ((m : Int) + 1)) 32 p ((m : Int) + 1)) := by
      unfold f_111
      rw [if_neg (by omega), if_neg (by omega), if_pos (by omega), w1, t7, Int.toNat_natCast]
    rw [ef]
    generalize hs' : (ax_u2 (ax_u2 (ax_u2 (ax_u2 (ax_u2 (ax_u2 (ax_u2 s 33 m p) 34 m hi) 35 m lo) 36 m (-1)) 37 m 0) 31 7 ((m : Int) + 1)) 32 p ((m : Int) + 1)) = s'
    have r32 : ∀ q, s' 32 q = if q = p then (m : Int) + 1 else s 32 q := by intro q; rw [← hs']; simp [ax_u2]
    have r33 : ∀ q, s' 33 q = if q = m then (p : Int) else s 33 q := by intro q; rw [← hs']; simp [ax_u2]
    have r34 : ∀ q, s' 34 q = if q = m then hi else s 34 q := by intro q; rw [← hs']; simp [ax_u2]
    have r35 : ∀ q, s' 35 q = if q = m then lo else s 35 q := by intro q; rw [← hs']; simp [ax_u2]
    have r36 : ∀ q, s' 36 q = if q = m then -1 else s 36 q := by intro q; rw [← hs']; simp [ax_u2]
    have r37 : ∀ q, s' 37 q = if q = m then 0 else s 37 q := by intro q; rw [← hs']; simp [ax_u2]
    have r31 : ∀ q, s' 31 q = if q = 7 then (m : Int) + 1 else s 31 q := by intro q; rw [← hs']; simp [ax_u2]
    refine ⟨⟨?_, by omega, ?_, ?_, ?_, ?_, ?_⟩, ?_, ?_, ?_, ?_, ?_, ?_, ?_⟩
    · rw [r31, if_pos rfl]; omega
    · intro q hq
      rw [r32]
      have := h3 q hq
      split <;> omega
    · intro k hk
      by_cases c : k = m
      · subst c
        exact ⟨p, hp, by rw [r33, if_pos rfl], by rw [r32, if_pos rfl]⟩
      · obtain ⟨q, hq, a, b⟩ := h4 k (by omega)
        exact ⟨q, hq, by rw [r33, if_neg c]; exact a, by rw [r32, if_neg (fun e => by rw [e] at b; omega)]; exact b⟩
    · intro q hq hz
      rw [r32] at hz ⊢
      by_cases c : q = p
      · rw [if_pos c, r33, if_pos (by omega), c]
      · rw [if_neg c] at hz ⊢
        have := h3 q hq
        rw [r33, if_neg (by omega)]
        exact h5 q hq hz
    · intro k hk
      by_cases c : k = m
      · subst c
        refine ⟨e, he, ?_, ?_⟩
        · rw [r33, r34, r35, if_pos rfl, if_pos rfl, if_pos rfl, hgp]
        · intro e' he'
          have a := hv e' he'
          have b := h3 (pb (hs hi lo) e') (pb_lt _ _)
          rw [r34, r35, if_pos rfl, if_pos rfl, r32, if_neg (fun x => by rw [x] at a; omega)]
          omega
      · obtain ⟨d, hd, a, b⟩ := h6 k (by omega)
        refine ⟨d, hd, ?_, ?_⟩
        · rw [r33, r34, r35, if_neg c, if_neg c, if_neg c]
          exact a
        · intro e' he'
          have b1 := b e' he'
          rw [r34, r35, if_neg c, if_neg c, r32, if_neg (fun x => by rw [x] at b1; omega)]
          exact b1
    · intro k l hk hl e1 e2
      rw [r34, r34] at e1
      rw [r35, r35] at e2
      by_cases c : k = m
      · by_cases c2 : l = m
        · omega
        · rw [if_pos c, if_neg c2] at e1 e2
          exact absurd ⟨e1.symm, e2.symm⟩ (no l (by omega))
      · by_cases c2 : l = m
        · rw [if_neg c, if_pos c2] at e1 e2
          exact absurd ⟨e1, e2⟩ (no k (by omega))
        · rw [if_neg c, if_neg c2] at e1 e2
          exact h7 k l (by omega) (by omega) e1 e2
    · intro k hk
      rw [r34, r35, r36, r37, if_neg (by omega), if_neg (by omega), if_neg (by omega), if_neg (by omega)]
      exact ⟨rfl, rfl, rfl, rfl⟩
    · rw [r34, if_pos rfl]
    · rw [r35, if_pos rfl]
    · rw [r36, if_pos rfl]
    · rw [r37, if_pos rfl]
    · intro j hj
      rw [r31, if_neg hj]
    · intro a ha
      rw [← hs']
      funext j
      simp only [ax_u2]
      rw [if_neg (by omega), if_neg (by omega), if_neg (by omega), if_neg (by omega), if_neg (by omega), if_neg (by omega), if_neg (by omega)]
theorem idOf_l {s : Sg} {m : Nat} (h : NI s m) (hm : m < 4112) (hi lo : Int) : ∀ (r e F : Nat), e + r = 8192 →
    (∀ e', e' < e → 1 ≤ s 32 (pb (hs hi lo) e') ∧ ¬ (s 34 (s 32 (pb (hs hi lo) e') - 1).toNat = hi ∧ s 35 (s 32 (pb (hs hi lo) e') - 1).toNat = lo)) →
    (∃ k, k < m ∧ s 34 k = hi ∧ s 35 k = lo ∧ j_107_24 (F + r + 1) hi lo ((pb (hs hi lo) e : Nat) : Int) (e : Int) s = some ((k : Int), s)) ∨
    (∃ s', NNew s s' m hi lo ∧ (∀ k, k < m → ¬ (s 34 k = hi ∧ s 35 k = lo)) ∧ j_107_24 (F + r + 1) hi lo ((pb (hs hi lo) e : Nat) : Int) (e : Int) s = some ((m : Int), s')) := by
  intro r
  induction r with
  | zero =>
    intro e F he hv
    exact absurd h (fun h => h.free (hs hi lo) (fun e' he' => by have := (hv e' (by omega)).1; omega))
  | succ r ih =>
    intro e F he hv
    have hp := pb_lt (hs hi lo) e
    obtain ⟨h1, h2, h3, h4, h5, h6, h7⟩ := id h
    have a3 := h3 _ hp
    rw [j_107_24, if_neg (by omega), gd_pos (by omega), Int.toNat_natCast]
    by_cases c : s 32 (pb (hs hi lo) e) = 0
    · obtain ⟨g, f1, f2, f3⟩ := added_ok h hm hi lo e (by omega) c hv
      refine Or.inr ⟨_, f2, f3, ?_⟩
      rw [if_neg (by rw [c, w32_id (by omega) (by omega)]; omega)]
      unfold j_107_48
      rw [gd_pos g]
      show some ((f_111 hi lo _ s).1, _) = _
      rw [f1]
    · have w : ax_w32 (s 32 (pb (hs hi lo) e) - 1) = s 32 (pb (hs hi lo) e) - 1 := w32_id (by omega) (by omega)
      rw [w, if_pos (by omega), if_neg (by omega), gd_pos (by omega), gd_pos (by omega)]
      have nx : ¬ (s 34 (s 32 (pb (hs hi lo) e) - 1).toNat = hi ∧ s 35 (s 32 (pb (hs hi lo) e) - 1).toNat = lo) → (∃ k, k < m ∧ s 34 k = hi ∧ s 35 k = lo ∧ j_107_93 (j_107_24 (F + (r + 1))) hi lo ((pb (hs hi lo) e : Nat) : Int) (e : Int) s = some ((k : Int), s)) ∨
    (∃ s', NNew s s' m hi lo ∧ (∀ k, k < m → ¬ (s 34 k = hi ∧ s 35 k = lo)) ∧ j_107_93 (j_107_24 (F + (r + 1))) hi lo ((pb (hs hi lo) e : Nat) : Int) (e : Int) s = some ((m : Int), s')) := by
        intro d
        unfold j_107_93
        rw [pb_next, w32_nat (by omega), show F + (r + 1) = F + r + 1 by omega]
        refine ih (e + 1) F (by omega) (fun e' he' => ?_)
        by_cases x : e' = e
        · subst x
          exact ⟨by omega, d⟩
        · exact hv e' (by omega)
      by_cases d1 : s 34 (s 32 (pb (hs hi lo) e) - 1).toNat = hi
      · by_cases d2 : s 35 (s 32 (pb (hs hi lo) e) - 1).toNat = lo
        · refine Or.inl ⟨(s 32 (pb (hs hi lo) e) - 1).toNat, by omega, d1, d2, ?_⟩
          rw [if_neg (by rw [d1]; simp [cmp_eq]), if_neg (by rw [d2]; simp [cmp_eq]), Int.toNat_of_nonneg (by omega)]
        · rw [if_neg (by rw [d1]; simp [cmp_eq]), if_pos (by rw [cmp_eq]; exact d2)]
          exact nx (fun x => d2 x.2)
      · rw [if_pos (by rw [cmp_eq]; exact d1)]
        exact nx (fun x => d1 x.1)
theorem idOf_ok {s : Sg} {m : Nat} (h : NI s m) (hm : m < 4112) (hi lo : Int) :
    (∃ k, k < m ∧ s 34 k = hi ∧ s 35 k = lo ∧ f_107 hi lo s = some ((k : Int), s)) ∨
    (∃ s', NNew s s' m hi lo ∧ (∀ k, k < m → ¬ (s 34 k = hi ∧ s 35 k = lo)) ∧ f_107 hi lo s = some ((m : Int), s')) := by
  obtain ⟨F, hF⟩ := FU_split (k := 8193) (by omega)
  have e := hs_eq hi lo
  unfold hsh at e
  unfold f_107
  rw [hF, e]
  have := idOf_l h hm hi lo 8192 0 F (by omega) (fun e' he' => by omega)
  rw [show pb (hs hi lo) 0 = hs hi lo by have := hs_lt hi lo; unfold pb; omega] at this
  exact this
