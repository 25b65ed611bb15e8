/-! RINGS: the class's search. -/
section SEA
variable {T : TT} {sc sm s s' s0 : Sg} {n' S P A N K C w M Q k told : Nat} {t : Nat → Int} {tr : Nat → Nat}
theorem c168 (h : CKX T sc sm n' t S P A N K C w) (g : GOOD T sc sm S A N w) (n6 : ¬ BD6 T sm S A N) (n7 : ¬ BD7 T sm S A N) (h54 : sc 54 6 = (S : Int)) (hS8 : S ≤ 1171) (hs : RGF sc s) (hk : k < S) : ∃ r : Int, f_168 (k : Int) s = some r ∧ ((r = -1 ∧ ∀ b, EDG T sc sm S k b → s 79 b = -1) ∨ (∃ b : Nat, r = (b : Int) ∧ EDG T sc sm S k b ∧ s 79 b ≠ -1)) := by
  obtain ⟨hd, b1, hdz, p7, e187, e170, e170n⟩ := c170 h hs h54 hS8 hk
  have hhlp := fun h2 => h.hlp g n6 n7 hk h2
  obtain ⟨hT, hX, hC, hD, -⟩ := id h
  have z8 := hT.1
  unfold f_168
  by_cases h2 : sm 94 k = 2
  · obtain ⟨hd', st, e, hl, ca, -⟩ := hhlp h2
    have ehd : hd' = hd := by have := hl.1; omega
    subst ehd
    obtain ⟨l1, l2, l3, l4, l5, l6, l7, l8, l9⟩ := id hl
    have go : ∀ (r i G : Nat) (bs : Int), i + r = e → hd' + 1 ≤ i → ((bs = -1 ∧ ∀ q b, hd' < q → q < i → CLL T q → sc 36 (T.vl q).toNat = ((b : Nat) : Int) → s 79 b = -1) ∨ (∃ b : Nat, bs = (b : Int) ∧ EDG T sc sm S k b ∧ s 79 b ≠ -1)) → ∃ r' : Int, j_168_20 (G + r + 1) bs (e : Int) (i : Int) s = some r' ∧ ((r' = -1 ∧ ∀ q b, hd' < q → q < e → CLL T q → sc 36 (T.vl q).toNat = ((b : Nat) : Int) → s 79 b = -1) ∨ (∃ b : Nat, r' = (b : Int) ∧ EDG T sc sm S k b ∧ s 79 b ≠ -1)) := by
      intro r
      induction r with
      | zero =>
        intro i G bs hi h1 inv
        refine ⟨bs, by rw [j_168_20, if_pos (by omega)], ?_⟩
        rw [show i = e by omega] at inv
        exact inv
      | succ r ih =>
        intro i G bs hi h1 inv
        obtain ⟨w1, w2, w3⟩ := c171 hT hs hC (k := i) (by omega)
        rw [show G + (r + 1) + 1 = (G + r + 1) + 1 by omega, j_168_20, if_neg (by omega), gd_pos w1]
        have k90 : ∀ v : Int, j_168_90 (j_168_20 (G + r + 1)) v (e : Int) (i : Int) s = j_168_20 (G + r + 1) v (e : Int) ((i + 1 : Nat) : Int) s := fun v => by
          unfold j_168_90
          rw [w32_nat (by omega)]
        have skip : (∀ b : Nat, CLL T i → sc 36 (T.vl i).toNat = (b : Int) → s 79 b = -1) → ∃ r' : Int, j_168_90 (j_168_20 (G + r + 1)) bs (e : Int) (i : Int) s = some r' ∧ ((r' = -1 ∧ ∀ q b, hd' < q → q < e → CLL T q → sc 36 (T.vl q).toNat = ((b : Nat) : Int) → s 79 b = -1) ∨ (∃ b : Nat, r' = (b : Int) ∧ EDG T sc sm S k b ∧ s 79 b ≠ -1)) := fun hno => by
          rw [k90]
          refine ih (i + 1) G bs (by omega) (by omega) ?_
          rcases inv with ⟨v1, v2⟩ | v
          · refine Or.inl ⟨v1, fun q b u1 u2 u3 u4 => ?_⟩
            by_cases e1 : q = i
            · subst e1; exact hno b u3 u4
            · exact v2 q b u1 (by omega) u3 u4
          · exact Or.inr v
        by_cases cc : CLL T i
        · obtain ⟨b, m, bS, e36, -⟩ := ca i (by omega) (by omega) cc
          have ed : EDG T sc sm S k b := ⟨hk, bS, hd', st, e, i, hl, by omega, by omega, cc, e36⟩
          rw [w2 cc, e36, c173 hs h54 hS8 bS, if_neg (by decide), gd_pos (by omega), Int.toNat_natCast]
          unfold j_168_59
          by_cases d : s 79 b = -1
          · rw [if_pos d, if_pos rfl]
            exact skip (fun b' _ u => by
              have : b' = b := by omega
              rw [this]; exact d)
          · rw [if_neg d, if_neg (by decide)]
            rcases inv with ⟨v1, v2⟩ | ⟨b0, v1, v2, v3⟩
            · rw [if_pos v1]
              unfold j_168_87
              rw [k90]
              exact ih (i + 1) G (b : Int) (by omega) (by omega) (Or.inr ⟨b, rfl, ed, d⟩)
            · have b0S := v2.2.1
              rw [if_neg (by omega), gd_pos (by omega), v1, gd_pos (by omega), k90, Int.toNat_natCast b0, Int.toNat_natCast b]
              by_cases c : s 79 b0 ≤ s 79 b
              · rw [if_pos c]
                exact ih (i + 1) G (b0 : Int) (by omega) (by omega) (Or.inr ⟨b0, rfl, v2, v3⟩)
              · rw [if_neg c]
                exact ih (i + 1) G (b : Int) (by omega) (by omega) (Or.inr ⟨b, rfl, ed, d⟩)
        · rw [w3 cc, c173n, if_pos rfl]
          unfold j_168_58 j_168_59
          rw [if_pos rfl]
          exact skip (fun b u => absurd u cc)
    obtain ⟨G, hG⟩ := FU_split (k := (e - (hd' + 1)) + 1) (by omega)
    obtain ⟨r', x1, x2⟩ := go (e - (hd' + 1)) (hd' + 1) G (-1) (by omega) (Nat.le_refl _) (Or.inl ⟨rfl, fun q b u v => absurd v (by omega)⟩)
    rw [show G + (e - (hd' + 1)) + 1 = FU by omega] at x1
    refine ⟨r', ?_, ?_⟩
    · rw [e170 st e hl, Option.bind_some, gd_pos p7, e187, w32_nat (by omega), x1]
    · rcases x2 with ⟨y1, y2⟩ | y
      · refine Or.inl ⟨y1, fun b ed => ?_⟩
        obtain ⟨_, _, hd2, st2, e2, q, hl2, k1, k2, k3, k4⟩ := ed
        have eh : hd2 = hd' := by have := hl2.1; omega
        subst eh
        have ee : e2 = e := hl2.2.2.2.2.2.2.1.uniq l7
        subst ee
        exact y2 q b k1 k2 k3 k4
      · exact Or.inr y
  · obtain ⟨G, hG⟩ := FU_split (k := 1) (by omega)
    refine ⟨-1, ?_, Or.inl ⟨rfl, fun b ed => ?_⟩⟩
    · rw [e170n h2, Option.bind_some, gd_pos p7, e187, w32_nat (by omega), hG, j_168_20, if_pos (by omega)]
    · obtain ⟨_, _, hd2, st2, e2, q, hl2, -⟩ := ed
      exact absurd hl2.2.2.1 h2
/-- collecting leaves the ring alone -/
theorem k172 (a b : Int) (s : Sg) : f_172 a b s 74 13 = s 74 13 := by
  unfold f_172
  split
  · rfl
  · split
    · rfl
    · split
      · simp [ax_u2]
      · rfl
theorem k165a {k47 : Int → Sg → Option Sg} (hk : ∀ l s q, k47 l s = some q → q 74 13 = s 74 13) : ∀ (F : Nat) (l1 l2 l3 : Int) (s q : Sg), j_165_75 k47 F l1 l2 l3 s = some q → q 74 13 = s 74 13 := by
  intro F
  induction F with
  | zero => intro l1 l2 l3 s q h; rw [j_165_75] at h; cases h
  | succ F ih =>
    intro l1 l2 l3 s q h
    rw [j_165_75] at h
    by_cases c : l2 ≤ l3
    · rw [if_pos c] at h
      exact hk _ _ _ h
    · rw [if_neg c] at h
      obtain ⟨_, h⟩ := gd_some h
      obtain ⟨_, h⟩ := gd_some h
      rw [Option.bind_some] at h
      rw [ih _ _ _ _ _ h, k172]
theorem k165b : ∀ (F : Nat) (l1 : Int) (s q : Sg), j_165_47 F l1 s = some q → q 74 13 = s 74 13 := by
  intro F
  induction F with
  | zero => intro l1 s q h; rw [j_165_47] at h; cases h
  | succ F ih =>
    intro l1 s q h
    rw [j_165_47] at h
    by_cases c : s 54 6 ≤ l1
    · rw [if_pos c] at h
      cases h; rfl
    · rw [if_neg c] at h
      obtain ⟨_, _, h⟩ := bd_some h
      obtain ⟨_, h⟩ := gd_some h
      exact k165a (fun l s q u => ih l s q u) _ _ _ _ _ _ h
theorem k165c : ∀ (F : Nat) (l1 : Int) (s q : Sg), j_165_7 F l1 s = some q → q 74 13 = s 74 13 := by
  intro F
  induction F with
  | zero => intro l1 s q h; rw [j_165_7] at h; cases h
  | succ F ih =>
    intro l1 s q h
    rw [j_165_7] at h
    by_cases c : s 54 6 ≤ l1
    · rw [if_pos c] at h
      exact k165b _ _ _ _ h
    · rw [if_neg c] at h
      by_cases d : 1171 ≤ l1
      · rw [if_pos d] at h
        exact k165b _ _ _ _ h
      · rw [if_neg d] at h
        obtain ⟨_, h⟩ := gd_some h
        obtain ⟨_, h⟩ := gd_some h
        rw [ih _ _ _ h, u2_row _ _ _ (by decide), u2_row _ _ _ (by decide)]
theorem k165 {s q : Sg} (h : f_165 s = some q) : q 74 13 = s 74 13 := by
  unfold f_165 at h
  rw [k165c _ _ _ _ h, u2_col _ _ _ (by decide)]
/-- what tracing changes -/
theorem c169 (h : CKX T sc sm n' t S P A N K C w) (g : GOOD T sc sm S A N w) (n6 : ¬ BD6 T sm S A N) (n7 : ¬ BD7 T sm S A N) (h54 : sc 54 6 = (S : Int)) (hS8 : S ≤ 1171) (hs : RGF sc s) (ht : told < S) : ∃ s' : Sg, f_169 (told : Int) s = some s' ∧ RGF sc s' ∧ (RB s → RB s') := by
  obtain ⟨hT, hX, hC, hD, -⟩ := id h
  have z8 := hT.1
  have go : ∀ (r l F : Nat) (k : Nat) (s : Sg), l + r = 1171 → k < S → RGF sc s → ∃ s' : Sg, j_169_4 (F + r + 1) (told : Int) (k : Int) (l : Int) s = some s' ∧ RGF sc s' ∧ (RB s → RB s') := by
    intro r
    induction r with
    | zero =>
      intro l F k s hl hk hs
      exact ⟨s, by rw [j_169_4, if_pos (by omega)], hs, id⟩
    | succ r ih =>
      intro l F k s hl hk hs
      obtain ⟨hd, b1, hdz, p7, e187, -⟩ := c170 h hs h54 hS8 hk
      obtain ⟨o1, o2⟩ := c80 (a := hd) (hs.cc hC) hT (by omega)
      have hs2 : RGF sc (ax_u2 (ax_u2 s 81 l (T.fm hd)) 74 13 ((l + 1 : Nat) : Int)) := fun b x => by rw [u2_row _ _ _ (by omega), u2_row _ _ _ (by omega)]; exact hs b x
      have rb2 : RB (ax_u2 (ax_u2 s 81 l (T.fm hd)) 74 13 ((l + 1 : Nat) : Int)) := by
        unfold RB
        rw [u2_at, if_pos rfl]
        omega
      obtain ⟨r', x1, x2⟩ := c168 h g n6 n7 h54 hS8 hs2 hk
      rw [show F + (r + 1) + 1 = (F + r + 1) + 1 by omega, j_169_4, if_neg (by omega), gd_pos p7, e187, gd_pos o2, o1, gd_pos (by omega), Int.toNat_natCast, w32_nat (by omega), x1, Option.bind_some]
      by_cases d : r' = (told : Int)
      · rw [if_pos d]
        exact ⟨_, rfl, hs2, fun _ => rb2⟩
      · rw [if_neg d]
        rcases x2 with ⟨y, _⟩ | ⟨b, y1, y2, _⟩
        · rw [if_neg (fun e => e y)]
          exact ⟨_, rfl, hs2, fun _ => rb2⟩
        · rw [if_pos (by omega), y1]
          obtain ⟨s', z1, z2, z3⟩ := ih (l + 1) F b _ (by omega) y2.2.1 hs2
          exact ⟨s', z1, z2, fun _ => z3 rb2⟩
  obtain ⟨F, hF⟩ := FU_split (k := 1172) (by omega)
  obtain ⟨s', x1, x2⟩ := go 1171 0 F told s (by omega) ht hs
  rw [show F + 1171 + 1 = FU by omega] at x1
  exact ⟨s', x1, x2⟩
theorem c164 (h : CKX T sc sm n' t S P A N K C w) (g : GOOD T sc sm S A N w) (n6 : ¬ BD6 T sm S A N) (n7 : ¬ BD7 T sm S A N) (h54 : sc 54 6 = (S : Int)) (hS8 : S ≤ 1171) (h8 : sc 30 8 = -1) : ∃ s' : Sg, f_164 sc = some s' ∧ (∀ b, b ≠ 30 → b < 74 ∨ 81 < b → s' b = sc b) ∧ (∀ j, j ≠ 8 → s' 30 j = sc 30 j) ∧ (s' 30 8 ≠ -1 ↔ ∃ k, k < S ∧ CYC (EDG T sc sm S) k) ∧ (RB sc → RB s') := by
  obtain ⟨s1, M, tr, e1, cg, hM, hs1, hE, hE2⟩ := c165 h g n6 n7 h54 hS8
  obtain ⟨s2, Q, e2, fr, r1, r2⟩ := c166 h54 hS8 hM hs1 cg
  have hs2 : RGF sc s2 := fun b x => by rw [r1 b (by omega)]; exact hs1 b x
  have rbs : ∀ s, MFR s2 s → RB sc → RB s := fun s fr h => by
    unfold RB at *
    rw [fr.2 13 (by decide), r2 13 (by decide), k165 e1]
    exact h
  have cg2 : ∀ s, MFR s2 s → s 74 7 = s1 74 7 ∧ s 75 = s1 75 ∧ s 76 = s1 76 ∧ s 77 = s1 77 := fun s fr => ⟨by rw [fr.2 7 (by decide), r2 7 (by decide)], by rw [fr.1 75 (by decide), r1 75 (by decide)], by rw [fr.1 76 (by decide), r1 76 (by decide)], by rw [fr.1 77 (by decide), r1 77 (by decide)]⟩
  obtain ⟨hT, hX, hC, hD, -⟩ := id h
  have z8 := hT.1
  have hEe : ∀ c, c < M → ∀ a : Nat, s1 76 c = (a : Int) → EDG T sc sm S a (tr c) := fun c hc a ha => by
    obtain ⟨a', y1, y2⟩ := hE c hc
    have : a' = a := by omega
    rw [← this]; exact y2
  unfold f_164
  rw [e1, Option.bind_some, e2, Option.bind_some]
  by_cases d : Q < S
  · rw [if_pos d, if_pos rfl]
    -- the search
    have go : ∀ (r k F : Nat) (s : Sg), k + r = S → MFR s2 s → (∀ j, j < k → ¬ CYC (EDG T sc sm S) j) → ∃ s' : Sg, j_164_14 (F + r + 1) (k : Int) s = some s' ∧ (∀ b, b ≠ 30 → b < 74 ∨ 81 < b → s' b = sc b) ∧ (∀ j, j ≠ 8 → s' 30 j = sc 30 j) ∧ (s' 30 8 ≠ -1 ↔ ∃ k, k < S ∧ CYC (EDG T sc sm S) k) ∧ (RB sc → RB s') := by
      intro r
      induction r with
      | zero =>
        intro k F s hk fr no
        have hs : RGF sc s := fun b x => by rw [fr.1 b (by omega)]; exact hs2 b x
        refine ⟨s, by rw [j_164_14, hs 54 (by decide), h54, if_pos (by omega)], fun b _ x => hs b x, fun j _ => by rw [hs 30 (by decide)], ?_⟩
        rw [hs 30 (by decide), h8]
        exact ⟨⟨fun y => absurd rfl y, fun ⟨j, y1, y2⟩ => absurd y2 (no j (by omega))⟩, rbs s fr⟩
      | succ r ih =>
        intro k F s hk fr no
        have hs : RGF sc s := fun b x => by rw [fr.1 b (by omega)]; exact hs2 b x
        obtain ⟨q1, q2, q3, q4⟩ := cg2 s fr
        have kS : k < S := by omega
        -- the calls are there still
        have cgl : ∀ c, c < M → ∃ a : Nat, s 76 c = (a : Int) ∧ a < S ∧ tr c < S ∧ LN tr (tr c) c (s 77 c) := by rw [q3, q4]; exact cg.2.1
        obtain ⟨s', x1, x2, x3, x4⟩ := c167 h54 hS8 hM hs (tr := tr) ⟨by rw [q1]; exact cg.1, cgl, by rw [q2]; exact cg.2.2.1⟩ (E := EDG T sc sm S) (by rw [q3]; exact hEe) (by rw [q3]; exact hE2) (fun a b ed => ⟨ed.1, ed.2.1⟩) kS
        have hs' : RGF sc s' := fun b x => by rw [x2.1 b (by omega)]; exact hs b x
        obtain ⟨r', y1, y2⟩ := c168 h g n6 n7 h54 hS8 hs' kS
        have cyc : CYC (EDG T sc sm S) k ↔ ∃ b, EDG T sc sm S k b ∧ s' 79 b ≠ -1 := by
          constructor
          · intro ⟨b, u1, u2⟩
            exact ⟨b, u1, (x3 b u1.2.1).mpr u2⟩
          · intro ⟨b, u1, u2⟩
            exact ⟨b, u1, (x3 b u1.2.1).mp u2⟩
        rw [show F + (r + 1) + 1 = (F + r + 1) + 1 by omega, j_164_14, hs 54 (by decide), h54, if_neg (by omega), x1, Option.bind_some, y1, Option.bind_some]
        rcases y2 with ⟨y2, y3⟩ | ⟨b, y2, y3, y4⟩
        · rw [if_pos y2, w32_nat (by omega)]
          refine ih (k + 1) F s' (by omega) (fr.trans x2) (fun j hj => ?_)
          by_cases e : j = k
          · rw [e, cyc]
            exact fun ⟨b, u1, u2⟩ => u2 (y3 b u1)
          · exact no j (by omega)
        · rw [if_neg (by omega)]
          obtain ⟨s3, z1, z2, z3⟩ := c169 h g n6 n7 h54 hS8 hs' kS
          obtain ⟨hd, b1, hdz, p7, e187, -⟩ := c170 h z2 h54 hS8 kS
          obtain ⟨o1, o2⟩ := c80 (a := hd) (z2.cc hC) hT (by omega)
          have f0 := hT.2.2.2.1 hd (by omega)
          obtain ⟨k1, k2⟩ := c71k (s := s3) (k := 8) (x := T.fm hd) (by decide) (by decide) f0
          have k1' : g_71 8 (T.fm hd) s3 := k1
          have k2' : NTk 8 s3 (f_71 8 (T.fm hd) s3) True := k2
          refine ⟨f_71 8 (T.fm hd) s3, ?_, fun b u x => by rw [k2'.1 b u]; exact z2 b x, fun j u => by rw [k2'.2.1 j u, z2 30 (by decide)], ⟨fun _ => ⟨k, kS, cyc.mpr ⟨b, y3, y4⟩⟩, fun _ => k2'.2.2.mpr (Or.inr trivial)⟩, fun u => by unfold RB; rw [k2'.1 74 (by decide)]; exact z3 (rbs s' (fr.trans x2) u)⟩
          unfold j_164_39
          rw [z1, Option.bind_some, gd_pos p7, e187, gd_pos o2, o1, gd_pos k1', Option.bind_some]
    obtain ⟨F, hF⟩ := FU_split (k := S + 1) (by omega)
    obtain ⟨s', x1, x2⟩ := go S 0 F s2 (by omega) ⟨fun _ _ => rfl, fun _ _ => rfl⟩ (fun j hj => absurd hj (by omega))
    rw [show F + S + 1 = FU by omega] at x1
    exact ⟨s', x1, x2⟩
  · rw [if_neg d, if_neg (show ¬ (1 : Int) = 0 by decide)]
    refine ⟨s2, rfl, fun b _ x => hs2 b x, fun j _ => by rw [hs2 30 (by decide)], ?_⟩
    rw [hs2 30 (by decide), h8]
    refine ⟨⟨fun y => absurd rfl y, fun ⟨k, k1, k2⟩ => ?_⟩, rbs s2 ⟨fun _ _ => rfl, fun _ _ => rfl⟩⟩
    obtain ⟨f, hf⟩ := fr (by omega)
    exact absurd k2 (CYC.no (f := f) (fun x y ed => by
      obtain ⟨c, c1, c2, c3⟩ := hE2 x y ed
      have := hf c c1 x c2
      rw [c3] at this
      exact this))
end SEA
