/-! RINGS: is the class's graph free? -/
section FRE
variable {T : TT} {sc sm s s' s0 : Sg} {n' S P A N K C w M Q a b : Nat} {t : Nat → Int} {tr : Nat → Nat}
theorem c176 (h7 : s 74 7 = (M : Int)) (hM : M ≤ 2730) {c : Nat} (hc : c < M) : f_176 (c : Int) s = 1 := by
  unfold f_176
  rw [h7, if_neg (by omega), if_neg (by omega), if_neg (by omega)]
theorem c176n : f_176 (-1) s = 0 := by
  unfold f_176
  rw [if_pos (by decide)]
theorem c175 (hs : RGF sc s) (h54 : sc 54 6 = (S : Int)) (hS8 : S ≤ 1171) (hb : b < S) : g_175 (b : Int) s ∧ f_175 (b : Int) s = s 75 b := by
  have f1 := c173 hs h54 hS8 hb
  unfold g_175 f_175
  rw [f1, if_neg (by decide), Int.toNat_natCast]
  exact ⟨⟨fun _ => trivial, fun _ => ⟨by omega, trivial⟩⟩, rfl⟩
/-- the calls of one that is taken away -/
theorem kah_in (h54 : sc 54 6 = (S : Int)) (hS8 : S ≤ 1171) (hM : M ≤ 2730) (hs0 : RGF sc s0) (hg : CGR S s0 M tr) {i Q0 : Nat} (hi : i < Q0) {q0 : Nat → Int} (hb : b < S) (qb : q0 i = (b : Int)) (qd : ∀ j, j < i → q0 j ≠ (b : Int)) (k48 : Int → Sg → Option (Int × Sg)) (hi8 : i < 1171) :
    ∀ (lo l3 F : Nat) (p : Int) (s : Sg) (Q : Nat), lo + l3 ≤ M → LN tr b lo p → KQ S M tr s Q (fun c => (∃ j, j < i ∧ q0 j = ((tr c : Nat) : Int)) ∨ (tr c = b ∧ lo ≤ c)) → (∀ x, x < S → (INQ s Q x ↔ s 78 x = 0)) → KFR s0 s → Q0 ≤ Q → (∀ j, j < Q0 → s 80 j = q0 j) →
      ∃ (s' : Sg) (Q' : Nat), j_166_76 k48 (F + lo + 1) (i : Int) p (l3 : Int) s = k48 ((i + 1 : Nat) : Int) s' ∧ KQ S M tr s' Q' (fun c => ∃ j, j < i + 1 ∧ q0 j = ((tr c : Nat) : Int)) ∧ (∀ x, x < S → (INQ s' Q' x ↔ s' 78 x = 0)) ∧ KFR s0 s' ∧ Q ≤ Q' ∧ (∀ j, j < Q → s' 80 j = s 80 j) := by
  intro lo
  induction lo using Nat.strongRecOn with
  | _ lo ih =>
  intro l3 F p s Q hl ln kq iq fr hQ h80
  have k115 : ∀ z : Sg, j_166_115 k48 (i : Int) z = k48 ((i + 1 : Nat) : Int) z := fun z => by
    unfold j_166_115
    rw [w32_nat (by omega)]
  rcases ln with ⟨e1, e2⟩ | ⟨c0, c1, c2, c3, c4⟩
  · refine ⟨s, Q, ?_, kq.sub (fun c hc => ?_), iq, fr, Nat.le_refl _, fun _ _ => rfl⟩
    · rw [j_166_76, e1, c176n, if_pos rfl, k115]
    · constructor
      · intro y
        rcases y with ⟨j, y1, y2⟩ | ⟨y1, _⟩
        · exact ⟨j, by omega, y2⟩
        · exact ⟨i, by omega, by rw [qb, y1]⟩
      · intro ⟨j, y1, y2⟩
        by_cases e : j = i
        · rw [e, qb] at y2
          have e3 : tr c = b := by omega
          exact Or.inr ⟨e3, by
            apply Decidable.byContradiction
            intro hn
            exact e2 c (by omega) e3⟩
        · exact Or.inl ⟨j, by omega, y2⟩
  · subst c2
    have h7 : s 74 7 = (M : Int) := by rw [fr.2 7 (by decide)]; exact hg.1
    have hs : RGF sc s := fun b x => by rw [fr.1 b (by omega)]; exact hs0 b x
    obtain ⟨a, a1, a2, a3, a4⟩ := hg.2.1 c0 (by omega)
    have a1' : s 76 c0 = (a : Int) := by rw [fr.1 76 (by decide)]; exact a1
    obtain ⟨s1, Q1, x1, x2, x3, x4, x5, x6⟩ := c177 (ST' := fun c => (∃ j, j < i ∧ q0 j = ((tr c : Nat) : Int)) ∨ (tr c = b ∧ c0 ≤ c)) kq hs h54 hS8 hM iq (c0 := c0) (by omega) a1' a2 (fun y => by
        rcases y with ⟨j, y1, y2⟩ | ⟨_, y2⟩
        · rw [c3] at y2
          exact qd j y1 y2
        · omega) (fun c hc => by
        constructor
        · intro y
          rcases y with y | ⟨y1, y2⟩
          · exact Or.inl (Or.inl y)
          · by_cases e : c = c0
            · exact Or.inr e
            · refine Or.inl (Or.inr ⟨y1, ?_⟩)
              apply Decidable.byContradiction
              intro hn
              exact c4 c (by omega) (by omega) y1
        · intro y
          rcases y with (y | ⟨y1, y2⟩) | y
          · exact Or.inl y
          · exact Or.inr ⟨y1, by omega⟩
          · rw [y]; exact Or.inr ⟨c3, Nat.le_refl _⟩) (fun c hc y => by
        rcases y with ⟨j, y1, y2⟩ | ⟨y1, _⟩
        · exact ⟨j, by omega, by rw [h80 j (by omega)]; exact y2⟩
        · exact ⟨i, by omega, by rw [h80 i hi, qb, y1]⟩)
    have e77 : s1 77 c0 = s0 77 c0 := by rw [x3.1 77 (by decide), fr.1 77 (by decide)]
    obtain ⟨s', Q', y1, y2, y3, y4, y5, y6⟩ := ih c0 (by omega) (l3 + 1) (F + (lo - c0 - 1)) (s0 77 c0) s1 Q1 (by omega) (by rw [c3] at a4; exact a4) x2 x6 (fr.trans x3) (by omega) (fun j hj => by rw [x5 j (by omega)]; exact h80 j hj)
    refine ⟨s', Q', ?_, y2, y3, y4, by omega, fun j hj => by rw [y6 j (by omega)]; exact x5 j hj⟩
    rw [show F + lo + 1 = (F + (lo - c0 - 1) + c0 + 1) + 1 by omega, j_166_76, c176 h7 hM (by omega), if_neg (by decide), h7, if_neg (by omega), gd_pos (by omega), Int.toNat_natCast, a1', x1, Option.bind_some, gd_pos (by omega), e77, w32_nat (by omega), y1]
theorem c166 (h54 : sc 54 6 = (S : Int)) (hS8 : S ≤ 1171) (hM : M ≤ 2730) (hs0 : RGF sc s0) (hg : CGR S s0 M tr) : ∃ (s' : Sg) (Q : Nat), f_166 s0 = some ((if Q < S then 0 else 1 : Int), s') ∧ (S ≤ Q → ∃ f : Nat → Nat, ∀ c, c < M → ∀ a : Nat, s0 76 c = (a : Int) → f (tr c) < f a) ∧ (∀ b, ¬ (b = 74 ∨ b = 78 ∨ b = 80) → s' b = s0 b) ∧ (∀ j, j ≠ 11 → s' 74 j = s0 74 j) := by
  obtain ⟨s1, hs1⟩ : ∃ s1 : Sg, s1 = ax_u2 s0 74 11 0 := ⟨_, rfl⟩
  have fr0 : KFR s0 s1 := ⟨fun b x => by rw [hs1, u2_row _ _ _ (by omega)], fun j x => by rw [hs1, u2_col _ _ _ x]⟩
  have r78 : s1 78 = s0 78 := by rw [hs1, u2_row _ _ _ (by decide)]
  have r76 : s1 76 = s0 76 := by rw [hs1, u2_row _ _ _ (by decide)]
  have k0 : KQ S M tr s1 0 (fun _ => False) := by
    refine ⟨by rw [hs1]; exact u2_same _ _ _ _, fun j hj => absurd hj (by omega), fun j j' hj => absurd hj (by omega), (cnt_z S (fun i _ ⟨j, y, _⟩ => by omega)).symm, fun a ha => ?_, fun j c hj => absurd hj (by omega)⟩
    rw [r78, r76, hg.2.2.2 a ha, cnt_c M (p := fun c => s0 76 c = (a : Int)) (p' := fun c => s0 76 c = (a : Int) ∧ ¬ False) (fun c _ => ⟨fun y => ⟨y, fun z => z⟩, fun y => y.1⟩)]
  -- those that call none
  have ph1 : ∀ (r l F : Nat) (s : Sg) (Q : Nat), l + r = S → KQ S M tr s Q (fun _ => False) → KFR s0 s → s 78 = s0 78 → (∀ x, x < S → (INQ s Q x ↔ x < l ∧ s 78 x = 0)) → ∃ (s' : Sg) (Q' : Nat), j_166_7 (F + r + 1) (l : Int) s = j_166_46 s' ∧ KQ S M tr s' Q' (fun _ => False) ∧ KFR s0 s' ∧ (∀ x, x < S → (INQ s' Q' x ↔ s' 78 x = 0)) := by
    intro r
    induction r with
    | zero =>
      intro l F s Q hl kq fr e78 iq
      refine ⟨s, Q, ?_, kq, fr, fun x hx => by rw [iq x hx]; exact ⟨fun y => y.2, fun y => ⟨by omega, y⟩⟩⟩
      rw [j_166_7, fr.1 54 (by decide), hs0 54 (by decide), h54, if_pos (by omega)]
    | succ r ih =>
      intro l F s Q hl kq fr e78 iq
      have hs : RGF sc s := fun b x => by rw [fr.1 b (by omega)]; exact hs0 b x
      have k40 : ∀ z : Sg, j_166_40 (j_166_7 (F + r + 1)) (l : Int) z = j_166_7 (F + r + 1) ((l + 1 : Nat) : Int) z := fun z => by
        unfold j_166_40
        rw [w32_nat (by omega)]
      rw [show F + (r + 1) + 1 = (F + r + 1) + 1 by omega, j_166_7, hs 54 (by decide), h54, if_neg (by omega), c173 hs h54 hS8 (a := l) (by omega), if_neg (by decide), gd_pos (by omega), Int.toNat_natCast]
      by_cases d : s 78 l = 0
      · have z : (0 : Int) = ((cnt (fun c => s 76 c = (l : Int) ∧ ¬ False) M : Nat) : Int) := by rw [← d]; exact kq.2.2.2.2.1 l (by omega)
        obtain ⟨s', g1, g2, g3, g4, g5, g6, g7⟩ := kq_enq kq hS8 (a := l) (by omega) (fun y => by
          have := (iq l (by omega)).mp y
          omega) (fun c hc e => absurd ⟨e, fun u => u⟩ (cnt_0 M (p := fun c => s 76 c = (l : Int) ∧ ¬ False) (by omega) c hc))
        rw [if_neg (fun e => e d), gd_pos g1, g2, Option.bind_some, k40]
        refine ih (l + 1) F s' (Q + 1) (by omega) g3 (fr.trans g4) (by rw [g5, e78]) (fun x hx => ?_)
        rw [g5]
        constructor
        · intro ⟨j, y1, y2⟩
          by_cases e : j = Q
          · rw [e, g7] at y2
            have ex : x = l := by omega
            rw [ex]
            exact ⟨by omega, d⟩
          · rw [g6 j (by omega)] at y2
            have := (iq x hx).mp ⟨j, by omega, y2⟩
            exact ⟨by omega, this.2⟩
        · intro ⟨y1, y2⟩
          by_cases e : x = l
          · exact ⟨Q, by omega, by rw [g7, e]⟩
          · obtain ⟨j, u1, u2⟩ := (iq x hx).mpr ⟨by omega, y2⟩
            exact ⟨j, by omega, by rw [g6 j u1]; exact u2⟩
      · rw [if_pos d, k40]
        refine ih (l + 1) F s Q (by omega) kq fr e78 (fun x hx => ?_)
        rw [iq x hx]
        constructor
        · intro y; exact ⟨by omega, y.2⟩
        · intro y
          refine ⟨?_, y.2⟩
          by_cases e : x = l
          · rw [e] at y; exact absurd y.2 d
          · omega
  obtain ⟨F, hF⟩ := FU_split (k := S + 1) (by omega)
  obtain ⟨s2, Q2, e2, kq2, fr2, iq2⟩ := ph1 S 0 F s1 0 (by omega) k0 fr0 r78 (fun x hx => ⟨fun ⟨j, y, _⟩ => by omega, fun y => by omega⟩)
  rw [show F + S + 1 = FU by omega] at e2
  -- and those that call only such
  have ph2 : ∀ (r i G : Nat) (s : Sg) (Q : Nat), i + r = S → i ≤ Q → KQ S M tr s Q (fun c => ∃ j, j < i ∧ s 80 j = ((tr c : Nat) : Int)) → (∀ x, x < S → (INQ s Q x ↔ s 78 x = 0)) → KFR s0 s → ∃ (s' : Sg) (Q' : Nat) (ST : Nat → Prop), j_166_48 (G + r + 1) (i : Int) s = j_166_121 s' ∧ KQ S M tr s' Q' ST ∧ KFR s0 s' := by
    intro r
    induction r with
    | zero =>
      intro i G s Q hr hi kq iq fr
      have qS : Q ≤ S := by rw [kq.2.2.2.1]; exact cnt_le S
      refine ⟨s, Q, _, ?_, kq, fr⟩
      rw [j_166_48, kq.1, if_pos (by omega)]
    | succ r ih =>
      intro i G s Q hr hi kq iq fr
      have qS : Q ≤ S := by rw [kq.2.2.2.1]; exact cnt_le S
      have hs : RGF sc s := fun b x => by rw [fr.1 b (by omega)]; exact hs0 b x
      by_cases d : Q ≤ i
      · refine ⟨s, Q, _, ?_, kq, fr⟩
        rw [j_166_48, kq.1, if_pos (by omega)]
      · obtain ⟨b, b1, b2⟩ := kq.2.1 i (by omega)
        obtain ⟨p1, p2⟩ := c175 hs h54 hS8 b2
        have e75 : s 75 b = s0 75 b := by rw [fr.1 75 (by decide)]
        obtain ⟨H, hH⟩ := FU_split (k := M + 1) (by omega)
        obtain ⟨s', Q', y1, y2, y3, y4, y5, y6⟩ := kah_in h54 hS8 hM hs0 hg (i := i) (Q0 := Q) (by omega) (q0 := s 80) b2 b1 (fun j hj e => by
          have := kq.2.2.1 j i (by omega) (by omega) (by rw [e, b1])
          omega) (j_166_48 (G + r + 1)) (by omega) M 0 H (s0 75 b) s Q (by omega) (hg.2.2.1 b b2) (kq.sub (fun c hc => ⟨fun y => Or.inl y, fun y => by
            rcases y with y | y
            · exact y
            · omega⟩)) iq fr (Nat.le_refl _) (fun _ _ => rfl)
        rw [show H + M + 1 = FU by omega] at y1
        have y1' : j_166_76 (j_166_48 (G + r + 1)) FU (i : Int) (s0 75 b) 0 s = _ := y1
        obtain ⟨s3, Q3, ST, z1, z2, z3⟩ := ih (i + 1) G s' Q' (by omega) (by omega) (y2.sub (fun c hc => ⟨fun ⟨j, u1, u2⟩ => ⟨j, u1, by rw [y6 j (by omega)]; exact u2⟩, fun ⟨j, u1, u2⟩ => ⟨j, u1, by rw [y6 j (by omega)] at u2; exact u2⟩⟩)) y3 y4
        refine ⟨s3, Q3, ST, ?_, z2, z3⟩
        rw [show G + (r + 1) + 1 = (G + r + 1) + 1 by omega, j_166_48, kq.1, if_neg (by omega), if_neg (by omega), gd_pos (by omega), Int.toNat_natCast, b1, gd_pos p1, p2, e75, y1', z1]
  obtain ⟨s3, Q3, ST, e3, kq3, fr3⟩ := ph2 S 0 F s2 Q2 (by omega) (Nat.zero_le _) (kq2.sub (fun c hc => ⟨fun y => y.elim, fun ⟨j, y, _⟩ => by omega⟩)) iq2 fr2
  rw [show F + S + 1 = FU by omega] at e3
  refine ⟨s3, Q3, ?_, fun hQ => ?_, fr3.1, fr3.2⟩
  · unfold f_166
    rw [← hs1]
    have e2' : j_166_7 FU 0 s1 = _ := e2
    rw [e2']
    unfold j_166_46
    have e3' : j_166_48 FU 0 s2 = _ := e3
    rw [e3']
    unfold j_166_121
    rw [kq3.1, fr3.1 54 (by decide), hs0 54 (by decide), h54]
    by_cases d : Q3 < S
    · rw [if_pos (by omega), if_pos d]
    · rw [if_neg (by omega), if_neg d]
  · obtain ⟨q1, q2, q3, q4, q5, q6⟩ := kq3
    have all : ∀ x, x < S → ∃ j, j < Q3 ∧ s3 80 j = ((x : Nat) : Int) := cnt_all S (by have := cnt_le (p := fun a => ∃ j, j < Q3 ∧ s3 80 j = ((a : Nat) : Int)) S; omega)
    have ex : ∀ x : Nat, ∃ j : Nat, x < S → j < Q3 ∧ s3 80 j = (x : Int) := fun x => by
      by_cases c : x < S
      · obtain ⟨j, y⟩ := all x c
        exact ⟨j, fun _ => y⟩
      · exact ⟨0, fun y => absurd y c⟩
    refine ⟨fun x => (ex x).choose, fun c hc a ha => ?_⟩
    obtain ⟨a', a1, a2, a3, a4⟩ := hg.2.1 c hc
    have ea : a' = a := by omega
    subst ea
    obtain ⟨j1, j2⟩ := (ex a').choose_spec a2
    obtain ⟨k1, k2⟩ := (ex (tr c)).choose_spec a3
    obtain ⟨j', y1, y2⟩ := q6 (ex a').choose c j1 hc (by rw [fr3.1 76 (by decide), ha, j2])
    have : j' = (ex (tr c)).choose := q3 j' _ (by omega) k1 (by rw [y2, k2])
    show (ex (tr c)).choose < (ex a').choose
    omega
end FRE
