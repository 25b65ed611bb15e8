/-! RINGS: the class measures, and looks for the nearest. -/
/-- the calls, without what is pending -/
def CGW (S : Nat) (s : Sg) (M : Nat) (tr : Nat → Nat) : Prop := s 74 7 = (M : Int) ∧ (∀ c, c < M → ∃ a : Nat, s 76 c = (a : Int) ∧ a < S ∧ tr c < S ∧ LN tr (tr c) c (s 77 c)) ∧ (∀ b, b < S → LN tr b M (s 75 b))
/-- how far each is, as far as is known -/
def DQ (E : Nat → Nat → Prop) (S told : Nat) (s : Sg) (Q : Nat) : Prop := s 74 11 = (Q : Int) ∧ (∀ j, j < Q → ∃ a : Nat, s 80 j = (a : Int) ∧ a < S) ∧ Q = cnt (fun a => s 79 a ≠ -1) S ∧ (∀ a, a < S → s 79 a ≠ -1 → (0 ≤ s 79 a ∧ s 79 a ≤ (Q : Int)) ∧ WAY E a told ∧ ∃ j, j < Q ∧ s 80 j = (a : Int)) ∧ told < S ∧ s 79 told ≠ -1 ∧ (∀ j, j < Q → ∀ a : Nat, s 80 j = (a : Int) → s 79 a ≠ -1)
def MFR (s s' : Sg) : Prop := (∀ b, ¬ (b = 74 ∨ b = 79 ∨ b = 80) → s' b = s b) ∧ (∀ j, j ≠ 11 → s' 74 j = s 74 j)
section MEA
variable {T : TT} {sc sm s s' s0 : Sg} {n' S P A N K C w M Q a b told : Nat} {t : Nat → Int} {tr : Nat → Nat} {E : Nat → Nat → Prop}
theorem MFR.trans {s2 : Sg} (h : MFR s s') (k : MFR s' s2) : MFR s s2 := ⟨fun b x => (k.1 b x).trans (h.1 b x), fun j x => (k.2 j x).trans (h.2 j x)⟩
theorem c178 (h : DQ E S told s Q) (hs : RGF sc s) (h54 : sc 54 6 = (S : Int)) (hS8 : S ≤ 1171) (ha : a < S) (hb : b < S) (b79 : s 79 b ≠ -1) (ed : E a b) : ∃ (s' : Sg) (Q' : Nat), f_178 (a : Int) (b : Int) s = some s' ∧ DQ E S told s' Q' ∧ MFR s s' ∧ Q ≤ Q' ∧ (∀ j, j < Q → s' 80 j = s 80 j) ∧ (∀ x, s 79 x ≠ -1 → s' 79 x ≠ -1) ∧ s' 79 a ≠ -1 := by
  obtain ⟨h1, h2, h3, h4, h5, h6, h7⟩ := id h
  have f1 := c173 hs h54 hS8 ha
  have f2 := c173 hs h54 hS8 hb
  unfold f_178
  rw [f1, f2, if_neg (by decide), if_neg (by decide), gd_pos (by omega), Int.toNat_natCast, Int.toNat_natCast]
  by_cases d : s 79 a = -1
  · have q8 : Q < S := by
      have := cnt_lt (p := fun a => s 79 a ≠ -1) ha (fun y => y d)
      omega
    obtain ⟨k1, k2, k3⟩ := h4 b hb b79
    obtain ⟨s1, hs1⟩ : ∃ s1 : Sg, s1 = ax_u2 s 79 a (s 79 b + 1) := ⟨_, rfl⟩
    obtain ⟨s2, hs2⟩ : ∃ s2 : Sg, s2 = ax_u2 (ax_u2 s1 80 Q (a : Int)) 74 11 ((Q + 1 : Nat) : Int) := ⟨_, rfl⟩
    have e11 : s1 74 11 = (Q : Int) := by rw [hs1, u2_row _ _ _ (by decide)]; exact h1
    have g174 : g_174 (a : Int) s1 := by
      unfold g_174
      rw [e11]
      exact ⟨fun _ => trivial, fun _ => ⟨by omega, trivial⟩⟩
    have f174 : f_174 (a : Int) s1 = s2 := by
      unfold f_174
      rw [e11, if_neg (by omega), Int.toNat_natCast, w32_nat (by omega), hs2]
    have v79 : s2 79 a = s 79 b + 1 := by rw [hs2, u2_row _ _ _ (by decide), u2_row _ _ _ (by decide), hs1]; exact u2_same _ _ _ _
    have v79' : ∀ x, x ≠ a → s2 79 x = s 79 x := fun x y => by rw [hs2, u2_row _ _ _ (by decide), u2_row _ _ _ (by decide), hs1, u2_col _ _ _ y]
    have v80 : s2 80 Q = (a : Int) := by rw [hs2, u2_row _ _ _ (by decide)]; exact u2_same _ _ _ _
    have v80' : ∀ j, j ≠ Q → s2 80 j = s 80 j := fun j y => by rw [hs2, u2_row _ _ _ (by decide), u2_col _ _ _ y, hs1, u2_row _ _ _ (by decide)]
    have mono : ∀ x, s 79 x ≠ -1 → s2 79 x ≠ -1 := fun x y => by
      by_cases e : x = a
      · rw [e] at y; exact absurd d y
      · rw [v79' x e]; exact y
    rw [if_neg (fun e => e d), gd_pos (by omega), gd_pos (by omega), w32_id (z := s 79 b + 1) (by omega) (by omega), ← hs1, gd_pos g174, f174, Option.bind_some]
    refine ⟨s2, Q + 1, rfl, ⟨by rw [hs2]; exact u2_same _ _ _ _, fun j hj => ?_, ?_, fun x hx y => ?_, h5, mono told h6, fun j hj x y => ?_⟩, ⟨fun b x => by rw [hs2, u2_row _ _ _ (by omega), u2_row _ _ _ (by omega), hs1, u2_row _ _ _ (by omega)], fun j x => by rw [hs2, u2_col _ _ _ x, u2_row _ _ _ (by decide), hs1, u2_row _ _ _ (by decide)]⟩, by omega, fun j hj => v80' j (by omega), mono, by rw [v79]; omega⟩
    · by_cases e : j = Q
      · exact ⟨a, by rw [e]; exact v80, ha⟩
      · obtain ⟨x, x1, x2⟩ := h2 j (by omega)
        exact ⟨x, by rw [v80' j e]; exact x1, x2⟩
    · rw [cnt_u S ha (p := fun a => s 79 a ≠ -1) (p' := fun a => s2 79 a ≠ -1) (fun y => y d) (by show s2 79 a ≠ -1; rw [v79]; omega) (fun i _ hi => by rw [v79' i hi]), ← h3]
    · by_cases e : x = a
      · rw [e, v79]
        exact ⟨by omega, WAY.step ed k2, Q, by omega, v80⟩
      · rw [v79' x e] at y ⊢
        obtain ⟨m1, m2, j, m3, m4⟩ := h4 x hx y
        exact ⟨by omega, m2, j, by omega, by rw [v80' j (by omega)]; exact m4⟩
    · by_cases e : j = Q
      · rw [e, v80] at y
        have : x = a := by omega
        rw [this, v79]
        omega
      · rw [v80' j e] at y
        exact mono x (h7 j (by omega) x y)
  · rw [if_pos d]
    exact ⟨s, Q, rfl, h, ⟨fun _ _ => rfl, fun _ _ => rfl⟩, Nat.le_refl _, fun _ _ => rfl, fun _ y => y, d⟩
theorem mea_in (h54 : sc 54 6 = (S : Int)) (hS8 : S ≤ 1171) (hM : M ≤ 2730) (hs0 : RGF sc s0) (hg : CGW S s0 M tr) (hE : ∀ c, c < M → ∀ a : Nat, s0 76 c = (a : Int) → E a (tr c)) {i : Nat} (hb : b < S) (k61 : Int → Sg → Option Sg) (hi8 : i < 1171) :
    ∀ (lo l5 F : Nat) (p : Int) (s : Sg) (Q : Nat), lo + l5 ≤ M → LN tr b lo p → DQ E S told s Q → MFR s0 s → s 79 b ≠ -1 → (∀ c, lo ≤ c → c < M → tr c = b → ∀ a : Nat, s0 76 c = (a : Int) → s 79 a ≠ -1) →
      ∃ (s' : Sg) (Q' : Nat), j_167_93 k61 (F + lo + 1) (i : Int) (b : Int) p (l5 : Int) s = k61 ((i + 1 : Nat) : Int) s' ∧ DQ E S told s' Q' ∧ MFR s0 s' ∧ Q ≤ Q' ∧ (∀ j, j < Q → s' 80 j = s 80 j) ∧ (∀ x, s 79 x ≠ -1 → s' 79 x ≠ -1) ∧ (∀ c, c < M → tr c = b → ∀ a : Nat, s0 76 c = (a : Int) → s' 79 a ≠ -1) := by
  intro lo
  induction lo using Nat.strongRecOn with
  | _ lo ih =>
  intro l5 F p s Q hl ln dq fr b79 vis
  have k138 : ∀ z : Sg, j_167_138 k61 (i : Int) z = k61 ((i + 1 : Nat) : Int) z := fun z => by
    unfold j_167_138
    rw [w32_nat (by omega)]
  rcases ln with ⟨e1, e2⟩ | ⟨c0, c1, c2, c3, c4⟩
  · refine ⟨s, Q, ?_, dq, fr, Nat.le_refl _, fun _ _ => rfl, fun _ y => y, fun c hc e a ha => vis c ?_ hc e a ha⟩
    · rw [j_167_93, e1, c176n, if_pos rfl, k138]
    · apply Decidable.byContradiction
      intro hn
      exact e2 c (by omega) e
  · subst c2
    have h7 : s 74 7 = (M : Int) := by rw [fr.2 7 (by decide)]; exact hg.1
    have hs : RGF sc s := fun b x => by rw [fr.1 b (by omega)]; exact hs0 b x
    obtain ⟨a, a1, a2, a3, a4⟩ := hg.2.1 c0 (by omega)
    have a1' : s 76 c0 = (a : Int) := by rw [fr.1 76 (by decide)]; exact a1
    obtain ⟨s1, Q1, x1, x2, x3, x4, x5, x6, x7⟩ := c178 dq hs h54 hS8 a2 hb b79 (by rw [← c3]; exact hE c0 (by omega) a a1)
    have e77 : s1 77 c0 = s0 77 c0 := by rw [x3.1 77 (by decide), fr.1 77 (by decide)]
    obtain ⟨s', Q', y1, y2, y3, y4, y5, y6, y7⟩ := ih c0 (by omega) (l5 + 1) (F + (lo - c0 - 1)) (s0 77 c0) s1 Q1 (by omega) (by rw [c3] at a4; exact a4) x2 (fr.trans x3) (x6 b b79) (fun c u v e a' ha' => by
      by_cases e3 : c = c0
      · rw [e3, a1] at ha'
        have : a' = a := by omega
        rw [this]; exact x7
      · exact x6 a' (vis c (by
          apply Decidable.byContradiction
          intro hn
          exact c4 c (by omega) (by omega) e) v e a' ha'))
    refine ⟨s', Q', ?_, y2, y3, by omega, fun j hj => by rw [y5 j (by omega)]; exact x5 j hj, fun x u => y6 x (x6 x u), y7⟩
    rw [show F + lo + 1 = (F + (lo - c0 - 1) + c0 + 1) + 1 by omega, j_167_93, c176 h7 hM (by omega), if_neg (by decide), h7, if_neg (by omega), gd_pos (by omega), Int.toNat_natCast, a1', x1, Option.bind_some, gd_pos (by omega), e77, w32_nat (by omega), y1]
theorem c167 (h54 : sc 54 6 = (S : Int)) (hS8 : S ≤ 1171) (hM : M ≤ 2730) (hs0 : RGF sc s0) (hg : CGW S s0 M tr) (hE : ∀ c, c < M → ∀ a : Nat, s0 76 c = (a : Int) → E a (tr c)) (hE2 : ∀ a b, E a b → ∃ c, c < M ∧ s0 76 c = (a : Int) ∧ tr c = b) (hEb : ∀ a b, E a b → a < S ∧ b < S) (ht : told < S) : ∃ s' : Sg, f_167 (told : Int) s0 = some s' ∧ MFR s0 s' ∧ (∀ a, a < S → (s' 79 a ≠ -1 ↔ WAY E a told)) ∧ (∀ a, a < S → s' 79 a ≠ -1 → 0 ≤ s' 79 a) := by
  -- rows are cleared
  have clr : ∀ (r l F : Nat) (s : Sg), l + r = S → MFR s0 s → (∀ i, i < l → s 79 i = -1) → ∃ s' : Sg, j_167_2 (F + r + 1) (told : Int) (l : Int) s = j_167_33 (told : Int) s' ∧ MFR s0 s' ∧ (∀ i, i < S → s' 79 i = -1) := by
    intro r
    induction r with
    | zero =>
      intro l F s hl fr q
      exact ⟨s, by rw [j_167_2, fr.1 54 (by decide), hs0 54 (by decide), h54, if_pos (by omega)], fr, fun i hi => q i (by omega)⟩
    | succ r ih =>
      intro l F s hl fr q
      rw [show F + (r + 1) + 1 = (F + r + 1) + 1 by omega, j_167_2, fr.1 54 (by decide), hs0 54 (by decide), h54, if_neg (by omega), if_neg (by omega), gd_pos (by omega), w32_nat (by omega), Int.toNat_natCast]
      refine ih (l + 1) F _ (by omega) ⟨fun b x => by rw [u2_row _ _ _ (by omega)]; exact fr.1 b x, fun j x => by rw [u2_row _ _ _ (by decide)]; exact fr.2 j x⟩ (fun i hi => ?_)
      by_cases e : i = l
      · rw [e]; exact u2_same _ _ _ _
      · rw [u2_col _ _ _ e]; exact q i (by omega)
  obtain ⟨F, hF⟩ := FU_split (k := S + 2) (by omega)
  obtain ⟨s1, e1, fr1, q1⟩ := clr S 0 (F + 1) s0 (by omega) ⟨fun _ _ => rfl, fun _ _ => rfl⟩ (fun i hi => absurd hi (by omega))
  rw [show F + 1 + S + 1 = FU by omega] at e1
  obtain ⟨s2, hs2⟩ : ∃ s2 : Sg, s2 = ax_u2 (ax_u2 (ax_u2 (ax_u2 s1 74 11 0) 79 told 0) 80 0 (told : Int)) 74 11 1 := ⟨_, rfl⟩
  have v79 : s2 79 told = 0 := by rw [hs2, u2_row _ _ _ (by decide), u2_row _ _ _ (by decide)]; exact u2_same _ _ _ _
  have v79' : ∀ x, x ≠ told → s2 79 x = s1 79 x := fun x y => by rw [hs2, u2_row _ _ _ (by decide), u2_row _ _ _ (by decide), u2_col _ _ _ y, u2_row _ _ _ (by decide)]
  have v80 : s2 80 0 = (told : Int) := by rw [hs2, u2_row _ _ _ (by decide)]; exact u2_same _ _ _ _
  have fr2 : MFR s0 s2 := ⟨fun b x => by rw [hs2, u2_row _ _ _ (by omega), u2_row _ _ _ (by omega), u2_row _ _ _ (by omega), u2_row _ _ _ (by omega)]; exact fr1.1 b x, fun j x => by rw [hs2, u2_col _ _ _ x, u2_row _ _ _ (by decide), u2_row _ _ _ (by decide), u2_col _ _ _ x]; exact fr1.2 j x⟩
  have dq : DQ E S told s2 1 := by
    refine ⟨by rw [hs2]; exact u2_same _ _ _ _, fun j hj => ⟨told, by rw [show j = 0 by omega]; exact v80, ht⟩, ?_, fun a ha y => ?_, ht, by rw [v79]; decide, fun j hj x y => by
      rw [show j = 0 by omega, v80] at y
      rw [show x = told by omega, v79]
      decide⟩
    · rw [cnt_u S ht (p := fun a => s1 79 a ≠ -1) (p' := fun a => s2 79 a ≠ -1) (fun y => y (q1 told ht)) (by show s2 79 told ≠ -1; rw [v79]; decide) (fun i _ hi => by rw [v79' i hi]), cnt_z S (fun i hi y => y (q1 i hi))]
    · by_cases e : a = told
      · rw [e, v79]
        exact ⟨by decide, WAY.refl told, 0, by omega, v80⟩
      · rw [v79' a e] at y
        exact absurd (q1 a ha) y
  have e33 : j_167_33 (told : Int) s1 = j_167_61 FU 0 s2 := by
    unfold j_167_33
    have f1 : f_173 (told : Int) (ax_u2 s1 74 11 0) = 1 := c173 (sc := sc) (fun b x => by rw [u2_row _ _ _ (by omega), fr1.1 b (by omega)]; exact hs0 b x) h54 hS8 ht
    have e11 : (ax_u2 (ax_u2 s1 74 11 0) 79 told 0) 74 11 = 0 := by rw [u2_row _ _ _ (by decide)]; exact u2_same _ _ _ _
    have g174 : g_174 (told : Int) (ax_u2 (ax_u2 s1 74 11 0) 79 told 0) := by
      unfold g_174
      rw [e11]
      exact ⟨fun _ => trivial, fun _ => ⟨by decide, trivial⟩⟩
    have f174 : f_174 (told : Int) (ax_u2 (ax_u2 s1 74 11 0) 79 told 0) = s2 := by
      unfold f_174
      rw [e11, if_neg (by decide), hs2]
      rfl
    rw [f1, if_pos (by decide), gd_pos (by omega), Int.toNat_natCast, gd_pos g174, f174, Option.bind_some]
  -- the callers of each
  have go : ∀ (r i G : Nat) (s : Sg) (Q : Nat), i + r = S → i ≤ Q → DQ E S told s Q → MFR s0 s → (∀ j, j < i → ∀ c, c < M → s 80 j = ((tr c : Nat) : Int) → ∀ a : Nat, s0 76 c = (a : Int) → s 79 a ≠ -1) → ∃ (s' : Sg) (Q' : Nat), j_167_61 (G + r + 1) (i : Int) s = some s' ∧ DQ E S told s' Q' ∧ MFR s0 s' ∧ (∀ j, j < Q' → ∀ c, c < M → s' 80 j = ((tr c : Nat) : Int) → ∀ a : Nat, s0 76 c = (a : Int) → s' 79 a ≠ -1) := by
    intro r
    induction r with
    | zero =>
      intro i G s Q hr hi dq fr pr
      have qS : Q ≤ S := by rw [dq.2.2.1]; exact cnt_le S
      exact ⟨s, Q, by rw [j_167_61, dq.1, if_pos (by omega)], dq, fr, fun j hj => pr j (by omega)⟩
    | succ r ih =>
      intro i G s Q hr hi dq fr pr
      have hs : RGF sc s := fun b x => by rw [fr.1 b (by omega)]; exact hs0 b x
      by_cases d : Q ≤ i
      · exact ⟨s, Q, by rw [j_167_61, dq.1, if_pos (by omega)], dq, fr, fun j hj => pr j (by omega)⟩
      · obtain ⟨b, b1, b2⟩ := dq.2.1 i (by omega)
        have b79 : s 79 b ≠ -1 := by
          exact dq.2.2.2.2.2.2 i (by omega) b b1
        obtain ⟨p1, p2⟩ := c175 hs h54 hS8 b2
        have e75 : s 75 b = s0 75 b := by rw [fr.1 75 (by decide)]
        obtain ⟨H, hH⟩ := FU_split (k := M + 1) (by omega)
        obtain ⟨s', Q', y1, y2, y3, y4, y5, y6, y7⟩ := mea_in h54 hS8 hM hs0 hg hE (i := i) b2 (j_167_61 (G + r + 1)) (by omega) M 0 H (s0 75 b) s Q (by omega) (hg.2.2 b b2) dq fr b79 (fun c u v => absurd v (by omega))
        rw [show H + M + 1 = FU by omega] at y1
        have y1' : j_167_93 (j_167_61 (G + r + 1)) FU (i : Int) (b : Int) (s0 75 b) 0 s = _ := y1
        obtain ⟨s3, Q3, z1, z2, z3, z4⟩ := ih (i + 1) G s' Q' (by omega) (by omega) y2 y3 (fun j hj c hc e a ha => by
          rw [y5 j (by omega)] at e
          by_cases e2 : j = i
          · rw [e2, b1] at e
            exact y7 c hc (by omega) a ha
          · exact y6 a (pr j (by omega) c hc e a ha))
        refine ⟨s3, Q3, ?_, z2, z3, z4⟩
        rw [show G + (r + 1) + 1 = (G + r + 1) + 1 by omega, j_167_61, dq.1, if_neg (by omega), if_neg (by omega), gd_pos (by omega), Int.toNat_natCast, b1, gd_pos p1, p2, e75, y1', z1]
  obtain ⟨s3, Q3, e3, dq3, fr3, pr3⟩ := go S 0 (F + 1) s2 1 (by omega) (by omega) dq fr2 (fun j hj => absurd hj (by omega))
  rw [show F + 1 + S + 1 = FU by omega] at e3
  refine ⟨s3, ?_, fr3, fun a ha => ⟨fun y => (dq3.2.2.2.1 a ha y).2.1, fun y => ?_⟩, fun a ha y => (dq3.2.2.2.1 a ha y).1.1⟩
  · unfold f_167
    have e1' : j_167_2 FU (told : Int) 0 s0 = _ := e1
    rw [e1', e33]
    exact e3
  · have := WAY.clos (P := fun x => x < S → s3 79 x ≠ -1) y (fun _ => dq3.2.2.2.2.2.1) (fun x z ed h _ => by
      obtain ⟨xS, zS⟩ := hEb x z ed
      obtain ⟨c, c1, c2, c3⟩ := hE2 x z ed
      obtain ⟨_, _, j, j1, j2⟩ := dq3.2.2.2.1 z zS (h zS)
      exact pr3 j j1 c c1 (by rw [j2, c3]) x c2)
    exact this ha
end MEA
