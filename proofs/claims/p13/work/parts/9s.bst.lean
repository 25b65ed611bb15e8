/-! BODIES that are open, on both sides. -/
def BST (T : TT) (sc sm : Sg) (S A B D np : Nat) : Prop :=
  sc 70 9 = (D : Int) ∧ sm 84 43 = (D : Int) ∧ 1 ≤ D ∧ D ≤ 80 ∧ (∀ i, i < D → (sm 114 i = 0 ∨ sm 114 i = 1) ∧ (sc 71 i = 21 ↔ sm 114 i = 1) ∧ -1 ≤ sm 115 i ∧ sm 115 i < (A : Int) ∧ (0 ≤ sm 115 i → sm 106 (sm 115 i).toNat = 2)) ∧ (∀ i, i < D → 0 ≤ sc 72 i ∧ sc 72 i ≤ (B : Int) ∧ (1 ≤ i → (np : Int) ≤ sc 72 i)) ∧ (∀ i j, i ≤ j → j < D → sc 72 i ≤ sc 72 j) ∧ sm 84 46 = sm 115 (D - 1) ∧ sc 72 0 = 0 ∧ sm 114 0 = 0 ∧ np ≤ B ∧ (CN sc → BND T sc sm S (sm 84 46) B np ∧ ∀ i, 1 ≤ i → i < D → RST T sc sm np ((sc 72 i).toNat - np) (sm 115 (i - 1)))
section BSTS
variable {T : TT} {sc sm sc' sm' : Sg} {S A A' B D np : Nat}
theorem BST.rep (h : BST T sc sm S A B D np) : -1 ≤ sm 84 46 ∧ sm 84 46 < (A : Int) ∧ (0 ≤ sm 84 46 → sm 106 (sm 84 46).toNat = 2) := by
  obtain ⟨b1, b2, b3, b4, b5, b6, b7, b8, b9, b10, b11, b12⟩ := h
  obtain ⟨c1, c2, c3, c4, c5⟩ := b5 (D - 1) (by omega)
  rw [b8]
  exact ⟨c3, c4, c5⟩
/-- nothing of it is touched -/
theorem BST.cg (h : BST T sc sm S A B D np) (hA : A ≤ A') (r1 : sc' 70 9 = sc 70 9) (r2 : sc' 71 = sc 71) (r3 : sc' 72 = sc 72) (r4 : sc' 31 8 = sc 31 8) (r5 : sc' 38 = sc 38) (r6 : sc' 37 = sc 37) (m1 : sm' 84 43 = sm 84 43) (m2 : sm' 84 46 = sm 84 46) (m3 : sm' 114 = sm 114) (m4 : sm' 115 = sm 115) (m5 : sm' 98 S = sm 98 S) (m6 : sm' 99 S = sm 99 S) (m7 : sm' 104 = sm 104) (m8 : sm' 105 = sm 105) (m9 : ∀ i, i < A → sm' 107 i = sm 107 i ∧ sm' 113 i = sm 113 i) (m10 : ∀ i, i < A → sm' 106 i = sm 106 i) (cn : CN sc' → CN sc) : BST T sc' sm' S A' B D np := by
  obtain ⟨b1, b2, b3, b4, b5, b6, b7, b8, b9, b10, b11, b12⟩ := id h
  unfold BST
  rw [r1, r2, r3, m1, m2, m3, m4]
  refine ⟨b1, b2, b3, b4, fun i hi => ?_, b6, b7, b8, b9, b10, b11, fun y => ?_⟩
  · obtain ⟨c1, c2, c3, c4, c5⟩ := b5 i hi
    exact ⟨c1, c2, c3, by omega, fun z => by rw [m10 _ (by omega)]; exact c5 z⟩
  · obtain ⟨d1, d2⟩ := b12 (cn y)
    refine ⟨d1.rows r4 r5 r6 m5 m6 m7 m8 m9 h.rep.2.1, fun i x z => ?_⟩
    obtain ⟨c1, c2, c3, c4, c5⟩ := b5 (i - 1) (by omega)
    exact RST.cg m9 _ _ (fun i _ => ⟨by rw [r5], by rw [r6]⟩) c4 (d2 i x z)
/-- a body of an if or an else is opened -/
theorem BST.push (h : BST T sc sm S A B D np) {wd x : Int} (hA : A ≤ A') (hD : D < 80) (r1 : sc' 70 9 = ((D + 1 : Nat) : Int)) (r2 : ∀ i, i ≠ D → sc' 71 i = sc 71 i) (r2' : sc' 71 D = wd) (r3 : ∀ i, i ≠ D → sc' 72 i = sc 72 i) (r3' : sc' 72 D = (B : Int)) (r4 : sc' 31 8 = sc 31 8) (r5 : sc' 38 = sc 38) (r6 : sc' 37 = sc 37) (m1 : sm' 84 43 = ((D + 1 : Nat) : Int)) (m2 : sm' 84 46 = sm 84 46) (m3 : ∀ i, i ≠ D → sm' 114 i = sm 114 i) (m3' : sm' 114 D = x) (m4 : ∀ i, i ≠ D → sm' 115 i = sm 115 i) (m4' : sm' 115 D = sm 84 46) (m5 : sm' 98 S = sm 98 S) (m6 : sm' 99 S = sm 99 S) (m7 : sm' 104 = sm 104) (m8 : sm' 105 = sm 105) (m9 : ∀ i, i < A → sm' 107 i = sm 107 i ∧ sm' 113 i = sm 113 i) (m10 : ∀ i, i < A → sm' 106 i = sm 106 i) (hx : x = 0 ∨ x = 1) (hw : wd = 21 ↔ x = 1) (cn : CN sc' → CN sc) : BST T sc' sm' S A' B (D + 1) np := by
  obtain ⟨b1, b2, b3, b4, b5, b6, b7, b8, b9, b10, b11, b12⟩ := id h
  have hr := h.rep
  refine ⟨r1, m1, by omega, by omega, fun i hi => ?_, fun i hi => ?_, fun i j hi hj => ?_, ?_, by rw [r3 0 (by omega)]; exact b9, by rw [m3 0 (by omega)]; exact b10, b11, fun y => ?_⟩
  · by_cases e : i = D
    · subst e
      rw [m3', r2', m4']
      exact ⟨hx, hw, hr.1, by omega, fun z => by rw [m10 _ (by omega)]; exact hr.2.2 z⟩
    · rw [m3 i e, r2 i e, m4 i e]
      obtain ⟨c1, c2, c3, c4, c5⟩ := b5 i (by omega)
      exact ⟨c1, c2, c3, by omega, fun z => by rw [m10 _ (by omega)]; exact c5 z⟩
  · by_cases e : i = D
    · subst e
      rw [r3']
      exact ⟨by omega, by omega, fun _ => by omega⟩
    · rw [r3 i e]
      exact b6 i (by omega)
  · by_cases e : j = D
    · by_cases e2 : i = D
      · subst e; subst e2; exact Int.le_refl _
      · subst e
        rw [r3', r3 i e2]
        exact (b6 i (by omega)).2.1
    · rw [r3 i (by omega), r3 j e]
      exact b7 i j hi (by omega)
  · rw [m2, show D + 1 - 1 = D by omega, m4']
  · obtain ⟨d1, d2⟩ := b12 (cn y)
    rw [m2]
    refine ⟨d1.rows r4 r5 r6 m5 m6 m7 m8 m9 hr.2.1, fun i x z => ?_⟩
    by_cases e : i = D
    · subst e
      rw [r3', m4 (i - 1) (by omega), Int.toNat_natCast, ← b8]
      exact RST.cg m9 _ _ (fun i _ => ⟨by rw [r5], by rw [r6]⟩) hr.2.1 d1.2.2.2.2.2.2.2
    · obtain ⟨c1, c2, c3, c4, c5⟩ := b5 (i - 1) (by omega)
      rw [r3 i e, m4 (i - 1) (by omega)]
      exact RST.cg m9 _ _ (fun i _ => ⟨by rw [r5], by rw [r6]⟩) c4 (d2 i x (by omega))
/-- a body of a rep is opened -/
theorem BST.pushr (hT : TWF T) (h : BST T sc sm S A B D np) {x : Nat} (hx : x < T.z) (tx : T.tk x = 1) (hA8 : A < 8200) (hD : D < 80) (r1 : sc' 70 9 = ((D + 1 : Nat) : Int)) (r2 : ∀ i, i ≠ D → sc' 71 i = sc 71 i) (r2' : sc' 71 D = 23) (r3 : ∀ i, i ≠ D → sc' 72 i = sc 72 i) (r3' : sc' 72 D = (B : Int)) (r4 : sc' 31 8 = ((B + 1 : Nat) : Int)) (r5 : ∀ i, i ≠ B → sc' 38 i = sc 38 i) (r5' : sc' 38 B = (((T.vl x).toNat : Nat) : Int)) (r6 : ∀ i, i ≠ (T.vl x).toNat → sc' 37 i = sc 37 i) (r6' : sc' 37 (T.vl x).toNat = 8) (m1 : sm' 84 43 = ((D + 1 : Nat) : Int)) (m2 : sm' 84 46 = (A : Int)) (m3 : ∀ i, i ≠ D → sm' 114 i = sm 114 i) (m3' : sm' 114 D = 0) (m4 : ∀ i, i ≠ D → sm' 115 i = sm 115 i) (m4' : sm' 115 D = (A : Int)) (m5 : sm' 98 S = sm 98 S) (m6 : sm' 99 S = sm 99 S) (m7 : sm' 104 = sm 104) (m8 : sm' 105 = sm 105) (m9 : ∀ i, i < A → sm' 107 i = sm 107 i ∧ sm' 113 i = sm 113 i) (m10 : ∀ i, i < A → sm' 106 i = sm 106 i) (n6 : sm' 106 A = 2) (n7 : sm' 107 A = (x : Int)) (n13 : sm' 113 A = sm 84 46) (cn : CN sc' → CN sc ∧ sc 37 (T.vl x).toNat = 0) : BST T sc' sm' S (A + 1) (B + 1) (D + 1) np := by
  obtain ⟨b1, b2, b3, b4, b5, b6, b7, b8, b9, b10, b11, b12⟩ := id h
  have hr := h.rep
  have v1 := hT.2.2.2.2.1 x hx
  have v2 := hT.2.2.2.2.2.1 x hx tx
  refine ⟨r1, m1, by omega, by omega, fun i hi => ?_, fun i hi => ?_, fun i j hi hj => ?_, ?_, by rw [r3 0 (by omega)]; exact b9, by rw [m3 0 (by omega)]; exact b10, by omega, fun y => ?_⟩
  · by_cases e : i = D
    · subst e
      rw [m3', r2', m4', Int.toNat_natCast]
      exact ⟨Or.inl rfl, by decide, by omega, by omega, fun z => n6⟩
    · rw [m3 i e, r2 i e, m4 i e]
      obtain ⟨c1, c2, c3, c4, c5⟩ := b5 i (by omega)
      exact ⟨c1, c2, c3, by omega, fun z => by rw [m10 _ (by omega)]; exact c5 z⟩
  · by_cases e : i = D
    · subst e
      rw [r3']
      exact ⟨by omega, by omega, fun _ => by omega⟩
    · rw [r3 i e]
      obtain ⟨c1, c2, c3⟩ := b6 i (by omega)
      exact ⟨c1, by omega, c3⟩
  · by_cases e : j = D
    · by_cases e2 : i = D
      · subst e; subst e2; exact Int.le_refl _
      · subst e
        rw [r3', r3 i e2]
        exact (b6 i (by omega)).2.1
    · rw [r3 i (by omega), r3 j e]
      exact b7 i j hi (by omega)
  · rw [m2, show D + 1 - 1 = D by omega, m4']
  · obtain ⟨cn1, cn2⟩ := cn y
    obtain ⟨d1, d2⟩ := b12 cn1
    obtain ⟨f1, f2, f3, f4, f5, f6, f7, f8⟩ := id d1
    have nb : ∀ i, i < B → sc 38 i ≠ (((T.vl x).toNat : Nat) : Int) := fun i hi e => by
      obtain ⟨id, g1, g2, g3⟩ := f3 i hi
      have : id = (T.vl x).toNat := by omega
      rw [this] at g3
      exact g3 cn2
    have k38 : ∀ i, i < B → sc' 38 i = sc 38 i := fun i hi => r5 i (by omega)
    have k37 : ∀ i, i < B → sc' 37 (sc 38 i).toNat = sc 37 (sc 38 i).toNat := fun i hi => by
      obtain ⟨id, g1, g2, g3⟩ := f3 i hi
      exact r6 _ (by have := nb i hi; omega)
    rw [m2]
    refine ⟨?_, fun i x z => ?_⟩
    · unfold BND
      rw [m5, m6, m7, m8]
      refine ⟨r4, by omega, fun i hi => ?_, fun i j hi hj e => ?_, fun id hid z => ?_, fun i hi => ?_, fun p p1 p2 p3 => ?_, ?_⟩
      · by_cases e : i = B
        · subst e
          exact ⟨(T.vl x).toNat, r5', by omega, by rw [r6']; decide⟩
        · obtain ⟨id, g1, g2, g3⟩ := f3 i (by omega)
          have := k37 i (by omega)
          rw [g1, Int.toNat_natCast] at this
          exact ⟨id, by rw [k38 i (by omega)]; exact g1, g2, by rw [this]; exact g3⟩
      · by_cases e1 : i = B
        · by_cases e2 : j = B
          · omega
          · rw [e1, r5', k38 j (by omega)] at e
            exact absurd e.symm (nb j (by omega))
        · by_cases e2 : j = B
          · rw [e2, r5', k38 i (by omega)] at e
            exact absurd e (nb i (by omega))
          · rw [k38 i (by omega), k38 j (by omega)] at e
            exact f4 i j (by omega) (by omega) e
      · by_cases e : id = (T.vl x).toNat
        · exact ⟨B, by omega, by rw [r5', e]⟩
        · rw [r6 id e] at z
          obtain ⟨i, g1, g2⟩ := f5 id hid z
          exact ⟨i, by omega, by rw [k38 i g1]; exact g2⟩
      · obtain ⟨p, g1, g2, g3, g4, g5⟩ := f6 i hi
        exact ⟨p, g1, g2, g3, by rw [k38 i (by omega)]; exact g4, by rw [k38 i (by omega), k37 i (by omega)]; exact g5⟩
      · obtain ⟨i, g1, g2⟩ := f7 p p1 p2 p3
        exact ⟨i, g1, by rw [k38 i (by omega)]; exact g2⟩
      · rw [show B + 1 - np = (B - np) + 1 by omega]
        refine ⟨A, rfl, hA8, ?_, ?_, by rw [n13]; exact hr.2.1, ?_⟩
        · rw [n7, Int.toNat_natCast, show np + (B - np) = B by omega, r5']
          omega
        · rw [show np + (B - np) = B by omega, r5', Int.toNat_natCast]
          exact r6'
        · rw [n13]
          exact RST.cg m9 _ _ (fun i hi => ⟨k38 _ (by omega), k37 _ (by omega)⟩) hr.2.1 f8
    · by_cases e : i = D
      · subst e
        rw [r3', m4 (i - 1) (by omega), Int.toNat_natCast, ← b8]
        exact RST.cg m9 _ _ (fun i hi => ⟨k38 _ (by omega), k37 _ (by omega)⟩) hr.2.1 f8
      · obtain ⟨c1, c2, c3, c4, c5⟩ := b5 (i - 1) (by omega)
        obtain ⟨g1, g2, g3⟩ := b6 i (by omega)
        rw [r3 i e, m4 (i - 1) (by omega)]
        exact RST.cg m9 _ _ (fun j hj => ⟨k38 _ (by omega), k37 _ (by omega)⟩) c4 (d2 i x (by omega))
/-- a body is closed -/
theorem BST.pop (hT : TWF T) (h : BST T sc sm S A B D np) (hD : 2 ≤ D) {M : Nat} (hM : sc 72 (D - 1) = (M : Int)) (r1 : sc' 70 9 = ((D - 1 : Nat) : Int)) (r2 : sc' 71 = sc 71) (r3 : sc' 72 = sc 72) (r4 : sc' 31 8 = (M : Int)) (r5 : sc' 38 = sc 38) (r6 : ∀ i, M ≤ i → i < B → 0 ≤ sc 38 i → sc 38 i < 4112 → sc' 37 (sc 38 i).toNat = 0) (r7 : ∀ id : Nat, (∀ i, M ≤ i → i < B → sc 38 i ≠ (id : Int)) → sc' 37 id = sc 37 id) (m1 : sm' 84 43 = ((D - 1 : Nat) : Int)) (m2 : sm' 84 46 = sm 115 (D - 2)) (mr : ∀ c, c ≠ 84 → sm' c = sm c) (cn : CN sc' → CN sc) : BST T sc' sm' S A M (D - 1) np := by
  obtain ⟨b1, b2, b3, b4, b5, b6, b7, b8, b9, b10, b11, b12⟩ := id h
  have hMB := b6 (D - 1) (by omega)
  have r37 : ∀ (x : Nat), ∀ i, i < M → True := fun _ _ _ => trivial
  unfold BST
  rw [r2, r3, mr 114 (by decide), mr 115 (by decide), mr 106 (by decide)]
  refine ⟨r1, m1, by omega, by omega, fun i hi => b5 i (by omega), fun i hi => ?_, fun i j hi hj => b7 i j hi (by omega), by rw [m2, show D - 1 - 1 = D - 2 by omega], b9, b10, by omega, fun y => ?_⟩
  · obtain ⟨g1, g2, g3⟩ := b6 i (by omega)
    have := b7 i (D - 1) (by omega) (by omega)
    exact ⟨g1, by omega, g3⟩
  · obtain ⟨d1, d2⟩ := b12 (cn y)
    obtain ⟨f1, f2, f3, f4, f5, f6, f7, f8⟩ := id d1
    have hm := hT.2.2.2.2.2.2
    have k37 : ∀ i, i < M → sc' 37 (sc 38 i).toNat = sc 37 (sc 38 i).toNat := fun i hi => by
      obtain ⟨id, g1, g2, g3⟩ := f3 i (by omega)
      refine r7 _ (fun j h1 h2 e => ?_)
      rw [g1, Int.toNat_natCast] at e
      have := f4 i j (by omega) h2 (by rw [g1, e])
      omega
    have h7 : ∀ i, i < 8200 → sm' 107 i = sm 107 i ∧ sm' 113 i = sm 113 i := fun i _ => ⟨by rw [mr 107 (by decide)], by rw [mr 113 (by decide)]⟩
    have hr0 : RST T sc sm np (M - np) (sm 115 (D - 2)) := by
      have := d2 (D - 1) (by omega) (by omega)
      rw [hM, Int.toNat_natCast, show D - 1 - 1 = D - 2 by omega] at this
      exact this
    rw [m2]
    refine ⟨?_, fun i x z => ?_⟩
    · unfold BND
      rw [r5, mr 98 (by decide), mr 99 (by decide), mr 104 (by decide), mr 105 (by decide)]
      refine ⟨r4, by omega, fun i hi => ?_, fun i j hi hj e => f4 i j (by omega) (by omega) e, fun id hid z => ?_, fun i hi => ?_, f7, ?_⟩
      · obtain ⟨id, g1, g2, g3⟩ := f3 i (by omega)
        have := k37 i hi
        rw [g1, Int.toNat_natCast] at this
        exact ⟨id, g1, g2, by rw [this]; exact g3⟩
      · by_cases u : ∃ i, M ≤ i ∧ i < B ∧ sc 38 i = (id : Int)
        · obtain ⟨i, u1, u2, u3⟩ := u
          have hid' := hid.lt hT
          have := r6 i u1 u2 (by omega) (by omega)
          rw [u3, Int.toNat_natCast] at this
          exact absurd this z
        · rw [r7 id (fun i h1 h2 e => u ⟨i, h1, h2, e⟩)] at z
          obtain ⟨i, g1, g2⟩ := f5 id hid z
          refine ⟨i, ?_, g2⟩
          apply Decidable.byContradiction
          intro hn
          exact u ⟨i, by omega, g1, g2⟩
      · obtain ⟨p, g1, g2, g3, g4, g5⟩ := f6 i hi
        exact ⟨p, g1, g2, g3, g4, by rw [k37 i (by omega)]; exact g5⟩
      · exact RST.cg h7 _ _ (fun i hi => ⟨by rw [r5], k37 _ (by omega)⟩) (rst_r _ _ hr0) hr0
    · obtain ⟨g1, g2, g3⟩ := b6 i (by omega)
      have g4 := b7 i (D - 1) (by omega) (by omega)
      have := d2 i x (by omega)
      exact RST.cg h7 _ _ (fun j hj => ⟨by rw [r5], k37 _ (by omega)⟩) (rst_r _ _ this) this
end BSTS
