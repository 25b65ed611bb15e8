/-! PARAMETERS of a helper. -/
/-- j parameters have been read; h is the helper's NAME -/
def PLS (T : TT) (sc1 m1 sc m : Sg) (h S P j : Nat) : Prop :=
  (∀ c, ¬ (c = 30 ∨ c = 31 ∨ c = 37 ∨ c = 38 ∨ c = 39 ∨ c = 58) → sc c = sc1 c) ∧ (∀ k, k ≠ 10 → k ≠ 11 → sc 39 k = sc1 39 k) ∧ (∀ k, k < 4 ∨ 7 < k → sc 30 k = sc1 30 k) ∧ (∀ k, k ≠ 8 → sc 31 k = sc1 31 k) ∧ (∀ i, i ≠ S → sc 58 i = sc1 58 i) ∧ sc 31 8 = (j : Int) ∧ sc 58 S = (j : Int) ∧
  (∀ c, ¬ (c = 84 ∨ c = 99 ∨ c = 104 ∨ c = 105) → m c = m1 c) ∧ (∀ k, k ≠ 18 → k ≠ 31 → m 84 k = m1 84 k) ∧ (∀ i, i ≠ S → m 99 i = m1 99 i) ∧ (∀ c p, 104 ≤ c → c ≤ 105 → p < P → m c p = m1 c p) ∧ m 84 31 = ((P + j : Nat) : Int) ∧ m 99 S = (j : Int) ∧
  (∀ i, i < j → m 104 (P + i) = ((h + 2 + 3 * i : Nat) : Int) ∧ m 105 (P + i) = ((h + 3 + 3 * i : Nat) : Int) ∧ h + 3 + 3 * i < T.z ∧ T.tk (h + 2 + 3 * i) = 1 ∧ T.tk (h + 3 + 3 * i) = 2) ∧
  (CN sc ↔ CN sc1 ∧ GPT T sc1 m P j) ∧ (CN sc → (∀ i, i < j → sc 38 i = T.vl (h + 2 + 3 * i)) ∧ (∀ i, i < j → sc 37 (T.vl (h + 2 + 3 * i)).toNat = (if mn (T.vl (h + 3 + 3 * i)) < 1 then 1 else mn (T.vl (h + 3 + 3 * i)))) ∧ (∀ id, IDN T id → sc 37 id ≠ 0 → ∃ i, i < j ∧ T.vl (h + 2 + 3 * i) = (id : Int)))
section PL
variable {T : TT} {sc1 m1 sc m : Sg} {h S P j a : Nat}
/-- one more -/
theorem par_step (hT : TWF T) (hz : T.z ≤ 8192) (hS : S < 1171) (hP : P + j < 8200) (h54 : sc1 54 6 = ((S + 1 : Nat) : Int)) (hc : CC T sc1) (hM : MC T m1) (hf : m1 84 6 = 0) (hh : 1 ≤ h) (H : PLS T sc1 m1 sc m h S P j) (ha : a = h + 2 + 3 * j) (hu : CU T sc a) (hm : m 84 18 = (a : Int)) (t1 : T.tk a = 1) (t2 : T.tk (a + 1) = 2) :
    ∃ sc' m' : Sg, f_157 sc = some (.inl sc') ∧ CU T sc' (a + 2) ∧ (∀ F : Nat, j_253_47 (F + 1) (S : Int) 1 m = (gd (g_252 8 m') ((some (f_252 8 m')).bind fun q10 => (j_253_47 F) (S : Int) q10.1 q10.2))) ∧ m' 84 18 = ((a + 2 : Nat) : Int) ∧ PLS T sc1 m1 sc' m' h S P (j + 1) := by
  obtain ⟨r1, r2, r3, r4, r5, r6, r7, k1, k2, k3, k4, k5, k6, g1, g2, g3⟩ := id H
  have hz0 := hT.lt hu.2.2 (by rw [t1]; decide)
  have hz1 := hT.lt (show a + 1 ≤ T.z by omega) (by rw [t2]; decide)
  have hv0 := hT.2.2.2.2.1 a hz0
  have hvm := hT.2.2.2.2.2.1 a hz0 t1
  have hm8 := hT.2.2.2.2.2.2
  have sf : SFc sc1 sc := ⟨fun c x => r1 c (by omega), r2, r3, r4, W8.of r6 (by omega)⟩
  have cc := sf.cc hc
  have sfm : SFm m1 m := ⟨fun c x => k1 c (by omega), fun k x => k2 k (by omega) (by omega)⟩
  have mc := sfm.mc hM
  have fm : m 84 6 = 0 := by rw [k2 6 (by decide) (by decide)]; exact hf
  have cc1 := cur_cc (a := a + 1) cc
  have cu1 : CU T (cur T sc (a + 1)) (a + 1) := cur_cu (by omega)
  obtain ⟨s2, n1, n2, n3, n4⟩ := c93 (lo := 1) (hi := 32) hT cc1 cu1 t2
  have cc2 : CC T (cur T s2 (a + 2)) := cur_cc ((ef30 n3 n4).cc cc1)
  have rc : ∀ c, c ≠ 39 → c ≠ 30 → (cur T s2 (a + 2)) c = sc c := fun c x y => by rw [cur_row x, n3 c y, cur_row x]
  obtain ⟨s3, b1, b2, b3⟩ := c155 (x := a) (w := mn (T.vl (a + 1))) (B := j) hT cc2 hz0 t1 (by rw [rc 31 (by decide) (by decide)]; exact r6) (by omega)
  obtain ⟨d1, d2, d3, d4, d5, d6, d7, d8⟩ := b2
  have s354 : s3 54 6 = ((S + 1 : Nat) : Int) := by rw [d7 54 (by omega), rc 54 (by decide) (by decide), r1 54 (by omega)]; exact h54
  obtain ⟨⟨e1, e2⟩, _, _⟩ := c181 s354 hS 1
  have s358 : s3 58 S = (j : Int) := by rw [d7 58 (by omega), rc 58 (by decide) (by decide)]; exact r7
  rw [s358, w32_nat (by omega)] at e2
  have r37 : (cur T s2 (a + 2)) 37 = sc 37 := rc 37 (by decide) (by decide)
  have r38 : (cur T s2 (a + 2)) 38 = sc 38 := rc 38 (by decide) (by decide)
  obtain ⟨m', hm'⟩ : ∃ m' : Sg, m' = ax_u2 (ax_u2 (ax_u2 (adv (ax_u2 (adv m (a + 1)) 104 (P + j) (a : Int)) (a + 2)) 105 (P + j) ((a + 1 : Nat) : Int)) 84 31 ((P + j + 1 : Nat) : Int)) 99 S ((j + 1 : Nat) : Int) := ⟨_, rfl⟩
  have rm : ∀ c, ¬ (c = 84 ∨ c = 99 ∨ c = 104 ∨ c = 105) → m' c = m c := fun c x => by rw [hm', u2_row _ _ _ (by omega), u2_row _ _ _ (by omega), u2_row _ _ _ (by omega), adv_row (by omega), u2_row _ _ _ (by omega), adv_row (by omega)]
  have e104 : ∀ p, m' 104 p = if p = P + j then (a : Int) else m 104 p := fun p => by rw [hm']; simp [ax_u2, adv]
  have e105 : ∀ p, m' 105 p = if p = P + j then ((a + 1 : Nat) : Int) else m 105 p := fun p => by rw [hm']; simp [ax_u2, adv]
  refine ⟨ax_u2 s3 58 S ((j + 1 : Nat) : Int), m', ?_, ?_, fun F => ?_, by rw [hm']; simp [ax_u2, adv], ?_⟩
  · unfold f_157
    rw [c96y hT cc hu t1]
    show xb (f_93 1 32 (cur T sc (a + 1))) _ = _
    rw [n1, hu.1]
    show (f_155 (T.vl a) (a : Int) (mn (T.vl (a + 1))) (cur T s2 (a + 2))).bind _ = _
    rw [b1, Option.bind_some, gd_pos e1, e2]
    rfl
  · have := cur_cu (T := T) (s := s2) (a := a + 2) (by omega)
    unfold CU at *
    rw [u2_row _ _ _ (by decide), d7 39 (by omega)]
    exact this
  · have mA : MC T (ax_u2 (adv m (a + 1)) 104 (P + j) (a : Int)) := (adv_mc mc).row (by simp [ax_u2]) (u2_row _ _ _ (by decide))
    rw [j_253_47, if_neg (by simp [fm]), if_neg (by decide), takeY mc hT fm hm hu.2.2 (k := 1) (by decide) t1, Option.bind_some, k5, gd_pos (by omega), Int.toNat_natCast]
    dsimp only
    rw [takeY mA hT (by rw [u2_row _ _ _ (by decide), adv_col (by decide)]; exact fm) (by rw [u2_row _ _ _ (by decide)]; exact adv_at) (by omega) (k := 2) (by decide) t2, Option.bind_some]
    dsimp only
    have x31 : (adv m (a + 1)) 84 31 = ((P + j : Nat) : Int) := by rw [adv_col (by decide)]; exact k5
    have y31 : (adv (ax_u2 (adv m (a + 1)) 104 (P + j) (a : Int)) (a + 1 + 1)) 84 31 = ((P + j : Nat) : Int) := by rw [adv_col (by decide), u2_row _ _ _ (by decide)]; exact x31
    have y99 : (adv (ax_u2 (adv m (a + 1)) 104 (P + j) (a : Int)) (a + 1 + 1)) 99 S = (j : Int) := by rw [adv_row (by decide), u2_row _ _ _ (by decide), adv_row (by decide)]; exact k6
    rw [x31, gd_pos (by omega), gd_pos (by omega), gd_pos (by omega), Int.toNat_natCast, Int.toNat_natCast, y31, y99, w32_nat (by omega), w32_nat (by omega), hm']
  · refine ⟨fun c x => ?_, fun k x y => ?_, fun k x => ?_, fun k x => ?_, fun i x => ?_, ?_, u2_same _ _ _ _, fun c x => by rw [rm c x]; exact k1 c x, fun k x y => ?_, fun i x => ?_, fun c p x y z => ?_, ?_, ?_, fun i hi => ?_, ?_, ?_⟩
    · rw [u2_row _ _ _ (by omega), d7 c (by omega), rc c (by omega) (by omega)]; exact r1 c x
    · rw [u2_row _ _ _ (by decide), d7 39 (by omega), cur_col x y, n3 39 (by decide), cur_col x y]; exact r2 k x y
    · rw [u2_row _ _ _ (by decide), d8 k x, cur_row (by decide), n4 k x, cur_row (by decide)]; exact r3 k x
    · rw [u2_row _ _ _ (by decide), d6 k x, rc 31 (by decide) (by decide)]; exact r4 k x
    · rw [u2_col _ _ _ x, d7 58 (by omega), rc 58 (by decide) (by decide)]; exact r5 i x
    · rw [u2_row _ _ _ (by decide)]; exact d1
    · rw [hm', u2_row _ _ _ (by decide), u2_col _ _ _ y, u2_row _ _ _ (by decide), adv_col x, u2_row _ _ _ (by decide), adv_col x]; exact k2 k x y
    · rw [hm', u2_col _ _ _ x, u2_row _ _ _ (by decide), u2_row _ _ _ (by decide), adv_row (by decide), u2_row _ _ _ (by decide), adv_row (by decide)]; exact k3 i x
    · have : c = 104 ∨ c = 105 := by omega
      rcases this with rfl | rfl
      · rw [e104, if_neg (by omega)]; exact k4 104 p x y z
      · rw [e105, if_neg (by omega)]; exact k4 105 p x y z
    · rw [hm', u2_row _ _ _ (by decide), u2_same]; rfl
    · rw [hm']; exact u2_same _ _ _ _
    · rw [e104, e105]
      by_cases e : i = j
      · subst e
        rw [if_pos rfl, if_pos rfl]
        exact ⟨by omega, by omega, by omega, by rw [← ha]; exact t1, by rw [show h + 3 + 3 * i = a + 1 by omega]; exact t2⟩
      · rw [if_neg (by omega), if_neg (by omega)]
        exact g1 i (by omega)
    · have c1 : CN (ax_u2 s3 58 S ((j + 1 : Nat) : Int)) ↔ CN s3 := by unfold CN; rw [u2_row _ _ _ (by decide)]
      have c2 : CN (cur T s2 (a + 2)) ↔ CN s2 := by unfold CN; rw [cur_row (by decide)]
      have c3 : CN (cur T sc (a + 1)) ↔ CN sc := by unfold CN; rw [cur_row (by decide)]
      rw [c1, b3, c2, n2, c3, r37]
      have old : ∀ p, P ≤ p → p < P + j → m' 104 p = m 104 p ∧ m' 105 p = m 105 p := fun p x y => ⟨by rw [e104, if_neg (by omega)], by rw [e105, if_neg (by omega)]⟩
      have n104 : m' 104 (P + j) = (a : Int) := by rw [e104, if_pos rfl]
      have n105 : m' 105 (P + j) = ((a + 1 : Nat) : Int) := by rw [e105, if_pos rfl]
      constructor
      · intro ⟨⟨y1, y2⟩, y3⟩
        obtain ⟨z1, z2⟩ := g2.mp y1
        obtain ⟨w1, w2, w3⟩ := g3 y1
        refine ⟨z1, fun p q1 q2 => ?_⟩
        by_cases e : p = P + j
        · subst e
          rw [n104, n105, Int.toNat_natCast, Int.toNat_natCast]
          refine ⟨fun _ => y2, fun y => absurd y (by omega), fun q q3 q4 _ _ hq => ?_⟩
          rw [(old q q3 (by omega)).1] at hq
          obtain ⟨o1, o2, o3, o4, o5⟩ := g1 (q - P) (by omega)
          rw [show P + (q - P) = q by omega] at o1
          rw [o1, Int.toNat_natCast] at hq
          have hw := w2 (q - P) (by omega)
          rw [← hq, y3] at hw
          split at hw <;> omega
        · obtain ⟨u1, u2, u3⟩ := z2 p q1 (by omega)
          rw [(old p q1 (by omega)).1, (old p q1 (by omega)).2]
          exact ⟨u1, u2, fun q q3 q4 => by rw [(old q q3 (by omega)).1]; exact u3 q q3 q4⟩
      · intro ⟨y1, y2⟩
        have gj : GPT T sc1 m P j := fun p q1 q2 => by
          obtain ⟨u1, u2, u3⟩ := y2 p q1 (by omega)
          rw [(old p q1 q2).1, (old p q1 q2).2] at u1
          rw [(old p q1 q2).1, (old p q1 q2).2] at u2
          refine ⟨u1, u2, fun q q3 q4 => ?_⟩
          have := u3 q q3 q4
          rw [(old p q1 q2).1, (old q q3 (by omega)).1] at this
          exact this
        have cs : CN sc := g2.mpr ⟨y1, gj⟩
        obtain ⟨w1, w2, w3⟩ := g3 cs
        obtain ⟨u1, u2, u3⟩ := y2 (P + j) (by omega) (by omega)
        rw [n104, n105, Int.toNat_natCast] at u1
        refine ⟨⟨cs, u1 (by omega)⟩, ?_⟩
        apply Decidable.byContradiction
        intro hne
        obtain ⟨i, i1, i2⟩ := w3 (T.vl a).toNat (IDN.at hT hz0 t1) hne
        have := u3 (P + i) (by omega) (by omega)
        rw [n104, (old (P + i) (by omega) (by omega)).1, (g1 i i1).1, Int.toNat_natCast, Int.toNat_natCast] at this
        exact this (by omega) (by omega) (by omega)
    · intro cn
      have c1 : CN (ax_u2 s3 58 S ((j + 1 : Nat) : Int)) ↔ CN s3 := by unfold CN; rw [u2_row _ _ _ (by decide)]
      have c2 : CN (cur T s2 (a + 2)) ↔ CN s2 := by unfold CN; rw [cur_row (by decide)]
      have c3 : CN (cur T sc (a + 1)) ↔ CN sc := by unfold CN; rw [cur_row (by decide)]
      rw [c1, b3, c2, n2, c3, r37] at cn
      obtain ⟨⟨y1, y2⟩, y3⟩ := cn
      obtain ⟨w1, w2, w3⟩ := g3 y1
      rw [u2_row _ _ _ (by decide), u2_row _ _ _ (by decide)]
      have nid : ∀ i, i < j → T.vl (h + 2 + 3 * i) ≠ T.vl a := fun i hi hq => by
        have hw := w2 i hi
        rw [hq, y3] at hw
        split at hw <;> omega
      have nn : ∀ i, i < j → 0 ≤ T.vl (h + 2 + 3 * i) := fun i hi => (hT.2.2.2.2.1 _ (by have := (g1 i hi).2.2.1; omega)).1
      refine ⟨fun i hi => ?_, fun i hi => ?_, fun id hid hne => ?_⟩
      · by_cases e : i = j
        · subst e
          rw [d2, ← ha]
          omega
        · rw [d4 i e, r38]
          exact w1 i (by omega)
      · by_cases e : i = j
        · subst e
          rw [← ha, d3, show h + 3 + 3 * i = a + 1 by omega]
        · have x1 := nid i (by omega)
          have x2 := nn i (by omega)
          rw [d5 _ (by omega), r37]
          exact w2 i (by omega)
      · by_cases e : id = (T.vl a).toNat
        · exact ⟨j, by omega, by rw [← ha, e]; omega⟩
        · rw [d5 id e, r37] at hne
          obtain ⟨i, i1, i2⟩ := w3 id hid hne
          exact ⟨i, by omega, i2⟩
end PL
