/-! AN INSTRUCTION's parts: named ones; the reference's steps. -/
section NMD
variable {T : TT} {s m : Sg} {a S P j B : Nat}
theorem SFc.cx {s' : Sg} (h : SFc s s') (k : CX T s) : CX T s' := by
  unfold CX at *
  rw [h.2.1 8 (by decide) (by decide), h.1 43 (by decide)]
  exact k
/-- a named part, the class -/
theorem c159 (hT : TWF T) (hc : CC T s) (hu : CU T s a) (t0 : T.tk a = 1) (t1 : T.tk (a + 1) = 58) (t2 : T.tk (a + 2) = 2) (hS : s 54 6 = ((S + 1 : Nat) : Int)) (hS8 : S < 1171) (hB : s 31 8 = (B : Int)) (hB8 : B < 4112) :
    ∃ s' : Sg, f_159 s = some (.inl s') ∧ CU T s' (a + 3) ∧ s' 31 8 = ((B + 1 : Nat) : Int) ∧ s' 38 B = T.vl a ∧ s' 37 (T.vl a).toNat = (if mn (T.vl (a + 2)) < 1 then 1 else mn (T.vl (a + 2))) ∧ (∀ i, i ≠ B → s' 38 i = s 38 i) ∧ (∀ i, i ≠ (T.vl a).toNat → s' 37 i = s 37 i) ∧ (∀ j, j ≠ 8 → s' 31 j = s 31 j) ∧ s' 57 S = ax_w32 (s 57 S + mn (T.vl (a + 2))) ∧ (∀ i, i ≠ S → s' 57 i = s 57 i) ∧ (∀ c, ¬ (c = 30 ∨ c = 31 ∨ c = 37 ∨ c = 38 ∨ c = 39 ∨ c = 57) → s' c = s c) ∧ (∀ j, j ≠ 10 → j ≠ 11 → s' 39 j = s 39 j) ∧ (∀ j, j < 4 ∨ 7 < j → s' 30 j = s 30 j) ∧ (CN s' ↔ CN s ∧ (1 ≤ T.vl (a + 2) ∧ T.vl (a + 2) ≤ 32) ∧ s 37 (T.vl a).toNat = 0) := by
  have hz0 := hT.lt hu.2.2 (by rw [t0]; decide)
  have hz1 := hT.lt (show a + 1 ≤ T.z by omega) (by rw [t1]; decide)
  have hz2 := hT.lt (show a + 2 ≤ T.z by omega) (by rw [t2]; decide)
  have hv := hT.2.2.2.2.1 a hz0
  have cc1 := cur_cc (a := a + 1) hc
  have cu1 : CU T (cur T s (a + 1)) (a + 1) := cur_cu (by omega)
  have cc2 := cur_cc (a := a + 2) cc1
  have cu2 : CU T (cur T (cur T s (a + 1)) (a + 2)) (a + 2) := cur_cu (by omega)
  obtain ⟨s2, n1, n2, n3, n4⟩ := c93 (lo := 1) (hi := 32) hT cc2 cu2 t2
  have cc3 : CC T (cur T s2 (a + 3)) := cur_cc ((ef30 n3 n4).cc cc2)
  have rc : ∀ c, c ≠ 39 → c ≠ 30 → (cur T s2 (a + 3)) c = s c := fun c x y => by rw [cur_row x, n3 c y, cur_row x, cur_row x]
  obtain ⟨s3, b1, b2, b3⟩ := c155 (x := a) (w := mn (T.vl (a + 2))) (B := B) hT cc3 hz0 t0 (by rw [rc 31 (by decide) (by decide)]; exact hB) hB8
  obtain ⟨d1, d2, d3, d4, d5, d6, d7, d8⟩ := b2
  obtain ⟨_, ⟨g1, g2⟩, _⟩ := c181 (s := s3) (S := S) (by rw [d7 54 (by decide), rc 54 (by decide) (by decide)]; exact hS) hS8 (mn (T.vl (a + 2)))
  obtain ⟨s4, hs4⟩ : ∃ s4 : Sg, s4 = ax_u2 s3 57 S (ax_w32 (s3 57 S + mn (T.vl (a + 2)))) := ⟨_, rfl⟩
  have r4 : ∀ c, c ≠ 57 → s4 c = s3 c := fun c x => by rw [hs4]; exact u2_row _ _ _ x
  refine ⟨s4, ?_, ?_, ?_, ?_, ?_, ?_, ?_, ?_, ?_, ?_, ?_, ?_, ?_, ?_⟩
  · unfold f_159
    rw [c96y hT hc hu t0, xb_inl]
    show (xb (f_92 58 (cur T s (a + 1))) fun q2 => _) = _
    rw [c92y hT cc1 cu1 t1 (by decide), xb_inl, n1, xb_inl]
    show ((f_155 (T.vl a) (s 39 10) (mn (T.vl (a + 2))) (cur T s2 (a + 3))).bind fun q4 => _) = _
    rw [hu.1, b1, Option.bind_some]
    show gd (g_190 (mn (T.vl (a + 2))) s3) _ = _
    rw [gd_pos g1, g2, Option.bind_some, ← hs4]
  · have := cur_cu (T := T) (s := s2) (a := a + 3) (by omega)
    unfold CU at *
    rw [r4 39 (by decide), d7 39 (by decide)]
    exact this
  · rw [r4 31 (by decide)]; exact d1
  · rw [r4 38 (by decide), d2]; omega
  · rw [r4 37 (by decide)]; exact d3
  · intro i hi; rw [r4 38 (by decide), d4 i hi, rc 38 (by decide) (by decide)]
  · intro i hi; rw [r4 37 (by decide), d5 i hi, rc 37 (by decide) (by decide)]
  · intro j hj; rw [r4 31 (by decide), d6 j hj, rc 31 (by decide) (by decide)]
  · rw [hs4, u2_same, d7 57 (by decide), rc 57 (by decide) (by decide)]
  · intro i hi; rw [hs4, u2_col _ _ _ hi, d7 57 (by decide), rc 57 (by decide) (by decide)]
  · intro c x; rw [r4 c (by omega), d7 c (by omega), rc c (by omega) (by omega)]
  · intro j x y; rw [r4 39 (by decide), d7 39 (by decide), cur_col x y, n3 39 (by decide), cur_col x y, cur_col x y]
  · intro j x; rw [r4 30 (by decide), d8 j x, cur_row (by decide), n4 j x, cur_row (by decide), cur_row (by decide)]
  · have e1 : CN s4 ↔ CN s3 := by unfold CN; rw [r4 30 (by decide)]
    have e2 : CN (cur T s2 (a + 3)) ↔ CN s2 := by unfold CN; rw [cur_row (by decide)]
    have e3 : CN (cur T (cur T s (a + 1)) (a + 2)) ↔ CN s := by unfold CN; rw [cur_row (by decide), cur_row (by decide)]
    rw [e1, b3, e2, n2, e3, rc 37 (by decide) (by decide)]
    exact ⟨fun ⟨⟨x, y⟩, z⟩ => ⟨x, y, z⟩, fun ⟨x, y, z⟩ => ⟨⟨x, y⟩, z⟩⟩
theorem c159n (hT : TWF T) (hc : CC T s) (hu : CU T s a) (t0 : T.tk a = 1) (t : ¬ (T.tk (a + 1) = 58 ∧ T.tk (a + 2) = 2)) : ∃ s' : Sg, f_159 s = some (.inr (15, s')) ∧ BSc T s s' := by
  have hz0 := hT.lt hu.2.2 (by rw [t0]; decide)
  have cc1 := cur_cc (a := a + 1) hc
  have cu1 : CU T (cur T s (a + 1)) (a + 1) := cur_cu (by omega)
  have e : f_159 s = (xb (f_92 58 (cur T s (a + 1))) fun q2 => (xb (f_93 1 32 q2) fun q3 => ((f_155 (T.vl a) (s 39 10) q3.1 q3.2).bind fun q4 => (gd (g_190 q3.1 q4) ((some (f_190 q3.1 q4)).bind fun q5 => some (.inl q5)))))) := by
    unfold f_159
    rw [c96y hT hc hu t0, xb_inl]
  rw [e]
  by_cases t1 : T.tk (a + 1) = 58
  · have hz1 := hT.lt (show a + 1 ≤ T.z by omega) (by rw [t1]; decide)
    have cu2 : CU T (cur T (cur T s (a + 1)) (a + 2)) (a + 2) := cur_cu (by omega)
    refine ⟨_, ?_, cur_sf.trans cur_sf, _, cu2⟩
    rw [c92y hT cc1 cu1 t1 (by decide), xb_inl, c93n cu2 (fun y => t ⟨t1, y⟩), xb_err]
  · refine ⟨_, ?_, cur_sf, _, cu1⟩
    rw [c92n cu1 t1, xb_err]
/-- one part more, the reference -/
def PRT (m : Sg) (S P : Nat) (v x : Int) : Sg := ax_u2 (ax_u2 (ax_u2 (ax_u2 m 104 P v) 105 P x) 84 31 ((P + 1 : Nat) : Int)) 99 S (ax_w32 (m 99 S + 1))
theorem m331 {k : Int → Sg → Option Sg} (hS : S < 4100) (hP : m 84 31 = (P : Int)) (hP8 : P < 8200) : j_233_331 k (S : Int) m = k (S : Int) (ax_u2 (ax_u2 m 84 31 ((P + 1 : Nat) : Int)) 99 S (ax_w32 (m 99 S + 1))) := by
  unfold j_233_331
  rw [gd_pos (by omega), gd_pos (by omega), hP, w32_nat (by omega), Int.toNat_natCast]
end NMD
