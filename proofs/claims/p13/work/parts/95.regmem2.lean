/-! REGISTERS and MEMORIES on both sides. -/
section RN
variable {T : TT} {sc0 sm0 sc sm s m : Sg} {a a1 S P A N K C w : Nat} {kd : Int}
/-- the number in brackets, the class's way: what a reg, what a mem asks -/
def bq (kd v : Int) : Prop := (kd = 0 ∧ pw2 v) ∨ (kd = 1 ∧ 1 ≤ v ∧ v ≤ 20)
theorem brk_c (hT : TWF T) (hc : CC T s) (hu : CU T s a) (hS : s 54 6 = ((S + 1 : Nat) : Int)) (hS8 : S < 1171) (h58 : s 58 S = 0) (t1 : T.tk a = 2) (t2 : T.tk (a + 1) = 93) :
    ∀ s1 : Sg, ∀ (v : Prop), (∀ c, c ≠ 30 → s1 c = s c) → (∀ j, j < 4 ∨ 7 < j → s1 30 j = s 30 j) → (CN s1 ↔ CN s ∧ v) → ∃ s' : Sg, j_150_67 (mn (T.vl a)) (cur T s1 (a + 1)) = j_150_84 s' ∧ CU T s' (a + 2) ∧ s' 58 S = mn (T.vl a) ∧ (∀ i, i ≠ S → s' 58 i = s 58 i) ∧ (∀ c, ¬ (c = 30 ∨ c = 39 ∨ c = 58) → s' c = s c) ∧ (∀ j, j ≠ 10 → j ≠ 11 → s' 39 j = s 39 j) ∧ (∀ j, j < 4 ∨ 7 < j → s' 30 j = s 30 j) ∧ (CN s' ↔ CN s ∧ v) := by
  intro s1 v n3 n4 n2
  have hz := hT.lt hu.2.2 (by rw [t1]; decide)
  have hz1 := hT.lt (show a + 1 ≤ T.z by omega) (by rw [t2]; decide)
  have hv := hT.2.2.2.2.1 a hz
  have cc1 : CC T (cur T s1 (a + 1)) := cur_cc ((ef30 n3 n4).cc hc)
  have h54 : (cur T s1 (a + 1)) 54 6 = ((S + 1 : Nat) : Int) := by rw [cur_row (by decide), n3 54 (by decide)]; exact hS
  obtain ⟨⟨g1, g2⟩, _, _⟩ := c181 h54 hS8 (mn (T.vl a))
  have e58 : (cur T s1 (a + 1)) 58 S = 0 := by rw [cur_row (by decide), n3 58 (by decide)]; exact h58
  have mnb : 0 ≤ mn (T.vl a) ∧ mn (T.vl a) ≤ 1073741824 := by unfold mn; split <;> omega
  rw [e58, Int.zero_add, w32_id (by omega) (by omega)] at g2
  have cc2 : CC T (ax_u2 (cur T s1 (a + 1)) 58 S (mn (T.vl a))) := cc1.row (by simp [ax_u2]) (u2_row _ _ _ (by decide)) (u2_row _ _ _ (by decide)) (u2_row _ _ _ (by decide)) (by simp [ax_u2]) (u2_row _ _ _ (by decide))
  have cu2 : CU T (ax_u2 (cur T s1 (a + 1)) 58 S (mn (T.vl a))) (a + 1) := by
    have := cur_cu (T := T) (s := s1) (a := a + 1) (by omega)
    unfold CU at *
    rw [u2_row _ _ _ (by decide)]
    exact this
  refine ⟨cur T (ax_u2 (cur T s1 (a + 1)) 58 S (mn (T.vl a))) (a + 2), ?_, cur_cu (by omega), ?_, ?_, ?_, ?_, ?_, ?_⟩
  · unfold j_150_67
    rw [gd_pos g1, g2, Option.bind_some, c92y hT cc2 cu2 t2 (by decide)]
    rfl
  · rw [cur_row (by decide)]; exact u2_same _ _ _ _
  · intro i hi
    rw [cur_row (by decide), u2_col _ _ _ hi, cur_row (by decide), n3 58 (by decide)]
  · intro c x
    rw [cur_row (by omega), u2_row _ _ _ (by omega), cur_row (by omega), n3 c (by omega)]
  · intro j x y
    rw [cur_col x y, u2_row _ _ _ (by decide), cur_col x y, n3 39 (by decide)]
  · intro j x
    rw [cur_row (by decide), u2_row _ _ _ (by decide), cur_row (by decide), n4 j x]
  · have : CN (cur T (ax_u2 (cur T s1 (a + 1)) 58 S (mn (T.vl a))) (a + 2)) ↔ CN s1 := by unfold CN; rw [cur_row (by decide), u2_row _ _ _ (by decide), cur_row (by decide)]
    rw [this, n2]
theorem brk_cn (hT : TWF T) (hc : CC T s) (hu : CU T s a) (hS : s 54 6 = ((S + 1 : Nat) : Int)) (hS8 : S < 1171) (t2 : T.tk a ≠ 93) (v : Int) : ∃ s' : Sg, j_150_67 v s = some (.inr (15, s')) ∧ BSc T s s' := by
  obtain ⟨⟨g1, g2⟩, _, _⟩ := c181 hS hS8 v
  have cu2 : CU T (f_189 v s) a := by
    rw [g2]
    unfold CU at *
    rw [u2_row _ _ _ (by decide)]
    exact hu
  refine ⟨f_189 v s, ?_, ?_, _, cu2⟩
  · unfold j_150_67
    rw [gd_pos g1, Option.bind_some, c92n cu2 t2]
    rfl
  · rw [g2]
    exact ⟨fun c x => u2_row _ _ _ (by omega), fun j _ _ => by rw [u2_row _ _ _ (by decide)], fun j _ => by rw [u2_row _ _ _ (by decide)], fun j _ => by rw [u2_row _ _ _ (by decide)], W8.same (u2_row _ _ _ (by decide))⟩
theorem regmem_sim (hT : TWF T) (hp : POS T) (h : PS0 T sc0 sm0 sc sm a S P A N K C w) (t0 : T.tk a = 17 ∨ T.tk a = 18) :
    (∃ (sc' sm' : Sg) (a' : Nat), f_145 sc = some (.inl sc') ∧ f_233 sm = some sm' ∧ a < a' ∧ PS0 T sc0 sm0 sc' sm' a' (S + 1) P A N K C w) ∨ (∃ (x : Nat) (s' mF : Sg), f_145 sc = some (.inr (x, s')) ∧ (x = 14 ∨ x = 15) ∧ BSc T sc s' ∧ f_233 sm = some mF ∧ BSm sm mF) := by
  obtain ⟨hB, h70, h19, h7, h37, hnc, htl, hdp⟩ := id h
  obtain ⟨e1, e2, e3, e4, e5, e6, e7, e8, e9, e10, e11, e12, e13, e14, e15, e16, e17, e18, e19, e20, e21, e22, e23, e24, e25, e26, e27, e28, e29, e30, e31⟩ := id hB
  have h8 := hT.1
  have n0 : T.tk a ≠ 0 := by rcases t0 with e | e <;> rw [e] <;> decide
  have hz := hT.lt e3.2.2 n0
  have pz := hp.add (k := a) (T.z - a) (by omega)
  rw [show a + (T.z - a) = T.z by omega] at pz
  have p8 := hp.2.2.2
  have hS1 : S < 1171 := by omega
  obtain ⟨kd, hkd⟩ : ∃ kd : Int, kd = if T.tk a = 17 then 0 else 1 := ⟨_, rfl⟩
  have kd01 : kd = 0 ∨ kd = 1 := by rw [hkd]; split <;> simp
  -- the reference begins
  have hM0 : MC T (ax_u2 (ax_u2 (ax_u2 (ax_u2 (ax_u2 (ax_u2 (ax_u2 sm 96 S (-1)) 98 S (P : Int)) 99 S 0) 100 S (-1)) 102 S 0) 103 S (N : Int)) 84 46 (-1)) := e2.row (by simp [ax_u2]) (by funext x; simp [ax_u2])
  have f0 : (ax_u2 (ax_u2 (ax_u2 (ax_u2 (ax_u2 (ax_u2 (ax_u2 sm 96 S (-1)) 98 S (P : Int)) 99 S 0) 100 S (-1)) 102 S 0) 103 S (N : Int)) 84 46 (-1)) 84 6 = 0 := by simpa [ax_u2] using e5
  have u0 : (ax_u2 (ax_u2 (ax_u2 (ax_u2 (ax_u2 (ax_u2 (ax_u2 sm 96 S (-1)) 98 S (P : Int)) 99 S 0) 100 S (-1)) 102 S 0) 103 S (N : Int)) 84 46 (-1)) 84 18 = (a : Int) := by simpa [ax_u2] using e4
  have sf0 : SFm sm (ax_u2 (ax_u2 (ax_u2 (ax_u2 (ax_u2 (ax_u2 (ax_u2 sm 96 S (-1)) 98 S (P : Int)) 99 S 0) 100 S (-1)) 102 S 0) 103 S (N : Int)) 84 46 (-1)) := ⟨fun c x => by rw [u2_row _ _ _ (by omega), u2_row _ _ _ (by omega), u2_row _ _ _ (by omega), u2_row _ _ _ (by omega), u2_row _ _ _ (by omega), u2_row _ _ _ (by omega), u2_row _ _ _ (by omega)], fun j x => by rw [u2_col _ _ _ (by omega), u2_row _ _ _ (by decide), u2_row _ _ _ (by decide), u2_row _ _ _ (by decide), u2_row _ _ _ (by decide), u2_row _ _ _ (by decide), u2_row _ _ _ (by decide)]⟩
  have r233 : f_233 sm = j_233_76 (S : Int) (adv (ax_u2 (ax_u2 (ax_u2 (ax_u2 (ax_u2 (ax_u2 (ax_u2 sm 96 S (-1)) 98 S (P : Int)) 99 S 0) 100 S (-1)) 102 S 0) 103 S (N : Int)) 84 46 (-1)) (a + 1)) := by
    unfold f_233
    rw [h19, gd_pos (by omega), gd_pos (by omega), gd_pos (by omega), gd_pos (by omega), gd_pos (by omega), gd_pos (by omega), Int.toNat_natCast, e11, e6.2.1]
    rcases t0 with e | e
    · rw [eatY hM0 hT f0 u0 e3.2.2 (k := 17) (by decide) e]
      rw [if_pos (by simp)]
    · rw [eatN hM0 hT u0 e3.2.2 (k := 17) (by decide) (by decide) (by rw [e]; decide)]
      rw [if_neg (by simp), eatY hM0 hT f0 u0 e3.2.2 (k := 18) (by decide) e]
      rw [if_neg (by simp)]
  obtain ⟨M1, hM1⟩ : ∃ M1 : Sg, M1 = ax_u2 (adv (ax_u2 (ax_u2 (ax_u2 (ax_u2 (ax_u2 (ax_u2 (ax_u2 sm 96 S (-1)) 98 S (P : Int)) 99 S 0) 100 S (-1)) 102 S 0) 103 S (N : Int)) 84 46 (-1)) (a + 1)) 94 S kd := ⟨_, rfl⟩
  have mc1 : MC T M1 := by rw [hM1]; exact (adv_mc hM0).row (by simp [ax_u2]) (u2_row _ _ _ (by decide))
  have f1 : M1 84 6 = 0 := by rw [hM1, u2_row _ _ _ (by decide), adv_col (by decide)]; exact f0
  have u1 : M1 84 18 = ((a + 1 : Nat) : Int) := by rw [hM1, u2_row _ _ _ (by decide)]; exact adv_at
  have sf1 : SFm sm M1 := by rw [hM1]; exact (sf0.trans adv_sf).trans (ro_sf (by decide))
  have r76 : j_233_76 (S : Int) (adv (ax_u2 (ax_u2 (ax_u2 (ax_u2 (ax_u2 (ax_u2 (ax_u2 sm 96 S (-1)) 98 S (P : Int)) 99 S 0) 100 S (-1)) 102 S 0) 103 S (N : Int)) 84 46 (-1)) (a + 1)) = ((f_231 1 M1).bind fun q2 => (if q2.2 94 S = 1 then j_233_133 (S : Int) (ax_u2 q2.2 95 S q2.1) else (gd (g_232 15 (ax_u2 q2.2 95 S q2.1)) (if f_232 15 (ax_u2 q2.2 95 S q2.1) = 0 then j_233_158 (S : Int) (ax_u2 q2.2 95 S q2.1) else j_233_133 (S : Int) (ax_u2 q2.2 95 S q2.1))))) := by
    unfold j_233_76
    have e18' : (adv (ax_u2 (ax_u2 (ax_u2 (ax_u2 (ax_u2 (ax_u2 (ax_u2 sm 96 S (-1)) 98 S (P : Int)) 99 S 0) 100 S (-1)) 102 S 0) 103 S (N : Int)) 84 46 (-1)) (a + 1)) 84 18 = ((a + 1 : Nat) : Int) := adv_at
    have w1 : ax_w32 (((a + 1 : Nat) : Int) - 1) = (a : Int) := by rw [w32_id (by omega) (by omega)]; omega
    have e88 : (adv (ax_u2 (ax_u2 (ax_u2 (ax_u2 (ax_u2 (ax_u2 (ax_u2 sm 96 S (-1)) 98 S (P : Int)) 99 S 0) 100 S (-1)) 102 S 0) 103 S (N : Int)) 84 46 (-1)) (a + 1)) 88 a = km (T.tk a) := (adv_mc hM0).2 a e3.2.2
    rw [e18', w1, gd_pos (by omega), gd_pos (by omega), Int.toNat_natCast, Int.toNat_natCast, e88]
    have ek : ((if ¬ km (T.tk a) = 31 then 1 else 0) : Int) = kd := by rw [hkd]; rcases t0 with e | e <;> rw [e] <;> decide
    rw [ek, ← hM1]
    congr 1
    funext q2
    rw [gd_pos (by omega), gd_pos (by omega)]
  have m94 : M1 94 S = kd := by rw [hM1]; exact u2_same _ _ _ _
  -- what the class does behind the head
  have cls : ∀ s1 : Sg, f_156 kd sc = some (.inl s1) → f_145 sc = (if kd = 1 then (xb (f_92 91 s1) fun q2 => (xb (f_93 1 20 q2) fun q3 => j_150_67 q3.1 q3.2)) else (if ¬ (s1 39 11) = 91 then j_150_84 s1 else (gd (g_94 s1) ((some (f_94 s1)).bind fun q5 => (gd (g_80 (q5 39 10) q5) (xb (f_93 2 64 q5) fun q6 => (if f_294 q6.1 q6.2 = 1 then j_150_67 q6.1 q6.2 else (gd (g_71 4 (f_80 (q5 39 10) q5) q6.2) ((some (f_71 4 (f_80 (q5 39 10) q5) q6.2)).bind fun q9 => j_150_67 q6.1 q9))))))))) := by
    intro s1 hs1
    have eta : ∀ o : Option (Sum Sg (Nat × Sg)), (xb o fun q => some (.inl q)) = o := fun o => by
      cases o with
      | none => rfl
      | some o => cases o <;> rfl
    unfold f_145
    rw [e3.2.1]
    rcases t0 with e | e
    · have k0 : kd = 0 := by rw [hkd, if_pos e]
      rw [k0] at hs1 ⊢
      rw [if_pos e, eta, if_neg (by decide)]
      unfold f_150
      rw [hs1]
      rfl
    · have k1 : kd = 1 := by rw [hkd, if_neg (by rw [e]; decide)]
      rw [k1] at hs1 ⊢
      rw [if_neg (by rw [e]; decide), if_pos e, eta, if_pos rfl]
      unfold f_151
      rw [hs1]
      rfl
  rw [r233, r76]
  by_cases t1 : T.tk (a + 1) = 1
  · have z1 := hT.lt (show a + 1 ≤ T.z by omega) (by rw [t1]; decide)
    obtain ⟨s1, hd1, hd2, hd3, hd4⟩ := c156 (kd := kd) hT e1 e3 n0 t1 e10 hS1 e6.1
    obtain ⟨q1, q2, q3, q4, q5, q6, q7, q8, q9, q10, q11, q12, q13, q14⟩ := hd3
    have sf1c : SFc sc s1 := ⟨fun c x => q12 c (by omega), q13, q14, fun j _ => by rw [q12 31 (by omega)], W8.same (q12 31 (by omega))⟩
    have cc1 := sf1c.cc e1
    rw [cls s1 hd1]
    have tk1 := takeY (K := 1) mc1 hT f1 u1 (show a + 1 ≤ T.z by omega) (k := 1) (by decide) t1
    obtain ⟨M2, hM2⟩ : ∃ M2 : Sg, M2 = ax_u2 (adv M1 (a + 2)) 95 S ((a + 1 : Nat) : Int) := ⟨_, rfl⟩
    have mc2 : MC T M2 := by rw [hM2]; exact (adv_mc mc1).row (by simp [ax_u2]) (u2_row _ _ _ (by decide))
    have f2 : M2 84 6 = 0 := by rw [hM2, u2_row _ _ _ (by decide), adv_col (by decide)]; exact f1
    have u2' : M2 84 18 = ((a + 2 : Nat) : Int) := by rw [hM2, u2_row _ _ _ (by decide)]; exact adv_at
    have sf2 : SFm sm M2 := by rw [hM2]; exact (sf1.trans adv_sf).trans (ro_sf (by decide))
    have rb : ((f_231 1 M1).bind fun q2 => (if q2.2 94 S = 1 then j_233_133 (S : Int) (ax_u2 q2.2 95 S q2.1) else (gd (g_232 15 (ax_u2 q2.2 95 S q2.1)) (if f_232 15 (ax_u2 q2.2 95 S q2.1) = 0 then j_233_158 (S : Int) (ax_u2 q2.2 95 S q2.1) else j_233_133 (S : Int) (ax_u2 q2.2 95 S q2.1))))) = (if kd = 1 ∨ T.tk (a + 2) = 91 then j_233_133 (S : Int) M2 else j_233_158 (S : Int) M2) := by
      rw [tk1, Option.bind_some]
      show (if (adv M1 (a + 2)) 94 S = 1 then j_233_133 (S : Int) (ax_u2 (adv M1 (a + 2)) 95 S ((a + 1 : Nat) : Int)) else (gd (g_232 15 (ax_u2 (adv M1 (a + 2)) 95 S ((a + 1 : Nat) : Int))) (if f_232 15 (ax_u2 (adv M1 (a + 2)) 95 S ((a + 1 : Nat) : Int)) = 0 then j_233_158 (S : Int) (ax_u2 (adv M1 (a + 2)) 95 S ((a + 1 : Nat) : Int)) else j_233_133 (S : Int) (ax_u2 (adv M1 (a + 2)) 95 S ((a + 1 : Nat) : Int))))) = _
      rw [← hM2, show (adv M1 (a + 2)) 94 S = kd by rw [adv_row (by decide)]; exact m94]
      by_cases k1 : kd = 1
      · rw [if_pos k1, if_pos (Or.inl k1)]
      · rw [if_neg k1]
        by_cases t2 : T.tk (a + 2) = 91
        · have iy := is_y mc2 hT u2' (show a + 2 ≤ T.z by omega) (K := 15) (k := 91) (by decide) t2
          rw [gd_pos iy.2, iy.1, if_neg (by decide), if_pos (Or.inr t2)]
        · have iy := is_n mc2 hT u2' (show a + 2 ≤ T.z by omega) (K := 15) (k := 91) (by decide) (by decide) t2
          rw [gd_pos iy.2, iy.1, if_pos rfl, if_neg (fun y => by rcases y with y | y; exact k1 y; exact t2 y)]
    rw [rb]
    -- the end, once the class stands before the width
    have fin : ∀ (s2 M3 : Sg) (b : Nat) (v : Prop), CU T s2 b → a + 2 ≤ b → b ≤ T.z → (∀ i, i ≠ S → s2 58 i = s1 58 i) → (∀ c, ¬ (c = 30 ∨ c = 39 ∨ c = 58) → s2 c = s1 c) → (∀ j, j ≠ 10 → j ≠ 11 → s2 39 j = s1 39 j) → (∀ j, j < 4 ∨ 7 < j → s2 30 j = s1 30 j) → (CN s2 ↔ CN s1 ∧ v) →
        MC T M3 → M3 84 6 = 0 → M3 84 18 = (b : Int) → (∀ c, c ≠ 84 → c ≠ 96 → M3 c = M2 c) → (∀ i, i ≠ S → M3 96 i = M2 96 i) → (∀ j, j ≠ 18 → M3 84 j = M2 84 j) →
        ((kd = 0 ∧ M3 96 S = -1 ∧ s2 58 S = 0 ∧ v) ∨ (∃ c : Nat, M3 96 S = (c : Int) ∧ c < T.z ∧ T.tk c = 2 ∧ s2 58 S = mn (T.vl c) ∧ (v ↔ bq kd (T.vl c)))) →
        (∀ k, a + 2 ≤ k → k < b → PRQ (T.tk (k - 1)) (T.tk k) ∧ T.tk k ≠ 123 ∧ T.tk k ≠ 125 ∧ ¬ (17 ≤ T.tk k ∧ T.tk k ≤ 20) ∧ T.tk (k - 1) ≠ 59) → (T.tk (b - 1) = 1 ∨ T.tk (b - 1) = 93) →
        (∃ (sc' sm' : Sg) (a' : Nat), j_150_84 s2 = some (.inl sc') ∧ j_233_158 (S : Int) M3 = some sm' ∧ a < a' ∧ PS0 T sc0 sm0 sc' sm' a' (S + 1) P A N K C w) ∨ (∃ (x : Nat) (s' mF : Sg), j_150_84 s2 = some (.inr (x, s')) ∧ (x = 14 ∨ x = 15) ∧ BSc T sc s' ∧ j_233_158 (S : Int) M3 = some mF ∧ BSm sm mF) := by
      intro s2 M3 b v g1 g2 g3 g4 g5 g6 g7 g8 m1 m2 m3 m4 m5 m6 hq pq hb1
      have sfb : SFc s1 s2 := ⟨fun c x => g5 c (by omega), g6, g7, fun j _ => by rw [g5 31 (by omega)], W8.same (g5 31 (by omega))⟩
      have sfM : SFm M2 M3 := ⟨fun c x => m4 c (by omega) (by omega), fun j x => m6 j (by omega)⟩
      have h54 : s2 54 6 = ((S + 1 : Nat) : Int) := by rw [g5 54 (by omega)]; exact q1
      by_cases t : T.tk b = 2 ∧ T.tk (b + 1) = 59
      · have zb := hT.lt g3 (by rw [t.1]; decide)
        have zb1 := hT.lt (show b + 1 ≤ T.z by omega) (by rw [t.2]; decide)
        obtain ⟨s', k1, k2, k3, k4, k5, k6, k7, k8⟩ := tl_c hT (sfb.cc cc1) g1 h54 hS1 (by rw [g5 57 (by omega)]; exact q4) t.1 t.2
        have hM := tl_m hT m1 m2 m3 g3 (by omega) t.1 t.2 (S := S)
        obtain ⟨M4, hM4⟩ : ∃ M4 : Sg, M4 = adv (ax_u2 (adv M3 (b + 1)) 97 S (b : Int)) (b + 2) := ⟨_, rfl⟩
        rw [← hM4] at hM
        have r4 : ∀ c, c ≠ 84 → c ≠ 97 → M4 c = M3 c := fun c x y => by rw [hM4, adv_row x, u2_row _ _ _ y, adv_row x]
        have c4 : ∀ j, j ≠ 18 → M4 84 j = M3 84 j := fun j x => by rw [hM4, adv_col x, u2_row _ _ _ (by decide), adv_col x]
        have e97 : M4 97 S = (b : Int) := by rw [hM4, adv_row (by decide)]; exact u2_same _ _ _ _
        have c97 : ∀ i, i ≠ S → M4 97 i = M3 97 i := fun i x => by rw [hM4, adv_row (by decide), u2_col _ _ _ x, adv_row (by decide)]
        -- rows of the reference over all
        have big : ∀ c, c ≠ 84 → c ≠ 94 → c ≠ 95 → c ≠ 96 → c ≠ 97 → M4 c = (ax_u2 (ax_u2 (ax_u2 (ax_u2 (ax_u2 (ax_u2 (ax_u2 sm 96 S (-1)) 98 S (P : Int)) 99 S 0) 100 S (-1)) 102 S 0) 103 S (N : Int)) 84 46 (-1)) c := fun c x1 x2 x3 x4 x5 => by rw [r4 c x1 x5, m4 c x1 x4, hM2, u2_row _ _ _ x3, adv_row x1, hM1, u2_row _ _ _ x2, adv_row x1]
        have e103 : M4 103 S = (N : Int) := by rw [big 103 (by decide) (by decide) (by decide) (by decide) (by decide)]; simp [ax_u2]
        have c84 : ∀ j, j ≠ 18 → j ≠ 46 → M4 84 j = sm 84 j := fun j x y => by rw [c4 j x, m6 j x, hM2, u2_row _ _ _ (by decide), adv_col x, hM1, u2_row _ _ _ (by decide), adv_col x, u2_col _ _ _ y, u2_row _ _ _ (by decide), u2_row _ _ _ (by decide), u2_row _ _ _ (by decide), u2_row _ _ _ (by decide), u2_row _ _ _ (by decide), u2_row _ _ _ (by decide)]
        have h359 : j_233_359 (S : Int) M4 = some (ax_u2 (ax_u2 M4 103 S 0) 84 19 ((S + 1 : Nat) : Int)) := by
          unfold j_233_359
          have e6' : M4 84 6 = 0 := by rw [c84 6 (by decide) (by decide)]; exact e5
          have e47 : M4 84 47 = (N : Int) := by rw [c84 47 (by decide) (by decide)]; exact e6.2.1
          have e19 : M4 84 19 = (S : Int) := by rw [c84 19 (by decide) (by decide)]; exact h19
          rw [if_pos (by omega), gd_pos (by omega), gd_pos (by omega), Int.toNat_natCast, e47, e103, Int.sub_self, e19, w32_nat (by omega)]
          rfl
        have mrow : ∀ c i, 94 ≤ c → c ≤ 103 → i ≠ S → (ax_u2 (ax_u2 M4 103 S 0) 84 19 ((S + 1 : Nat) : Int)) c i = sm c i := by
          intro c i x y z
          rw [u2_row _ _ _ (by omega)]
          by_cases c97' : c = 97
          · subst c97'
            rw [u2_row _ _ _ (by decide), c97 i z, m4 97 (by decide) (by decide), hM2, u2_row _ _ _ (by decide), adv_row (by decide), hM1, u2_row _ _ _ (by decide), adv_row (by decide)]
            simp [ax_u2]
          · by_cases c96 : c = 96
            · subst c96
              rw [u2_row _ _ _ (by decide), r4 96 (by decide) (by decide), m5 i z, hM2, u2_row _ _ _ (by decide), adv_row (by decide), hM1, u2_row _ _ _ (by decide), adv_row (by decide)]
              simp [ax_u2, z]
            · by_cases c95 : c = 95
              · subst c95
                rw [u2_row _ _ _ (by decide), r4 95 (by decide) (by decide), m4 95 (by decide) (by decide), hM2, u2_col _ _ _ z, adv_row (by decide), hM1, u2_row _ _ _ (by decide), adv_row (by decide)]
                simp [ax_u2]
              · by_cases c94 : c = 94
                · subst c94
                  rw [u2_row _ _ _ (by decide), r4 94 (by decide) (by decide), m4 94 (by decide) (by decide), hM2, u2_row _ _ _ (by decide), adv_row (by decide), hM1, u2_col _ _ _ z, adv_row (by decide)]
                  simp [ax_u2]
                · have : (ax_u2 M4 103 S 0) c i = M4 c i := by
                    by_cases c103 : c = 103
                    · subst c103; exact u2_col _ _ _ z
                    · rw [u2_row _ _ _ c103]
                  rw [this, big c (by omega) c94 c95 c96 c97']
                  simp [ax_u2, z, show c ≠ 84 by omega]
        refine Or.inl ⟨s', ax_u2 (ax_u2 M4 103 S 0) 84 19 ((S + 1 : Nat) : Int), b + 2, k1, by rw [hM]; exact h359, by omega, ?_⟩
        have m97 : (ax_u2 (ax_u2 M4 103 S 0) 84 19 ((S + 1 : Nat) : Int)) 97 S = (b : Int) := by rw [u2_row _ _ _ (by decide), u2_row _ _ _ (by decide)]; exact e97
        have m96 : (ax_u2 (ax_u2 M4 103 S 0) 84 19 ((S + 1 : Nat) : Int)) 96 S = M3 96 S := by rw [u2_row _ _ _ (by decide), u2_row _ _ _ (by decide), r4 96 (by decide) (by decide)]
        have m94' : (ax_u2 (ax_u2 M4 103 S 0) 84 19 ((S + 1 : Nat) : Int)) 94 S = kd := by rw [u2_row _ _ _ (by decide), u2_row _ _ _ (by decide), r4 94 (by decide) (by decide), m4 94 (by decide) (by decide), hM2, u2_row _ _ _ (by decide), adv_row (by decide), m94]
        have m95 : (ax_u2 (ax_u2 M4 103 S 0) 84 19 ((S + 1 : Nat) : Int)) 95 S = ((a + 1 : Nat) : Int) := by rw [u2_row _ _ _ (by decide), u2_row _ _ _ (by decide), r4 95 (by decide) (by decide), m4 95 (by decide) (by decide), hM2]; exact u2_same _ _ _ _
        have m98 : (ax_u2 (ax_u2 M4 103 S 0) 84 19 ((S + 1 : Nat) : Int)) 98 S = (P : Int) := by rw [u2_row _ _ _ (by decide), u2_row _ _ _ (by decide), big 98 (by decide) (by decide) (by decide) (by decide) (by decide)]; simp [ax_u2]
        have m99 : (ax_u2 (ax_u2 M4 103 S 0) 84 19 ((S + 1 : Nat) : Int)) 99 S = 0 := by rw [u2_row _ _ _ (by decide), u2_row _ _ _ (by decide), big 99 (by decide) (by decide) (by decide) (by decide) (by decide)]; simp [ax_u2]
        have s58 : s' 58 S = s2 58 S := by rw [k5 58 (by omega)]
        have skw : SKW T s' (ax_u2 (ax_u2 M4 103 S 0) 84 19 ((S + 1 : Nat) : Int)) S := ⟨b, m97, zb, t.1, k3⟩
        have hvm := hT.2.2.2.2.2.1 (a + 1) z1 t1
        have hv := hT.2.2.2.2.1 (a + 1) z1
        refine PS0.simple (kd := kd) hT hp h (by omega) (by omega) (by rcases t0 with e | e <;> rw [e] <;> decide) t1 (fun c x => by rw [k5 c (by omega), g5 c (by omega), q12 c (by omega)]) (fun j x y => by rw [k6 j x y, g6 j x y, q13 j x y]) (fun j x => by rw [k7 j x, g7 j x, q14 j x]) (by rw [k5 54 (by omega)]; exact h54) (fun j x => by rw [k5 54 (by omega), g5 54 (by omega), q11 j x]) ?_ (by rw [k5 55 (by omega), g5 55 (by omega)]; exact q2) (by rw [k5 56 (by omega), g5 56 (by omega)]; exact q3) (by rw [k5 59 (by omega), g5 59 (by omega)]; exact q6) (by rw [k5 60 (by omega), g5 60 (by omega)]; exact q7) (by rw [k5 36 (by omega), g5 36 (by omega)]; exact q8) (fun i x => by rw [k5 36 (by omega), g5 36 (by omega)]; exact q9 i x) k2 ?_ mrow ?_ ?_ (u2_same _ _ _ _) m94' m95 m98 m99 ?_ ?_ kd01 ?_ ?_ ?_ (by rw [show b + 2 - 1 = b + 1 by omega]; exact t.2)
        · intro c i x y z
          have a1 : s' c i = s2 c i := by
            by_cases e : c = 57
            · subst e; exact k4 i z
            · rw [k5 c (by omega)]
          have a2 : s2 c i = s1 c i := by
            by_cases e : c = 58
            · subst e; exact g4 i z
            · rw [g5 c (by omega)]
          rw [a1, a2]
          exact q10 c i x y z
        · intro c x
          rw [u2_row _ _ _ (by omega), u2_row _ _ _ (by omega), big c (by omega) (by omega) (by omega) (by omega) (by omega)]
          funext i
          simp [ax_u2, show c ≠ 84 by omega, show c ≠ 96 by omega, show c ≠ 98 by omega, show c ≠ 99 by omega, show c ≠ 100 by omega, show c ≠ 102 by omega, show c ≠ 103 by omega]
        · intro j x y z
          rw [u2_col _ _ _ y, u2_row _ _ _ (by decide)]
          exact c84 j x z
        · rw [u2_col _ _ _ (by decide), u2_row _ _ _ (by decide), hM4]; exact adv_at
        · rw [u2_row _ _ _ (by decide), u2_row _ _ _ (by decide), big 102 (by decide) (by decide) (by decide) (by decide) (by decide)]; simp [ax_u2]
        · rw [u2_row _ _ _ (by decide)]; exact u2_same _ _ _ _
        · rcases hq with ⟨y1, y2, y3, y4⟩ | ⟨c, y1, y2, y3, y4, y5⟩
          · exact Or.inl ⟨y1, skw, Or.inl ⟨by rw [m96]; exact y2, by rw [s58]; exact y3⟩⟩
          · have skc : SKC T s' (ax_u2 (ax_u2 M4 103 S 0) 84 19 ((S + 1 : Nat) : Int)) S := ⟨c, by rw [m96]; exact y1, y2, y3, by rw [s58]; exact y4⟩
            rcases kd01 with z | z
            · exact Or.inl ⟨z, skw, Or.inr skc⟩
            · exact Or.inr ⟨z, skw, skc⟩
        · rw [k8, g8, hd4]
          have tw : sc 36 (T.vl (a + 1)).toNat = -1 ↔ ∀ j, j < S → T.vl (sm 95 j).toNat ≠ T.vl (a + 1) := by
            rcases e17.2.2.2.2.2.1 (T.vl (a + 1)).toNat (IDN.at hT (x := a + 1) (by omega) t1) with ⟨y1, y2⟩ | ⟨i, y1, y2, y3⟩
            · refine ⟨fun _ j hj => ?_, fun _ => y1⟩
              have := y2 j hj
              rw [Int.toNat_of_nonneg hv.1] at this
              exact this
            · rw [Int.toNat_of_nonneg hv.1] at y3
              exact ⟨fun y => by omega, fun y => absurd y3 (y i y1)⟩
          unfold GST
          rw [m94', m95, m96, m97, m98, m99, Int.toNat_natCast, Int.toNat_natCast, tw]
          have tw2 : (∀ j, j < S → T.vl (sm 95 j).toNat ≠ T.vl (a + 1)) ↔ (∀ j, j < S → T.vl ((ax_u2 (ax_u2 M4 103 S 0) 84 19 ((S + 1 : Nat) : Int)) 95 j).toNat ≠ T.vl (a + 1)) := by
            constructor
            · intro y j hj; rw [mrow 95 j (by decide) (by decide) (by omega)]; exact y j hj
            · intro y j hj; have := y j hj; rw [mrow 95 j (by decide) (by decide) (by omega)] at this; exact this
          rw [tw2]
          have gp : GPT T s' (ax_u2 (ax_u2 M4 103 S 0) 84 19 ((S + 1 : Nat) : Int)) (P : Int).toNat (0 : Int).toNat := fun p y1 y2 => absurd y2 (by simp at y1 ⊢; omega)
          rcases hq with ⟨y1, y2, y3, y4⟩ | ⟨c, y1, y2, y3, y4, y5⟩
          · rw [y2]
            exact ⟨fun y => ⟨y.1.1.1, fun _ => y.2, fun z => by omega, fun _ z => absurd z (by decide), y.1.1.2, gp⟩, fun y => ⟨⟨⟨y.1, y.2.2.2.2.1⟩, y4⟩, y.2.1 (by omega)⟩⟩
          · rw [y1, Int.toNat_natCast, y5]
            unfold bq
            constructor
            · intro y
              refine ⟨y.1.1.1, fun _ => y.2, fun z => ?_, fun z _ => ?_, y.1.1.2, gp⟩
              · rcases y.1.2 with u | u
                · omega
                · exact u.2
              · rcases y.1.2 with u | u
                · exact u.2
                · omega
            · intro y
              refine ⟨⟨⟨y.1, y.2.2.2.2.1⟩, ?_⟩, y.2.1 (by omega)⟩
              rcases kd01 with z | z
              · exact Or.inl ⟨z, y.2.2.2.1 z (by omega)⟩
              · exact Or.inr ⟨z, y.2.2.1 z⟩
        · intro k x y
          by_cases c1 : k < b
          · exact pq k x c1
          · by_cases c2 : k = b
            · subst c2
              rw [t.1]
              refine ⟨?_, by decide, by decide, by decide, by rcases hb1 with e | e <;> rw [e] <;> decide⟩
              rcases hb1 with e | e <;> rw [e] <;> exact Or.inr (Or.inr (Or.inl (by decide)))
            · rw [show k = b + 1 by omega, show b + 1 - 1 = b by omega, t.1, t.2]
              exact ⟨Or.inr (Or.inl ⟨by decide, Or.inl rfl⟩), by decide, by decide, by decide, by decide⟩
      · obtain ⟨s', k1, k2⟩ := tl_cn hT (sfb.cc cc1) g1 h54 hS1 t
        obtain ⟨mF, k3, k4⟩ := tl_mn hT m1 m2 m3 g3 (show S < 4100 by omega) t
        exact Or.inr ⟨15, s', mF, k1, Or.inr rfl, ⟨(sf1c.trans sfb).trans k2.1, k2.2⟩, k3, (sf2.trans sfM).trans k4.1, k4.2⟩
    by_cases tb : kd = 1 ∨ T.tk (a + 2) = 91
    · rw [if_pos tb]
      by_cases t3 : T.tk (a + 2) = 91
      · have z2 := hT.lt (show a + 2 ≤ T.z by omega) (by rw [t3]; decide)
        have cuB : CU T (cur T s1 (a + 3)) (a + 3) := cur_cu (by omega)
        have ccB := cur_cc (a := a + 3) cc1
        by_cases t4 : T.tk (a + 3) = 2
        · have z3 := hT.lt (show a + 3 ≤ T.z by omega) (by rw [t4]; decide)
          have hv3 := hT.2.2.2.2.1 (a + 3) z3
          -- the class comes to the number's end
          have num : ∃ s3 : Sg, (if kd = 1 then (xb (f_92 91 s1) fun q2 => (xb (f_93 1 20 q2) fun q3 => j_150_67 q3.1 q3.2)) else (if ¬ (s1 39 11) = 91 then j_150_84 s1 else (gd (g_94 s1) ((some (f_94 s1)).bind fun q5 => (gd (g_80 (q5 39 10) q5) (xb (f_93 2 64 q5) fun q6 => (if f_294 q6.1 q6.2 = 1 then j_150_67 q6.1 q6.2 else (gd (g_71 4 (f_80 (q5 39 10) q5) q6.2) ((some (f_71 4 (f_80 (q5 39 10) q5) q6.2)).bind fun q9 => j_150_67 q6.1 q9))))))))) = j_150_67 (mn (T.vl (a + 3))) (cur T s3 (a + 4)) ∧ (∀ c, c ≠ 30 → s3 c = (cur T s1 (a + 3)) c) ∧ (∀ j, j < 4 ∨ 7 < j → s3 30 j = (cur T s1 (a + 3)) 30 j) ∧ (CN s3 ↔ CN (cur T s1 (a + 3)) ∧ bq kd (T.vl (a + 3))) := by
            by_cases k1 : kd = 1
            · obtain ⟨s3, n1, n2, n3, n4⟩ := c93 (lo := 1) (hi := 20) hT ccB cuB t4
              refine ⟨s3, ?_, n3, n4, ?_⟩
              · rw [if_pos k1, c92y hT cc1 hd2 t3 (by decide)]
                show xb (f_93 1 20 (cur T s1 (a + 3))) _ = _
                rw [n1]
                rfl
              · rw [n2]
                unfold bq
                exact ⟨fun y => ⟨y.1, Or.inr ⟨k1, y.2⟩⟩, fun y => ⟨y.1, by rcases y.2 with u | u; omega; exact u.2⟩⟩
            · have k0 : kd = 0 := by omega
              obtain ⟨s3, n1, n2, n3, n4⟩ := c93 (lo := 2) (hi := 64) hT ccB cuB t4
              have c8 := c80 ccB hT (a := a + 3) (by omega)
              have mnv : mn (T.vl (a + 3)) = T.vl (a + 3) ∨ 64 < T.vl (a + 3) := by unfold mn; split <;> omega
              rw [if_neg k1, if_neg (by rw [hd2.2.1]; simp [t3]), nxt hT cc1 hd2 (by rw [t3]; decide)]
              show ∃ s3 : Sg, gd (g_80 ((cur T s1 (a + 3)) 39 10) (cur T s1 (a + 3))) _ = _ ∧ _
              rw [cuB.1, gd_pos c8.2, c8.1, n1]
              show ∃ s3' : Sg, (if f_294 (mn (T.vl (a + 3))) (cur T s3 (a + 4)) = 1 then j_150_67 (mn (T.vl (a + 3))) (cur T s3 (a + 4)) else (gd (g_71 4 (T.fm (a + 3)) (cur T s3 (a + 4))) ((some (f_71 4 (T.fm (a + 3)) (cur T s3 (a + 4)))).bind fun q9 => j_150_67 (mn (T.vl (a + 3))) q9))) = _ ∧ _
              have pwb : pw2 (T.vl (a + 3)) → 2 ≤ T.vl (a + 3) ∧ T.vl (a + 3) ≤ 64 := fun y => by unfold pw2 at y; omega
              by_cases d : f_294 (mn (T.vl (a + 3))) (cur T s3 (a + 4)) = 1
              · rw [if_pos d]
                refine ⟨s3, rfl, n3, n4, ?_⟩
                rw [n2]
                unfold bq
                constructor
                · intro y
                  refine ⟨y.1, Or.inl ⟨k0, ?_⟩⟩
                  have em : mn (T.vl (a + 3)) = T.vl (a + 3) := by omega
                  rw [em] at d
                  exact (bc_2 _ _ y.2.1 y.2.2).mp d
                · intro y
                  rcases y.2 with u | u
                  · exact ⟨y.1, pwb u.2⟩
                  · omega
              · rw [if_neg d]
                obtain ⟨y1, y2, y3, y4⟩ := c71 (s := cur T s3 (a + 4)) (x := 4) (p := T.fm (a + 3)) (Or.inl rfl) (hT.2.2.2.1 (a + 3) (by omega))
                -- the same, noted before the step
                obtain ⟨x1, x2, x3, x4⟩ := c71 (s := s3) (x := 4) (p := T.fm (a + 3)) (Or.inl rfl) (hT.2.2.2.1 (a + 3) (by omega))
                have com : f_71 4 (T.fm (a + 3)) (cur T s3 (a + 4)) = cur T (f_71 4 (T.fm (a + 3)) s3) (a + 4) := by
                  have n30 : (cur T s3 (a + 4)) 30 = s3 30 := cur_row (by decide)
                  have k71 : ∀ s : Sg, f_71 4 (T.fm (a + 3)) s = (if s 30 4 = -1 then ax_u2 s 30 4 (T.fm (a + 3)) else (if s 30 4 ≤ T.fm (a + 3) then s else ax_u2 s 30 4 (T.fm (a + 3)))) := fun s => by
                    unfold f_71
                    rw [if_neg (by decide), if_pos (by decide)]
                    rfl
                  rw [k71, k71, n30]
                  have sw : ∀ j v, ax_u2 (cur T s3 (a + 4)) 30 j v = cur T (ax_u2 s3 30 j v) (a + 4) := by
                    intro j v
                    funext c i
                    unfold cur ax_u2
                    by_cases e : c = 30
                    · subst e; simp
                    · by_cases e2 : c = 39
                      · subst e2; simp
                      · simp [e, e2]
                  split
                  · exact sw _ _
                  · split
                    · rfl
                    · exact sw _ _
                rw [gd_pos y1, Option.bind_some, com]
                refine ⟨_, rfl, fun c x => by rw [x3 c x]; exact n3 c x, fun j x => by rw [x4 j x]; exact n4 j x, ⟨fun y => absurd y x2, fun y => ?_⟩⟩
                unfold bq at y
                rcases y.2 with u | u
                · exfalso
                  have := pwb u.2
                  have em : mn (T.vl (a + 3)) = T.vl (a + 3) := by omega
                  rw [em] at d
                  exact d ((bc_2 _ _ this.1 this.2).mpr u.2)
                · omega
          obtain ⟨s3, nu1, nu2, nu3, nu4⟩ := num
          rw [nu1]
          have h54 : (cur T s1 (a + 3)) 54 6 = ((S + 1 : Nat) : Int) := by rw [cur_row (by decide)]; exact q1
          by_cases t5 : T.tk (a + 4) = 93
          · have z4 := hT.lt (show a + 4 ≤ T.z by omega) (by rw [t5]; decide)
            obtain ⟨s4, b1, b2, b3, b4, b5, b6, b7, b8⟩ := brk_c hT ccB cuB h54 hS1 (by rw [cur_row (by decide)]; exact q5) t4 t5 s3 _ nu2 nu3 nu4
            rw [b1, br_m hT mc2 f2 u2' (show a + 2 ≤ T.z by omega) (show S < 4100 by omega) t3 t4 t5]
            refine fin s4 _ (a + 5) (bq kd (T.vl (a + 3))) b2 (by omega) (by omega) (fun i x => by rw [b4 i x, cur_row (by decide)]) (fun c x => by rw [b5 c x, cur_row (by omega)]) (fun j x y => by rw [b6 j x y, cur_col x y]) (fun j x => by rw [b7 j x, cur_row (by decide)]) ?_ (adv_mc ((adv_mc (adv_mc mc2)).row (by simp [ax_u2]) (u2_row _ _ _ (by decide)))) ?_ adv_at ?_ ?_ ?_ (Or.inr ⟨a + 3, ?_, z3, t4, b3, Iff.rfl⟩) ?_ (Or.inr (by rw [show a + 5 - 1 = a + 4 by omega]; exact t5))
            · rw [b8]
              have : CN (cur T s1 (a + 3)) ↔ CN s1 := by unfold CN; rw [cur_row (by decide)]
              rw [this]
            · rw [adv_col (by decide), u2_row _ _ _ (by decide), adv_col (by decide), adv_col (by decide)]; exact f2
            · intro c x y
              rw [adv_row x, u2_row _ _ _ y, adv_row x, adv_row x]
            · intro i x
              rw [adv_row (by decide), u2_col _ _ _ x, adv_row (by decide), adv_row (by decide)]
            · intro j x
              rw [adv_col x, u2_row _ _ _ (by decide), adv_col x, adv_col x]
            · rw [adv_row (by decide)]; exact u2_same _ _ _ _
            · intro k x y
              have : k = a + 2 ∨ k = a + 3 ∨ k = a + 4 := by omega
              rcases this with rfl | rfl | rfl
              · rw [show a + 2 - 1 = a + 1 by omega, t1, t3]; exact ⟨Or.inl (Or.inr (Or.inr (Or.inl (by decide)))), by decide, by decide, by decide, by decide⟩
              · rw [show a + 3 - 1 = a + 2 by omega, t3, t4]; exact ⟨Or.inl (Or.inl (by decide)), by decide, by decide, by decide, by decide⟩
              · rw [show a + 4 - 1 = a + 3 by omega, t4, t5]; exact ⟨Or.inl (Or.inr (Or.inl (by decide))), by decide, by decide, by decide, by decide⟩
          · have ef3 : SFc (cur T s1 (a + 3)) s3 := (ef30 nu2 nu3).sf
            have h543 : (cur T s3 (a + 4)) 54 6 = ((S + 1 : Nat) : Int) := by rw [cur_row (by decide), nu2 54 (by decide)]; exact h54
            obtain ⟨s', k1, k2⟩ := brk_cn hT (cur_cc (a := a + 4) (ef3.cc ccB)) (cur_cu (by omega)) h543 hS1 t5 (mn (T.vl (a + 3)))
            obtain ⟨mF, k3, k4⟩ := br_mn hT mc2 f2 u2' (show a + 2 ≤ T.z by omega) (show S < 4100 by omega) (fun y => t5 y.2.2)
            rw [k1, k3]
            exact Or.inr ⟨15, s', mF, rfl, Or.inr rfl, ⟨(((sf1c.trans cur_sf).trans ef3).trans cur_sf).trans k2.1, k2.2⟩, rfl, sf2.trans k4.1, k4.2⟩
        · obtain ⟨mF, k3, k4⟩ := br_mn hT mc2 f2 u2' (show a + 2 ≤ T.z by omega) (show S < 4100 by omega) (fun y => t4 y.2.1)
          rw [k3]
          refine Or.inr ⟨15, cur T s1 (a + 3), mF, ?_, Or.inr rfl, ⟨sf1c.trans cur_sf, _, cuB⟩, rfl, sf2.trans k4.1, k4.2⟩
          by_cases k1 : kd = 1
          · rw [if_pos k1, c92y hT cc1 hd2 t3 (by decide)]
            show xb (f_93 1 20 (cur T s1 (a + 3))) _ = _
            rw [c93n cuB t4]
            rfl
          · have c8 := c80 ccB hT (a := a + 3) (by omega)
            rw [if_neg k1, if_neg (by rw [hd2.2.1]; simp [t3]), nxt hT cc1 hd2 (by rw [t3]; decide)]
            show gd (g_80 ((cur T s1 (a + 3)) 39 10) (cur T s1 (a + 3))) _ = _
            rw [cuB.1, gd_pos c8.2, c93n cuB t4]
            rfl
      · have k1 : kd = 1 := by rcases tb with e | e; exact e; exact absurd e t3
        obtain ⟨mF, k3, k4⟩ := br_mn hT mc2 f2 u2' (show a + 2 ≤ T.z by omega) (show S < 4100 by omega) (fun y => t3 y.1)
        rw [if_pos k1, c92n hd2 t3, k3]
        exact Or.inr ⟨15, s1, mF, rfl, Or.inr rfl, ⟨sf1c, _, hd2⟩, rfl, sf2.trans k4.1, k4.2⟩
    · have k0 : kd = 0 := by rcases kd01 with e | e; exact e; exact absurd (Or.inl e) tb
      have t3 : T.tk (a + 2) ≠ 91 := fun y => tb (Or.inr y)
      rw [if_neg tb, if_neg (by omega), if_pos (by rw [hd2.2.1]; exact t3)]
      have hM96 : M2 96 S = -1 := by rw [hM2, u2_row _ _ _ (by decide), adv_row (by decide), hM1, u2_row _ _ _ (by decide), adv_row (by decide)]; simp [ax_u2]
      exact fin s1 M2 (a + 2) True hd2 (Nat.le_refl _) (by omega) (fun _ _ => rfl) (fun _ _ => rfl) (fun _ _ _ => rfl) (fun _ _ => rfl) ⟨fun y => ⟨y, trivial⟩, fun y => y.1⟩ mc2 f2 u2' (fun _ _ _ => rfl) (fun _ _ => rfl) (fun _ _ => rfl) (Or.inl ⟨k0, hM96, q5, trivial⟩) (fun k x y => absurd y (by omega)) (Or.inl (by rw [show a + 2 - 1 = a + 1 by omega]; exact t1))
  · -- no NAME
    have cn := c156n (kd := kd) hT e1 e3 n0 t1
    have cl : f_145 sc = some (.inr (15, cur T sc (a + 1))) := by
      unfold f_145
      rw [e3.2.1]
      rcases t0 with e | e
      · have k0 : kd = 0 := by rw [hkd, if_pos e]
        rw [k0] at cn
        rw [if_pos e]
        unfold f_150
        rw [cn]
        rfl
      · have k1 : kd = 1 := by rw [hkd, if_neg (by rw [e]; decide)]
        rw [k1] at cn
        rw [if_neg (by rw [e]; decide), if_pos e]
        unfold f_151
        rw [cn]
        rfl
    rw [takeN mc1 hT f1 u1 (show a + 1 ≤ T.z by omega) (k := 1) (by decide) (by decide) t1, Option.bind_some]
    dsimp only
    have ef : 0 < (ax_u2 (tel M1 2 (a + 1)) 95 S 0) 84 6 := by rw [u2_row _ _ _ (by decide), tel_at]; decide
    have sfF : SFm sm (ax_u2 (tel M1 2 (a + 1)) 95 S 0) := (sf1.trans tel_sf).trans (ro_sf (by decide))
    obtain ⟨mA, a1, a2⟩ := fl133 (S := S) ef (by omega)
    obtain ⟨mB, b1, b2⟩ := fl158 (S := S) ef (by omega)
    have g15 : g_232 15 (ax_u2 (tel M1 2 (a + 1)) 95 S 0) := by
      unfold g_232
      rw [u2_row _ _ _ (by decide), tel_col (by decide) (by decide), u1]
      exact ⟨⟨by omega, by omega⟩, trivial⟩
    rw [cl, a1, b1, gd_pos g15]
    right
    refine ⟨15, cur T sc (a + 1), ?_⟩
    split
    · exact ⟨mA, rfl, Or.inr rfl, ⟨cur_sf, _, cur_cu (by omega)⟩, rfl, sfF.trans a2.1, a2.2⟩
    · split
      · exact ⟨mB, rfl, Or.inr rfl, ⟨cur_sf, _, cur_cu (by omega)⟩, rfl, sfF.trans b2.1, b2.2⟩
      · exact ⟨mA, rfl, Or.inr rfl, ⟨cur_sf, _, cur_cu (by omega)⟩, rfl, sfF.trans a2.1, a2.2⟩
end RN
