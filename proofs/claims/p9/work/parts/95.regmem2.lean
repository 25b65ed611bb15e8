/-! REGISTERS and MEMORIES on both sides. -/
section RN
variable {T : TT} {sc0 sm0 sc sm s m : Sg} {a a1 S P A N K C w : Nat} {kd : Int}
/-- the number in brackets, the class's way: what a reg, what a mem asks -/
def bq (kd v : Int) : Prop := (kd = 0 ∧ pw2 v) ∨ (kd = 1 ∧ 1 ≤ v ∧ v ≤ 20)
theorem brk_c (hT : TWF T) (hc : CC T s) (hu : CU T s a) (hS : s 54 6 = ((S + 1 : Nat) : Int)) (hS8 : S < 1171) (h58 : s 58 S = 0) (t1 : T.tk a = 2) (t2 : T.tk (a + 1) = 93) :
    ∀ s1 : Sg, ∀ (v : Prop), (∀ c, c ≠ 30 → s1 c = s c) → (∀ j, j < 4 ∨ 7 < j → s1 30 j = s 30 j) → (CN s1 ↔ CN s ∧ v) → ∃ s' : Sg, j_150_67 (mn (T.vl a)) (cur T s1 (a + 1)) = j_150_84 s' ∧ CU T s' (a + 2) ∧ s' 58 S = mn (T.vl a) ∧ (∀ i, i ≠ S → s' 58 i = s 58 i) ∧ (∀ c, ¬ (c = 30 ∨ c = 39 ∨ c = 58) → s' c = s c) ∧ (∀ j, j ≠ 10 → j ≠ 11 → s' 39 j = s 39 j) ∧ (∀ j, j < 4 ∨ 7 < j → s' 30 j = s 30 j) ∧ (CN s' ↔ CN s ∧ v) := by
  intro s1 v n3 n4 n2
  have hz := hT.lt hu.2.2 (by rw [t1]; decide)
  have hz1 := hT.lt (show a + 1 ≤ T.z by omega) (by rw [t2]; decide)
  have hv := hT.2.2.2.2.1 a hz
  have cc1 : CC T (cur T s1 (a + 1)) := cur_cc ((ef30 n3 n4).cc hc)
  have h54 : (cur T s1 (a + 1)) 54 6 = ((S + 1 : Nat) : Int) := by rw [cur_row (by decide), n3 54 (by decide)]; exact hS
  obtain ⟨⟨g1, g2⟩, _, _⟩ := c181 h54 hS8 (mn (T.vl a))
  have e58 : (cur T s1 (a + 1)) 58 S = 0 := by rw [cur_row (by decide), n3 58 (by decide)]; exact h58
  have mnb : 0 ≤ mn (T.vl a) ∧ mn (T.vl a) ≤ 1073741824 := by unfold mn; split <;> omega
  rw [e58, Int.zero_add, w32_id (by omega) (by omega)] at g2
  have cc2 : CC T (ax_u2 (cur T s1 (a + 1)) 58 S (mn (T.vl a))) := cc1.row (by simp [ax_u2]) (u2_row _ _ _ (by decide)) (u2_row _ _ _ (by decide)) (u2_row _ _ _ (by decide)) (by simp [ax_u2]) (u2_row _ _ _ (by decide))
  have cu2 : CU T (ax_u2 (cur T s1 (a + 1)) 58 S (mn (T.vl a))) (a + 1) := by
    have := cur_cu (T := T) (s := s1) (a := a + 1) (by omega)
    unfold CU at *
    rw [u2_row _ _ _ (by decide)]
    exact this
  refine ⟨cur T (ax_u2 (cur T s1 (a + 1)) 58 S (mn (T.vl a))) (a + 2), ?_, cur_cu (by omega), ?_, ?_, ?_, ?_, ?_, ?_⟩
  · unfold j_150_67
    rw [gd_pos g1, g2, Option.bind_some, c92y hT cc2 cu2 t2 (by decide)]
    rfl
  · rw [cur_row (by decide)]; exact u2_same _ _ _ _
  · intro i hi
    rw [cur_row (by decide), u2_col _ _ _ hi, cur_row (by decide), n3 58 (by decide)]
  · intro c x
    rw [cur_row (by omega), u2_row _ _ _ (by omega), cur_row (by omega), n3 c (by omega)]
  · intro j x y
    rw [cur_col x y, u2_row _ _ _ (by decide), cur_col x y, n3 39 (by decide)]
  · intro j x
    rw [cur_row (by decide), u2_row _ _ _ (by decide), cur_row (by decide), n4 j x]
  · have : CN (cur T (ax_u2 (cur T s1 (a + 1)) 58 S (mn (T.vl a))) (a + 2)) ↔ CN s1 := by unfold CN; rw [cur_row (by decide), u2_row _ _ _ (by decide), cur_row (by decide)]
    rw [this, n2]
theorem brk_cn (hT : TWF T) (hc : CC T s) (hu : CU T s a) (hS : s 54 6 = ((S + 1 : Nat) : Int)) (hS8 : S < 1171) (t2 : T.tk a ≠ 93) (v : Int) : ∃ s' : Sg, j_150_67 v s = some (.inr (15, s')) ∧ BSc T s s' := by
  obtain ⟨⟨g1, g2⟩, _, _⟩ := c181 hS hS8 v
  have cu2 : CU T (f_189 v s) a := by
    rw [g2]
    unfold CU at *
    rw [u2_row _ _ _ (by decide)]
    exact hu
  refine ⟨f_189 v s, ?_, ?_, _, cu2⟩
  · unfold j_150_67
    rw [gd_pos g1, Option.bind_some, c92n cu2 t2]
    rfl
  · rw [g2]
    exact ⟨fun c x => u2_row _ _ _ (by omega), fun j _ _ => by rw [u2_row _ _ _ (by decide)], fun j _ => by rw [u2_row _ _ _ (by decide)], fun j _ => by rw [u2_row _ _ _ (by decide)], W8.same (u2_row _ _ _ (by decide))⟩
theorem regmem_sim (hT : TWF T) (hp : POS T) (h : PS0 T sc0 sm0 sc sm a S P A N K C w) (t0 : T.tk a = 17 ∨ T.tk a = 18) :
    (∃ (sc' sm' : Sg) (a' : Nat), f_145 sc = some (.inl sc') ∧ f_233 sm = some sm' ∧ a < a' ∧ PS0 T sc0 sm0 sc' sm' a' (S + 1) P A N K C w) ∨ (∃ (x : Nat) (s' mF : Sg), f_145 sc = some (.inr (x, s')) ∧ (x = 14 ∨ x = 15) ∧ BSc T sc s' ∧ f_233 sm = some mF ∧ BSm sm mF) := by
  obtain ⟨hB, h70, h19, h7, h37, hnc, htl, hdp⟩ := id h
  obtain ⟨e1, e2, e3, e4, e5, e6, e7, e8, e9, e10, e11, e12, e13, e14, e15, e16, e17, e18, e19, e20, e21, e22, e23, e24, e25, e26, e27, e28, e29, e30, e31⟩ := id hB
  have h8 := hT.1
  have n0 : T.tk a ≠ 0 := by rcases t0 with e | e <;> rw [e] <;> decide
  have hz := hT.lt e3.2.2 n0
  have pz := hp.add (k := a) (T.z - a) (by omega)
  rw [show a + (T.z - a) = T.z by omega] at pz
  have p8 := hp.2.2.2
  have hS1 : S < 1171 := by omega
  obtain ⟨kd, hkd⟩ : ∃ kd : Int, kd = if T.tk a = 17 then 0 else 1 := ⟨_, rfl⟩
  have kd01 : kd = 0 ∨ kd = 1 := by rw [hkd]; split <;> simp
  -- the reference begins
  have hM0 : MC T (ax_u2 (ax_u2 (ax_u2 (ax_u2 (ax_u2 (ax_u2 (ax_u2 sm 96 S (-1)) 98 S (P : Int)) 99 S 0) 100 S (-1)) 102 S 0) 103 S (N : Int)) 84 46 (-1)) := e2.row (by simp [ax_u2]) (by funext x; simp [ax_u2])
  have f0 : (ax_u2 (ax_u2 (ax_u2 (ax_u2 (ax_u2 (ax_u2 (ax_u2 sm 96 S (-1)) 98 S (P : Int)) 99 S 0) 100 S (-1)) 102 S 0) 103 S (N : Int)) 84 46 (-1)) 84 6 = 0 := by simpa [ax_u2] using e5
  have u0 : (ax_u2 (ax_u2 (ax_u2 (ax_u2 (ax_u2 (ax_u2 (ax_u2 sm 96 S (-1)) 98 S (P : Int)) 99 S 0) 100 S (-1)) 102 S 0) 103 S (N : Int)) 84 46 (-1)) 84 18 = (a : Int) := by simpa [ax_u2] using e4
  have sf0 : SFm sm (ax_u2 (ax_u2 (ax_u2 (ax_u2 (ax_u2 (ax_u2 (ax_u2 sm 96 S (-1)) 98 S (P : Int)) 99 S 0) 100 S (-1)) 102 S 0) 103 S (N : Int)) 84 46 (-1)) := ⟨fun c x => by rw [u2_row _ _ _ (by omega), u2_row _ _ _ (by omega), u2_row _ _ _ (by omega), u2_row _ _ _ (by omega), u2_row _ _ _ (by omega), u2_row _ _ _ (by omega), u2_row _ _ _ (by omega)], fun j x => by rw [u2_col _ _ _ (by omega), u2_row _ _ _ (by decide), u2_row _ _ _ (by decide), u2_row _ _ _ (by decide), u2_row _ _ _ (by decide), u2_row _ _ _ (by decide), u2_row _ _ _ (by decide)]⟩
  have r233 : f_233 sm = j_233_76 (S : Int) (adv (ax_u2 (ax_u2 (ax_u2 (ax_u2 (ax_u2 (ax_u2 (ax_u2 sm 96 S (-1)) 98 S (P : Int)) 99 S 0) 100 S (-1)) 102 S 0) 103 S (N : Int)) 84 46 (-1)) (a + 1)) := by
    unfold f_233
    rw [h19, gd_pos (by omega), gd_pos (by omega), gd_pos (by omega), gd_pos (by omega), gd_pos (by omega), gd_pos (by omega), Int.toNat_natCast, e11, e6.2.1]
    rcases t0 with e | e
    · rw [eatY hM0 hT f0 u0 e3.2.2 (k := 17) (by decide) e]
      rw [if_pos (by simp)]
    · rw [eatN hM0 hT u0 e3.2.2 (k := 17) (by decide) (by decide) (by rw [e]; decide)]
      rw [if_neg (by simp), eatY hM0 hT f0 u0 e3.2.2 (k := 18) (by decide) e]
      rw [if_neg (by simp)]
  obtain ⟨M1, hM1⟩ : ∃ M1 : Sg, M1 = ax_u2 (adv (ax_u2 (ax_u2 (ax_u2 (ax_u2 (ax_u2 (ax_u2 (ax_u2 sm 96 S (-1)) 98 S (P : Int)) 99 S 0) 100 S (-1)) 102 S 0) 103 S (N : Int)) 84 46 (-1)) (a + 1)) 94 S kd := ⟨_, rfl⟩
  have mc1 : MC T M1 := by rw [hM1]; exact (adv_mc hM0).row (by simp [ax_u2]) (u2_row _ _ _ (by decide))
  have f1 : M1 84 6 = 0 := by rw [hM1, u2_row _ _ _ (by decide), adv_col (by decide)]; exact f0
  have u1 : M1 84 18 = ((a + 1 : Nat) : Int) := by rw [hM1, u2_row _ _ _ (by decide)]; exact adv_at
  have sf1 : SFm sm M1 := by rw [hM1]; exact (sf0.trans adv_sf).trans (ro_sf (by decide))
  have r76 : j_233_76 (S : Int) (adv (ax_u2 (ax_u2 (ax_u2 (ax_u2 (ax_u2 (ax_u2 (ax_u2 sm 96 S (-1)) 98 S (P : Int)) 99 S 0) 100 S (-1)) 102 S 0) 103 S (N : Int)) 84 46 (-1)) (a + 1)) = ((f_231 1 M1).bind fun q2 => (if q2.2 94 S = 1 then j_233_133 (S : Int) (ax_u2 q2.2 95 S q2.1) else (gd (g_232 15 (ax_u2 q2.2 95 S q2.1)) (if f_232 15 (ax_u2 q2.2 95 S q2.1) = 0 then j_233_158 (S : Int) (ax_u2 q2.2 95 S q2.1) else j_233_133 (S : Int) (ax_u2 q2.2 95 S q2.1))))) := by
    unfold j_233_76
    have e18' : (adv (ax_u2 (ax_u2 (ax_u2 (ax_u2 (ax_u2 (ax_u2 (ax_u2 sm 96 S (-1)) 98 S (P : Int)) 99 S 0) 100 S (-1)) 102 S 0) 103 S (N : Int)) 84 46 (-1)) (a + 1)) 84 18 = ((a + 1 : Nat) : Int) := adv_at
    have w1 : ax_w32 (((a + 1 : Nat) : Int) - 1) = (a : Int) := by rw [w32_id (by omega) (by omega)]; omega
    have e88 : (adv (ax_u2 (ax_u2 (ax_u2 (ax_u2 (ax_u2 (ax_u2 (ax_u2 sm 96 S (-1)) 98 S (P : Int)) 99 S 0) 100 S (-1)) 102 S 0) 103 S (N : Int)) 84 46 (-1)) (a + 1)) 88 a = km (T.tk a) := (adv_mc hM0).2 a e3.2.2
    rw [e18', w1, gd_pos (by omega), gd_pos (by omega), Int.toNat_natCast, Int.toNat_natCast, e88]
    have ek : ((if ¬ km (T.tk a) = 31 then 1 else 0) : Int) = kd := by rw [hkd]; rcases t0 with e | e <;> rw [e] <;> decide
    rw [ek, ← hM1]
    congr 1
    funext q2
    rw [gd_pos (by omega), gd_pos (by omega)]
  have m94 : M1 94 S = kd := by rw [hM1]; exact u2_same _ _ _ _
  -- what the class does behind the head
  have cls : ∀ s1 : Sg, f_156 kd sc = some (.inl s1) → f_145 sc = (if kd = 1 then (xb (f_92 91 s1) fun q2 => (xb (f_93 1 20 q2) fun q3 => j_150_67 q3.1 q3.2)) else (if ¬ (s1 39 11) = 91 then j_150_84 s1 else (gd (g_94 s1) ((some (f_94 s1)).bind fun q5 => (gd (g_80 (q5 39 10) q5) (xb (f_93 2 64 q5) fun q6 => (if f_294 q6.1 q6.2 = 1 then j_150_67 q6.1 q6.2 else (gd (g_71 4 (f_80 (q5 39 10) q5) q6.2) ((some (f_71 4 (f_80 (q5 39 10) q5) q6.2)).bind fun q9 => j_150_67 q6.1 q9))))))))) := by
    intro s1 hs1
    have eta : ∀ o : Option (Sum Sg (Nat × Sg)), (xb o fun q => some (.inl q)) = o := fun o => by
      cases o with
      | none => rfl
      | some o => cases o <;> rfl
    unfold f_145
    rw [e3.2.1]
    rcases t0 with e | e
    · have k0 : kd = 0 := by rw [hkd, if_pos e]
      rw [k0] at hs1 ⊢
      rw [if_pos e, eta, if_neg (by decide)]
      unfold f_150
      rw [hs1]
      rfl
    · have k1 : kd = 1 := by rw [hkd, if_neg (by rw [e]; decide)]
      rw [k1] at hs1 ⊢
      rw [if_neg (by rw [e]; decide), if_pos e, eta, if_pos rfl]
      unfold f_151
      rw [hs1]
      rfl
  rw [r233, r76]
  by_cases t1 : T.tk (a + 1) = 1
  · have z1 := hT.lt (show a + 1 ≤ T.z by omega) (by rw [t1]; decide)
    obtain ⟨s1, hd1, hd2, hd3, hd4⟩ := c156 (kd := kd) hT e1 e3 n0 t1 e10 hS1 e6.1
    obtain ⟨q1, q2, q3, q4, q5, q6, q7, q8, q9, q10, q11, q12, q13, q14⟩ := hd3
    have sf1c : SFc sc s1 := ⟨fun c x => q12 c (by omega), q13, q14, fun j _ => by rw [q12 31 (by omega)], W8.same (q12 31 (by omega))⟩
    have cc1 := sf1c.cc e1
    rw [cls s1 hd1]
    have tk1 := takeY (K := 1) mc1 hT f1 u1 (show a + 1 ≤ T.z by omega) (k := 1) (by decide) t1
    obtain ⟨M2, hM2⟩ : ∃ M2 : Sg, M2 = ax_u2 (adv M1 (a + 2)) 95 S ((a + 1 : Nat) : Int) := ⟨_, rfl⟩
    have mc2 : MC T M2 := by rw [hM2]; exact (adv_mc mc1).row (by simp [ax_u2]) (u2_row _ _ _ (by decide))
    have f2 : M2 84 6 = 0 := by rw [hM2, u2_row _ _ _ (by decide), adv_col (by decide)]; exact f1
    have u2' : M2 84 18 = ((a + 2 : Nat) : Int) := by rw [hM2, u2_row _ _ _ (by decide)]; exact adv_at
    have sf2 : SFm sm M2 := by rw [hM2]; exact (sf1.trans adv_sf).trans (ro_sf (by decide))
    have rb : ((f_231 1 M1).bind fun q2 => (if q2.2 94 S = 1 then j_233_133 (S : Int) (ax_u2 q2.2 95 S q2.1) else (gd (g_232 15 (ax_u2 q2.2 95 S q2.1)) (if f_232 15 (ax_u2 q2.2 95 S q2.1) = 0 then j_233_158 (S : Int) (ax_u2 q2.2 95 S q2.1) else j_233_133 (S : Int) (ax_u2 q2.2 95 S q2.1))))) = (if kd = 1 ∨ T.tk (a + 2) = 91 then j_233_133 (S : Int) M2 else j_233_158 (S : Int) M2) := by
      rw [tk1, Option.bind_some]
      show (if (adv M1 (a + 2)) 94 S = 1 then j_233_133 (S : Int) (ax_u2 (adv M1 (a + 2)) 95 S ((a + 1 : Nat) : Int)) else (gd (g_232 15 (ax_u2 (adv M1 (a + 2)) 95 S ((a + 1 : Nat) : Int))) (if f_232 15 (ax_u2 (adv M1 (a + 2)) 95 S ((a + 1 : Nat) : Int)) = 0 then j_233_158 (S : Int) (ax_u2 (adv M1 (a + 2)) 95 S ((a + 1 : Nat) : Int)) else j_233_133 (S : Int) (ax_u2 (adv M1 (a + 2)) 95 S ((a + 1 : Nat) : Int))))) = _
      rw [← hM2, show (adv M1 (a + 2)) 94 S = kd by rw [adv_row (by decide)]; exact m94]
      by_cases k1 : kd = 1
      · rw [if_pos k1, if_pos (Or.inl k1)]
      · rw [if_neg k1]
        by_cases t2 : T.tk (a + 2) = 91
        · have iy := is_y mc2 hT u2' (show a + 2 ≤ T.z by omega) (K := 15) (k := 91) (by decide) t2
          rw [gd_pos iy.2, iy.1, if_neg (by decide), if_pos (Or.inr t2)]
        · have iy := is_n mc2 hT u2' (show a + 2 ≤ T.z by omega) (K := 15) (k := 91) (by decide) (by decide) t2
          rw [gd_pos iy.2, iy.1, if_pos rfl, if_neg (fun y => by rcases y with y | y; exact k1 y; exact t2 y)]
    rw [rb]
    -- the end, once the class stands before the width
    have fin : ∀ (s2 M3 : Sg) (b : Nat) (v : Prop), CU T s2 b → a + 2 ≤ b → b ≤ T.z → (∀ i, i ≠ S → s2 58 i = s1 58 i) → (∀ c, ¬ (c = 30 ∨ c = 39 ∨ c = 58) → s2 c = s1 c) → (∀ j, j ≠ 10 → j ≠ 11 → s2 39 j = s1 39 j) → (∀ j, j < 4 ∨ 7 < j → s2 30 j = s1 30 j) → (CN s2 ↔ CN s1 ∧ v) →
        MC T M3 → M3 84 6 = 0 → M3 84 18 = (b : Int) → (∀ c, c ≠ 84 → c ≠ 96 → M3 c = M2 c) → (∀ i, i ≠ S → M3 96 i = M2 96 i) → (∀ j, j ≠ 18 → M3 84 j = M2 84 j) →
        ((kd = 0 ∧ M3 96 S = -1 ∧ s2 58 S = 0 ∧ v) ∨ (∃ c : Nat, M3 96 S = (c : Int) ∧ c < T.z ∧ T.tk c = 2 ∧ s2 58 S = mn (T.vl c) ∧ (v ↔ bq kd (T.vl c)))) →
        (∀ k, a + 2 ≤ k → k < b → PRQ (T.tk (k - 1)) (T.tk k) ∧ T.tk k ≠ 123 ∧ T.tk k ≠ 125 ∧ ¬ (17 ≤ T.tk k ∧ T.tk k ≤ 20) ∧ T.tk (k - 1) ≠ 59) → (T.tk (b - 1) = 1 ∨ T.tk (b - 1) = 93) →
        (∃ (sc' sm' : Sg) (a' : Nat), j_150_84 s2 = some (.inl sc') ∧ j_233_158 (S : Int) M3 = some sm' ∧ a < a' ∧ PS0 T sc0 sm0 sc' sm' a' (S + 1) P A N K C w) ∨ (∃ (x : Nat) (s' mF : Sg), j_150_84 s2 = some (.inr (x, s')) ∧ (x = 14 ∨ x = 15) ∧ BSc T sc s' ∧ j_233_158 (S : Int) M3 = some mF ∧ BSm sm mF) := by
      intro s2 M3 b v g1 g2 g3 g4 g5 g6 g7 g8 m1 m2 m3 m4 m5 m6 hq pq hb1
      have sfb : SFc s1 s2 := ⟨fun c x => g5 c (by omega), g6, g7, fun j _ => by rw [g5 31 (by omega)], W8.same (g5 31 (by omega))⟩
      have sfM : SFm M2 M3 := ⟨fun c x => m4 c (by omega) (by omega), fun j x => m6 j (by omega)⟩
      have h54 : s2 54 6 = ((S + 1 : Nat) : Int) := by rw [g5 54 (by omega)]; exact q1
      by_cases t : T.tk b = 2 ∧ T.tk (b + 1) = 59
      · have zb := hT.lt g3 (by rw [t.1]; decide)
        have zb1 := hT.lt (show b + 1 ≤ T.z by omega) (by rw [t.2]; decide)
        obtain ⟨s', k1, k2, k3, k4, k5, k6, k7, k8⟩ := tl_c hT (sfb.cc cc1) g1 h54 hS1 (by rw [g5 57 (by omega)]; exact q4) t.1 t.2
        have hM := tl_m hT m1 m2 m3 g3 (by omega) t.1 t.2 (S := S)
        obtain ⟨M4, hM4⟩ : ∃ M4 : Sg, M4 = adv (ax_u2 (adv M3 (b + 1)) 97 S (b : Int)) (b + 2) := ⟨_, rfl⟩
        rw [← hM4] at hM
        have r4 : ∀ c, c ≠ 84 → c ≠ 97 → M4 c = M3 c := fun c x y => by rw [hM4, adv_row x, u2_row _ _ _ y, adv_row x]
        have c4 : ∀ j, j ≠ 18 → M4 84 j = M3 84 j := fun j x => by rw [hM4, adv_col x, u2_row _ _ _ (by decide), adv_col x]
        have e97 : M4 97 S = (b : Int) := by rw [hM4, adv_row (by decide)]; exact u2_same _ _ _ _
        have c97 : ∀ i, i ≠ S → M4 97 i = M3 97 i := fun i x => by rw [hM4, adv_row (by decide), u2_col _ _ _ x, adv_row (by decide)]
        -- rows of the reference over all
        have big : ∀ c, c ≠ 84 → c ≠ 94 → c ≠ 95 → c ≠ 96 → c ≠ 97 → M4 c = (ax_u2 (ax_u2 (ax_u2 (ax_u2 (ax_u2 (ax_u2 (ax_u2 sm 96 S (-1)) 98 S (P : Int)) 99 S 0) 100 S (-1)) 102 S 0) 103 S (N : Int)) 84 46 (-1)) c := fun c x1 x2 x3 x4 x5 => by rw [r4 c x1 x5, m4 c x1 x4, hM2, u2_row _ _ _ x3, adv_row x1, hM1, u2_row _ _ _ x2, adv_row x1]
        have e103 : M4 103 S = (N : Int) := by rw [big 103 (by decide) (by decide) (by decide) (by decide) (by decide)]; simp [ax_u2]
        have c84 : ∀ j, j ≠ 18 → j ≠ 46 → M4 84 j = sm 84 j := fun j x y => by rw [c4 j x, m6 j x, hM2, u2_row _ _ _ (by decide), adv_col x, hM1, u2_row _ _ _ (by decide), adv_col x, u2_col _ _ _ y, u2_row _ _ _ (by decide), u2_row _ _ _ (by decide), u2_row _ _ _ (by decide), u2_row _ _ _ (by decide), u2_row _ _ _ (by decide), u2_row _ _ _ (by decide)]
        have h359 : j_233_359 (S : Int) M4 = some (ax_u2 (ax_u2 M4 103 S 0) 84 19 ((S + 1 : Nat) : Int)) := by
          unfold j_233_359
          have e6' : M4 84 6 = 0 := by rw [c84 6 (by decide) (by decide)]; exact e5
          have e47 : M4 84 47 = (N : Int) := by rw [c84 47 (by decide) (by decide)]; exact e6.2.1
          have e19 : M4 84 19 = (S : Int) := by rw [c84 19 (by decide) (by decide)]; exact h19
          rw [if_pos (by omega), gd_pos (by omega), gd_pos (by omega), Int.toNat_natCast, e47, e103, Int.sub_self, e19, w32_nat (by omega)]
          rfl
        have mrow : ∀ c i, 94 ≤ c → c ≤ 103 → i ≠ S → (ax_u2 (ax_u2 M4 103 S 0) 84 19 ((S + 1 : Nat) : Int)) c i = sm c i := by
          intro c i x y z
          rw [u2_row _ _ _ (by omega)]
          by_cases c97' : c = 97
          · subst c97'
            rw [u2_row _ _ _ (by decide), c97 i z, m4 97 (by decide) (by decide), hM2, u2_row _ _ _ (by decide), adv_row (by decide), hM1, u2_row _ _ _ (by decide), adv_row (by decide)]
            simp [ax_u2]
          · by_cases c96 : c = 96
            · subst c96
              rw [u2_row _ _ _ (by decide), r4 96 (by decide) (by decide), m5 i z, hM2, u2_row _ _ _ (by decide), adv_row (by decide), hM1, u2_row _ _ _ (by decide), adv_row (by decide)]
              simp [ax_u2, z]
            · by_cases c95 : c = 95
              · subst c95
                rw [u2_row _ _ _ (by decide), r4 95 (by decide) (by decide), m4 95 (by decide) (by decide), hM2, u2_col _ _ _ z, adv_row (by decide), hM1, u2_row _ _ _ (by decide), adv_row (by decide)]
                simp [ax_u2]
              · by_cases c94 : c = 94
                · subst c94
                  rw [u2_row _ _ _ (by decide), r4 94 (by decide) (by decide), m4 94 (by decide) (by decide), hM2, u2_row _ _ _ (by decide), adv_row (by decide), hM1, u2_col _ _ _ z, adv_row (by decide)]
                  simp [ax_u2]
                · have : (ax_u2 M4 103 S 0) c i = M4 c i := by
                    by_cases c103 : c = 103
                    · subst c103; exact u2_col _ _ _ z
                    · rw [u2_row _ _ _ c103]
                  rw [this, big c (by omega) c94 c95 c96 c97']
                  simp [ax_u2, z, show c ≠ 84 by omega]
        refine Or.inl ⟨s', ax_u2 (ax_u2 M4 103 S 0) 84 19 ((S + 1 : Nat) : Int), b + 2, k1, by rw [hM]; exact h359, by omega, ?_⟩
        have m97 : (ax_u2 (ax_u2 M4 103 S 0) 84 19 ((S + 1 : Nat) : Int)) 97 S = (b : Int) := by rw [u2_row _ _ _ (by decide), u2_row _ _ _ (by decide)]; exact e97
        have m96 : (ax_u2 (ax_u2 M4 103 S 0) 84 19 ((S + 1 : Nat) : Int)) 96 S = M3 96 S := by rw [u2_row _ _ _ (by decide), u2_row _ _ _ (by decide), r4 96 (by decide) (by decide)]
        have m94' : (ax_u2 (ax_u2 M4 103 S 0) 84 19 ((S + 1 : Nat) : Int)) 94 S = kd := by rw [u2_row _ _ _ (by decide), u2_row _ _ _ (by decide), r4 94 (by decide) (by decide), m4 94 (by decide) (by decide), hM2, u2_row _ _ _ (by decide), adv_row (by decide), m94]
        have m95 : (ax_u2 (ax_u2 M4 103 S 0) 84 19 ((S + 1 : Nat) : Int)) 95 S = ((a + 1 : Nat) : Int) := by rw [u2_row _ _ _ (by decide), u2_row _ _ _ (by decide), r4 95 (by decide) (by decide), m4 95 (by decide) (by decide), hM2]; exact u2_same _ _ _ _
        have m98 : (ax_u2 (ax_u2 M4 103 S 0) 84 19 ((S + 1 : Nat) : Int)) 98 S = (P : Int) := by rw [u2_row _ _ _ (by decide), u2_row _ _ _ (by decide), big 98 (by decide) (by decide) (by decide) (by decide) (by decide)]; simp [ax_u2]
        have m99 : (ax_u2 (ax_u2 M4 103 S 0) 84 19 ((S + 1 : Nat) : Int)) 99 S = 0 := by rw [u2_row _ _ _ (by decide), u2_row _ _ _ (by decide), big 99 (by decide) (by decide) (by decide) (by decide) (by decide)]; simp [ax_u2]
        have s58 : s' 58 S = s2 58 S := by rw [k5 58 (by omega)]
        have skw : SKW T s' (ax_u2 (ax_u2 M4 103 S 0) 84 19 ((S + 1 : Nat) : Int)) S := ⟨b, m97, zb, t.1, k3⟩
        have hvm := hT.2.2.2.2.2.1 (a + 1) z1 t1
        have hv := hT.2.2.2.2.1 (a + 1) z1
        refine PS0.simple (kd := kd) hT hp h (by omega) (by omega) (by rcases t0 with e | e <;> rw [e] <;> decide) t1 (fun c x => by rw [k5 c (by omega), g5 c (by omega), q12 c (by omega)]) (fun j x y => by rw [k6 j x y, g6 j x y, q13 j x y]) (fun j x => by rw [k7 j x, g7 j x, q14 j x]) (by rw [k5 54 (by omega)]; exact h54) (fun j x => by rw [k5 54 (by omega), g5 54 (by omega), q11 j x]) ?_ (by rw [k5 55 (by omega), g5 55 (by omega)]; exact q2) (by rw [k5 56 (by omega), g5 56 (by omega)]; exact q3) (by rw [k5 59 (by omega), g5 59 (by omega)]; exact q6) (by rw [k5 60 (by omega), g5 60 (by omega)]; exact q7) (by rw [k5 36 (by omega), g5 36 (by omega)]; exact q8) (fun i x => by rw [k5 36 (by omega), g5 36 (by omega)]; exact q9 i x) k2 ?_ mrow ?_ ?_ (u2_same _ _ _ _) m94' m95 m98 m99 ?_ ?_ kd01 ?_ ?_ ?_ (by rw [show b + 2 - 1 = b + 1 by omega]; exact t.2)
        · intro c i x y z
          have a1 : s' c i = s2 c i := by
            by_cases e : c = 57
            · subst e; exact k4 i z
            · rw [k5 c (by omega)]
          have a2 : s2 c i = s1 c i := by
            by_cases e : c = 58
            · subst e; exact g4 i z
            · rw [g5 c (by omega)]
          rw [a1, a2]
          exact q10 c i x y z
        · intro c x
          rw [u2_row _ _ _ (by omega), u2_row _ _ _ (by omega), big c (by omega) (by omega) (by omega) (by omega) (by omega)]
          funext i
          simp [ax_u2, show c ≠ 84 by omega, show c ≠ 96 by omega, show c ≠ 98 by omega, show c ≠ 99 by omega, show c ≠ 100 by omega, show c ≠ 102 by omega, show c ≠ 103 by omega]
        · intro j x y z
          rw [u2_col _ _ _ y, u2_row _ _ _ (by decide)]
          exact c84 j x z
        · rw [u2_col _ _ _ (by decide), u2_row _ _ _ (by decide), hM4]; exact adv_at
        · rw [u2_row _ _ _ (by decide), u2_row _ _ _ (by decide), big 102 (by decide) (by decide) (by decide) (by decide) (by decide)]; simp [ax_u2]
        · rw [u2_row _ _ _ (by decide)]; exact u2_same _ _ _ _
        · rcases hq with ⟨y1, y2, y3, y4⟩ | ⟨c, y1, y2, y3, y4, y5⟩
          · exact Or.inl ⟨y1, skw, Or.inl ⟨by rw [m96]; exact y2, by rw [s58]; exact y3⟩⟩
          · have skc : SKC T s' (ax_u2 (ax_u2 M4 103 S 0) 84 19 ((S + 1 : Nat) : Int)) S := ⟨c, by rw [m96]; exact y1, y2, y3, by rw [s58]; exact y4⟩
            rcases kd01 with z | z
            · exact Or.inl ⟨z, skw, Or.inr skc⟩
            · exact Or.inr ⟨z, skw, skc⟩
        · rw [k8, g8, hd4]
          have tw : sc 36 (T.vl (a + 1)).toNat = -1 ↔ ∀ j, j < S → T.vl (sm 95 j).toNat ≠ T.vl (a + 1) := by
            rcases e17.2.2.2.2.2.1 (T.vl (a + 1)).toNat (IDN.at hT (x := a + 1) (by omega) t1) with ⟨y1, y2⟩ | ⟨i, y1, y2, y3⟩
            · refine ⟨fun _ j hj => ?_, fun _ => y1⟩
              have := y2 j hj
              rw [Int.toNat_of_nonneg hv.1] at this
              exact this
            · rw [Int.toNat_of_nonneg hv.1] at y3
              exact ⟨fun y => by omega, fun y => absurd y3 (y i y1)⟩
          unfold GST
          rw [m94', m95, m96, m97, m98, m99, Int.toNat_natCast, Int.toNat_natCast, tw]
          have tw2 : (∀ j, j < S → T.vl (sm 95 j).toNat ≠ T.vl (a + 1)) ↔ (∀ j, j < S → T.vl ((ax_u2 (ax_u2 M4 103 S 0) 84 19 ((S + 1 : Nat) : Int)) 95 j).toNat ≠ T.vl (a + 1)) := by
            constructor
            · intro y j hj; rw [mrow 95 j (by decide) (by decide) (by omega)]; exact y j hj
            · intro y j hj; have := y j hj; rw [mrow 95 j (by decide) (by decide) (by omega)] at this; exact this
          rw [tw2]
          have gp : GPT T s' (ax_u2 (ax_u2 M4 103 S 0) 84 19 ((S + 1 : Nat) : Int)) (P : Int).toNat (0 : Int).toNat := fun p y1 y2 => absurd y2 (by simp at y1 ⊢; omega)
          rcases hq with ⟨y1, y2, y3, y4⟩ | ⟨c, y1, y2, y3, y4, y5⟩
          · rw [y2]
            exact ⟨fun y => ⟨y.1.1.1, fun _ => y.2, fun z => by omega, fun _ z => absurd z (by decide), y.1.1.2, gp⟩, fun y => ⟨⟨⟨y.1, y.2.2.2.2.1⟩, y4⟩, y.2.1 (by omega)⟩⟩
          · rw [y1, Int.toNat_natCast, y5]
            unfold bq
            constructor
            · intro y
              refine ⟨y.1.1.1, fun _ => y.2, fun z => ?_, fun z _ => ?_, y.1.1.2, gp⟩
              · rcases y.1.2 with u | u
                · omega
                · exact u.2
              · rcases y.1.2 with u | u
                · exact u.2
                · omega
            · intro y
              refine ⟨⟨⟨y.1, y.2.2.2.2.1⟩, ?_⟩, y.2.1 (by omega)⟩
              rcases kd01 with z | z
              · exact Or.inl ⟨z, y.2.2.2.1 z (by omega)⟩
              · exact Or.inr ⟨z, y.2.2.1 z⟩
        · intro k x y
          by_cases c1 : k < b
          · exact pq k x c1
          · by_cases c2 : k = b
            · subst c2
              rw [t.1]
              refine ⟨?_, by decide, by decide, by decide, by rcases hb1 with e | e <;> rw [e] <;> decide⟩
              rcases hb1 with e | e <;> rw [e] <;> exact Or.inr (Or.inr (Or.inl (by decide)))
            · rw [show k = b + 1 by omega, show b + 1 - 1 = b by omega, t.1, t.2]
              exact ⟨Or.inr (Or.inl ⟨by decide, Or.inl rfl⟩), by decide, by decide, by decide, by decide⟩
      · obtain ⟨s', k1, k2⟩ := tl_cn hT (sfb.cc cc1) g1 h54 hS1 t
        obtain ⟨mF, k3, k4⟩ := tl_mn hT m1 m2 m3 g3 (show S < 4100 by omega) t
        exact Or.inr ⟨15, s', mF, k1, Or.inr rfl, ⟨(sf1c.trans sfb).trans k2.1, k2.2⟩, k3, (sf2.trans sfM).trans k4.1, k4.2⟩
    by_cases tb : kd = 1 ∨ T.tk (a + 2) = 91
    · rw [if_pos tb]
      by_cases t3 : T.tk (a + 2) = 91
      · have z2 := hT.lt (show a + 2 ≤ T.z by omega) (by rw [t3]; decide)
        have cuB : CU T (cur T s1 (a + 3)) (a + 3) := cur_cu (by omega)
        have ccB := cur_cc (a := a + 3) cc1
        by_cases t4 : T.tk (a + 3) = 2
        · have z3 := hT.lt (show a + 3 ≤ T.z by omega) (by rw [t4]; decide)
          have hv3 := hT.2.2.2.2.1 (a + 3) z3
          -- the class comes to the number's end
          have num : ∃ s3 : Sg, (if kd = 1 then (xb (f_92 91 s1) fun q2 => (xb (f_93 1 20 q2) fun q3 => j_150_67 q3.1 q3.2)) else (if ¬ (s1 39 11) = 91 then j_150_84 s1 else (gd (g_94 s1) ((some (f_94 s1)).bind fun q5 => (gd (g_80 (q5 39 10) q5) (xb (f_93 2 64 q5) fun q6 => (if f_294 q6.1 q6.2 = 1 then j_150_67 q6.1 q6.2 else (gd (g_71 4 (f_80 (q5 39 10) q5) q6.2) ((some (f_71 4 (f_80 (q5 39 10) q5) q6.2)).bind fun q9 => j_150_67 q6.1 q9))))))))) = j_150_67 (mn (T.vl (a + 3))) (cur T s3 (a + 4)) ∧ (∀ c, c ≠ 30 → s3 c = (cur T s1 (a + 3)) c) ∧ (∀ j, j < 4 ∨ 7 < j → s3 30 j = (cur T s1 (a + 3)) 30 j) ∧ (CN s3 ↔ CN (cur T s1 (a + 3)) ∧ bq kd (T.vl (a + 3))) := by
            by_cases k1 : kd = 1
            · obtain ⟨s3, n1, n2, n3, n4⟩ := c93 (lo := 1) (hi := 20) hT ccB cuB t4
              refine ⟨s3, ?_, n3, n4, ?_⟩
              · rw [if_pos k1, c92y hT cc1 hd2 t3 (by decide)]
                show xb (f_93 1 20 (cur T s1 (a + 3))) _ = _
                rw [n1]
                rfl
              · rw [n2]
                unfold bq
                exact ⟨fun y => ⟨y.1, Or.inr ⟨k1, y.2⟩⟩, fun y => ⟨y.1, by rcases y.2 with u | u; omega; exact u.2⟩⟩
            · have k0 : kd = 0 := by omega
              obtain ⟨s3, n1, n2, n3, n4⟩ := c93 (lo := 2) (hi := 64) hT ccB cuB t4
              have c8 := c80 ccB hT (a := a + 3) (by omega)
              have mnv : mn (T.vl (a + 3)) = T.vl (a + 3) ∨ 64 < T.vl (a + 3) := by unfold mn; split <;> omega
              rw [if_neg k1, if_neg (by rw [hd2.2.1]; simp [t3]), nxt hT cc1 hd2 (by rw [t3]; decide)]
              show ∃ s3 : Sg, gd (g_80 ((cur T s1 (a + 3)) 39 10) (cur T s1 (a + 3))) _ = _ ∧ _
              rw [cuB.1, gd_pos c8.2, c8.1, n1]
              show ∃ s3' : Sg, (if f_294 (mn (T.vl (a + 3))) (cur T s3 (a + 4)) = 1 then j_150_67 (mn (T.vl (a + 3))) (cur T s3 (a + 4)) else (gd (g_71 4 (T.fm (a + 3)) (cur T s3 (a + 4))) ((some (f_71 4 (T.fm (a + 3)) (cur T s3 (a + 4)))).bind fun q9 => j_150_67 (mn (T.vl (a + 3))) q9))) = _ ∧ _
              have pwb : pw2 (T.vl (a + 3)) → 2 ≤ T.vl (a + 3) ∧ T.vl (a + 3) ≤ 64 := fun y => by unfold pw2 at y; omega
              by_cases d : f_294 (mn (T.vl (a + 3))) (cur T s3 (a + 4)) = 1
              · rw [if_pos d]
                refine ⟨s3, rfl, n3, n4, ?_⟩
                rw [n2]
                unfold bq
                constructor
                · intro y
                  refine ⟨y.1, Or.inl ⟨k0, ?_⟩⟩
                  have em : mn (T.vl (a + 3)) = T.vl (a + 3) := by omega
                  rw [em] at d
                  exact (bc_2 _ _ y.2.1 y.2.2).mp d
                · intro y
                  rcases y.2 with u | u
                  · exact ⟨y.1, pwb u.2⟩
                  · omega
              · rw [if_neg d]
                obtain ⟨y1, y2, y3, y4⟩ := c71 (s := cur T s3 (a + 4)) (x := 4) (p := T.fm (a + 3)) (Or.inl rfl) (hT.2.2.2.1 (a + 3) (by omega))
                -- the same, noted before the step
                obtain ⟨x1, x2, x3, x4⟩ := c71 (s := s3) (x := 4) (p := T.fm (a + 3)) (Or.inl rfl) (hT.2.2.2.1 (a + 3) (by omega))
                have com : f_71 4 (T.fm (a + 3)) (cur T s3 (a + 4)) = cur T (f_71 4 (T.fm (a + 3)) s3) (a + 4) := by
                  have n30 : (cur T s3 (a + 4)) 30 = s3 30 := cur_row (by decide)
                  have k71 : ∀ s : Sg, f_71 4 (T.fm (a + 3)) s = (if s 30 4 = -1 then ax_u2 s 30 4 (T.fm (a + 3)) else (if s 30 4 ≤ T.fm (a + 3) then s else ax_u2 s 30 4 (T.fm (a + 3)))) := fun s => by
                    unfold f_71
                    rw [if_neg (by decide), if_pos (by decide)]
                    rfl
                  rw [k71, k71, n30]
                  have sw : ∀ j v, ax_u2 (cur T s3 (a + 4)) 30 j v = cur T (ax_u2 s3 30 j v) (a + 4) := by
                    intro j v
                    funext c i
                    unfold cur ax_u2
                    by_cases e : c = 30
                    · subst e; simp
                    · by_cases e2 : c = 39
                      · subst e2; simp
                      · simp [e, e2]
                  split
                  · exact sw _ _
                  · split
                    · rfl
                    · exact sw _ _
                rw [gd_pos y1, Option.bind_some, com]
                refine ⟨_, rfl, fun c x => by rw [x3 c x]; exact n3 c x, fun j x => by rw [x4 j x]; exact n4 j x, ⟨fun y => absurd y x2, fun y => ?_⟩⟩
                unfold bq at y
                rcases y.2 with u | u
                · exfalso
                  have := pwb u.2
                  have em : mn (T.vl (a + 3)) = T.vl (a + 3) := by omega
                  rw [em] at d
                  exact d ((bc_2 _ _ this.1 this.2).mpr u.2)
                · omega
          obtain ⟨s3, nu1, nu2, nu3, nu4⟩ := num
          rw [nu1]
          have h54 : (cur T s1 (a + 3)) 54 6 = ((S + 1 : Nat) : Int) := by rw [cur_row (by decide)]; exact q1
          by_cases t5 : T.tk (a + 4) = 93
          · have z4 := hT.lt (show a + 4 ≤ T.z by omega) (by rw [t5]; decide)
            obtain ⟨s4, b1, b2, b3, b4, b5, b6, b7, b8⟩ := brk_c hT ccB cuB h54 hS1 (by rw [cur_row (by decide)]; exact q5) t4 t5 s3 _ nu2 nu3 nu4
            rw [b1, br_m hT mc2 f2 u2' (show a + 2 ≤ T.z by omega) (show S < 4100 by omega) t3 t4 t5]
            refine fin s4 _ (a + 5) (bq kd (T.vl (a + 3))) b2 (by omega) (by omega) (fun i x => by rw [b4 i x, cur_row (by decide)]) (fun c x => by rw [b5 c x, cur_row (by omega)]) (fun j x y => by rw [b6 j x y, cur_col x y]) (fun j x => by rw [b7 j x, cur_row (by decide)]) ?_ (adv_mc ((adv_mc (adv_mc mc2)).row (by simp [ax_u2]) (u2_row _ _ _ (by decide)))) ?_ adv_at ?_ ?_ ?_ (Or.inr ⟨a + 3, ?_, z3, t4, b3, Iff.rfl⟩) ?_ (Or.inr (by rw [show a + 5 - 1 = a + 4 by omega]; exact t5))
            · rw [b8]
              have : CN (cur T s1 (a + 3)) ↔ CN s1 := by unfold CN; rw [cur_row (by decide)]
              rw [this]
            · rw [adv_col (by decide), u2_row _ _ _ (by decide), adv_col (by decide), adv_col (by decide)]; exact f2
            · intro c x y
              rw [adv_row x, u2_row _ _ _ y, adv_row x, adv_row x]
            · intro i x
              rw [adv_row (by decide), u2_col _ _ _ x, adv_row (by decide), adv_row (by decide)]
            · intro j x
              rw [adv_col x, u2_row _ _ _ (by decide), adv_col x, adv_col x]
            · rw [adv_row (by decide)]; exact u2_same _ _ _ _
            · intro k x y
              have : k = a + 2 ∨ k = a + 3 ∨ k = a + 4 := by omega
              rcases this with rfl | rfl | rfl
              · rw [show a + 2 - 1 = a + 1 by omega, t1, t3]; exact ⟨Or.inl (Or.inr (Or.inr (Or.inl (by decide)))), by decide, by decide, by decide, by decide⟩
              · rw [show a + 3 - 1 = a + 2 by omega, t3, t4]; exact ⟨Or.inl (Or.inl (by decide)), by decide, by decide, by decide, by decide⟩
              · rw [show a + 4 - 1 = a + 3 by omega, t4, t5]; exact ⟨Or.inl (Or.inr (Or.inl (by decide))), by decide, by decide, by decide, by decide⟩
          · have ef3 : SFc (cur T s1 (a + 3)) s3 := (ef30 nu2 nu3).sf
            have h543 : (cur T s3 (a + 4)) 54 6 = ((S + 1 : Nat) : Int) := by rw [cur_row (by decide), nu2 54 (by decide)]; exact h54
            obtain ⟨s', k1, k2⟩ := brk_cn hT (cur_cc (a := a + 4) (ef3.cc ccB)) (cur_cu (by omega)) h543 hS1 t5 (mn (T.vl (a + 3)))
            obtain ⟨mF, k3, k4⟩ := br_mn hT mc2 f2 u2' (show a + 2 ≤ T.z by omega) (show S < 4100 by omega) (fun y => t5 y.2.2)
            rw [k1, k3]
            exact Or.inr ⟨15, s', mF, rfl, Or.inr rfl, ⟨(((sf1c.trans cur_sf).trans ef3).trans cur_sf).trans k2.1, k2.2⟩, rfl, sf2.trans k4.1, k4.2⟩
        · obtain ⟨mF, k3, k4⟩ := br_mn hT mc2 f2 u2' (show a + 2 ≤ T.z by omega) (show S < 4100 by omega) (fun y => t4 y.2.1)
          rw [k3]
          refine Or.inr ⟨15, cur T s1 (a + 3), mF, ?_, Or.inr rfl, ⟨sf1c.trans cur_sf, _, cuB⟩, rfl, sf2.trans k4.1, k4.2⟩
          by_cases k1 : kd = 1
          · rw [if_pos k1, c92y hT cc1 hd2 t3 (by decide)]
            show xb (f_93 1 20 (cur T s1 (a + 3))) _ = _
            rw [c93n cuB t4]
            rfl
          · have c8 := c80 ccB hT (a := a + 3) (by omega)
            rw [if_neg k1, if_neg (by rw [hd2.2.1]; simp [t3]), nxt hT cc1 hd2 (by rw [t3]; decide)]
            show gd (g_80 ((cur T s1 (a + 3)) 39 10) (cur T s1 (a + 3))) _ = _
            rw [cuB.1, gd_pos c8.2, c93n cuB t4]
            rfl
      · have k1 : kd = 1 := by rcases tb with e | e; exact e; exact absurd e t3
        obtain ⟨mF, k3, k4⟩ := br_mn hT mc2 f2 u2' (show a + 2 ≤ T.z by omega) (show S < 4100 by omega) (fun y => t3 y.1)
        rw [if_pos k1, c92n hd2 t3, k3]
        exact Or.inr ⟨15, s1, mF, rfl, Or.inr rfl, ⟨sf1c, _, hd2⟩, rfl, sf2.trans k4.1, k4.2⟩
    · have k0 : kd = 0 := by rcases kd01 with e | e; exact e; exact absurd (Or.inl e) tb
      have t3 : T.tk (a + 2) ≠ 91 := fun y => tb (Or.inr y)
      rw [if_neg tb, if_neg (by omega), if_pos (by rw [hd2.2.1]; exact t3)]
      have hM96 : M2 96 S = -1 := by rw [hM2, u2_row _ _ _ (by decide), adv_row (by decide), hM1, u2_row _ _ _ (by decide), adv_row (by decide)]; simp [ax_u2]
      exact fin s1 M2 (a + 2) True hd2 (Nat.le_refl _) (by omega) (fun _ _ => rfl) (fun _ _ => rfl) (fun _ _ _ => rfl) (fun _ _ => rfl) ⟨fun y => ⟨y, trivial⟩, fun y => y.1⟩ mc2 f2 u2' (fun _ _ _ => rfl) (fun _ _ => rfl) (fun _ _ => rfl) (Or.inl ⟨k0, hM96, q5, trivial⟩) (fun k x y => absurd y (by omega)) (Or.inl (by rw [show a + 2 - 1 = a + 1 by omega]; exact t1))
  · -- no NAME
    have cn := c156n (kd := kd) hT e1 e3 n0 t1
    have cl : f_145 sc = some (.inr (15, cur T sc (a + 1))) := by
      unfold f_145
      rw [e3.2.1]
      rcases t0 with e | e
      · have k0 : kd = 0 := by rw [hkd, if_pos e]
        rw [k0] at cn
        rw [if_pos e]
        unfold f_150
        rw [cn]
        rfl
      · have k1 : kd = 1 := by rw [hkd, if_neg (by rw [e]; decide)]
        rw [k1] at cn
        rw [if_neg (by rw [e]; decide), if_pos e]
        unfold f_151
        rw [cn]
        rfl
    rw [takeN mc1 hT f1 u1 (show a + 1 ≤ T.z by omega) (k := 1) (by decide) (by decide) t1, Option.bind_some]
    dsimp only
    have ef : 0 < (ax_u2 (tel M1 2 (a + 1)) 95 S 0) 84 6 := by rw [u2_row _ _ _ (by decide), tel_at]; decide
    have sfF : SFm sm (ax_u2 (tel M1 2 (a + 1)) 95 S 0) := (sf1.trans tel_sf).trans (ro_sf (by decide))
    obtain ⟨mA, a1, a2⟩ := fl133 (S := S) ef (by omega)
    obtain ⟨mB, b1, b2⟩ := fl158 (S := S) ef (by omega)
    have g15 : g_232 15 (ax_u2 (tel M1 2 (a + 1)) 95 S 0) := by
      unfold g_232
      rw [u2_row _ _ _ (by decide), tel_col (by decide) (by decide), u1]
      exact ⟨⟨by omega, by omega⟩, trivial⟩
    rw [cl, a1, b1, gd_pos g15]
    right
    refine ⟨15, cur T sc (a + 1), ?_⟩
    split
    · exact ⟨mA, rfl, Or.inr rfl, ⟨cur_sf, _, cur_cu (by omega)⟩, rfl, sfF.trans a2.1, a2.2⟩
    · split
      · exact ⟨mB, rfl, Or.inr rfl, ⟨cur_sf, _, cur_cu (by omega)⟩, rfl, sfF.trans b2.1, b2.2⟩
      · exact ⟨mA, rfl, Or.inr rfl, ⟨cur_sf, _, cur_cu (by omega)⟩, rfl, sfF.trans a2.1, a2.2⟩
end RN
/-! PARAMETERS of a helper. -/
/-- j parameters have been read; h is the helper's NAME -/
def PLS (T : TT) (sc1 m1 sc m : Sg) (h S P j : Nat) : Prop :=
  (∀ c, ¬ (c = 30 ∨ c = 31 ∨ c = 37 ∨ c = 38 ∨ c = 39 ∨ c = 58) → sc c = sc1 c) ∧ (∀ k, k ≠ 10 → k ≠ 11 → sc 39 k = sc1 39 k) ∧ (∀ k, k < 4 ∨ 7 < k → sc 30 k = sc1 30 k) ∧ (∀ k, k ≠ 8 → sc 31 k = sc1 31 k) ∧ (∀ i, i ≠ S → sc 58 i = sc1 58 i) ∧ sc 31 8 = (j : Int) ∧ sc 58 S = (j : Int) ∧
  (∀ c, ¬ (c = 84 ∨ c = 99 ∨ c = 104 ∨ c = 105) → m c = m1 c) ∧ (∀ k, k ≠ 18 → k ≠ 31 → m 84 k = m1 84 k) ∧ (∀ i, i ≠ S → m 99 i = m1 99 i) ∧ (∀ c p, 104 ≤ c → c ≤ 105 → p < P → m c p = m1 c p) ∧ m 84 31 = ((P + j : Nat) : Int) ∧ m 99 S = (j : Int) ∧
  (∀ i, i < j → m 104 (P + i) = ((h + 2 + 3 * i : Nat) : Int) ∧ m 105 (P + i) = ((h + 3 + 3 * i : Nat) : Int) ∧ h + 3 + 3 * i < T.z ∧ T.tk (h + 2 + 3 * i) = 1 ∧ T.tk (h + 3 + 3 * i) = 2) ∧
  (CN sc ↔ CN sc1 ∧ GPT T sc1 m P j) ∧ (CN sc → (∀ i, i < j → sc 38 i = T.vl (h + 2 + 3 * i)) ∧ (∀ i, i < j → sc 37 (T.vl (h + 2 + 3 * i)).toNat = (if mn (T.vl (h + 3 + 3 * i)) < 1 then 1 else mn (T.vl (h + 3 + 3 * i)))) ∧ (∀ id, IDN T id → sc 37 id ≠ 0 → ∃ i, i < j ∧ T.vl (h + 2 + 3 * i) = (id : Int)))
section PL
variable {T : TT} {sc1 m1 sc m : Sg} {h S P j a : Nat}
/-- one more -/
theorem par_step (hT : TWF T) (hz : T.z ≤ 8192) (hS : S < 1171) (hP : P + j < 8200) (h54 : sc1 54 6 = ((S + 1 : Nat) : Int)) (hc : CC T sc1) (hM : MC T m1) (hf : m1 84 6 = 0) (hh : 1 ≤ h) (H : PLS T sc1 m1 sc m h S P j) (ha : a = h + 2 + 3 * j) (hu : CU T sc a) (hm : m 84 18 = (a : Int)) (t1 : T.tk a = 1) (t2 : T.tk (a + 1) = 2) :
    ∃ sc' m' : Sg, f_157 sc = some (.inl sc') ∧ CU T sc' (a + 2) ∧ (∀ F : Nat, j_253_47 (F + 1) (S : Int) 1 m = (gd (g_252 8 m') ((some (f_252 8 m')).bind fun q10 => (j_253_47 F) (S : Int) q10.1 q10.2))) ∧ m' 84 18 = ((a + 2 : Nat) : Int) ∧ PLS T sc1 m1 sc' m' h S P (j + 1) := by
  obtain ⟨r1, r2, r3, r4, r5, r6, r7, k1, k2, k3, k4, k5, k6, g1, g2, g3⟩ := id H
  have hz0 := hT.lt hu.2.2 (by rw [t1]; decide)
  have hz1 := hT.lt (show a + 1 ≤ T.z by omega) (by rw [t2]; decide)
  have hv0 := hT.2.2.2.2.1 a hz0
  have hvm := hT.2.2.2.2.2.1 a hz0 t1
  have hm8 := hT.2.2.2.2.2.2
  have sf : SFc sc1 sc := ⟨fun c x => r1 c (by omega), r2, r3, r4, W8.of r6 (by omega)⟩
  have cc := sf.cc hc
  have sfm : SFm m1 m := ⟨fun c x => k1 c (by omega), fun k x => k2 k (by omega) (by omega)⟩
  have mc := sfm.mc hM
  have fm : m 84 6 = 0 := by rw [k2 6 (by decide) (by decide)]; exact hf
  have cc1 := cur_cc (a := a + 1) cc
  have cu1 : CU T (cur T sc (a + 1)) (a + 1) := cur_cu (by omega)
  obtain ⟨s2, n1, n2, n3, n4⟩ := c93 (lo := 1) (hi := 32) hT cc1 cu1 t2
  have cc2 : CC T (cur T s2 (a + 2)) := cur_cc ((ef30 n3 n4).cc cc1)
  have rc : ∀ c, c ≠ 39 → c ≠ 30 → (cur T s2 (a + 2)) c = sc c := fun c x y => by rw [cur_row x, n3 c y, cur_row x]
  obtain ⟨s3, b1, b2, b3⟩ := c155 (x := a) (w := mn (T.vl (a + 1))) (B := j) hT cc2 hz0 t1 (by rw [rc 31 (by decide) (by decide)]; exact r6) (by omega)
  obtain ⟨d1, d2, d3, d4, d5, d6, d7, d8⟩ := b2
  have s354 : s3 54 6 = ((S + 1 : Nat) : Int) := by rw [d7 54 (by omega), rc 54 (by decide) (by decide), r1 54 (by omega)]; exact h54
  obtain ⟨⟨e1, e2⟩, _, _⟩ := c181 s354 hS 1
  have s358 : s3 58 S = (j : Int) := by rw [d7 58 (by omega), rc 58 (by decide) (by decide)]; exact r7
  rw [s358, w32_nat (by omega)] at e2
  have r37 : (cur T s2 (a + 2)) 37 = sc 37 := rc 37 (by decide) (by decide)
  have r38 : (cur T s2 (a + 2)) 38 = sc 38 := rc 38 (by decide) (by decide)
  obtain ⟨m', hm'⟩ : ∃ m' : Sg, m' = ax_u2 (ax_u2 (ax_u2 (adv (ax_u2 (adv m (a + 1)) 104 (P + j) (a : Int)) (a + 2)) 105 (P + j) ((a + 1 : Nat) : Int)) 84 31 ((P + j + 1 : Nat) : Int)) 99 S ((j + 1 : Nat) : Int) := ⟨_, rfl⟩
  have rm : ∀ c, ¬ (c = 84 ∨ c = 99 ∨ c = 104 ∨ c = 105) → m' c = m c := fun c x => by rw [hm', u2_row _ _ _ (by omega), u2_row _ _ _ (by omega), u2_row _ _ _ (by omega), adv_row (by omega), u2_row _ _ _ (by omega), adv_row (by omega)]
  have e104 : ∀ p, m' 104 p = if p = P + j then (a : Int) else m 104 p := fun p => by rw [hm']; simp [ax_u2, adv]
  have e105 : ∀ p, m' 105 p = if p = P + j then ((a + 1 : Nat) : Int) else m 105 p := fun p => by rw [hm']; simp [ax_u2, adv]
  refine ⟨ax_u2 s3 58 S ((j + 1 : Nat) : Int), m', ?_, ?_, fun F => ?_, by rw [hm']; simp [ax_u2, adv], ?_⟩
  · unfold f_157
    rw [c96y hT cc hu t1]
    show xb (f_93 1 32 (cur T sc (a + 1))) _ = _
    rw [n1, hu.1]
    show (f_155 (T.vl a) (a : Int) (mn (T.vl (a + 1))) (cur T s2 (a + 2))).bind _ = _
    rw [b1, Option.bind_some, gd_pos e1, e2]
    rfl
  · have := cur_cu (T := T) (s := s2) (a := a + 2) (by omega)
    unfold CU at *
    rw [u2_row _ _ _ (by decide), d7 39 (by omega)]
    exact this
  · have mA : MC T (ax_u2 (adv m (a + 1)) 104 (P + j) (a : Int)) := (adv_mc mc).row (by simp [ax_u2]) (u2_row _ _ _ (by decide))
    rw [j_253_47, if_neg (by simp [fm]), if_neg (by decide), takeY mc hT fm hm hu.2.2 (k := 1) (by decide) t1, Option.bind_some, k5, gd_pos (by omega), Int.toNat_natCast]
    dsimp only
    rw [takeY mA hT (by rw [u2_row _ _ _ (by decide), adv_col (by decide)]; exact fm) (by rw [u2_row _ _ _ (by decide)]; exact adv_at) (by omega) (k := 2) (by decide) t2, Option.bind_some]
    dsimp only
    have x31 : (adv m (a + 1)) 84 31 = ((P + j : Nat) : Int) := by rw [adv_col (by decide)]; exact k5
    have y31 : (adv (ax_u2 (adv m (a + 1)) 104 (P + j) (a : Int)) (a + 1 + 1)) 84 31 = ((P + j : Nat) : Int) := by rw [adv_col (by decide), u2_row _ _ _ (by decide)]; exact x31
    have y99 : (adv (ax_u2 (adv m (a + 1)) 104 (P + j) (a : Int)) (a + 1 + 1)) 99 S = (j : Int) := by rw [adv_row (by decide), u2_row _ _ _ (by decide), adv_row (by decide)]; exact k6
    rw [x31, gd_pos (by omega), gd_pos (by omega), gd_pos (by omega), Int.toNat_natCast, Int.toNat_natCast, y31, y99, w32_nat (by omega), w32_nat (by omega), hm']
  · refine ⟨fun c x => ?_, fun k x y => ?_, fun k x => ?_, fun k x => ?_, fun i x => ?_, ?_, u2_same _ _ _ _, fun c x => by rw [rm c x]; exact k1 c x, fun k x y => ?_, fun i x => ?_, fun c p x y z => ?_, ?_, ?_, fun i hi => ?_, ?_, ?_⟩
    · rw [u2_row _ _ _ (by omega), d7 c (by omega), rc c (by omega) (by omega)]; exact r1 c x
    · rw [u2_row _ _ _ (by decide), d7 39 (by omega), cur_col x y, n3 39 (by decide), cur_col x y]; exact r2 k x y
    · rw [u2_row _ _ _ (by decide), d8 k x, cur_row (by decide), n4 k x, cur_row (by decide)]; exact r3 k x
    · rw [u2_row _ _ _ (by decide), d6 k x, rc 31 (by decide) (by decide)]; exact r4 k x
    · rw [u2_col _ _ _ x, d7 58 (by omega), rc 58 (by decide) (by decide)]; exact r5 i x
    · rw [u2_row _ _ _ (by decide)]; exact d1
    · rw [hm', u2_row _ _ _ (by decide), u2_col _ _ _ y, u2_row _ _ _ (by decide), adv_col x, u2_row _ _ _ (by decide), adv_col x]; exact k2 k x y
    · rw [hm', u2_col _ _ _ x, u2_row _ _ _ (by decide), u2_row _ _ _ (by decide), adv_row (by decide), u2_row _ _ _ (by decide), adv_row (by decide)]; exact k3 i x
    · have : c = 104 ∨ c = 105 := by omega
      rcases this with rfl | rfl
      · rw [e104, if_neg (by omega)]; exact k4 104 p x y z
      · rw [e105, if_neg (by omega)]; exact k4 105 p x y z
    · rw [hm', u2_row _ _ _ (by decide), u2_same]; rfl
    · rw [hm']; exact u2_same _ _ _ _
    · rw [e104, e105]
      by_cases e : i = j
      · subst e
        rw [if_pos rfl, if_pos rfl]
        exact ⟨by omega, by omega, by omega, by rw [← ha]; exact t1, by rw [show h + 3 + 3 * i = a + 1 by omega]; exact t2⟩
      · rw [if_neg (by omega), if_neg (by omega)]
        exact g1 i (by omega)
    · have c1 : CN (ax_u2 s3 58 S ((j + 1 : Nat) : Int)) ↔ CN s3 := by unfold CN; rw [u2_row _ _ _ (by decide)]
      have c2 : CN (cur T s2 (a + 2)) ↔ CN s2 := by unfold CN; rw [cur_row (by decide)]
      have c3 : CN (cur T sc (a + 1)) ↔ CN sc := by unfold CN; rw [cur_row (by decide)]
      rw [c1, b3, c2, n2, c3, r37]
      have old : ∀ p, P ≤ p → p < P + j → m' 104 p = m 104 p ∧ m' 105 p = m 105 p := fun p x y => ⟨by rw [e104, if_neg (by omega)], by rw [e105, if_neg (by omega)]⟩
      have n104 : m' 104 (P + j) = (a : Int) := by rw [e104, if_pos rfl]
      have n105 : m' 105 (P + j) = ((a + 1 : Nat) : Int) := by rw [e105, if_pos rfl]
      constructor
      · intro ⟨⟨y1, y2⟩, y3⟩
        obtain ⟨z1, z2⟩ := g2.mp y1
        obtain ⟨w1, w2, w3⟩ := g3 y1
        refine ⟨z1, fun p q1 q2 => ?_⟩
        by_cases e : p = P + j
        · subst e
          rw [n104, n105, Int.toNat_natCast, Int.toNat_natCast]
          refine ⟨fun _ => y2, fun y => absurd y (by omega), fun q q3 q4 _ _ hq => ?_⟩
          rw [(old q q3 (by omega)).1] at hq
          obtain ⟨o1, o2, o3, o4, o5⟩ := g1 (q - P) (by omega)
          rw [show P + (q - P) = q by omega] at o1
          rw [o1, Int.toNat_natCast] at hq
          have hw := w2 (q - P) (by omega)
          rw [← hq, y3] at hw
          split at hw <;> omega
        · obtain ⟨u1, u2, u3⟩ := z2 p q1 (by omega)
          rw [(old p q1 (by omega)).1, (old p q1 (by omega)).2]
          exact ⟨u1, u2, fun q q3 q4 => by rw [(old q q3 (by omega)).1]; exact u3 q q3 q4⟩
      · intro ⟨y1, y2⟩
        have gj : GPT T sc1 m P j := fun p q1 q2 => by
          obtain ⟨u1, u2, u3⟩ := y2 p q1 (by omega)
          rw [(old p q1 q2).1, (old p q1 q2).2] at u1
          rw [(old p q1 q2).1, (old p q1 q2).2] at u2
          refine ⟨u1, u2, fun q q3 q4 => ?_⟩
          have := u3 q q3 q4
          rw [(old p q1 q2).1, (old q q3 (by omega)).1] at this
          exact this
        have cs : CN sc := g2.mpr ⟨y1, gj⟩
        obtain ⟨w1, w2, w3⟩ := g3 cs
        obtain ⟨u1, u2, u3⟩ := y2 (P + j) (by omega) (by omega)
        rw [n104, n105, Int.toNat_natCast] at u1
        refine ⟨⟨cs, u1 (by omega)⟩, ?_⟩
        apply Decidable.byContradiction
        intro hne
        obtain ⟨i, i1, i2⟩ := w3 (T.vl a).toNat (IDN.at hT hz0 t1) hne
        have := u3 (P + i) (by omega) (by omega)
        rw [n104, (old (P + i) (by omega) (by omega)).1, (g1 i i1).1, Int.toNat_natCast, Int.toNat_natCast] at this
        exact this (by omega) (by omega) (by omega)
    · intro cn
      have c1 : CN (ax_u2 s3 58 S ((j + 1 : Nat) : Int)) ↔ CN s3 := by unfold CN; rw [u2_row _ _ _ (by decide)]
      have c2 : CN (cur T s2 (a + 2)) ↔ CN s2 := by unfold CN; rw [cur_row (by decide)]
      have c3 : CN (cur T sc (a + 1)) ↔ CN sc := by unfold CN; rw [cur_row (by decide)]
      rw [c1, b3, c2, n2, c3, r37] at cn
      obtain ⟨⟨y1, y2⟩, y3⟩ := cn
      obtain ⟨w1, w2, w3⟩ := g3 y1
      rw [u2_row _ _ _ (by decide), u2_row _ _ _ (by decide)]
      have nid : ∀ i, i < j → T.vl (h + 2 + 3 * i) ≠ T.vl a := fun i hi hq => by
        have hw := w2 i hi
        rw [hq, y3] at hw
        split at hw <;> omega
      have nn : ∀ i, i < j → 0 ≤ T.vl (h + 2 + 3 * i) := fun i hi => (hT.2.2.2.2.1 _ (by have := (g1 i hi).2.2.1; omega)).1
      refine ⟨fun i hi => ?_, fun i hi => ?_, fun id hid hne => ?_⟩
      · by_cases e : i = j
        · subst e
          rw [d2, ← ha]
          omega
        · rw [d4 i e, r38]
          exact w1 i (by omega)
      · by_cases e : i = j
        · subst e
          rw [← ha, d3, show h + 3 + 3 * i = a + 1 by omega]
        · have x1 := nid i (by omega)
          have x2 := nn i (by omega)
          rw [d5 _ (by omega), r37]
          exact w2 i (by omega)
      · by_cases e : id = (T.vl a).toNat
        · exact ⟨j, by omega, by rw [← ha, e]; omega⟩
        · rw [d5 id e, r37] at hne
          obtain ⟨i, i1, i2⟩ := w3 id hid hne
          exact ⟨i, by omega, i2⟩
end PL
/-! ALL PARAMETERS of a helper. -/
section PA
variable {T : TT} {sc1 m1 sc m : Sg} {h S P j a : Nat}
theorem slot_sf {k : Nat} {v : Int} (hk : ¬ (k < 6 ∨ 7 < k ∧ k < 18 ∨ 70 < k)) : SFm m (ax_u2 m 84 k v) := ⟨fun c x => u2_row _ _ _ (by omega), fun j x => u2_col _ _ _ (by omega)⟩
theorem fl257 (hf : 0 < m 84 6) (x y : Int) : ∃ m' : Sg, f_257 x y m = some (0, m') ∧ BSm m m' := by
  have e : 0 < (ax_u2 (ax_u2 (ax_u2 (ax_u2 m 84 59 0) 84 63 0) 84 67 0) 84 68 x) 84 6 := by rw [u2_col _ _ _ (by decide), u2_col _ _ _ (by decide), u2_col _ _ _ (by decide), u2_col _ _ _ (by decide)]; exact hf
  refine ⟨_, ?_, (((slot_sf (by decide)).trans (slot_sf (by decide))).trans (slot_sf (by decide))).trans (slot_sf (by decide)), e⟩
  unfold f_257
  exact flt_25 FU1 e
theorem fl116 (hf : 0 < m 84 6) (hS : S < 4100) : ∃ m' : Sg, j_253_116 (S : Int) m = some m' ∧ BSm m m' := by
  have e1 : 0 < (ax_u2 m 97 S 0) 84 6 := by rw [u2_row _ _ _ (by decide)]; exact hf
  have e2 : 0 < (ax_u2 (ax_u2 m 97 S 0) 101 S ((ax_u2 m 97 S 0) 84 18)) 84 6 := by rw [u2_row _ _ _ (by decide)]; exact e1
  obtain ⟨m3, k1, k2⟩ := fl257 e2 (S : Int) 0
  have e3 : 0 < (ax_u2 m3 100 S 0) 84 6 := by rw [u2_row _ _ _ (by decide)]; exact k2.2
  refine ⟨ax_u2 m3 100 S 0, ?_, (((ro_sf (by decide)).trans (ro_sf (by decide))).trans k2.1).trans (ro_sf (by decide)), e3⟩
  unfold j_253_116
  rw [takeF hf, Option.bind_some]
  dsimp only
  rw [takeF hf, Option.bind_some, gd_pos (by omega), Int.toNat_natCast]
  dsimp only
  rw [takeF e1, Option.bind_some, gd_pos (by omega)]
  dsimp only
  rw [k1, Option.bind_some, gd_pos (by omega)]
  dsimp only
  rw [takeF e3, Option.bind_some]
theorem eat_f {K : Int} (hf : 0 < m 84 6) : f_252 K m = (0, m) ∧ g_252 K m := by
  unfold f_252 g_252
  rw [if_pos hf]
  exact ⟨rfl, fun _ => trivial, fun y => absurd hf y⟩
theorem fl47 {F : Nat} {v : Int} (hF : 1 ≤ F) (hf : 0 < m 84 6) (hS : S < 4100) : ∃ m' : Sg, j_253_47 F (S : Int) v m = some m' ∧ BSm m m' := by
  obtain ⟨F, rfl⟩ : ∃ k, F = k + 1 := ⟨F - 1, by omega⟩
  rw [j_253_47, if_pos (by omega)]
  exact fl116 hf hS
/-- a parameter that is none -/
theorem par_bad (hT : TWF T) (hS : S < 1171) (hP : P + j < 8200) (hc : CC T sc1) (hM : MC T m1) (hf : m1 84 6 = 0) (H : PLS T sc1 m1 sc m h S P j) (hu : CU T sc a) (hm : m 84 18 = (a : Int)) (t : ¬ (T.tk a = 1 ∧ T.tk (a + 1) = 2)) (hj : j ≤ 4112) :
    ∃ s' : Sg, f_157 sc = some (.inr (15, s')) ∧ BSc T sc s' ∧ ∀ F : Nat, 2 ≤ F → ∃ mF : Sg, j_253_47 F (S : Int) 1 m = some mF ∧ BSm m mF := by
  obtain ⟨r1, r2, r3, r4, r5, r6, r7, k1, k2, k3, k4, k5, k6, g1, g2, g3⟩ := id H
  have sf : SFc sc1 sc := ⟨fun c x => r1 c (by omega), r2, r3, r4, W8.of r6 hj⟩
  have cc := sf.cc hc
  have sfm : SFm m1 m := ⟨fun c x => k1 c (by omega), fun k x => k2 k (by omega) (by omega)⟩
  have mc := sfm.mc hM
  have fm : m 84 6 = 0 := by rw [k2 6 (by decide) (by decide)]; exact hf
  have finX : ∀ X : Sg, SFm m X → 0 < X 84 6 → ∀ F : Nat, 1 ≤ F → ∃ mF : Sg, gd (g_252 8 X) ((some (f_252 8 X)).bind fun q10 => (j_253_47 F) (S : Int) q10.1 q10.2) = some mF ∧ BSm m mF := by
    intro X q1 q2 F hF
    obtain ⟨e, g⟩ := eat_f (K := 8) q2
    obtain ⟨mF, k1, k2⟩ := fl47 (S := S) (F := F) (v := 0) hF q2 (by omega)
    exact ⟨mF, by rw [gd_pos g, e]; exact k1, q1.trans k2.1, k2.2⟩
  by_cases t1 : T.tk a = 1
  · have hz0 := hT.lt hu.2.2 (by rw [t1]; decide)
    have t2 : T.tk (a + 1) ≠ 2 := fun y => t ⟨t1, y⟩
    have cu1 : CU T (cur T sc (a + 1)) (a + 1) := cur_cu (by omega)
    refine ⟨cur T sc (a + 1), ?_, ⟨cur_sf, _, cu1⟩, fun F hF => ?_⟩
    · unfold f_157
      rw [c96y hT cc hu t1]
      show xb (f_93 1 32 (cur T sc (a + 1))) _ = _
      rw [c93n cu1 t2]
      rfl
    · obtain ⟨F, rfl⟩ : ∃ k, F = k + 1 := ⟨F - 1, by omega⟩
      have mA : MC T (ax_u2 (adv m (a + 1)) 104 (P + j) (a : Int)) := (adv_mc mc).row (by simp [ax_u2]) (u2_row _ _ _ (by decide))
      have x31 : (adv m (a + 1)) 84 31 = ((P + j : Nat) : Int) := by rw [adv_col (by decide)]; exact k5
      rw [j_253_47, if_neg (by simp [fm]), if_neg (by decide), takeY mc hT fm hm hu.2.2 (k := 1) (by decide) t1, Option.bind_some, k5, gd_pos (by omega), Int.toNat_natCast]
      dsimp only
      rw [takeN mA hT (by rw [u2_row _ _ _ (by decide), adv_col (by decide)]; exact fm) (by rw [u2_row _ _ _ (by decide)]; exact adv_at) (by omega) (k := 2) (by decide) (by decide) t2, Option.bind_some]
      dsimp only
      rw [x31, gd_pos (by omega), gd_pos (by omega), gd_pos (by omega)]
      refine finX _ (((((adv_sf.trans (ro_sf (by decide))).trans tel_sf).trans (ro_sf (by decide))).trans (slot_sf (by decide))).trans (ro_sf (by decide))) ?_ F (by omega)
      rw [u2_row _ _ _ (by decide), u2_col _ _ _ (by decide), u2_row _ _ _ (by decide), tel_at]
      decide
  · refine ⟨sc, ?_, ⟨SFc.refl _, _, hu⟩, fun F hF => ?_⟩
    · unfold f_157
      rw [c96n hu t1]
      rfl
    · obtain ⟨F, rfl⟩ : ∃ k, F = k + 1 := ⟨F - 1, by omega⟩
      have e1 : 0 < (ax_u2 (tel m 2 a) 104 (P + j) 0) 84 6 := by rw [u2_row _ _ _ (by decide), tel_at]; decide
      have x31 : (tel m 2 a) 84 31 = ((P + j : Nat) : Int) := by rw [tel_col (by decide) (by decide)]; exact k5
      rw [j_253_47, if_neg (by simp [fm]), if_neg (by decide), takeN mc hT fm hm hu.2.2 (k := 1) (by decide) (by decide) t1, Option.bind_some, k5, gd_pos (by omega), Int.toNat_natCast]
      dsimp only
      rw [takeF e1, Option.bind_some]
      dsimp only
      rw [x31, gd_pos (by omega), gd_pos (by omega), gd_pos (by omega)]
      refine finX _ ((((tel_sf.trans (ro_sf (by decide))).trans (ro_sf (by decide))).trans (slot_sf (by decide))).trans (ro_sf (by decide))) ?_ F (by omega)
      rw [u2_row _ _ _ (by decide), u2_col _ _ _ (by decide), u2_row _ _ _ (by decide)]
      exact e1
theorem PLS.mv (H : PLS T sc1 m1 sc m h S P j) (b : Nat) : PLS T sc1 m1 (cur T sc b) (adv m b) h S P j := by
  obtain ⟨r1, r2, r3, r4, r5, r6, r7, k1, k2, k3, k4, k5, k6, g1, g2, g3⟩ := H
  have c1 : CN (cur T sc b) ↔ CN sc := by unfold CN; rw [cur_row (by decide)]
  refine ⟨fun c x => by rw [cur_row (by omega)]; exact r1 c x, fun k x y => by rw [cur_col x y]; exact r2 k x y, fun k x => by rw [cur_row (by decide)]; exact r3 k x, fun k x => by rw [cur_row (by decide)]; exact r4 k x, fun i x => by rw [cur_row (by decide)]; exact r5 i x, by rw [cur_row (by decide)]; exact r6, by rw [cur_row (by decide)]; exact r7, fun c x => by rw [adv_row (by omega)]; exact k1 c x, fun k x y => by rw [adv_col x]; exact k2 k x y, fun i x => by rw [adv_row (by decide)]; exact k3 i x, fun c p x y z => by rw [adv_row (by omega)]; exact k4 c p x y z, by rw [adv_col (by decide)]; exact k5, by rw [adv_row (by decide)]; exact k6, fun i hi => by rw [adv_row (by decide), adv_row (by decide)]; exact g1 i hi, ?_, fun y => by rw [cur_row (by decide), cur_row (by decide)]; exact g3 (c1.mp y)⟩
  rw [c1, g2]
  unfold GPT
  rw [adv_row (by decide), adv_row (by decide)]
theorem par_all (hT : TWF T) (hS : S < 1171) (h54 : sc1 54 6 = ((S + 1 : Nat) : Int)) (hc : CC T sc1) (hM : MC T m1) (hf : m1 84 6 = 0) (hh : 1 ≤ h) (hPz : P ≤ h) : ∀ (r : Nat) {sc m : Sg} {j a l : Nat} (Fc F : Nat), a + r = T.z → a = h + 2 + 3 * j → l ≤ a → PLS T sc1 m1 sc m h S P j → CU T sc a → m 84 18 = (a : Int) → (∀ i, i < j → T.tk (h + 4 + 3 * i) = 44) →
    (∃ (sc' m' : Sg) (J : Nat), j_152_34 (Fc + r + 2) 1 (l : Int) sc = j_152_84 sc' ∧ j_253_47 (F + r + 2) (S : Int) 1 m = j_253_116 (S : Int) m' ∧ PLS T sc1 m1 sc' m' h S P J ∧ CU T sc' (h + 1 + 3 * J) ∧ m' 84 18 = ((h + 1 + 3 * J : Nat) : Int) ∧ 1 ≤ J ∧ (∀ i, i + 1 < J → T.tk (h + 4 + 3 * i) = 44)) ∨
    (∃ s' mF : Sg, j_152_34 (Fc + r + 2) 1 (l : Int) sc = some (.inr (15, s')) ∧ BSc T sc1 s' ∧ j_253_47 (F + r + 2) (S : Int) 1 m = some mF ∧ BSm m1 mF) := by
  intro r
  induction r using Nat.strongRecOn with
  | ind r ih =>
  intro sc m j a l Fc F hr ha hl H hu hm hk
  have h8 := hT.1
  have hz := hu.2.2
  obtain ⟨r1, r2, r3, r4, r5, r6, r7, k1, k2, k3, k4, k5, k6, g1, g2, g3⟩ := id H
  have hz := hu.2.2
  have h8' := hT.1
  have sf : SFc sc1 sc := ⟨fun c x => r1 c (by omega), r2, r3, r4, W8.of r6 (by omega)⟩
  have sfm : SFm m1 m := ⟨fun c x => k1 c (by omega), fun k x => k2 k (by omega) (by omega)⟩
  rw [show Fc + r + 2 = Fc + r + 1 + 1 by omega, j_152_34, if_neg (by decide), if_neg (by omega)]
  by_cases t : T.tk a = 1 ∧ T.tk (a + 1) = 2
  · obtain ⟨sc', m', x1, x2, x3, x4, x5⟩ := par_step hT h8 hS (by omega) h54 hc hM hf hh H ha hu hm t.1 t.2
    obtain ⟨y1, y2, y3, y4, y5, y6, y7, y8, y9, y10, y11, y12, y13, y14, y15, y16⟩ := id x5
    have sf' : SFc sc1 sc' := ⟨fun c x => y1 c (by omega), y2, y3, y4, W8.of y6 (by omega)⟩
    have sfm' : SFm m1 m' := ⟨fun c x => y8 c (by omega), fun k x => y9 k (by omega) (by omega)⟩
    have cc' := sf'.cc hc
    have mc' := sfm'.mc hM
    have fm' : m' 84 6 = 0 := by rw [y9 6 (by decide) (by decide)]; exact hf
    have z2 := x2.2.2
    rw [x1, show F + r + 2 = F + r + 1 + 1 by omega, x3]
    by_cases tc : T.tk (a + 2) = 44
    · have z3 := hT.lt z2 (by rw [tc]; decide)
      rw [xb_inl, x2.2.1, if_neg (by simp [tc]), nxt hT cc' x2 (by rw [tc]; decide), eatY mc' hT fm' x4 z2 (k := 44) (by decide) tc]
      unfold j_152_78
      have l1 : ((if ¬ T.tk (a + 2) = 44 then 0 else 1) : Int) = 1 := by rw [if_neg (fun y => y tc)]
      rw [l1, w32_nat (i := l) (by omega)]
      have nx := ih (r - 3) (by omega) (j := j + 1) (a := a + 3) (l := l + 1) (Fc + 2) (F + 2) (by omega) (by omega) (by omega) (x5.mv (a + 3)) (cur_cu (by omega)) adv_at (fun i hi => by
        by_cases e : i = j
        · rw [e, show h + 4 + 3 * j = a + 2 by omega]; exact tc
        · exact hk i (by omega))
      rw [show Fc + 2 + (r - 3) + 2 = Fc + r + 1 by omega, show F + 2 + (r - 3) + 2 = F + r + 1 by omega] at nx
      exact nx
    · rw [xb_inl, x2.2.1, if_pos (by simp [tc]), eatN mc' hT x4 z2 (k := 44) (by decide) (by decide) tc]
      unfold j_152_78
      have l0 : ((if ¬ T.tk (a + 2) = 44 then 0 else 1) : Int) = 0 := by rw [if_pos tc]
      rw [l0, j_152_34, if_pos rfl, j_253_47, if_neg (by simp [fm']), if_pos rfl]
      exact Or.inl ⟨sc', m', j + 1, rfl, rfl, x5, by rw [show h + 1 + 3 * (j + 1) = a + 2 by omega]; exact x2, by rw [x4]; omega, by omega, fun i hi => hk i (by omega)⟩
  · obtain ⟨s', x1, x2, x3⟩ := par_bad hT hS (by omega) hc hM hf H hu hm t (by omega)
    obtain ⟨mF, x4, x5⟩ := x3 (F + r + 2) (by omega)
    rw [x1, x4]
    exact Or.inr ⟨s', mF, rfl, ⟨sf.trans x2.1, x2.2⟩, rfl, sfm.trans x5.1, x5.2⟩
end PA
/-! THE REST of a helper: ')' NUMBER '=' an expression ';'. -/
section TL
variable {T : TT} {sc m s q6 : Sg} {S a N K C B : Nat} {w v x : Int}
theorem xb_err {α β : Type} {x : Nat × Sg} {k : α → Option (Sum β (Nat × Sg))} : xb (some (.inr x) : Option (Sum α (Nat × Sg))) k = some (.inr x) := rfl
noncomputable def hd4 (s : Sg) : Option (Sum Sg (Nat × Sg)) := xb (f_92 59 s) fun q9 => (f_102 0 q9).bind fun q10 => some (.inl q10)
noncomputable def hd3 (w : Int) (q6 : Sg) : Option (Sum Sg (Nat × Sg)) := xb (f_45 100 0 q6) fun q7 => (f_38 (q6 39 10) (q7 66 8) w q7).bind fun q8 => hd4 q8
noncomputable def hd2 (w : Int) (s : Sg) : Option (Sum Sg (Nat × Sg)) := xb (f_92 61 s) fun q6 => hd3 w q6
noncomputable def hd1 (s : Sg) : Option (Sum Sg (Nat × Sg)) := xb (f_93 1 32 s) fun q4 => gd (g_190 q4.1 q4.2) ((some (f_190 q4.1 q4.2)).bind fun q5 => hd2 q4.1 q5)
theorem hd_eq (s : Sg) : j_152_84 s = xb (f_92 41 s) fun q3 => hd1 q3 := rfl
noncomputable def ht4 (l1 v : Int) (s : Sg) : Option Sg := gd (0 ≤ l1 ∧ l1 < 4100) ((f_231 7 (ax_u2 s 100 l1.toNat v)).bind fun q7 => some q7.2)
noncomputable def ht3 (l1 : Int) (s : Sg) : Option Sg := gd (0 ≤ l1 ∧ l1 < 4100) ((f_257 l1 0 (ax_u2 s 101 l1.toNat (s 84 18))).bind fun q6 => ht4 l1 q6.1 q6.2)
noncomputable def ht2 (l1 v : Int) (s : Sg) : Option Sg := gd (0 ≤ l1 ∧ l1 < 4100) ((f_231 10 (ax_u2 s 97 l1.toNat v)).bind fun q5 => ht3 l1 q5.2)
noncomputable def ht1 (l1 : Int) (s : Sg) : Option Sg := (f_231 2 s).bind fun q4 => ht2 l1 q4.1 q4.2
theorem ht_eq (l1 : Int) (s : Sg) : j_253_116 l1 s = (f_231 12 s).bind fun q3 => ht1 l1 q3.2 := rfl
theorem fht4 (hf : 0 < m 84 6) (hS : S < 4100) (v : Int) : ∃ m' : Sg, ht4 (S : Int) v m = some m' ∧ BSm m m' := by
  have e : 0 < (ax_u2 m 100 S v) 84 6 := by rw [u2_row _ _ _ (by decide)]; exact hf
  refine ⟨_, ?_, ro_sf (by decide), e⟩
  unfold ht4
  rw [gd_pos (by omega), Int.toNat_natCast, takeF e, Option.bind_some]
theorem fht3 (hf : 0 < m 84 6) (hS : S < 4100) : ∃ m' : Sg, ht3 (S : Int) m = some m' ∧ BSm m m' := by
  have e : 0 < (ax_u2 m 101 S (m 84 18)) 84 6 := by rw [u2_row _ _ _ (by decide)]; exact hf
  obtain ⟨m1, k1, k2⟩ := fl257 e (S : Int) 0
  obtain ⟨m2, k3, k4⟩ := fht4 k2.2 hS 0
  refine ⟨m2, ?_, ((ro_sf (by decide)).trans k2.1).trans k4.1, k4.2⟩
  unfold ht3
  rw [gd_pos (by omega), Int.toNat_natCast, k1, Option.bind_some]
  exact k3
theorem fht2 (hf : 0 < m 84 6) (hS : S < 4100) (v : Int) : ∃ m' : Sg, ht2 (S : Int) v m = some m' ∧ BSm m m' := by
  have e : 0 < (ax_u2 m 97 S v) 84 6 := by rw [u2_row _ _ _ (by decide)]; exact hf
  obtain ⟨m2, k3, k4⟩ := fht3 e hS
  refine ⟨m2, ?_, (ro_sf (by decide)).trans k4.1, k4.2⟩
  unfold ht2
  rw [gd_pos (by omega), Int.toNat_natCast, takeF e, Option.bind_some]
  exact k3
theorem fht1 (hf : 0 < m 84 6) (hS : S < 4100) : ∃ m' : Sg, ht1 (S : Int) m = some m' ∧ BSm m m' := by
  obtain ⟨m2, k3, k4⟩ := fht2 hf hS 0
  refine ⟨m2, ?_, k4⟩
  unfold ht1
  rw [takeF hf, Option.bind_some]
  exact k3
/-- a claim of a width -/
theorem c38 (hC : s 61 4 = (C : Int)) (hC8 : C < 2049) (x y w : Int) : f_38 x y w s = some (ax_u2 (ax_u2 (ax_u2 (ax_u2 (ax_u2 s 62 C x) 63 C (-1)) 64 C y) 65 C (if w < 1 then 1 else w)) 61 4 ((C + 1 : Nat) : Int)) := by
  have e : f_292 1 w s = (if w < 1 then 1 else w) := by
    unfold f_292
    by_cases c : 1 < w
    · rw [if_pos c, if_neg (by omega)]
    · rw [if_neg c]
      by_cases d : w < 1
      · rw [if_pos d]
      · rw [if_neg d]; omega
  obtain ⟨g, f⟩ := c42 hC hC8 x (-1) y (if w < 1 then 1 else w)
  unfold f_38
  rw [e, gd_pos g, f, Option.bind_some]
/-- what the end of a helper changes: the claim C is made, what was bound is free again -/
def HEc (s s' : Sg) (B C : Nat) (x y w : Int) : Prop := s' 61 4 = ((C + 1 : Nat) : Int) ∧ (∀ j, j ≠ 4 → s' 61 j = s 61 j) ∧ s' 62 C = x ∧ s' 63 C = -1 ∧ s' 64 C = y ∧ s' 65 C = (if w < 1 then 1 else w) ∧ (∀ c i, 62 ≤ c → c ≤ 65 → i ≠ C → s' c i = s c i) ∧ s' 31 8 = 0 ∧ (∀ j, j ≠ 8 → s' 31 j = s 31 j) ∧ (∀ c, ¬ (c = 31 ∨ c = 37 ∨ c = 39 ∨ 61 ≤ c ∧ c ≤ 65) → s' c = s c) ∧ (∀ j, j ≠ 10 → j ≠ 11 → s' 39 j = s 39 j) ∧ (∀ i, i < B → 0 ≤ s 38 i → s 38 i < 4112 → s' 37 (s 38 i).toNat = 0) ∧ (∀ id : Nat, (∀ i, i < B → s 38 i ≠ (id : Int)) → s' 37 id = s 37 id)
theorem hd4_y (hT : TWF T) (hc : CC T s) (hu : CU T s a) (hC : s 61 4 = (C : Int)) (hC8 : C < 2049) (hB : s 31 8 = (B : Int)) (hB8 : B ≤ 4112) (t : T.tk a = 59) (x y w : Int) :
    ∃ s' : Sg, (f_38 x y w s).bind (fun q8 => hd4 q8) = some (.inl s') ∧ CU T s' (a + 1) ∧ HEc s s' B C x y w := by
  obtain ⟨s1, hs1⟩ : ∃ s1 : Sg, s1 = ax_u2 (ax_u2 (ax_u2 (ax_u2 (ax_u2 s 62 C x) 63 C (-1)) 64 C y) 65 C (if w < 1 then 1 else w)) 61 4 ((C + 1 : Nat) : Int) := ⟨_, rfl⟩
  have r1 : ∀ c, ¬ (61 ≤ c ∧ c ≤ 65) → s1 c = s c := fun c z => by rw [hs1, u2_row _ _ _ (by omega), u2_row _ _ _ (by omega), u2_row _ _ _ (by omega), u2_row _ _ _ (by omega), u2_row _ _ _ (by omega)]
  have cc1 : CC T s1 := hc.row (by rw [r1 39 (by decide)]) (r1 41 (by decide)) (r1 42 (by decide)) (r1 44 (by decide)) (by rw [r1 31 (by decide)]) (r1 1 (by decide))
  have cu1 : CU T s1 a := by
    unfold CU at *
    rw [r1 39 (by decide)]
    exact hu
  have hz := hT.lt hu.2.2 (by rw [t]; decide)
  obtain ⟨s', z1, z2, z3, z4, z5, z6⟩ := c102 (s := cur T s1 (a + 1)) (M := 0) (B := B) (by omega) hB8 (by rw [cur_row (by decide), r1 31 (by decide)]; exact hB)
  have cu2 : CU T s' (a + 1) := by
    have := cur_cu (T := T) (s := s1) (a := a + 1) (by omega)
    unfold CU at *
    rw [z4 39 (by decide) (by decide)]
    exact this
  have r2 : ∀ c, c ≠ 31 → c ≠ 37 → c ≠ 39 → s' c = s1 c := fun c p q r => by rw [z4 c p q, cur_row r]
  refine ⟨s', ?_, cu2, ?_, ?_, ?_, ?_, ?_, ?_, ?_, z2, ?_, ?_, ?_, ?_, ?_⟩
  · rw [c38 hC hC8, Option.bind_some, ← hs1]
    unfold hd4
    rw [c92y hT cc1 cu1 t (by decide), xb_inl]
    have : f_102 0 (cur T s1 (a + 1)) = some s' := z1
    rw [this, Option.bind_some]
  · rw [r2 61 (by decide) (by decide) (by decide), hs1]; exact u2_same _ _ _ _
  · intro j hj
    rw [r2 61 (by decide) (by decide) (by decide), hs1, u2_col _ _ _ hj, u2_row _ _ _ (by decide), u2_row _ _ _ (by decide), u2_row _ _ _ (by decide), u2_row _ _ _ (by decide)]
  · rw [r2 62 (by decide) (by decide) (by decide), hs1, u2_row _ _ _ (by decide), u2_row _ _ _ (by decide), u2_row _ _ _ (by decide), u2_row _ _ _ (by decide)]; exact u2_same _ _ _ _
  · rw [r2 63 (by decide) (by decide) (by decide), hs1, u2_row _ _ _ (by decide), u2_row _ _ _ (by decide), u2_row _ _ _ (by decide)]; exact u2_same _ _ _ _
  · rw [r2 64 (by decide) (by decide) (by decide), hs1, u2_row _ _ _ (by decide), u2_row _ _ _ (by decide)]; exact u2_same _ _ _ _
  · rw [r2 65 (by decide) (by decide) (by decide), hs1, u2_row _ _ _ (by decide)]; exact u2_same _ _ _ _
  · intro c i x1 x2 hi
    rw [r2 c (by omega) (by omega) (by omega), hs1]
    simp [ax_u2, hi, show c ≠ 61 by omega]
  · intro j hj
    rw [z3 j hj, cur_row (by decide), r1 31 (by decide)]
  · intro c hx
    rw [r2 c (by omega) (by omega) (by omega), r1 c (by omega)]
  · intro j p q
    rw [z4 39 (by decide) (by decide), cur_col p q, r1 39 (by decide)]
  · intro i hi h0 h1
    have e : (cur T s1 (a + 1)) 38 i = s 38 i := by rw [cur_row (by decide), r1 38 (by decide)]
    have := z5 i (by omega) hi (by rw [e]; exact h0) (by rw [e]; exact h1)
    rw [e] at this
    exact this
  · intro id hid
    rw [z6 id (fun i _ hi => by rw [cur_row (by decide), r1 38 (by decide)]; exact hid i hi), cur_row (by decide), r1 37 (by decide)]
theorem hd4_n (hu : CU T s a) (hC : s 61 4 = (C : Int)) (hC8 : C < 2049) (t : T.tk a ≠ 59) (x y w : Int) :
    ∃ s' : Sg, (f_38 x y w s).bind (fun q8 => hd4 q8) = some (.inr (15, s')) ∧ BSc T s s' := by
  obtain ⟨s1, hs1⟩ : ∃ s1 : Sg, s1 = ax_u2 (ax_u2 (ax_u2 (ax_u2 (ax_u2 s 62 C x) 63 C (-1)) 64 C y) 65 C (if w < 1 then 1 else w)) 61 4 ((C + 1 : Nat) : Int) := ⟨_, rfl⟩
  have r1 : ∀ c, ¬ (61 ≤ c ∧ c ≤ 65) → s1 c = s c := fun c z => by rw [hs1, u2_row _ _ _ (by omega), u2_row _ _ _ (by omega), u2_row _ _ _ (by omega), u2_row _ _ _ (by omega), u2_row _ _ _ (by omega)]
  have cu1 : CU T s1 a := by
    unfold CU at *
    rw [r1 39 (by decide)]
    exact hu
  refine ⟨s1, ?_, ⟨fun c z => r1 c (by omega), fun j _ _ => by rw [r1 39 (by decide)], fun j _ => by rw [r1 30 (by decide)], fun j _ => by rw [r1 31 (by decide)], W8.same (r1 31 (by decide))⟩, _, cu1⟩
  rw [c38 hC hC8, Option.bind_some, ← hs1]
  unfold hd4
  rw [c92n cu1 t, xb_err]
end TL
/-! THE REST of a helper, on both sides. -/
/-- its width is read -/
def HWc (T : TT) (s s' : Sg) (S a : Nat) : Prop := s' 57 S = mn (T.vl (a + 1)) ∧ (∀ i, i ≠ S → s' 57 i = s 57 i) ∧ (∀ c, ¬ (c = 30 ∨ c = 39 ∨ c = 57) → s' c = s c) ∧ (∀ j, j ≠ 10 → j ≠ 11 → s' 39 j = s 39 j) ∧ (∀ j, j < 4 ∨ 7 < j → s' 30 j = s 30 j) ∧ (CN s' ↔ CN s ∧ 1 ≤ T.vl (a + 1) ∧ T.vl (a + 1) ≤ 32)
def HWm (m : Sg) (S a : Nat) : Sg := ax_u2 (adv (ax_u2 (adv (adv m (a + 1)) (a + 2)) 97 S ((a + 1 : Nat) : Int)) (a + 3)) 101 S ((a + 3 : Nat) : Int)
section TS
variable {T : TT} {sc m s s' : Sg} {S a N K C B : Nat}
theorem HWc.sf (h : HWc T s s' S a) : SFc s s' := ⟨fun c x => h.2.2.1 c (by omega), h.2.2.2.1, h.2.2.2.2.1, fun j _ => by rw [h.2.2.1 31 (by decide)], W8.same (h.2.2.1 31 (by decide))⟩
theorem HWm_sf : SFm m (HWm m S a) := (((adv_sf.trans adv_sf).trans (ro_sf (by decide))).trans adv_sf).trans (ro_sf (by decide))
theorem HWm_row {c : Nat} (h : ¬ (c = 84 ∨ c = 97 ∨ c = 101)) : HWm m S a c = m c := by
  unfold HWm
  rw [u2_row _ _ _ (by omega), adv_row (by omega), u2_row _ _ _ (by omega), adv_row (by omega), adv_row (by omega)]
theorem HWm_col {j : Nat} (h : j ≠ 18) : HWm m S a 84 j = m 84 j := by
  unfold HWm
  rw [u2_row _ _ _ (by decide), adv_col h, u2_row _ _ _ (by decide), adv_col h, adv_col h]
theorem HWm_at : HWm m S a 84 18 = ((a + 3 : Nat) : Int) := by
  unfold HWm
  rw [u2_row _ _ _ (by decide), adv_at]
theorem tail_sim (hT : TWF T) (hS : S < 1171) (hC8 : C < 2049) (hB8 : B ≤ 4112) (h54 : sc 54 6 = ((S + 1 : Nat) : Int)) (h57 : sc 57 S = 0) (hc : CC T sc) (hM : MC T m) (hu : CU T sc a) (hm : m 84 18 = (a : Int)) (hf : m 84 6 = 0) (nd : ND T sc m N K) (h66 : sc 66 7 = 0) (fr : ∀ k, a ≤ k → k < T.z → FRS T sc m k) (hN : N ≤ a) (hK : K ≤ N) (hC : sc 61 4 = (C : Int)) (hB : sc 31 8 = (B : Int)) :
    (∃ (sc2 sc3 m3 sc' : Sg) (a' N' K' : Nat), T.tk a = 41 ∧ T.tk (a + 1) = 2 ∧ T.tk (a + 2) = 61 ∧ T.tk a' = 59 ∧ HWc T sc sc2 S a ∧ TPOST T sc2 (HWm m S a) (S : Int) (a + 3) N K sc3 m3 a' N' K' ∧ HEc sc3 sc' B C ((a + 3 : Nat) : Int) ((N' : Int) - 1) (mn (T.vl (a + 1))) ∧ CU T sc' (a' + 1) ∧ j_152_84 sc = some (.inl sc') ∧ j_253_116 (S : Int) m = some (adv (ax_u2 m3 100 S ((N' : Int) - 1)) (a' + 1))) ∨
    (∃ (x : Nat) (s' mF : Sg), j_152_84 sc = some (.inr (x, s')) ∧ (x = 14 ∨ x = 15) ∧ BSc T sc s' ∧ j_253_116 (S : Int) m = some mF ∧ BSm m mF) := by
  have h8 := hT.1
  have hz := hu.2.2
  rw [hd_eq, ht_eq]
  by_cases t1 : T.tk a = 41
  rotate_left
  · right
    obtain ⟨mF, k1, k2⟩ := fht1 (m := tel m 2 a) (S := S) (by rw [tel_at]; decide) (by omega)
    rw [c92n hu t1, xb_err, takeN hM hT hf hm hz (k := 41) (by decide) (by decide) t1, Option.bind_some]
    exact ⟨15, sc, mF, rfl, Or.inr rfl, ⟨SFc.refl _, _, hu⟩, k1, tel_sf.trans k2.1, k2.2⟩
  have hz0 := hT.lt hz (by rw [t1]; decide)
  have cc1 := cur_cc (a := a + 1) hc
  have cu1 : CU T (cur T sc (a + 1)) (a + 1) := cur_cu (by omega)
  have mc1 : MC T (adv m (a + 1)) := (adv_sf (a := a + 1)).mc hM
  have f1 : (adv m (a + 1)) 84 6 = 0 := by rw [adv_col (by decide)]; exact hf
  rw [c92y hT hc hu t1 (by decide), xb_inl, takeY hM hT hf hm hz (k := 41) (by decide) t1, Option.bind_some]
  show _ ∨ _
  unfold hd1 ht1
  by_cases t2 : T.tk (a + 1) = 2
  rotate_left
  · right
    obtain ⟨mF, k1, k2⟩ := fht2 (m := tel (adv m (a + 1)) 2 (a + 1)) (S := S) (by rw [tel_at]; decide) (by omega) 0
    rw [c93n cu1 t2, xb_err, takeN mc1 hT f1 adv_at (by omega) (k := 2) (by decide) (by decide) t2, Option.bind_some]
    exact ⟨15, _, mF, rfl, Or.inr rfl, ⟨cur_sf, _, cu1⟩, k1, (adv_sf.trans tel_sf).trans k2.1, k2.2⟩
  have hz1 := hT.lt (show a + 1 ≤ T.z by omega) (by rw [t2]; decide)
  have hv1 := hT.2.2.2.2.1 (a + 1) hz1
  obtain ⟨s1, n1, n2, n3, n4⟩ := c93 (lo := 1) (hi := 32) hT cc1 cu1 t2
  have cc2 : CC T (cur T s1 (a + 2)) := cur_cc ((ef30 n3 n4).cc cc1)
  have rc : ∀ c, c ≠ 39 → c ≠ 30 → (cur T s1 (a + 2)) c = sc c := fun c x y => by rw [cur_row x, n3 c y, cur_row x]
  obtain ⟨_, ⟨g1, g2⟩, _⟩ := c181 (s := cur T s1 (a + 2)) (S := S) (by rw [rc 54 (by decide) (by decide)]; exact h54) hS (mn (T.vl (a + 1)))
  have mnb : 0 ≤ mn (T.vl (a + 1)) ∧ mn (T.vl (a + 1)) ≤ 1073741824 := by unfold mn; split <;> omega
  rw [rc 57 (by decide) (by decide), h57, Int.zero_add, w32_id (by omega) (by omega)] at g2
  obtain ⟨s2, hs2⟩ : ∃ s2 : Sg, s2 = ax_u2 (cur T s1 (a + 2)) 57 S (mn (T.vl (a + 1))) := ⟨_, rfl⟩
  have r2 : ∀ c, c ≠ 57 → s2 c = (cur T s1 (a + 2)) c := fun c x => by rw [hs2]; exact u2_row _ _ _ x
  have cc3 : CC T s2 := cc2.row (by rw [r2 39 (by decide)]) (r2 41 (by decide)) (r2 42 (by decide)) (r2 44 (by decide)) (by rw [r2 31 (by decide)]) (r2 1 (by decide))
  have cu2 : CU T s2 (a + 2) := by
    have := cur_cu (T := T) (s := s1) (a := a + 2) (by omega)
    unfold CU at *
    rw [r2 39 (by decide)]
    exact this
  have hw2 : HWc T sc s2 S a := by
    refine ⟨by rw [hs2]; exact u2_same _ _ _ _, fun i hi => by rw [hs2, u2_col _ _ _ hi, rc 57 (by decide) (by decide)], fun c x => by rw [r2 c (by omega), rc c (by omega) (by omega)], fun j x y => ?_, fun j x => ?_, ?_⟩
    · rw [r2 39 (by decide), cur_col x y, n3 39 (by decide), cur_col x y]
    · rw [r2 30 (by decide), cur_row (by decide), n4 j x, cur_row (by decide)]
    · have e1 : CN s2 ↔ CN s1 := by unfold CN; rw [r2 30 (by decide), cur_row (by decide)]
      have e2 : CN (cur T sc (a + 1)) ↔ CN sc := by unfold CN; rw [cur_row (by decide)]
      rw [e1, n2, e2]
  obtain ⟨m2, hm2⟩ : ∃ m2 : Sg, m2 = ax_u2 (adv (adv m (a + 1)) (a + 2)) 97 S ((a + 1 : Nat) : Int) := ⟨_, rfl⟩
  have sfm2 : SFm m m2 := by rw [hm2]; exact (adv_sf.trans adv_sf).trans (ro_sf (by decide))
  have mc2 := sfm2.mc hM
  have f2 : m2 84 6 = 0 := by rw [hm2, u2_row _ _ _ (by decide), adv_col (by decide), adv_col (by decide)]; exact hf
  have u2' : m2 84 18 = ((a + 2 : Nat) : Int) := by rw [hm2, u2_row _ _ _ (by decide)]; exact adv_at
  rw [n1, xb_inl, takeY mc1 hT f1 adv_at (by omega) (k := 2) (by decide) t2, Option.bind_some]
  dsimp only
  rw [gd_pos g1, g2, Option.bind_some, ← hs2]
  unfold hd2 ht2
  rw [gd_pos (by omega), Int.toNat_natCast, ← hm2]
  by_cases t3 : T.tk (a + 2) = 61
  rotate_left
  · right
    obtain ⟨mF, k1, k2⟩ := fht3 (m := tel m2 2 (a + 2)) (S := S) (by rw [tel_at]; decide) (by omega)
    rw [c92n cu2 t3, xb_err, takeN mc2 hT f2 u2' (by omega) (k := 61) (by decide) (by decide) t3, Option.bind_some]
    exact ⟨15, s2, mF, rfl, Or.inr rfl, ⟨hw2.sf, _, cu2⟩, k1, (sfm2.trans tel_sf).trans k2.1, k2.2⟩
  have hz2 := hT.lt (show a + 2 ≤ T.z by omega) (by rw [t3]; decide)
  rw [c92y hT cc3 cu2 t3 (by decide), xb_inl, takeY mc2 hT f2 u2' (by omega) (k := 61) (by decide) t3, Option.bind_some]
  show _ ∨ _
  obtain ⟨s3, hs3⟩ : ∃ s3 : Sg, s3 = cur T s2 (a + 3) := ⟨_, rfl⟩
  have hw3 : HWc T sc s3 S a := by
    obtain ⟨w1, w2, w3, w4, w5, w6⟩ := hw2
    refine ⟨by rw [hs3, cur_row (by decide)]; exact w1, fun i hi => by rw [hs3, cur_row (by decide)]; exact w2 i hi, fun c x => by rw [hs3, cur_row (by omega)]; exact w3 c x, fun j x y => by rw [hs3, cur_col x y]; exact w4 j x y, fun j x => by rw [hs3, cur_row (by decide)]; exact w5 j x, ?_⟩
    have : CN s3 ↔ CN s2 := by unfold CN; rw [hs3, cur_row (by decide)]
    rw [this]; exact w6
  have cu3 : CU T s3 (a + 3) := by rw [hs3]; exact cur_cu (by omega)
  have m3e : ax_u2 (adv m2 (a + 3)) 101 S ((adv m2 (a + 3)) 84 18) = HWm m S a := by rw [adv_at, hm2]; rfl
  unfold hd3 ht3
  rw [gd_pos (by omega), Int.toNat_natCast]
  rw [show a + 2 + 1 = a + 3 by omega, m3e, ← hs3]
  have pre : TPRE T s3 (HWm m S a) (a + 3) N K := by
    refine ⟨hw3.sf.cc hc, HWm_sf.mc hM, cu3, HWm_at, by rw [HWm_col (by decide)]; exact hf, ?_, by rw [hw3.2.2.1 66 (by decide)]; exact h66, ?_, by omega, hK, by omega, ?_⟩
    · exact nd.congr (by rw [hw3.2.2.1 46 (by decide)]) (HWm_col (by decide)) (HWm_col (by decide)) (fun c n x y _ => by rw [hw3.2.2.1 c (by omega)]) (fun c n x y _ => by rw [HWm_row (by omega)]) (fun j _ => by rw [HWm_row (by decide)])
    · intro k x y
      obtain ⟨b1, b2, b3, b4⟩ := fr k (by omega) y
      exact ⟨by rw [hw3.2.2.1 45 (by decide)]; exact b1, by rw [HWm_row (by decide)]; exact b2, by rw [HWm_row (by decide)]; exact b3, by rw [HWm_row (by decide)]; exact b4⟩
    · rw [show a + 3 - 1 = a + 2 by omega, t3]; decide
  rcases top_sim (d := 0) hT pre (by omega) (S : Int) with ⟨sc3, m3, a', N', K', r1, r3, r4⟩ | ⟨x, s', mF, r1, r2', r3, r4, r5, r6⟩
  rotate_left
  · right
    obtain ⟨mG, k1, k2⟩ := fht4 r6 (S := S) (by omega) 0
    have r1' : f_45 100 0 s3 = some (.inr (x, s')) := r1
    have r4' : f_257 (S : Int) 0 (HWm m S a) = some (0, mF) := r4
    rw [r1', xb_err, r4', Option.bind_some]
    exact ⟨x, s', mG, rfl, r2', ⟨hw3.sf.trans r3.1.sf, r3.2⟩, k1, (HWm_sf.trans r5.sf).trans k2.1, k2.2⟩
  have r1' : f_45 100 0 s3 = some (.inl sc3) := r1
  rw [r1', xb_inl]
  obtain ⟨q1, q2, q3, q4, q5, q6, q7, q8, q9, q10, q11, q12, q13, q14, q15, q16, q17, q18, q19, q20, q21⟩ := id r3
  have hC3 : sc3 61 4 = (C : Int) := by rw [q10.1 61 (by decide), hw3.2.2.1 61 (by decide)]; exact hC
  have hB3 : sc3 31 8 = (B : Int) := by rw [q10.1 31 (by decide), hw3.2.2.1 31 (by decide)]; exact hB
  by_cases t4 : T.tk a' = 59
  · left
    have r4' : f_257 (S : Int) 0 (HWm m S a) = some ((N' : Int) - 1, m3) := by
      rcases r4 with y | ⟨y, _⟩
      · exact y
      · rw [t4] at y; exact absurd y (by decide)
    obtain ⟨sc', z1, z2, z3⟩ := hd4_y hT q1 q3 hC3 hC8 hB3 hB8 t4 (s3 39 10) (sc3 66 8) (mn (T.vl (a + 1)))
    rw [cu3.1, q15] at z3
    refine ⟨s3, sc3, m3, sc', a', N', K', t1, t2, t3, t4, hw3, r3, z3, z2, z1, ?_⟩
    rw [r4', Option.bind_some]
    unfold ht4
    have sf4 : SFm m3 (ax_u2 m3 100 S ((N' : Int) - 1)) := ro_sf (by decide)
    rw [gd_pos (by omega), Int.toNat_natCast, takeY (sf4.mc q2) hT (by rw [u2_row _ _ _ (by decide)]; exact q5) (by rw [u2_row _ _ _ (by decide)]; exact q4) q3.2.2 (k := 59) (by decide) t4, Option.bind_some]
  · right
    obtain ⟨s', z1, z2⟩ := hd4_n q3 hC3 hC8 t4 (s3 39 10) (sc3 66 8) (mn (T.vl (a + 1)))
    have sfa : SFc sc sc3 := hw3.sf.trans q10.sf
    rcases r4 with y | ⟨_, mF, y1, y2, y3⟩
    · have r4' : f_257 (S : Int) 0 (HWm m S a) = some ((N' : Int) - 1, m3) := y
      have sf4 : SFm m3 (ax_u2 m3 100 S ((N' : Int) - 1)) := ro_sf (by decide)
      rw [r4', Option.bind_some]
      unfold ht4
      rw [gd_pos (by omega), Int.toNat_natCast, takeN (sf4.mc q2) hT (by rw [u2_row _ _ _ (by decide)]; exact q5) (by rw [u2_row _ _ _ (by decide)]; exact q4) q3.2.2 (k := 59) (by decide) (by decide) t4, Option.bind_some]
      exact ⟨15, s', tel (ax_u2 m3 100 S ((N' : Int) - 1)) 2 a', z1, Or.inr rfl, ⟨sfa.trans z2.1, z2.2⟩, rfl, ((HWm_sf.trans q11.sf).trans sf4).trans tel_sf, by rw [tel_at]; decide⟩
    · have y1' : f_257 (S : Int) 0 (HWm m S a) = some (0, mF) := y1
      obtain ⟨mG, k1, k2⟩ := fht4 y3 (S := S) (by omega) 0
      rw [y1', Option.bind_some]
      exact ⟨15, s', mG, z1, Or.inr rfl, ⟨sfa.trans z2.1, z2.2⟩, k1, (HWm_sf.trans y2.sf).trans k2.1, k2.2⟩
end TS
