/-! A HELPER: what both runs have changed. -/
def HMm (m3 : Sg) (S N a' N' : Nat) : Sg := ax_u2 (ax_u2 (adv (ax_u2 m3 100 S ((N' : Int) - 1)) (a' + 1)) 103 S ((N' : Int) - (N : Int))) 84 19 ((S + 1 : Nat) : Int)
def HCF (T : TT) (sc sc4 : Sg) (a S N C J b a' : Nat) (y : Int) : Prop :=
  (∀ c, ¬ (c = 30 ∨ c = 31 ∨ 36 ≤ c ∧ c ≤ 39 ∨ 45 ≤ c ∧ c ≤ 69) → sc4 c = sc c) ∧ (∀ j, j ≠ 10 → j ≠ 11 → sc4 39 j = sc 39 j) ∧ (∀ j, j < 4 ∨ 7 < j → sc4 30 j = sc 30 j) ∧ (∀ j, j ≠ 8 → sc4 31 j = sc 31 j) ∧ sc4 31 8 = 0 ∧ sc4 54 6 = ((S + 1 : Nat) : Int) ∧ (∀ j, j ≠ 6 → sc4 54 j = sc 54 j) ∧ (∀ c i, 55 ≤ c → c ≤ 60 → i ≠ S → sc4 c i = sc c i) ∧
  sc4 55 S = 2 ∧ sc4 56 S = ((a + 1 : Nat) : Int) ∧ sc4 57 S = mn (T.vl (b + 1)) ∧ sc4 58 S = (J : Int) ∧ sc4 59 S = 0 ∧ sc4 60 S = (N : Int) ∧ sc4 36 (T.vl (a + 1)).toNat = (S : Int) ∧ (∀ i, i ≠ (T.vl (a + 1)).toNat → sc4 36 i = sc 36 i) ∧
  sc4 61 4 = ((C + 1 : Nat) : Int) ∧ sc4 62 C = ((b + 3 : Nat) : Int) ∧ sc4 63 C = -1 ∧ sc4 64 C = y ∧ sc4 65 C = (if mn (T.vl (b + 1)) < 1 then 1 else mn (T.vl (b + 1))) ∧ (∀ c i, 62 ≤ c → c ≤ 65 → i ≠ C → sc4 c i = sc c i) ∧ (∀ n, n < N → sc4 48 n = sc 48 n) ∧ (∀ k, k < b + 3 ∨ a' ≤ k → sc4 45 k = sc 45 k)
def HMF (sm m5 : Sg) (a S P N J b a' N' : Nat) : Prop :=
  (∀ c, ¬ (c = 84 ∨ c = 91 ∨ c = 92 ∨ 94 ≤ c ∧ c ≤ 105 ∨ 116 ≤ c ∧ c ≤ 121 ∨ 123 ≤ c ∧ c ≤ 132) → m5 c = sm c) ∧ (∀ j, j < 6 ∨ 7 < j ∧ j < 18 ∨ 19 < j ∧ j < 31 ∨ 31 < j ∧ j < 46 ∨ 70 < j → m5 84 j = sm 84 j) ∧ m5 84 18 = ((a' + 1 : Nat) : Int) ∧ m5 84 19 = ((S + 1 : Nat) : Int) ∧ m5 84 31 = ((P + J : Nat) : Int) ∧ m5 84 6 = 0 ∧
  (∀ c i, 94 ≤ c → c ≤ 103 → i ≠ S → m5 c i = sm c i) ∧ m5 94 S = 2 ∧ m5 95 S = ((a + 1 : Nat) : Int) ∧ m5 97 S = ((b + 1 : Nat) : Int) ∧ m5 98 S = (P : Int) ∧ m5 99 S = (J : Int) ∧ m5 100 S = (N' : Int) - 1 ∧ m5 101 S = ((b + 3 : Nat) : Int) ∧ m5 102 S = 0 ∧ m5 103 S = (N' : Int) - (N : Int) ∧ (∀ c p, 104 ≤ c → c ≤ 105 → p < P → m5 c p = sm c p) ∧ (∀ c n, 116 ≤ c → c ≤ 124 → n < N → m5 c n = sm c n) ∧ (∀ k, k < b + 3 ∨ a' ≤ k → m5 91 k = sm 91 k ∧ m5 92 k = sm 92 k)
section HFR
variable {T : TT} {sc0 sm0 sc sm s1 scp mp sc2 sc3 m3 sc4 : Sg} {a S P A N K C w J b a' N' K' : Nat}
theorem HMm_row {c : Nat} (h : ¬ (c = 84 ∨ c = 100 ∨ c = 103)) : HMm m3 S N a' N' c = m3 c := by
  unfold HMm
  rw [u2_row _ _ _ (by omega), u2_row _ _ _ (by omega), adv_row (by omega), u2_row _ _ _ (by omega)]
theorem HMm_84 {j : Nat} (h : j ≠ 18) (h2 : j ≠ 19) : HMm m3 S N a' N' 84 j = m3 84 j := by
  unfold HMm
  rw [u2_col _ _ _ h2, u2_row _ _ _ (by decide), adv_col h, u2_row _ _ _ (by decide)]
theorem HMm_col {c i : Nat} (h : c ≠ 84) (hi : i ≠ S) : HMm m3 S N a' N' c i = m3 c i := by
  unfold HMm
  have u : ∀ (s : Sg) (d : Nat) (v : Int), (ax_u2 s d S v) c i = s c i := fun s d v => by simp [ax_u2, hi]
  rw [u2_row _ _ _ h, u, adv_row h, u]
theorem HMm_S : HMm m3 S N a' N' 84 18 = ((a' + 1 : Nat) : Int) ∧ HMm m3 S N a' N' 84 19 = ((S + 1 : Nat) : Int) ∧ HMm m3 S N a' N' 100 S = (N' : Int) - 1 ∧ HMm m3 S N a' N' 103 S = (N' : Int) - (N : Int) := by
  unfold HMm
  refine ⟨?_, u2_same _ _ _ _, ?_, ?_⟩
  · rw [u2_col _ _ _ (by decide), u2_row _ _ _ (by decide), adv_at]
  · rw [u2_row _ _ _ (by decide), u2_row _ _ _ (by decide), adv_row (by decide)]; exact u2_same _ _ _ _
  · rw [u2_row _ _ _ (by decide)]; exact u2_same _ _ _ _
theorem HRN.hcf (h : HRN T sc sm a S P N K C J b a' N' K' s1 scp mp sc2 sc3 m3 sc4) : HCF T sc sc4 a S N C J b a' ((N' : Int) - 1) := by
  obtain ⟨t1, t2, hd, hcn, pl, hb, hk, t3, t4, t5, t6, hw, tp, he, cu⟩ := h
  obtain ⟨q1, q2, q3, q4, q5, q6, q7, q8, q9, q10, q11, q12, q13, q14⟩ := hd
  obtain ⟨y1, y2, y3, y4, y5, y6, y7, -, -, -, -, -, -, -, -, -⟩ := pl
  obtain ⟨w1, w2, w3, w4, w5, w6⟩ := hw
  obtain ⟨-, -, -, -, -, -, -, -, xf, ef, -, -, -, -, -, -, -, -, -, -, -⟩ := tp
  obtain ⟨g1, g2, g3, g4, g5, g6, g7, g8, g9, g10, g11, g12, g13⟩ := he
  have rA : ∀ c, c ≠ 39 → (cur T s1 (a + 3)) c = s1 c := fun c x => cur_row x
  have r5 : ∀ c, 54 ≤ c → c ≤ 60 → c ≠ 57 → c ≠ 58 → sc4 c = s1 c := fun c x y z u => by rw [g10 c (by omega), ef.1 c (by omega), w3 c (by omega), y1 c (by omega), rA c (by omega)]
  have r57 : ∀ i, sc4 57 i = sc2 57 i := fun i => by rw [g10 57 (by decide), ef.1 57 (by decide)]
  have r58 : ∀ i, sc4 58 i = scp 58 i := fun i => by rw [g10 58 (by decide), ef.1 58 (by decide), w3 58 (by decide)]
  have r36 : ∀ i, sc4 36 i = s1 36 i := fun i => by rw [g10 36 (by decide), ef.1 36 (by decide), w3 36 (by decide), y1 36 (by decide), rA 36 (by decide)]
  refine ⟨?_, ?_, ?_, ?_, g8, ?_, ?_, ?_, ?_, ?_, ?_, ?_, ?_, ?_, ?_, ?_, g1, g3, g4, g5, g6, ?_, ?_, ?_⟩
  · intro c x
    rw [g10 c (by omega), ef.1 c (by omega), w3 c (by omega), y1 c (by omega), rA c (by omega), q12 c (by omega)]
  · intro j x y
    rw [g11 j x y, ef.2.1 j x y, w4 j x y, y2 j x y, cur_col x y, q13 j x y]
  · intro j x
    rw [g10 30 (by decide), ef.2.2 j x, w5 j x, y3 j x, rA 30 (by decide), q14 j x]
  · intro j x
    rw [g9 j x, ef.1 31 (by decide), w3 31 (by decide), y4 j x, rA 31 (by decide), q12 31 (by decide)]
  · rw [r5 54 (by decide) (by decide) (by decide) (by decide)]; exact q1
  · intro j x
    rw [r5 54 (by decide) (by decide) (by decide) (by decide)]; exact q11 j x
  · intro c i x y z
    by_cases c1 : c = 57
    · subst c1
      rw [r57 i, w2 i z, y1 57 (by decide), rA 57 (by decide)]; exact q10 57 i x y z
    · by_cases c2 : c = 58
      · subst c2
        rw [r58 i, y5 i z, rA 58 (by decide)]; exact q10 58 i x y z
      · rw [r5 c (by omega) (by omega) c1 c2]; exact q10 c i x y z
  · rw [r5 55 (by decide) (by decide) (by decide) (by decide)]; exact q2
  · rw [r5 56 (by decide) (by decide) (by decide) (by decide)]; exact q3
  · rw [r57]; exact w1
  · rw [r58]; exact y7
  · rw [r5 59 (by decide) (by decide) (by decide) (by decide)]; exact q6
  · rw [r5 60 (by decide) (by decide) (by decide) (by decide)]; exact q7
  · rw [r36]; exact q8
  · intro i x
    rw [r36]; exact q9 i x
  · intro c i x y z
    rw [g7 c i x y z, ef.1 c (by omega), w3 c (by omega), y1 c (by omega), rA c (by omega), q12 c (by omega)]
  · intro n hn
    rw [g10 48 (by decide), xf.2.1 48 n (by decide) (by decide) hn, w3 48 (by decide), y1 48 (by decide), rA 48 (by decide), q12 48 (by decide)]
  · intro k hk
    rw [g10 45 (by decide), (xf.1 k hk).1, w3 45 (by decide), y1 45 (by decide), rA 45 (by decide), q12 45 (by decide)]
theorem HRN.hmf (h : HRN T sc sm a S P N K C J b a' N' K' s1 scp mp sc2 sc3 m3 sc4) : HMF sm (HMm m3 S N a' N') a S P N J b a' N' := by
  obtain ⟨t1, t2, hd, hcn, pl, hb, hk, t3, t4, t5, t6, hw, tp, he, cu⟩ := h
  obtain ⟨-, -, -, -, -, -, -, k1, k2, k3, k4, k5, k6, -, -, -⟩ := pl
  obtain ⟨-, -, -, -, f6, -, -, -, xf, -, ef, -, -, -, -, -, -, -, -, -, -⟩ := tp
  obtain ⟨s46, s94, s95, s96, s98, s99, s102, s103⟩ := HDm_S (sm := sm) (S := S) (P := P) (N := N) (a := a) (kd := 2)
  have rM : ∀ c, c ≠ 84 → (adv (HDm sm S P N a 2) (a + 3)) c = (HDm sm S P N a 2) c := fun c x => adv_row x
  have rc : ∀ c i, 94 ≤ c → c ≤ 105 → c ≠ 97 → c ≠ 101 → c ≠ 100 → c ≠ 103 → HMm m3 S N a' N' c i = mp c i := fun c i x y z u v w => by rw [HMm_row (by omega), ef.1 c (by omega), HWm_row (by omega)]
  have r84 : ∀ j, j < 6 ∨ 7 < j ∧ j < 18 ∨ 19 < j ∧ j < 47 ∨ 70 < j → HMm m3 S N a' N' 84 j = mp 84 j := fun j x => by rw [HMm_84 (by omega) (by omega), ef.2 j (by omega), HWm_col (by omega)]
  have hwS : HWm mp S b 97 S = ((b + 1 : Nat) : Int) ∧ HWm mp S b 101 S = ((b + 3 : Nat) : Int) := by
    unfold HWm
    refine ⟨?_, u2_same _ _ _ _⟩
    rw [u2_row _ _ _ (by decide), adv_row (by decide)]; exact u2_same _ _ _ _
  have hwi : ∀ c i, c ≠ 84 → i ≠ S → HWm mp S b c i = mp c i := fun c i x y => by
    unfold HWm
    have u : ∀ (s : Sg) (d : Nat) (v : Int), (ax_u2 s d S v) c i = s c i := fun s d v => by simp [ax_u2, y]
    rw [u, adv_row x, u, adv_row x, adv_row x]
  refine ⟨?_, ?_, HMm_S.1, HMm_S.2.1, ?_, ?_, ?_, ?_, ?_, ?_, ?_, ?_, HMm_S.2.2.1, ?_, ?_, HMm_S.2.2.2, ?_, ?_, ?_⟩
  · intro c x
    rw [HMm_row (by omega), ef.1 c (by omega), HWm_row (by omega), k1 c (by omega), rM c (by omega), HDm_row (by omega)]
  · intro j x
    rw [r84 j (by omega), k2 j (by omega) (by omega), adv_col (by omega), HDm_84 (by omega) (by omega)]
  · rw [r84 31 (by decide)]; exact k5
  · rw [HMm_84 (by decide) (by decide)]; exact f6
  · intro c i x y z
    rw [HMm_col (by omega) z, ef.1 c (by omega), hwi c i (by omega) z]
    by_cases c9 : c = 99
    · subst c9
      rw [k3 i z, rM 99 (by decide), HDm_col (by decide) z]
    · rw [k1 c (by omega), rM c (by omega), HDm_col (by omega) z]
  · rw [rc 94 S (by decide) (by decide) (by decide) (by decide) (by decide) (by decide), k1 94 (by decide), rM 94 (by decide)]; exact s94
  · rw [rc 95 S (by decide) (by decide) (by decide) (by decide) (by decide) (by decide), k1 95 (by decide), rM 95 (by decide)]; exact s95
  · rw [HMm_row (by decide), ef.1 97 (by decide)]; exact hwS.1
  · rw [rc 98 S (by decide) (by decide) (by decide) (by decide) (by decide) (by decide), k1 98 (by decide), rM 98 (by decide)]; exact s98
  · rw [rc 99 S (by decide) (by decide) (by decide) (by decide) (by decide) (by decide)]; exact k6
  · rw [HMm_row (by decide), ef.1 101 (by decide)]; exact hwS.2
  · rw [rc 102 S (by decide) (by decide) (by decide) (by decide) (by decide) (by decide), k1 102 (by decide), rM 102 (by decide)]; exact s102
  · intro c p x y z
    rw [rc c p (by omega) (by omega) (by omega) (by omega) (by omega) (by omega), k4 c p x y z, rM c (by omega), HDm_row (by omega)]
  · intro c n x y z
    rw [HMm_row (by omega), xf.2.2.1 c n x y z, HWm_row (by omega), k1 c (by omega), rM c (by omega), HDm_row (by omega)]
  · intro k hk
    have := xf.1 k hk
    rw [HMm_row (by decide), HMm_row (by decide), this.2.1, this.2.2, HWm_row (by decide), HWm_row (by decide), k1 91 (by decide), k1 92 (by decide), rM 91 (by decide), rM 92 (by decide), HDm_row (by decide), HDm_row (by decide)]
    exact ⟨rfl, rfl⟩
end HFR
