/-! FROM CUTTING to reading. -/
section CIN
variable {sc sm : Sg} {n z m : Nat} {t : Nat → Int}
theorem LR.kd {k : Nat} (h : LR sc sm n t m k) (hm : m ≤ 4111) : sc 41 k ∈ kvl ∧ sc 41 k ≠ 0 ∧ (0 ≤ sc 44 k ∧ sc 44 k ≤ 1099511627776) ∧ (sc 41 k = 1 → sc 44 k < (m : Int)) ∧ (sc 41 k = 1 ∨ 17 ≤ sc 41 k ∧ sc 41 k ≤ 21 → ∃ i j : Nat, sc 42 k = (i : Int) ∧ sc 43 k = (j : Int) - i ∧ i < j ∧ j ≤ n ∧ j = lxE t n i ∧ LXn sc t m i j (sc 41 k) (sc 44 k)) := by
  obtain ⟨i, j, a1, a2, a3, a4, a5, a6, aE, a7, a8, a9, a10, a11, a12⟩ := h
  rcases a12 with b | b | b
  · obtain ⟨b1, b2, b3, id, b4, b5, b6, b7, b8⟩ := id b
    refine ⟨?_, ?_, by omega, fun _ => by omega, fun _ => ⟨i, j, a1, a2, a5, a6, aE, b⟩⟩
    · rw [b8]
      by_cases c : 12 ≤ id
      · rw [if_pos c]; decide
      · rw [if_neg c]
        have : ∀ q : Nat, q < 12 → (16 + (q : Int)) ∈ kvl := by decide
        exact this id (by omega)
    · rw [b8]
      split <;> omega
  · obtain ⟨b1, b2, b3, b4, b5⟩ := b
    rw [b4, b5]
    exact ⟨by decide, by decide, nmV_b b1 (by omega), fun e => absurd e (by decide), fun e => absurd e (by decide)⟩
  · obtain ⟨b1, b2⟩ := b
    rw [b1]
    rcases b2 with ⟨b2, b3, b4⟩ | ⟨b2, b3, b4, b5⟩
    · obtain ⟨p1, p2⟩ := isS_b b3
      have q := isS_kv (sc 41 k).toNat (by omega) (by rw [Int.toNat_of_nonneg p1]; exact b3)
      rw [Int.toNat_of_nonneg p1] at q
      exact ⟨q.1, q.2.1, by decide, fun e => absurd e q.2.2.1, fun e => absurd e (by
        intro u
        rcases u with u | u
        · exact q.2.2.1 u
        · exact q.2.2.2 u)⟩
    · have : sc 41 k = 128 ∨ sc 41 k = 129 ∨ sc 41 k = 130 ∨ sc 41 k = 131 := by omega
      rcases this with e | e | e | e <;> rw [e] <;> exact ⟨by decide, by decide, by decide, fun e => absurd e (by decide), fun e => absurd e (by decide)⟩
/-- lexemes do not overlap -/
def XO (T : TT) (s : Sg) : Prop := ∀ k, k < T.z → T.fm k + s 43 k ≤ T.fm (k + 1)
theorem cut_in (H : CLS sc n t z m) (hM : MT sm n t) (h11 : sm 84 11 = (z : Int)) (hz : z ≤ n) (hm : m ≤ 4111) (hL : ∀ k, k < z → LR sc sm n t m k) (hO : ORD sc z n) :
    ∃ T : TT, T.z = z ∧ T.m = m ∧ TWF T ∧ POS T ∧ CC T (ENc sc z n) ∧ MC T (ENm sm z n) ∧ CU T (ENc sc z n) 0 ∧ CX T (ENc sc z n) ∧ TX T (ENc sc z n) (ENm sm z n) n t ∧ (∀ k, k < z → FRS T (ENc sc z n) (ENm sm z n) k) ∧ XO T (ENc sc z n) := by
  obtain ⟨a1, a2, a3, a4, a5, a6, a7, a9⟩ := H
  obtain ⟨v41, v42, v43, v44, v45, v9, v10, v11, vo⟩ := ENc_at (sc := sc) (z := z) (n := n)
  obtain ⟨w88, w89, w90⟩ := ENm_at (sm := sm) (z := z) (n := n)
  have h8 := a1.2.1
  have ck : ∀ c q, 41 ≤ c → c ≤ 45 → q < z → ENc sc z n c q = sc c q := fun c q x y w => ENc_col ⟨x, y⟩ (by omega)
  have mk : ∀ c q, q < z → ENm sm z n c q = sm c q := fun c q w => ENm_col (by omega)
  have kd := fun k (hk : k < z) => (hL k hk).kd hm
  have hor : ∀ k, k < z → ∃ i j : Nat, sc 42 k = (i : Int) ∧ sc 43 k = (j : Int) - i ∧ i < j ∧ j ≤ n ∧ (j : Int) ≤ ENc sc z n 42 (k + 1) := by
    intro k hk
    obtain ⟨i, j, b1, b2, b3, b4, b5, b6, -⟩ := hL k hk
    refine ⟨i, j, b1, b2, b5, b6, ?_⟩
    by_cases e : k + 1 < z
    · rw [ck 42 (k + 1) (by decide) (by decide) e]
      have := hO.1 k e
      omega
    · rw [show k + 1 = z by omega, v42]
      omega
  refine ⟨(z, m, ENc sc z n 41, ENc sc z n 42, ENc sc z n 44), rfl, rfl, ?_, ?_, ?_, ?_, ?_, ?_, ?_, ?_, ?_⟩
  · refine ⟨by show z ≤ 8192; omega, v41, fun k hk => ?_, fun k hk => ?_, fun k hk => ?_, fun k hk => ?_, by show m ≤ 4112; omega⟩
    · show ENc sc z n 41 k ∈ kvl ∧ ENc sc z n 41 k ≠ 0
      rw [ck 41 k (by decide) (by decide) hk]
      exact ⟨(kd k hk).1, (kd k hk).2.1⟩
    · show 0 ≤ ENc sc z n 42 k
      have hk : k ≤ z := hk
      by_cases e : k < z
      · rw [ck 42 k (by decide) (by decide) e]
        obtain ⟨i, j, b1, -⟩ := hor k e
        omega
      · rw [show k = z by omega, v42]
        omega
    · show 0 ≤ ENc sc z n 44 k ∧ ENc sc z n 44 k ≤ 1099511627776
      rw [ck 44 k (by decide) (by decide) hk]
      exact (kd k hk).2.2.1
    · show ENc sc z n 41 k = 1 → ENc sc z n 44 k < (m : Int)
      rw [ck 41 k (by decide) (by decide) hk, ck 44 k (by decide) (by decide) hk]
      exact (kd k hk).2.2.2.1
  · refine ⟨fun k hk => ?_, fun k hk => ?_, fun k hk => ?_, ?_⟩
    · show ENc sc z n 42 k + 1 ≤ ENc sc z n 42 (k + 1)
      have hk : k < z := hk
      rw [ck 42 k (by decide) (by decide) hk]
      obtain ⟨i, j, b1, b2, b3, b4, b5⟩ := hor k hk
      omega
    · show 17 ≤ ENc sc z n 41 k → ENc sc z n 41 k ≤ 20 → ENc sc z n 41 (k + 1) = 1 → ENc sc z n 42 k + 4 ≤ ENc sc z n 42 (k + 1)
      have hk : k + 1 < z := hk
      rw [ck 41 k (by decide) (by decide) (by omega), ck 41 (k + 1) (by decide) (by decide) hk, ck 42 k (by decide) (by decide) (by omega), ck 42 (k + 1) (by decide) (by decide) hk]
      intro k1 k2 k3
      obtain ⟨i, j, b1, b2, b3, b4, bE, b5⟩ := (kd k (by omega)).2.2.2.2 (Or.inr ⟨k1, by omega⟩)
      obtain ⟨i', j', c1, c2, c3, c4, cE, c5⟩ := (kd (k + 1) hk).2.2.2.2 (Or.inl k3)
      have l3 := (b5.len a5 b3).1 k1 k2
      have o := hO.1 k hk
      have ne : i' ≠ j := by
        intro e
        have bL := b5.1
        unfold lxE at bE
        rw [if_pos bL] at bE
        have st := rn_stop isLD t (n - i) i
        rw [← bE] at st
        have st := st (by omega)
        have cL := c5.1
        rw [e] at cL
        unfold isLD at st
        rw [cL] at st
        exact absurd st (by simp)
      omega
    · show ENc sc z n 41 k = 21 → ENc sc z n 42 k + 2 ≤ ENc sc z n 42 (k + 1)
      have hk : k < z := hk
      rw [ck 41 k (by decide) (by decide) hk, ck 42 k (by decide) (by decide) hk]
      intro k1
      obtain ⟨i, j, b1, b2, b3, b4, bE, b5⟩ := (kd k hk).2.2.2.2 (Or.inr ⟨by omega, by omega⟩)
      have l3 := (b5.len a5 b3).2 k1
      obtain ⟨i', j', d1, d2, d3, d4, d5⟩ := hor k hk
      omega
    · show ENc sc z n 42 z ≤ 8192
      rw [v42]; omega
  · exact ⟨v9, rfl, rfl, rfl, by rw [ENc_row (by decide)]; exact a3.1, fun k hk => by rw [ENc_row (by decide)]; exact a2.2.2.2.2 k hk⟩
  · refine ⟨by rw [ENm_row (by decide)]; exact h11, fun k hk => ?_⟩
    show ENm sm z n 88 k = km (ENc sc z n 41 k)
    have hk : k ≤ z := hk
    by_cases e : k < z
    · rw [mk 88 k e, ck 41 k (by decide) (by decide) e]
      obtain ⟨i, j, b1, b2, b3, b4, b5, b6, b7, b8, b9, b10, b11, b12, -⟩ := hL k e
      exact b12
    · rw [show k = z by omega, w88, v41]
      decide
  · exact ⟨v10, v11, by show 0 ≤ z; omega⟩
  · refine ⟨by rw [vo 8 (by decide) (by decide) (by decide), a1.1]; omega, fun k hk => ?_⟩
    show 0 ≤ ENc sc z n 43 k ∧ ENc sc z n 42 k + ENc sc z n 43 k ≤ ENc sc z n 39 8
    rw [ck 43 k (by decide) (by decide) hk, ck 42 k (by decide) (by decide) hk, vo 8 (by decide) (by decide) (by decide), a1.1]
    obtain ⟨i, j, b1, b2, b3, b4, b5⟩ := hor k hk
    omega
  · refine ⟨⟨by rw [vo 8 (by decide) (by decide) (by decide)]; exact a1.1, h8, by rw [ENc_row (by decide)]; exact a1.2.2⟩, ⟨by rw [ENm_row (by decide)]; exact hM.1, h8, by rw [ENm_row (by decide)]; exact hM.2.2⟩, ?_, fun k hk => ?_⟩
    · show NI (ENc sc z n) m
      unfold NI at *
      rw [ENc_row (show ¬ (31 = 39 ∨ 41 ≤ 31 ∧ 31 ≤ 45) by decide), ENc_row (show ¬ (32 = 39 ∨ 41 ≤ 32 ∧ 32 ≤ 45) by decide), ENc_row (show ¬ (33 = 39 ∨ 41 ≤ 33 ∧ 33 ≤ 45) by decide), ENc_row (show ¬ (34 = 39 ∨ 41 ≤ 34 ∧ 34 ≤ 45) by decide), ENc_row (show ¬ (35 = 39 ∨ 41 ≤ 35 ∧ 35 ≤ 45) by decide)]
      exact a3
    · have hk : k < z := hk
      obtain ⟨i, j, b1, b2, b3, b4, b5, b6, b7, b8, b9, b10, b11, b12, b13⟩ := hL k hk
      refine ⟨i, j, ?_, by rw [ck 43 k (by decide) (by decide) hk]; exact b2, by rw [mk 89 k hk]; exact b3, by rw [mk 90 k hk]; exact b4, b5, b6, b7, ?_⟩
      · show ENc sc z n 42 k = _
        rw [ck 42 k (by decide) (by decide) hk]; exact b1
      · show LXn (ENc sc z n) t m i j (ENc sc z n 41 k) (ENc sc z n 44 k) ∨ LXv t n i j (ENc sc z n 41 k) (ENc sc z n 44 k) ∨ LXs t n i j (ENc sc z n 41 k) (ENc sc z n 44 k)
        rw [ck 41 k (by decide) (by decide) hk, ck 44 k (by decide) (by decide) hk]
        unfold LXn
        rw [ENc_row (show ¬ (34 = 39 ∨ 41 ≤ 34 ∧ 34 ≤ 45) by decide), ENc_row (show ¬ (35 = 39 ∨ 41 ≤ 35 ∧ 35 ≤ 45) by decide)]
        exact b13
  · intro k hk
    obtain ⟨i, j, b1, b2, b3, b4, b5, b6, b7, b8, b9, b10, b11, b12, b13⟩ := hL k hk
    refine ⟨by rw [ck 45 k (by decide) (by decide) hk]; exact b8, by rw [mk 91 k hk]; exact b9, ?_, by rw [mk 93 k hk]; exact b11⟩
    show ENm sm z n 92 k = if ENc sc z n 41 k = 61 then 1 else 0
    rw [mk 92 k hk, ck 41 k (by decide) (by decide) hk, b10, b12]
    by_cases e : sc 41 k = 61
    · rw [if_pos e, e, if_neg (by decide)]
    · rw [if_neg e, if_pos (fun u => e (km_inj _ (kd k hk).1 61 (by decide) (by rw [u]; decide)))]
  · intro k hk
    have hk : k < z := hk
    show ENc sc z n 42 k + ENc sc z n 43 k ≤ ENc sc z n 42 (k + 1)
    rw [ck 42 k (by decide) (by decide) hk, ck 43 k (by decide) (by decide) hk]
    obtain ⟨i, j, b1, b2, b3, b4, b5⟩ := hor k hk
    omega
end CIN
