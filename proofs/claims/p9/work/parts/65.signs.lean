/-! SIGNS, KINDS, and the reference's lexemes. -/
def sgl : List Int := [59, 44, 46, 61, 40, 41, 123, 125, 91, 93, 58, 63, 43, 45, 42, 38, 124, 94, 126, 60]
def wdl : List Int := [119, 111, 114, 100, 32, 114, 101, 103, 32, 109, 101, 109, 32, 100, 101, 102, 32, 105, 110, 115, 32, 105, 102, 32, 101, 108, 115, 101, 32, 114, 101, 112, 32, 114, 97, 105, 115, 101, 32, 115, 120, 32, 122, 120, 32, 99, 97, 116, 32]
def lvl : List Int := [10, 10, 10, 10, 10, 10, 10, 9, 8, 8, 7, 6, 6, 5, 5, 4, 3, 2, 1, 1, 1, 0]
def wdk : List Int := [2003792484, 7497063, 7169389, 6579558, 6909555, 26982, 1701606245, 7497072, 491260572517, 29560, 31352, 6513012]
/-- what never changes: the strings, the levels -/
def KO (s : Sg) : Prop := s 2 1 = 0 ∧ s 4 1 = 0 ∧ (∀ k, k < 49 → s 3 k = wdl.getD k 0) ∧ (∀ k, k < 20 → s 5 k = sgl.getD k 0) ∧ (∀ k, k < 22 → s 1 k = lvl.getD k 0)
def isS (c : Int) : Bool := decide (c = 38 ∨ c = 40 ∨ c = 41 ∨ c = 42 ∨ c = 43 ∨ c = 44 ∨ c = 45 ∨ c = 46 ∨ c = 58 ∨ c = 59 ∨ c = 60 ∨ c = 61 ∨ c = 63 ∨ c = 91 ∨ c = 93 ∨ c = 94 ∨ c = 123 ∨ c = 124 ∨ c = 125 ∨ c = 126)
/-- the reference's number of a kind -/
def km (k : Int) : Int := if k = 0 then 0 else if k = 1 then 1 else if k = 2 then 2 else if k = 16 then 30 else if k = 17 then 31 else if k = 18 then 32 else if k = 19 then 33 else if k = 20 then 34 else if k = 21 then 35 else if k = 22 then 36 else if k = 23 then 37 else if k = 24 then 38 else if k = 25 then 39 else if k = 26 then 40 else if k = 27 then 41 else if k = 38 then 22 else if k = 40 then 11 else if k = 41 then 12 else if k = 42 then 21 else if k = 43 then 19 else if k = 44 then 8 else if k = 45 then 20 else if k = 46 then 9 else if k = 58 then 17 else if k = 59 then 7 else if k = 60 then 26 else if k = 61 then 10 else if k = 63 then 18 else if k = 91 then 15 else if k = 93 then 16 else if k = 94 then 24 else if k = 123 then 13 else if k = 124 then 23 else if k = 125 then 14 else if k = 126 then 25 else if k = 128 then 3 else if k = 129 then 4 else if k = 130 then 5 else if k = 131 then 6 else -9
/-- the kind of a name: a word's, or 1 -/
def wkc (v : Nat) : Int := if v = 2003792484 then 16 else if v = 7497063 then 17 else if v = 7169389 then 18 else if v = 6579558 then 19 else if v = 6909555 then 20 else if v = 26982 then 21 else if v = 1701606245 then 22 else if v = 7497072 then 23 else if v = 491260572517 then 24 else if v = 29560 then 25 else if v = 31352 then 26 else if v = 6513012 then 27 else 1
theorem idx_l {s : Sg} (x : Int) : ∀ (r k F : Nat), k + r = 20 → ∃ y : Int, j_299_5_7 (F + r + 1) 20 x (k : Int) s = some y ∧ (0 ≤ y ↔ ∃ e, k ≤ e ∧ e < 20 ∧ s 5 e = x) := by
  intro r
  induction r with
  | zero =>
    intro k F h
    refine ⟨-1, ?_, ?_⟩
    · rw [j_299_5_7, if_pos (by omega)]
    · constructor
      · intro h; omega
      · intro ⟨e, h1, h2, _⟩; omega
  | succ r ih =>
    intro k F h
    rw [j_299_5_7, if_neg (by omega), gd_pos (by omega), Int.toNat_natCast]
    by_cases c : s 5 k = x
    · refine ⟨(k : Int), ?_, ?_⟩
      · rw [if_neg (by simp [c])]
      · exact ⟨fun _ => ⟨k, by omega, by omega, c⟩, fun _ => by omega⟩
    · obtain ⟨y, e1, e2⟩ := ih (k + 1) F (by omega)
      refine ⟨y, ?_, ?_⟩
      · rw [if_pos c, w32_nat (by omega), show F + (r + 1) = F + r + 1 by omega]
        exact e1
      · rw [e2]
        constructor
        · intro ⟨e, h1, h2, h3⟩
          exact ⟨e, by omega, h2, h3⟩
        · intro ⟨e, h1, h2, h3⟩
          by_cases x1 : e = k
          · subst x1; exact absurd h3 c
          · exact ⟨e, by omega, h2, h3⟩
theorem c274 {s : Sg} (h : KO s) {c : Int} (h0 : 0 ≤ c) (h1 : c < 256) : ∃ y : Int, f_274_4 (ax_u16 c) s = some y ∧ (0 ≤ y ↔ isS c = true) := by
  obtain ⟨-, a2, -, a4, -⟩ := h
  have u : ax_u16 c = c := Int.emod_eq_of_lt h0 (by omega)
  obtain ⟨F, hF⟩ := FU_split (k := 21) (by omega)
  obtain ⟨y, e1, e2⟩ := idx_l (s := s) (ax_w8 c) 20 0 F (by omega)
  refine ⟨y, ?_, ?_⟩
  · unfold f_274_4 f_277_4 f_276_4 f_272_4 f_275_4 f_297_5 f_298 f_299_5
    rw [u, a2, if_neg (by decide), gd_pos (by omega)]
    simp only [Option.bind_some]
    rw [if_neg (show ¬ c < 0 by omega), if_neg (show ¬ 255 < c by omega), if_pos (by decide)]
    have e20 : f_291 (ax_ishr 20 0) 20 s = 20 := by
      unfold f_291
      decide
    have e0 : f_292 0 0 s = 0 := rfl
    rw [e20, e0, if_pos (by decide), hF, show F + 21 = F + 20 + 1 by omega]
    have e1' : j_299_5_7 (F + 20 + 1) 20 (ax_w8 c) 0 s = some y := e1
    rw [e1']
    rfl
  · rw [e2]
    constructor
    · intro ⟨e, _, he, h3⟩
      rw [a4 e he] at h3
      have hw : ax_w8 c = c ∨ ax_w8 c = c - 256 := by
        unfold ax_w8
        by_cases x : c < 128
        · left; rw [Int.bmod_eq_of_le] <;> omega
        · right
          rw [Int.bmod_def]
          split <;> omega
      have hl : ∀ e, e < 20 → 38 ≤ sgl.getD e 0 ∧ isS (sgl.getD e 0) = true := by decide
      have h4 := hl e he
      rcases hw with w | w
      · rw [w] at h3; rw [← h3]; exact h4.2
      · rw [w] at h3; omega
    · intro hs
      have hw : ∀ {d : Int}, isS d = true → ax_w8 d = d := by
        intro d hd
        have := of_decide_eq_true hd
        unfold ax_w8
        rw [Int.bmod_eq_of_le] <;> omega
      rw [hw hs]
      have hd := of_decide_eq_true hs
      have hl : ∀ c : Int, (c = 38 ∨ c = 40 ∨ c = 41 ∨ c = 42 ∨ c = 43 ∨ c = 44 ∨ c = 45 ∨ c = 46 ∨ c = 58 ∨ c = 59 ∨ c = 60 ∨ c = 61 ∨ c = 63 ∨ c = 91 ∨ c = 93 ∨ c = 94 ∨ c = 123 ∨ c = 124 ∨ c = 125 ∨ c = 126) → ∃ e, 0 ≤ e ∧ e < 20 ∧ sgl.getD e 0 = c := by
        intro c hc
        rcases hc with rfl | rfl | rfl | rfl | rfl | rfl | rfl | rfl | rfl | rfl | rfl | rfl | rfl | rfl | rfl | rfl | rfl | rfl | rfl | rfl
        · exact ⟨15, by decide, by decide, by decide⟩
        · exact ⟨4, by decide, by decide, by decide⟩
        · exact ⟨5, by decide, by decide, by decide⟩
        · exact ⟨14, by decide, by decide, by decide⟩
        · exact ⟨12, by decide, by decide, by decide⟩
        · exact ⟨1, by decide, by decide, by decide⟩
        · exact ⟨13, by decide, by decide, by decide⟩
        · exact ⟨2, by decide, by decide, by decide⟩
        · exact ⟨10, by decide, by decide, by decide⟩
        · exact ⟨0, by decide, by decide, by decide⟩
        · exact ⟨19, by decide, by decide, by decide⟩
        · exact ⟨3, by decide, by decide, by decide⟩
        · exact ⟨11, by decide, by decide, by decide⟩
        · exact ⟨8, by decide, by decide, by decide⟩
        · exact ⟨9, by decide, by decide, by decide⟩
        · exact ⟨17, by decide, by decide, by decide⟩
        · exact ⟨6, by decide, by decide, by decide⟩
        · exact ⟨16, by decide, by decide, by decide⟩
        · exact ⟨7, by decide, by decide, by decide⟩
        · exact ⟨18, by decide, by decide, by decide⟩
      obtain ⟨e, q1, q2, q3⟩ := hl c hd
      exact ⟨e, q1, q2, by rw [a4 e q2]; exact q3⟩
theorem c95b (c d : Int) (s : Sg) : f_95 c d s = -1 ∨ (f_95 c d s = 128 ∧ c = 61 ∧ d = 61) ∨ (f_95 c d s = 129 ∧ c = 33 ∧ d = 61) ∨ (f_95 c d s = 130 ∧ c = 60 ∧ d = 60) ∨ (f_95 c d s = 131 ∧ c = 62 ∧ d = 62) := by
  unfold f_95
  repeat' split
  all_goals omega
theorem c95n (c d : Int) (s : Sg) : f_95 c d s = -1 ↔ ¬ (c = 61 ∧ d = 61 ∨ c = 33 ∧ d = 61 ∨ c = 60 ∧ d = 60 ∨ c = 62 ∧ d = 62) := by
  unfold f_95
  repeat' split
  all_goals omega
section CS
variable {s : Sg} {n : Nat} {t : Nat → Int}
/-- a sign -/
theorem c88 {z : Nat} (h : CT s n t) (hK : KO s) (hz : s 39 9 = (z : Int)) (hz8 : z < 8193) (i : Nat) (hi : i < n) :
    f_88 (i : Int) s = (if f_95 (t i) (chs t n (i + 1)) s = -1 then (if isS (t i) then some (((i + 1 : Nat) : Int), AD s z (t i) (i : Int) ((i + 1 : Nat) : Int) 0) else some (-1, s)) else some (((i + 2 : Nat) : Int), AD s z (f_95 (t i) (chs t n (i + 1)) s) (i : Int) ((i + 2 : Nat) : Int) 0)) ∧ (f_95 (t i) (chs t n (i + 1)) s ≠ -1 → i + 2 ≤ n) := by
  have h8 := h.2.1
  obtain ⟨e, g⟩ := h.at i
  rw [h.ch hi] at e
  obtain ⟨e1, g1⟩ := h.at (i + 1)
  have hb := (h.2.2 i hi).2
  have hl : f_95 (t i) (chs t n (i + 1)) s ≠ -1 → i + 2 ≤ n := by
    intro hh
    apply Decidable.byContradiction
    intro hc
    have : chs t n (i + 1) = -1 := if_neg (by omega)
    rw [this] at hh
    exact hh ((c95n _ _ _).mpr (by omega))
  refine ⟨?_, hl⟩
  unfold f_88
  rw [w32_nat (i := i) (by omega), gd_pos g, gd_pos g1, e, e1, w32_id (z := (i : Int) + 2) (by omega) (by omega)]
  by_cases c : f_95 (t i) (chs t n (i + 1)) s = -1
  · rw [if_pos c, if_pos c]
    obtain ⟨y, q1, q2⟩ := c274 hK hb.1 hb.2
    rw [q1]
    show (if 0 ≤ y then _ else _) = _
    by_cases d : isS (t i) = true
    · rw [if_pos (q2.mpr d), if_pos d]
      obtain ⟨p1, p2⟩ := c78 hz hz8 (i := i) (j := i + 1) (by omega) (by omega) (t i) 0
      rw [gd_pos p2, p1]
      rfl
    · rw [if_neg (fun x => d (q2.mp x)), if_neg d]
  · rw [if_neg c, if_neg c]
    have := hl c
    obtain ⟨p1, p2⟩ := c78 hz hz8 (i := i) (j := i + 2) (by omega) (by omega) (f_95 (t i) (chs t n (i + 1)) s) 0
    rw [show (i : Int) + 2 = ((i + 2 : Nat) : Int) by omega, gd_pos p2, p1]
    rfl
/-- the reference's text -/
def MT (s : Sg) (n : Nat) (t : Nat → Int) : Prop := s 84 3 = (n : Int) ∧ n ≤ 8192 ∧ ∀ i, i < n → s 86 i = t i ∧ 0 ≤ t i ∧ t i < 256
theorem MT.at (h : MT s n t) (i : Nat) : f_224 (i : Int) s = chs t n i ∧ g_224 (i : Int) s := by
  obtain ⟨a, b⟩ := m224 h.1 h.2.1 i
  refine ⟨a.trans ?_, b⟩
  unfold chs
  split
  · exact (h.2.2 i (by assumption)).1
  · rfl
theorem MT.congr {s' : Sg} (h : MT s n t) (h1 : s' 84 3 = s 84 3) (h2 : s' 86 = s 86) : MT s' n t := by
  unfold MT
  rw [h1, h2]
  exact h
theorem m230 {z : Nat} (h : MT s n t) (hz : s 84 11 = (z : Int)) (hz8 : z < 8200) (i : Nat) (hi : i < n) :
    f_230 (i : Int) s = (if f_95 (t i) (chs t n (i + 1)) s = -1 then (if isS (t i) then some (((i + 1 : Nat) : Int), ax_u2 s 88 z (km (t i))) else some (((i + 1 : Nat) : Int), f_227 1 (i : Int) s)) else some (((i + 2 : Nat) : Int), ax_u2 s 88 z (km (f_95 (t i) (chs t n (i + 1)) s)))) := by
  have h8 := h.2.1
  obtain ⟨e, g⟩ := h.at i
  have ec : chs t n i = t i := if_pos hi
  rw [ec] at e
  obtain ⟨e1, g1⟩ := h.at (i + 1)
  unfold f_230
  rw [w32_nat (i := i) (by omega), gd_pos g, gd_pos g1, e, e1]
  generalize chs t n (i + 1) = d
  generalize t i = c
  have w1 : ax_w32 ((i : Int) + 1) = ((i + 1 : Nat) : Int) := w32_nat (by omega)
  have w2 : ax_w32 ((i : Int) + 2) = ((i + 2 : Nat) : Int) := by rw [w32_id (by omega) (by omega)]; omega
  have hg : 0 ≤ s 84 11 ∧ s 84 11 < 8200 := by omega
  have hn : (s 84 11).toNat = z := by omega
  have two : ∀ k : Int, 0 ≤ k → j_230_80 (i : Int) c k s = some (((i + 2 : Nat) : Int), ax_u2 s 88 z k) := by
    intro k hk
    unfold j_230_80
    rw [if_neg (by omega), gd_pos hg, hn, w2]
  have one : j_230_80 (i : Int) c (-1) s = (if isS c then some (((i + 1 : Nat) : Int), ax_u2 s 88 z (km c)) else some (((i + 1 : Nat) : Int), f_227 1 (i : Int) s)) := by
    unfold j_230_80
    rw [if_pos (by decide)]
    by_cases hc : isS c = true
    · rw [if_pos hc]
      have hd := of_decide_eq_true hc
      rcases hd with rfl | rfl | rfl | rfl | rfl | rfl | rfl | rfl | rfl | rfl | rfl | rfl | rfl | rfl | rfl | rfl | rfl | rfl | rfl | rfl <;> simp [gd_pos hg, hn, w1, km]
    · rw [if_neg hc]
      have hd : ¬ (c = 38 ∨ c = 40 ∨ c = 41 ∨ c = 42 ∨ c = 43 ∨ c = 44 ∨ c = 45 ∨ c = 46 ∨ c = 58 ∨ c = 59 ∨ c = 60 ∨ c = 61 ∨ c = 63 ∨ c = 91 ∨ c = 93 ∨ c = 94 ∨ c = 123 ∨ c = 124 ∨ c = 125 ∨ c = 126) := fun x => hc (decide_eq_true x)
      simp only [not_or] at hd
      obtain ⟨d0, d1, d2, d3, d4, d5, d6, d7, d8, d9, d10, d11, d12, d13, d14, d15, d16, d17, d18, d19⟩ := hd
      simp [w1, d0, d1, d2, d3, d4, d5, d6, d7, d8, d9, d10, d11, d12, d13, d14, d15, d16, d17, d18, d19]
  have k128 : km 128 = 3 := by decide
  have k129 : km 129 = 4 := by decide
  have k130 : km 130 = 5 := by decide
  have k131 : km 131 = 6 := by decide
  rcases c95b c d s with q | ⟨q, rfl, rfl⟩ | ⟨q, rfl, rfl⟩ | ⟨q, rfl, rfl⟩ | ⟨q, rfl, rfl⟩
  · rw [q, if_pos rfl, ← one]
    have hq := (c95n c d s).mp q
    unfold j_230_30 j_230_46
    repeat' split
    all_goals first | rfl | (exfalso; omega)
  · rw [q, if_neg (by decide), k128, if_neg (by decide), if_neg (by decide), two 3 (by decide)]
  · simp [q, k129, j_230_30, two]
  · simp [q, k130, j_230_30, j_230_46, two]
  · simp [q, k131, j_230_30, j_230_46, two]
end CS
/-! THE REFERENCE's names, numbers, values. -/
theorem lor8 {v c : Nat} (hv : v < 36028797018963968) (hc : c < 256) : ax_lor (ax_lshl (v : Int) 8) (c : Int) = ((v * 256 + c : Nat) : Int) := by
  refine inl64_inj (inl64_or _ _) ?_ ?_
  · unfold inl64
    rw [BitVec.toInt_ofInt, Int.bmod_eq_of_le] <;> omega
  · rw [or_lo (by omega) (by omega), u64_nat (by omega), u64_nat (by omega)]
    omega
section ML
variable {s : Sg} {n : Nat} {t : Nat → Int}
theorem m39l (h : MT s n t) {k11 : Int → Sg → Option Sg} (i0 : Nat) : ∀ (k i F : Nat), i + k = n → j_208_39 k11 (F + k + 1) (i0 : Int) (i : Int) s = j_208_67 k11 (i0 : Int) ((rn isLD t k i : Nat) : Int) s := by
  intro k
  induction k with
  | zero =>
    intro i F hi
    obtain ⟨e, g⟩ := h.at i
    have e2 : chs t n i = -1 := if_neg (by omega)
    rw [j_208_39, gd_pos g, gd_pos g, e, e2, m225, m226, if_neg (by decide), if_pos (by decide)]
    simp only [rn]
  | succ k ih =>
    intro i F hi
    have h8 := h.2.1
    obtain ⟨e, g⟩ := h.at i
    have e2 : chs t n i = t i := if_pos (by omega)
    have nx : isLD (t i) = true → j_208_61 k11 (j_208_39 k11 (F + (k + 1))) (i0 : Int) (i : Int) s = j_208_67 k11 (i0 : Int) ((rn isLD t (k + 1) i : Nat) : Int) s := by
      intro c
      unfold j_208_61
      rw [w32_nat (by omega), show F + (k + 1) = F + k + 1 by omega, ih (i + 1) F (by omega)]
      simp only [rn, c, if_true]
    rw [j_208_39, gd_pos g, gd_pos g, e, e2, m225, m226]
    cases c : isL (t i) with
    | true =>
      rw [if_pos (by decide)]
      exact nx (by simp [isLD, c])
    | false =>
      rw [if_neg (by decide)]
      cases d : isD (t i) with
      | true =>
        rw [if_neg (by decide)]
        exact nx (by simp [isLD, d])
      | false =>
        rw [if_pos (by decide)]
        simp only [rn, isLD, c, d, Bool.or_self, Bool.false_eq_true, if_false]
theorem m73l (h : MT s n t) (i0 : Nat) : ∀ (k i F : Nat), i + k = n → j_229_73 (F + k + 1) (i0 : Int) (i : Int) s = j_229_90 (i0 : Int) ((rn isD t k i : Nat) : Int) s := by
  intro k
  induction k with
  | zero =>
    intro i F hi
    obtain ⟨e, g⟩ := h.at i
    have e2 : chs t n i = -1 := if_neg (by omega)
    rw [j_229_73, gd_pos g, e, e2, m226, if_pos (by decide)]
    simp only [rn]
  | succ k ih =>
    intro i F hi
    have h8 := h.2.1
    obtain ⟨e, g⟩ := h.at i
    have e2 : chs t n i = t i := if_pos (by omega)
    rw [j_229_73, gd_pos g, e, e2, m226]
    cases c : isD (t i) with
    | true =>
      rw [if_neg (by decide), w32_nat (by omega), show F + (k + 1) = F + k + 1 by omega, ih (i + 1) F (by omega)]
      simp only [rn, c, if_true]
    | false =>
      rw [if_pos (by decide)]
      simp only [rn, c, Bool.false_eq_true, if_false]
theorem m40l (h : MT s n t) (i0 : Nat) : ∀ (k i F : Nat), i + k = n → j_229_40 (F + k + 1) (i0 : Int) (i : Int) s = j_229_57 (i0 : Int) ((rn isH t k i : Nat) : Int) s := by
  intro k
  induction k with
  | zero =>
    intro i F hi
    obtain ⟨e, g⟩ := h.at i
    have e2 : chs t n i = -1 := if_neg (by omega)
    rw [j_229_40, gd_pos g, e, e2, m251, if_pos (by decide)]
    simp only [rn]
  | succ k ih =>
    intro i F hi
    have h8 := h.2.1
    obtain ⟨e, g⟩ := h.at i
    have e2 : chs t n i = t i := if_pos (by omega)
    rw [j_229_40, gd_pos g, e, e2, m251]
    cases c : isH (t i) with
    | true =>
      rw [if_neg (by decide), w32_nat (by omega), show F + (k + 1) = F + k + 1 by omega, ih (i + 1) F (by omega)]
      simp only [rn, c, if_true]
    | false =>
      rw [if_pos (by decide)]
      simp only [rn, c, Bool.false_eq_true, if_false]
/-- does a hex number begin there -/
def hxq (t : Nat → Int) (n i : Nat) : Bool := decide (chs t n i = 48 ∧ chs t n (i + 1) = 120) && isH (chs t n (i + 2))
theorem hxq_len {i : Nat} (c : hxq t n i = true) : i + 3 ≤ n := by
  unfold hxq at c
  simp only [Bool.and_eq_true] at c
  apply Decidable.byContradiction
  intro hn
  have : chs t n (i + 2) = -1 := if_neg (by omega)
  rw [this] at c
  exact absurd c.2 (by decide)
/-- where a number ends -/
def nmE (t : Nat → Int) (n i : Nat) : Nat := if hxq t n i then rn isH t (n - (i + 2)) (i + 2) else rn isD t (n - i) i
def nmOk (t : Nat → Int) (n i : Nat) : Bool := if hxq t n i then decide (nmE t n i - i ≤ 10) else decide (nmE t n i - i ≤ 32)
def nmV (t : Nat → Int) (n i : Nat) : Int := if hxq t n i then hvl t (nmE t n i - (i + 2)) (i + 2) 0 else dvl t (nmE t n i - i) i 0
theorem nmE_b {i : Nat} (hi : i < n) (hd : isD (t i) = true) : i < nmE t n i ∧ nmE t n i ≤ n := by
  unfold nmE
  split
  · rename_i c
    have := hxq_len c
    have := rn_ge isH t (n - (i + 2)) (i + 2)
    omega
  · have := rn_ge isD t (n - i) i
    have h2 : i + 1 ≤ rn isD t (n - i) i := by
      rw [show n - i = (n - i - 1) + 1 by omega]
      simp only [rn, hd, if_true]
      exact (rn_ge isD t _ _).1
    omega
theorem m229 (h : MT s n t) (i : Nat) (hi : i < n) : f_229 (i : Int) s = some (((nmE t n i : Nat) : Int), if nmOk t n i then s else f_227 1 (i : Int) s) := by
  have h8 := h.2.1
  obtain ⟨e0, g0⟩ := h.at i
  obtain ⟨e1, g1⟩ := h.at (i + 1)
  obtain ⟨e2, g2⟩ := h.at (i + 2)
  have w2 : ax_w32 ((i : Int) + 2) = ((i + 2 : Nat) : Int) := by rw [w32_id (by omega) (by omega)]; omega
  unfold f_229
  rw [w2, w32_nat (i := i) (by omega), gd_pos g0, gd_pos g1, gd_pos g2, e0, e1, e2, m251]
  have dec : hxq t n i = false → j_229_73 FU (i : Int) (i : Int) s = some (((nmE t n i : Nat) : Int), if nmOk t n i then s else f_227 1 (i : Int) s) := by
    intro c
    obtain ⟨F, hF⟩ := FU_split (k := n - i + 1) (by omega)
    rw [hF, show F + (n - i + 1) = F + (n - i) + 1 by omega, m73l h i (n - i) i F (by omega)]
    have hr := rn_ge isD t (n - i) i
    unfold j_229_90 nmOk nmE
    simp only [c, Bool.false_eq_true, if_false]
    rw [w32_id (by omega) (by omega)]
    by_cases d : rn isD t (n - i) i - i ≤ 32
    · rw [if_pos (by omega), if_pos (decide_eq_true d)]
    · rw [if_neg (by omega), if_neg (by simpa using d)]
      rfl
  by_cases c0 : chs t n i = 48
  · by_cases c1 : chs t n (i + 1) = 120
    · cases c2 : isH (chs t n (i + 2)) with
      | true =>
        have c : hxq t n i = true := by simp [hxq, c0, c1, c2]
        have hl := hxq_len c
        rw [if_neg (by simp [c0]), if_neg (by simp [c1]), if_neg (by decide)]
        obtain ⟨F, hF⟩ := FU_split (k := n - (i + 2) + 1) (by omega)
        rw [hF, show F + (n - (i + 2) + 1) = F + (n - (i + 2)) + 1 by omega, m40l h i (n - (i + 2)) (i + 2) F (by omega)]
        have hr := rn_ge isH t (n - (i + 2)) (i + 2)
        unfold j_229_57 nmOk nmE
        simp only [c, if_true]
        rw [w32_id (by omega) (by omega)]
        by_cases d : rn isH t (n - (i + 2)) (i + 2) - i ≤ 10
        · rw [if_pos (by omega), if_pos (decide_eq_true d)]
        · rw [if_neg (by omega), if_neg (by simpa using d)]
          rfl
      | false =>
        rw [if_neg (by simp [c0]), if_neg (by simp [c1]), if_pos (by decide)]
        exact dec (by simp [hxq, c2])
    · rw [if_neg (by simp [c0]), if_pos c1]
      exact dec (by simp [hxq, c1])
  · rw [if_pos c0]
    exact dec (by simp [hxq, c0])
theorem m228l (h : MT s n t) (j i0 : Nat) : ∀ (k i F : Nat), i + k = j → i0 ≤ i → j ≤ n → j - i0 ≤ 6 → j_228_14 (F + k + 1) (j : Int) ((pk t (i - i0) i0 : Nat) : Int) (i : Int) s = j_228_40 ((pk t (j - i0) i0 : Nat) : Int) s := by
  intro k
  induction k with
  | zero =>
    intro i F hi h0 hj h6
    rw [j_228_14, if_pos (by omega), show i = j by omega]
  | succ k ih =>
    intro i F hi h0 hj h6
    have h8 := h.2.1
    obtain ⟨b1, b2, b3⟩ := h.2.2 i (by omega)
    have lt : pk t (i - i0) i0 < 256 ^ (i - i0) ∨ True := Or.inr trivial
    rw [j_228_14, if_neg (by omega), gd_pos (by omega), Int.toNat_natCast, b1, w32_nat (by omega), show F + (k + 1) = F + k + 1 by omega]
    have hpk : pk t (i - i0) i0 < 36028797018963968 := by
      have gen : ∀ k i, i + k ≤ n → pk t k i < 256 ^ k := by
        intro k
        induction k with
        | zero => intro i _; exact Nat.one_pos
        | succ k ih2 =>
          intro i hi
          have a := ih2 i (by omega)
          have b := (h.2.2 (i + k) (by omega)).2
          simp only [pk]
          rw [Nat.pow_succ]
          omega
      have a := gen (i - i0) i0 (by omega)
      have b : 256 ^ (i - i0) ≤ 256 ^ 5 := Nat.pow_le_pow_right (by decide) (by omega)
      have c : (256 : Nat) ^ 5 = 1099511627776 := by decide
      omega
    have step : ax_lor (ax_lshl ((pk t (i - i0) i0 : Nat) : Int) 8) (t i) = ((pk t (i + 1 - i0) i0 : Nat) : Int) := by
      have e := lor8 hpk (show (t i).toNat < 256 by omega)
      rw [Int.toNat_of_nonneg b2] at e
      rw [e, show i + 1 - i0 = (i - i0) + 1 by omega]
      simp only [pk]
      rw [show i0 + (i - i0) = i by omega]
    rw [step]
    exact ih (i + 1) F (by omega) (by omega) hj h6
theorem m228 (h : MT s n t) {i j : Nat} (hij : i ≤ j) (hj : j ≤ n) (hb : ∀ e, i ≤ e → e < j → isLD (t e) = true) : f_228 (i : Int) (j : Int) s = some (km (wkc (pk t (j - i) i))) := by
  have h8 := h.2.1
  have hp : ∀ e, e < j - i → 0 < t (i + e) ∧ t (i + e) < 256 := by
    intro e he
    have a := hb (i + e) (by omega) (by omega)
    have b := (h.2.2 (i + e) (by omega)).2
    unfold isLD isL isD at a
    simp only [Bool.or_eq_true, decide_eq_true_eq] at a
    omega
  unfold f_228
  rw [w32_id (by omega) (by omega)]
  by_cases c : j - i ≤ 5
  · rw [if_pos (by omega)]
    obtain ⟨F, hF⟩ := FU_split (k := j - i + 1) (by omega)
    have e := m228l h j i (j - i) i F (by omega) (by omega) hj (by omega)
    rw [show i - i = 0 by omega] at e
    rw [hF, show F + (j - i + 1) = F + (j - i) + 1 by omega]
    refine (show j_228_14 (F + (j - i) + 1) (j : Int) 0 (i : Int) s = _ from e).trans ?_
    generalize pk t (j - i) i = v
    unfold j_228_40 wkc
    simp only [cmp_eq]
    have hv : ∀ a : Nat, ((v : Int) = (a : Int)) = (v = a) := fun a => propext (by omega)
    by_cases w0 : v = 2003792484
    · subst w0; rfl
    by_cases w1 : v = 7497063
    · subst w1; rfl
    by_cases w2 : v = 7169389
    · subst w2; rfl
    by_cases w3 : v = 6579558
    · subst w3; rfl
    by_cases w4 : v = 6909555
    · subst w4; rfl
    by_cases w5 : v = 26982
    · subst w5; rfl
    by_cases w6 : v = 1701606245
    · subst w6; rfl
    by_cases w7 : v = 7497072
    · subst w7; rfl
    by_cases w8 : v = 491260572517
    · subst w8; rfl
    by_cases w9 : v = 29560
    · subst w9; rfl
    by_cases w10 : v = 31352
    · subst w10; rfl
    by_cases w11 : v = 6513012
    · subst w11; rfl
    rw [if_pos (by omega), if_pos (by omega), if_pos (by omega), if_pos (by omega), if_pos (by omega), if_pos (by omega), if_pos (by omega), if_pos (by omega), if_pos (by omega), if_pos (by omega), if_pos (by omega), if_pos (by omega),
      if_neg w0, if_neg w1, if_neg w2, if_neg w3, if_neg w4, if_neg w5, if_neg w6, if_neg w7, if_neg w8, if_neg w9, if_neg w10, if_neg w11]
    rfl
  · rw [if_neg (by omega)]
    have big : ∀ k, 6 ≤ k → k ≤ j - i → 1099511627776 ≤ pk t k i := by
      intro k
      induction k with
      | zero => intro h; omega
      | succ k ih =>
        intro h1 h2
        simp only [pk]
        by_cases x : k = 5
        · subst x
          have p0 := hp 0 (by omega)
          simp only [pk]
          omega
        · have := ih (by omega) (by omega)
          omega
    have := big (j - i) (by omega) (by omega)
    generalize pk t (j - i) i = v at *
    have : wkc v = 1 := by
      unfold wkc
      rw [if_neg (by omega), if_neg (by omega), if_neg (by omega), if_neg (by omega), if_neg (by omega), if_neg (by omega), if_neg (by omega), if_neg (by omega), if_neg (by omega), if_neg (by omega), if_neg (by omega), if_neg (by omega)]
    rw [this]
    rfl
end ML
/-! ONE STEP OF CUTTING, on both sides. -/
theorem wsk_congr {t t' : Nat → Int} : ∀ k cm i, (∀ e, i ≤ e → e < i + k → t e = t' e) → wsk t k cm i = wsk t' k cm i := by
  intro k
  induction k with
  | zero => intro cm i _; rfl
  | succ k ih =>
    intro cm i h
    simp only [wsk]
    rw [h i (by omega) (by omega)]
    rw [ih _ (i + 1) (fun e h1 h2 => h e (by omega) (by omega))]
def prk (c d : Int) : Int := f_95 c d (fun _ _ => 0)
theorem prk_eq (c d : Int) (s : Sg) : f_95 c d s = prk c d := rfl
def WD (s : Sg) : Prop := ∀ k, k < 12 → s 34 k = 0 ∧ s 35 k = wdk.getD k 0
/-- the class while it cuts: z lexemes, m names -/
def CLS (s : Sg) (n : Nat) (t : Nat → Int) (z m : Nat) : Prop := CT s n t ∧ KO s ∧ NI s m ∧ 12 ≤ m ∧ WD s ∧ s 31 9 = 0 ∧ s 31 10 = 0 ∧ s 39 9 = (z : Int)
/-- where the lexeme ends that begins at i; is it a fault -/
def lxE (t : Nat → Int) (n i : Nat) : Nat := if isL (t i) then rn isLD t (n - i) i else if isD (t i) then nmE t n i else if prk (t i) (chs t n (i + 1)) = -1 then i + 1 else i + 2
def lxB (t : Nat → Int) (n i : Nat) : Bool := if isL (t i) then decide (16 < rn isLD t (n - i) i - i) else if isD (t i) then !nmOk t n i else decide (prk (t i) (chs t n (i + 1)) = -1) && !isS (t i)
theorem lxE_b {t : Nat → Int} {n i : Nat} (hi : i < n) : i < lxE t n i ∧ lxE t n i ≤ n := by
  unfold lxE
  split
  · rename_i c
    have := rn_ge isLD t (n - i) i
    have h2 : i + 1 ≤ rn isLD t (n - i) i := by
      rw [show n - i = (n - i - 1) + 1 by omega]
      have : isLD (t i) = true := by simp [isLD, c]
      simp only [rn, this, if_true]
      exact (rn_ge isLD t _ _).1
    omega
  · split
    · exact nmE_b hi (by assumption)
    · split
      · omega
      · rename_i c
        have : i + 2 ≤ n := by
          apply Decidable.byContradiction
          intro hc
          have e : chs t n (i + 1) = -1 := if_neg (by omega)
          rw [e] at c
          exact c ((c95n _ _ _).mpr (by omega))
        omega
/-- what the new lexeme is: a name, a number, a sign -/
def LXn (s : Sg) (t : Nat → Int) (m i j : Nat) (k v : Int) : Prop := isL (t i) = true ∧ (∀ e, i ≤ e → e < j → isLD (t e) = true) ∧ j - i ≤ 16 ∧ ∃ id : Nat, id < m ∧ v = (id : Int) ∧ s 34 id = (spl t (j - i) i).1 ∧ s 35 id = (spl t (j - i) i).2 ∧ k = (if 12 ≤ id then 1 else 16 + (id : Int))
def LXv (t : Nat → Int) (n i j : Nat) (k v : Int) : Prop := isD (t i) = true ∧ nmOk t n i = true ∧ j = nmE t n i ∧ k = 2 ∧ v = nmV t n i
def LXs (t : Nat → Int) (n i j : Nat) (k v : Int) : Prop := v = 0 ∧ ((k = t i ∧ isS k = true ∧ j = i + 1) ∨ (k = prk (t i) (chs t n (i + 1)) ∧ 128 ≤ k ∧ k ≤ 131 ∧ j = i + 2))
/-- the names that were there stay, and nothing else has changed -/
def NSt (s s' : Sg) (m m' : Nat) : Prop := m ≤ m' ∧ (∀ k, k < m → s' 34 k = s 34 k ∧ s' 35 k = s 35 k ∧ s' 36 k = s 36 k ∧ s' 37 k = s 37 k) ∧ (∀ k, m ≤ k → k < m' → s' 36 k = -1 ∧ s' 37 k = 0) ∧ s' 31 8 = s 31 8 ∧ (∀ a, a < 31 ∨ 37 < a → s' a = s a)
theorem NSt.refl (s : Sg) (m : Nat) : NSt s s m m := ⟨Nat.le_refl _, fun _ _ => ⟨rfl, rfl, rfl, rfl⟩, fun k h1 h2 => absurd h2 (by omega), rfl, fun _ _ => rfl⟩
theorem NSt.new {s s' : Sg} {m : Nat} {hi lo : Int} (h : NNew s s' m hi lo) : NSt s s' m (m + 1) := by
  obtain ⟨c1, c2, c3, c4, c5, c6, c7, c8⟩ := h
  refine ⟨by omega, c2, ?_, c7 8 (by decide), c8⟩
  intro k h1 h2
  have : k = m := by omega
  subst this
  exact ⟨c5, c6⟩
theorem CLS.names {s s' : Sg} {n z m : Nat} {t : Nat → Int} {hi lo : Int} (H : CLS s n t z m) (h : NNew s s' m hi lo) : CLS s' n t z (m + 1) := by
  obtain ⟨a1, a2, a3, a4, a5, a6, a7, a8⟩ := H
  obtain ⟨c1, c2, c3, c4, c5, c6, c7, c8⟩ := h
  refine ⟨a1.congr (by rw [c8 39 (by omega)]) (c8 40 (by omega)), ?_, c1, by omega, ?_, by rw [c7 9 (by decide)]; exact a6, by rw [c7 10 (by decide)]; exact a7, by rw [c8 39 (by omega)]; exact a8⟩
  · unfold KO
    rw [c8 2 (by omega), c8 4 (by omega), c8 3 (by omega), c8 5 (by omega), c8 1 (by omega)]
    exact a2
  · intro k hk
    obtain ⟨d1, d2, -, -⟩ := c2 k (by omega)
    rw [d1, d2]
    exact a5 k hk
theorem c77 {s : Sg} {n z m i : Nat} {t : Nat → Int} (H : CLS s n t z m) (hi : i < n) (hz8 : z < 8193) (hm : isL (t i) = true → m < 4112) :
    ∃ (s1 : Sg) (m1 : Nat) (k v : Int), CLS s1 n t z m1 ∧ NSt s s1 m m1 ∧ (m1 = m ∨ (m1 = m + 1 ∧ isL (t i) = true)) ∧
      (if lxB t n i then f_77 (i : Int) s = some (-1, s1) else f_77 (i : Int) s = some (((lxE t n i : Nat) : Int), AD s1 z k (i : Int) ((lxE t n i : Nat) : Int) v) ∧ (LXn s1 t m1 i (lxE t n i) k v ∨ LXv t n i (lxE t n i) k v ∨ LXs t n i (lxE t n i) k v)) := by
  obtain ⟨a1, a2, a3, a4, a5, a6, a7, a8⟩ := id H
  have h8 := a1.2.1
  obtain ⟨e, g⟩ := a1.at i
  rw [a1.ch hi] at e
  have w2 : ax_w32 ((i : Int) + 2) = ((i + 2 : Nat) : Int) := by rw [w32_id (by omega) (by omega)]; omega
  have hb := lxE_b (t := t) hi
  cases cL : isL (t i) with
  | true =>
    obtain ⟨id, s1, q, hc⟩ := c86 a1 a3 (hm cL) a6 a7 a8 hz8 i (by omega)
    have eE : lxE t n i = rn isLD t (n - i) i := by simp only [lxE, cL, if_true]
    have eB : lxB t n i = decide (16 < rn isLD t (n - i) i - i) := by simp only [lxB, cL, if_true]
    have ef : f_77 (i : Int) s = f_86 (i : Int) s := by
      unfold f_77
      rw [gd_pos g, e, c85, cL, if_neg (by decide)]
      cases f_86 (i : Int) s <;> rfl
    rw [eE, eB, ef, q]
    have all := rn_all isLD t (n - i) i
    rcases hc with ⟨b1, b2, b3, rfl⟩ | ⟨rfl, b2, b3⟩
    · refine ⟨s1, m, (if 12 ≤ id then 1 else 16 + (id : Int)), (id : Int), H, NSt.refl s1 m, Or.inl rfl, ?_⟩
      by_cases c : rn isLD t (n - i) i - i ≤ 16
      · rw [if_pos c, if_neg (by simp; omega)]
        exact ⟨rfl, Or.inl ⟨cL, all, c, id, b1, rfl, b2, b3, rfl⟩⟩
      · rw [if_neg c, if_pos (by simp; omega)]
    · refine ⟨s1, id + 1, (if 12 ≤ id then 1 else 16 + (id : Int)), (id : Int), H.names b2, NSt.new b2, Or.inr ⟨rfl, rfl⟩, ?_⟩
      by_cases c : rn isLD t (n - i) i - i ≤ 16
      · rw [if_pos c, if_neg (by simp; omega)]
        exact ⟨rfl, Or.inl ⟨cL, all, c, id, by omega, rfl, b2.2.2.1, b2.2.2.2.1, rfl⟩⟩
      · rw [if_neg c, if_pos (by simp; omega)]
  | false =>
    cases cD : isD (t i) with
    | true =>
      have eE : lxE t n i = nmE t n i := by simp only [lxE, cL, cD, Bool.false_eq_true, if_false, if_true]
      have eB : lxB t n i = !nmOk t n i := by simp only [lxB, cL, cD, Bool.false_eq_true, if_false, if_true]
      rw [eE] at hb
      obtain ⟨e1, g1⟩ := a1.at (i + 1)
      obtain ⟨e2, g2⟩ := a1.at (i + 2)
      have c0e : chs t n i = t i := if_pos hi
      have ad : ∀ (v : Int), f_78 2 (i : Int) ((nmE t n i : Nat) : Int) v s = AD s z 2 (i : Int) ((nmE t n i : Nat) : Int) v ∧ g_78 2 (i : Int) ((nmE t n i : Nat) : Int) v s := fun v => c78 a8 hz8 (by omega) (by omega) 2 v
      have hexc : hxq t n i = true → (if nmOk t n i then f_90 (i : Int) s = some (((nmE t n i : Nat) : Int), AD s z 2 (i : Int) ((nmE t n i : Nat) : Int) (nmV t n i)) else f_90 (i : Int) s = some (-1, s)) := by
        intro c
        have hl := hxq_len c
        have eN : nmE t n i = rn isH t (n - (i + 2)) (i + 2) := by simp only [nmE, c, if_true]
        have eV : nmV t n i = hvl t (nmE t n i - (i + 2)) (i + 2) 0 := by simp only [nmV, c, if_true]
        have eO : nmOk t n i = decide (nmE t n i - i ≤ 10) := by simp only [nmOk, c, if_true]
        rw [c90 a1 i (by omega), ← eN, ← eV, eO]
        unfold j_90_54
        rw [w32_id (by omega) (by omega)]
        by_cases d : nmE t n i - i ≤ 10
        · rw [if_pos (decide_eq_true d), if_pos (by omega), gd_pos (ad _).2, (ad _).1]
          rfl
        · rw [if_neg (by simpa using d), if_neg (by omega)]
      have decc : hxq t n i = false → (if nmOk t n i then f_91 (i : Int) s = some (((nmE t n i : Nat) : Int), AD s z 2 (i : Int) ((nmE t n i : Nat) : Int) (nmV t n i)) else f_91 (i : Int) s = some (-1, s)) := by
        intro c
        have eN : nmE t n i = rn isD t (n - i) i := by simp only [nmE, c, Bool.false_eq_true, if_false]
        have eV : nmV t n i = dvl t (nmE t n i - i) i 0 := by simp only [nmV, c, Bool.false_eq_true, if_false]
        have eO : nmOk t n i = decide (nmE t n i - i ≤ 32) := by simp only [nmOk, c, Bool.false_eq_true, if_false]
        rw [c91 a1 i (by omega), ← eN, ← eV, eO]
        unfold j_91_51
        rw [w32_id (by omega) (by omega)]
        by_cases d : nmE t n i - i ≤ 32
        · rw [if_pos (decide_eq_true d), if_pos (by omega), gd_pos (ad _).2, (ad _).1]
          rfl
        · rw [if_neg (by simpa using d), if_neg (by omega)]
      have eta : ∀ o : Option (Int × Sg), (o.bind fun q1 => some (q1.1, q1.2)) = o := fun o => by cases o <;> rfl
      have ef : f_77 (i : Int) s = if hxq t n i then f_90 (i : Int) s else f_91 (i : Int) s := by
        unfold f_77
        rw [gd_pos g, e, c85, cL, if_pos (by decide), c87, cD, if_pos (by decide), w32_nat (by omega), w2, gd_pos g1, gd_pos g2, e1, e2]
        unfold j_77_68 j_77_69
        simp only [eta, hxq, c0e]
        by_cases q0 : t i = 48
        · by_cases q1 : chs t n (i + 1) = 120
          · rw [c89]
            cases q2 : isH (chs t n (i + 2)) with
            | true =>
              have := hxv_b q2
              rw [if_neg (by simp [q0]), if_neg (by simp [q1]), if_neg (by simp; omega)]
              simp [q0, q1]
            | false =>
              rw [if_neg (by simp [q0]), if_neg (by simp [q1])]
              simp [q0, q1]
          · rw [if_neg (by simp [q0]), if_pos q1]
            simp [q1]
        · rw [if_pos q0]
          simp [q0]
      refine ⟨s, m, 2, nmV t n i, H, NSt.refl s m, Or.inl rfl, ?_⟩
      rw [eE, eB, ef]
      cases ok : nmOk t n i with
      | true =>
        rw [if_neg (by decide)]
        refine ⟨?_, Or.inr (Or.inl ⟨cD, ok, rfl, rfl, rfl⟩)⟩
        cases hq : hxq t n i with
        | true => have := hexc hq; rw [ok, if_pos rfl] at this; rw [if_pos rfl]; exact this
        | false => have := decc hq; rw [ok, if_pos rfl] at this; rw [if_neg (by decide)]; exact this
      | false =>
        rw [if_pos (by decide)]
        cases hq : hxq t n i with
        | true => have := hexc hq; rw [ok, if_neg (by decide)] at this; rw [if_pos rfl]; exact this
        | false => have := decc hq; rw [ok, if_neg (by decide)] at this; rw [if_neg (by decide)]; exact this
    | false =>
      obtain ⟨q, hl⟩ := c88 a1 a2 a8 hz8 i hi
      rw [prk_eq] at q
      have eta : ∀ o : Option (Int × Sg), (o.bind fun q1 => some (q1.1, q1.2)) = o := fun o => by cases o <;> rfl
      have ef : f_77 (i : Int) s = f_88 (i : Int) s := by
        unfold f_77
        rw [gd_pos g, e, c85, cL, if_pos (by decide), c87, cD, if_neg (by decide), eta]
      rw [ef, q]
      by_cases c : prk (t i) (chs t n (i + 1)) = -1
      · have eE : lxE t n i = i + 1 := by simp only [lxE, cL, cD, c, Bool.false_eq_true, if_false, if_true]
        have eB : lxB t n i = !isS (t i) := by simp only [lxB, cL, cD, c, Bool.false_eq_true, if_false, decide_true, Bool.true_and]
        refine ⟨s, m, t i, 0, H, NSt.refl s m, Or.inl rfl, ?_⟩
        rw [eE, eB, if_pos c]
        cases hS : isS (t i) with
        | true =>
          rw [if_neg (by decide), if_pos rfl]
          exact ⟨rfl, Or.inr (Or.inr ⟨rfl, Or.inl ⟨rfl, hS, rfl⟩⟩)⟩
        | false =>
          rw [if_pos (by decide), if_neg (by decide)]
      · have eE : lxE t n i = i + 2 := by simp only [lxE, cL, cD, c, Bool.false_eq_true, if_false]
        have eB : lxB t n i = false := by simp only [lxB, cL, cD, c, Bool.false_eq_true, if_false, decide_false, Bool.false_and]
        refine ⟨s, m, prk (t i) (chs t n (i + 1)), 0, H, NSt.refl s m, Or.inl rfl, ?_⟩
        rw [eE, eB, if_neg c, if_neg (by decide)]
        have hb2 := c95b (t i) (chs t n (i + 1)) s
        rw [prk_eq] at hb2
        exact ⟨rfl, Or.inr (Or.inr ⟨rfl, Or.inr ⟨rfl, by omega, by omega, rfl⟩⟩)⟩
/-- the reference's new lexeme -/
def MA (s : Sg) (z : Nat) (i j : Int) : Sg := ax_u2 (ax_u2 (ax_u2 (ax_u2 (ax_u2 (ax_u2 s 89 z i) 90 z j) 91 z 0) 92 z (if ¬ s 88 z = 10 then 0 else 1)) 93 z 0) 84 11 ((z : Int) + 1)
theorem m135 {s : Sg} {n z j : Nat} {t : Nat → Int} {k11 : Int → Sg → Option Sg} (h : MT s n t) (hz : s 84 11 = (z : Int)) (hz8 : z < 8200) (i : Int) (hj : j ≤ n) :
    j_208_135 k11 i (j : Int) s = k11 ((wsk t (n - j) false j : Nat) : Int) (MA s z i (j : Int)) := by
  have hg : 0 ≤ s 84 11 ∧ s 84 11 < 8200 := by omega
  have hn : (s 84 11).toNat = z := by omega
  have w : ax_w32 (s 84 11 + 1) = (z : Int) + 1 := by rw [hz, w32_id (by omega) (by omega)]
  have h01 : ((if ¬ (s 88 ((s 84 11).toNat)) = 10 then 0 else 1) : Int) = 0 ∨ ((if ¬ (s 88 ((s 84 11).toNat)) = 10 then 0 else 1) : Int) = 1 := by split <;> simp
  unfold j_208_135
  rw [gd_pos hg, gd_pos hg, gd_pos hg, gd_pos hg, gd_pos ⟨hg, h01⟩, gd_pos hg, hn, w]
  have hS : MT (MA s z i (j : Int)) n t := h.congr (by simp [MA, ax_u2]) (by funext x; simp [MA, ax_u2])
  have := m223 hS.1 hS.2.1 j hj
  have e86 : (MA s z i (j : Int)) 86 = s 86 := by funext x; simp [MA, ax_u2]
  rw [e86, wsk_congr (t := s 86) (t' := t) _ _ _ (fun e h1 h2 => (h.2.2 e (by omega)).1)] at this
  show (f_223 (j : Int) (MA s z i (j : Int))).bind _ = _
  rw [this]
  rfl
theorem m11 {s : Sg} {n z i : Nat} {t : Nat → Int} (h : MT s n t) (hz : s 84 11 = (z : Int)) (hz8 : z < 8200) (hf : s 84 6 = 0) (hi : i < n) (F : Nat) :
    ∃ s1 : Sg, j_208_11 (F + 1) (i : Int) s = j_208_11 F ((wsk t (n - lxE t n i) false (lxE t n i) : Nat) : Int) (MA s1 z (i : Int) ((lxE t n i : Nat) : Int)) ∧
      (if lxB t n i then ∃ k : Int, s1 = ax_u2 (ax_u2 s 84 6 1) 84 7 (i : Int) ∨ s1 = ax_u2 (ax_u2 (ax_u2 s 84 6 1) 84 7 (i : Int)) 88 z k else s1 = ax_u2 s 88 z (if isL (t i) then km (wkc (pk t (lxE t n i - i) i)) else if isD (t i) then 2 else if prk (t i) (chs t n (i + 1)) = -1 then km (t i) else km (prk (t i) (chs t n (i + 1))))) := by
  have h8 := h.2.1
  have hb := lxE_b (t := t) hi
  obtain ⟨e, g⟩ := h.at i
  have ce : chs t n i = t i := if_pos hi
  rw [ce] at e
  have tell : f_227 1 (i : Int) s = ax_u2 (ax_u2 s 84 6 1) 84 7 (i : Int) := by unfold f_227; rw [if_pos (by omega)]
  have hT : MT (ax_u2 (ax_u2 s 84 6 1) 84 7 (i : Int)) n t := h.congr (by simp [ax_u2]) (by funext x; simp [ax_u2])
  have zT : (ax_u2 (ax_u2 s 84 6 1) 84 7 (i : Int)) 84 11 = (z : Int) := by simpa [ax_u2] using hz
  have hg : 0 ≤ s 84 11 ∧ s 84 11 < 8200 := by omega
  have hn : (s 84 11).toNat = z := by omega
  rw [j_208_11, if_neg (by simp [hf]), if_neg (by have := h.1; omega), gd_pos g, e, m225]
  cases cL : isL (t i) with
  | true =>
    have eE : lxE t n i = rn isLD t (n - i) i := by simp only [lxE, cL, if_true]
    have eB : lxB t n i = decide (16 < rn isLD t (n - i) i - i) := by simp only [lxB, cL, if_true]
    have all := rn_all isLD t (n - i) i
    rw [if_neg (by decide)]
    obtain ⟨G, hG⟩ := FU_split (k := n - i + 1) (by omega)
    rw [hG, show G + (n - i + 1) = G + (n - i) + 1 by omega, m39l h i (n - i) i G (by omega), ← eE]
    rw [← eE] at eB
    rw [← eE] at all
    unfold j_208_67
    rw [w32_id (by omega) (by omega), eB]
    by_cases c : lxE t n i - i ≤ 16
    · rw [if_pos (by omega)]
      unfold j_208_81
      rw [m228 h (by omega) hb.2 all]
      refine ⟨ax_u2 s 88 z (km (wkc (pk t (lxE t n i - i) i))), ?_, ?_⟩
      · show gd _ _ = _
        rw [gd_pos hg, hn]
        exact m135 (h.congr (by simp [ax_u2]) (by funext x; simp [ax_u2])) (by simpa [ax_u2] using hz) hz8 _ hb.2
      · rw [if_neg (by simp; omega), if_pos rfl]
    · rw [if_neg (by omega)]
      show ∃ s1, j_208_81 _ _ _ (f_227 1 (i : Int) s) = _ ∧ _
      rw [tell]
      unfold j_208_81
      rw [m228 hT (by omega) hb.2 all]
      refine ⟨ax_u2 (ax_u2 (ax_u2 s 84 6 1) 84 7 (i : Int)) 88 z (km (wkc (pk t (lxE t n i - i) i))), ?_, ?_⟩
      · show gd _ _ = _
        rw [gd_pos (by omega), show ((ax_u2 (ax_u2 s 84 6 1) 84 7 (i : Int)) 84 11).toNat = z by omega]
        exact m135 (hT.congr (by simp [ax_u2]) (by funext x; simp [ax_u2])) (by simpa [ax_u2] using hz) hz8 _ hb.2
      · rw [if_pos (by simp; omega)]
        exact ⟨_, Or.inr rfl⟩
  | false =>
    rw [if_pos (show b01 false = 0 from rfl), gd_pos g, m226]
    cases cD : isD (t i) with
    | true =>
      have eE : lxE t n i = nmE t n i := by simp only [lxE, cL, cD, Bool.false_eq_true, if_false, if_true]
      have eB : lxB t n i = !nmOk t n i := by simp only [lxB, cL, cD, Bool.false_eq_true, if_false, if_true]
      rw [if_neg (by decide), m229 h i hi, ← eE, eB]
      cases ok : nmOk t n i with
      | true =>
        refine ⟨ax_u2 s 88 z 2, ?_, ?_⟩
        · show gd (0 ≤ s 84 11 ∧ s 84 11 < 8200) (j_208_135 _ _ _ (ax_u2 s 88 (s 84 11).toNat 2)) = _
          rw [gd_pos hg, hn]
          exact m135 (h.congr (by simp [ax_u2]) (by funext x; simp [ax_u2])) (by simpa [ax_u2] using hz) hz8 _ hb.2
        · rw [if_neg (by decide), if_neg (by decide), if_pos rfl]
      | false =>
        refine ⟨ax_u2 (ax_u2 (ax_u2 s 84 6 1) 84 7 (i : Int)) 88 z 2, ?_, ?_⟩
        · show gd (0 ≤ (f_227 1 (i : Int) s) 84 11 ∧ (f_227 1 (i : Int) s) 84 11 < 8200) (j_208_135 _ _ _ (ax_u2 (f_227 1 (i : Int) s) 88 ((f_227 1 (i : Int) s) 84 11).toNat 2)) = _
          rw [tell, gd_pos (by omega), show ((ax_u2 (ax_u2 s 84 6 1) 84 7 (i : Int)) 84 11).toNat = z by omega]
          exact m135 (hT.congr (by simp [ax_u2]) (by funext x; simp [ax_u2])) (by simpa [ax_u2] using hz) hz8 _ hb.2
        · rw [if_pos (by decide)]
          exact ⟨_, Or.inr rfl⟩
    | false =>
      rw [if_pos (show b01 false = 0 from rfl), m230 h hz hz8 i hi, prk_eq]
      by_cases c : prk (t i) (chs t n (i + 1)) = -1
      · have eE : lxE t n i = i + 1 := by simp only [lxE, cL, cD, c, Bool.false_eq_true, if_false, if_true]
        have eB : lxB t n i = !isS (t i) := by simp only [lxB, cL, cD, c, Bool.false_eq_true, if_false, decide_true, Bool.true_and]
        rw [if_pos c, eB]
        rw [eE] at hb ⊢
        cases hS : isS (t i) with
        | true =>
          refine ⟨ax_u2 s 88 z (km (t i)), ?_, ?_⟩
          · exact m135 (h.congr (by simp [ax_u2]) (by funext x; simp [ax_u2])) (by simpa [ax_u2] using hz) hz8 _ hb.2
          · rw [if_neg (by decide), if_neg (by decide), if_neg (by decide), if_pos c]
        | false =>
          refine ⟨ax_u2 (ax_u2 s 84 6 1) 84 7 (i : Int), ?_, ?_⟩
          · show j_208_135 _ _ _ (f_227 1 (i : Int) s) = _
            rw [tell]
            exact m135 hT zT hz8 _ hb.2
          · rw [if_pos (by decide)]
            exact ⟨0, Or.inl rfl⟩
      · have eE : lxE t n i = i + 2 := by simp only [lxE, cL, cD, c, Bool.false_eq_true, if_false]
        have eB : lxB t n i = false := by simp only [lxB, cL, cD, c, Bool.false_eq_true, if_false, decide_false, Bool.false_and]
        rw [if_neg c, eB]
        rw [eE] at hb ⊢
        refine ⟨ax_u2 s 88 z (km (prk (t i) (chs t n (i + 1)))), ?_, ?_⟩
        · exact m135 (h.congr (by simp [ax_u2]) (by funext x; simp [ax_u2])) (by simpa [ax_u2] using hz) hz8 _ hb.2
        · rw [if_neg (by decide), if_neg (by decide), if_neg (by decide), if_neg c]
/-! CUTTING THE WHOLE TEXT, on both sides. -/
theorem wk_id {s : Sg} {t : Nat → Int} {m i j id : Nat} (hN : NI s m) (hW : WD s) (h12 : 12 ≤ m) (hid : id < m) (hp : ∀ e, e < j - i → 0 < t (i + e) ∧ t (i + e) < 256) (h16 : j - i ≤ 16) (e1 : s 34 id = (spl t (j - i) i).1) (e2 : s 35 id = (spl t (j - i) i).2) :
    wkc (pk t (j - i) i) = if 12 ≤ id then 1 else 16 + (id : Int) := by
  have key : ∀ k, k < 12 → (pk t (j - i) i = (wdk.getD k 0).toNat ↔ id = k) := by
    intro k hk
    have hv : (wdk.getD k 0).toNat < 9223372036854775808 ∧ 0 ≤ wdk.getD k 0 := by
      have : ∀ k, k < 12 → (wdk.getD k 0).toNat < 9223372036854775808 ∧ 0 ≤ wdk.getD k 0 := by decide
      exact this k hk
    have sh := spl_short hp h16 (wdk.getD k 0).toNat hv.1
    rw [Int.toNat_of_nonneg hv.2] at sh
    rw [← sh]
    obtain ⟨w1, w2⟩ := hW k hk
    constructor
    · intro q
      rw [q] at e1 e2
      exact hN.2.2.2.2.2.2 id k hid (by omega) (by rw [e1, w1]) (by rw [e2, w2])
    · intro q
      subst q
      rw [e1] at w1
      rw [e2] at w2
      exact Prod.ext w1 w2
  by_cases c : 12 ≤ id
  · rw [if_pos c]
    have no : ∀ k, k < 12 → pk t (j - i) i ≠ (wdk.getD k 0).toNat := fun k hk q => by
      have := (key k hk).mp q
      omega
    generalize pk t (j - i) i = v at *
    unfold wkc
    rw [if_neg (show ¬ v = 2003792484 from no 0 (by decide)), if_neg (show ¬ v = 7497063 from no 1 (by decide)), if_neg (show ¬ v = 7169389 from no 2 (by decide)), if_neg (show ¬ v = 6579558 from no 3 (by decide)), if_neg (show ¬ v = 6909555 from no 4 (by decide)), if_neg (show ¬ v = 26982 from no 5 (by decide)), if_neg (show ¬ v = 1701606245 from no 6 (by decide)), if_neg (show ¬ v = 7497072 from no 7 (by decide)), if_neg (show ¬ v = 491260572517 from no 8 (by decide)), if_neg (show ¬ v = 29560 from no 9 (by decide)), if_neg (show ¬ v = 31352 from no 10 (by decide)), if_neg (show ¬ v = 6513012 from no 11 (by decide))]
  · rw [if_neg c, (key id (by omega)).mpr rfl]
    have : ∀ k, k < 12 → wkc (wdk.getD k 0).toNat = 16 + (k : Int) := by decide
    exact this id (by omega)
/-- lexeme k is alike on both sides -/
def LR (sc sm : Sg) (n : Nat) (t : Nat → Int) (m k : Nat) : Prop := ∃ i j : Nat, sc 42 k = (i : Int) ∧ sc 43 k = (j : Int) - i ∧ sm 89 k = (i : Int) ∧ sm 90 k = (j : Int) ∧ i < j ∧ j ≤ n ∧ j = lxE t n i ∧ sc 45 k = 0 ∧ sm 91 k = 0 ∧ sm 92 k = (if ¬ sm 88 k = 10 then 0 else 1) ∧ sm 93 k = 0 ∧ sm 88 k = km (sc 41 k) ∧
  (LXn sc t m i j (sc 41 k) (sc 44 k) ∨ LXv t n i j (sc 41 k) (sc 44 k) ∨ LXs t n i j (sc 41 k) (sc 44 k))
/-- what cutting leaves alone -/
def CF (s s' : Sg) (m m' : Nat) : Prop := m ≤ m' ∧ (∀ k, k < m → s' 34 k = s 34 k ∧ s' 35 k = s 35 k ∧ s' 36 k = s 36 k ∧ s' 37 k = s 37 k) ∧ (∀ k, m ≤ k → k < m' → s' 36 k = -1 ∧ s' 37 k = 0) ∧ s' 31 8 = s 31 8 ∧ (∀ a, a < 31 ∨ 37 < a → a ≠ 39 → a < 41 ∨ 45 < a → s' a = s a) ∧ ∀ j, j ≠ 9 → s' 39 j = s 39 j
def MF (s s' : Sg) : Prop := (∀ a, a < 84 ∨ 84 < a ∧ a < 88 ∨ 93 < a → s' a = s a) ∧ ∀ j, j ≠ 6 → j ≠ 7 → j ≠ 11 → s' 84 j = s 84 j
theorem CF.trans {a b c : Sg} {m1 m2 m3 : Nat} (h : CF a b m1 m2) (k : CF b c m2 m3) : CF a c m1 m3 := by
  obtain ⟨h1, h2, h3, h4, h5, h6⟩ := h
  obtain ⟨k1, k2, k3, k4, k5, k6⟩ := k
  refine ⟨by omega, ?_, ?_, k4.trans h4, fun a x y z => (k5 a x y z).trans (h5 a x y z), fun j hj => (k6 j hj).trans (h6 j hj)⟩
  · intro k hk
    obtain ⟨p1, p2, p3, p4⟩ := h2 k hk
    obtain ⟨q1, q2, q3, q4⟩ := k2 k (by omega)
    exact ⟨q1.trans p1, q2.trans p2, q3.trans p3, q4.trans p4⟩
  · intro k x y
    by_cases c : k < m2
    · obtain ⟨q1, q2, q3, q4⟩ := k2 k c
      rw [q3, q4]
      exact h3 k x c
    · exact k3 k (by omega) y
theorem MF.trans {a b c : Sg} (h : MF a b) (k : MF b c) : MF a c := ⟨fun x y => (k.1 x y).trans (h.1 x y), fun j x y z => (k.2 j x y z).trans (h.2 j x y z)⟩
theorem CF.refl (s : Sg) (m : Nat) : CF s s m m := ⟨Nat.le_refl _, fun _ _ => ⟨rfl, rfl, rfl, rfl⟩, fun k h1 h2 => absurd h2 (by omega), rfl, fun _ _ _ _ => rfl, fun _ _ => rfl⟩
theorem MF.refl (s : Sg) : MF s s := ⟨fun _ _ => rfl, fun _ _ _ _ => rfl⟩
theorem CF.ofN {s s' : Sg} {m m' : Nat} (h : NSt s s' m m') : CF s s' m m' := ⟨h.1, h.2.1, h.2.2.1, h.2.2.2.1, fun a x _ _ => h.2.2.2.2 a x, fun j _ => by rw [h.2.2.2.2 39 (by omega)]⟩
theorem CF.add {s : Sg} {m z : Nat} {k i j v : Int} : CF s (AD s z k i j v) m m := by
  refine ⟨Nat.le_refl _, fun _ _ => by simp [AD, ax_u2], fun k h1 h2 => absurd h2 (by omega), by simp [AD, ax_u2], ?_, ?_⟩
  · intro a x y w
    funext b
    simp only [AD, ax_u2]
    rw [if_neg (by omega), if_neg (by omega), if_neg (by omega), if_neg (by omega), if_neg (by omega), if_neg (by omega)]
  · intro j hj
    simp [AD, ax_u2, hj]
theorem MF.add {s : Sg} {z : Nat} {i j : Int} : MF s (MA s z i j) := by
  refine ⟨?_, ?_⟩
  · intro a x
    funext b
    simp only [MA, ax_u2]
    rw [if_neg (by omega), if_neg (by omega), if_neg (by omega), if_neg (by omega), if_neg (by omega), if_neg (by omega)]
  · intro j x y w
    simp [MA, ax_u2, w]
theorem CLS.add {s : Sg} {n z m : Nat} {t : Nat → Int} {k i j v : Int} (H : CLS s n t z m) : CLS (AD s z k i j v) n t (z + 1) m := by
  obtain ⟨a1, a2, a3, a4, a5, a6, a7, a8⟩ := H
  refine ⟨a1.congr (by simp [AD, ax_u2]) (by funext x; simp [AD, ax_u2]), ?_, a3.congr (by simp [AD, ax_u2]) (by funext x; simp [AD, ax_u2]) (by funext x; simp [AD, ax_u2]) (by funext x; simp [AD, ax_u2]) (by funext x; simp [AD, ax_u2]), a4, ?_, by simpa [AD, ax_u2] using a6, by simpa [AD, ax_u2] using a7, by simp [AD, ax_u2]⟩
  · simpa [KO, AD, ax_u2] using a2
  · intro k hk
    simpa [AD, ax_u2] using a5 k hk
/-- lexemes that were there stay alike -/
theorem LR.keep {sc sc' sm sm' : Sg} {n m m' k : Nat} {t : Nat → Int} (h : LR sc sm n t m k) (hm : m ≤ m') (hn : ∀ e, e < m → sc' 34 e = sc 34 e ∧ sc' 35 e = sc 35 e)
    (h1 : sc' 41 k = sc 41 k) (h2 : sc' 42 k = sc 42 k) (h3 : sc' 43 k = sc 43 k) (h4 : sc' 44 k = sc 44 k) (h5 : sc' 45 k = sc 45 k)
    (g1 : sm' 88 k = sm 88 k) (g2 : sm' 89 k = sm 89 k) (g3 : sm' 90 k = sm 90 k) (g4 : sm' 91 k = sm 91 k) (g5 : sm' 92 k = sm 92 k) (g6 : sm' 93 k = sm 93 k) : LR sc' sm' n t m' k := by
  obtain ⟨i, j, a⟩ := h
  refine ⟨i, j, ?_⟩
  rw [h1, h2, h3, h4, h5, g1, g2, g3, g4, g5, g6]
  obtain ⟨a1, a2, a3, a4, a5, a6, aE, a7, a8, a9, a10, a11, a12⟩ := a
  refine ⟨a1, a2, a3, a4, a5, a6, aE, a7, a8, a9, a10, a11, ?_⟩
  rcases a12 with ⟨b1, b2, b3, id, c1, c2, c3, c4, c5⟩ | b | b
  · obtain ⟨d1, d2⟩ := hn id c1
    exact Or.inl ⟨b1, b2, b3, id, by omega, c2, d1.trans c3, d2.trans c4, c5⟩
  · exact Or.inr (Or.inl b)
  · exact Or.inr (Or.inr b)
/-- lexemes stand in their order, none behind i -/
def ORD (s : Sg) (z i : Nat) : Prop := (∀ k, k + 1 < z → s 42 k + s 43 k ≤ s 42 (k + 1)) ∧ (0 < z → s 42 (z - 1) + s 43 (z - 1) ≤ (i : Int))
/-- the bound of the names -/
def NB (t : Nat → Int) (n i m : Nat) : Prop := 2 * (m - 12) ≤ i ∨ (2 * (m - 12) ≤ i + 1 ∧ (i = n ∨ isL (t i) = false))
theorem cutl {n : Nat} {t : Nat → Int} : ∀ (r i z m Fc Fm : Nat) (sc sm : Sg), i + r = n → CLS sc n t z m → MT sm n t → sm 84 11 = (z : Int) → sm 84 6 = 0 → z ≤ i → (∀ k, k < z → LR sc sm n t m k) → ORD sc z i → NB t n i m →
    (∃ (sc' sm' : Sg) (z' m' : Nat), j_73_28_48 (Fc + r + 1) (i : Int) (z : Int) sc = j_73_28_101 sc' ∧ j_208_11 (Fm + r + 1) (i : Int) sm = j_208_222 sm' ∧ CLS sc' n t z' m' ∧ MT sm' n t ∧ sm' 84 11 = (z' : Int) ∧ sm' 84 6 = 0 ∧ z' ≤ n ∧ m' ≤ 4111 ∧ (∀ k, k < z' → LR sc' sm' n t m' k) ∧ ORD sc' z' n ∧ CF sc sc' m m' ∧ MF sm sm') ∨
    (∃ (sc' sm' : Sg) (z' m' i' : Nat), j_73_28_48 (Fc + r + 1) (i : Int) (z : Int) sc = j_73_28_77 (i' : Int) sc' ∧ j_208_11 (Fm + r + 1) (i : Int) sm = j_208_222 sm' ∧ CLS sc' n t z' m' ∧ sm' 84 11 = ((z' + 1 : Nat) : Int) ∧ sm' 84 3 = (n : Int) ∧ sm' 84 6 = 1 ∧ z' ≤ n ∧ m' ≤ 4111 ∧ CF sc sc' m m' ∧ MF sm sm') := by
  intro r
  induction r using Nat.strongRecOn with
  | ind r ih =>
    intro i z m Fc Fm sc sm hi H hM hz hf hzi hL hO hB
    have h8 := H.1.2.1
    cases r with
    | zero =>
      refine Or.inl ⟨sc, sm, z, m, ?_, ?_, H, hM, hz, hf, by omega, ?_, hL, by rw [show n = i by omega]; exact hO, CF.refl _ _, MF.refl _⟩
      · rw [j_73_28_48, if_pos (by have := H.1.1; omega)]
      · rw [j_208_11, if_neg (by simp [hf]), if_pos (by have := hM.1; omega)]
      · unfold NB at hB
        omega
    | succ r =>
      have hlt : i < n := by omega
      have hb := lxE_b (t := t) hlt
      have hm12 := H.2.2.2.1
      have hmB : isL (t i) = true → m ≤ 4108 := fun c => by
        rcases hB with x | ⟨x, y | y⟩
        · omega
        · omega
        · rw [c] at y; cases y
      obtain ⟨s1, m1, k, v, H1, hS, hm1, hq⟩ := c77 H hlt (by omega) (fun c => by have := hmB c; omega)
      obtain ⟨s2, e2, hq2⟩ := m11 hM hz (by omega) hf hlt (Fm + r + 1)
      have hm11 : m1 ≤ 4111 := by
        rcases hm1 with rfl | ⟨rfl, c⟩
        · unfold NB at hB; omega
        · have := hmB c; omega
      rw [show Fm + (r + 1) + 1 = Fm + r + 1 + 1 by omega, e2]
      rw [show Fc + (r + 1) + 1 = Fc + r + 1 + 1 by omega, j_73_28_48, if_neg (by have := H.1.1; omega), if_neg (by omega)]
      cases cB : lxB t n i with
      | true =>
        rw [cB, if_pos rfl] at hq hq2
        refine Or.inr ⟨s1, MA s2 z (i : Int) ((lxE t n i : Nat) : Int), z, m1, i, ?_, ?_, H1, by simp [MA, ax_u2], ?_, ?_, by omega, hm11, CF.ofN hS, ?_⟩
        · rw [hq]
          simp only [Option.bind_some]
          rw [if_neg (by omega)]
        · rw [j_208_11, if_pos ?_]
          obtain ⟨k, rfl | rfl⟩ := hq2 <;> simp [MA, ax_u2]
        · have := hM.1
          obtain ⟨k, rfl | rfl⟩ := hq2 <;> simpa [MA, ax_u2] using this
        · obtain ⟨k, rfl | rfl⟩ := hq2 <;> simp [MA, ax_u2]
        · refine MF.trans (b := s2) ?_ MF.add
          obtain ⟨k, rfl | rfl⟩ := hq2
          · refine ⟨fun a x => ?_, fun j x y w => by simp [ax_u2, x, y]⟩
            funext b
            simp only [ax_u2]
            rw [if_neg (by omega), if_neg (by omega)]
          · refine ⟨fun a x => ?_, fun j x y w => by simp [ax_u2, x, y]⟩
            funext b
            simp only [ax_u2]
            rw [if_neg (by omega), if_neg (by omega), if_neg (by omega)]
      | false =>
        rw [cB, if_neg (by decide)] at hq hq2
        obtain ⟨hq, hd⟩ := hq
        rw [hq]
        have hw := wsk_ge t (n - lxE t n i) false (lxE t n i)
        have H2 : CLS (AD s1 z k (i : Int) ((lxE t n i : Nat) : Int) v) n t (z + 1) m1 := H1.add
        have cl : j_73_28_48 (Fc + r + 1 + 1) (i : Int) (z : Int) sc = j_73_28_48 (Fc + r + 1) ((wsk t (n - lxE t n i) false (lxE t n i) : Nat) : Int) ((z + 1 : Nat) : Int) (AD s1 z k (i : Int) ((lxE t n i : Nat) : Int) v) := by
          rw [j_73_28_48, if_neg (by have := H.1.1; omega), if_neg (by omega), hq]
          show (if (i : Int) < ((lxE t n i : Nat) : Int) then _ else _) = _
          rw [if_pos (by omega)]
          have e76 := c76 H2.1.1 h8 (lxE t n i) hb.2
          rw [wsk_congr (t' := t) _ _ _ (fun e x y => (H2.1.2.2 e (by omega)).1)] at e76
          rw [e76]
          show j_73_28_48 _ _ (ax_w32 ((z : Int) + 1)) _ = _
          rw [w32_nat (by omega)]
        have cl2 : ((some (((lxE t n i : Nat) : Int), AD s1 z k (i : Int) ((lxE t n i : Nat) : Int) v) : Option (Int × Sg)).bind fun q3 => if (i : Int) < q3.1 then (f_76 q3.1 q3.2).bind fun q4 => j_73_28_48 (Fc + r + 1) q4 (ax_w32 ((z : Int) + 1)) q3.2 else j_73_28_77 (i : Int) q3.2) = j_73_28_48 (Fc + r + 1) ((wsk t (n - lxE t n i) false (lxE t n i) : Nat) : Int) ((z + 1 : Nat) : Int) (AD s1 z k (i : Int) ((lxE t n i : Nat) : Int) v) := by
          rw [← cl, j_73_28_48, if_neg (by have := H.1.1; omega), if_neg (by omega), hq]
        rw [cl2]
        have hM2 : MT (MA s2 z (i : Int) ((lxE t n i : Nat) : Int)) n t := by
          rw [hq2]
          exact hM.congr (by simp [MA, ax_u2]) (by funext x; simp [MA, ax_u2])
        have hf2 : (MA s2 z (i : Int) ((lxE t n i : Nat) : Int)) 84 6 = 0 := by
          rw [hq2]
          simpa [MA, ax_u2] using hf
        have hF : MF sm (MA s2 z (i : Int) ((lxE t n i : Nat) : Int)) := by
          refine MF.trans (b := s2) ?_ MF.add
          rw [hq2]
          refine ⟨fun a x => ?_, fun j x y w => by simp [ax_u2]⟩
          funext b
          simp only [ax_u2]
          rw [if_neg (by omega)]
        have hC : CF sc (AD s1 z k (i : Int) ((lxE t n i : Nat) : Int) v) m m1 := (CF.ofN hS).trans CF.add
        have hkind : s2 88 z = km k := by
          rw [hq2, u2_same]
          rcases hd with ⟨b1, b2, b3, id, c1, c2, c3, c4, c5⟩ | ⟨b1, b2, b3, b4, b5⟩ | ⟨b1, b2⟩
          · rw [b1, if_pos rfl, c5]
            congr 1
            refine wk_id H1.2.2.1 H1.2.2.2.2.1 H1.2.2.2.1 c1 (fun e he => ?_) b3 c3 c4
            have x1 := b2 (i + e) (by omega) (by omega)
            have x2 := (hM.2.2 (i + e) (by omega)).2
            unfold isLD isL isD at x1
            simp only [Bool.or_eq_true, decide_eq_true_eq] at x1
            omega
          · have cL : isL (t i) = false := by
              have := of_decide_eq_true b1
              unfold isL
              simp only [decide_eq_false_iff_not]
              omega
            rw [cL, if_neg (by decide), b1, if_pos rfl, b4]
            rfl
          · have cB2 := cB
            unfold lxB at cB2
            rcases b2 with ⟨d1, d2, d3⟩ | ⟨d1, d2, d3, d4⟩
            · rw [d1] at d2
              have d5 := of_decide_eq_true d2
              have cL : isL (t i) = false := by
                unfold isL
                simp only [decide_eq_false_iff_not]
                omega
              have cD : isD (t i) = false := by
                unfold isD
                simp only [decide_eq_false_iff_not]
                omega
              have e5 : lxE t n i = i + 1 := d3
              have c5 : prk (t i) (chs t n (i + 1)) = -1 := by
                unfold lxE at e5
                rw [cL, if_neg (by decide), cD, if_neg (by decide)] at e5
                apply Decidable.byContradiction
                intro hn
                rw [if_neg hn] at e5
                omega
              rw [cL, if_neg (by decide), cD, if_neg (by decide), if_pos c5, d1]
            · have hp := c95b (t i) (chs t n (i + 1)) sc
              rw [prk_eq] at hp
              have cL : isL (t i) = false := by
                unfold isL
                simp only [decide_eq_false_iff_not]
                omega
              have cD : isD (t i) = false := by
                unfold isD
                simp only [decide_eq_false_iff_not]
                omega
              rw [cL, if_neg (by decide), cD, if_neg (by decide), if_neg (by omega), d1]
        have hLn : ∀ k', k' < z + 1 → LR (AD s1 z k (i : Int) ((lxE t n i : Nat) : Int) v) (MA s2 z (i : Int) ((lxE t n i : Nat) : Int)) n t m1 k' := by
          intro k' hk'
          by_cases x : k' = z
          · subst x
            refine ⟨i, lxE t n i, by simp [AD, ax_u2], by simp [AD, ax_u2], by simp [MA, ax_u2], by simp [MA, ax_u2], hb.1, hb.2, rfl, by simp [AD, ax_u2], by simp [MA, ax_u2], by simp [MA, ax_u2], by simp [MA, ax_u2], ?_, ?_⟩
            · have : (MA s2 k' (i : Int) ((lxE t n i : Nat) : Int)) 88 k' = s2 88 k' := by simp [MA, ax_u2]
              rw [this, hkind]
              simp [AD, ax_u2]
            · have a41 : (AD s1 k' k (i : Int) ((lxE t n i : Nat) : Int) v) 41 k' = k := by simp [AD, ax_u2]
              have a44 : (AD s1 k' k (i : Int) ((lxE t n i : Nat) : Int) v) 44 k' = v := by simp [AD, ax_u2]
              rw [a41, a44]
              rcases hd with ⟨b1, b2, b3, id, c1, c2, c3, c4, c5⟩ | b | b
              · exact Or.inl ⟨b1, b2, b3, id, c1, c2, by simpa [AD, ax_u2] using c3, by simpa [AD, ax_u2] using c4, c5⟩
              · exact Or.inr (Or.inl b)
              · exact Or.inr (Or.inr b)
          · have hk2 : k' < z := by omega
            have row : ∀ a, a = 41 ∨ a = 42 ∨ a = 43 ∨ a = 44 ∨ a = 45 → (AD s1 z k (i : Int) ((lxE t n i : Nat) : Int) v) a k' = sc a k' := by
              intro a ha
              rw [← hS.2.2.2.2 a (by omega)]
              rcases ha with rfl | rfl | rfl | rfl | rfl <;> simp [AD, ax_u2, x]
            have rowm : ∀ a, 88 ≤ a → a ≤ 93 → (MA s2 z (i : Int) ((lxE t n i : Nat) : Int)) a k' = sm a k' := by
              intro a h1 h2
              rw [hq2]
              have h3 : a = 88 ∨ a = 89 ∨ a = 90 ∨ a = 91 ∨ a = 92 ∨ a = 93 := by omega
              rcases h3 with rfl | rfl | rfl | rfl | rfl | rfl <;> simp [MA, ax_u2, x]
            refine (hL k' hk2).keep hC.1 (fun e he => ⟨(hC.2.1 e he).1, (hC.2.1 e he).2.1⟩) (row 41 (by omega)) (row 42 (by omega)) (row 43 (by omega)) (row 44 (by omega)) (row 45 (by omega)) (rowm 88 (by omega) (by omega)) (rowm 89 (by omega) (by omega)) (rowm 90 (by omega) (by omega)) (rowm 91 (by omega) (by omega)) (rowm 92 (by omega) (by omega)) (rowm 93 (by omega) (by omega))
        have hO2 : ORD (AD s1 z k (i : Int) ((lxE t n i : Nat) : Int) v) (z + 1) (wsk t (n - lxE t n i) false (lxE t n i)) := by
          have r42 : ∀ k', k' < z → (AD s1 z k (i : Int) ((lxE t n i : Nat) : Int) v) 42 k' = sc 42 k' := fun k' hk' => by
            rw [← hS.2.2.2.2 42 (by omega)]
            simp [AD, ax_u2, show k' ≠ z by omega]
          have r43 : ∀ k', k' < z → (AD s1 z k (i : Int) ((lxE t n i : Nat) : Int) v) 43 k' = sc 43 k' := fun k' hk' => by
            rw [← hS.2.2.2.2 43 (by omega)]
            simp [AD, ax_u2, show k' ≠ z by omega]
          have z42 : (AD s1 z k (i : Int) ((lxE t n i : Nat) : Int) v) 42 z = (i : Int) := by simp [AD, ax_u2]
          have z43 : (AD s1 z k (i : Int) ((lxE t n i : Nat) : Int) v) 43 z = ((lxE t n i : Nat) : Int) - i := by simp [AD, ax_u2]
          refine ⟨fun k' hk' => ?_, fun _ => ?_⟩
          · rw [r42 k' (by omega), r43 k' (by omega)]
            by_cases x : k' + 1 < z
            · rw [r42 (k' + 1) x]
              exact hO.1 k' x
            · have : k' + 1 = z := by omega
              rw [this, z42]
              have := hO.2 (by omega)
              rw [show z - 1 = k' by omega] at this
              exact this
          · rw [show z + 1 - 1 = z by omega, z42, z43]
            omega
        have hB2 : NB t n (wsk t (n - lxE t n i) false (lxE t n i)) m1 := by
          unfold NB at hB ⊢
          rcases hm1 with rfl | ⟨rfl, c⟩
          · omega
          · have hB' : 2 * (m - 12) ≤ i := by
              rcases hB with x | ⟨x, y | y⟩
              · exact x
              · omega
              · rw [c] at y; cases y
            by_cases x : wsk t (n - lxE t n i) false (lxE t n i) = lxE t n i
            · rw [x]
              right
              refine ⟨by omega, ?_⟩
              by_cases y : lxE t n i = n
              · exact Or.inl y
              · right
                have eE : lxE t n i = rn isLD t (n - i) i := by simp only [lxE, c, if_true]
                have := rn_stop isLD t (n - i) i (by rw [← eE]; omega)
                rw [← eE] at this
                simp only [isLD, Bool.or_eq_false_iff] at this
                exact this.1
            · left
              omega
        have nx := ih (n - wsk t (n - lxE t n i) false (lxE t n i)) (by omega) (wsk t (n - lxE t n i) false (lxE t n i)) (z + 1) m1 (Fc + r - (n - wsk t (n - lxE t n i) false (lxE t n i))) (Fm + r - (n - wsk t (n - lxE t n i) false (lxE t n i))) _ _ (by omega) H2 hM2 (by simp [MA, ax_u2]) hf2 (by omega) hLn hO2 hB2
        rw [show Fc + r - (n - wsk t (n - lxE t n i) false (lxE t n i)) + (n - wsk t (n - lxE t n i) false (lxE t n i)) + 1 = Fc + r + 1 by omega, show Fm + r - (n - wsk t (n - lxE t n i) false (lxE t n i)) + (n - wsk t (n - lxE t n i) false (lxE t n i)) + 1 = Fm + r + 1 by omega] at nx
        rcases nx with ⟨a, b, c, d, q1, q2, q3, q4, q5, q6, q7, q8, q9, qO, q10, q11⟩ | ⟨a, b, c, d, e, q1, q2, q3, q4, q5, q6, q7, q8, q9, q10⟩
        · exact Or.inl ⟨a, b, c, d, q1, q2, q3, q4, q5, q6, q7, q8, q9, qO, hC.trans q10, hF.trans q11⟩
        · exact Or.inr ⟨a, b, c, d, e, q1, q2, q3, q4, q5, q6, q7, q8, hC.trans q9, hF.trans q10⟩
/-! PARSING: the tokens of both sides, the cursor, taking and eating. -/
def kvl : List Int := [0, 1, 2, 16, 17, 18, 19, 20, 21, 22, 23, 24, 25, 26, 27, 38, 40, 41, 42, 43, 44, 45, 46, 58, 59, 60, 61, 63, 91, 93, 94, 123, 124, 125, 126, 128, 129, 130, 131]
theorem km_inj : ∀ a ∈ kvl, ∀ b ∈ kvl, km a = km b → a = b := by decide +kernel
/-- z lexemes, m names, kinds, places, values -/
abbrev TT : Type := Nat × Nat × (Nat → Int) × (Nat → Int) × (Nat → Int)
def TT.z (T : TT) : Nat := T.1
def TT.m (T : TT) : Nat := T.2.1
def TT.tk (T : TT) : Nat → Int := T.2.2.1
def TT.fm (T : TT) : Nat → Int := T.2.2.2.1
def TT.vl (T : TT) : Nat → Int := T.2.2.2.2
def TWF (T : TT) : Prop := T.z ≤ 8192 ∧ T.tk T.z = 0 ∧ (∀ k, k < T.z → T.tk k ∈ kvl ∧ T.tk k ≠ 0) ∧ (∀ k, k ≤ T.z → 0 ≤ T.fm k) ∧ (∀ k, k < T.z → 0 ≤ T.vl k ∧ T.vl k ≤ 1099511627776) ∧ (∀ k, k < T.z → T.tk k = 1 → T.vl k < (T.m : Int)) ∧ T.m ≤ 4112
/-- what parsing leaves alone: the class's tokens, the reference's -/
def CC (T : TT) (s : Sg) : Prop := s 39 9 = (T.z : Int) ∧ s 41 = T.tk ∧ s 42 = T.fm ∧ s 44 = T.vl ∧ s 31 7 = (T.m : Int) ∧ ∀ k, k < 22 → s 1 k = lvl.getD k 0
def MC (T : TT) (s : Sg) : Prop := s 84 11 = (T.z : Int) ∧ ∀ k, k ≤ T.z → s 88 k = km (T.tk k)
def CU (T : TT) (s : Sg) (a : Nat) : Prop := s 39 10 = (a : Int) ∧ s 39 11 = T.tk a ∧ a ≤ T.z
/-- no fault of the numbers 4 to 7 is noted -/
def CN (s : Sg) : Prop := s 30 4 = -1 ∧ s 30 5 = -1 ∧ s 30 6 = -1 ∧ s 30 7 = -1
def mn (v : Int) : Int := if 1073741824 < v then 1073741824 else v
def cur (T : TT) (s : Sg) (a : Nat) : Sg := ax_u2 (ax_u2 s 39 10 (a : Int)) 39 11 (T.tk a)
def adv (s : Sg) (a : Nat) : Sg := ax_u2 s 84 18 (a : Int)
def tel (s : Sg) (n : Int) (a : Nat) : Sg := ax_u2 (ax_u2 s 84 6 n) 84 7 (s 89 a)
section PRIM
variable {T : TT} {s : Sg} {a : Nat}
theorem TWF.kv (h : TWF T) (ha : a ≤ T.z) : T.tk a ∈ kvl := by
  by_cases c : a < T.z
  · exact (h.2.2.1 a c).1
  · have : a = T.z := by omega
    rw [this, h.2.1]
    decide
theorem TWF.lt (h : TWF T) (ha : a ≤ T.z) (h0 : T.tk a ≠ 0) : a < T.z := by
  apply Decidable.byContradiction
  intro c
  have : a = T.z := by omega
  rw [this, h.2.1] at h0
  exact h0 rfl
theorem TWF.km (h : TWF T) (ha : a ≤ T.z) {k : Int} (hk : k ∈ kvl) (hn : T.tk a ≠ k) : km (T.tk a) ≠ km k := fun e => hn (km_inj _ (h.kv ha) _ hk e)
/-! the class -/
theorem CC.row {s' : Sg} (h : CC T s) (h1 : s' 39 9 = s 39 9) (h2 : s' 41 = s 41) (h3 : s' 42 = s 42) (h4 : s' 44 = s 44) (h5 : s' 31 7 = s 31 7) (h6 : s' 1 = s 1) : CC T s' := by
  unfold CC at *
  rw [h1, h2, h3, h4, h5, h6]
  exact h
theorem MC.row {s' : Sg} (h : MC T s) (h1 : s' 84 11 = s 84 11) (h2 : s' 88 = s 88) : MC T s' := by
  unfold MC at *
  rw [h1, h2]
  exact h
theorem cur_row {c : Nat} (h : c ≠ 39) : cur T s a c = s c := by
  funext x
  simp [cur, ax_u2, h]
theorem cur_col {j : Nat} (h : j ≠ 10) (h2 : j ≠ 11) : cur T s a 39 j = s 39 j := by simp [cur, ax_u2, h, h2]
theorem cur_cu (ha : a ≤ T.z) : CU T (cur T s a) a := ⟨by simp [cur, ax_u2], by simp [cur, ax_u2], ha⟩
theorem cur_cc (h : CC T s) : CC T (cur T s a) := h.row (cur_col (by decide) (by decide)) (cur_row (by decide)) (cur_row (by decide)) (cur_row (by decide)) (by rw [cur_row (by decide)]) (cur_row (by decide))
theorem c94 (hT : TWF T) (hc : CC T s) (hu : CU T s a) (h0 : T.tk a ≠ 0) : f_94 s = cur T s (a + 1) ∧ g_94 s := by
  have ha := hT.lt hu.2.2 h0
  have h8 := hT.1
  have e1 := hc.1
  have e2 := hu.1
  have w : ax_w32 ((a : Int) + 1) = ((a + 1 : Nat) : Int) := w32_nat (by omega)
  unfold f_94 g_94
  rw [e1, e2, w]
  refine ⟨?_, ⟨fun h => absurd h (by omega), fun _ => ⟨fun _ => trivial, fun _ => ⟨⟨by omega, by omega⟩, trivial⟩⟩⟩⟩
  rw [if_neg (by omega)]
  unfold cur
  by_cases c : a + 1 = T.z
  · rw [if_pos (by omega), c, hT.2.1]
  · rw [if_neg (by omega), Int.toNat_natCast, hc.2.1]
theorem nxt {α : Type} {k : Sg → Option α} (hT : TWF T) (hc : CC T s) (hu : CU T s a) (h0 : T.tk a ≠ 0) : gd (g_94 s) ((some (f_94 s)).bind k) = k (cur T s (a + 1)) := by
  rw [gd_pos (c94 hT hc hu h0).2, (c94 hT hc hu h0).1]
  rfl
theorem c92y {k : Int} (hT : TWF T) (hc : CC T s) (hu : CU T s a) (h : T.tk a = k) (h0 : k ≠ 0) : f_92 k s = some (.inl (cur T s (a + 1))) := by
  unfold f_92
  rw [if_pos (by rw [hu.2.1, h]), nxt hT hc hu (by rw [h]; exact h0)]
theorem c92n {k : Int} (hu : CU T s a) (h : T.tk a ≠ k) : f_92 k s = some (.inr (15, s)) := by
  unfold f_92
  rw [if_neg (by rw [hu.2.1]; exact h)]
theorem c79 (hc : CC T s) (hT : TWF T) (ha : a ≤ T.z) : f_79 (a : Int) s = T.tk a ∧ g_79 (a : Int) s := by
  have h8 := hT.1
  unfold f_79 g_79
  rw [hc.1, hc.2.1, Int.toNat_natCast]
  refine ⟨?_, fun h => absurd h (by omega), fun _ => ⟨fun _ => trivial, fun _ => ⟨⟨by omega, by omega⟩, trivial⟩⟩⟩
  rw [if_neg (by omega)]
  by_cases c : a = T.z
  · rw [if_pos (by omega), c, hT.2.1]
  · rw [if_neg (by omega)]
theorem c80 (hc : CC T s) (hT : TWF T) (ha : a ≤ T.z) : f_80 (a : Int) s = T.fm a ∧ g_80 (a : Int) s := by
  have h8 := hT.1
  unfold f_80 g_80
  rw [hc.1, hc.2.2.1, Int.toNat_natCast]
  refine ⟨?_, fun h => absurd h (by omega), fun _ => ⟨fun _ => trivial, fun _ => ⟨fun _ => trivial, fun _ => ⟨⟨by omega, by omega⟩, trivial⟩⟩⟩⟩
  rw [if_neg (by omega), if_neg (by omega), if_neg (by omega)]
theorem c81 (hc : CC T s) (hT : TWF T) (ha : a < T.z) : f_81 (a : Int) s = T.vl a ∧ g_81 (a : Int) s := by
  have h8 := hT.1
  unfold f_81 g_81
  rw [hc.1, hc.2.2.2.1, Int.toNat_natCast]
  refine ⟨?_, fun h => absurd h (by omega), fun _ => ⟨fun _ => trivial, fun _ => ⟨⟨by omega, by omega⟩, trivial⟩⟩⟩
  rw [if_neg (by omega), if_neg (by omega)]
theorem c97 (hc : CC T s) (hT : TWF T) (ha : a ≤ T.z) : f_97 (a : Int) s = (if T.tk a = 1 then T.vl a else -1) ∧ g_97 (a : Int) s := by
  have h8 := hT.1
  unfold f_97 g_97
  rw [hc.1, hc.2.1, hc.2.2.2.1, Int.toNat_natCast]
  refine ⟨?_, fun h => absurd h (by omega), fun _ => ⟨fun _ => trivial, fun _ => ⟨⟨by omega, by omega⟩, fun _ => trivial, fun _ => ⟨⟨by omega, by omega⟩, trivial⟩⟩⟩⟩
  rw [if_neg (by omega)]
  by_cases c : a = T.z
  · rw [if_pos (by omega), c, hT.2.1, if_neg (by decide)]
  · rw [if_neg (by omega)]
    by_cases d : T.tk a = 1
    · have := hT.2.2.2.2.1 a (by omega)
      have h2 := hT.2.2.2.2.2.1 a (by omega) d
      have h3 := hT.2.2.2.2.2.2
      rw [if_neg (by simp [d]), if_pos d, w32_id (by omega) (by omega)]
    · rw [if_pos d, if_neg d]
/-- a fault is noted -/
theorem c71n {k : Nat} {p : Int} (hk : 4 ≤ k) (hk2 : k ≤ 7) (hp : 0 ≤ p) : g_71 (k : Int) p s ∧ ¬ CN (f_71 (k : Int) p s) ∧ (∀ c, c ≠ 30 → f_71 (k : Int) p s c = s c) ∧ (∀ j, j < 4 ∨ 7 < j → f_71 (k : Int) p s 30 j = s 30 j) := by
  have e : f_71 (k : Int) p s = s ∧ s 30 k ≠ -1 ∨ f_71 (k : Int) p s = ax_u2 s 30 k p := by
    unfold f_71
    rw [if_neg (by omega), if_pos (by omega), Int.toNat_natCast]
    split
    · exact Or.inr rfl
    · split
      · exact Or.inl ⟨rfl, by assumption⟩
      · exact Or.inr rfl
  have hk3 : k = 4 ∨ k = 5 ∨ k = 6 ∨ k = 7 := by omega
  refine ⟨?_, ?_, ?_, ?_⟩
  · unfold g_71
    refine ⟨fun h => absurd h (by omega), fun _ => ⟨fun _ => ⟨⟨by omega, by omega⟩, fun _ => ⟨⟨by omega, by omega⟩, trivial⟩, fun _ => ⟨⟨by omega, by omega⟩, fun _ => trivial, fun _ => ⟨⟨by omega, by omega⟩, trivial⟩⟩⟩, fun h => absurd h (by omega)⟩⟩
  · rcases e with ⟨e1, e2⟩ | e1
    · rw [e1]
      unfold CN
      rcases hk3 with rfl | rfl | rfl | rfl <;> simp [e2]
    · rw [e1]
      unfold CN
      have : p ≠ -1 := by omega
      rcases hk3 with rfl | rfl | rfl | rfl <;> simp [ax_u2, this]
  · intro c hc
    rcases e with ⟨e1, e2⟩ | e1
    · rw [e1]
    · rw [e1]
      exact u2_row _ _ _ hc
  · intro j hj
    rcases e with ⟨e1, e2⟩ | e1
    · rw [e1]
    · rw [e1]
      exact u2_col _ _ _ (by omega)
theorem c71 {x p : Int} (hx : x = 4 ∨ x = 5 ∨ x = 6 ∨ x = 7) (hp : 0 ≤ p) : g_71 x p s ∧ ¬ CN (f_71 x p s) ∧ (∀ c, c ≠ 30 → f_71 x p s c = s c) ∧ (∀ j, j < 4 ∨ 7 < j → f_71 x p s 30 j = s 30 j) := by
  rcases hx with rfl | rfl | rfl | rfl
  · exact c71n (k := 4) (by decide) (by decide) hp
  · exact c71n (k := 5) (by decide) (by decide) hp
  · exact c71n (k := 6) (by decide) (by decide) hp
  · exact c71n (k := 7) (by decide) (by decide) hp
theorem mn_eq (v : Int) (h : 0 ≤ v) (h2 : v ≤ 1099511627776) (q : Sg) : ax_w32 (f_293 v 1073741824 q) = mn v := by
  unfold f_293 mn
  simp only [cmp_gt]
  split
  · rw [w32_id (by decide) (by decide)]
  · rw [w32_id (by omega) (by omega)]
/-- a NUMBER with its bounds -/
theorem c93 {lo hi : Int} (hT : TWF T) (hc : CC T s) (hu : CU T s a) (h : T.tk a = 2) :
    ∃ s1 : Sg, f_93 lo hi s = some (.inl (mn (T.vl a), cur T s1 (a + 1))) ∧ (CN s1 ↔ CN s ∧ lo ≤ T.vl a ∧ T.vl a ≤ hi) ∧ (∀ c, c ≠ 30 → s1 c = s c) ∧ (∀ j, j < 4 ∨ 7 < j → s1 30 j = s 30 j) := by
  have ha := hT.lt hu.2.2 (by rw [h]; decide)
  have hv := hT.2.2.2.2.1 a ha
  have c1 := c81 hc hT ha
  have c2 := c80 hc hT (Nat.le_of_lt ha)
  have fin : ∀ s1 : Sg, (∀ c, c ≠ 30 → s1 c = s c) → j_93_57 (T.vl a) s1 = some (.inl (mn (T.vl a), cur T s1 (a + 1))) := by
    intro s1 h1
    unfold j_93_57
    have hc1 : CC T s1 := hc.row (by rw [h1 39 (by decide)]) (h1 41 (by decide)) (h1 42 (by decide)) (h1 44 (by decide)) (by rw [h1 31 (by decide)]) (h1 1 (by decide))
    have hu1 : CU T s1 a := by unfold CU at *; rw [h1 39 (by decide)]; exact hu
    rw [nxt hT hc1 hu1 (by rw [h]; decide), mn_eq _ hv.1 hv.2]
  have note : ∃ s1 : Sg, j_93_41 (T.vl a) s = some (.inl (mn (T.vl a), cur T s1 (a + 1))) ∧ ¬ CN s1 ∧ (∀ c, c ≠ 30 → s1 c = s c) ∧ (∀ j, j < 4 ∨ 7 < j → s1 30 j = s 30 j) := by
    obtain ⟨n1, n2, n3, n4⟩ := c71 (s := s) (x := 4) (p := T.fm a) (Or.inl rfl) (hT.2.2.2.1 a (by omega))
    refine ⟨f_71 4 (T.fm a) s, ?_, n2, n3, n4⟩
    unfold j_93_41
    rw [hu.1, gd_pos c2.2, c2.1, gd_pos n1]
    exact fin _ n3
  unfold f_93
  rw [if_pos (by rw [hu.2.1, h]), hu.1, gd_pos c1.2, c1.1]
  simp only [cmp_lt, cmp_le]
  by_cases d1 : T.vl a < lo
  · rw [if_pos d1]
    obtain ⟨s1, x1, x2, x3, x4⟩ := note
    exact ⟨s1, x1, ⟨fun x => absurd x x2, fun x => absurd x.2.1 (by omega)⟩, x3, x4⟩
  · rw [if_neg d1]
    by_cases d2 : T.vl a ≤ hi
    · rw [if_pos d2]
      exact ⟨s, fin s (fun _ _ => rfl), ⟨fun x => ⟨x, by omega, d2⟩, fun x => x.1⟩, fun _ _ => rfl, fun _ _ => rfl⟩
    · rw [if_neg d2]
      obtain ⟨s1, x1, x2, x3, x4⟩ := note
      exact ⟨s1, x1, ⟨fun x => absurd x x2, fun x => absurd x.2.2 d2⟩, x3, x4⟩
theorem c93n {lo hi : Int} (hu : CU T s a) (h : T.tk a ≠ 2) : f_93 lo hi s = some (.inr (15, s)) := by
  unfold f_93
  rw [if_neg (by rw [hu.2.1]; exact h)]
/-! the reference -/
theorem is_y (hM : MC T s) (hT : TWF T) (hu : s 84 18 = (a : Int)) (ha : a ≤ T.z) {K k : Int} (hK : km k = K) (h : T.tk a = k) : f_232 K s = 1 ∧ g_232 K s := by
  have h8 := hT.1
  unfold f_232 g_232
  rw [hu, Int.toNat_natCast, hM.2 a ha, h, hK]
  exact ⟨if_neg (by simp), ⟨by omega, by omega⟩, trivial⟩
theorem is_n (hM : MC T s) (hT : TWF T) (hu : s 84 18 = (a : Int)) (ha : a ≤ T.z) {K k : Int} (hK : km k = K) (hk : k ∈ kvl) (h : T.tk a ≠ k) : f_232 K s = 0 ∧ g_232 K s := by
  have h8 := hT.1
  unfold f_232 g_232
  rw [hu, Int.toNat_natCast, hM.2 a ha, ← hK]
  exact ⟨if_pos (hT.km ha hk h), ⟨by omega, by omega⟩, trivial⟩
theorem eat_y (hM : MC T s) (hT : TWF T) (hf : s 84 6 = 0) (hu : s 84 18 = (a : Int)) (ha : a ≤ T.z) {K k : Int} (hK : km k = K) (h : T.tk a = k) : f_252 K s = (1, adv s (a + 1)) ∧ g_252 K s := by
  obtain ⟨e, g⟩ := is_y hM hT hu ha hK h
  have h8 := hT.1
  unfold f_252 g_252
  rw [if_neg (by omega), e, if_pos (by decide), hu, w32_nat (by omega)]
  exact ⟨rfl, fun _ => trivial, fun _ => ⟨g, trivial⟩⟩
theorem eat_n (hM : MC T s) (hT : TWF T) (hu : s 84 18 = (a : Int)) (ha : a ≤ T.z) {K k : Int} (hK : km k = K) (hk : k ∈ kvl) (h : T.tk a ≠ k) : f_252 K s = (0, s) ∧ g_252 K s := by
  obtain ⟨e, g⟩ := is_n hM hT hu ha hK hk h
  unfold f_252 g_252
  rw [e]
  refine ⟨?_, fun _ => trivial, fun _ => ⟨g, trivial⟩⟩
  split <;> simp
theorem eatY {α : Type} {kk : Int × Sg → Option α} (hM : MC T s) (hT : TWF T) (hf : s 84 6 = 0) (hu : s 84 18 = (a : Int)) (ha : a ≤ T.z) {K k : Int} (hK : km k = K) (h : T.tk a = k) : gd (g_252 K s) ((some (f_252 K s)).bind kk) = kk (1, adv s (a + 1)) := by
  obtain ⟨e, g⟩ := eat_y hM hT hf hu ha hK h
  rw [gd_pos g, e]
  rfl
theorem eatN {α : Type} {kk : Int × Sg → Option α} (hM : MC T s) (hT : TWF T) (hu : s 84 18 = (a : Int)) (ha : a ≤ T.z) {K k : Int} (hK : km k = K) (hk : k ∈ kvl) (h : T.tk a ≠ k) : gd (g_252 K s) ((some (f_252 K s)).bind kk) = kk (0, s) := by
  obtain ⟨e, g⟩ := eat_n hM hT hu ha hK hk h
  rw [gd_pos g, e]
  rfl
theorem takeY (hM : MC T s) (hT : TWF T) (hf : s 84 6 = 0) (hu : s 84 18 = (a : Int)) (ha : a ≤ T.z) {K k : Int} (hK : km k = K) (h : T.tk a = k) : f_231 K s = some ((a : Int), adv s (a + 1)) := by
  obtain ⟨e, g⟩ := is_y hM hT hu ha hK h
  have h8 := hT.1
  unfold f_231
  rw [if_pos (by omega), gd_pos g, e, if_pos (by decide), hu, w32_nat (by omega), w32_id (by omega) (by omega)]
  have : ((a + 1 : Nat) : Int) - 1 = (a : Int) := by omega
  rw [this]
  rfl
theorem takeN (hM : MC T s) (hT : TWF T) (hf : s 84 6 = 0) (hu : s 84 18 = (a : Int)) (ha : a ≤ T.z) {K k : Int} (hK : km k = K) (hk : k ∈ kvl) (h : T.tk a ≠ k) : f_231 K s = some (0, tel s 2 a) := by
  obtain ⟨e, g⟩ := is_n hM hT hu ha hK hk h
  have h8 := hT.1
  unfold f_231
  rw [if_pos (by omega), gd_pos g, e, if_neg (by simp), hu, gd_pos (by omega), Int.toNat_natCast]
  have : f_227 2 (s 89 a) s = tel s 2 a := by unfold f_227; rw [if_pos (by omega)]; rfl
  rw [this]
  rfl
theorem takeF {K : Int} (hf : 0 < s 84 6) : f_231 K s = some (0, s) := by
  unfold f_231
  rw [if_neg (by omega)]
theorem adv_row {c : Nat} (h : c ≠ 84) : adv s a c = s c := by
  funext x
  simp [adv, ax_u2, h]
theorem adv_col {j : Nat} (h : j ≠ 18) : adv s a 84 j = s 84 j := by simp [adv, ax_u2, h]
theorem adv_at : adv s a 84 18 = (a : Int) := by simp [adv, ax_u2]
theorem adv_mc (h : MC T s) : MC T (adv s a) := h.row (adv_col (by decide)) (adv_row (by decide))
theorem tel_row {c : Nat} {n : Int} (h : c ≠ 84) : tel s n a c = s c := by
  funext x
  simp [tel, ax_u2, h]
theorem tel_col {j : Nat} {n : Int} (h : j ≠ 6) (h2 : j ≠ 7) : tel s n a 84 j = s 84 j := by simp [tel, ax_u2, h, h2]
theorem tel_at {n : Int} : tel s n a 84 6 = n := by simp [tel, ax_u2]
end PRIM
/-! EXPRESSIONS: what both sides hold. -/
def lev (k : Int) : Int := lvl.getD k.toNat 0
def bin (c : Int) : Int := f_65 c (fun _ _ => 0)
theorem bin_eq (c : Int) (s : Sg) : f_65 c s = bin c := rfl
theorem bin_m : ∀ c ∈ kvl, ∀ s : Sg, f_267 (km c) s = bin c := by
  have h : ∀ c ∈ kvl, f_267 (km c) (fun _ _ => 0) = bin c := by decide +kernel
  intro c hc s
  exact h c hc
theorem bin_b (c : Int) : bin c = -1 ∨ (10 ≤ bin c ∧ bin c ≤ 20) := by
  unfold bin f_65
  (repeat' split) <;> omega
theorem lev_b : ∀ k : Int, 0 ≤ k → k ≤ 21 → 0 ≤ lev k ∧ lev k ≤ 10 ∧ (10 ≤ k → k ≤ 20 → 1 ≤ lev k ∧ lev k ≤ 7) ∧ (k = 8 ∨ k = 9 → lev k = 8) := by
  have h : ∀ n : Nat, n < 22 → 0 ≤ lev (n : Int) ∧ lev (n : Int) ≤ 10 ∧ (10 ≤ (n : Int) → (n : Int) ≤ 20 → 1 ≤ lev (n : Int) ∧ lev (n : Int) ≤ 7) ∧ ((n : Int) = 8 ∨ (n : Int) = 9 → lev (n : Int) = 8) := by decide +kernel
  intro k h0 h1
  have := h k.toNat (by omega)
  rw [Int.toNat_of_nonneg h0] at this
  exact this
theorem f268 (k : Int) (h0 : 0 ≤ k) (h1 : k ≤ 21) (s : Sg) : f_268 k s = lev k := by
  have h : ∀ n : Nat, n < 22 → f_268 (n : Int) (fun _ _ => 0) = lev (n : Int) := by decide +kernel
  have := h k.toNat (by omega)
  rw [Int.toNat_of_nonneg h0] at this
  exact this
theorem f57 {T : TT} {s : Sg} (hc : CC T s) {k : Int} (h0 : 0 ≤ k) (h1 : k ≤ 21) : f_57 k s = lev k ∧ g_57 k s := by
  unfold f_57 g_57
  rw [if_neg (by omega), if_neg (by omega), hc.2.2.2.2.2 k.toNat (by omega)]
  exact ⟨rfl, fun h => absurd h (by omega), fun _ => ⟨fun _ => trivial, fun _ => ⟨⟨by omega, by omega⟩, trivial⟩⟩⟩
def opA : List Int := [40, 91, 44, 61, 63, 58, 21, 126, 45, 42, 43, 38, 124, 94, 60, 128, 129, 130, 131]
def opS : List Int := [2, 1, 25, 26, 27, 40, 126, 45]
def opB : List Int := [1, 2, 41, 93]
/-- between operands -/
def opI : List Int := [42, 43, 45, 38, 124, 94, 60, 128, 129, 130, 131, 63, 58]
theorem bin_opI : ∀ c ∈ kvl, 10 ≤ bin c → c ∈ opI := by decide +kernel
def opF : List Int := [46, 42, 43, 45, 38, 124, 94, 60, 128, 129, 130, 131, 63, 58, 44, 41, 93]
/-- neighbours in an expression -/
def PRX (p q : Int) : Prop := (p ∈ opA ∧ q ∈ opS) ∨ (p ∈ opB ∧ q ∈ opF) ∨ (p = 1 ∧ (q = 91 ∨ q = 40)) ∨ ((p = 25 ∨ p = 26 ∨ p = 27) ∧ q = 40) ∨ (p = 40 ∧ q = 41) ∨ (p = 46 ∧ q = 2)
/-- a bracket that may be dropped -/
def DR (T : TT) (k : Nat) : Prop := (T.tk k = 40 ∧ T.tk (k - 1) ∈ opA ∧ T.tk (k + 1) ≠ 41) ∨ (T.tk k = 41 ∧ T.tk (k - 1) ≠ 40)
/-- a lexeme's marks are alike; are those of one not read; of a bracket on which is not decided -/
def LF (T : TT) (sc sm : Sg) (k : Nat) : Prop := sm 91 k = (if sc 45 k = 2 then 1 else 0) ∧ sm 92 k = (if sc 45 k = 1 ∨ T.tk k = 61 then 1 else 0) ∧ sm 93 k = (if sc 45 k = 3 then 1 else 0) ∧ (sc 45 k = 2 → DR T k) ∧ (sc 45 k = 1 → T.tk k ∈ opI)
def FRS (T : TT) (sc sm : Sg) (k : Nat) : Prop := sc 45 k = 0 ∧ sm 91 k = 0 ∧ sm 92 k = (if T.tk k = 61 then 1 else 0) ∧ sm 93 k = 0
def PB (T : TT) (sc sm : Sg) (k : Nat) (v : Int) : Prop := sc 45 k = v ∧ sm 91 k = 0 ∧ sm 92 k = 0 ∧ sm 93 k = 0 ∧ DR T k
theorem FRS.lf {T : TT} {sc sm : Sg} {k : Nat} (h : FRS T sc sm k) : LF T sc sm k := by
  obtain ⟨h1, h2, h3, h4⟩ := h
  unfold LF
  rw [h1, h2, h3, h4]
  simp
/-- calls among the lexemes -/
def lcT (T : TT) (l0 : Nat) : Nat → Nat
  | 0 => 0
  | k + 1 => lcT T l0 k + (if T.tk (l0 + k) = 1 ∧ T.tk (l0 + k + 1) = 40 then 1 else 0)
theorem lcT_add (T : TT) (l0 a : Nat) : ∀ b, lcT T l0 (a + b) = lcT T l0 a + lcT T (l0 + a) b := by
  intro b
  induction b with
  | zero => simp [lcT]
  | succ b ih =>
    rw [← Nat.add_assoc]
    simp only [lcT]
    rw [ih, Nat.add_assoc l0 a b]
    omega
/-- a stretch of lexemes with its nodes -/
def SEG (T : TT) (sc sm : Sg) (sn rp : Int) (K l0 l1 n0 n1 : Nat) : Prop :=
  n0 ≤ n1 ∧ l0 ≤ l1 ∧ n1 + l0 ≤ l1 + n0 ∧
  (∀ m, n0 ≤ m → m < n1 → ∃ c q : Nat, sm 120 m = (c : Int) ∧ sm 121 m = (q : Int) ∧ q + c ≤ K ∧ ∀ i, i < c → (n0 : Int) ≤ sm 125 (q + i)) ∧
  (∀ m, n0 ≤ m → m < n1 → sm 123 m = sn ∧ sm 124 m = rp ∧ (1 ≤ sm 116 m → sm 116 m ≤ 3 → sc 48 m = sc 37 (T.vl (sm 118 m).toNat).toNat)) ∧
  (∀ m, n0 ≤ m → m < n1 → sm 116 m = 3 → ∃ i : Nat, l0 ≤ i ∧ i < l1 ∧ sm 118 m = (i : Int) ∧ T.tk i = 1 ∧ T.tk (i + 1) = 40) ∧
  (∀ i, l0 ≤ i → i < l1 → T.tk i = 1 → T.tk (i + 1) = 40 → ∃ m, n0 ≤ m ∧ m < n1 ∧ sm 116 m = 3 ∧ sm 118 m = (i : Int)) ∧
  (∀ m m', n0 ≤ m → m < n1 → n0 ≤ m' → m' < n1 → sm 116 m = 3 → sm 116 m' = 3 → sm 118 m = sm 118 m' → m = m') ∧
  (∀ k, l0 ≤ k → k < l1 → PRX (T.tk (k - 1)) (T.tk k)) ∧
  3 * lcT T l0 (l1 - l0) ≤ l1 - l0
/-- the marks of an operand's lexemes, whose brackets may stand undecided -/
def OBR (T : TT) (sc sm : Sg) (o l0 l1 : Nat) (v : Int) : Prop :=
  (sm 128 o = -1 ∧ ∀ k, l0 ≤ k → k < l1 → LF T sc sm k) ∨
  (∃ p c : Nat, sm 128 o = (p : Int) ∧ sm 132 p = (c : Int) ∧ l0 ≤ p ∧ p < c ∧ c < l1 ∧ PB T sc sm p v ∧ PB T sc sm c v ∧ ∀ k, l0 ≤ k → k < l1 → k ≠ p → k ≠ c → LF T sc sm k)
/-- an operand -/
def OPD (T : TT) (sc sm : Sg) (sn rp : Int) (K o l0 l1 n0 n1 : Nat) (v : Int) : Prop :=
  n0 < n1 ∧ sm 126 o = (n1 : Int) - 1 ∧ (∃ st : Nat, sm 127 o = (st : Int) ∧ l0 ≤ st ∧ st < l1) ∧ sc 52 (n1 - 1) = -1 ∧ OBR T sc sm o l0 l1 v ∧ SEG T sc sm sn rp K l0 l1 n0 n1
/-- what an operator wants of its left side -/
def wl (k : Int) : Int := if lev k = 1 then 2 else lev k
/-- the operators that wait: q of them, b with a left side -/
def STK (T : TT) (sc sm : Sg) (sn rp : Int) (K base W O a0 N0 : Nat) : Nat → Nat → Nat → Nat → Prop
  | 0, b, nl, ll => b = 0 ∧ nl = N0 ∧ ll = a0
  | q + 1, b, nl, ll =>
    (∃ p : Nat, (sc 67 (base + q) = 8 ∨ sc 67 (base + q) = 9) ∧ sm 129 (W + q) = sc 67 (base + q) ∧ sc 69 (base + q) = (p : Int) ∧ sm 130 (W + q) = (p : Int) ∧ ll = p + 1 ∧ LF T sc sm p ∧ SEG T sc sm sn rp K p (p + 1) nl nl ∧ STK T sc sm sn rp K base W O a0 N0 q b nl p) ∨
    (∃ p nl' ll' b' : Nat, b = b' + 1 ∧ 10 ≤ sc 67 (base + q) ∧ sc 67 (base + q) ≤ 20 ∧ sm 129 (W + q) = sc 67 (base + q) ∧ (1 ≤ q → 2 ≤ lev (sc 67 (base + q))) ∧ ll = p + 1 ∧ nl' < nl ∧ sc 68 (base + q) = (nl : Int) - 1 ∧ sc 69 (base + q) = sm 127 (O + b') ∧ LF T sc sm p ∧ SEG T sc sm sn rp K p (p + 1) nl nl ∧
      OPD T sc sm sn rp K (O + b') ll' p nl' nl (if wl (sc 67 (base + q)) ≤ lev (sm 116 (nl - 1)) then 2 else 0) ∧ STK T sc sm sn rp K base W O a0 N0 q b' nl' ll')
/-- what has not been touched below some bounds -/
def XF (sc sm sc' sm' : Sg) (a a' N K base W O : Nat) : Prop :=
  (∀ k, k < a ∨ a' ≤ k → sc' 45 k = sc 45 k ∧ sm' 91 k = sm 91 k ∧ sm' 92 k = sm 92 k) ∧
  (∀ c n, 47 ≤ c → c ≤ 53 → n < N → sc' c n = sc c n) ∧
  (∀ c n, 116 ≤ c → c ≤ 124 → n < N → sm' c n = sm c n) ∧
  (∀ j, j < K → sm' 125 j = sm 125 j) ∧
  (∀ c i, 67 ≤ c → c ≤ 69 → i < base → sc' c i = sc c i) ∧
  (∀ c i, 126 ≤ c → c ≤ 128 → i < O → sm' c i = sm c i) ∧
  (∀ c i, 129 ≤ c → c ≤ 131 → i < W → sm' c i = sm c i) ∧
  (∀ k, k < a → sm' 132 k = sm 132 k)
/-- rows that an expression may change, on each side -/
def EFc (s s' : Sg) : Prop := (∀ c, ¬ (c = 30 ∨ c = 39 ∨ c = 45 ∨ 46 ≤ c ∧ c ≤ 53 ∨ 66 ≤ c ∧ c ≤ 69) → s' c = s c) ∧ (∀ j, j ≠ 10 → j ≠ 11 → s' 39 j = s 39 j) ∧ (∀ j, j < 4 ∨ 7 < j → s' 30 j = s 30 j)
def EFm (s s' : Sg) : Prop := (∀ c, ¬ (c = 84 ∨ c = 91 ∨ c = 92 ∨ 116 ≤ c ∧ c ≤ 121 ∨ 123 ≤ c ∧ c ≤ 132) → s' c = s c) ∧ (∀ j, j < 6 ∨ 7 < j ∧ j < 18 ∨ 18 < j ∧ j < 47 ∨ 47 < j ∧ j < 57 ∨ j = 58 ∨ 59 < j ∧ j < 63 ∨ 63 < j ∧ j < 67 ∨ j = 68 ∨ j = 69 ∨ 70 < j → s' 84 j = s 84 j)
section FRAMES
variable {T : TT} {sc sm sc' sm' sc2 sm2 : Sg} {sn rp : Int} {K K' l0 l1 l2 n0 n1 n2 a a' a1 a2 N N' base W O : Nat}
theorem EFc.refl (s : Sg) : EFc s s := ⟨fun _ _ => rfl, fun _ _ _ => rfl, fun _ _ => rfl⟩
theorem EFm.refl (s : Sg) : EFm s s := ⟨fun _ _ => rfl, fun _ _ => rfl⟩
theorem EFc.trans (h : EFc sc sc') (k : EFc sc' sc2) : EFc sc sc2 := ⟨fun c x => (k.1 c x).trans (h.1 c x), fun j x y => (k.2.1 j x y).trans (h.2.1 j x y), fun j x => (k.2.2 j x).trans (h.2.2 j x)⟩
theorem EFm.trans (h : EFm sm sm') (k : EFm sm' sm2) : EFm sm sm2 := ⟨fun c x => (k.1 c x).trans (h.1 c x), fun j x => (k.2 j x).trans (h.2 j x)⟩
theorem EFc.cc (h : EFc sc sc') (k : CC T sc) : CC T sc' := k.row (h.2.1 9 (by decide) (by decide)) (h.1 41 (by omega)) (h.1 42 (by omega)) (h.1 44 (by omega)) (by rw [h.1 31 (by omega)]) (h.1 1 (by omega))
theorem EFm.mc (h : EFm sm sm') (k : MC T sm) : MC T sm' := k.row (h.2 11 (by omega)) (h.1 88 (by omega))
theorem XF.refl (sc sm : Sg) (a a' N K base W O : Nat) : XF sc sm sc sm a a' N K base W O := ⟨fun _ _ => ⟨rfl, rfl, rfl⟩, fun _ _ _ _ _ => rfl, fun _ _ _ _ _ => rfl, fun _ _ => rfl, fun _ _ _ _ _ => rfl, fun _ _ _ _ _ => rfl, fun _ _ _ _ _ => rfl, fun _ _ => rfl⟩
theorem XF.trans {N1 K1 base1 W1 O1 : Nat} (h : XF sc sm sc' sm' a a1 N K base W O) (k : XF sc' sm' sc2 sm2 a' a2 N1 K1 base1 W1 O1) (h1 : a ≤ a') (h2 : a1 ≤ a2) (h3 : N ≤ N1) (h4 : K ≤ K1) (h5 : base ≤ base1) (h6 : W ≤ W1) (h7 : O ≤ O1) : XF sc sm sc2 sm2 a a2 N K base W O := by
  obtain ⟨a1, a2, a3, a4, a5, a6, a7, a8⟩ := h
  obtain ⟨b1, b2, b3, b4, b5, b6, b7, b8⟩ := k
  refine ⟨fun k x => ?_, fun c n x y w => (b2 c n x y (by omega)).trans (a2 c n x y w), fun c n x y w => (b3 c n x y (by omega)).trans (a3 c n x y w), fun j x => (b4 j (by omega)).trans (a4 j x), fun c n x y w => (b5 c n x y (by omega)).trans (a5 c n x y w), fun c n x y w => (b6 c n x y (by omega)).trans (a6 c n x y w), fun c n x y w => (b7 c n x y (by omega)).trans (a7 c n x y w), fun j x => (b8 j (by omega)).trans (a8 j x)⟩
  have p := a1 k (by omega)
  have q := b1 k (by omega)
  exact ⟨q.1.trans p.1, q.2.1.trans p.2.1, q.2.2.trans p.2.2⟩
theorem XF.mono {a0 a3 N0 K0 base0 W0 O0 : Nat} (h : XF sc sm sc' sm' a a' N K base W O) (h1 : a0 ≤ a) (h2 : a' ≤ a3) (h3 : N0 ≤ N) (h4 : K0 ≤ K) (h5 : base0 ≤ base) (h6 : W0 ≤ W) (h7 : O0 ≤ O) : XF sc sm sc' sm' a0 a3 N0 K0 base0 W0 O0 := by
  obtain ⟨a1, a2, a3, a4, a5, a6, a7, a8⟩ := h
  exact ⟨fun k x => a1 k (by omega), fun c n x y w => a2 c n x y (by omega), fun c n x y w => a3 c n x y (by omega), fun j x => a4 j (by omega), fun c n x y w => a5 c n x y (by omega), fun c n x y w => a6 c n x y (by omega), fun c n x y w => a7 c n x y (by omega), fun j x => a8 j (by omega)⟩
theorem LF.congr {k : Nat} (h : LF T sc sm k) (h1 : sc' 45 k = sc 45 k) (h2 : sm' 91 k = sm 91 k) (h3 : sm' 92 k = sm 92 k) (h4 : sm' 93 k = sm 93 k) : LF T sc' sm' k := by
  unfold LF at *
  rw [h1, h2, h3, h4]
  exact h
theorem PB.congr {k : Nat} {v : Int} (h : PB T sc sm k v) (h1 : sc' 45 k = sc 45 k) (h2 : sm' 91 k = sm 91 k) (h3 : sm' 92 k = sm 92 k) (h4 : sm' 93 k = sm 93 k) : PB T sc' sm' k v := by
  unfold PB at *
  rw [h1, h2, h3, h4]
  exact h
theorem SEG.congr (h : SEG T sc sm sn rp K l0 l1 n0 n1) (h1 : ∀ c n, 116 ≤ c → c ≤ 124 → n0 ≤ n → n < n1 → sm' c n = sm c n) (h2 : ∀ n, n0 ≤ n → n < n1 → sc' 48 n = sc 48 n) (h3 : sc' 37 = sc 37) (h4 : ∀ j, j < K → sm' 125 j = sm 125 j) (hK : K ≤ K') : SEG T sc' sm' sn rp K' l0 l1 n0 n1 := by
  obtain ⟨a1, a2, a3, a4, a5, a6, a7, a8, a9, a10⟩ := h
  refine ⟨a1, a2, a3, ?_, ?_, ?_, ?_, ?_, a9, a10⟩
  · intro m x y
    obtain ⟨c, q, b1, b2, b3, b4⟩ := a4 m x y
    refine ⟨c, q, by rw [h1 120 m (by omega) (by omega) x y]; exact b1, by rw [h1 121 m (by omega) (by omega) x y]; exact b2, by omega, fun i hi => ?_⟩
    rw [h4 _ (by omega)]
    exact b4 i hi
  · intro m x y
    rw [h1 123 m (by omega) (by omega) x y, h1 124 m (by omega) (by omega) x y, h1 116 m (by omega) (by omega) x y, h1 118 m (by omega) (by omega) x y, h2 m x y, h3]
    exact a5 m x y
  · intro m x y
    rw [h1 116 m (by omega) (by omega) x y, h1 118 m (by omega) (by omega) x y]
    exact a6 m x y
  · intro i x y u v
    obtain ⟨m, b1, b2, b3, b4⟩ := a7 i x y u v
    exact ⟨m, b1, b2, by rw [h1 116 m (by omega) (by omega) b1 b2]; exact b3, by rw [h1 118 m (by omega) (by omega) b1 b2]; exact b4⟩
  · intro m m' x y x' y'
    rw [h1 116 m (by omega) (by omega) x y, h1 118 m (by omega) (by omega) x y, h1 116 m' (by omega) (by omega) x' y', h1 118 m' (by omega) (by omega) x' y']
    exact a8 m m' x y x' y'
theorem SEG.xf (h : SEG T sc sm sn rp K l0 l1 n0 n1) (x : XF sc sm sc' sm' a a' N K base W O) (hn : n1 ≤ N) (h3 : sc' 37 = sc 37) : SEG T sc' sm' sn rp K l0 l1 n0 n1 :=
  h.congr (fun c n x1 x2 _ x4 => x.2.2.1 c n x1 x2 (by omega)) (fun n _ x4 => x.2.1 48 n (by decide) (by decide) (by omega)) h3 (fun j hj => x.2.2.2.1 j hj) (Nat.le_refl _)
theorem SEG.monoK (h : SEG T sc sm sn rp K l0 l1 n0 n1) (hK : K ≤ K') : SEG T sc sm sn rp K' l0 l1 n0 n1 := h.congr (fun _ _ _ _ _ _ => rfl) (fun _ _ _ => rfl) rfl (fun _ _ => rfl) hK
theorem SEG.nil (T : TT) (sc sm : Sg) (sn rp : Int) (K l n : Nat) : SEG T sc sm sn rp K l l n n :=
  ⟨Nat.le_refl _, Nat.le_refl _, by omega, fun m x y => absurd y (by omega), fun m x y => absurd y (by omega), fun m x y => absurd y (by omega), fun i x y => absurd y (by omega), fun m m' x y => absurd y (by omega), fun k x y => absurd y (by omega), by simp [lcT]⟩
theorem SEG.tok (T : TT) (sc sm : Sg) (sn rp : Int) (K k n : Nat) (h : PRX (T.tk (k - 1)) (T.tk k)) (h2 : ¬ (T.tk k = 1 ∧ T.tk (k + 1) = 40)) : SEG T sc sm sn rp K k (k + 1) n n := by
  refine ⟨Nat.le_refl _, by omega, by omega, fun m x y => absurd y (by omega), fun m x y => absurd y (by omega), fun m x y => absurd y (by omega), ?_, fun m m' x y => absurd y (by omega), ?_, ?_⟩
  · intro i x y u v
    have : i = k := by omega
    subst this
    exact absurd ⟨u, v⟩ h2
  · intro i x y
    have : i = k := by omega
    subst this
    exact h
  · have : k + 1 - k = 1 := by omega
    rw [this]
    simp only [lcT, Nat.add_zero]
    rw [if_neg h2]
    omega
theorem SEG.merge (h : SEG T sc sm sn rp K l0 l1 n0 n1) (g : SEG T sc sm sn rp K l1 l2 n1 n2) : SEG T sc sm sn rp K l0 l2 n0 n2 := by
  obtain ⟨a1, a2, a3, a4, a5, a6, a7, a8, a9, a10⟩ := h
  obtain ⟨b1, b2, b3, b4, b5, b6, b7, b8, b9, b10⟩ := g
  refine ⟨by omega, by omega, by omega, ?_, ?_, ?_, ?_, ?_, ?_, ?_⟩
  · intro m x y
    by_cases c : m < n1
    · exact a4 m x c
    · obtain ⟨c, q, d1, d2, d3, d4⟩ := b4 m (by omega) y
      exact ⟨c, q, d1, d2, d3, fun i hi => by have := d4 i hi; omega⟩
  · intro m x y
    by_cases c : m < n1
    · exact a5 m x c
    · exact b5 m (by omega) y
  · intro m x y u
    by_cases c : m < n1
    · obtain ⟨i, d1, d2, d3⟩ := a6 m x c u
      exact ⟨i, d1, by omega, d3⟩
    · obtain ⟨i, d1, d2, d3⟩ := b6 m (by omega) y u
      exact ⟨i, by omega, d2, d3⟩
  · intro i x y u v
    by_cases c : i < l1
    · obtain ⟨m, d1, d2, d3⟩ := a7 i x c u v
      exact ⟨m, d1, by omega, d3⟩
    · obtain ⟨m, d1, d2, d3⟩ := b7 i (by omega) y u v
      exact ⟨m, by omega, d2, d3⟩
  · intro m m' x y x' y' u u' e
    by_cases c : m < n1
    · by_cases c' : m' < n1
      · exact a8 m m' x c x' c' u u' e
      · obtain ⟨i, d1, d2, d3, _⟩ := a6 m x c u
        obtain ⟨i', d1', d2', d3', _⟩ := b6 m' (by omega) y' u'
        omega
    · by_cases c' : m' < n1
      · obtain ⟨i, d1, d2, d3, _⟩ := b6 m (by omega) y u
        obtain ⟨i', d1', d2', d3', _⟩ := a6 m' x' c' u'
        omega
      · exact b8 m m' (by omega) y (by omega) y' u u' e
  · intro k x y
    by_cases c : k < l1
    · exact a9 k x c
    · exact b9 k (by omega) y
  · have e : l2 - l0 = (l1 - l0) + (l2 - l1) := by omega
    rw [e, lcT_add, show l0 + (l1 - l0) = l1 by omega]
    omega
end FRAMES
/-! NODES: made on both sides. -/
section STKS
variable {T : TT} {sc sm sc' sm' : Sg} {sn rp : Int} {K K' base W O a0 N0 : Nat}
theorem OBR.xf {o l0 l1 a a' N : Nat} {v : Int} (h : OBR T sc sm o l0 l1 v) (x : XF sc sm sc' sm' a a' N K base W O) (h93 : sm' 93 = sm 93) (h1 : l1 ≤ a) (h2 : o < O) : OBR T sc' sm' o l0 l1 v := by
  have fl : ∀ k, k < l1 → LF T sc sm k → LF T sc' sm' k := fun k hk hl => hl.congr (x.1 k (by omega)).1 (x.1 k (by omega)).2.1 (x.1 k (by omega)).2.2 (by rw [h93])
  have pb : ∀ k, k < l1 → PB T sc sm k v → PB T sc' sm' k v := fun k hk hl => hl.congr (x.1 k (by omega)).1 (x.1 k (by omega)).2.1 (x.1 k (by omega)).2.2 (by rw [h93])
  have e := x.2.2.2.2.2.1 128 o (by decide) (by decide) h2
  rcases h with ⟨b1, b2⟩ | ⟨p, c, b1, b2, b3, b4, b5, b6, b7, b8⟩
  · exact Or.inl ⟨e.trans b1, fun k x1 x2 => fl k x2 (b2 k x1 x2)⟩
  · exact Or.inr ⟨p, c, e.trans b1, (x.2.2.2.2.2.2.2 p (by omega)).trans b2, b3, b4, b5, pb p (by omega) b6, pb c (by omega) b7, fun k x1 x2 x3 x4 => fl k x2 (b8 k x1 x2 x3 x4)⟩
theorem OPD.xf {o l0 l1 n0 n1 a a' N : Nat} {v : Int} (h : OPD T sc sm sn rp K o l0 l1 n0 n1 v) (x : XF sc sm sc' sm' a a' N K base W O) (h37 : sc' 37 = sc 37) (h93 : sm' 93 = sm 93) (h1 : l1 ≤ a) (h2 : o < O) (h3 : n1 ≤ N) : OPD T sc' sm' sn rp K o l0 l1 n0 n1 v := by
  obtain ⟨b1, b2, ⟨st, b3, b4⟩, b5, b6, b7⟩ := h
  refine ⟨b1, ?_, ⟨st, ?_, b4⟩, ?_, b6.xf x h93 h1 h2, b7.xf x h3 h37⟩
  · rw [x.2.2.2.2.2.1 126 o (by decide) (by decide) h2]; exact b2
  · rw [x.2.2.2.2.2.1 127 o (by decide) (by decide) h2]; exact b3
  · rw [x.2.1 52 (n1 - 1) (by decide) (by decide) (by omega)]; exact b5
theorem OPD.monoK {o l0 l1 n0 n1 : Nat} {v : Int} (h : OPD T sc sm sn rp K o l0 l1 n0 n1 v) (hK : K ≤ K') : OPD T sc sm sn rp K' o l0 l1 n0 n1 v := by
  obtain ⟨b1, b2, b3, b5, b6, b7⟩ := h
  exact ⟨b1, b2, b3, b5, b6, b7.monoK hK⟩
theorem STK.xf (h37 : sc' 37 = sc 37) (h93 : sm' 93 = sm 93) {a' : Nat} : ∀ q b nl ll, STK T sc sm sn rp K base W O a0 N0 q b nl ll → XF sc sm sc' sm' ll a' nl K (base + q) (W + q) (O + b) → STK T sc' sm' sn rp K base W O a0 N0 q b nl ll := by
  intro q
  induction q with
  | zero => intro b nl ll h _; exact h
  | succ q ih =>
    intro b nl ll h x
    have e67 : sc' 67 (base + q) = sc 67 (base + q) := x.2.2.2.2.1 67 (base + q) (by decide) (by decide) (by omega)
    have e68 : sc' 68 (base + q) = sc 68 (base + q) := x.2.2.2.2.1 68 (base + q) (by decide) (by decide) (by omega)
    have e69 : sc' 69 (base + q) = sc 69 (base + q) := x.2.2.2.2.1 69 (base + q) (by decide) (by decide) (by omega)
    have e129 : sm' 129 (W + q) = sm 129 (W + q) := x.2.2.2.2.2.2.1 129 (W + q) (by decide) (by decide) (by omega)
    have e130 : sm' 130 (W + q) = sm 130 (W + q) := x.2.2.2.2.2.2.1 130 (W + q) (by decide) (by decide) (by omega)
    rcases h with ⟨p, b1, b2, b3, b4, b5, b6, b7, b8⟩ | ⟨p, nl', ll', b', b1, b2, b3, b4, b5, b6, b7, b8, b9, b10, b11, b12, b13⟩
    · refine Or.inl ⟨p, by rw [e67]; exact b1, by rw [e129, e67]; exact b2, by rw [e69]; exact b3, by rw [e130]; exact b4, b5, b6.congr (x.1 p (by omega)).1 (x.1 p (by omega)).2.1 (x.1 p (by omega)).2.2 (by rw [h93]), b7.xf x (Nat.le_refl _) h37, ?_⟩
      exact ih b nl p b8 (x.mono (by omega) (Nat.le_refl _) (Nat.le_refl _) (Nat.le_refl _) (by omega) (by omega) (Nat.le_refl _))
    · have hl : ll' ≤ p := b12.2.2.2.2.2.2.1
      have e127 : sm' 127 (O + b') = sm 127 (O + b') := x.2.2.2.2.2.1 127 (O + b') (by decide) (by decide) (by omega)
      have e116 : sm' 116 (nl - 1) = sm 116 (nl - 1) := x.2.2.1 116 (nl - 1) (by decide) (by decide) (by omega)
      refine Or.inr ⟨p, nl', ll', b', b1, by rw [e67]; exact b2, by rw [e67]; exact b3, by rw [e129, e67]; exact b4, by rw [e67]; exact b5, b6, b7, by rw [e68]; exact b8, by rw [e69, e127]; exact b9, b10.congr (x.1 p (by omega)).1 (x.1 p (by omega)).2.1 (x.1 p (by omega)).2.2 (by rw [h93]), b11.xf x (Nat.le_refl _) h37, ?_, ?_⟩
      · rw [e67, e116]
        exact b12.xf x h37 h93 (by omega) (by omega) (Nat.le_refl _)
      · exact ih b' nl' ll' b13 (x.mono (by omega) (Nat.le_refl _) (by omega) (Nat.le_refl _) (by omega) (by omega) (by omega))
theorem STK.monoK (hK : K ≤ K') : ∀ q b nl ll, STK T sc sm sn rp K base W O a0 N0 q b nl ll → STK T sc sm sn rp K' base W O a0 N0 q b nl ll := by
  intro q
  induction q with
  | zero => intro b nl ll h; exact h
  | succ q ih =>
    intro b nl ll h
    rcases h with ⟨p, b1, b2, b3, b4, b5, b6, b7, b8⟩ | ⟨p, nl', ll', b', b1, b2, b3, b4, b5, b6, b7, b8, b9, b10, b11, b12, b13⟩
    · exact Or.inl ⟨p, b1, b2, b3, b4, b5, b6, b7.monoK hK, ih _ _ _ b8⟩
    · exact Or.inr ⟨p, nl', ll', b', b1, b2, b3, b4, b5, b6, b7, b8, b9, b10, b11.monoK hK, b12.monoK hK, ih _ _ _ b13⟩
theorem STK.bd : ∀ q b nl ll, STK T sc sm sn rp K base W O a0 N0 q b nl ll → N0 ≤ nl ∧ a0 ≤ ll ∧ nl + q + a0 ≤ ll + N0 ∧ b + N0 ≤ nl ∧ b ≤ q := by
  intro q
  induction q with
  | zero =>
    intro b nl ll h
    obtain ⟨h1, h2, h3⟩ := h
    omega
  | succ q ih =>
    intro b nl ll h
    rcases h with ⟨p, b1, b2, b3, b4, b5, b6, b7, b8⟩ | ⟨p, nl', ll', b', b1, b2, b3, b4, b5, b6, b7, b8, b9, b10, b11, b12, b13⟩
    · have := ih _ _ _ b8
      omega
    · have := ih _ _ _ b13
      have h1 := b12.2.2.2.2.2.2.1
      have h2 := b12.2.2.2.2.2.2.2.1
      omega
end STKS
/-- how many a node has in it -/
def AR (k : Int) (c : Nat) : Prop := (k = 0 ∨ k = 1 → c = 0) ∧ (k = 2 ∨ k = 4 ∨ k = 5 ∨ k = 7 ∨ k = 8 ∨ k = 9 → c = 1) ∧ (10 ≤ k ∧ k ≤ 20 → c = 2) ∧ (k = 21 → c = 3) ∧ (k = 6 → 2 ≤ c)
/-- its numbers -/
def NV (T : TT) (sc sm : Sg) (n : Nat) : Prop :=
  (sm 116 n = 0 → ∃ x w : Nat, sm 118 n = (x : Int) ∧ sm 119 n = (w : Int) ∧ x < T.z ∧ w < T.z ∧ T.tk x = 2 ∧ T.tk w = 2 ∧ sc 49 n = ax_w32 (T.vl x) ∧ sc 48 n = mn (T.vl w)) ∧
  (sm 116 n = 4 ∨ sm 116 n = 5 → ∃ w : Nat, sm 119 n = (w : Int) ∧ w < T.z ∧ T.tk w = 2 ∧ sc 49 n = -1 ∧ sc 48 n = mn (T.vl w)) ∧
  (sm 116 n = 7 → ∃ x w : Nat, sm 118 n = (x : Int) ∧ sm 119 n = (w : Int) ∧ x < T.z ∧ w < T.z ∧ T.tk x = 2 ∧ T.tk w = 2 ∧ sc 49 n = mn (T.vl w) ∧ sc 48 n = ax_w32 (ax_w32 (mn (T.vl x) - mn (T.vl w)) + 1)) ∧
  (1 ≤ sm 116 n → sm 116 n ≤ 3 → ∃ x : Nat, sm 118 n = (x : Int) ∧ sm 117 n = (x : Int) ∧ x < T.z ∧ T.tk x = 1 ∧ sc 49 n = -1) ∧
  (sm 116 n = 6 ∨ 8 ≤ sm 116 n → sc 49 n = -1 ∧ sc 48 n = 0)
/-- a node is alike -/
def NR (T : TT) (sc sm : Sg) (K n : Nat) : Prop := ∃ c q : Nat, sm 120 n = (c : Int) ∧ sm 121 n = (q : Int) ∧ q + c ≤ K ∧ sc 53 n = (c : Int) ∧ sc 47 n = sm 116 n ∧ 0 ≤ sm 116 n ∧ sm 116 n ≤ 21 ∧ AR (sm 116 n) c ∧ sc 50 n = sm 117 n ∧ (∃ st : Nat, sm 117 n = (st : Int) ∧ st < T.z) ∧ sc 51 n = (if 0 < c then sm 125 q else -1) ∧
  (∀ i, i < c → ∃ x : Nat, sm 125 (q + i) = (x : Int) ∧ x < n ∧ sc 52 x = (if i + 1 < c then sm 125 (q + (i + 1)) else -1)) ∧ NV T sc sm n
def ND (T : TT) (sc sm : Sg) (N K : Nat) : Prop := sc 46 7 = (N : Int) ∧ sm 84 47 = (N : Int) ∧ sm 84 57 = (K : Int) ∧ ∀ n, n < N → NR T sc sm K n
/-- x is in a node before N -/
def CHD (sm : Sg) (N x : Nat) : Prop := ∃ n c q i : Nat, n < N ∧ sm 120 n = (c : Int) ∧ sm 121 n = (q : Int) ∧ i < c ∧ sm 125 (q + i) = (x : Int)
section NDS
variable {T : TT} {sc sm sc' sm' : Sg} {sn rp : Int} {N K K' : Nat}
theorem NR.congr {n : Nat} (h : NR T sc sm K n) (hA : ∀ c, 47 ≤ c → c ≤ 53 → c ≠ 52 → sc' c n = sc c n) (hB : ∀ x, CHD sm (n + 1) x → sc' 52 x = sc 52 x) (hC : ∀ c, 116 ≤ c → c ≤ 124 → sm' c n = sm c n) (hD : ∀ j, j < K → sm' 125 j = sm 125 j) (hK : K ≤ K') : NR T sc' sm' K' n := by
  obtain ⟨c, q, a1, a2, a3, a4, a5, a6, a7, a8, a9, a10, a11, a12, a13⟩ := h
  refine ⟨c, q, ?_⟩
  rw [hC 120 (by decide) (by decide), hC 121 (by decide) (by decide), hA 53 (by decide) (by decide) (by decide), hA 47 (by decide) (by decide) (by decide), hC 116 (by decide) (by decide), hA 50 (by decide) (by decide) (by decide), hC 117 (by decide) (by decide), hA 51 (by decide) (by decide) (by decide)]
  refine ⟨a1, a2, by omega, a4, a5, a6, a7, a8, a9, a10, ?_, ?_, ?_⟩
  · rw [a11]
    split
    · rw [hD q (by omega)]
    · rfl
  · intro i hi
    obtain ⟨x, b1, b2, b3⟩ := a12 i hi
    refine ⟨x, by rw [hD _ (by omega)]; exact b1, b2, ?_⟩
    rw [hB x ⟨n, c, q, i, by omega, a1, a2, hi, b1⟩, b3]
    split
    · rw [hD _ (by omega)]
    · rfl
  · unfold NV at *
    rw [hC 116 (by decide) (by decide), hC 117 (by decide) (by decide), hC 118 (by decide) (by decide), hC 119 (by decide) (by decide), hA 48 (by decide) (by decide) (by decide), hA 49 (by decide) (by decide) (by decide)]
    exact a13
theorem ND.add (h : ND T sc sm N K) (h1 : sc' 46 7 = ((N + 1 : Nat) : Int)) (h2 : sm' 84 47 = ((N + 1 : Nat) : Int)) (h3 : sm' 84 57 = (K' : Int)) (hK : K ≤ K')
    (hA : ∀ c n, 47 ≤ c → c ≤ 53 → c ≠ 52 → n < N → sc' c n = sc c n) (hB : ∀ x, CHD sm N x → sc' 52 x = sc 52 x) (hC : ∀ c n, 116 ≤ c → c ≤ 124 → n < N → sm' c n = sm c n) (hD : ∀ j, j < K → sm' 125 j = sm 125 j) (hN : NR T sc' sm' K' N) : ND T sc' sm' (N + 1) K' := by
  refine ⟨h1, h2, h3, fun n hn => ?_⟩
  by_cases c : n = N
  · subst c; exact hN
  · refine (h.2.2.2 n (by omega)).congr (fun c x y w => hA c n x y w (by omega)) (fun x hx => hB x ?_) (fun c x y => hC c n x y (by omega)) hD hK
    obtain ⟨n', c, q, i, b1, b2⟩ := hx
    exact ⟨n', c, q, i, by omega, b2⟩
theorem ND.congr (h : ND T sc sm N K) (h1 : sc' 46 7 = sc 46 7) (h2 : sm' 84 47 = sm 84 47) (h3 : sm' 84 57 = sm 84 57)
    (hA : ∀ c n, 47 ≤ c → c ≤ 53 → n < N → sc' c n = sc c n) (hC : ∀ c n, 116 ≤ c → c ≤ 124 → n < N → sm' c n = sm c n) (hD : ∀ j, j < K → sm' 125 j = sm 125 j) : ND T sc' sm' N K := by
  refine ⟨h1.trans h.1, h2.trans h.2.1, h3.trans h.2.2.1, fun n hn => ?_⟩
  refine (h.2.2.2 n hn).congr (fun c x y _ => hA c n x y hn) (fun x hx => ?_) (fun c x y => hC c n x y hn) hD (Nat.le_refl _)
  obtain ⟨n', c, q, i, b1, b2, b3, b4, b5⟩ := hx
  obtain ⟨c2, q2, a1, a2, a3, a4, a5, a6, a7, a8, a9, a10, a11, a12, a13⟩ := h.2.2.2 n' (by omega)
  obtain ⟨x', d1, d2, d3⟩ := a12 i (by omega)
  have e1 : c = c2 := by omega
  have e2 : q = q2 := by omega
  subst e1 e2
  have : x = x' := by omega
  subst this
  exact hA 52 x (by decide) (by decide) (by omega)
/-- children come before -/
theorem ND.chd (h : ND T sc sm N K) {x : Nat} (hx : CHD sm N x) : ∃ n c q i : Nat, n < N ∧ sm 120 n = (c : Int) ∧ sm 121 n = (q : Int) ∧ i < c ∧ sm 125 (q + i) = (x : Int) ∧ x < n := by
  obtain ⟨n, c, q, i, b1, b2, b3, b4, b5⟩ := hx
  obtain ⟨c2, q2, a1, a2, a3, a4, a5, a6, a7, a8, a9, a10, a11, a12, a13⟩ := h.2.2.2 n b1
  obtain ⟨x', d1, d2, d3⟩ := a12 i (by omega)
  have e1 : c = c2 := by omega
  have e2 : q = q2 := by omega
  subst e1 e2
  have : x = x' := by omega
  subst this
  exact ⟨n, c, q, i, b1, b2, b3, b4, b5, d2⟩
/-- a root is in no node -/
theorem ND.root (h : ND T sc sm N K) {r : Nat} (hr : ∀ m, r < m → m < N → ∀ c q i : Nat, sm 120 m = (c : Int) → sm 121 m = (q : Int) → i < c → (r : Int) < sm 125 (q + i)) : ¬ CHD sm N r := by
  intro hx
  obtain ⟨n, c, q, i, b1, b2, b3, b4, b5, b6⟩ := h.chd hx
  have := hr n b6 b1 c q i b2 b3 b4
  omega
theorem SEG.kids {l0 l1 n0 n1 m c q i : Nat} (h : SEG T sc sm sn rp K l0 l1 n0 n1) (h1 : n0 ≤ m) (h2 : m < n1) (h3 : sm 120 m = (c : Int)) (h4 : sm 121 m = (q : Int)) (h5 : i < c) : (n0 : Int) ≤ sm 125 (q + i) := by
  obtain ⟨c2, q2, b1, b2, b3, b4⟩ := h.2.2.2.1 m h1 h2
  have e1 : c = c2 := by omega
  have e2 : q = q2 := by omega
  subst e1 e2
  exact b4 i h5
end NDS
/-- what a new node of the class changes -/
def MKC (s s' : Sg) (N : Nat) (k st fi cnt wd nu lv : Int) : Prop :=
  s' 46 7 = ((N + 1 : Nat) : Int) ∧ s' 47 N = k ∧ s' 48 N = wd ∧ s' 49 N = nu ∧ s' 50 N = st ∧ s' 51 N = fi ∧ s' 52 N = -1 ∧ s' 53 N = cnt ∧ s' 66 8 = (N : Int) ∧ s' 66 9 = st ∧ s' 66 10 = lv ∧ s' 66 11 = -1 ∧ s' 66 12 = -1 ∧
  (∀ c n, 47 ≤ c → c ≤ 53 → n ≠ N → s' c n = s c n) ∧ s' 66 7 = s 66 7 ∧ (∀ c, ¬ (46 ≤ c ∧ c ≤ 53 ∨ c = 66 ∨ c = 30) → s' c = s c) ∧ (∀ j, j < 4 ∨ 7 < j → s' 30 j = s 30 j)
/-- and of the reference -/
def MKM (s s' : Sg) (N K o c : Nat) (k fi lx nu : Int) : Prop :=
  s' 84 47 = ((N + 1 : Nat) : Int) ∧ s' 84 57 = ((K + c : Nat) : Int) ∧ s' 84 59 = ((o + 1 : Nat) : Int) ∧ s' 116 N = k ∧ s' 117 N = fi ∧ s' 118 N = lx ∧ s' 119 N = nu ∧ s' 120 N = (c : Int) ∧ s' 121 N = (K : Int) ∧ s' 123 N = s 84 68 ∧ s' 124 N = s 84 46 ∧
  (∀ i, i < c → s' 125 (K + i) = s 126 (o + i)) ∧ s' 126 o = (N : Int) ∧ s' 127 o = fi ∧ s' 128 o = -1 ∧
  (∀ b n, 116 ≤ b → b ≤ 124 → n ≠ N → s' b n = s b n) ∧ (∀ j, j < K → s' 125 j = s 125 j) ∧ (∀ b i, 126 ≤ b → b ≤ 128 → i ≠ o → s' b i = s b i) ∧
  (∀ b, ¬ (b = 84 ∨ 116 ≤ b ∧ b ≤ 121 ∨ 123 ≤ b ∧ b ≤ 128) → s' b = s b) ∧ (∀ j, j ≠ 47 → j ≠ 57 → j ≠ 59 → s' 84 j = s 84 j)
section MK
variable {s : Sg} {N K o c : Nat} {k st fi cnt lx nu lv : Int}
theorem c124 (h : s 46 7 = (N : Int)) (hN : N < 8192) (k st fi cnt lv : Int) : g_124 k st fi cnt s ∧ (f_124 k st fi cnt s).1 = (N : Int) ∧ MKC s (f_64 (N : Int) st lv (f_124 k st fi cnt s).2) N k st fi cnt 0 (-1) lv ∧ (f_64 (N : Int) st lv (f_124 k st fi cnt s).2) 30 = s 30 := by
  have e : f_124 k st fi cnt s = ((N : Int), (ax_u2 (ax_u2 (ax_u2 (ax_u2 (ax_u2 (ax_u2 (ax_u2 (ax_u2 s 47 N k) 48 N 0) 49 N (-1)) 50 N st) 51 N fi) 52 N (-1)) 53 N cnt) 46 7 ((N + 1 : Nat) : Int))) := by
    unfold f_124
    rw [h, if_pos (by omega), w32_nat (by omega), w32_id (by omega) (by omega), Int.toNat_natCast, show ((N + 1 : Nat) : Int) - 1 = (N : Int) by omega]
  refine ⟨?_, ?_, ?_, ?_⟩
  · unfold g_124
    rw [h]
    have : 0 ≤ (N : Int) ∧ (N : Int) < 8192 := by omega
    exact ⟨fun _ => ⟨this, this, this, this, this, this, this, trivial⟩, fun _ => trivial⟩
  · rw [e]
  · rw [e]
    unfold f_64 MKC
    refine ⟨by simp [ax_u2], by simp [ax_u2], by simp [ax_u2], by simp [ax_u2], by simp [ax_u2], by simp [ax_u2], by simp [ax_u2], by simp [ax_u2], by simp [ax_u2], by simp [ax_u2], by simp [ax_u2], by simp [ax_u2], by simp [ax_u2], ?_, by simp [ax_u2], ?_, by simp [ax_u2]⟩
    · intro b n h1 h2 h3
      simp [ax_u2, h3, show b ≠ 46 by omega, show b ≠ 66 by omega]
    · intro b hb
      funext x
      simp [ax_u2, show b ≠ 46 by omega, show b ≠ 66 by omega, show b ≠ 47 by omega, show b ≠ 48 by omega, show b ≠ 49 by omega, show b ≠ 50 by omega, show b ≠ 51 by omega, show b ≠ 52 by omega, show b ≠ 53 by omega]
  · rw [e]
    funext x
    simp [f_64, ax_u2]
theorem MKC.widen {s' : Sg} {wd nu : Int} (h : MKC s s' N k st fi cnt wd nu lv) (hN : N < 8192) (w : Int) : g_123 (N : Int) w s' ∧ MKC s (f_123 (N : Int) w s') N k st fi cnt w nu lv := by
  obtain ⟨h1, h2, h3, h4, h5, h6, h7, h8, h9, h10, h11, h12, h13, h14, h15, h16, h17⟩ := h
  have e : f_114 (N : Int) s' = 1 := by unfold f_114; rw [h1, if_neg (by omega), if_neg (by omega)]
  have e2 : f_123 (N : Int) w s' = ax_u2 s' 48 N w := by unfold f_123; rw [e, if_neg (by decide), Int.toNat_natCast]
  refine ⟨?_, ?_⟩
  · unfold g_123
    exact ⟨fun _ => trivial, fun _ => ⟨⟨by omega, by omega⟩, trivial⟩⟩
  · rw [e2]
    refine ⟨by simpa [ax_u2] using h1, by simpa [ax_u2] using h2, by simp [ax_u2], by simpa [ax_u2] using h4, by simpa [ax_u2] using h5, by simpa [ax_u2] using h6, by simpa [ax_u2] using h7, by simpa [ax_u2] using h8, by simpa [ax_u2] using h9, by simpa [ax_u2] using h10, by simpa [ax_u2] using h11, by simpa [ax_u2] using h12, by simpa [ax_u2] using h13, ?_, by simpa [ax_u2] using h15, ?_, fun j hj => by rw [← h17 j hj]; simp [ax_u2]⟩
    · intro b n x1 x2 x3
      rw [← h14 b n x1 x2 x3]
      simp [ax_u2, x3]
    · intro b hb
      rw [← h16 b hb]
      exact u2_row _ _ _ (by omega)
theorem MKC.enum {s' : Sg} {wd nu : Int} (h : MKC s s' N k st fi cnt wd nu lv) (hN : N < 8192) (w : Int) : g_125 (N : Int) w s' ∧ MKC s (f_125 (N : Int) w s') N k st fi cnt wd w lv := by
  obtain ⟨h1, h2, h3, h4, h5, h6, h7, h8, h9, h10, h11, h12, h13, h14, h15, h16, h17⟩ := h
  have e : f_114 (N : Int) s' = 1 := by unfold f_114; rw [h1, if_neg (by omega), if_neg (by omega)]
  have e2 : f_125 (N : Int) w s' = ax_u2 s' 49 N w := by unfold f_125; rw [e, if_neg (by decide), Int.toNat_natCast]
  refine ⟨?_, ?_⟩
  · unfold g_125
    exact ⟨fun _ => trivial, fun _ => ⟨⟨by omega, by omega⟩, trivial⟩⟩
  · rw [e2]
    refine ⟨by simpa [ax_u2] using h1, by simpa [ax_u2] using h2, by simpa [ax_u2] using h3, by simp [ax_u2], by simpa [ax_u2] using h5, by simpa [ax_u2] using h6, by simpa [ax_u2] using h7, by simpa [ax_u2] using h8, by simpa [ax_u2] using h9, by simpa [ax_u2] using h10, by simpa [ax_u2] using h11, by simpa [ax_u2] using h12, by simpa [ax_u2] using h13, ?_, by simpa [ax_u2] using h15, ?_, fun j hj => by rw [← h17 j hj]; simp [ax_u2]⟩
    · intro b n x1 x2 x3
      rw [← h14 b n x1 x2 x3]
      simp [ax_u2, x3]
    · intro b hb
      rw [← h16 b hb]
      exact u2_row _ _ _ (by omega)
/-- which rows these change -/
theorem r123 {x w : Int} {b : Nat} (hb : b ≠ 48) : f_123 x w s b = s b := by
  unfold f_123
  split
  · rfl
  · exact u2_row _ _ _ hb
theorem r125 {x w : Int} {b : Nat} (hb : b ≠ 49) : f_125 x w s b = s b := by
  unfold f_125
  split
  · rfl
  · exact u2_row _ _ _ hb
/-- a leaf of the reference -/
theorem m263 (h1 : s 84 47 = (N : Int)) (h2 : s 84 57 = (K : Int)) (h3 : s 84 59 = (o : Int)) (hN : N < 8200) (ho : o < 8200) (k fi lx nu : Int) :
    g_263 k fi lx nu s ∧ (f_263 k fi lx nu s).1 = (N : Int) ∧ g_264 (N : Int) fi (-1) (f_263 k fi lx nu s).2 ∧ MKM s (f_264 (N : Int) fi (-1) (f_263 k fi lx nu s).2) N K o 0 k fi lx nu := by
  have e : f_263 k fi lx nu s = ((N : Int), (ax_u2 (ax_u2 (ax_u2 (ax_u2 (ax_u2 (ax_u2 (ax_u2 (ax_u2 (ax_u2 s 116 N k) 117 N fi) 118 N lx) 119 N nu) 120 N 0) 121 N (K : Int)) 123 N (s 84 68)) 124 N (s 84 46)) 84 47 ((N + 1 : Nat) : Int))) := by
    unfold f_263
    rw [h1, h2, w32_nat (by omega), Int.toNat_natCast]
  have e59 : (f_263 k fi lx nu s).2 84 59 = (o : Int) := by rw [e]; simpa [ax_u2] using h3
  refine ⟨?_, by rw [e], ?_, ?_⟩
  · unfold g_263
    rw [h1]
    have : 0 ≤ (N : Int) ∧ (N : Int) < 8200 := by omega
    exact ⟨this, this, this, this, this, this, this, this, trivial⟩
  · unfold g_264
    rw [e59]
    have : 0 ≤ (o : Int) ∧ (o : Int) < 8200 := by omega
    exact ⟨this, this, this, trivial⟩
  · unfold f_264
    rw [e59, w32_nat (by omega), Int.toNat_natCast, e]
    refine ⟨by simp [ax_u2], by simpa [ax_u2] using h2, by simp [ax_u2], by simp [ax_u2], by simp [ax_u2], by simp [ax_u2], by simp [ax_u2], by simp [ax_u2], by simp [ax_u2], by simp [ax_u2], by simp [ax_u2], fun i hi => absurd hi (by omega), by simp [ax_u2], by simp [ax_u2], by simp [ax_u2], ?_, ?_, ?_, ?_, ?_⟩
    · intro b n x1 x2 x3
      simp [ax_u2, x3, show b ≠ 84 by omega, show b ≠ 126 by omega, show b ≠ 127 by omega, show b ≠ 128 by omega]
    · intro j hj
      simp [ax_u2]
    · intro b i x1 x2 x3
      simp [ax_u2, x3, show b ≠ 84 by omega, show b ≠ 116 by omega, show b ≠ 117 by omega, show b ≠ 118 by omega, show b ≠ 119 by omega, show b ≠ 120 by omega, show b ≠ 121 by omega, show b ≠ 123 by omega, show b ≠ 124 by omega]
    · intro b hb
      funext x
      simp [ax_u2, show b ≠ 84 by omega, show b ≠ 116 by omega, show b ≠ 117 by omega, show b ≠ 118 by omega, show b ≠ 119 by omega, show b ≠ 120 by omega, show b ≠ 121 by omega, show b ≠ 123 by omega, show b ≠ 124 by omega, show b ≠ 126 by omega, show b ≠ 127 by omega, show b ≠ 128 by omega]
    · intro j x1 x2 x3
      simp [ax_u2, x1, x3]
theorem m266l {s0 : Sg} (hN : N < 8200) (hK : K + c ≤ 16400) (ho : o + c ≤ 8200) : ∀ (r i F : Nat) (s : Sg), i + r = c → s 84 59 = ((o + c : Nat) : Int) → s 84 57 = ((K + i : Nat) : Int) → s 120 N = (i : Int) → s 126 = s0 126 →
    ∃ s' : Sg, j_266_20 (F + r + 1) fi (c : Int) (N : Int) ((o + i : Nat) : Int) s = j_266_72 fi (c : Int) (N : Int) s' ∧ s' 84 59 = ((o + c : Nat) : Int) ∧ s' 84 57 = ((K + c : Nat) : Int) ∧ s' 120 N = (c : Int) ∧ (∀ j, i ≤ j → j < c → s' 125 (K + j) = s0 126 (o + j)) ∧ (∀ j, j < K + i → s' 125 j = s 125 j) ∧ (∀ n, n ≠ N → s' 120 n = s 120 n) ∧ (∀ b, b ≠ 84 → b ≠ 120 → b ≠ 125 → s' b = s b) ∧ (∀ j, j ≠ 57 → s' 84 j = s 84 j) := by
  intro r
  induction r with
  | zero =>
    intro i F s hi h1 h2 h3 h4
    refine ⟨s, ?_, h1, by rw [h2, show K + i = K + c by omega], by rw [h3, show i = c by omega], fun j x y => absurd y (by omega), fun _ _ => rfl, fun _ _ => rfl, fun _ _ _ _ => rfl, fun _ _ => rfl⟩
    rw [j_266_20, if_pos (by omega)]
  | succ r ih =>
    intro i F s hi h1 h2 h3 h4
    rw [j_266_20, if_neg (by omega), gd_pos (by omega), gd_pos (by omega), gd_pos (by omega), gd_pos (by omega), h2, Int.toNat_natCast, Int.toNat_natCast, Int.toNat_natCast, h3, w32_nat (by omega), w32_nat (by omega), w32_nat (by omega), h4]
    obtain ⟨s', d1, d2, d3, d4, d5, d6, d7, d8, d9⟩ := ih (i + 1) F (ax_u2 (ax_u2 (ax_u2 s 125 (K + i) (s0 126 (o + i))) 84 57 ((K + i + 1 : Nat) : Int)) 120 N ((i + 1 : Nat) : Int)) (by omega) (by simpa [ax_u2] using h1) (by simp [ax_u2]; omega) (by simp [ax_u2]) (by rw [← h4]; funext x; simp [ax_u2])
    refine ⟨s', ?_, d2, d3, d4, ?_, ?_, ?_, ?_, ?_⟩
    · rw [show F + (r + 1) = F + r + 1 by omega]
      exact d1
    · intro j x y
      by_cases e : j = i
      · subst e
        rw [d6 _ (by omega)]
        simp [ax_u2]
      · exact d5 j (by omega) y
    · intro j hj
      rw [d6 j (by omega)]
      simp [ax_u2, show j ≠ K + i by omega]
    · intro n hn
      rw [d7 n hn]
      simp [ax_u2, hn]
    · intro b x y w
      rw [d8 b x y w]
      funext e
      simp [ax_u2, x, y, w]
    · intro j hj
      rw [d9 j hj]
      simp [ax_u2, hj]
theorem m266 (h1 : s 84 47 = (N : Int)) (h2 : s 84 57 = (K : Int)) (h3 : s 84 59 = ((o + c : Nat) : Int)) (hN : N < 8200) (hK : K + c ≤ 16400) (ho : o + c ≤ 8200) (ho1 : o < 8200) (k fi lx nu : Int) :
    ∃ s' : Sg, f_266 k fi lx nu (c : Int) s = some s' ∧ MKM s s' N K o c k fi lx nu := by
  have e : f_263 k fi lx nu s = ((N : Int), (ax_u2 (ax_u2 (ax_u2 (ax_u2 (ax_u2 (ax_u2 (ax_u2 (ax_u2 (ax_u2 s 116 N k) 117 N fi) 118 N lx) 119 N nu) 120 N 0) 121 N (K : Int)) 123 N (s 84 68)) 124 N (s 84 46)) 84 47 ((N + 1 : Nat) : Int))) := by
    unfold f_263
    rw [h1, h2, w32_nat (by omega), Int.toNat_natCast]
  have g : g_263 k fi lx nu s := by
    unfold g_263
    rw [h1]
    have : 0 ≤ (N : Int) ∧ (N : Int) < 8200 := by omega
    exact ⟨this, this, this, this, this, this, this, this, trivial⟩
  obtain ⟨F, hF⟩ := FU_split (k := c + 1) (by omega)
  have e59 : (f_263 k fi lx nu s).2 84 59 = ((o + c : Nat) : Int) := by rw [e]; simpa [ax_u2] using h3
  unfold f_266
  rw [gd_pos g]
  simp only [Option.bind_some]
  rw [e59, show (f_263 k fi lx nu s).1 = (N : Int) by rw [e], w32_id (by omega) (by omega), show ((o + c : Nat) : Int) - (c : Int) = ((o + 0 : Nat) : Int) by omega, hF, show F + (c + 1) = F + c + 1 by omega]
  obtain ⟨s', d1, d2, d3, d4, d5, d6, d7, d8, d9⟩ := m266l (s0 := s) (fi := fi) (N := N) (K := K) (o := o) (c := c) hN hK ho c 0 F (f_263 k fi lx nu s).2 (by omega) e59 (by rw [e]; simpa [ax_u2] using h2) (by rw [e]; simp [ax_u2]) (by rw [e]; funext x; simp [ax_u2])
  have e2 : ∀ j, j ≠ 57 → s' 84 j = (f_263 k fi lx nu s).2 84 j := d9
  have hg : g_264 (N : Int) fi (-1) (ax_u2 s' 84 59 (o : Int)) := by
    unfold g_264
    have : 0 ≤ (ax_u2 s' 84 59 (o : Int)) 84 59 ∧ (ax_u2 s' 84 59 (o : Int)) 84 59 < 8200 := by
      rw [u2_same]
      omega
    exact ⟨this, this, this, trivial⟩
  refine ⟨f_264 (N : Int) fi (-1) (ax_u2 s' 84 59 (o : Int)), ?_, ?_⟩
  · rw [d1]
    unfold j_266_72
    rw [d2, w32_id (by omega) (by omega), show ((o + c : Nat) : Int) - (c : Int) = (o : Int) by omega, gd_pos hg]
    rfl
  · unfold f_264
    rw [u2_same, w32_nat (by omega), Int.toNat_natCast]
    have r116 : ∀ b n, b ≠ 84 → b ≠ 120 → b ≠ 125 → s' b n = (f_263 k fi lx nu s).2 b n := fun b n x y w => by rw [d8 b x y w]
    have big : ∀ b n, b ≠ 84 → b ≠ 126 → b ≠ 127 → b ≠ 128 → (ax_u2 (ax_u2 (ax_u2 (ax_u2 (ax_u2 s' 84 59 (o : Int)) 126 o (N : Int)) 127 o fi) 128 o (-1)) 84 59 ((o + 1 : Nat) : Int)) b n = s' b n := by
      intro b n x y w v
      simp [ax_u2, x, y, w, v]
    refine ⟨?_, ?_, by simp [ax_u2], ?_, ?_, ?_, ?_, ?_, ?_, ?_, ?_, ?_, by simp [ax_u2], by simp [ax_u2], by simp [ax_u2], ?_, ?_, ?_, ?_, ?_⟩
    · have := e2 47 (by decide)
      rw [e] at this
      simpa [ax_u2] using this
    · simpa [ax_u2] using d3
    · rw [big 116 N (by decide) (by decide) (by decide) (by decide), r116 116 N (by decide) (by decide) (by decide), e]; simp [ax_u2]
    · rw [big 117 N (by decide) (by decide) (by decide) (by decide), r116 117 N (by decide) (by decide) (by decide), e]; simp [ax_u2]
    · rw [big 118 N (by decide) (by decide) (by decide) (by decide), r116 118 N (by decide) (by decide) (by decide), e]; simp [ax_u2]
    · rw [big 119 N (by decide) (by decide) (by decide) (by decide), r116 119 N (by decide) (by decide) (by decide), e]; simp [ax_u2]
    · rw [big 120 N (by decide) (by decide) (by decide) (by decide), d4]
    · rw [big 121 N (by decide) (by decide) (by decide) (by decide), r116 121 N (by decide) (by decide) (by decide), e]; simp [ax_u2]
    · rw [big 123 N (by decide) (by decide) (by decide) (by decide), r116 123 N (by decide) (by decide) (by decide), e]; simp [ax_u2]
    · rw [big 124 N (by decide) (by decide) (by decide) (by decide), r116 124 N (by decide) (by decide) (by decide), e]; simp [ax_u2]
    · intro i hi
      rw [big 125 _ (by decide) (by decide) (by decide) (by decide)]
      exact d5 i (by omega) hi
    · intro b n x1 x2 x3
      rw [big b n (by omega) (by omega) (by omega) (by omega)]
      by_cases h120 : b = 120
      · subst h120
        rw [d7 n x3, e]
        simp [ax_u2, x3]
      · rw [r116 b n (by omega) h120 (by omega), e]
        simp [ax_u2, x3, show b ≠ 84 by omega]
    · intro j hj
      rw [big 125 _ (by decide) (by decide) (by decide) (by decide), d6 j (by omega), e]
      simp [ax_u2]
    · intro b i x1 x2 x3
      have : s' b i = s b i := by
        rw [r116 b i (by omega) (by omega) (by omega), e]
        simp [ax_u2, show b ≠ 84 by omega, show b ≠ 116 by omega, show b ≠ 117 by omega, show b ≠ 118 by omega, show b ≠ 119 by omega, show b ≠ 120 by omega, show b ≠ 121 by omega, show b ≠ 123 by omega, show b ≠ 124 by omega]
      rw [← this]
      simp [ax_u2, x3, show b ≠ 84 by omega]
    · intro b hb
      funext x
      rw [big b x (by omega) (by omega) (by omega) (by omega), r116 b x (by omega) (by omega) (by omega), e]
      simp [ax_u2, show b ≠ 84 by omega, show b ≠ 116 by omega, show b ≠ 117 by omega, show b ≠ 118 by omega, show b ≠ 119 by omega, show b ≠ 120 by omega, show b ≠ 121 by omega, show b ≠ 123 by omega, show b ≠ 124 by omega]
    · intro j x1 x2 x3
      have := e2 j x2
      rw [e] at this
      simp [ax_u2, x1] at this
      simp [ax_u2, x3, this]
end MK
/-! JOINT STEPS: brackets, links, new nodes. -/
/-- what is asked of a node at once -/
def NOK (T : TT) (lw : Nat → Int) (sm : Sg) (n : Nat) : Prop :=
  (sm 116 n = 0 → 1 ≤ T.vl (sm 119 n).toNat ∧ T.vl (sm 119 n).toNat ≤ 32 ∧ T.vl (sm 118 n).toNat < 2 ^ (T.vl (sm 119 n).toNat).toNat) ∧
  (sm 116 n = 4 ∨ sm 116 n = 5 → 1 ≤ T.vl (sm 119 n).toNat ∧ T.vl (sm 119 n).toNat ≤ 32) ∧
  (sm 116 n = 7 → T.vl (sm 118 n).toNat ≤ 31 ∧ T.vl (sm 119 n).toNat ≤ 31 ∧ T.vl (sm 119 n).toNat ≤ T.vl (sm 118 n).toNat) ∧
  (sm 116 n = 2 ∨ sm 116 n = 3 → lw (T.vl (sm 118 n).toNat).toNat = 0)
theorem NOK.congr {T : TT} {lw : Nat → Int} {sm sm' : Sg} {n : Nat} (h : ∀ c, 116 ≤ c → c ≤ 124 → sm' c n = sm c n) : NOK T lw sm' n ↔ NOK T lw sm n := by
  unfold NOK
  rw [h 116 (by decide) (by decide), h 118 (by decide) (by decide), h 119 (by decide) (by decide)]
section JN
variable {T : TT} {sc sm sc1 sm1 sc2 sm2 : Sg} {sn rp : Int} {N K o c l0 l1 n0 : Nat} {k st fi cnt wd nu lv fi' lx nm : Int}
theorem use_m {w : Int} {n : Nat} (h : OBR T sc sm o l0 l1 (if w ≤ lev (sm 116 n) then 2 else 0)) (hn : sm 126 o = (n : Int)) (h0 : 0 ≤ sm 116 n) (h1 : sm 116 n ≤ 21) (hn8 : n < 8200) (ho : o < 8200) (hl : l1 ≤ 8192) :
    ∃ sm' : Sg, f_265 (o : Int) w sm = some sm' ∧ (∀ k, l0 ≤ k → k < l1 → LF T sc sm' k) ∧ (∀ k, k < l0 ∨ l1 ≤ k → sm' 91 k = sm 91 k) ∧ (∀ c, c ≠ 91 → sm' c = sm c) := by
  unfold f_265
  rw [gd_pos (by omega), Int.toNat_natCast]
  rcases h with ⟨b1, b2⟩ | ⟨p, c, b1, b2, b3, b4, b5, b6, b7, b8⟩
  · rw [if_pos (by omega)]
    exact ⟨sm, rfl, b2, fun _ _ => rfl, fun _ _ => rfl⟩
  · rw [if_neg (by omega), gd_pos (by omega), gd_pos (by omega), hn, Int.toNat_natCast, f268 _ h0 h1]
    have t61 : ∀ k, DR T k → T.tk k ≠ 61 := fun k hd => by
      rcases hd with d | d
      · rw [d.1]; decide
      · rw [d.1]; decide
    by_cases d : w ≤ lev (sm 116 n)
    · rw [if_pos d] at b6 b7
      rw [if_pos d, gd_pos (by omega), gd_pos (by omega), gd_pos (by omega), gd_pos (by omega), b1, Int.toNat_natCast, b2, gd_pos (by omega), Int.toNat_natCast]
      refine ⟨_, rfl, ?_, ?_, ?_⟩
      · intro k x y
        by_cases ep : k = p
        · subst ep
          obtain ⟨q1, q2, q3, q4, q5⟩ := b6
          have t6 := t61 _ q5
          refine ⟨?_, ?_, ?_, fun _ => q5, fun y => by rw [q1] at y; exact absurd y (by decide)⟩
          · rw [q1]; simp [ax_u2]
          · rw [q1]; simp [ax_u2, q3, t6]
          · rw [q1]; simp [ax_u2, q4]
        · by_cases ec : k = c
          · subst ec
            obtain ⟨q1, q2, q3, q4, q5⟩ := b7
            have t6 := t61 _ q5
            refine ⟨?_, ?_, ?_, fun _ => q5, fun y => by rw [q1] at y; exact absurd y (by decide)⟩
            · rw [q1]; simp [ax_u2]
            · rw [q1]; simp [ax_u2, q3, t6]
            · rw [q1]; simp [ax_u2, q4]
          · exact (b8 k x y ep ec).congr rfl (by simp [ax_u2, ep, ec]) (by simp [ax_u2]) (by simp [ax_u2])
      · intro k x
        simp [ax_u2, show k ≠ p by omega, show k ≠ c by omega]
      · intro b hb
        funext x
        simp [ax_u2, hb]
    · rw [if_neg d] at b6 b7
      rw [if_neg d]
      refine ⟨sm, rfl, ?_, fun _ _ => rfl, fun _ _ => rfl⟩
      intro k x y
      by_cases ep : k = p
      · subst ep
        obtain ⟨q1, q2, q3, q4, q5⟩ := b6
        have t6 := t61 _ q5
        refine ⟨?_, ?_, ?_, fun _ => q5, fun y => by rw [q1] at y; exact absurd y (by decide)⟩
        · rw [q1, q2]; simp
        · rw [q1, q3]; simp [t6]
        · rw [q1, q4]; simp
      · by_cases ec : k = c
        · subst ec
          obtain ⟨q1, q2, q3, q4, q5⟩ := b7
          have t6 := t61 _ q5
          refine ⟨?_, ?_, ?_, fun _ => q5, fun y => by rw [q1] at y; exact absurd y (by decide)⟩
          · rw [q1, q2]; simp
          · rw [q1, q3]; simp [t6]
          · rw [q1, q4]; simp
        · exact b8 k x y ep ec
theorem want_c {w L : Int} (hc : CC T sc) (h : OBR T sc sm o l0 l1 2) (hz : l1 ≤ T.z) (h8 : T.z ≤ 8192) (hL : sc 66 10 = L) (h11 : sc 66 11 = sm 128 o) (h12 : sm 128 o = -1 → sc 66 12 = -1) (h13 : ∀ p : Nat, sm 128 o = (p : Int) → sc 66 12 = sm 132 p) :
    ∃ sc' : Sg, f_63 w sc = some sc' ∧ OBR T sc' sm o l0 l1 (if w ≤ L then 2 else 0) ∧ (∀ k, k < l0 ∨ l1 ≤ k → sc' 45 k = sc 45 k) ∧ (∀ c, c ≠ 45 → sc' c = sc c) := by
  unfold f_63
  rw [hL]
  by_cases d : w ≤ L
  · rw [if_pos d, if_pos d]
    exact ⟨sc, rfl, h, fun _ _ => rfl, fun _ _ => rfl⟩
  · rw [if_neg d, if_neg d]
    rcases h with ⟨b1, b2⟩ | ⟨p, c, b1, b2, b3, b4, b5, b6, b7, b8⟩
    · have e1 : f_99 (sc 66 11) 0 sc = sc := by unfold f_99; rw [if_pos (by rw [h11, b1]; decide)]
      have e2 : f_99 (sc 66 12) 0 sc = sc := by unfold f_99; rw [if_pos (by rw [h12 b1]; decide)]
      have g1 : g_99 (sc 66 11) 0 sc := by rw [h11, b1]; exact ⟨fun _ => trivial, fun h => absurd (by decide) h⟩
      have g2 : g_99 (sc 66 12) 0 sc := by rw [h12 b1]; exact ⟨fun _ => trivial, fun h => absurd (by decide) h⟩
      rw [gd_pos g1, e1]
      simp only [Option.bind_some]
      rw [gd_pos g2, e2]
      exact ⟨sc, rfl, Or.inl ⟨b1, b2⟩, fun _ _ => rfl, fun _ _ => rfl⟩
    · have hz9 := hc.1
      have e1 : f_99 (sc 66 11) 0 sc = ax_u2 sc 45 p 0 := by unfold f_99; rw [h11, b1, if_neg (by omega), if_neg (by omega), Int.toNat_natCast]
      have g1 : g_99 (sc 66 11) 0 sc := by rw [h11, b1]; exact ⟨fun _ => trivial, fun h => ⟨fun _ => trivial, fun _ => ⟨⟨by omega, by omega⟩, trivial⟩⟩⟩
      have e12 : (ax_u2 sc 45 p 0) 66 12 = (c : Int) := by
        have := h13 p b1
        rw [b2] at this
        simpa [ax_u2] using this
      have e2 : f_99 (c : Int) 0 (ax_u2 sc 45 p 0) = ax_u2 (ax_u2 sc 45 p 0) 45 c 0 := by
        have : (ax_u2 sc 45 p 0) 39 9 = (T.z : Int) := by simpa [ax_u2] using hz9
        unfold f_99
        rw [this, if_neg (by omega), if_neg (by omega), Int.toNat_natCast]
      have g2 : g_99 (c : Int) 0 (ax_u2 sc 45 p 0) := ⟨fun _ => trivial, fun h => ⟨fun _ => trivial, fun _ => ⟨⟨by omega, by omega⟩, trivial⟩⟩⟩
      rw [gd_pos g1, e1]
      simp only [Option.bind_some]
      rw [e12, gd_pos g2, e2]
      refine ⟨_, rfl, Or.inr ⟨p, c, b1, b2, b3, b4, b5, ?_, ?_, ?_⟩, ?_, ?_⟩
      · obtain ⟨q1, q2⟩ := b6
        exact ⟨by simp [ax_u2], q2⟩
      · obtain ⟨q1, q2⟩ := b7
        exact ⟨by simp [ax_u2], q2⟩
      · intro k x y u v
        exact (b8 k x y u v).congr (by simp [ax_u2, u, v]) rfl rfl rfl
      · intro k x
        simp [ax_u2, show k ≠ p by omega, show k ≠ c by omega]
      · intro b hb
        funext x
        simp [ax_u2, hb]
/-- a root is linked -/
theorem link_c {x y : Int} {r : Nat} (hx : x = (r : Int)) (h46 : sc 46 7 = (N : Int)) (hr : r < N) (hN : N ≤ 8192) : g_126 x y sc ∧ f_126 x y sc = ax_u2 sc 52 r y := by
  subst hx
  have e : f_114 (r : Int) sc = 1 := by unfold f_114; rw [h46, if_neg (by omega), if_neg (by omega)]
  exact ⟨⟨fun _ => trivial, fun _ => ⟨⟨by omega, by omega⟩, trivial⟩⟩, by unfold f_126; rw [e, if_neg (by decide), Int.toNat_natCast]⟩
theorem ND.link (h : ND T sc sm N K) {r : Nat} {y : Int} (hr : ¬ CHD sm N r) : ND T (ax_u2 sc 52 r y) sm N K := by
  refine ⟨by simpa [ax_u2] using h.1, h.2.1, h.2.2.1, fun n hn => ?_⟩
  refine (h.2.2.2 n hn).congr (fun c x y w => by simp [ax_u2, w]) (fun x hx => ?_) (fun _ _ _ => rfl) (fun _ _ => rfl) (Nat.le_refl _)
  have : x ≠ r := fun e => by
    subst e
    obtain ⟨n', c, q, i, b1, b2⟩ := hx
    exact hr ⟨n', c, q, i, by omega, b2⟩
  simp [ax_u2, this]
theorem ND.make (h : ND T sc sm N K) (hC : MKC sc sc2 N k st fi cnt wd nu lv) (hM : MKM sm sm2 N K o c k fi' lx nm) (hcnt : cnt = (c : Int)) (hst : st = fi') {stn : Nat} (hstn : st = (stn : Int)) (hsz : stn < T.z) (hk0 : 0 ≤ k) (hk1 : k ≤ 21) (hA : AR k c)
    (hfi : fi = (if 0 < c then sm 126 o else -1)) (hch : ∀ i, i < c → ∃ x : Nat, sm 126 (o + i) = (x : Int) ∧ x < N ∧ sc 52 x = (if i + 1 < c then sm 126 (o + (i + 1)) else -1)) (hV : NV T sc2 sm2 N) : ND T sc2 sm2 (N + 1) (K + c) := by
  obtain ⟨p1, p2, p3, p4, p5, p6, p7, p8, p9, p10, p11, p12, p13, p14, p15, p16, p17⟩ := hC
  obtain ⟨q1, q2, q3, q4, q5, q6, q7, q8, q9, q10, q11, q12, q13, q14, q15, q16, q17, q18, q19, q20⟩ := hM
  refine h.add p1 q1 q2 (by omega) (fun b n x y _ w => p14 b n x y (by omega)) (fun x hx => ?_) (fun b n x y w => q16 b n x y (by omega)) q17 ?_
  · obtain ⟨n, _, _, _, b1, _, _, _, _, b6⟩ := h.chd hx
    exact p14 52 x (by decide) (by decide) (by omega)
  · refine ⟨c, K, q8, q9, Nat.le_refl _, by rw [p8, hcnt], by rw [p2, q4], by rw [q4]; exact hk0, by rw [q4]; exact hk1, by rw [q4]; exact hA, by rw [p5, q5, hst], ⟨stn, by rw [q5, ← hst, hstn], hsz⟩, ?_, ?_, hV⟩
    · rw [p6, hfi]
      by_cases d : 0 < c
      · rw [if_pos d, if_pos d]
        have := q12 0 d
        rw [Nat.add_zero, Nat.add_zero] at this
        exact this.symm
      · rw [if_neg d, if_neg d]
    · intro i hi
      obtain ⟨x, b1, b2, b3⟩ := hch i hi
      refine ⟨x, by rw [q12 i hi]; exact b1, b2, ?_⟩
      rw [p14 52 x (by decide) (by decide) (by omega), b3]
      by_cases d : i + 1 < c
      · rw [if_pos d, if_pos d, q12 (i + 1) d]
      · rw [if_neg d, if_neg d]
/-- a stretch with a new node on top, not a call -/
theorem SEG.addn (h : SEG T sc sm sn rp K l0 l1 n0 N) (hM : MKM sm sm2 N K o c k fi' lx nm) (h48 : ∀ n, n < N → sc2 48 n = sc 48 n) (h37 : sc2 37 = sc 37) (hk : k ≠ 3) (hl : N + 1 + l0 ≤ l1 + n0) (hch : ∀ i, i < c → (n0 : Int) ≤ sm 126 (o + i)) (hsn : sm 84 68 = sn) (hrp : sm 84 46 = rp) (hw : 1 ≤ k → k ≤ 3 → sc2 48 N = sc 37 (T.vl lx.toNat).toNat) : SEG T sc2 sm2 sn rp (K + c) l0 l1 n0 (N + 1) := by
  obtain ⟨q1, q2, q3, q4, q5, q6, q7, q8, q9, q10, q11, q12, q13, q14, q15, q16, q17, q18, q19, q20⟩ := hM
  obtain ⟨a1, a2, a3, a4, a5, a6, a7, a8, a9, a10⟩ := h.congr (sc' := sc2) (sm' := sm2) (K' := K + c) (fun b n x y _ w => q16 b n x y (by omega)) (fun n _ w => h48 n w) h37 q17 (by omega)
  refine ⟨by omega, a2, by omega, ?_, ?_, ?_, ?_, ?_, a9, a10⟩
  · intro m x y
    by_cases e : m = N
    · subst e
      exact ⟨c, K, q8, q9, Nat.le_refl _, fun i hi => by rw [q12 i hi]; exact hch i hi⟩
    · exact a4 m x (by omega)
  · intro m x y
    by_cases e : m = N
    · subst e
      rw [q4, q6, q10, q11, hsn, hrp, h37]
      exact ⟨rfl, rfl, hw⟩
    · exact a5 m x (by omega)
  · intro m x y u
    by_cases e : m = N
    · subst e
      rw [q4] at u
      exact absurd u hk
    · exact a6 m x (by omega) u
  · intro i x y u v
    obtain ⟨m, d1, d2, d3⟩ := a7 i x y u v
    exact ⟨m, d1, by omega, d3⟩
  · intro m m' x y x' y' u u' e
    by_cases e1 : m = N
    · subst e1
      rw [q4] at u
      exact absurd u hk
    · by_cases e2 : m' = N
      · subst e2
        rw [q4] at u'
        exact absurd u' hk
      · exact a8 m m' x (by omega) x' (by omega) u u' e
/-- a call: its name, its bracket, what is in it, its bracket -/
theorem SEG.call {x r : Nat} (h : SEG T sc sm sn rp K (x + 2) r n0 N) (hM : MKM sm sm2 N K o c 3 fi' (x : Int) nm) (h48 : ∀ n, n < N → sc2 48 n = sc 48 n) (h37 : sc2 37 = sc 37) (hch : ∀ i, i < c → (n0 : Int) ≤ sm 126 (o + i)) (hsn : sm 84 68 = sn) (hrp : sm 84 46 = rp) (hw : sc2 48 N = sc 37 (T.vl x).toNat)
    (ht1 : T.tk x = 1) (ht2 : T.tk (x + 1) = 40) (ht3 : T.tk r = 41) (hp1 : PRX (T.tk (x - 1)) (T.tk x)) (hp2 : PRX (T.tk x) (T.tk (x + 1))) (hp3 : PRX (T.tk (r - 1)) (T.tk r)) : SEG T sc2 sm2 sn rp (K + c) x (r + 1) n0 (N + 1) := by
  obtain ⟨q1, q2, q3, q4, q5, q6, q7, q8, q9, q10, q11, q12, q13, q14, q15, q16, q17, q18, q19, q20⟩ := hM
  obtain ⟨a1, a2, a3, a4, a5, a6, a7, a8, a9, a10⟩ := h.congr (sc' := sc2) (sm' := sm2) (K' := K + c) (fun b n x y _ w => q16 b n x y (by omega)) (fun n _ w => h48 n w) h37 q17 (by omega)
  refine ⟨by omega, by omega, by omega, ?_, ?_, ?_, ?_, ?_, ?_, ?_⟩
  · intro m x y
    by_cases e : m = N
    · subst e
      exact ⟨c, K, q8, q9, Nat.le_refl _, fun i hi => by rw [q12 i hi]; exact hch i hi⟩
    · exact a4 m x (by omega)
  · intro m u v
    by_cases e : m = N
    · subst e
      rw [q4, q6, q10, q11, hsn, hrp, h37]
      refine ⟨rfl, rfl, fun _ _ => ?_⟩
      rw [Int.toNat_natCast]
      exact hw
    · exact a5 m u (by omega)
  · intro m u v w
    by_cases e : m = N
    · subst e
      exact ⟨x, by omega, by omega, q6, ht1, ht2⟩
    · obtain ⟨i, d1, d2, d3⟩ := a6 m u (by omega) w
      exact ⟨i, by omega, by omega, d3⟩
  · intro i u v e1 e2
    by_cases e : i = x
    · subst e
      exact ⟨N, by omega, by omega, q4, q6⟩
    · by_cases e3 : i = x + 1
      · subst e3
        rw [ht2] at e1
        exact absurd e1 (by decide)
      · by_cases e4 : i = r
        · subst e4
          rw [ht3] at e1
          exact absurd e1 (by decide)
        · obtain ⟨m, d1, d2, d3⟩ := a7 i (by omega) (by omega) e1 e2
          exact ⟨m, d1, by omega, d3⟩
  · intro m m' u v u' v' w w' e
    by_cases e1 : m = N
    · by_cases e2 : m' = N
      · omega
      · obtain ⟨i, d1, d2, d3, _⟩ := a6 m' u' (by omega) w'
        subst e1
        omega
    · by_cases e2 : m' = N
      · obtain ⟨i, d1, d2, d3, _⟩ := a6 m u (by omega) w
        subst e2
        omega
      · exact a8 m m' u (by omega) u' (by omega) w w' e
  · intro i u v
    by_cases e : i = x
    · subst e; exact hp1
    · by_cases e3 : i = x + 1
      · subst e3; exact hp2
      · by_cases e4 : i = r
        · subst e4; exact hp3
        · exact a9 i (by omega) (by omega)
  · have e : r + 1 - x = 1 + (1 + ((r - (x + 2)) + 1)) := by omega
    rw [e, lcT_add, lcT_add, lcT_add]
    have s1 : lcT T x 1 ≤ 1 := by simp only [lcT]; split <;> omega
    have s2 : lcT T (x + 1) 1 = 0 := by simp [lcT, ht2]
    have s3 : lcT T (x + 1 + 1 + (r - (x + 2))) 1 = 0 := by rw [show x + 1 + 1 + (r - (x + 2)) = r by omega]; simp [lcT, ht3]
    rw [s2, s3]
    have : x + 1 + 1 = x + 2 := rfl
    rw [this]
    omega
end JN
