/-! SIGNS, KINDS, and the reference's lexemes. -/
def sgl : List Int := [59, 44, 46, 61, 40, 41, 123, 125, 91, 93, 58, 63, 43, 45, 42, 38, 124, 94, 126, 60]
def wdl : List Int := [119, 111, 114, 100, 32, 114, 101, 103, 32, 109, 101, 109, 32, 100, 101, 102, 32, 105, 110, 115, 32, 105, 102, 32, 101, 108, 115, 101, 32, 114, 101, 112, 32, 114, 97, 105, 115, 101, 32, 115, 120, 32, 122, 120, 32, 99, 97, 116, 32]
def lvl : List Int := [10, 10, 10, 10, 10, 10, 10, 9, 8, 8, 7, 6, 6, 5, 5, 4, 3, 2, 1, 1, 1, 0]
def wdk : List Int := [2003792484, 7497063, 7169389, 6579558, 6909555, 26982, 1701606245, 7497072, 491260572517, 29560, 31352, 6513012]
/-- what never changes: the strings, the levels -/
def KO (s : Sg) : Prop := s 2 1 = 0 ∧ s 4 1 = 0 ∧ (∀ k, k < 49 → s 3 k = wdl.getD k 0) ∧ (∀ k, k < 20 → s 5 k = sgl.getD k 0) ∧ (∀ k, k < 22 → s 1 k = lvl.getD k 0)
def isS (c : Int) : Bool := decide (c = 38 ∨ c = 40 ∨ c = 41 ∨ c = 42 ∨ c = 43 ∨ c = 44 ∨ c = 45 ∨ c = 46 ∨ c = 58 ∨ c = 59 ∨ c = 60 ∨ c = 61 ∨ c = 63 ∨ c = 91 ∨ c = 93 ∨ c = 94 ∨ c = 123 ∨ c = 124 ∨ c = 125 ∨ c = 126)
/-- the reference's number of a kind -/
def km (k : Int) : Int := if k = 0 then 0 else if k = 1 then 1 else if k = 2 then 2 else if k = 16 then 30 else if k = 17 then 31 else if k = 18 then 32 else if k = 19 then 33 else if k = 20 then 34 else if k = 21 then 35 else if k = 22 then 36 else if k = 23 then 37 else if k = 24 then 38 else if k = 25 then 39 else if k = 26 then 40 else if k = 27 then 41 else if k = 38 then 22 else if k = 40 then 11 else if k = 41 then 12 else if k = 42 then 21 else if k = 43 then 19 else if k = 44 then 8 else if k = 45 then 20 else if k = 46 then 9 else if k = 58 then 17 else if k = 59 then 7 else if k = 60 then 26 else if k = 61 then 10 else if k = 63 then 18 else if k = 91 then 15 else if k = 93 then 16 else if k = 94 then 24 else if k = 123 then 13 else if k = 124 then 23 else if k = 125 then 14 else if k = 126 then 25 else if k = 128 then 3 else if k = 129 then 4 else if k = 130 then 5 else if k = 131 then 6 else -9
/-- the kind of a name: a word's, or 1 -/
def wkc (v : Nat) : Int := if v = 2003792484 then 16 else if v = 7497063 then 17 else if v = 7169389 then 18 else if v = 6579558 then 19 else if v = 6909555 then 20 else if v = 26982 then 21 else if v = 1701606245 then 22 else if v = 7497072 then 23 else if v = 491260572517 then 24 else if v = 29560 then 25 else if v = 31352 then 26 else if v = 6513012 then 27 else 1
theorem idx_l {s : Sg} (x : Int) : ∀ (r k F : Nat), k + r = 20 → ∃ y : Int, j_299_5_7 (F + r + 1) 20 x (k : Int) s = some y ∧ (0 ≤ y ↔ ∃ e, k ≤ e ∧ e < 20 ∧ s 5 e = x) := by
  intro r
  induction r with
  | zero =>
    intro k F h
    refine ⟨-1, ?_, ?_⟩
    · rw [j_299_5_7, if_pos (by omega)]
    · constructor
      · intro h; omega
      · intro ⟨e, h1, h2, _⟩; omega
  | succ r ih =>
    intro k F h
    rw [j_299_5_7, if_neg (by omega), gd_pos (by omega), Int.toNat_natCast]
    by_cases c : s 5 k = x
    · refine ⟨(k : Int), ?_, ?_⟩
      · rw [if_neg (by simp [c])]
      · exact ⟨fun _ => ⟨k, by omega, by omega, c⟩, fun _ => by omega⟩
    · obtain ⟨y, e1, e2⟩ := ih (k + 1) F (by omega)
      refine ⟨y, ?_, ?_⟩
      · rw [if_pos c, w32_nat (by omega), show F + (r + 1) = F + r + 1 by omega]
        exact e1
      · rw [e2]
        constructor
        · intro ⟨e, h1, h2, h3⟩
          exact ⟨e, by omega, h2, h3⟩
        · intro ⟨e, h1, h2, h3⟩
          by_cases x1 : e = k
          · subst x1; exact absurd h3 c
          · exact ⟨e, by omega, h2, h3⟩
theorem c274 {s : Sg} (h : KO s) {c : Int} (h0 : 0 ≤ c) (h1 : c < 256) : ∃ y : Int, f_274_4 (ax_u16 c) s = some y ∧ (0 ≤ y ↔ isS c = true) := by
  obtain ⟨-, a2, -, a4, -⟩ := h
  have u : ax_u16 c = c := Int.emod_eq_of_lt h0 (by omega)
  obtain ⟨F, hF⟩ := FU_split (k := 21) (by omega)
  obtain ⟨y, e1, e2⟩ := idx_l (s := s) (ax_w8 c) 20 0 F (by omega)
  refine ⟨y, ?_, ?_⟩
  · unfold f_274_4 f_277_4 f_276_4 f_272_4 f_275_4 f_297_5 f_298 f_299_5
    rw [u, a2, if_neg (by decide), gd_pos (by omega)]
    simp only [Option.bind_some]
    rw [if_neg (show ¬ c < 0 by omega), if_neg (show ¬ 255 < c by omega), if_pos (by decide)]
    have e20 : f_291 (ax_ishr 20 0) 20 s = 20 := by
      unfold f_291
      decide
    have e0 : f_292 0 0 s = 0 := rfl
    rw [e20, e0, if_pos (by decide), hF, show F + 21 = F + 20 + 1 by omega]
    have e1' : j_299_5_7 (F + 20 + 1) 20 (ax_w8 c) 0 s = some y := e1
    rw [e1']
    rfl
  · rw [e2]
    constructor
    · intro ⟨e, _, he, h3⟩
      rw [a4 e he] at h3
      have hw : ax_w8 c = c ∨ ax_w8 c = c - 256 := by
        unfold ax_w8
        by_cases x : c < 128
        · left; rw [Int.bmod_eq_of_le] <;> omega
        · right
          rw [Int.bmod_def]
          split <;> omega
      have hl : ∀ e, e < 20 → 38 ≤ sgl.getD e 0 ∧ isS (sgl.getD e 0) = true := by decide
      have h4 := hl e he
      rcases hw with w | w
      · rw [w] at h3; rw [← h3]; exact h4.2
      · rw [w] at h3; omega
    · intro hs
      have hw : ∀ {d : Int}, isS d = true → ax_w8 d = d := by
        intro d hd
        have := of_decide_eq_true hd
        unfold ax_w8
        rw [Int.bmod_eq_of_le] <;> omega
      rw [hw hs]
      have hd := of_decide_eq_true hs
      have hl : ∀ c : Int, (c = 38 ∨ c = 40 ∨ c = 41 ∨ c = 42 ∨ c = 43 ∨ c = 44 ∨ c = 45 ∨ c = 46 ∨ c = 58 ∨ c = 59 ∨ c = 60 ∨ c = 61 ∨ c = 63 ∨ c = 91 ∨ c = 93 ∨ c = 94 ∨ c = 123 ∨ c = 124 ∨ c = 125 ∨ c = 126) → ∃ e, 0 ≤ e ∧ e < 20 ∧ sgl.getD e 0 = c := by
        intro c hc
        rcases hc with rfl | rfl | rfl | rfl | rfl | rfl | rfl | rfl | rfl | rfl | rfl | rfl | rfl | rfl | rfl | rfl | rfl | rfl | rfl | rfl
        · exact ⟨15, by decide, by decide, by decide⟩
        · exact ⟨4, by decide, by decide, by decide⟩
        · exact ⟨5, by decide, by decide, by decide⟩
        · exact ⟨14, by decide, by decide, by decide⟩
        · exact ⟨12, by decide, by decide, by decide⟩
        · exact ⟨1, by decide, by decide, by decide⟩
        · exact ⟨13, by decide, by decide, by decide⟩
        · exact ⟨2, by decide, by decide, by decide⟩
        · exact ⟨10, by decide, by decide, by decide⟩
        · exact ⟨0, by decide, by decide, by decide⟩
        · exact ⟨19, by decide, by decide, by decide⟩
        · exact ⟨3, by decide, by decide, by decide⟩
        · exact ⟨11, by decide, by decide, by decide⟩
        · exact ⟨8, by decide, by decide, by decide⟩
        · exact ⟨9, by decide, by decide, by decide⟩
        · exact ⟨17, by decide, by decide, by decide⟩
        · exact ⟨6, by decide, by decide, by decide⟩
        · exact ⟨16, by decide, by decide, by decide⟩
        · exact ⟨7, by decide, by decide, by decide⟩
        · exact ⟨18, by decide, by decide, by decide⟩
      obtain ⟨e, q1, q2, q3⟩ := hl c hd
      exact ⟨e, q1, q2, by rw [a4 e q2]; exact q3⟩
theorem c95b (c d : Int) (s : Sg) : f_95 c d s = -1 ∨ (f_95 c d s = 128 ∧ c = 61 ∧ d = 61) ∨ (f_95 c d s = 129 ∧ c = 33 ∧ d = 61) ∨ (f_95 c d s = 130 ∧ c = 60 ∧ d = 60) ∨ (f_95 c d s = 131 ∧ c = 62 ∧ d = 62) := by
  unfold f_95
  repeat' split
  all_goals omega
theorem c95n (c d : Int) (s : Sg) : f_95 c d s = -1 ↔ ¬ (c = 61 ∧ d = 61 ∨ c = 33 ∧ d = 61 ∨ c = 60 ∧ d = 60 ∨ c = 62 ∧ d = 62) := by
  unfold f_95
  repeat' split
  all_goals omega
section CS
variable {s : Sg} {n : Nat} {t : Nat → Int}
/-- a sign -/
theorem c88 {z : Nat} (h : CT s n t) (hK : KO s) (hz : s 39 9 = (z : Int)) (hz8 : z < 8193) (i : Nat) (hi : i < n) :
    f_88 (i : Int) s = (if f_95 (t i) (chs t n (i + 1)) s = -1 then (if isS (t i) then some (((i + 1 : Nat) : Int), AD s z (t i) (i : Int) ((i + 1 : Nat) : Int) 0) else some (-1, s)) else some (((i + 2 : Nat) : Int), AD s z (f_95 (t i) (chs t n (i + 1)) s) (i : Int) ((i + 2 : Nat) : Int) 0)) ∧ (f_95 (t i) (chs t n (i + 1)) s ≠ -1 → i + 2 ≤ n) := by
  have h8 := h.2.1
  obtain ⟨e, g⟩ := h.at i
  rw [h.ch hi] at e
  obtain ⟨e1, g1⟩ := h.at (i + 1)
  have hb := (h.2.2 i hi).2
  have hl : f_95 (t i) (chs t n (i + 1)) s ≠ -1 → i + 2 ≤ n := by
    intro hh
    apply Decidable.byContradiction
    intro hc
    have : chs t n (i + 1) = -1 := if_neg (by omega)
    rw [this] at hh
    exact hh ((c95n _ _ _).mpr (by omega))
  refine ⟨?_, hl⟩
  unfold f_88
  rw [w32_nat (i := i) (by omega), gd_pos g, gd_pos g1, e, e1, w32_id (z := (i : Int) + 2) (by omega) (by omega)]
  by_cases c : f_95 (t i) (chs t n (i + 1)) s = -1
  · rw [if_pos c, if_pos c]
    obtain ⟨y, q1, q2⟩ := c274 hK hb.1 hb.2
    rw [q1]
    show (if 0 ≤ y then _ else _) = _
    by_cases d : isS (t i) = true
    · rw [if_pos (q2.mpr d), if_pos d]
      obtain ⟨p1, p2⟩ := c78 hz hz8 (i := i) (j := i + 1) (by omega) (by omega) (t i) 0
      rw [gd_pos p2, p1]
      rfl
    · rw [if_neg (fun x => d (q2.mp x)), if_neg d]
  · rw [if_neg c, if_neg c]
    have := hl c
    obtain ⟨p1, p2⟩ := c78 hz hz8 (i := i) (j := i + 2) (by omega) (by omega) (f_95 (t i) (chs t n (i + 1)) s) 0
    rw [show (i : Int) + 2 = ((i + 2 : Nat) : Int) by omega, gd_pos p2, p1]
    rfl
/-- the reference's text -/
def MT (s : Sg) (n : Nat) (t : Nat → Int) : Prop := s 84 3 = (n : Int) ∧ n ≤ 8192 ∧ ∀ i, i < n → s 86 i = t i ∧ 0 ≤ t i ∧ t i < 256
theorem MT.at (h : MT s n t) (i : Nat) : f_224 (i : Int) s = chs t n i ∧ g_224 (i : Int) s := by
  obtain ⟨a, b⟩ := m224 h.1 h.2.1 i
  refine ⟨a.trans ?_, b⟩
  unfold chs
  split
  · exact (h.2.2 i (by assumption)).1
  · rfl
theorem MT.congr {s' : Sg} (h : MT s n t) (h1 : s' 84 3 = s 84 3) (h2 : s' 86 = s 86) : MT s' n t := by
  unfold MT
  rw [h1, h2]
  exact h
theorem m230 {z : Nat} (h : MT s n t) (hz : s 84 11 = (z : Int)) (hz8 : z < 8200) (i : Nat) (hi : i < n) :
    f_230 (i : Int) s = (if f_95 (t i) (chs t n (i + 1)) s = -1 then (if isS (t i) then some (((i + 1 : Nat) : Int), ax_u2 s 88 z (km (t i))) else some (((i + 1 : Nat) : Int), f_227 1 (i : Int) s)) else some (((i + 2 : Nat) : Int), ax_u2 s 88 z (km (f_95 (t i) (chs t n (i + 1)) s)))) := by
  have h8 := h.2.1
  obtain ⟨e, g⟩ := h.at i
  have ec : chs t n i = t i := if_pos hi
  rw [ec] at e
  obtain ⟨e1, g1⟩ := h.at (i + 1)
  unfold f_230
  rw [w32_nat (i := i) (by omega), gd_pos g, gd_pos g1, e, e1]
  generalize chs t n (i + 1) = d
  generalize t i = c
  have w1 : ax_w32 ((i : Int) + 1) = ((i + 1 : Nat) : Int) := w32_nat (by omega)
  have w2 : ax_w32 ((i : Int) + 2) = ((i + 2 : Nat) : Int) := by rw [w32_id (by omega) (by omega)]; omega
  have hg : 0 ≤ s 84 11 ∧ s 84 11 < 8200 := by omega
  have hn : (s 84 11).toNat = z := by omega
  have two : ∀ k : Int, 0 ≤ k → j_230_80 (i : Int) c k s = some (((i + 2 : Nat) : Int), ax_u2 s 88 z k) := by
    intro k hk
    unfold j_230_80
    rw [if_neg (by omega), gd_pos hg, hn, w2]
  have one : j_230_80 (i : Int) c (-1) s = (if isS c then some (((i + 1 : Nat) : Int), ax_u2 s 88 z (km c)) else some (((i + 1 : Nat) : Int), f_227 1 (i : Int) s)) := by
    unfold j_230_80
    rw [if_pos (by decide)]
    by_cases hc : isS c = true
    · rw [if_pos hc]
      have hd := of_decide_eq_true hc
      rcases hd with rfl | rfl | rfl | rfl | rfl | rfl | rfl | rfl | rfl | rfl | rfl | rfl | rfl | rfl | rfl | rfl | rfl | rfl | rfl | rfl <;> simp [gd_pos hg, hn, w1, km]
    · rw [if_neg hc]
      have hd : ¬ (c = 38 ∨ c = 40 ∨ c = 41 ∨ c = 42 ∨ c = 43 ∨ c = 44 ∨ c = 45 ∨ c = 46 ∨ c = 58 ∨ c = 59 ∨ c = 60 ∨ c = 61 ∨ c = 63 ∨ c = 91 ∨ c = 93 ∨ c = 94 ∨ c = 123 ∨ c = 124 ∨ c = 125 ∨ c = 126) := fun x => hc (decide_eq_true x)
      simp only [not_or] at hd
      obtain ⟨d0, d1, d2, d3, d4, d5, d6, d7, d8, d9, d10, d11, d12, d13, d14, d15, d16, d17, d18, d19⟩ := hd
      simp [w1, d0, d1, d2, d3, d4, d5, d6, d7, d8, d9, d10, d11, d12, d13, d14, d15, d16, d17, d18, d19]
  have k128 : km 128 = 3 := by decide
  have k129 : km 129 = 4 := by decide
  have k130 : km 130 = 5 := by decide
  have k131 : km 131 = 6 := by decide
  rcases c95b c d s with q | ⟨q, rfl, rfl⟩ | ⟨q, rfl, rfl⟩ | ⟨q, rfl, rfl⟩ | ⟨q, rfl, rfl⟩
  · rw [q, if_pos rfl, ← one]
    have hq := (c95n c d s).mp q
    unfold j_230_30 j_230_46
    repeat' split
    all_goals first | rfl | (exfalso; omega)
  · rw [q, if_neg (by decide), k128, if_neg (by decide), if_neg (by decide), two 3 (by decide)]
  · simp [q, k129, j_230_30, two]
  · simp [q, k130, j_230_30, j_230_46, two]
  · simp [q, k131, j_230_30, j_230_46, two]
end CS
