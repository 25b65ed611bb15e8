/-! WIDTHS: what a node's is; the class's side. -/
def kd (sm : Sg) (q i : Nat) : Nat := (sm 125 (q + i)).toNat
def osum (ω : Nat → Int) : Nat → Int
  | 0 => 0
  | c + 1 => osum ω c + ω c
/-- a node's width, from those of its parts; -2 where it is wrong -/
noncomputable def WSP (T : TT) (sc sm : Sg) (n i c : Nat) (ω : Nat → Int) : Int :=
  if sm 116 n = 0 then T.vl (sm 119 n).toNat
  else if sm 116 n = 1 then (if sc 48 n = 0 then T.vl (sm 97 i).toNat else sc 48 n)
  else if sm 116 n = 2 then (if ω 0 = iw T sm i then T.vl (sm 97 i).toNat else -2)
  else if sm 116 n = 3 then cite (∀ j, j < c → ω j = T.vl (sm 105 ((sm 98 i).toNat + j)).toNat) (T.vl (sm 97 i).toNat) (-2)
  else if sm 116 n = 4 ∨ sm 116 n = 5 then (if ω 0 ≤ T.vl (sm 119 n).toNat then T.vl (sm 119 n).toNat else -2)
  else if sm 116 n = 6 then (if osum ω c ≤ 32 then osum ω c else -2)
  else if sm 116 n = 7 then (if T.vl (sm 118 n).toNat < ω 0 then T.vl (sm 118 n).toNat - T.vl (sm 119 n).toNat + 1 else -2)
  else if sm 116 n = 8 ∨ sm 116 n = 9 ∨ sm 116 n = 13 ∨ sm 116 n = 14 then ω 0
  else if sm 116 n = 21 then (if ω 0 = 1 ∧ ω 1 = ω 2 then ω 1 else -2)
  else (if ω 0 = ω 1 then (if sm 116 n < 18 then ω 0 else 1) else -2)
def wv (v : Int) : Int := if v = -2 then 0 else v
/-- the class's nodes -/
def NKD (sc sm : Sg) (N n c q : Nat) : Prop := n < N ∧ N ≤ 8192 ∧ sc 46 7 = (N : Int) ∧ sc 53 n = (c : Int) ∧ sc 51 n = (if 0 < c then sm 125 q else -1) ∧ (∀ i, i < c → ∃ x : Nat, sm 125 (q + i) = (x : Int) ∧ x < n ∧ sc 52 x = (if i + 1 < c then sm 125 (q + (i + 1)) else -1))
section WCL
variable {T : TT} {sc sm s s' : Sg} {n' S P A N K C w i n c q : Nat} {t : Nat → Int} {r v : Int}
theorem osum_b {ω : Nat → Int} : ∀ c, (∀ j, j < c → 1 ≤ ω j ∧ ω j ≤ 32) → (c : Int) ≤ osum ω c ∧ osum ω c ≤ 32 * (c : Int) := by
  intro c
  induction c with
  | zero => intro _; exact ⟨by simp [osum], by simp [osum]⟩
  | succ c ih =>
    intro h
    have a := ih (fun j hj => h j (by omega))
    have b := h c (by omega)
    simp only [osum]
    omega
theorem osum_c {ω ω' : Nat → Int} : ∀ c, (∀ j, j < c → ω j = ω' j) → osum ω c = osum ω' c := by
  intro c
  induction c with
  | zero => intro _; rfl
  | succ c ih =>
    intro h
    simp only [osum]
    rw [ih (fun j hj => h j (by omega)), h c (by omega)]
theorem nd117 (hN : sc 46 7 = (N : Int)) (hn : n < N) (h8 : N ≤ 8192) (r46 : s 46 7 = sc 46 7) : g_117 (n : Int) s ∧ f_117 (n : Int) s = s 48 n ∧ g_116 (n : Int) s ∧ f_116 (n : Int) s = s 47 n ∧ g_118 (n : Int) s ∧ f_118 (n : Int) s = s 53 n ∧ g_120 (n : Int) s ∧ f_120 (n : Int) s = s 51 n ∧ g_121 (n : Int) s ∧ f_121 (n : Int) s = s 52 n ∧ g_122 (n : Int) s ∧ f_122 (n : Int) s = s 50 n ∧ g_115 (n : Int) s ∧ f_115 (n : Int) s = s 49 n ∧ (∀ z : Int, g_123 (n : Int) z s ∧ f_123 (n : Int) z s = ax_u2 s 48 n z) := by
  have e114 : f_114 (n : Int) s = 1 := by unfold f_114; rw [r46, hN, if_neg (by omega), if_neg (by omega)]
  have g : 0 ≤ (n : Int) ∧ (n : Int) < 8192 := by omega
  have gg : (f_114 (n : Int) s = 0 → True) ∧ (¬ (f_114 (n : Int) s = 0) → ((0 ≤ (n : Int) ∧ (n : Int) < 8192) ∧ True)) := ⟨fun _ => trivial, fun _ => ⟨g, trivial⟩⟩
  refine ⟨gg, ?_, gg, ?_, gg, ?_, gg, ?_, gg, ?_, gg, ?_, gg, ?_, fun z => ⟨gg, ?_⟩⟩
  · unfold f_117; rw [e114, if_neg (by decide), Int.toNat_natCast]
  · unfold f_116; rw [e114, if_neg (by decide), Int.toNat_natCast]
  · unfold f_118; rw [e114, if_neg (by decide), Int.toNat_natCast]
  · unfold f_120; rw [e114, if_neg (by decide), Int.toNat_natCast]
  · unfold f_121; rw [e114, if_neg (by decide), Int.toNat_natCast]
  · unfold f_122; rw [e114, if_neg (by decide), Int.toNat_natCast]
  · unfold f_115; rw [e114, if_neg (by decide), Int.toNat_natCast]
  · unfold f_123; rw [e114, if_neg (by decide), Int.toNat_natCast]
theorem nd117n : g_117 (-1) s ∧ f_117 (-1) s = 0 ∧ g_121 (-1) s ∧ f_121 (-1) s = -1 := by
  have e114 : f_114 (-1) s = 0 := by unfold f_114; rw [if_pos (by decide)]
  refine ⟨⟨fun _ => trivial, fun y => absurd e114 y⟩, ?_, ⟨fun _ => trivial, fun y => absurd e114 y⟩, ?_⟩
  · unfold f_117; rw [e114, if_pos rfl]
  · unfold f_121; rw [e114, if_pos rfl]
/-- the j-th part, or none -/
theorem NKD.at (h : NKD sc sm N n c q) {j : Nat} (hj : j < c) : sm 125 (q + j) = ((kd sm q j : Nat) : Int) ∧ kd sm q j < n ∧ sc 52 (kd sm q j) = (if j + 1 < c then ((kd sm q (j + 1) : Nat) : Int) else -1) := by
  obtain ⟨h1, h2, h3, h4, h5, h6⟩ := h
  obtain ⟨x, x1, x2, x3⟩ := h6 j hj
  have e : kd sm q j = x := by unfold kd; rw [x1, Int.toNat_natCast]
  rw [e]
  refine ⟨x1, x2, ?_⟩
  rw [x3]
  by_cases d : j + 1 < c
  · obtain ⟨y, y1, y2, y3⟩ := h6 (j + 1) d
    rw [if_pos d, if_pos d, y1]
    unfold kd
    rw [y1, Int.toNat_natCast]
  · rw [if_neg d, if_neg d]
/-- where one stands at the j-th part -/
def cp (sm : Sg) (q c j : Nat) : Int := if j < c then ((kd sm q j : Nat) : Int) else -1
theorem NKD.first (h : NKD sc sm N n c q) : sc 51 n = cp sm q c 0 := by
  unfold cp
  rw [h.2.2.2.2.1]
  by_cases d : 0 < c
  · rw [if_pos d, if_pos d]
    have := (h.at d).1
    rw [Nat.add_zero] at this
    exact this
  · rw [if_neg d, if_neg d]
theorem NKD.next (h : NKD sc sm N n c q) (y : ∀ b, b ≠ 30 → b ≠ 48 → s b = sc b) {j : Nat} (hj : j < c) : g_117 (cp sm q c j) s ∧ f_117 (cp sm q c j) s = s 48 (kd sm q j) ∧ g_121 (cp sm q c j) s ∧ f_121 (cp sm q c j) s = cp sm q c (j + 1) := by
  obtain ⟨a1, a2, a3⟩ := h.at hj
  obtain ⟨h1, h2, h3, -⟩ := h
  obtain ⟨q1, q2, q3, q4, q5, q6, q7, q8, q9, q10, -⟩ := nd117 (s := s) h3 (n := kd sm q j) (by omega) h2 (by rw [y 46 (by decide) (by decide)])
  unfold cp
  rw [if_pos hj]
  refine ⟨q1, q2, q9, ?_⟩
  rw [q10, y 52 (by decide) (by decide), a3]
theorem NKD.cnt (h : NKD sc sm N n c q) (y : ∀ b, b ≠ 30 → b ≠ 48 → s b = sc b) : g_118 (n : Int) s ∧ f_118 (n : Int) s = (c : Int) ∧ g_120 (n : Int) s ∧ f_120 (n : Int) s = cp sm q c 0 := by
  have e := h.first
  obtain ⟨h1, h2, h3, h4, -⟩ := h
  obtain ⟨q1, q2, q3, q4, q5, q6, q7, q8, -⟩ := nd117 (s := s) h3 (n := n) h1 h2 (by rw [y 46 (by decide) (by decide)])
  exact ⟨q5, by rw [q6, y 53 (by decide) (by decide), h4], q7, by rw [q8, y 51 (by decide) (by decide), e]⟩
theorem c22 (h : NKD sc sm N n c q) (hc : c ≤ 8192) (y : ∀ b, b ≠ 30 → b ≠ 48 → s b = sc b) : f_22 (n : Int) s = some (p01 (∀ j, j < c → s 48 (kd sm q j) ≠ 0)) := by
  obtain ⟨k1, k2, k3, k4⟩ := h.cnt y
  have lp : ∀ (r l F : Nat), l + r = c → j_22_11 (F + r + 1) (n : Int) (cp sm q c l) (l : Int) s = some (p01 (∀ j, l ≤ j → j < c → s 48 (kd sm q j) ≠ 0)) := by
    intro r
    induction r with
    | zero =>
      intro l F hl
      rw [j_22_11, gd_pos k1, k2, if_pos (by omega), p01_y (fun j x z => absurd z (by omega))]
    | succ r ih =>
      intro l F hl
      obtain ⟨m1, m2, m3, m4⟩ := h.next y (j := l) (by omega)
      rw [show F + (r + 1) + 1 = (F + r + 1) + 1 by omega, j_22_11, gd_pos k1, k2, if_neg (by omega), gd_pos m1, m2]
      by_cases d : s 48 (kd sm q l) = 0
      · rw [if_neg (fun e => e d), p01_n (fun u => u l (Nat.le_refl _) (by omega) d)]
      · rw [if_pos d, gd_pos m3, m4, w32_nat (by omega), ih (l + 1) F (by omega)]
        congr 1
        exact p01_c ⟨fun u j x z => by
          by_cases e : j = l
          · rw [e]; exact d
          · exact u j (by omega) z, fun u j x z => u j (by omega) z⟩
  unfold f_22
  obtain ⟨F, hF⟩ := FU_split (k := c + 1) (by omega)
  have e0 := lp c 0 F (by omega)
  rw [show F + c + 1 = FU by omega] at e0
  rw [gd_pos k3, k4]
  have e1 : j_22_11 FU (n : Int) (cp sm q c 0) 0 s = _ := e0
  rw [e1]
  congr 1
  exact p01_c ⟨fun u j z => u j (Nat.zero_le _) z, fun u j _ z => u j z⟩
theorem c30 (h : NKD sc sm N n c q) (hc : c ≤ 8192) (y : ∀ b, b ≠ 30 → b ≠ 48 → s b = sc b) (hb : ∀ j, j < c → 1 ≤ s 48 (kd sm q j) ∧ s 48 (kd sm q j) ≤ 32) : f_30 (n : Int) s = some (if osum (fun j => s 48 (kd sm q j)) c ≤ 32 then osum (fun j => s 48 (kd sm q j)) c else 0) := by
  obtain ⟨k1, k2, k3, k4⟩ := h.cnt y
  have lp : ∀ (r l F : Nat), l + r = c → j_30_14 (F + r + 1) (n : Int) (osum (fun j => s 48 (kd sm q j)) l) (cp sm q c l) (l : Int) s = j_30_53 (osum (fun j => s 48 (kd sm q j)) c) s := by
    intro r
    induction r with
    | zero =>
      intro l F hl
      rw [j_30_14, gd_pos k1, k2, if_pos (by omega), show l = c by omega]
    | succ r ih =>
      intro l F hl
      obtain ⟨m1, m2, m3, m4⟩ := h.next y (j := l) (by omega)
      have ob := osum_b (ω := fun j => s 48 (kd sm q j)) l (fun j hj => hb j (by omega))
      have hl2 := hb l (by omega)
      rw [show F + (r + 1) + 1 = (F + r + 1) + 1 by omega, j_30_14, gd_pos k1, k2, if_neg (by omega), gd_pos m1, m2, gd_pos m3, m4, w32_nat (by omega), w32_id (by omega) (by omega)]
      exact ih (l + 1) F (by omega)
  unfold f_30
  obtain ⟨F, hF⟩ := FU_split (k := c + 1) (by omega)
  have e0 := lp c 0 F (by omega)
  rw [show F + c + 1 = FU by omega] at e0
  rw [gd_pos k3, k4]
  have e1 : j_30_14 FU (n : Int) 0 (cp sm q c 0) 0 s = _ := e0
  rw [e1]
  unfold j_30_53
  by_cases d : osum (fun j => s 48 (kd sm q j)) c ≤ 32
  · rw [if_neg (by omega), if_pos d]
  · rw [if_pos (by omega), if_neg d]
theorem c119 (h : NKD sc sm N n c q) (y : ∀ b, b ≠ 30 → b ≠ 48 → s b = sc b) {j : Nat} (hj : j < c) (hj8 : j ≤ 3) : f_119 (n : Int) (j : Int) s = some ((kd sm q j : Nat) : Int) := by
  obtain ⟨k1, k2, k3, k4⟩ := h.cnt y
  have lp : ∀ (r l F : Nat), l + r = j → j_119_9 (F + r + 1) (j : Int) (cp sm q c l) (l : Int) s = some (cp sm q c j) := by
    intro r
    induction r with
    | zero =>
      intro l F hl
      rw [j_119_9, if_pos (by omega), show l = j by omega]
    | succ r ih =>
      intro l F hl
      obtain ⟨m1, m2, m3, m4⟩ := h.next y (j := l) (by omega)
      rw [show F + (r + 1) + 1 = (F + r + 1) + 1 by omega, j_119_9, if_neg (by omega), gd_pos m3, m4, w32_nat (by omega)]
      exact ih (l + 1) F (by omega)
  unfold f_119
  obtain ⟨F, hF⟩ := FU_split (k := j + 1) (by omega)
  have e0 := lp j 0 F (by omega)
  rw [show F + j + 1 = FU by omega] at e0
  rw [gd_pos k3, k4]
  have e1 : j_119_9 FU (j : Int) (cp sm q c 0) 0 s = _ := e0
  rw [e1]
  unfold cp
  rw [if_pos hj]
end WCL
