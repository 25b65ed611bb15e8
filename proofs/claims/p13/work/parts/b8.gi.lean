/-! BETWEEN TWO CALLS. -/
section GII
variable {s s' : Sg} {n : Nat} {a b c d : Int}
/-- all that was read, when nothing was wrong -/
def KN (s : Sg) : Prop := ∃ (T : TT) (t : Nat → Int) (n : Nat) (sc0 sm0 sc1 sm1 x y : Sg) (S P A N K C : Nat), TWF T ∧ POS T ∧ TX T sc0 sm0 n t ∧ XO T sc0 ∧ PS0 T sc0 sm0 sc1 sm1 T.z S P A N K C 1 ∧ CHO sc1 sm1 x y N ∧ y 84 6 = 0 ∧ (∀ c, c = 1 ∨ 30 ≤ c ∧ c ≤ 81 → s c = x c) ∧ (∀ c, c = 86 ∨ 88 ≤ c ∧ c ≤ 135 → s c = y c) ∧ (∀ j, j ≠ 0 → j ≠ 1 → j ≠ 5 → j ≠ 9 → s 84 j = y 84 j)
def GT (s : Sg) : Prop := ∃ n : Nat, s 27 1 = (n : Int) ∧ n ≤ 8192 ∧ s 84 1 = (n : Int) ∧ ∀ i, i < n → s 28 i % 256 = s 85 i ∧ 0 ≤ s 85 i ∧ s 85 i < 256
def GP (s : Sg) : Prop := ∃ L : Nat, s 82 2 = (L : Int) ∧ L ≤ 16384 ∧ s 84 9 = (L : Int) ∧ ∀ i, i < L → s 83 i % 256 = s 87 i ∧ 0 ≤ s 87 i ∧ s 87 i < 256
def GK (s : Sg) : Prop := (s 27 2 = 0 ∧ s 84 5 = 0 ∧ s 54 6 = 0 ∧ s 46 7 = 0 ∧ s 39 9 = 0) ∨ (s 27 2 = 1 ∧ s 84 5 = 1 ∧ KN s)
def GIV (s : Sg) : Prop := NMI s ∧ GT s ∧ GP s ∧ GK s ∧ RB s ∧ RM s
theorem GT.cg (h : GT s) (h1 : s' 27 1 = s 27 1) (h2 : s' 28 = s 28) (h3 : s' 84 1 = s 84 1) (h4 : s' 85 = s 85) : GT s' := by
  unfold GT at *
  rw [h1, h2, h3, h4]
  exact h
theorem GP.cg (h : GP s) (h1 : s' 82 2 = s 82 2) (h2 : s' 83 = s 83) (h3 : s' 84 9 = s 84 9) (h4 : s' 87 = s 87) : GP s' := by
  unfold GP at *
  rw [h1, h2, h3, h4]
  exact h
theorem KN.cg (h : KN s) (h1 : ∀ c, c = 1 ∨ 30 ≤ c ∧ c ≤ 81 → s' c = s c) (h2 : ∀ c, c = 86 ∨ 88 ≤ c ∧ c ≤ 135 → s' c = s c) (h3 : ∀ j, j ≠ 0 → j ≠ 1 → j ≠ 5 → j ≠ 9 → s' 84 j = s 84 j) : KN s' := by
  obtain ⟨T, t, n, sc0, sm0, sc1, sm1, x, y, S, P, A, N, K, C, a1, a2, a3, a4, a5, a6, a7, a8, a9, a10⟩ := h
  exact ⟨T, t, n, sc0, sm0, sc1, sm1, x, y, S, P, A, N, K, C, a1, a2, a3, a4, a5, a6, a7, fun c u => (h1 c u).trans (a8 c u), fun c u => (h2 c u).trans (a9 c u), fun j u1 u2 u3 u4 => (h3 j u1 u2 u3 u4).trans (a10 j u1 u2 u3 u4)⟩
theorem GK.cg (h : GK s) (h0 : s' 27 2 = s 27 2) (h5 : s' 84 5 = s 84 5) (h1 : ∀ c, c = 1 ∨ 30 ≤ c ∧ c ≤ 81 → s' c = s c) (h2 : ∀ c, c = 86 ∨ 88 ≤ c ∧ c ≤ 135 → s' c = s c) (h3 : ∀ j, j ≠ 0 → j ≠ 1 → j ≠ 5 → j ≠ 9 → s' 84 j = s 84 j) : GK s' := by
  rcases h with ⟨a1, a2, a3, a4, a5⟩ | ⟨a1, a2, a3⟩
  · exact Or.inl ⟨h0.trans a1, h5.trans a2, by rw [h1 54 (by decide)]; exact a3, by rw [h1 46 (by decide)]; exact a4, by rw [h1 39 (by decide)]; exact a5⟩
  · exact Or.inr ⟨h0.trans a1, h5.trans a2, a3.cg h1 h2 h3⟩
theorem NMI.cg (h : NMI s) (h0 : ∀ c, 1 ≤ c ∧ c ≤ 5 ∨ 31 ≤ c ∧ c ≤ 35 → s' c = s c) : NMI s' := by
  obtain ⟨h1, h2, h3, h4, h5⟩ := h
  refine ⟨h1.row (h0 1 (by decide)) (h0 2 (by decide)) (h0 3 (by decide)) (h0 4 (by decide)) (h0 5 (by decide)), by rw [h0 31 (by decide)]; exact h2, by rw [h0 31 (by decide)]; exact h3, by rw [h0 31 (by decide)]; exact h4, ?_⟩
  have ni : ∀ m, NI s m → NI s' m := fun m u => u.congr (by rw [h0 31 (by decide)]) (h0 32 (by decide)) (h0 33 (by decide)) (h0 34 (by decide)) (h0 35 (by decide))
  rcases h5 with u | ⟨m, u1, u2, u3, u4⟩
  · exact Or.inl (ni 0 u)
  · refine Or.inr ⟨m, ni m u1, u2, u3, ?_⟩
    unfold WD at *
    rw [h0 34 (by decide), h0 35 (by decide)]
    exact u4
/-- rows that the class keeps its answer and the reference its mark in -/
def QF (s s' : Sg) : Prop := (∀ c, c ≠ 84 → c ≠ 136 → s' c = s c) ∧ (∀ j, j ≠ 0 → s' 84 j = s 84 j)
theorem QF.refl (s : Sg) : QF s s := ⟨fun _ _ _ => rfl, fun _ _ => rfl⟩
theorem QF.trans {s2 : Sg} (h : QF s s') (k : QF s' s2) : QF s s2 := ⟨fun c u v => (k.1 c u v).trans (h.1 c u v), fun j u => (k.2 j u).trans (h.2 j u)⟩
theorem QF.a136 (s : Sg) (v : Int) : QF s (ax_u2 s 136 (0 : Int).toNat v) := ⟨fun c _ v => u2_row _ _ _ v, fun j _ => by rw [u2_row _ _ _ (by decide)]⟩
theorem QF.a84 (s : Sg) (v : Int) : QF s (ax_u2 s 84 0 v) := ⟨fun c u _ => u2_row _ _ _ u, fun j u => u2_col _ _ _ u⟩
theorem QF.gi (h : QF s s') (g : GIV s) : GIV s' := by
  obtain ⟨g1, g2, g3, g4, g5, g6⟩ := g
  have r : ∀ c, c < 84 ∨ 84 < c ∧ c < 136 → s' c = s c := fun c u => h.1 c (by omega) (by omega)
  refine ⟨g1.cg (fun c u => r c (by omega)), g2.cg (by rw [r 27 (by decide)]) (r 28 (by decide)) (h.2 1 (by decide)) (r 85 (by decide)), g3.cg (by rw [r 82 (by decide)]) (r 83 (by decide)) (h.2 9 (by decide)) (r 87 (by decide)), g4.cg (by rw [r 27 (by decide)]) (h.2 5 (by decide)) (fun c u => r c (by omega)) (fun c u => r c (by omega)) (fun j u _ _ _ => h.2 j u), ?_, ?_⟩
  · unfold RB at *
    rw [r 74 (by decide)]; exact g5
  · unfold RM at *
    rw [h.2 72 (by decide)]; exact g6
/-- FEED -/
theorem byt {k : Int} (hk : k = 24 ∨ k = 16 ∨ k = 8 ∨ k = 0) (a : Int) : ax_w8 (ax_w8 (ax_iushr a k)) % 256 = ax_iand (ax_ishr a k) 255 := by
  rw [w8_mod, w8_mod, iand255]
  have key : ∀ m : Nat, m = 24 ∨ m = 16 ∨ m = 8 ∨ m = 0 → (BitVec.ofInt 32 a >>> m).toInt % 256 = ((BitVec.ofInt 32 a).sshiftRight m).toInt % 256 := by
    intro m hm
    generalize BitVec.ofInt 32 a = v
    have lt : v.toNat < 4294967296 := v.isLt
    rw [BitVec.toInt_sshiftRight, BitVec.toInt_eq_toNat_bmod, BitVec.toNat_ushiftRight, BitVec.toInt_eq_toNat_bmod, Nat.shiftRight_eq_div_pow, Int.shiftRight_eq_div_pow]
    unfold Int.bmod
    rcases hm with e | e | e | e <;> subst e <;> simp only [Nat.reducePow, Int.natCast_ediv] <;> split <;> split <;> omega
  rcases hk with e | e | e | e <;> subst e
  · exact key 24 (by decide)
  · exact key 16 (by decide)
  · exact key 8 (by decide)
  · exact key 0 (by decide)
def pt1 (s : Sg) (n : Nat) (b : Int) : Sg := ax_u2 (ax_u2 s 28 n b) 27 1 ((n + 1 : Nat) : Int)
def ptl : Sg → Nat → List Int → Sg
  | s, _, [] => s
  | s, n, b :: L => ptl (pt1 s n b) (n + 1) L
theorem ptl_row {q : Nat} (h : q ≠ 27) (h' : q ≠ 28) : ∀ (L : List Int) (s : Sg) (n : Nat), ptl s n L q = s q := by
  intro L
  induction L with
  | nil => intro s n; rfl
  | cons b L ih => intro s n; rw [ptl, ih]; unfold pt1; rw [u2_row _ _ _ h, u2_row _ _ _ h']
theorem ptl_j {j : Nat} (h : j ≠ 1) : ∀ (L : List Int) (s : Sg) (n : Nat), ptl s n L 27 j = s 27 j := by
  intro L
  induction L with
  | nil => intro s n; rfl
  | cons b L ih => intro s n; rw [ptl, ih]; unfold pt1; rw [u2_col _ _ _ h, u2_row _ _ _ (by decide)]
theorem ptl_len : ∀ (L : List Int) (s : Sg) (n : Nat), s 27 1 = (n : Int) → ptl s n L 27 1 = ((n + L.length : Nat) : Int) := by
  intro L
  induction L with
  | nil => intro s n h; rw [ptl, h]; rfl
  | cons b L ih =>
    intro s n h
    rw [ptl, ih _ (n + 1) (by unfold pt1; rw [u2_at, if_pos rfl]), List.length_cons]
    congr 1
    omega
theorem ptl_at : ∀ (L : List Int) (s : Sg) (n : Nat), (∀ i, i < n → ptl s n L 28 i = s 28 i) ∧ (∀ i, i < L.length → ptl s n L 28 (n + i) = L.getD i 0) := by
  intro L
  induction L with
  | nil => intro s n; exact ⟨fun _ _ => rfl, fun i hi => absurd hi (by simp)⟩
  | cons b L ih =>
    intro s n
    obtain ⟨i1, i2⟩ := ih (pt1 s n b) (n + 1)
    have r : ∀ i, pt1 s n b 28 i = if i = n then b else s 28 i := fun i => by unfold pt1; rw [u2_row _ _ _ (by decide), u2_at]
    refine ⟨fun i hi => ?_, fun i hi => ?_⟩
    · rw [ptl, i1 i (by omega), r, if_neg (by omega)]
    · rw [List.length_cons] at hi
      rw [ptl]
      cases i with
      | zero =>
        show ptl (pt1 s n b) (n + 1) L 28 n = b
        rw [i1 n (by omega), r, if_pos rfl]
      | succ i => rw [show n + (i + 1) = n + 1 + i by omega, i2 i (by omega)]; rfl
def ba (a k : Int) : Int := ax_w8 (ax_w8 (ax_iushr a k))
theorem c13s {F : Nat} {k : Int} (h1 : s 27 1 = (n : Int)) (hn : n < 8192) (k0 : 0 ≤ k) (k1 : k ≤ 24) : j_13_3 (F + 1) a k s = j_13_3 F a (k - 8) (pt1 s n (ba a k)) := by
  rw [j_13_3, if_neg (by omega), h1, if_neg (by omega), gd_pos (by omega), Int.toNat_natCast, w32_nat (by omega)]
  unfold j_13_42
  rw [w32_id (by omega) (by omega)]
  rfl
theorem c13 (h1 : s 27 1 = (n : Int)) (hn : n + 4 ≤ 8192) : f_13 a s = some (ptl s n [ba a 24, ba a 16, ba a 8, ba a 0]) := by
  have p1 : ∀ (s : Sg) (m : Nat) (b : Int), pt1 s m b 27 1 = ((m + 1 : Nat) : Int) := fun s m b => by unfold pt1; rw [u2_at, if_pos rfl]
  obtain ⟨F, hF⟩ := FU_split (k := 5) (by omega)
  unfold f_13
  rw [show FU = ((((F + 1) + 1) + 1) + 1) + 1 by omega, c13s h1 (by omega) (by decide) (by decide), c13s (p1 _ _ _) (by omega) (by decide) (by decide), c13s (p1 _ _ _) (by omega) (by decide) (by decide), c13s (p1 _ _ _) (by omega) (by decide) (by decide), j_13_3, if_pos (by decide)]
  rfl
def rby (a b c d e : Int) : Int := ax_iand (ax_ishr ((if 4 ≤ e then (if 8 ≤ e then (if 12 ≤ e then d else c) else b) else a) : Int) (ax_w32 (24 - (ax_w32 (8 * (ax_irem e 4)))))) 255
theorem m193l : ∀ (r l F : Nat) (s : Sg), l + r = 16 → s 84 1 = (n : Int) → n + 16 ≤ 8192 → ∃ s' : Sg, j_193_27 (F + r + 1) a b c d (l : Int) s = j_193_101 s' ∧ (∀ q, q ≠ 85 → s' q = s q) ∧ (∀ i, i < n + l → s' 85 i = s 85 i) ∧ (∀ e : Nat, l ≤ e → e < 16 → s' 85 (n + e) = rby a b c d (e : Int)) := by
  intro r
  induction r with
  | zero =>
    intro l F s hl h1 hn
    exact ⟨s, by rw [j_193_27, if_pos (by omega)], fun _ _ => rfl, fun _ _ => rfl, fun e x y => absurd y (by omega)⟩
  | succ r ih =>
    intro l F s hl h1 hn
    obtain ⟨s', e1, e2, e3, e4⟩ := ih (l + 1) F (ax_u2 s 85 (n + l) (rby a b c d (l : Int))) (by omega) (by rw [u2_row _ _ _ (by decide)]; exact h1) hn
    refine ⟨s', ?_, fun q u => by rw [e2 q u, u2_row _ _ _ u], fun i hi => by rw [e3 i (by omega), u2_col _ _ _ (by omega)], fun e x y => ?_⟩
    · rw [show F + (r + 1) + 1 = (F + r + 1) + 1 by omega, j_193_27, if_neg (by omega), h1, w32_add (by omega), gd_pos (by omega), Int.toNat_natCast, w32_nat (by omega)]
      exact e1
    · by_cases q : e = l
      · rw [q, e3 (n + l) (by omega), u2_at, if_pos rfl]
      · exact e4 e (by omega) y
theorem irem4 {x : Int} (h0 : 0 ≤ x) (h1 : x < 100) : ax_irem x 4 = x % 4 := by
  unfold ax_irem
  rw [Int32.toInt_sub, Int32.toInt_mul, Int32.toInt_div, Int32.toInt_ofInt, Int32.toInt_ofInt, Int.bmod_eq_of_le (n := x) (by simp only [Int32.size]; omega) (by simp only [Int32.size]; omega), Int.bmod_eq_of_le (n := 4) (by decide) (by decide), Int.tdiv_eq_ediv_of_nonneg h0]
  have : (x / 4).bmod (2 ^ 32) = x / 4 := by rw [Int.bmod_eq_of_le] <;> omega
  rw [this]
  have : (x / 4 * 4).bmod (2 ^ 32) = x / 4 * 4 := by rw [Int.bmod_eq_of_le] <;> omega
  rw [this, Int.bmod_eq_of_le] <;> omega
theorem rby_sh {e : Nat} (h : e < 16) : ax_w32 (24 - (ax_w32 (8 * (ax_irem (e : Int) 4)))) = 24 - 8 * ((e % 4 : Nat) : Int) := by
  rw [irem4 (by omega) (by omega), w32_id (z := 8 * ((e : Int) % 4)) (by omega) (by omega), w32_id (by omega) (by omega)]
  omega
theorem rby_e {e : Nat} (h : e < 16) {v k : Int} (hv : ((if 4 ≤ (e : Int) then (if 8 ≤ (e : Int) then (if 12 ≤ (e : Int) then d else c) else b) else a) : Int) = v) (hk : 24 - 8 * ((e % 4 : Nat) : Int) = k) : rby a b c d (e : Int) = ax_iand (ax_ishr v k) 255 := by
  unfold rby
  rw [rby_sh h, hv, hk]
theorem fd16 {L : List Int} (hL : [ba a 24, ba a 16, ba a 8, ba a 0, ba b 24, ba b 16, ba b 8, ba b 0, ba c 24, ba c 16, ba c 8, ba c 0, ba d 24, ba d 16, ba d 8, ba d 0] = L) : ∀ e : Nat, e < 16 → L.getD e 0 % 256 = rby a b c d (e : Int) ∧ 0 ≤ rby a b c d (e : Int) ∧ rby a b c d (e : Int) < 256 := by
  intro e he
  have rb : 0 ≤ rby a b c d (e : Int) ∧ rby a b c d (e : Int) < 256 := by
    unfold rby
    rw [iand255]
    omega
  refine ⟨?_, rb⟩
  rw [← hL]
  have : e = 0 ∨ e = 1 ∨ e = 2 ∨ e = 3 ∨ e = 4 ∨ e = 5 ∨ e = 6 ∨ e = 7 ∨ e = 8 ∨ e = 9 ∨ e = 10 ∨ e = 11 ∨ e = 12 ∨ e = 13 ∨ e = 14 ∨ e = 15 := by omega
  rcases this with u | u | u | u | u | u | u | u | u | u | u | u | u | u | u | u <;> subst u
  · rw [rby_e (e := 0) he (v := a) (k := 24) (by simp) (by decide)]; exact byt (k := 24) (by decide) a
  · rw [rby_e (e := 1) he (v := a) (k := 16) (by simp) (by decide)]; exact byt (k := 16) (by decide) a
  · rw [rby_e (e := 2) he (v := a) (k := 8) (by simp) (by decide)]; exact byt (k := 8) (by decide) a
  · rw [rby_e (e := 3) he (v := a) (k := 0) (by simp) (by decide)]; exact byt (k := 0) (by decide) a
  · rw [rby_e (e := 4) he (v := b) (k := 24) (by simp) (by decide)]; exact byt (k := 24) (by decide) b
  · rw [rby_e (e := 5) he (v := b) (k := 16) (by simp) (by decide)]; exact byt (k := 16) (by decide) b
  · rw [rby_e (e := 6) he (v := b) (k := 8) (by simp) (by decide)]; exact byt (k := 8) (by decide) b
  · rw [rby_e (e := 7) he (v := b) (k := 0) (by simp) (by decide)]; exact byt (k := 0) (by decide) b
  · rw [rby_e (e := 8) he (v := c) (k := 24) (by simp) (by decide)]; exact byt (k := 24) (by decide) c
  · rw [rby_e (e := 9) he (v := c) (k := 16) (by simp) (by decide)]; exact byt (k := 16) (by decide) c
  · rw [rby_e (e := 10) he (v := c) (k := 8) (by simp) (by decide)]; exact byt (k := 8) (by decide) c
  · rw [rby_e (e := 11) he (v := c) (k := 0) (by simp) (by decide)]; exact byt (k := 0) (by decide) c
  · rw [rby_e (e := 12) he (v := d) (k := 24) (by simp) (by decide)]; exact byt (k := 24) (by decide) d
  · rw [rby_e (e := 13) he (v := d) (k := 16) (by simp) (by decide)]; exact byt (k := 16) (by decide) d
  · rw [rby_e (e := 14) he (v := d) (k := 8) (by simp) (by decide)]; exact byt (k := 8) (by decide) d
  · rw [rby_e (e := 15) he (v := d) (k := 0) (by simp) (by decide)]; exact byt (k := 0) (by decide) d
theorem ptl_app : ∀ (A : List Int) (s : Sg) (n m : Nat) (B : List Int), m = n + A.length → ptl (ptl s n A) m B = ptl s n (A ++ B) := by
  intro A
  induction A with
  | nil => intro s n m B h; rw [h]; rfl
  | cons b A ih =>
    intro s n m B h
    rw [List.length_cons] at h
    exact ih (pt1 s n b) (n + 1) m B (by omega)
theorem fd2 (t1 : s 27 1 = (n : Int)) (h : n + 16 ≤ 8192) : f_2 a b c d s = some (.inl (((n + 16 : Nat) : Int), ptl s n [ba a 24, ba a 16, ba a 8, ba a 0, ba b 24, ba b 16, ba b 8, ba b 0, ba c 24, ba c 16, ba c 8, ba c 0, ba d 24, ba d 16, ba d 8, ba d 0])) := by
  have q : ∀ (x : Int) (A : List Int) (m : Nat), m = n + A.length → m + 4 ≤ 8192 → f_13 x (ptl s n A) = some (ptl s n (A ++ [ba x 24, ba x 16, ba x 8, ba x 0])) := fun x A m hm h8 => by
    rw [c13 (a := x) (n := m) (by rw [hm]; exact ptl_len A s n t1) h8, ptl_app A s n m _ hm]
  have q1 := q a [] n rfl (by omega)
  rw [List.nil_append] at q1
  have q1' : f_13 a s = _ := q1
  unfold f_2
  rw [t1, if_pos (by rw [w32_id (by omega) (by omega)]; omega), q1', Option.bind_some, q b _ (n + 4) rfl (by omega), Option.bind_some, q c _ (n + 8) rfl (by omega), Option.bind_some, q d _ (n + 12) rfl (by omega), Option.bind_some, ptl_len _ s n t1]
  simp only [List.cons_append, List.nil_append, List.length_cons, List.length_nil]
/-- what a call leaves: its answer or its mark on both sides -/
def RES (s : Sg) (rc : Option (Int × Sg)) (rm : Sg → Option (Int × Sg)) (G : Sg → Prop) (E : Prop) : Prop := ∃ (t0 v : Int) (s1 s2 : Sg), rc = some (t0, s1) ∧ rm s1 = some (v, s2) ∧ G s2 ∧ (E → s2 84 0 = t0 ∧ (t0 = 0 → s2 136 0 = v)) ∧ s1 0 = s 0
theorem feed (g : GIV s) : RES s (f_280 a b c d s) (f_193 a b c d) GIV True := by
  obtain ⟨g1, ⟨n, t1, t2, t3, t4⟩, g3, g4, g5, g6⟩ := id g
  by_cases h : n + 16 ≤ 8192
  · -- there is room
    have ec := fd2 (a := a) (b := b) (c := c) (d := d) t1 h
    generalize hL : [ba a 24, ba a 16, ba a 8, ba a 0, ba b 24, ba b 16, ba b 8, ba b 0, ba c 24, ba c 16, ba c 8, ba c 0, ba d 24, ba d 16, ba d 8, ba d 0] = L at ec
    have hL16 : L.length = 16 := by rw [← hL]; rfl
    have by16 := fd16 (a := a) (b := b) (c := c) (d := d) hL
    obtain ⟨s1, hs1⟩ : ∃ z : Sg, z = ax_u2 (ptl s n L) 136 (0 : Int).toNat ((n + 16 : Nat) : Int) := ⟨_, rfl⟩
    have r1 : ∀ q, q ≠ 27 → q ≠ 28 → q ≠ 136 → s1 q = s q := fun q u v w => by rw [hs1, u2_row _ _ _ w, ptl_row u v]
    have r27 : s1 27 = ptl s n L 27 := by rw [hs1, u2_row _ _ _ (by decide)]
    have r28 : s1 28 = ptl s n L 28 := by rw [hs1, u2_row _ _ _ (by decide)]
    obtain ⟨F, hF⟩ := FU_split (k := 17) (by omega)
    obtain ⟨s2, e1, e2, e3, e4⟩ := m193l (a := a) (b := b) (c := c) (d := d) (n := n) 16 0 F (ax_u2 s1 84 0 0) (by omega) (by rw [u2_col _ _ _ (by decide), r1 84 (by decide) (by decide) (by decide)]; exact t3) h
    have e84 : s2 84 1 = (n : Int) := by rw [e2 84 (by decide), u2_col _ _ _ (by decide), r1 84 (by decide) (by decide) (by decide)]; exact t3
    refine ⟨0, ((n + 16 : Nat) : Int), s1, ax_u2 s2 84 1 ((n + 16 : Nat) : Int), ?_, ?_, ?_, fun _ => ⟨?_, fun _ => ?_⟩, r1 0 (by decide) (by decide) (by decide)⟩
    · unfold f_280
      rw [ec, hs1]
      rfl
    · unfold f_193
      rw [r1 84 (by decide) (by decide) (by decide), t3, if_pos (by rw [w32_id (by omega) (by omega)]; omega)]
      have e1' : j_193_27 FU a b c d 0 (ax_u2 s1 84 0 0) = j_193_101 s2 := by rw [show FU = F + 16 + 1 by omega]; exact e1
      rw [e1']
      unfold j_193_101
      rw [e84, w32_id (by omega) (by omega)]
      rfl
    · have r2 : ∀ q, q ≠ 27 → q ≠ 28 → q ≠ 136 → q ≠ 84 → q ≠ 85 → ax_u2 s2 84 1 ((n + 16 : Nat) : Int) q = s q := fun q u1 u2 u3 u4 u5 => by rw [u2_row _ _ _ u4, e2 q u5, u2_row _ _ _ u4, r1 q u1 u2 u3]
      have r84 : ∀ j, j ≠ 0 → j ≠ 1 → ax_u2 s2 84 1 ((n + 16 : Nat) : Int) 84 j = s 84 j := fun j u v => by rw [u2_col _ _ _ v, e2 84 (by decide), u2_col _ _ _ u, r1 84 (by decide) (by decide) (by decide)]
      have q27 : ∀ j, ax_u2 s2 84 1 ((n + 16 : Nat) : Int) 27 j = ptl s n L 27 j := fun j => by rw [u2_row _ _ _ (by decide), e2 27 (by decide), u2_row _ _ _ (by decide), r27]
      have q28 : ∀ j, ax_u2 s2 84 1 ((n + 16 : Nat) : Int) 28 j = ptl s n L 28 j := fun j => by rw [u2_row _ _ _ (by decide), e2 28 (by decide), u2_row _ _ _ (by decide), r28]
      refine ⟨g1.cg (fun q u => r2 q (by omega) (by omega) (by omega) (by omega) (by omega)), ⟨n + 16, by rw [q27, ptl_len L s n t1, hL16], h, by rw [u2_at, if_pos rfl], fun i hi => ?_⟩, g3.cg (by rw [r2 82 (by decide) (by decide) (by decide) (by decide) (by decide)]) (r2 83 (by decide) (by decide) (by decide) (by decide) (by decide)) (r84 9 (by decide) (by decide)) (r2 87 (by decide) (by decide) (by decide) (by decide) (by decide)), g4.cg (by rw [q27, ptl_j (by decide)]) (r84 5 (by decide) (by decide)) (fun q u => r2 q (by omega) (by omega) (by omega) (by omega) (by omega)) (fun q u => r2 q (by omega) (by omega) (by omega) (by omega) (by omega)) (fun j u1 u2 _ _ => r84 j u1 u2), ?_, ?_⟩
      · rw [q28, u2_row _ _ _ (show (85 : Nat) ≠ 84 by decide)]
        obtain ⟨p1, p2⟩ := ptl_at L s n
        by_cases c1 : i < n
        · rw [p1 i c1, e3 i (by omega), u2_row _ _ _ (by decide), r1 85 (by decide) (by decide) (by decide)]
          exact t4 i c1
        · have := by16 (i - n) (by omega)
          have pe := p2 (i - n) (by omega)
          have ee := e4 (i - n) (by omega) (by omega)
          rw [show n + (i - n) = i by omega] at pe ee
          rw [pe, ee]
          exact this
      · unfold RB at *
        rw [r2 74 (by decide) (by decide) (by decide) (by decide) (by decide)]; exact g5
      · unfold RM at *
        rw [r84 72 (by decide) (by decide)]; exact g6
    · rw [u2_col _ _ _ (by decide), e2 84 (by decide), u2_at, if_pos rfl]
    · rw [u2_row _ _ _ (by decide), e2 136 (by decide), u2_row _ _ _ (by decide), hs1, show (0 : Int).toNat = 0 from rfl, u2_at, if_pos rfl]
  · -- there is none
    refine ⟨1, 0, s, ax_u2 (ax_u2 s 84 0 0) 84 0 1, ?_, ?_, ?_, fun _ => ⟨by rw [u2_at, if_pos rfl], fun u => absurd u (by decide)⟩, rfl⟩
    · unfold f_280 f_2
      rw [t1, if_neg (by rw [w32_id (by omega) (by omega)]; omega)]
      rfl
    · unfold f_193
      rw [t3, if_neg (by rw [w32_id (by omega) (by omega)]; omega)]
      rfl
    · exact ((QF.a84 s 0).trans (QF.a84 _ 1)).gi g
end GII
