/-! EXPRESSIONS: what both sides hold. -/
def lev (k : Int) : Int := lvl.getD k.toNat 0
def bin (c : Int) : Int := f_65 c (fun _ _ => 0)
theorem bin_eq (c : Int) (s : Sg) : f_65 c s = bin c := rfl
theorem bin_m : ∀ c ∈ kvl, ∀ s : Sg, f_267 (km c) s = bin c := by
  have h : ∀ c ∈ kvl, f_267 (km c) (fun _ _ => 0) = bin c := by decide +kernel
  intro c hc s
  exact h c hc
theorem bin_b (c : Int) : bin c = -1 ∨ (10 ≤ bin c ∧ bin c ≤ 20) := by
  unfold bin f_65
  (repeat' split) <;> omega
theorem lev_b : ∀ k : Int, 0 ≤ k → k ≤ 21 → 0 ≤ lev k ∧ lev k ≤ 10 ∧ (10 ≤ k → k ≤ 20 → 1 ≤ lev k ∧ lev k ≤ 7) ∧ (k = 8 ∨ k = 9 → lev k = 8) := by
  have h : ∀ n : Nat, n < 22 → 0 ≤ lev (n : Int) ∧ lev (n : Int) ≤ 10 ∧ (10 ≤ (n : Int) → (n : Int) ≤ 20 → 1 ≤ lev (n : Int) ∧ lev (n : Int) ≤ 7) ∧ ((n : Int) = 8 ∨ (n : Int) = 9 → lev (n : Int) = 8) := by decide +kernel
  intro k h0 h1
  have := h k.toNat (by omega)
  rw [Int.toNat_of_nonneg h0] at this
  exact this
theorem f268 (k : Int) (h0 : 0 ≤ k) (h1 : k ≤ 21) (s : Sg) : f_268 k s = lev k := by
  have h : ∀ n : Nat, n < 22 → f_268 (n : Int) (fun _ _ => 0) = lev (n : Int) := by decide +kernel
  have := h k.toNat (by omega)
  rw [Int.toNat_of_nonneg h0] at this
  exact this
theorem f57 {T : TT} {s : Sg} (hc : CC T s) {k : Int} (h0 : 0 ≤ k) (h1 : k ≤ 21) : f_57 k s = lev k ∧ g_57 k s := by
  unfold f_57 g_57
  rw [if_neg (by omega), if_neg (by omega), hc.2.2.2.2.2 k.toNat (by omega)]
  exact ⟨rfl, fun h => absurd h (by omega), fun _ => ⟨fun _ => trivial, fun _ => ⟨⟨by omega, by omega⟩, trivial⟩⟩⟩
def opA : List Int := [40, 91, 44, 61, 63, 58, 21, 126, 45, 42, 43, 38, 124, 94, 60, 128, 129, 130, 131]
def opS : List Int := [2, 1, 25, 26, 27, 40, 126, 45]
def opB : List Int := [1, 2, 41, 93]
/-- between operands -/
def opI : List Int := [42, 43, 45, 38, 124, 94, 60, 128, 129, 130, 131, 63, 58]
theorem bin_opI : ∀ c ∈ kvl, 10 ≤ bin c → c ∈ opI := by decide +kernel
def opF : List Int := [46, 42, 43, 45, 38, 124, 94, 60, 128, 129, 130, 131, 63, 58, 44, 41, 93]
/-- neighbours in an expression -/
def PRX (p q : Int) : Prop := (p ∈ opA ∧ q ∈ opS) ∨ (p ∈ opB ∧ q ∈ opF) ∨ (p = 1 ∧ (q = 91 ∨ q = 40)) ∨ ((p = 25 ∨ p = 26 ∨ p = 27) ∧ q = 40) ∨ (p = 40 ∧ q = 41) ∨ (p = 46 ∧ q = 2)
/-- a bracket that may be dropped -/
def DR (T : TT) (k : Nat) : Prop := (T.tk k = 40 ∧ T.tk (k - 1) ∈ opA ∧ T.tk (k + 1) ≠ 41) ∨ (T.tk k = 41 ∧ T.tk (k - 1) ≠ 40)
/-- a lexeme's marks are alike; are those of one not read; of a bracket on which is not decided -/
def LF (T : TT) (sc sm : Sg) (k : Nat) : Prop := sm 91 k = (if sc 45 k = 2 then 1 else 0) ∧ sm 92 k = (if sc 45 k = 1 ∨ T.tk k = 61 then 1 else 0) ∧ sm 93 k = (if sc 45 k = 3 then 1 else 0) ∧ (sc 45 k = 2 → DR T k) ∧ (sc 45 k = 1 → T.tk k ∈ opI)
def FRS (T : TT) (sc sm : Sg) (k : Nat) : Prop := sc 45 k = 0 ∧ sm 91 k = 0 ∧ sm 92 k = (if T.tk k = 61 then 1 else 0) ∧ sm 93 k = 0
def PB (T : TT) (sc sm : Sg) (k : Nat) (v : Int) : Prop := sc 45 k = v ∧ sm 91 k = 0 ∧ sm 92 k = 0 ∧ sm 93 k = 0 ∧ DR T k
theorem FRS.lf {T : TT} {sc sm : Sg} {k : Nat} (h : FRS T sc sm k) : LF T sc sm k := by
  obtain ⟨h1, h2, h3, h4⟩ := h
  unfold LF
  rw [h1, h2, h3, h4]
  simp
/-- calls among the lexemes -/
def lcT (T : TT) (l0 : Nat) : Nat → Nat
  | 0 => 0
  | k + 1 => lcT T l0 k + (if T.tk (l0 + k) = 1 ∧ T.tk (l0 + k + 1) = 40 then 1 else 0)
theorem lcT_add (T : TT) (l0 a : Nat) : ∀ b, lcT T l0 (a + b) = lcT T l0 a + lcT T (l0 + a) b := by
  intro b
  induction b with
  | zero => simp [lcT]
  | succ b ih =>
    rw [← Nat.add_assoc]
    simp only [lcT]
    rw [ih, Nat.add_assoc l0 a b]
    omega
/-- a stretch of lexemes with its nodes -/
def SEG (T : TT) (sc sm : Sg) (sn rp : Int) (K l0 l1 n0 n1 : Nat) : Prop :=
  n0 ≤ n1 ∧ l0 ≤ l1 ∧ n1 + l0 ≤ l1 + n0 ∧
  (∀ m, n0 ≤ m → m < n1 → ∃ c q : Nat, sm 120 m = (c : Int) ∧ sm 121 m = (q : Int) ∧ q + c ≤ K ∧ ∀ i, i < c → (n0 : Int) ≤ sm 125 (q + i)) ∧
  (∀ m, n0 ≤ m → m < n1 → sm 123 m = sn ∧ sm 124 m = rp ∧ (1 ≤ sm 116 m → sm 116 m ≤ 3 → sc 48 m = sc 37 (T.vl (sm 118 m).toNat).toNat)) ∧
  (∀ m, n0 ≤ m → m < n1 → sm 116 m = 3 → ∃ i : Nat, l0 ≤ i ∧ i < l1 ∧ sm 118 m = (i : Int) ∧ T.tk i = 1 ∧ T.tk (i + 1) = 40) ∧
  (∀ i, l0 ≤ i → i < l1 → T.tk i = 1 → T.tk (i + 1) = 40 → ∃ m, n0 ≤ m ∧ m < n1 ∧ sm 116 m = 3 ∧ sm 118 m = (i : Int)) ∧
  (∀ m m', n0 ≤ m → m < n1 → n0 ≤ m' → m' < n1 → sm 116 m = 3 → sm 116 m' = 3 → sm 118 m = sm 118 m' → m = m') ∧
  (∀ k, l0 ≤ k → k < l1 → PRX (T.tk (k - 1)) (T.tk k)) ∧
  3 * lcT T l0 (l1 - l0) ≤ l1 - l0
/-- the marks of an operand's lexemes, whose brackets may stand undecided -/
def OBR (T : TT) (sc sm : Sg) (o l0 l1 : Nat) (v : Int) : Prop :=
  (sm 128 o = -1 ∧ ∀ k, l0 ≤ k → k < l1 → LF T sc sm k) ∨
  (∃ p c : Nat, sm 128 o = (p : Int) ∧ sm 132 p = (c : Int) ∧ l0 ≤ p ∧ p < c ∧ c < l1 ∧ PB T sc sm p v ∧ PB T sc sm c v ∧ ∀ k, l0 ≤ k → k < l1 → k ≠ p → k ≠ c → LF T sc sm k)
/-- an operand -/
def OPD (T : TT) (sc sm : Sg) (sn rp : Int) (K o l0 l1 n0 n1 : Nat) (v : Int) : Prop :=
  n0 < n1 ∧ sm 126 o = (n1 : Int) - 1 ∧ (∃ st : Nat, sm 127 o = (st : Int) ∧ l0 ≤ st ∧ st < l1) ∧ sc 52 (n1 - 1) = -1 ∧ OBR T sc sm o l0 l1 v ∧ SEG T sc sm sn rp K l0 l1 n0 n1
/-- what an operator wants of its left side -/
def wl (k : Int) : Int := if lev k = 1 then 2 else lev k
/-- the operators that wait: q of them, b with a left side -/
def STK (T : TT) (sc sm : Sg) (sn rp : Int) (K base W O a0 N0 : Nat) : Nat → Nat → Nat → Nat → Prop
  | 0, b, nl, ll => b = 0 ∧ nl = N0 ∧ ll = a0
  | q + 1, b, nl, ll =>
    (∃ p : Nat, (sc 67 (base + q) = 8 ∨ sc 67 (base + q) = 9) ∧ sm 129 (W + q) = sc 67 (base + q) ∧ sc 69 (base + q) = (p : Int) ∧ sm 130 (W + q) = (p : Int) ∧ ll = p + 1 ∧ LF T sc sm p ∧ SEG T sc sm sn rp K p (p + 1) nl nl ∧ STK T sc sm sn rp K base W O a0 N0 q b nl p) ∨
    (∃ p nl' ll' b' : Nat, b = b' + 1 ∧ 10 ≤ sc 67 (base + q) ∧ sc 67 (base + q) ≤ 20 ∧ sm 129 (W + q) = sc 67 (base + q) ∧ (1 ≤ q → 2 ≤ lev (sc 67 (base + q))) ∧ ll = p + 1 ∧ nl' < nl ∧ sc 68 (base + q) = (nl : Int) - 1 ∧ sc 69 (base + q) = sm 127 (O + b') ∧ LF T sc sm p ∧ SEG T sc sm sn rp K p (p + 1) nl nl ∧
      OPD T sc sm sn rp K (O + b') ll' p nl' nl (if wl (sc 67 (base + q)) ≤ lev (sm 116 (nl - 1)) then 2 else 0) ∧ STK T sc sm sn rp K base W O a0 N0 q b' nl' ll')
/-- what has not been touched below some bounds -/
def XF (sc sm sc' sm' : Sg) (a a' N K base W O : Nat) : Prop :=
  (∀ k, k < a ∨ a' ≤ k → sc' 45 k = sc 45 k ∧ sm' 91 k = sm 91 k ∧ sm' 92 k = sm 92 k) ∧
  (∀ c n, 47 ≤ c → c ≤ 53 → n < N → sc' c n = sc c n) ∧
  (∀ c n, 116 ≤ c → c ≤ 124 → n < N → sm' c n = sm c n) ∧
  (∀ j, j < K → sm' 125 j = sm 125 j) ∧
  (∀ c i, 67 ≤ c → c ≤ 69 → i < base → sc' c i = sc c i) ∧
  (∀ c i, 126 ≤ c → c ≤ 128 → i < O → sm' c i = sm c i) ∧
  (∀ c i, 129 ≤ c → c ≤ 131 → i < W → sm' c i = sm c i) ∧
  (∀ k, k < a → sm' 132 k = sm 132 k)
/-- rows that an expression may change, on each side -/
def EFc (s s' : Sg) : Prop := (∀ c, ¬ (c = 30 ∨ c = 39 ∨ c = 45 ∨ 46 ≤ c ∧ c ≤ 53 ∨ 66 ≤ c ∧ c ≤ 69) → s' c = s c) ∧ (∀ j, j ≠ 10 → j ≠ 11 → s' 39 j = s 39 j) ∧ (∀ j, j < 4 ∨ 7 < j → s' 30 j = s 30 j)
def EFm (s s' : Sg) : Prop := (∀ c, ¬ (c = 84 ∨ c = 91 ∨ c = 92 ∨ 116 ≤ c ∧ c ≤ 121 ∨ 123 ≤ c ∧ c ≤ 132) → s' c = s c) ∧ (∀ j, j < 6 ∨ 7 < j ∧ j < 18 ∨ 18 < j ∧ j < 47 ∨ 47 < j ∧ j < 57 ∨ j = 58 ∨ 59 < j ∧ j < 63 ∨ 63 < j ∧ j < 67 ∨ j = 68 ∨ j = 69 ∨ 70 < j → s' 84 j = s 84 j)
section FRAMES
variable {T : TT} {sc sm sc' sm' sc2 sm2 : Sg} {sn rp : Int} {K K' l0 l1 l2 n0 n1 n2 a a' a1 a2 N N' base W O : Nat}
theorem EFc.refl (s : Sg) : EFc s s := ⟨fun _ _ => rfl, fun _ _ _ => rfl, fun _ _ => rfl⟩
theorem EFm.refl (s : Sg) : EFm s s := ⟨fun _ _ => rfl, fun _ _ => rfl⟩
theorem EFc.trans (h : EFc sc sc') (k : EFc sc' sc2) : EFc sc sc2 := ⟨fun c x => (k.1 c x).trans (h.1 c x), fun j x y => (k.2.1 j x y).trans (h.2.1 j x y), fun j x => (k.2.2 j x).trans (h.2.2 j x)⟩
theorem EFm.trans (h : EFm sm sm') (k : EFm sm' sm2) : EFm sm sm2 := ⟨fun c x => (k.1 c x).trans (h.1 c x), fun j x => (k.2 j x).trans (h.2 j x)⟩
theorem EFc.cc (h : EFc sc sc') (k : CC T sc) : CC T sc' := k.row (h.2.1 9 (by decide) (by decide)) (h.1 41 (by omega)) (h.1 42 (by omega)) (h.1 44 (by omega)) (by rw [h.1 31 (by omega)]) (h.1 1 (by omega))
theorem EFm.mc (h : EFm sm sm') (k : MC T sm) : MC T sm' := k.row (h.2 11 (by omega)) (h.1 88 (by omega))
theorem XF.refl (sc sm : Sg) (a a' N K base W O : Nat) : XF sc sm sc sm a a' N K base W O := ⟨fun _ _ => ⟨rfl, rfl, rfl⟩, fun _ _ _ _ _ => rfl, fun _ _ _ _ _ => rfl, fun _ _ => rfl, fun _ _ _ _ _ => rfl, fun _ _ _ _ _ => rfl, fun _ _ _ _ _ => rfl, fun _ _ => rfl⟩
theorem XF.trans {N1 K1 base1 W1 O1 : Nat} (h : XF sc sm sc' sm' a a1 N K base W O) (k : XF sc' sm' sc2 sm2 a' a2 N1 K1 base1 W1 O1) (h1 : a ≤ a') (h2 : a1 ≤ a2) (h3 : N ≤ N1) (h4 : K ≤ K1) (h5 : base ≤ base1) (h6 : W ≤ W1) (h7 : O ≤ O1) : XF sc sm sc2 sm2 a a2 N K base W O := by
  obtain ⟨a1, a2, a3, a4, a5, a6, a7, a8⟩ := h
  obtain ⟨b1, b2, b3, b4, b5, b6, b7, b8⟩ := k
  refine ⟨fun k x => ?_, fun c n x y w => (b2 c n x y (by omega)).trans (a2 c n x y w), fun c n x y w => (b3 c n x y (by omega)).trans (a3 c n x y w), fun j x => (b4 j (by omega)).trans (a4 j x), fun c n x y w => (b5 c n x y (by omega)).trans (a5 c n x y w), fun c n x y w => (b6 c n x y (by omega)).trans (a6 c n x y w), fun c n x y w => (b7 c n x y (by omega)).trans (a7 c n x y w), fun j x => (b8 j (by omega)).trans (a8 j x)⟩
  have p := a1 k (by omega)
  have q := b1 k (by omega)
  exact ⟨q.1.trans p.1, q.2.1.trans p.2.1, q.2.2.trans p.2.2⟩
theorem XF.mono {a0 a3 N0 K0 base0 W0 O0 : Nat} (h : XF sc sm sc' sm' a a' N K base W O) (h1 : a0 ≤ a) (h2 : a' ≤ a3) (h3 : N0 ≤ N) (h4 : K0 ≤ K) (h5 : base0 ≤ base) (h6 : W0 ≤ W) (h7 : O0 ≤ O) : XF sc sm sc' sm' a0 a3 N0 K0 base0 W0 O0 := by
  obtain ⟨a1, a2, a3, a4, a5, a6, a7, a8⟩ := h
  exact ⟨fun k x => a1 k (by omega), fun c n x y w => a2 c n x y (by omega), fun c n x y w => a3 c n x y (by omega), fun j x => a4 j (by omega), fun c n x y w => a5 c n x y (by omega), fun c n x y w => a6 c n x y (by omega), fun c n x y w => a7 c n x y (by omega), fun j x => a8 j (by omega)⟩
theorem LF.congr {k : Nat} (h : LF T sc sm k) (h1 : sc' 45 k = sc 45 k) (h2 : sm' 91 k = sm 91 k) (h3 : sm' 92 k = sm 92 k) (h4 : sm' 93 k = sm 93 k) : LF T sc' sm' k := by
  unfold LF at *
  rw [h1, h2, h3, h4]
  exact h
theorem PB.congr {k : Nat} {v : Int} (h : PB T sc sm k v) (h1 : sc' 45 k = sc 45 k) (h2 : sm' 91 k = sm 91 k) (h3 : sm' 92 k = sm 92 k) (h4 : sm' 93 k = sm 93 k) : PB T sc' sm' k v := by
  unfold PB at *
  rw [h1, h2, h3, h4]
  exact h
theorem SEG.congr (h : SEG T sc sm sn rp K l0 l1 n0 n1) (h1 : ∀ c n, 116 ≤ c → c ≤ 124 → n0 ≤ n → n < n1 → sm' c n = sm c n) (h2 : ∀ n, n0 ≤ n → n < n1 → sc' 48 n = sc 48 n) (h3 : sc' 37 = sc 37) (h4 : ∀ j, j < K → sm' 125 j = sm 125 j) (hK : K ≤ K') : SEG T sc' sm' sn rp K' l0 l1 n0 n1 := by
  obtain ⟨a1, a2, a3, a4, a5, a6, a7, a8, a9, a10⟩ := h
  refine ⟨a1, a2, a3, ?_, ?_, ?_, ?_, ?_, a9, a10⟩
  · intro m x y
    obtain ⟨c, q, b1, b2, b3, b4⟩ := a4 m x y
    refine ⟨c, q, by rw [h1 120 m (by omega) (by omega) x y]; exact b1, by rw [h1 121 m (by omega) (by omega) x y]; exact b2, by omega, fun i hi => ?_⟩
    rw [h4 _ (by omega)]
    exact b4 i hi
  · intro m x y
    rw [h1 123 m (by omega) (by omega) x y, h1 124 m (by omega) (by omega) x y, h1 116 m (by omega) (by omega) x y, h1 118 m (by omega) (by omega) x y, h2 m x y, h3]
    exact a5 m x y
  · intro m x y
    rw [h1 116 m (by omega) (by omega) x y, h1 118 m (by omega) (by omega) x y]
    exact a6 m x y
  · intro i x y u v
    obtain ⟨m, b1, b2, b3, b4⟩ := a7 i x y u v
    exact ⟨m, b1, b2, by rw [h1 116 m (by omega) (by omega) b1 b2]; exact b3, by rw [h1 118 m (by omega) (by omega) b1 b2]; exact b4⟩
  · intro m m' x y x' y'
    rw [h1 116 m (by omega) (by omega) x y, h1 118 m (by omega) (by omega) x y, h1 116 m' (by omega) (by omega) x' y', h1 118 m' (by omega) (by omega) x' y']
    exact a8 m m' x y x' y'
theorem SEG.xf (h : SEG T sc sm sn rp K l0 l1 n0 n1) (x : XF sc sm sc' sm' a a' N K base W O) (hn : n1 ≤ N) (h3 : sc' 37 = sc 37) : SEG T sc' sm' sn rp K l0 l1 n0 n1 :=
  h.congr (fun c n x1 x2 _ x4 => x.2.2.1 c n x1 x2 (by omega)) (fun n _ x4 => x.2.1 48 n (by decide) (by decide) (by omega)) h3 (fun j hj => x.2.2.2.1 j hj) (Nat.le_refl _)
theorem SEG.monoK (h : SEG T sc sm sn rp K l0 l1 n0 n1) (hK : K ≤ K') : SEG T sc sm sn rp K' l0 l1 n0 n1 := h.congr (fun _ _ _ _ _ _ => rfl) (fun _ _ _ => rfl) rfl (fun _ _ => rfl) hK
theorem SEG.nil (T : TT) (sc sm : Sg) (sn rp : Int) (K l n : Nat) : SEG T sc sm sn rp K l l n n :=
  ⟨Nat.le_refl _, Nat.le_refl _, by omega, fun m x y => absurd y (by omega), fun m x y => absurd y (by omega), fun m x y => absurd y (by omega), fun i x y => absurd y (by omega), fun m m' x y => absurd y (by omega), fun k x y => absurd y (by omega), by simp [lcT]⟩
theorem SEG.tok (T : TT) (sc sm : Sg) (sn rp : Int) (K k n : Nat) (h : PRX (T.tk (k - 1)) (T.tk k)) (h2 : ¬ (T.tk k = 1 ∧ T.tk (k + 1) = 40)) : SEG T sc sm sn rp K k (k + 1) n n := by
  refine ⟨Nat.le_refl _, by omega, by omega, fun m x y => absurd y (by omega), fun m x y => absurd y (by omega), fun m x y => absurd y (by omega), ?_, fun m m' x y => absurd y (by omega), ?_, ?_⟩
  · intro i x y u v
    have : i = k := by omega
    subst this
    exact absurd ⟨u, v⟩ h2
  · intro i x y
    have : i = k := by omega
    subst this
    exact h
  · have : k + 1 - k = 1 := by omega
    rw [this]
    simp only [lcT, Nat.add_zero]
    rw [if_neg h2]
    omega
theorem SEG.merge (h : SEG T sc sm sn rp K l0 l1 n0 n1) (g : SEG T sc sm sn rp K l1 l2 n1 n2) : SEG T sc sm sn rp K l0 l2 n0 n2 := by
  obtain ⟨a1, a2, a3, a4, a5, a6, a7, a8, a9, a10⟩ := h
  obtain ⟨b1, b2, b3, b4, b5, b6, b7, b8, b9, b10⟩ := g
  refine ⟨by omega, by omega, by omega, ?_, ?_, ?_, ?_, ?_, ?_, ?_⟩
  · intro m x y
    by_cases c : m < n1
    · exact a4 m x c
    · obtain ⟨c, q, d1, d2, d3, d4⟩ := b4 m (by omega) y
      exact ⟨c, q, d1, d2, d3, fun i hi => by have := d4 i hi; omega⟩
  · intro m x y
    by_cases c : m < n1
    · exact a5 m x c
    · exact b5 m (by omega) y
  · intro m x y u
    by_cases c : m < n1
    · obtain ⟨i, d1, d2, d3⟩ := a6 m x c u
      exact ⟨i, d1, by omega, d3⟩
    · obtain ⟨i, d1, d2, d3⟩ := b6 m (by omega) y u
      exact ⟨i, by omega, d2, d3⟩
  · intro i x y u v
    by_cases c : i < l1
    · obtain ⟨m, d1, d2, d3⟩ := a7 i x c u v
      exact ⟨m, d1, by omega, d3⟩
    · obtain ⟨m, d1, d2, d3⟩ := b7 i (by omega) y u v
      exact ⟨m, by omega, d2, d3⟩
  · intro m m' x y x' y' u u' e
    by_cases c : m < n1
    · by_cases c' : m' < n1
      · exact a8 m m' x c x' c' u u' e
      · obtain ⟨i, d1, d2, d3, _⟩ := a6 m x c u
        obtain ⟨i', d1', d2', d3', _⟩ := b6 m' (by omega) y' u'
        omega
    · by_cases c' : m' < n1
      · obtain ⟨i, d1, d2, d3, _⟩ := b6 m (by omega) y u
        obtain ⟨i', d1', d2', d3', _⟩ := a6 m' x' c' u'
        omega
      · exact b8 m m' (by omega) y (by omega) y' u u' e
  · intro k x y
    by_cases c : k < l1
    · exact a9 k x c
    · exact b9 k (by omega) y
  · have e : l2 - l0 = (l1 - l0) + (l2 - l1) := by omega
    rw [e, lcT_add, show l0 + (l1 - l0) = l1 by omega]
    omega
end FRAMES
