/-! NODES: made on both sides. -/
section STKS
variable {T : TT} {sc sm sc' sm' : Sg} {sn rp : Int} {K K' base W O a0 N0 : Nat}
theorem OBR.xf {o l0 l1 a a' N : Nat} {v : Int} (h : OBR T sc sm o l0 l1 v) (x : XF sc sm sc' sm' a a' N K base W O) (h93 : sm' 93 = sm 93) (h1 : l1 ≤ a) (h2 : o < O) : OBR T sc' sm' o l0 l1 v := by
  have fl : ∀ k, k < l1 → LF T sc sm k → LF T sc' sm' k := fun k hk hl => hl.congr (x.1 k (by omega)).1 (x.1 k (by omega)).2.1 (x.1 k (by omega)).2.2 (by rw [h93])
  have pb : ∀ k, k < l1 → PB T sc sm k v → PB T sc' sm' k v := fun k hk hl => hl.congr (x.1 k (by omega)).1 (x.1 k (by omega)).2.1 (x.1 k (by omega)).2.2 (by rw [h93])
  have e := x.2.2.2.2.2.1 128 o (by decide) (by decide) h2
  rcases h with ⟨b1, b2⟩ | ⟨p, c, b1, b2, b3, b4, b5, b6, b7, b8⟩
  · exact Or.inl ⟨e.trans b1, fun k x1 x2 => fl k x2 (b2 k x1 x2)⟩
  · exact Or.inr ⟨p, c, e.trans b1, (x.2.2.2.2.2.2.2 p (by omega)).trans b2, b3, b4, b5, pb p (by omega) b6, pb c (by omega) b7, fun k x1 x2 x3 x4 => fl k x2 (b8 k x1 x2 x3 x4)⟩
theorem OPD.xf {o l0 l1 n0 n1 a a' N : Nat} {v : Int} (h : OPD T sc sm sn rp K o l0 l1 n0 n1 v) (x : XF sc sm sc' sm' a a' N K base W O) (h37 : sc' 37 = sc 37) (h93 : sm' 93 = sm 93) (h1 : l1 ≤ a) (h2 : o < O) (h3 : n1 ≤ N) : OPD T sc' sm' sn rp K o l0 l1 n0 n1 v := by
  obtain ⟨b1, b2, ⟨st, b3, b4⟩, b5, b6, b7⟩ := h
  refine ⟨b1, ?_, ⟨st, ?_, b4⟩, ?_, b6.xf x h93 h1 h2, b7.xf x h3 h37⟩
  · rw [x.2.2.2.2.2.1 126 o (by decide) (by decide) h2]; exact b2
  · rw [x.2.2.2.2.2.1 127 o (by decide) (by decide) h2]; exact b3
  · rw [x.2.1 52 (n1 - 1) (by decide) (by decide) (by omega)]; exact b5
theorem OPD.monoK {o l0 l1 n0 n1 : Nat} {v : Int} (h : OPD T sc sm sn rp K o l0 l1 n0 n1 v) (hK : K ≤ K') : OPD T sc sm sn rp K' o l0 l1 n0 n1 v := by
  obtain ⟨b1, b2, b3, b5, b6, b7⟩ := h
  exact ⟨b1, b2, b3, b5, b6, b7.monoK hK⟩
theorem STK.xf (h37 : sc' 37 = sc 37) (h93 : sm' 93 = sm 93) {a' : Nat} : ∀ q b nl ll, STK T sc sm sn rp K base W O a0 N0 q b nl ll → XF sc sm sc' sm' ll a' nl K (base + q) (W + q) (O + b) → STK T sc' sm' sn rp K base W O a0 N0 q b nl ll := by
  intro q
  induction q with
  | zero => intro b nl ll h _; exact h
  | succ q ih =>
    intro b nl ll h x
    have e67 : sc' 67 (base + q) = sc 67 (base + q) := x.2.2.2.2.1 67 (base + q) (by decide) (by decide) (by omega)
    have e68 : sc' 68 (base + q) = sc 68 (base + q) := x.2.2.2.2.1 68 (base + q) (by decide) (by decide) (by omega)
    have e69 : sc' 69 (base + q) = sc 69 (base + q) := x.2.2.2.2.1 69 (base + q) (by decide) (by decide) (by omega)
    have e129 : sm' 129 (W + q) = sm 129 (W + q) := x.2.2.2.2.2.2.1 129 (W + q) (by decide) (by decide) (by omega)
    have e130 : sm' 130 (W + q) = sm 130 (W + q) := x.2.2.2.2.2.2.1 130 (W + q) (by decide) (by decide) (by omega)
    rcases h with ⟨p, b1, b2, b3, b4, b5, b6, b7, b8⟩ | ⟨p, nl', ll', b', b1, b2, b3, b4, b5, b6, b7, b8, b9, b10, b11, b12, b13⟩
    · refine Or.inl ⟨p, by rw [e67]; exact b1, by rw [e129, e67]; exact b2, by rw [e69]; exact b3, by rw [e130]; exact b4, b5, b6.congr (x.1 p (by omega)).1 (x.1 p (by omega)).2.1 (x.1 p (by omega)).2.2 (by rw [h93]), b7.xf x (Nat.le_refl _) h37, ?_⟩
      exact ih b nl p b8 (x.mono (by omega) (Nat.le_refl _) (Nat.le_refl _) (Nat.le_refl _) (by omega) (by omega) (Nat.le_refl _))
    · have hl : ll' ≤ p := b12.2.2.2.2.2.2.1
      have e127 : sm' 127 (O + b') = sm 127 (O + b') := x.2.2.2.2.2.1 127 (O + b') (by decide) (by decide) (by omega)
      have e116 : sm' 116 (nl - 1) = sm 116 (nl - 1) := x.2.2.1 116 (nl - 1) (by decide) (by decide) (by omega)
      refine Or.inr ⟨p, nl', ll', b', b1, by rw [e67]; exact b2, by rw [e67]; exact b3, by rw [e129, e67]; exact b4, by rw [e67]; exact b5, b6, b7, by rw [e68]; exact b8, by rw [e69, e127]; exact b9, b10.congr (x.1 p (by omega)).1 (x.1 p (by omega)).2.1 (x.1 p (by omega)).2.2 (by rw [h93]), b11.xf x (Nat.le_refl _) h37, ?_, ?_⟩
      · rw [e67, e116]
        exact b12.xf x h37 h93 (by omega) (by omega) (Nat.le_refl _)
      · exact ih b' nl' ll' b13 (x.mono (by omega) (Nat.le_refl _) (by omega) (Nat.le_refl _) (by omega) (by omega) (by omega))
theorem STK.monoK (hK : K ≤ K') : ∀ q b nl ll, STK T sc sm sn rp K base W O a0 N0 q b nl ll → STK T sc sm sn rp K' base W O a0 N0 q b nl ll := by
  intro q
  induction q with
  | zero => intro b nl ll h; exact h
  | succ q ih =>
    intro b nl ll h
    rcases h with ⟨p, b1, b2, b3, b4, b5, b6, b7, b8⟩ | ⟨p, nl', ll', b', b1, b2, b3, b4, b5, b6, b7, b8, b9, b10, b11, b12, b13⟩
    · exact Or.inl ⟨p, b1, b2, b3, b4, b5, b6, b7.monoK hK, ih _ _ _ b8⟩
    · exact Or.inr ⟨p, nl', ll', b', b1, b2, b3, b4, b5, b6, b7, b8, b9, b10, b11.monoK hK, b12.monoK hK, ih _ _ _ b13⟩
theorem STK.bd : ∀ q b nl ll, STK T sc sm sn rp K base W O a0 N0 q b nl ll → N0 ≤ nl ∧ a0 ≤ ll ∧ nl + q + a0 ≤ ll + N0 ∧ b + N0 ≤ nl ∧ b ≤ q := by
  intro q
  induction q with
  | zero =>
    intro b nl ll h
    obtain ⟨h1, h2, h3⟩ := h
    omega
  | succ q ih =>
    intro b nl ll h
    rcases h with ⟨p, b1, b2, b3, b4, b5, b6, b7, b8⟩ | ⟨p, nl', ll', b', b1, b2, b3, b4, b5, b6, b7, b8, b9, b10, b11, b12, b13⟩
    · have := ih _ _ _ b8
      omega
    · have := ih _ _ _ b13
      have h1 := b12.2.2.2.2.2.2.1
      have h2 := b12.2.2.2.2.2.2.2.1
      omega
end STKS
/-- how many a node has in it -/
def AR (k : Int) (c : Nat) : Prop := (k = 0 ∨ k = 1 → c = 0) ∧ (k = 2 ∨ k = 4 ∨ k = 5 ∨ k = 7 ∨ k = 8 ∨ k = 9 → c = 1) ∧ (10 ≤ k ∧ k ≤ 20 → c = 2) ∧ (k = 21 → c = 3) ∧ (k = 6 → 2 ≤ c)
/-- its numbers -/
def NV (T : TT) (sc sm : Sg) (n : Nat) : Prop :=
  (sm 116 n = 0 → ∃ x w : Nat, sm 118 n = (x : Int) ∧ sm 119 n = (w : Int) ∧ x < T.z ∧ w < T.z ∧ T.tk x = 2 ∧ T.tk w = 2 ∧ sc 49 n = ax_w32 (T.vl x) ∧ sc 48 n = mn (T.vl w)) ∧
  (sm 116 n = 4 ∨ sm 116 n = 5 → ∃ w : Nat, sm 119 n = (w : Int) ∧ w < T.z ∧ T.tk w = 2 ∧ sc 49 n = -1 ∧ sc 48 n = mn (T.vl w)) ∧
  (sm 116 n = 7 → ∃ x w : Nat, sm 118 n = (x : Int) ∧ sm 119 n = (w : Int) ∧ x < T.z ∧ w < T.z ∧ T.tk x = 2 ∧ T.tk w = 2 ∧ sc 49 n = mn (T.vl w) ∧ sc 48 n = ax_w32 (ax_w32 (mn (T.vl x) - mn (T.vl w)) + 1)) ∧
  (1 ≤ sm 116 n → sm 116 n ≤ 3 → ∃ x : Nat, sm 118 n = (x : Int) ∧ sm 117 n = (x : Int) ∧ x < T.z ∧ T.tk x = 1 ∧ sc 49 n = -1) ∧
  (sm 116 n = 6 ∨ 8 ≤ sm 116 n → sc 49 n = -1 ∧ sc 48 n = 0)
/-- a node is alike -/
def NR (T : TT) (sc sm : Sg) (K n : Nat) : Prop := ∃ c q : Nat, sm 120 n = (c : Int) ∧ sm 121 n = (q : Int) ∧ q + c ≤ K ∧ sc 53 n = (c : Int) ∧ sc 47 n = sm 116 n ∧ 0 ≤ sm 116 n ∧ sm 116 n ≤ 21 ∧ AR (sm 116 n) c ∧ sc 50 n = sm 117 n ∧ (∃ st : Nat, sm 117 n = (st : Int) ∧ st < T.z) ∧ sc 51 n = (if 0 < c then sm 125 q else -1) ∧
  (∀ i, i < c → ∃ x : Nat, sm 125 (q + i) = (x : Int) ∧ x < n ∧ sc 52 x = (if i + 1 < c then sm 125 (q + (i + 1)) else -1)) ∧ NV T sc sm n
def ND (T : TT) (sc sm : Sg) (N K : Nat) : Prop := sc 46 7 = (N : Int) ∧ sm 84 47 = (N : Int) ∧ sm 84 57 = (K : Int) ∧ ∀ n, n < N → NR T sc sm K n
/-- x is in a node before N -/
def CHD (sm : Sg) (N x : Nat) : Prop := ∃ n c q i : Nat, n < N ∧ sm 120 n = (c : Int) ∧ sm 121 n = (q : Int) ∧ i < c ∧ sm 125 (q + i) = (x : Int)
section NDS
variable {T : TT} {sc sm sc' sm' : Sg} {sn rp : Int} {N K K' : Nat}
theorem NR.congr {n : Nat} (h : NR T sc sm K n) (hA : ∀ c, 47 ≤ c → c ≤ 53 → c ≠ 52 → sc' c n = sc c n) (hB : ∀ x, CHD sm (n + 1) x → sc' 52 x = sc 52 x) (hC : ∀ c, 116 ≤ c → c ≤ 124 → sm' c n = sm c n) (hD : ∀ j, j < K → sm' 125 j = sm 125 j) (hK : K ≤ K') : NR T sc' sm' K' n := by
  obtain ⟨c, q, a1, a2, a3, a4, a5, a6, a7, a8, a9, a10, a11, a12, a13⟩ := h
  refine ⟨c, q, ?_⟩
  rw [hC 120 (by decide) (by decide), hC 121 (by decide) (by decide), hA 53 (by decide) (by decide) (by decide), hA 47 (by decide) (by decide) (by decide), hC 116 (by decide) (by decide), hA 50 (by decide) (by decide) (by decide), hC 117 (by decide) (by decide), hA 51 (by decide) (by decide) (by decide)]
  refine ⟨a1, a2, by omega, a4, a5, a6, a7, a8, a9, a10, ?_, ?_, ?_⟩
  · rw [a11]
    split
    · rw [hD q (by omega)]
    · rfl
  · intro i hi
    obtain ⟨x, b1, b2, b3⟩ := a12 i hi
    refine ⟨x, by rw [hD _ (by omega)]; exact b1, b2, ?_⟩
    rw [hB x ⟨n, c, q, i, by omega, a1, a2, hi, b1⟩, b3]
    split
    · rw [hD _ (by omega)]
    · rfl
  · unfold NV at *
    rw [hC 116 (by decide) (by decide), hC 117 (by decide) (by decide), hC 118 (by decide) (by decide), hC 119 (by decide) (by decide), hA 48 (by decide) (by decide) (by decide), hA 49 (by decide) (by decide) (by decide)]
    exact a13
theorem ND.add (h : ND T sc sm N K) (h1 : sc' 46 7 = ((N + 1 : Nat) : Int)) (h2 : sm' 84 47 = ((N + 1 : Nat) : Int)) (h3 : sm' 84 57 = (K' : Int)) (hK : K ≤ K')
    (hA : ∀ c n, 47 ≤ c → c ≤ 53 → c ≠ 52 → n < N → sc' c n = sc c n) (hB : ∀ x, CHD sm N x → sc' 52 x = sc 52 x) (hC : ∀ c n, 116 ≤ c → c ≤ 124 → n < N → sm' c n = sm c n) (hD : ∀ j, j < K → sm' 125 j = sm 125 j) (hN : NR T sc' sm' K' N) : ND T sc' sm' (N + 1) K' := by
  refine ⟨h1, h2, h3, fun n hn => ?_⟩
  by_cases c : n = N
  · subst c; exact hN
  · refine (h.2.2.2 n (by omega)).congr (fun c x y w => hA c n x y w (by omega)) (fun x hx => hB x ?_) (fun c x y => hC c n x y (by omega)) hD hK
    obtain ⟨n', c, q, i, b1, b2⟩ := hx
    exact ⟨n', c, q, i, by omega, b2⟩
theorem ND.congr (h : ND T sc sm N K) (h1 : sc' 46 7 = sc 46 7) (h2 : sm' 84 47 = sm 84 47) (h3 : sm' 84 57 = sm 84 57)
    (hA : ∀ c n, 47 ≤ c → c ≤ 53 → n < N → sc' c n = sc c n) (hC : ∀ c n, 116 ≤ c → c ≤ 124 → n < N → sm' c n = sm c n) (hD : ∀ j, j < K → sm' 125 j = sm 125 j) : ND T sc' sm' N K := by
  refine ⟨h1.trans h.1, h2.trans h.2.1, h3.trans h.2.2.1, fun n hn => ?_⟩
  refine (h.2.2.2 n hn).congr (fun c x y _ => hA c n x y hn) (fun x hx => ?_) (fun c x y => hC c n x y hn) hD (Nat.le_refl _)
  obtain ⟨n', c, q, i, b1, b2, b3, b4, b5⟩ := hx
  obtain ⟨c2, q2, a1, a2, a3, a4, a5, a6, a7, a8, a9, a10, a11, a12, a13⟩ := h.2.2.2 n' (by omega)
  obtain ⟨x', d1, d2, d3⟩ := a12 i (by omega)
  have e1 : c = c2 := by omega
  have e2 : q = q2 := by omega
  subst e1 e2
  have : x = x' := by omega
  subst this
  exact hA 52 x (by decide) (by decide) (by omega)
/-- children come before -/
theorem ND.chd (h : ND T sc sm N K) {x : Nat} (hx : CHD sm N x) : ∃ n c q i : Nat, n < N ∧ sm 120 n = (c : Int) ∧ sm 121 n = (q : Int) ∧ i < c ∧ sm 125 (q + i) = (x : Int) ∧ x < n := by
  obtain ⟨n, c, q, i, b1, b2, b3, b4, b5⟩ := hx
  obtain ⟨c2, q2, a1, a2, a3, a4, a5, a6, a7, a8, a9, a10, a11, a12, a13⟩ := h.2.2.2 n b1
  obtain ⟨x', d1, d2, d3⟩ := a12 i (by omega)
  have e1 : c = c2 := by omega
  have e2 : q = q2 := by omega
  subst e1 e2
  have : x = x' := by omega
  subst this
  exact ⟨n, c, q, i, b1, b2, b3, b4, b5, d2⟩
/-- a root is in no node -/
theorem ND.root (h : ND T sc sm N K) {r : Nat} (hr : ∀ m, r < m → m < N → ∀ c q i : Nat, sm 120 m = (c : Int) → sm 121 m = (q : Int) → i < c → (r : Int) < sm 125 (q + i)) : ¬ CHD sm N r := by
  intro hx
  obtain ⟨n, c, q, i, b1, b2, b3, b4, b5, b6⟩ := h.chd hx
  have := hr n b6 b1 c q i b2 b3 b4
  omega
theorem SEG.kids {l0 l1 n0 n1 m c q i : Nat} (h : SEG T sc sm sn rp K l0 l1 n0 n1) (h1 : n0 ≤ m) (h2 : m < n1) (h3 : sm 120 m = (c : Int)) (h4 : sm 121 m = (q : Int)) (h5 : i < c) : (n0 : Int) ≤ sm 125 (q + i) := by
  obtain ⟨c2, q2, b1, b2, b3, b4⟩ := h.2.2.2.1 m h1 h2
  have e1 : c = c2 := by omega
  have e2 : q = q2 := by omega
  subst e1 e2
  exact b4 i h5
end NDS
/-- what a new node of the class changes -/
def MKC (s s' : Sg) (N : Nat) (k st fi cnt wd nu lv : Int) : Prop :=
  s' 46 7 = ((N + 1 : Nat) : Int) ∧ s' 47 N = k ∧ s' 48 N = wd ∧ s' 49 N = nu ∧ s' 50 N = st ∧ s' 51 N = fi ∧ s' 52 N = -1 ∧ s' 53 N = cnt ∧ s' 66 8 = (N : Int) ∧ s' 66 9 = st ∧ s' 66 10 = lv ∧ s' 66 11 = -1 ∧ s' 66 12 = -1 ∧
  (∀ c n, 47 ≤ c → c ≤ 53 → n ≠ N → s' c n = s c n) ∧ s' 66 7 = s 66 7 ∧ (∀ c, ¬ (46 ≤ c ∧ c ≤ 53 ∨ c = 66 ∨ c = 30) → s' c = s c) ∧ (∀ j, j < 4 ∨ 7 < j → s' 30 j = s 30 j)
/-- and of the reference -/
def MKM (s s' : Sg) (N K o c : Nat) (k fi lx nu : Int) : Prop :=
  s' 84 47 = ((N + 1 : Nat) : Int) ∧ s' 84 57 = ((K + c : Nat) : Int) ∧ s' 84 59 = ((o + 1 : Nat) : Int) ∧ s' 116 N = k ∧ s' 117 N = fi ∧ s' 118 N = lx ∧ s' 119 N = nu ∧ s' 120 N = (c : Int) ∧ s' 121 N = (K : Int) ∧ s' 123 N = s 84 68 ∧ s' 124 N = s 84 46 ∧
  (∀ i, i < c → s' 125 (K + i) = s 126 (o + i)) ∧ s' 126 o = (N : Int) ∧ s' 127 o = fi ∧ s' 128 o = -1 ∧
  (∀ b n, 116 ≤ b → b ≤ 124 → n ≠ N → s' b n = s b n) ∧ (∀ j, j < K → s' 125 j = s 125 j) ∧ (∀ b i, 126 ≤ b → b ≤ 128 → i ≠ o → s' b i = s b i) ∧
  (∀ b, ¬ (b = 84 ∨ 116 ≤ b ∧ b ≤ 121 ∨ 123 ≤ b ∧ b ≤ 128) → s' b = s b) ∧ (∀ j, j ≠ 47 → j ≠ 57 → j ≠ 59 → s' 84 j = s 84 j)
section MK
variable {s : Sg} {N K o c : Nat} {k st fi cnt lx nu lv : Int}
theorem c124 (h : s 46 7 = (N : Int)) (hN : N < 8192) (k st fi cnt lv : Int) : g_124 k st fi cnt s ∧ (f_124 k st fi cnt s).1 = (N : Int) ∧ MKC s (f_64 (N : Int) st lv (f_124 k st fi cnt s).2) N k st fi cnt 0 (-1) lv ∧ (f_64 (N : Int) st lv (f_124 k st fi cnt s).2) 30 = s 30 := by
  have e : f_124 k st fi cnt s = ((N : Int), (ax_u2 (ax_u2 (ax_u2 (ax_u2 (ax_u2 (ax_u2 (ax_u2 (ax_u2 s 47 N k) 48 N 0) 49 N (-1)) 50 N st) 51 N fi) 52 N (-1)) 53 N cnt) 46 7 ((N + 1 : Nat) : Int))) := by
    unfold f_124
    rw [h, if_pos (by omega), w32_nat (by omega), w32_id (by omega) (by omega), Int.toNat_natCast, show ((N + 1 : Nat) : Int) - 1 = (N : Int) by omega]
  refine ⟨?_, ?_, ?_, ?_⟩
  · unfold g_124
    rw [h]
    have : 0 ≤ (N : Int) ∧ (N : Int) < 8192 := by omega
    exact ⟨fun _ => ⟨this, this, this, this, this, this, this, trivial⟩, fun _ => trivial⟩
  · rw [e]
  · rw [e]
    unfold f_64 MKC
    refine ⟨by simp [ax_u2], by simp [ax_u2], by simp [ax_u2], by simp [ax_u2], by simp [ax_u2], by simp [ax_u2], by simp [ax_u2], by simp [ax_u2], by simp [ax_u2], by simp [ax_u2], by simp [ax_u2], by simp [ax_u2], by simp [ax_u2], ?_, by simp [ax_u2], ?_, by simp [ax_u2]⟩
    · intro b n h1 h2 h3
      simp [ax_u2, h3, show b ≠ 46 by omega, show b ≠ 66 by omega]
    · intro b hb
      funext x
      simp [ax_u2, show b ≠ 46 by omega, show b ≠ 66 by omega, show b ≠ 47 by omega, show b ≠ 48 by omega, show b ≠ 49 by omega, show b ≠ 50 by omega, show b ≠ 51 by omega, show b ≠ 52 by omega, show b ≠ 53 by omega]
  · rw [e]
    funext x
    simp [f_64, ax_u2]
theorem MKC.widen {s' : Sg} {wd nu : Int} (h : MKC s s' N k st fi cnt wd nu lv) (hN : N < 8192) (w : Int) : g_123 (N : Int) w s' ∧ MKC s (f_123 (N : Int) w s') N k st fi cnt w nu lv := by
  obtain ⟨h1, h2, h3, h4, h5, h6, h7, h8, h9, h10, h11, h12, h13, h14, h15, h16, h17⟩ := h
  have e : f_114 (N : Int) s' = 1 := by unfold f_114; rw [h1, if_neg (by omega), if_neg (by omega)]
  have e2 : f_123 (N : Int) w s' = ax_u2 s' 48 N w := by unfold f_123; rw [e, if_neg (by decide), Int.toNat_natCast]
  refine ⟨?_, ?_⟩
  · unfold g_123
    exact ⟨fun _ => trivial, fun _ => ⟨⟨by omega, by omega⟩, trivial⟩⟩
  · rw [e2]
    refine ⟨by simpa [ax_u2] using h1, by simpa [ax_u2] using h2, by simp [ax_u2], by simpa [ax_u2] using h4, by simpa [ax_u2] using h5, by simpa [ax_u2] using h6, by simpa [ax_u2] using h7, by simpa [ax_u2] using h8, by simpa [ax_u2] using h9, by simpa [ax_u2] using h10, by simpa [ax_u2] using h11, by simpa [ax_u2] using h12, by simpa [ax_u2] using h13, ?_, by simpa [ax_u2] using h15, ?_, fun j hj => by rw [← h17 j hj]; simp [ax_u2]⟩
    · intro b n x1 x2 x3
      rw [← h14 b n x1 x2 x3]
      simp [ax_u2, x3]
    · intro b hb
      rw [← h16 b hb]
      exact u2_row _ _ _ (by omega)
theorem MKC.enum {s' : Sg} {wd nu : Int} (h : MKC s s' N k st fi cnt wd nu lv) (hN : N < 8192) (w : Int) : g_125 (N : Int) w s' ∧ MKC s (f_125 (N : Int) w s') N k st fi cnt wd w lv := by
  obtain ⟨h1, h2, h3, h4, h5, h6, h7, h8, h9, h10, h11, h12, h13, h14, h15, h16, h17⟩ := h
  have e : f_114 (N : Int) s' = 1 := by unfold f_114; rw [h1, if_neg (by omega), if_neg (by omega)]
  have e2 : f_125 (N : Int) w s' = ax_u2 s' 49 N w := by unfold f_125; rw [e, if_neg (by decide), Int.toNat_natCast]
  refine ⟨?_, ?_⟩
  · unfold g_125
    exact ⟨fun _ => trivial, fun _ => ⟨⟨by omega, by omega⟩, trivial⟩⟩
  · rw [e2]
    refine ⟨by simpa [ax_u2] using h1, by simpa [ax_u2] using h2, by simpa [ax_u2] using h3, by simp [ax_u2], by simpa [ax_u2] using h5, by simpa [ax_u2] using h6, by simpa [ax_u2] using h7, by simpa [ax_u2] using h8, by simpa [ax_u2] using h9, by simpa [ax_u2] using h10, by simpa [ax_u2] using h11, by simpa [ax_u2] using h12, by simpa [ax_u2] using h13, ?_, by simpa [ax_u2] using h15, ?_, fun j hj => by rw [← h17 j hj]; simp [ax_u2]⟩
    · intro b n x1 x2 x3
      rw [← h14 b n x1 x2 x3]
      simp [ax_u2, x3]
    · intro b hb
      rw [← h16 b hb]
      exact u2_row _ _ _ (by omega)
/-- which rows these change -/
theorem r123 {x w : Int} {b : Nat} (hb : b ≠ 48) : f_123 x w s b = s b := by
  unfold f_123
  split
  · rfl
  · exact u2_row _ _ _ hb
theorem r125 {x w : Int} {b : Nat} (hb : b ≠ 49) : f_125 x w s b = s b := by
  unfold f_125
  split
  · rfl
  · exact u2_row _ _ _ hb
/-- a leaf of the reference -/
theorem m263 (h1 : s 84 47 = (N : Int)) (h2 : s 84 57 = (K : Int)) (h3 : s 84 59 = (o : Int)) (hN : N < 8200) (ho : o < 8200) (k fi lx nu : Int) :
    g_263 k fi lx nu s ∧ (f_263 k fi lx nu s).1 = (N : Int) ∧ g_264 (N : Int) fi (-1) (f_263 k fi lx nu s).2 ∧ MKM s (f_264 (N : Int) fi (-1) (f_263 k fi lx nu s).2) N K o 0 k fi lx nu := by
  have e : f_263 k fi lx nu s = ((N : Int), (ax_u2 (ax_u2 (ax_u2 (ax_u2 (ax_u2 (ax_u2 (ax_u2 (ax_u2 (ax_u2 s 116 N k) 117 N fi) 118 N lx) 119 N nu) 120 N 0) 121 N (K : Int)) 123 N (s 84 68)) 124 N (s 84 46)) 84 47 ((N + 1 : Nat) : Int))) := by
    unfold f_263
    rw [h1, h2, w32_nat (by omega), Int.toNat_natCast]
  have e59 : (f_263 k fi lx nu s).2 84 59 = (o : Int) := by rw [e]; simpa [ax_u2] using h3
  refine ⟨?_, by rw [e], ?_, ?_⟩
  · unfold g_263
    rw [h1]
    have : 0 ≤ (N : Int) ∧ (N : Int) < 8200 := by omega
    exact ⟨this, this, this, this, this, this, this, this, trivial⟩
  · unfold g_264
    rw [e59]
    have : 0 ≤ (o : Int) ∧ (o : Int) < 8200 := by omega
    exact ⟨this, this, this, trivial⟩
  · unfold f_264
    rw [e59, w32_nat (by omega), Int.toNat_natCast, e]
    refine ⟨by simp [ax_u2], by simpa [ax_u2] using h2, by simp [ax_u2], by simp [ax_u2], by simp [ax_u2], by simp [ax_u2], by simp [ax_u2], by simp [ax_u2], by simp [ax_u2], by simp [ax_u2], by simp [ax_u2], fun i hi => absurd hi (by omega), by simp [ax_u2], by simp [ax_u2], by simp [ax_u2], ?_, ?_, ?_, ?_, ?_⟩
    · intro b n x1 x2 x3
      simp [ax_u2, x3, show b ≠ 84 by omega, show b ≠ 126 by omega, show b ≠ 127 by omega, show b ≠ 128 by omega]
    · intro j hj
      simp [ax_u2]
    · intro b i x1 x2 x3
      simp [ax_u2, x3, show b ≠ 84 by omega, show b ≠ 116 by omega, show b ≠ 117 by omega, show b ≠ 118 by omega, show b ≠ 119 by omega, show b ≠ 120 by omega, show b ≠ 121 by omega, show b ≠ 123 by omega, show b ≠ 124 by omega]
    · intro b hb
      funext x
      simp [ax_u2, show b ≠ 84 by omega, show b ≠ 116 by omega, show b ≠ 117 by omega, show b ≠ 118 by omega, show b ≠ 119 by omega, show b ≠ 120 by omega, show b ≠ 121 by omega, show b ≠ 123 by omega, show b ≠ 124 by omega, show b ≠ 126 by omega, show b ≠ 127 by omega, show b ≠ 128 by omega]
    · intro j x1 x2 x3
      simp [ax_u2, x1, x3]
theorem m266l {s0 : Sg} (hN : N < 8200) (hK : K + c ≤ 16400) (ho : o + c ≤ 8200) : ∀ (r i F : Nat) (s : Sg), i + r = c → s 84 59 = ((o + c : Nat) : Int) → s 84 57 = ((K + i : Nat) : Int) → s 120 N = (i : Int) → s 126 = s0 126 →
    ∃ s' : Sg, j_266_20 (F + r + 1) fi (c : Int) (N : Int) ((o + i : Nat) : Int) s = j_266_72 fi (c : Int) (N : Int) s' ∧ s' 84 59 = ((o + c : Nat) : Int) ∧ s' 84 57 = ((K + c : Nat) : Int) ∧ s' 120 N = (c : Int) ∧ (∀ j, i ≤ j → j < c → s' 125 (K + j) = s0 126 (o + j)) ∧ (∀ j, j < K + i → s' 125 j = s 125 j) ∧ (∀ n, n ≠ N → s' 120 n = s 120 n) ∧ (∀ b, b ≠ 84 → b ≠ 120 → b ≠ 125 → s' b = s b) ∧ (∀ j, j ≠ 57 → s' 84 j = s 84 j) := by
  intro r
  induction r with
  | zero =>
    intro i F s hi h1 h2 h3 h4
    refine ⟨s, ?_, h1, by rw [h2, show K + i = K + c by omega], by rw [h3, show i = c by omega], fun j x y => absurd y (by omega), fun _ _ => rfl, fun _ _ => rfl, fun _ _ _ _ => rfl, fun _ _ => rfl⟩
    rw [j_266_20, if_pos (by omega)]
  | succ r ih =>
    intro i F s hi h1 h2 h3 h4
    rw [j_266_20, if_neg (by omega), gd_pos (by omega), gd_pos (by omega), gd_pos (by omega), gd_pos (by omega), h2, Int.toNat_natCast, Int.toNat_natCast, Int.toNat_natCast, h3, w32_nat (by omega), w32_nat (by omega), w32_nat (by omega), h4]
    obtain ⟨s', d1, d2, d3, d4, d5, d6, d7, d8, d9⟩ := ih (i + 1) F (ax_u2 (ax_u2 (ax_u2 s 125 (K + i) (s0 126 (o + i))) 84 57 ((K + i + 1 : Nat) : Int)) 120 N ((i + 1 : Nat) : Int)) (by omega) (by simpa [ax_u2] using h1) (by simp [ax_u2]; omega) (by simp [ax_u2]) (by rw [← h4]; funext x; simp [ax_u2])
    refine ⟨s', ?_, d2, d3, d4, ?_, ?_, ?_, ?_, ?_⟩
    · rw [show F + (r + 1) = F + r + 1 by omega]
      exact d1
    · intro j x y
      by_cases e : j = i
      · subst e
        rw [d6 _ (by omega)]
        simp [ax_u2]
      · exact d5 j (by omega) y
    · intro j hj
      rw [d6 j (by omega)]
      simp [ax_u2, show j ≠ K + i by omega]
    · intro n hn
      rw [d7 n hn]
      simp [ax_u2, hn]
    · intro b x y w
      rw [d8 b x y w]
      funext e
      simp [ax_u2, x, y, w]
    · intro j hj
      rw [d9 j hj]
      simp [ax_u2, hj]
theorem m266 (h1 : s 84 47 = (N : Int)) (h2 : s 84 57 = (K : Int)) (h3 : s 84 59 = ((o + c : Nat) : Int)) (hN : N < 8200) (hK : K + c ≤ 16400) (ho : o + c ≤ 8200) (ho1 : o < 8200) (k fi lx nu : Int) :
    ∃ s' : Sg, f_266 k fi lx nu (c : Int) s = some s' ∧ MKM s s' N K o c k fi lx nu := by
  have e : f_263 k fi lx nu s = ((N : Int), (ax_u2 (ax_u2 (ax_u2 (ax_u2 (ax_u2 (ax_u2 (ax_u2 (ax_u2 (ax_u2 s 116 N k) 117 N fi) 118 N lx) 119 N nu) 120 N 0) 121 N (K : Int)) 123 N (s 84 68)) 124 N (s 84 46)) 84 47 ((N + 1 : Nat) : Int))) := by
    unfold f_263
    rw [h1, h2, w32_nat (by omega), Int.toNat_natCast]
  have g : g_263 k fi lx nu s := by
    unfold g_263
    rw [h1]
    have : 0 ≤ (N : Int) ∧ (N : Int) < 8200 := by omega
    exact ⟨this, this, this, this, this, this, this, this, trivial⟩
  obtain ⟨F, hF⟩ := FU_split (k := c + 1) (by omega)
  have e59 : (f_263 k fi lx nu s).2 84 59 = ((o + c : Nat) : Int) := by rw [e]; simpa [ax_u2] using h3
  unfold f_266
  rw [gd_pos g]
  simp only [Option.bind_some]
  rw [e59, show (f_263 k fi lx nu s).1 = (N : Int) by rw [e], w32_id (by omega) (by omega), show ((o + c : Nat) : Int) - (c : Int) = ((o + 0 : Nat) : Int) by omega, hF, show F + (c + 1) = F + c + 1 by omega]
  obtain ⟨s', d1, d2, d3, d4, d5, d6, d7, d8, d9⟩ := m266l (s0 := s) (fi := fi) (N := N) (K := K) (o := o) (c := c) hN hK ho c 0 F (f_263 k fi lx nu s).2 (by omega) e59 (by rw [e]; simpa [ax_u2] using h2) (by rw [e]; simp [ax_u2]) (by rw [e]; funext x; simp [ax_u2])
  have e2 : ∀ j, j ≠ 57 → s' 84 j = (f_263 k fi lx nu s).2 84 j := d9
  have hg : g_264 (N : Int) fi (-1) (ax_u2 s' 84 59 (o : Int)) := by
    unfold g_264
    have : 0 ≤ (ax_u2 s' 84 59 (o : Int)) 84 59 ∧ (ax_u2 s' 84 59 (o : Int)) 84 59 < 8200 := by
      rw [u2_same]
      omega
    exact ⟨this, this, this, trivial⟩
  refine ⟨f_264 (N : Int) fi (-1) (ax_u2 s' 84 59 (o : Int)), ?_, ?_⟩
  · rw [d1]
    unfold j_266_72
    rw [d2, w32_id (by omega) (by omega), show ((o + c : Nat) : Int) - (c : Int) = (o : Int) by omega, gd_pos hg]
    rfl
  · unfold f_264
    rw [u2_same, w32_nat (by omega), Int.toNat_natCast]
    have r116 : ∀ b n, b ≠ 84 → b ≠ 120 → b ≠ 125 → s' b n = (f_263 k fi lx nu s).2 b n := fun b n x y w => by rw [d8 b x y w]
    have big : ∀ b n, b ≠ 84 → b ≠ 126 → b ≠ 127 → b ≠ 128 → (ax_u2 (ax_u2 (ax_u2 (ax_u2 (ax_u2 s' 84 59 (o : Int)) 126 o (N : Int)) 127 o fi) 128 o (-1)) 84 59 ((o + 1 : Nat) : Int)) b n = s' b n := by
      intro b n x y w v
      simp [ax_u2, x, y, w, v]
    refine ⟨?_, ?_, by simp [ax_u2], ?_, ?_, ?_, ?_, ?_, ?_, ?_, ?_, ?_, by simp [ax_u2], by simp [ax_u2], by simp [ax_u2], ?_, ?_, ?_, ?_, ?_⟩
    · have := e2 47 (by decide)
      rw [e] at this
      simpa [ax_u2] using this
    · simpa [ax_u2] using d3
    · rw [big 116 N (by decide) (by decide) (by decide) (by decide), r116 116 N (by decide) (by decide) (by decide), e]; simp [ax_u2]
    · rw [big 117 N (by decide) (by decide) (by decide) (by decide), r116 117 N (by decide) (by decide) (by decide), e]; simp [ax_u2]
    · rw [big 118 N (by decide) (by decide) (by decide) (by decide), r116 118 N (by decide) (by decide) (by decide), e]; simp [ax_u2]
    · rw [big 119 N (by decide) (by decide) (by decide) (by decide), r116 119 N (by decide) (by decide) (by decide), e]; simp [ax_u2]
    · rw [big 120 N (by decide) (by decide) (by decide) (by decide), d4]
    · rw [big 121 N (by decide) (by decide) (by decide) (by decide), r116 121 N (by decide) (by decide) (by decide), e]; simp [ax_u2]
    · rw [big 123 N (by decide) (by decide) (by decide) (by decide), r116 123 N (by decide) (by decide) (by decide), e]; simp [ax_u2]
    · rw [big 124 N (by decide) (by decide) (by decide) (by decide), r116 124 N (by decide) (by decide) (by decide), e]; simp [ax_u2]
    · intro i hi
      rw [big 125 _ (by decide) (by decide) (by decide) (by decide)]
      exact d5 i (by omega) hi
    · intro b n x1 x2 x3
      rw [big b n (by omega) (by omega) (by omega) (by omega)]
      by_cases h120 : b = 120
      · subst h120
        rw [d7 n x3, e]
        simp [ax_u2, x3]
      · rw [r116 b n (by omega) h120 (by omega), e]
        simp [ax_u2, x3, show b ≠ 84 by omega]
    · intro j hj
      rw [big 125 _ (by decide) (by decide) (by decide) (by decide), d6 j (by omega), e]
      simp [ax_u2]
    · intro b i x1 x2 x3
      have : s' b i = s b i := by
        rw [r116 b i (by omega) (by omega) (by omega), e]
        simp [ax_u2, show b ≠ 84 by omega, show b ≠ 116 by omega, show b ≠ 117 by omega, show b ≠ 118 by omega, show b ≠ 119 by omega, show b ≠ 120 by omega, show b ≠ 121 by omega, show b ≠ 123 by omega, show b ≠ 124 by omega]
      rw [← this]
      simp [ax_u2, x3, show b ≠ 84 by omega]
    · intro b hb
      funext x
      rw [big b x (by omega) (by omega) (by omega) (by omega), r116 b x (by omega) (by omega) (by omega), e]
      simp [ax_u2, show b ≠ 84 by omega, show b ≠ 116 by omega, show b ≠ 117 by omega, show b ≠ 118 by omega, show b ≠ 119 by omega, show b ≠ 120 by omega, show b ≠ 121 by omega, show b ≠ 123 by omega, show b ≠ 124 by omega]
    · intro j x1 x2 x3
      have := e2 j x2
      rw [e] at this
      simp [ax_u2, x1] at this
      simp [ax_u2, x3, this]
end MK
