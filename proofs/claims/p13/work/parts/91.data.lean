/-! READING: what both sides hold between two statements or actions. -/
/-- places: lexemes take room -/
def POS (T : TT) : Prop := (∀ k, k < T.z → T.fm k + 1 ≤ T.fm (k + 1)) ∧ (∀ k, k + 1 < T.z → 17 ≤ T.tk k → T.tk k ≤ 20 → T.tk (k + 1) = 1 → T.fm k + 4 ≤ T.fm (k + 1)) ∧ (∀ k, k < T.z → T.tk k = 21 → T.fm k + 2 ≤ T.fm (k + 1)) ∧ T.fm T.z ≤ 8192
/-- neighbours -/
def psl : List (Int × Int) := [(16, 2), (93, 2), (1, 2), (41, 2), (2, 61), (1, 1), (2, 2), (2, 1), (22, 123), (23, 1), (24, 2), (1, 61), (93, 61)]
def PRQ (p q : Int) : Prop := PRX p q ∨ (p ∈ opB ∧ (q = 59 ∨ q = 123)) ∨ (p, q) ∈ psl ∨ ((p = 59 ∨ p = 125) ∧ 17 ≤ q ∧ q ≤ 20) ∨ (17 ≤ p ∧ p ≤ 20 ∧ q = 1) ∨ ((p = 123 ∨ p = 59 ∨ p = 125) ∧ (q = 1 ∨ q = 21 ∨ q = 23 ∨ q = 24 ∨ q = 125)) ∨ (p = 125 ∧ q = 22)
/-- how many bodies are open before a lexeme -/
def dpt (T : TT) : Nat → Int
  | 0 => 0
  | k + 1 => dpt T k + (if T.tk k = 123 then 1 else if T.tk k = 125 then -1 else 0)
/-- statements begin where they should -/
def STT (T : TT) (k : Nat) : Prop := (17 ≤ T.tk k ∧ T.tk k ≤ 20) ↔ (1 ≤ k ∧ (T.tk (k - 1) = 59 ∨ T.tk (k - 1) = 125) ∧ dpt T k = 0)
def SKW (T : TT) (sc sm : Sg) (i : Nat) : Prop := ∃ w : Nat, sm 97 i = (w : Int) ∧ w < T.z ∧ T.tk w = 2 ∧ sc 57 i = mn (T.vl w)
def SKC (T : TT) (sc sm : Sg) (i : Nat) : Prop := ∃ c : Nat, sm 96 i = (c : Int) ∧ c < T.z ∧ T.tk c = 2 ∧ sc 58 i = mn (T.vl c)
/-- the calls of a helper -/
def CSG (T : TT) (sm : Sg) (i l0 l1 n0 n1 : Nat) : Prop :=
  (∀ m, n0 ≤ m → m < n1 → sm 123 m = (i : Int)) ∧ (∀ m, n0 ≤ m → m < n1 → sm 116 m = 3 → ∃ k : Nat, l0 ≤ k ∧ k < l1 ∧ sm 118 m = (k : Int) ∧ T.tk k = 1 ∧ T.tk (k + 1) = 40) ∧ (∀ k, l0 ≤ k → k < l1 → T.tk k = 1 → T.tk (k + 1) = 40 → ∃ m, n0 ≤ m ∧ m < n1 ∧ sm 116 m = 3 ∧ sm 118 m = (k : Int)) ∧ (∀ m m', n0 ≤ m → m < n1 → n0 ≤ m' → m' < n1 → sm 116 m = 3 → sm 116 m' = 3 → sm 118 m = sm 118 m' → m = m') ∧ 3 * lcT T l0 (l1 - l0) ≤ l1 - l0
def DEFX (T : TT) (sc sm : Sg) (N i h p0 pc : Nat) : Prop := ∃ st e n0 n1 : Nat, sm 100 i = (n1 : Int) - 1 ∧ n0 < n1 ∧ n1 ≤ N ∧ sc 60 i = (n0 : Int) ∧ sm 101 i = (st : Int) ∧ h < st ∧ st < e ∧ e < T.z ∧ T.tk e = 59 ∧ (∀ k, h ≤ k → k < e → T.tk k ≠ 59) ∧ (∀ k, h < k → k < st → ¬ (T.tk k = 1 ∧ T.tk (k + 1) = 40)) ∧ CSG T sm i st e n0 n1 ∧ (∀ j, j < pc → sm 104 (p0 + j) = ((h + 2 + 3 * j : Nat) : Int) ∧ sm 105 (p0 + j) = ((h + 3 + 3 * j : Nat) : Int) ∧ h + 3 + 3 * j < T.z ∧ T.tk (h + 2 + 3 * j) = 1 ∧ T.tk (h + 3 + 3 * j) = 2)
/-- the bits of an instruction's parts -/
def bsm (T : TT) (sc sm : Sg) (p0 : Nat) : Nat → Int
  | 0 => 0
  | j + 1 => ax_w32 (bsm T sc sm p0 j + (if sm 104 (p0 + j) < 0 then sc 43 (sm 105 (p0 + j)).toNat else mn (T.vl (sm 105 (p0 + j)).toNat)))
def INSX (T : TT) (sc sm : Sg) (i h p0 pc : Nat) : Prop := (∃ f : Nat → Nat, f 0 = h + 1 ∧ f pc < T.z ∧ T.tk (f pc) = 123 ∧ ∀ j, j < pc → (T.tk (f j) = 2 ∧ sm 104 (p0 + j) = -1 ∧ sm 105 (p0 + j) = (f j : Int) ∧ f (j + 1) = f j + 1) ∨ (T.tk (f j) = 1 ∧ T.tk (f j + 1) = 58 ∧ T.tk (f j + 2) = 2 ∧ sm 104 (p0 + j) = (f j : Int) ∧ sm 105 (p0 + j) = ((f j + 2 : Nat) : Int) ∧ f (j + 1) = f j + 3)) ∧ sc 57 i = bsm T sc sm p0 pc
/-- a statement is alike -/
def SRL (T : TT) (sc sm : Sg) (P N i : Nat) : Prop := ∃ h p0 pc n0 : Nat, sc 56 i = (h : Int) ∧ sm 95 i = (h : Int) ∧ h < T.z ∧ T.tk h = 1 ∧ sc 55 i = sm 94 i ∧ sm 98 i = (p0 : Int) ∧ sm 99 i = (pc : Int) ∧ p0 + pc ≤ P ∧ sc 60 i = (n0 : Int) ∧ n0 ≤ N ∧
  ((sm 94 i = 0 ∧ pc = 0 ∧ SKW T sc sm i ∧ ((sm 96 i = -1 ∧ sc 58 i = 0) ∨ SKC T sc sm i)) ∨ (sm 94 i = 1 ∧ pc = 0 ∧ SKW T sc sm i ∧ SKC T sc sm i) ∨ (sm 94 i = 2 ∧ sc 58 i = (pc : Int) ∧ SKW T sc sm i ∧ DEFX T sc sm N i h p0 pc) ∨ (sm 94 i = 3 ∧ sc 58 i = (pc : Int) ∧ INSX T sc sm i h p0 pc))
/-- an action -/
def ARL (T : TT) (sm : Sg) (S N a : Nat) : Prop := ∃ s : Nat, sm 112 a = (s : Int) ∧ s < S ∧ sm 94 s = 3 ∧ -1 ≤ sm 113 a ∧ sm 113 a < (a : Int) ∧ (0 ≤ sm 113 a → sm 106 (sm 113 a).toNat = 2) ∧
  ((sm 106 a = 0 ∧ (∃ x : Nat, sm 107 a = (x : Int) ∧ x < T.z ∧ T.tk x = 1) ∧ (sm 109 a = -1 ∨ ∃ n : Nat, sm 109 a = (n : Int) ∧ n < N) ∧ (∃ n : Nat, sm 110 a = (n : Int) ∧ n < N)) ∨
   (sm 106 a = 1 ∧ (∃ n : Nat, sm 110 a = (n : Int) ∧ n < N) ∧ (∃ x : Nat, sm 111 a = (x : Int) ∧ x < T.z)) ∨
   (sm 106 a = 2 ∧ (∃ x : Nat, sm 107 a = (x : Int) ∧ x < T.z ∧ T.tk x = 1) ∧ (∃ x : Nat, sm 108 a = (x : Int) ∧ x < T.z ∧ T.tk x = 2)) ∨
   (sm 106 a = 3 ∧ (∃ x : Nat, sm 108 a = (x : Int) ∧ x < T.z ∧ T.tk x = 2)))
/-- what claims there are -/
def CLc (sc sm : Sg) (S A c : Nat) : Prop := (∃ a, a < A ∧ sm 106 a = 0 ∧ sc 62 c = sm 107 a ∧ sc 63 c = sm 109 a ∧ sc 64 c = sm 110 a ∧ sc 65 c = 0) ∨ (∃ a, a < A ∧ sm 106 a = 1 ∧ sc 62 c = sm 111 a ∧ sc 63 c = -1 ∧ sc 64 c = sm 110 a ∧ sc 65 c = 1) ∨ (∃ s, s < S ∧ sm 94 s = 2 ∧ sc 62 c = sm 101 s ∧ sc 63 c = -1 ∧ sc 64 c = sm 100 s ∧ sc 65 c = (if sc 57 s < 1 then 1 else sc 57 s))
def CLA (sc sm : Sg) (S A C : Nat) : Prop := (∀ c, c < C → CLc sc sm S A c) ∧ (CN sc → ∀ a, a < A → sm 106 a = 0 → ∃ c, c < C ∧ sc 62 c = sm 107 a ∧ sc 63 c = sm 109 a ∧ sc 64 c = sm 110 a ∧ sc 65 c = 0) ∧ (∀ a, a < A → sm 106 a = 1 → ∃ c, c < C ∧ sc 62 c = sm 111 a ∧ sc 63 c = -1 ∧ sc 64 c = sm 110 a ∧ sc 65 c = 1) ∧ (∀ s, s < S → sm 94 s = 2 → ∃ c, c < C ∧ sc 62 c = sm 101 s ∧ sc 63 c = -1 ∧ sc 64 c = sm 100 s ∧ sc 65 c = (if sc 57 s < 1 then 1 else sc 57 s))
/-- whose a node is, and what hides its name -/
def NOW (sc sm : Sg) (S A n : Nat) : Prop := ∃ s : Nat, sm 123 n = (s : Int) ∧ s < S ∧ -1 ≤ sm 124 n ∧ sm 124 n < (A : Int) ∧ (0 ≤ sm 124 n → sm 106 (sm 124 n).toNat = 2) ∧ sc 60 s ≤ (n : Int) ∧ (∀ s', s < s' → s' < S → (n : Int) < sc 60 s')
/-- every part is a statement's; a helper's nodes end at its own -/
def PHX (sc sm : Sg) (S P N : Nat) : Prop := (∀ p, p < P → ∃ i, i < S ∧ (sm 98 i).toNat ≤ p ∧ p < (sm 98 i).toNat + (sm 99 i).toNat) ∧ (∀ i, i < S → sm 94 i = 2 → (i + 1 < S → sc 60 (i + 1) = sm 100 i + 1) ∧ (i + 1 = S → sm 100 i + 1 = (N : Int)))
def PHE (sc sm : Sg) (S S' P P' N N' : Nat) : Prop := S' ≤ S + 1 ∧ (∀ i, S ≤ i → i < S' → sc 60 i = (N : Int)) ∧ (∀ p, P ≤ p → p < P' → ∃ i, i < S' ∧ (sm 98 i).toNat ≤ p ∧ p < (sm 98 i).toNat + (sm 99 i).toNat) ∧ (∀ i, S ≤ i → i < S' → sm 94 i = 2 → sm 100 i + 1 = (N' : Int)) ∧ (S' = S → N < N' → ∀ i, i + 1 = S → sm 94 i ≠ 2)
/-- where a helper ends; it does before what follows begins -/
def EOH (T : TT) (h e : Nat) : Prop := h ≤ e ∧ T.tk e = 59 ∧ ∀ k, h ≤ k → k < e → T.tk k ≠ 59
def LOR (T : TT) (sm : Sg) (S : Nat) : Prop := ∀ i, i < S → sm 94 i = 2 → ∀ e : Nat, EOH T (sm 95 i).toNat e → (e : Int) < sm 84 18 ∧ ∀ j, i < j → j < S → (e : Int) < sm 95 j
def LOE (T : TT) (sm sm' : Sg) (S S' : Nat) : Prop := (∀ i, S ≤ i → i < S' → sm 84 18 ≤ sm' 95 i) ∧ (∀ i, S ≤ i → i < S' → sm' 94 i = 2 → ∀ e : Nat, EOH T (sm' 95 i).toNat e → (e : Int) < sm' 84 18)
theorem LOE.same (T : TT) (sm sm' : Sg) (S : Nat) : LOE T sm sm' S S := ⟨fun _ x y => absurd y (by omega), fun _ x y => absurd y (by omega)⟩
/-- the calls' lexemes -/
def CLX (sm : Sg) (N : Nat) : Prop := (∀ n, n < N → sm 116 n = 3 → sm 118 n < sm 84 18) ∧ (∀ n m, n < N → m < N → sm 116 n = 3 → sm 116 m = 3 → sm 118 n = sm 118 m → n = m)
def CLE (sm sm' : Sg) (N N' : Nat) : Prop := sm 84 18 ≤ sm' 84 18 ∧ (∀ n, N ≤ n → n < N' → sm' 116 n = 3 → sm 84 18 ≤ sm' 118 n ∧ sm' 118 n < sm' 84 18) ∧ (∀ n m, N ≤ n → n < N' → N ≤ m → m < N' → sm' 116 n = 3 → sm' 116 m = 3 → sm' 118 n = sm' 118 m → n = m)
theorem CLE.same {sm sm' : Sg} (N : Nat) (h : sm 84 18 ≤ sm' 84 18) : CLE sm sm' N N := ⟨h, fun _ x y => absurd y (by omega), fun _ _ x y => absurd y (by omega)⟩
theorem PHE.same (sc sm : Sg) (S P N : Nat) : PHE sc sm S S P P N N := ⟨by omega, fun _ x y => absurd y (by omega), fun _ x y => absurd y (by omega), fun _ x y => absurd y (by omega), fun _ x => absurd x (by omega)⟩
def NEV (T : TT) (sc sm : Sg) (n : Nat) : Prop := 1 ≤ sm 116 n → sm 116 n ≤ 3 → (sc 48 n ≠ 0 ↔ OWN T sm (sm 123 n).toNat (sm 124 n) (T.vl (sm 118 n).toNat)) ∧ (sc 48 n ≠ 0 → OWW T sm (sm 123 n).toNat (sm 124 n) (T.vl (sm 118 n).toNat) (sc 48 n))
/-- the statement that has a name -/
def OWR (T : TT) (sc sm : Sg) (S : Nat) : Prop := ∀ id : Nat, IDN T id → (sc 36 id = -1 ∧ ∀ i, i < S → T.vl (sm 95 i).toNat ≠ (id : Int)) ∨ (∃ i : Nat, i < S ∧ sc 36 id = (i : Int) ∧ T.vl (sm 95 i).toNat = (id : Int))
/-- nothing wrong so far -/
def BIN (s : Sg) (k : Nat) : Prop := ∀ e : Nat, (e : Int) < s 43 k → (s 40 ((s 42 k).toNat + e) % 256 = 48 ∨ s 40 ((s 42 k).toNat + e) % 256 = 49)
def pw2 (v : Int) : Prop := v = 2 ∨ v = 4 ∨ v = 8 ∨ v = 16 ∨ v = 32 ∨ v = 64
def GPT (T : TT) (sc sm : Sg) (p0 pc : Nat) : Prop := ∀ p, p0 ≤ p → p < p0 + pc → (0 ≤ sm 104 p → 1 ≤ T.vl (sm 105 p).toNat ∧ T.vl (sm 105 p).toNat ≤ 32) ∧ (sm 104 p < 0 → BIN sc (sm 105 p).toNat) ∧ (∀ q, p0 ≤ q → q < p → 0 ≤ sm 104 p → 0 ≤ sm 104 q → T.vl (sm 104 p).toNat ≠ T.vl (sm 104 q).toNat)
def GST (T : TT) (sc sm : Sg) (i : Nat) : Prop := (sm 94 i < 3 → 1 ≤ T.vl (sm 97 i).toNat ∧ T.vl (sm 97 i).toNat ≤ 32) ∧ (sm 94 i = 1 → 1 ≤ T.vl (sm 96 i).toNat ∧ T.vl (sm 96 i).toNat ≤ 20) ∧ (sm 94 i = 0 → 0 ≤ sm 96 i → pw2 (T.vl (sm 96 i).toNat)) ∧ (∀ j, j < i → T.vl (sm 95 j).toNat ≠ T.vl (sm 95 i).toNat) ∧ GPT T sc sm (sm 98 i).toNat (sm 99 i).toNat
def GAC (T : TT) (sm : Sg) (a : Nat) : Prop := (sm 106 a = 2 → 1 ≤ T.vl (sm 108 a).toNat ∧ T.vl (sm 108 a).toNat ≤ 255 ∧ ¬ OWN T sm (sm 112 a).toNat (sm 113 a) (T.vl (sm 107 a).toNat)) ∧ (sm 106 a = 3 → T.vl (sm 108 a).toNat ≤ 255) ∧ (sm 106 a = 0 → ¬ OWN T sm (sm 112 a).toNat (sm 113 a) (T.vl (sm 107 a).toNat))
def GNO (T : TT) (sm : Sg) (n : Nat) : Prop :=
  (sm 116 n = 0 → 1 ≤ T.vl (sm 119 n).toNat ∧ T.vl (sm 119 n).toNat ≤ 32 ∧ T.vl (sm 118 n).toNat < 2 ^ (T.vl (sm 119 n).toNat).toNat) ∧
  (sm 116 n = 4 ∨ sm 116 n = 5 → 1 ≤ T.vl (sm 119 n).toNat ∧ T.vl (sm 119 n).toNat ≤ 32) ∧
  (sm 116 n = 7 → T.vl (sm 118 n).toNat ≤ 31 ∧ T.vl (sm 119 n).toNat ≤ 31 ∧ T.vl (sm 119 n).toNat ≤ T.vl (sm 118 n).toNat) ∧
  (sm 116 n = 2 ∨ sm 116 n = 3 → ¬ OWN T sm (sm 123 n).toNat (sm 124 n) (T.vl (sm 118 n).toNat))
def GOOD (T : TT) (sc sm : Sg) (S A N w : Nat) : Prop := (1 ≤ T.vl w ∧ T.vl w ≤ 64) ∧ (∀ i, i < S → GST T sc sm i) ∧ (∀ a, a < A → GAC T sm a) ∧ (∀ n, n < N → GNO T sm n)
/-- the data that have been read -/
def DAT (T : TT) (sc sm : Sg) (S P A N C w : Nat) : Prop := (∀ i, i < S → SRL T sc sm P N i) ∧ (∀ a, a < A → ARL T sm S N a) ∧ CLA sc sm S A C ∧ (∀ n, n < N → NOW sc sm S A n) ∧ (CN sc → ∀ n, n < N → NEV T sc sm n) ∧ OWR T sc sm S ∧ (CN sc ↔ GOOD T sc sm S A N w) ∧ PHX sc sm S P N ∧ CLX sm N ∧ LOR T sm S
/-- what is untouched below some bounds -/
def RXF (sc sm sc' sm' : Sg) (S P A N C : Nat) : Prop :=
  (∀ c i, 55 ≤ c → c ≤ 58 ∨ c = 60 → i < S → sc' c i = sc c i) ∧ (∀ c i, 94 ≤ c → c ≤ 101 → i < S → sm' c i = sm c i) ∧ (∀ c p, 104 ≤ c → c ≤ 105 → p < P → sm' c p = sm c p) ∧ (∀ c a, 106 ≤ c → c ≤ 113 → a < A → sm' c a = sm c a) ∧ (∀ c j, 62 ≤ c → c ≤ 65 → j < C → sc' c j = sc c j) ∧ (∀ n, n < N → sc' 48 n = sc 48 n) ∧ (∀ c n, 116 ≤ c → c ≤ 124 → n < N → sm' c n = sm c n) ∧ (∀ c, c = 40 ∨ c = 42 ∨ c = 43 → sc' c = sc c)
section RX
variable {T : TT} {sc sm sc' sm' sc2 sm2 : Sg} {S P A N C w : Nat}
theorem RXF.refl (sc sm : Sg) (S P A N C : Nat) : RXF sc sm sc sm S P A N C := ⟨fun _ _ _ _ _ => rfl, fun _ _ _ _ _ => rfl, fun _ _ _ _ _ => rfl, fun _ _ _ _ _ => rfl, fun _ _ _ _ _ => rfl, fun _ _ => rfl, fun _ _ _ _ _ => rfl, fun _ _ => rfl⟩
theorem RXF.trans {S' P' A' N' C' : Nat} (h : RXF sc sm sc' sm' S P A N C) (k : RXF sc' sm' sc2 sm2 S' P' A' N' C') (h1 : S ≤ S') (h2 : P ≤ P') (h3 : A ≤ A') (h4 : N ≤ N') (h5 : C ≤ C') : RXF sc sm sc2 sm2 S P A N C := by
  obtain ⟨a1, a2, a3, a4, a5, a6, a7, a8⟩ := h
  obtain ⟨b1, b2, b3, b4, b5, b6, b7, b8⟩ := k
  exact ⟨fun c i x y z => (b1 c i x y (by omega)).trans (a1 c i x y z), fun c i x y z => (b2 c i x y (by omega)).trans (a2 c i x y z), fun c i x y z => (b3 c i x y (by omega)).trans (a3 c i x y z), fun c i x y z => (b4 c i x y (by omega)).trans (a4 c i x y z), fun c i x y z => (b5 c i x y (by omega)).trans (a5 c i x y z), fun n z => (b6 n (by omega)).trans (a6 n z), fun c i x y z => (b7 c i x y (by omega)).trans (a7 c i x y z), fun c x => (b8 c x).trans (a8 c x)⟩
theorem bsm_congr {p0 : Nat} (h43 : sc' 43 = sc 43) : ∀ pc, (∀ c p, 104 ≤ c → c ≤ 105 → p < p0 + pc → sm' c p = sm c p) → bsm T sc' sm' p0 pc = bsm T sc sm p0 pc := by
  intro pc
  induction pc with
  | zero => intro _; rfl
  | succ j ih =>
    intro h
    simp only [bsm]
    rw [ih (fun c p x y z => h c p x y (by omega)), h 104 (p0 + j) (by decide) (by decide) (by omega), h 105 (p0 + j) (by decide) (by decide) (by omega), h43]
theorem SRL.xf {i P' N' : Nat} (h : SRL T sc sm P N i) (x : RXF sc sm sc' sm' S P A N C) (hi : i < S) (hP : P ≤ P') (hN : N ≤ N') : SRL T sc' sm' P' N' i := by
  obtain ⟨x1, x2, x3, x4, x5, x6, x7, x8⟩ := x
  obtain ⟨hd, p0, pc, n0, b1, b2, b3, b4, b5, b6, b7, b8, b9, b10, b11⟩ := h
  have e94 := x2 94 i (by decide) (by decide) hi
  have skw : SKW T sc sm i → SKW T sc' sm' i := fun ⟨w, a1, a2, a3, a4⟩ => ⟨w, by rw [x2 97 i (by decide) (by decide) hi]; exact a1, a2, a3, by rw [x1 57 i (by decide) (by decide) hi]; exact a4⟩
  have skc : SKC T sc sm i → SKC T sc' sm' i := fun ⟨w, a1, a2, a3, a4⟩ => ⟨w, by rw [x2 96 i (by decide) (by decide) hi]; exact a1, a2, a3, by rw [x1 58 i (by decide) (by decide) hi]; exact a4⟩
  refine ⟨hd, p0, pc, n0, by rw [x1 56 i (by decide) (by decide) hi]; exact b1, by rw [x2 95 i (by decide) (by decide) hi]; exact b2, b3, b4, by rw [x1 55 i (by decide) (by decide) hi, e94]; exact b5, by rw [x2 98 i (by decide) (by decide) hi]; exact b6, by rw [x2 99 i (by decide) (by decide) hi]; exact b7, by omega, by rw [x1 60 i (by decide) (by decide) hi]; exact b9, by omega, ?_⟩
  rw [e94]
  rcases b11 with ⟨c1, c2, c3, c4⟩ | ⟨c1, c2, c3, c4⟩ | ⟨c1, c2, c3, c4⟩ | ⟨c1, c2, ⟨f, c3, c4, c5, c6⟩, c7⟩
  · refine Or.inl ⟨c1, c2, skw c3, ?_⟩
    rcases c4 with c4 | c4
    · exact Or.inl ⟨by rw [x2 96 i (by decide) (by decide) hi]; exact c4.1, by rw [x1 58 i (by decide) (by decide) hi]; exact c4.2⟩
    · exact Or.inr (skc c4)
  · exact Or.inr (Or.inl ⟨c1, c2, skw c3, skc c4⟩)
  · refine Or.inr (Or.inr (Or.inl ⟨c1, by rw [x1 58 i (by decide) (by decide) hi]; exact c2, skw c3, ?_⟩))
    obtain ⟨st, e, m0, m1, d1, d2, d3, d4, d5, d6, d7, d8, d9, d10, d11, ⟨g1, g2, g3, g4, g5⟩, d13⟩ := c4
    refine ⟨st, e, m0, m1, by rw [x2 100 i (by decide) (by decide) hi]; exact d1, d2, by omega, by rw [x1 60 i (by decide) (by decide) hi]; exact d4, by rw [x2 101 i (by decide) (by decide) hi]; exact d5, d6, d7, d8, d9, d10, d11, ⟨?_, ?_, ?_, ?_, g5⟩, ?_⟩
    · intro m y z
      rw [x7 123 m (by decide) (by decide) (by omega)]
      exact g1 m y z
    · intro m y z
      rw [x7 116 m (by decide) (by decide) (by omega), x7 118 m (by decide) (by decide) (by omega)]
      exact g2 m y z
    · intro k y z u v
      obtain ⟨m, q1, q2, q3, q4⟩ := g3 k y z u v
      exact ⟨m, q1, q2, by rw [x7 116 m (by decide) (by decide) (by omega)]; exact q3, by rw [x7 118 m (by decide) (by decide) (by omega)]; exact q4⟩
    · intro m m' y z y' z'
      rw [x7 116 m (by decide) (by decide) (by omega), x7 118 m (by decide) (by decide) (by omega), x7 116 m' (by decide) (by decide) (by omega), x7 118 m' (by decide) (by decide) (by omega)]
      exact g4 m m' y z y' z'
    · intro j hj
      rw [x3 104 (p0 + j) (by decide) (by decide) (by omega), x3 105 (p0 + j) (by decide) (by decide) (by omega)]
      exact d13 j hj
  · refine Or.inr (Or.inr (Or.inr ⟨c1, by rw [x1 58 i (by decide) (by decide) hi]; exact c2, ⟨f, c3, c4, c5, fun j hj => ?_⟩, ?_⟩))
    · rw [x3 104 (p0 + j) (by decide) (by decide) (by omega), x3 105 (p0 + j) (by decide) (by decide) (by omega)]
      exact c6 j hj
    · rw [x1 57 i (by decide) (by decide) hi, c7]
      exact (bsm_congr (x8 43 (by decide)) pc (fun c p y z u => x3 c p y z (by omega))).symm
theorem ARL.xf {a S' N' : Nat} (h : ARL T sm S N a) (x : RXF sc sm sc' sm' S P A N C) (ha : a < A) (hS : S ≤ S') (hN : N ≤ N') : ARL T sm' S' N' a := by
  obtain ⟨x1, x2, x3, x4, x5, x6, x7, x8⟩ := x
  obtain ⟨s, b1, b2, b3, b4, b5, b6, b7⟩ := h
  have r : ∀ c, 106 ≤ c → c ≤ 113 → sm' c a = sm c a := fun c y z => x4 c a y z ha
  refine ⟨s, by rw [r 112 (by decide) (by decide)]; exact b1, by omega, by rw [x2 94 s (by decide) (by decide) b2]; exact b3, by rw [r 113 (by decide) (by decide)]; exact b4, by rw [r 113 (by decide) (by decide)]; exact b5, ?_, ?_⟩
  · rw [r 113 (by decide) (by decide)]
    intro y
    rw [x4 106 _ (by decide) (by decide) (by omega)]
    exact b6 y
  · rw [r 106 (by decide) (by decide), r 107 (by decide) (by decide), r 108 (by decide) (by decide), r 109 (by decide) (by decide), r 110 (by decide) (by decide), r 111 (by decide) (by decide)]
    rcases b7 with ⟨c1, c2, c3, n, c4, c5⟩ | ⟨c1, ⟨n, c2, c3⟩, c4⟩ | ⟨c1, c2, c3⟩ | ⟨c1, c2⟩
    · refine Or.inl ⟨c1, c2, ?_, n, c4, by omega⟩
      rcases c3 with c3 | ⟨m, c3, c6⟩
      · exact Or.inl c3
      · exact Or.inr ⟨m, c3, by omega⟩
    · exact Or.inr (Or.inl ⟨c1, ⟨n, c2, by omega⟩, c4⟩)
    · exact Or.inr (Or.inr (Or.inl ⟨c1, c2, c3⟩))
    · exact Or.inr (Or.inr (Or.inr ⟨c1, c2⟩))
end RX
