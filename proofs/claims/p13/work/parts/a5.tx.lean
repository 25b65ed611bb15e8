/-! FROM CUTTING to reading: what the lexemes are. -/
/-- the text behind the lexemes -/
def TX (T : TT) (sc sm : Sg) (n : Nat) (t : Nat → Int) : Prop := CT sc n t ∧ MT sm n t ∧ NI sc T.m ∧ (∀ k, k < T.z → ∃ i j : Nat, T.fm k = (i : Int) ∧ sc 43 k = (j : Int) - i ∧ sm 89 k = (i : Int) ∧ sm 90 k = (j : Int) ∧ i < j ∧ j ≤ n ∧ j = lxE t n i ∧ (LXn sc t T.m i j (T.tk k) (T.vl k) ∨ LXv t n i j (T.tk k) (T.vl k) ∨ LXs t n i j (T.tk k) (T.vl k)))
section CTX
variable {sc sm sc' sm' : Sg} {T : TT} {n z m i j id : Nat} {t : Nat → Int} {k v : Int}
theorem TX.sf (h : TX T sc sm n t) (hc : SFc sc sc') (hm : SFm sm sm') : TX T sc' sm' n t := by
  obtain ⟨h1, h2, h3, h4⟩ := h
  have r : ∀ c, ¬ (c = 30 ∨ c = 31 ∨ 36 ≤ c ∧ c ≤ 39 ∨ 45 ≤ c ∧ c ≤ 72) → sc' c = sc c := hc.1
  refine ⟨?_, ?_, ?_, fun k hk => ?_⟩
  · obtain ⟨a1, a2, a3⟩ := h1
    exact ⟨by rw [hc.2.1 8 (by decide) (by decide)]; exact a1, a2, by rw [r 40 (by decide)]; exact a3⟩
  · obtain ⟨a1, a2, a3⟩ := h2
    exact ⟨by rw [hm.2 3 (by decide)]; exact a1, a2, by rw [hm.1 86 (by decide)]; exact a3⟩
  · unfold NI at *
    rw [hc.2.2.2.1 7 (by decide), r 32 (by decide), r 33 (by decide), r 34 (by decide), r 35 (by decide)]
    exact h3
  · obtain ⟨i, j, a1, a2, a3, a4, a5, a6, a7, a8⟩ := h4 k hk
    refine ⟨i, j, a1, by rw [r 43 (by decide)]; exact a2, by rw [hm.1 89 (by decide)]; exact a3, by rw [hm.1 90 (by decide)]; exact a4, a5, a6, a7, ?_⟩
    unfold LXn
    rw [r 34 (by decide), r 35 (by decide)]
    exact a8
theorem LXn.ps (h : LXn sc t m i j k v) (hj : i < j) : ∀ e, e < j - i → 0 < t (i + e) ∧ t (i + e) < 256 := by
  intro e he
  have := h.2.1 (i + e) (by omega) (by omega)
  unfold isLD isL isD at this
  simp only [Bool.or_eq_true, decide_eq_true_eq] at this
  omega
/-- how long a word is at least -/
theorem LXn.len (h : LXn sc t m i j k v) (hW : WD sc) (hj : i < j) : (17 ≤ k → k ≤ 20 → i + 3 ≤ j) ∧ (k = 21 → i + 2 ≤ j) := by
  have hp := h.ps hj
  obtain ⟨h1, h2, h3, id, h4, h5, h6, h7, h8⟩ := h
  have key : id < 12 → pk t (j - i) i = (wdk.getD id 0).toNat := fun hid => by
    obtain ⟨w1, w2⟩ := hW id hid
    have hv : (wdk.getD id 0).toNat < 9223372036854775808 ∧ 0 ≤ wdk.getD id 0 := by
      have : ∀ k, k < 12 → (wdk.getD k 0).toNat < 9223372036854775808 ∧ 0 ≤ wdk.getD k 0 := by decide
      exact this id hid
    refine (spl_short hp h3 _ hv.1).mp ?_
    have e1 : (spl t (j - i) i).1 = 0 := by rw [← h6, w1]
    have e2 : (spl t (j - i) i).2 = wdk.getD id 0 := by rw [← h7, w2]
    rw [show spl t (j - i) i = ((spl t (j - i) i).1, (spl t (j - i) i).2) from rfl, e1, e2]
    congr 1
    omega
  have lt := pkn_lt t i (j - i) hp
  have big : ∀ L, j - i ≤ L → pk t (j - i) i < 256 ^ L := fun L hL => Nat.lt_of_lt_of_le lt (Nat.pow_le_pow_right (by decide) hL)
  refine ⟨fun a b => ?_, fun a => ?_⟩
  · have hid : id < 12 ∧ 1 ≤ id ∧ id ≤ 4 := by
      by_cases c : 12 ≤ id
      · rw [if_pos c] at h8; omega
      · rw [if_neg c] at h8; omega
    have kk := key hid.1
    apply Decidable.byContradiction
    intro hn
    have b2 := big 2 (by omega)
    rw [kk] at b2
    have : ∀ q, q < 5 → 1 ≤ q → ¬ (wdk.getD q 0).toNat < 256 ^ 2 := by decide
    exact this id (by omega) hid.2.1 b2
  · have hid : id < 12 ∧ id = 5 := by
      by_cases c : 12 ≤ id
      · rw [if_pos c] at h8; omega
      · rw [if_neg c] at h8; omega
    have kk := key hid.1
    apply Decidable.byContradiction
    intro hn
    have b2 := big 1 (by omega)
    rw [kk, hid.2] at b2
    exact absurd b2 (by decide)
theorem nmV_b (hd : isD (t i) = true) (hi : i < n) : 0 ≤ nmV t n i ∧ nmV t n i ≤ 1099511627776 := by
  unfold nmV nmE
  split
  · refine hvl_b t _ _ _ (fun e x y => rn_all isH t (n - (i + 2)) (i + 2) e x ?_) (by decide) (by decide)
    have := rn_ge isH t (n - (i + 2)) (i + 2)
    omega
  · refine dvl_b t _ _ _ (fun e x y => rn_all isD t (n - i) i e x ?_) (by decide) (by decide)
    have := rn_ge isD t (n - i) i
    omega
theorem isS_kv : ∀ k : Nat, k < 128 → isS (k : Int) = true → (k : Int) ∈ kvl ∧ (k : Int) ≠ 0 ∧ (k : Int) ≠ 1 ∧ ¬ (17 ≤ (k : Int) ∧ (k : Int) ≤ 21) := by decide
theorem isS_b (h : isS k = true) : 0 ≤ k ∧ k < 128 := by
  unfold isS at h
  simp only [decide_eq_true_eq] at h
  omega
/-- the END lexeme is added, on both sides -/
def ENc (s : Sg) (z n : Nat) : Sg := ax_u2 (ax_u2 (ax_u2 (AD s z 0 (n : Int) (n : Int) 0) 39 9 (z : Int)) 39 10 0) 39 11 ((AD s z 0 (n : Int) (n : Int) 0) 41 0)
def ENm (s : Sg) (z n : Nat) : Sg := ax_u2 (ax_u2 (ax_u2 s 88 z 0) 89 z (n : Int)) 90 z (n : Int)
theorem ENc_row {c : Nat} (h : ¬ (c = 39 ∨ 41 ≤ c ∧ c ≤ 45)) : ENc sc z n c = sc c := by
  unfold ENc AD
  rw [u2_row _ _ _ (by omega), u2_row _ _ _ (by omega), u2_row _ _ _ (by omega), u2_row _ _ _ (by omega), u2_row _ _ _ (by omega), u2_row _ _ _ (by omega), u2_row _ _ _ (by omega), u2_row _ _ _ (by omega), u2_row _ _ _ (by omega)]
theorem ENc_col {c q : Nat} (h : 41 ≤ c ∧ c ≤ 45) (hq : q ≠ z) : ENc sc z n c q = sc c q := by
  unfold ENc AD
  have u : ∀ (s : Sg) (d : Nat) (v : Int), (ax_u2 s d z v) c q = s c q := fun s d v => by simp [ax_u2, hq]
  rw [u2_row _ _ _ (by omega), u2_row _ _ _ (by omega), u2_row _ _ _ (by omega), u2_row _ _ _ (by omega), u, u, u, u, u]
theorem ENc_at : ENc sc z n 41 z = 0 ∧ ENc sc z n 42 z = (n : Int) ∧ ENc sc z n 43 z = 0 ∧ ENc sc z n 44 z = 0 ∧ ENc sc z n 45 z = 0 ∧ ENc sc z n 39 9 = (z : Int) ∧ ENc sc z n 39 10 = 0 ∧ ENc sc z n 39 11 = ENc sc z n 41 0 ∧ ∀ j, j ≠ 9 → j ≠ 10 → j ≠ 11 → ENc sc z n 39 j = sc 39 j := by
  refine ⟨by simp [ENc, AD, ax_u2], by simp [ENc, AD, ax_u2], by simp [ENc, AD, ax_u2], by simp [ENc, AD, ax_u2], by simp [ENc, AD, ax_u2], by simp [ENc, AD, ax_u2], by simp [ENc, AD, ax_u2], ?_, fun j a b c => by simp [ENc, AD, ax_u2, a, b, c]⟩
  unfold ENc
  rw [u2_same, u2_row _ _ _ (by decide), u2_row _ _ _ (by decide), u2_row _ _ _ (by decide)]
theorem ENm_row {c : Nat} (h : ¬ (88 ≤ c ∧ c ≤ 90)) : ENm sm z n c = sm c := by
  unfold ENm
  rw [u2_row _ _ _ (by omega), u2_row _ _ _ (by omega), u2_row _ _ _ (by omega)]
theorem ENm_col {c q : Nat} (hq : q ≠ z) : ENm sm z n c q = sm c q := by
  unfold ENm
  have u : ∀ (s : Sg) (d : Nat) (v : Int), (ax_u2 s d z v) c q = s c q := fun s d v => by simp [ax_u2, hq]
  rw [u, u, u]
theorem ENm_at : ENm sm z n 88 z = 0 ∧ ENm sm z n 89 z = (n : Int) ∧ ENm sm z n 90 z = (n : Int) := by
  refine ⟨by simp [ENm, ax_u2], by simp [ENm, ax_u2], by simp [ENm, ax_u2]⟩
theorem c101e (H : CLS sc n t z m) (hz : z ≤ n) : j_73_28_101 sc = some (1, ENc sc z n) := by
  obtain ⟨⟨a1, a2, -⟩, -, -, -, -, -, -, a9⟩ := H
  obtain ⟨e, g⟩ := c78 (s := sc) (z := z) a9 (by omega) (i := n) (j := n) (Nat.le_refl _) a2 0 0
  unfold j_73_28_101
  rw [a1, gd_pos g, e, Option.bind_some]
  have w : ax_w32 ((AD sc z 0 (n : Int) (n : Int) 0) 39 9 - 1) = (z : Int) := by
    rw [show (AD sc z 0 (n : Int) (n : Int) 0) 39 9 = (z : Int) + 1 by simp [AD, ax_u2], w32_id (by omega) (by omega)]
    omega
  rw [w]
  have r9 : (ax_u2 (ax_u2 (AD sc z 0 (n : Int) (n : Int) 0) 39 9 (z : Int)) 39 10 0) 39 9 = (z : Int) := by rw [u2_col _ _ _ (by decide)]; exact u2_same _ _ _ _
  have g79 : g_79 0 (ax_u2 (ax_u2 (AD sc z 0 (n : Int) (n : Int) 0) 39 9 (z : Int)) 39 10 0) := by
    unfold g_79
    rw [r9]
    refine ⟨fun _ => trivial, fun _ => ⟨fun _ => trivial, fun _ => ?_⟩⟩
    first | exact ⟨by omega, trivial⟩ | exact ⟨fun _ => trivial, fun _ => ⟨by omega, trivial⟩⟩
  have f79 : f_79 0 (ax_u2 (ax_u2 (AD sc z 0 (n : Int) (n : Int) 0) 39 9 (z : Int)) 39 10 0) = (AD sc z 0 (n : Int) (n : Int) 0) 41 0 := by
    unfold f_79
    rw [r9, if_neg (by decide)]
    by_cases z0 : z = 0
    · rw [if_pos (by omega), z0]
      simp [AD, ax_u2]
    · rw [if_neg (by omega), u2_row _ _ _ (by decide), u2_row _ _ _ (by decide)]
      rfl
  rw [gd_pos g79, f79]
  rfl
theorem m222e (h11 : sm 84 11 = (z : Int)) (h3 : sm 84 3 = (n : Int)) (hz : z < 8200) : j_208_222 sm = some (ENm sm z n) := by
  unfold j_208_222
  rw [h11, h3, gd_pos (by omega), gd_pos (by omega), gd_pos (by omega), Int.toNat_natCast]
  rfl
end CTX
