/-! PRINTING: lexemes and gaps. -/
section LXM
variable {T : TT} {sc sm x y : Sg} {n k p : Nat} {t : Nat → Int}
def tbl (t : Nat → Int) : Nat → Nat → List Int
  | 0, _ => []
  | d + 1, i => t i :: tbl t d (i + 1)
theorem tbl_len (t : Nat → Int) : ∀ d i, (tbl t d i).length = d := by
  intro d
  induction d with
  | zero => intro i; rfl
  | succ d ih => intro i; rw [tbl, List.length_cons, ih]
def lxb (T : TT) (sc : Sg) (t : Nat → Int) (k : Nat) : List Int := if T.tk k = 2 ∧ sc 45 k ≠ 3 then dgl (T.vl k) (dxp (T.vl k) 12 0) else tbl t (sc 43 k).toNat (T.fm k).toNat
def AC (sc x : Sg) : Prop := (∀ c, c ≠ 82 → c ≠ 83 → x c = sc c) ∧ WC x
def AM (sm y : Sg) : Prop := (∀ c, c ≠ 84 → c ≠ 87 → y c = sm c) ∧ (∀ j, j ≠ 0 → j ≠ 9 → y 84 j = sm 84 j)
theorem AC.wr (h : AC sc x) (B : List Int) : AC sc (cwr x B) := ⟨fun c a b => by rw [cwr_row a b]; exact h.1 c a b, WC.wr B x h.2⟩
theorem AM.wr (h : AM sm y) (B : List Int) : AM sm (mwr y B) := ⟨fun c a b => by rw [mwr_row a b]; exact h.1 c a b, fun j a b => by rw [mwr_j b]; exact h.2 j a b⟩
theorem AC.cc (h : AC sc x) (hc : CC T sc) : CC T x := by
  unfold CC at *
  rw [h.1 39 (by decide) (by decide), h.1 41 (by decide) (by decide), h.1 42 (by decide) (by decide), h.1 44 (by decide) (by decide), h.1 31 (by decide) (by decide), h.1 1 (by decide) (by decide)]
  exact hc
theorem AC.ct (h : AC sc x) (hc : CT sc n t) : CT x n t := hc.congr (by rw [h.1 39 (by decide) (by decide)]) (h.1 40 (by decide) (by decide))
theorem AM.mc (h : AM sm y) (hc : MC T sm) : MC T y := by
  unfold MC at *
  rw [h.2 11 (by decide) (by decide), h.1 88 (by decide) (by decide)]
  exact hc
theorem AM.mt (h : AM sm y) (hc : MT sm n t) : MT y n t := hc.congr (h.2 3 (by decide) (by decide)) (h.1 86 (by decide) (by decide))
theorem AM.tx (h : AM sm y) (hx : TX T sc sm n t) : TX T sc y n t := by
  obtain ⟨h1, h2, h3, h4⟩ := hx
  refine ⟨h1, h.mt h2, h3, ?_⟩
  rw [h.1 89 (by decide) (by decide), h.1 90 (by decide) (by decide)]
  exact h4
theorem c84 (hT : TWF T) (hc : CC T x) (hk : k < T.z) : f_84 (k : Int) x = x 45 k ∧ g_84 (k : Int) x := by
  have h8 := hT.1
  unfold f_84 g_84
  rw [hc.1, Int.toNat_natCast, if_neg (by omega), if_neg (by omega)]
  exact ⟨rfl, fun _ => trivial, fun _ => ⟨fun _ => trivial, fun _ => ⟨by omega, trivial⟩⟩⟩
theorem c133l {i j : Nat} (hT : TWF T) (hc : CC T sc) (hC : CT sc n t) (hk : k < T.z) (h43 : sc 43 k = (j : Int) - i) (hij : i ≤ j) (hjn : j ≤ n) : ∀ (d e F : Nat) (x : Sg), AC sc x → i + e + d = j → j_133_48 (F + d + 1) (k : Int) (i : Int) (e : Int) x = some (cwr x (tbl t d (i + e))) := by
  intro d
  induction d with
  | zero =>
    intro e F x hx he
    obtain ⟨a1, a2⟩ := c82 hT (hx.cc hc) hk
    rw [j_133_48, gd_pos a2, a1, hx.1 43 (by decide) (by decide), h43, if_pos (by omega)]
    rfl
  | succ d ih =>
    intro e F x hx he
    have n8 := hC.2.1
    obtain ⟨a1, a2⟩ := c82 hT (hx.cc hc) hk
    obtain ⟨b1, b2⟩ := (hx.ct hC).at (i + e)
    rw [show F + (d + 1) + 1 = (F + d + 1) + 1 by omega, j_133_48, gd_pos a2, a1, hx.1 43 (by decide) (by decide), h43, if_neg (by omega), w32_add (by omega), b1, gd_pos b2, gd_pos (hx.2.g _), Option.bind_some, w32_nat (by omega), (hx.ct hC).ch (by omega)]
    have q : AC sc (f_134 (t (i + e)) x) := hx.wr [t (i + e)]
    rw [ih (e + 1) F _ q (by omega)]
    rfl
theorem c133 (hT : TWF T) (hc : CC T sc) (hX : TX T sc sm n t) (hk : k < T.z) (hx : AC sc x) : f_133 (k : Int) x = some (cwr x (lxb T sc t k)) := by
  obtain ⟨i, j, a1, a2, a3, a4, a5, a6, -⟩ := hX.2.2.2 k hk
  have n8 := hX.1.2.1
  have by1 : j_133_37 (k : Int) x = some (cwr x (tbl t (sc 43 k).toNat (T.fm k).toNat)) := by
    obtain ⟨b1, b2⟩ := c80 (hx.cc hc) hT (a := k) (by omega)
    unfold j_133_37
    rw [gd_pos b2, b1, a1]
    obtain ⟨F, hF⟩ := FU_split (k := j - i + 1) (by omega)
    have := c133l hT hc hX.1 hk a2 (by omega) a6 (j - i) 0 F x hx (by omega)
    rw [show F + (j - i) + 1 = FU by omega] at this
    have e0 : ((0 : Nat) : Int) = 0 := rfl
    rw [e0] at this
    rw [this, Int.toNat_natCast, a2, show ((j : Int) - i).toNat = j - i by omega]
    rfl
  obtain ⟨c1, c2⟩ := c79 (hx.cc hc) hT (a := k) (by omega)
  obtain ⟨d1, d2⟩ := c84 hT (hx.cc hc) hk
  obtain ⟨e1, e2⟩ := c81 (hx.cc hc) hT hk
  have vb := hT.2.2.2.2.1 k hk
  unfold f_133 lxb
  rw [gd_pos c2, c1]
  by_cases c : T.tk k = 2
  · rw [if_neg (fun u => u c), gd_pos d2, d1, hx.1 45 (by decide) (by decide)]
    by_cases d : sc 45 k = 3
    · rw [if_pos d, by1, if_neg (fun u => u.2 d)]
    · rw [if_neg d, gd_pos e2, e1, c137 vb.1 vb.2 hx.2, Option.bind_some, if_pos ⟨c, d⟩]
  · rw [if_pos c, by1, if_neg (fun u => c u.1)]
theorem m222l {j : Nat} (hM : MT sm n t) (ha : k < 8200) (a2 : sm 90 k = (j : Int)) (hjn : j ≤ n) : ∀ (d l F : Nat) (y : Sg), AM sm y → l + d = j → 0 ≤ y 84 9 → y 84 9 + (d : Int) ≤ 25000 → j_222_97 (F + d + 1) (k : Int) (l : Int) y = some (mwr y (tbl t d l)) := by
  intro d
  induction d with
  | zero =>
    intro l F y hy he hl hb
    rw [j_222_97, gd_pos (by omega), Int.toNat_natCast, hy.1 90 (by decide) (by decide), a2, if_pos (by omega)]
    rfl
  | succ d ih =>
    intro l F y hy he hl hb
    have n8 := hM.2.1
    have q : AM sm (f_221 (t l) y) := hy.wr [t l]
    have ln := m221_len (t l) (s := y) hl (by omega)
    rw [show F + (d + 1) + 1 = (F + d + 1) + 1 by omega, j_222_97, gd_pos (by omega), Int.toNat_natCast, hy.1 90 (by decide) (by decide), a2, if_neg (by omega), gd_pos (by omega), Int.toNat_natCast, ((hy.mt hM).2.2 l (by omega)).1, gd_pos (by unfold g_221; exact ⟨⟨by omega, by omega⟩, trivial⟩), Option.bind_some, w32_nat (by omega), ih (l + 1) F _ q (by omega) (by omega) (by omega)]
    rfl
theorem lxb_len (hT : TWF T) (hX : TX T sc sm n t) (hO : XO T sc) (hk : k < T.z) : T.fm k + ((lxb T sc t k).length : Int) ≤ T.fm (k + 1) := by
  have o := hO k hk
  unfold lxb
  by_cases c : T.tk k = 2
  · obtain ⟨i, j, a1, a2, a3, a4, a5, a6, aL⟩ := hX.nu hk c
    have nl := num_len aL a5 a6
    split
    · rw [dgl_len]; omega
    · rw [tbl_len]; omega
  · obtain ⟨i, j, a1, a2, a3, a4, a5, a6, -⟩ := hX.2.2.2 k hk
    rw [if_neg (fun u => c u.1), tbl_len]
    omega
theorem m222 (hT : TWF T) (hm : MC T sm) (hX : TX T sc sm n t) (hO : XO T sc) (hL : LF T sc sm k) (hP : POS T) (hk : k < T.z) (hy : AM sm y) (hl : 0 ≤ y 84 9) (hb : y 84 9 ≤ 16400) : f_222 (k : Int) y = some (mwr y (lxb T sc t k)) := by
  obtain ⟨i, j, a1, a2, a3, a4, a5, a6, -⟩ := hX.2.2.2 k hk
  have n8 := hX.1.2.1
  have h8 := hT.1
  have by1 : j_222_90 (k : Int) y = some (mwr y (tbl t (sc 43 k).toNat (T.fm k).toNat)) := by
    unfold j_222_90
    rw [gd_pos (by omega), Int.toNat_natCast, hy.1 89 (by decide) (by decide), a3]
    obtain ⟨F, hF⟩ := FU_split (k := j - i + 1) (by omega)
    have := m222l hX.2.1 (k := k) (by omega) a4 a6 (j - i) i F y hy (by omega) hl (by omega)
    rw [show F + (j - i) + 1 = FU by omega] at this
    rw [this, a1, Int.toNat_natCast, a2, show ((j : Int) - i).toNat = j - i by omega]
  have vb := hT.2.2.2.2.1 k hk
  have k2 : km (T.tk k) = 2 ↔ T.tk k = 2 := ⟨fun u => km_inj _ (hT.2.2.1 k hk).1 2 (by decide) (by rw [u]; decide), fun u => by rw [u]; decide⟩
  unfold f_222 lxb
  rw [gd_pos (by omega), Int.toNat_natCast, hy.1 88 (by decide) (by decide), hm.2 k (by omega)]
  by_cases c : T.tk k = 2
  · rw [if_neg (fun u => u (k2.mpr c)), gd_pos (by omega), hy.1 93 (by decide) (by decide), hL.2.2.1]
    by_cases d : sc 45 k = 3
    · rw [if_pos d, if_pos (by decide), by1, if_neg (fun u => u.2 d)]
    · rw [if_neg d, if_neg (by decide), m218 hT (hy.tx hX) hk c, Option.bind_some, m222d vb.1 vb.2 hl (by omega), if_pos ⟨c, d⟩]
  · rw [if_pos (fun u => c (k2.mp u)), by1, if_neg (fun u => c u.1)]
/-- a gap -/
theorem f136_s (p q : Int) (s s' : Sg) : f_136 p q s = f_136 p q s' := rfl
def gpl (b : Bool) : List Int := if b then [32] else []
theorem c132 (hT : TWF T) (hc : CC T sc) (hp : p < T.z) (hk : k < T.z) (hs : ¬ (17 ≤ T.tk k ∧ T.tk k ≤ 20)) (hx : AC sc x) : f_132 (p : Int) (k : Int) x = some (cwr x (gpl (gpC (decide (sc 45 p = 1)) (decide (sc 45 k = 1)) (T.tk p) (T.tk k)))) := by
  obtain ⟨c1, c2⟩ := c79 (hx.cc hc) hT (a := k) (by omega)
  obtain ⟨d1, d2⟩ := c79 (hx.cc hc) hT (a := p) (by omega)
  obtain ⟨e1, e2⟩ := c84 hT (hx.cc hc) hk
  obtain ⟨f1, f2⟩ := c84 hT (hx.cc hc) hp
  rw [hx.1 45 (by decide) (by decide)] at e1 f1
  have g135 : ∀ a : Int, g_84 a x → g_79 a x → g_135 a x := fun a u v => ⟨u, fun _ => trivial, fun _ => ⟨v, trivial⟩⟩
  have e135 : ∀ a : Nat, f_84 (a : Int) x = sc 45 a → f_79 (a : Int) x = T.tk a → (f_135 (a : Int) x = 0 ↔ ¬ (sc 45 a = 1 ∨ T.tk a = 61)) := fun a u v => by
    unfold f_135
    rw [u, v]
    by_cases q1 : sc 45 a = 1
    · rw [if_pos q1]; simp [q1]
    · rw [if_neg q1]
      by_cases q2 : T.tk a = 61
      · rw [if_neg (fun w => w q2)]; simp [q2]
      · rw [if_pos q2]; simp [q1, q2]
  have put : j_132_67 x = some (cwr x [32]) := by
    unfold j_132_67
    rw [gd_pos (hx.2.g _), Option.bind_some]
    rfl
  have main : j_132_36 (p : Int) (k : Int) (T.tk k) x = some (cwr x (gpl (gpC (decide (sc 45 p = 1)) (decide (sc 45 k = 1)) (T.tk p) (T.tk k)))) := by
    have ep := e135 p f1 d1
    have ek := e135 k e1 c1
    unfold j_132_36 gpC gpl
    rw [gd_pos (g135 _ f2 d2)]
    by_cases q1 : sc 45 p = 1 ∨ T.tk p = 61
    · rw [if_pos (fun u => (ep.mp u) q1), put]
      rcases q1 with u | u <;> simp [u]
    · rw [if_neg (fun u => u (ep.mpr q1)), gd_pos (g135 _ e2 c2)]
      by_cases q2 : sc 45 k = 1 ∨ T.tk k = 61
      · rw [if_pos (fun u => (ek.mp u) q2), put]
        rcases q2 with u | u <;> simp [u]
      · rw [if_neg (fun u => u (ek.mpr q2)), gd_pos d2, d1, f136_s _ _ x (fun _ _ => 0)]
        have q1' := not_or.mp q1
        have q2' := not_or.mp q2
        by_cases q3 : f_136 (T.tk p) (T.tk k) (fun _ _ => 0) = 0
        · rw [if_pos q3]; simp [q1'.1, q1'.2, q2'.1, q2'.2, q3, cwr_nil]
        · rw [if_neg q3, put]; simp [q3]
  unfold f_132
  rw [if_pos (by omega), gd_pos c2, c1]
  by_cases a : T.tk k < 17
  · rw [if_pos a, main]
  · rw [if_neg a, if_pos (by omega), main]
theorem c132n (hT : TWF T) (hc : CC T sc) (hk : k < T.z) (hs : 17 ≤ T.tk k ∧ T.tk k ≤ 20) (hx : AC sc x) : f_132 (p : Int) (k : Int) x = some (cwr x [10]) := by
  obtain ⟨c1, c2⟩ := c79 (hx.cc hc) hT (a := k) (by omega)
  unfold f_132
  rw [if_pos (by omega), gd_pos c2, c1, if_neg (by omega), if_neg (by omega), gd_pos (hx.2.g _), Option.bind_some]
  rfl
theorem f250_s (p : Int) (s s' : Sg) : f_250 p s = f_250 p s' := rfl
theorem m220 (hT : TWF T) (hm : MC T sm) (hp : p < T.z) (hk : k < T.z) (hLp : LF T sc sm p) (hLk : LF T sc sm k) (hy : AM sm y) : f_220 (p : Int) (k : Int) y = some (if gpR (decide (sc 45 p = 1)) (decide (sc 45 k = 1)) (T.tk p) (T.tk k) then 1 else 0) := by
  have h8 := hT.1
  have j64 : ∀ q : Int, j_220_64 q y = some (if gj q then 1 else 0) := fun q => by
    unfold j_220_64 gj
    by_cases a : q = 7
    · simp [a]
    · by_cases b : q = 8
      · simp [b]
      · simp [a, b]
  have j112 : ∀ q : Int, j_220_112 q y = some (if decide (f_250 q (fun _ _ => 0) ≠ 0) then 1 else 0) := fun q => by
    unfold j_220_112
    rw [f250_s _ y (fun _ _ => 0)]
    by_cases a : f_250 q (fun _ _ => 0) = 0
    · simp [a]
    · simp [a]
  unfold f_220 gpR
  simp only [gd_pos (show (0 : Int) ≤ (p : Int) ∧ (p : Int) < 8200 by omega), gd_pos (show (0 : Int) ≤ (k : Int) ∧ (k : Int) < 8200 by omega), Int.toNat_natCast, hy.1 88 (by decide) (by decide), hy.1 92 (by decide) (by decide), hm.2 p (by omega), hm.2 k (by omega), hLp.2.1, hLk.2.1, j64, j112, f250_s _ y (fun _ _ => 0)]
  have hA : (decide (sc 45 p = 1) || decide (T.tk p = 61) || decide (sc 45 k = 1) || decide (T.tk k = 61)) = true ↔ ((sc 45 p = 1 ∨ T.tk p = 61) ∨ (sc 45 k = 1 ∨ T.tk k = 61)) := by simp [or_assoc]
  by_cases A : sc 45 p = 1 ∨ T.tk p = 61
  · rw [if_pos A, if_pos (by decide), if_pos (hA.mpr (Or.inl A))]
  · rw [if_neg A, if_neg (by decide)]
    by_cases B : sc 45 k = 1 ∨ T.tk k = 61
    · rw [if_pos B, if_pos (by decide), if_pos (hA.mpr (Or.inr B))]
    · rw [if_neg B, if_neg (by decide), if_neg (fun u => (hA.mp u).elim A B)]
      generalize f_250 (km (T.tk p)) (fun _ _ => 0) = e
      generalize f_250 (km (T.tk k)) (fun _ _ => 0) = d
      generalize gj (km (T.tk k)) = g
      generalize km (T.tk p) = P
      generalize km (T.tk k) = Q
      by_cases p8 : P = 8
      · simp [p8]
      · by_cases p7 : P = 7
        · simp [p7]
        · by_cases p13 : P = 13
          · simp [p13]
          · by_cases p14 : P = 14
            · simp [p14]
            · rw [if_neg p8, if_neg p7, if_neg p13, if_neg p14, if_neg (show ¬ (P = 8 ∨ P = 7 ∨ P = 13 ∨ P = 14) by omega)]
              by_cases q14 : Q = 14
              · simp [q14]
              · by_cases q13 : Q = 13
                · simp [q13]
                · rw [if_pos q14, if_pos q13, if_neg q14, if_neg q13]
                  by_cases e0 : e = 0
                  · by_cases p16 : P = 16
                    · simp [e0, p16]
                    · by_cases p12 : P = 12
                      · simp [e0, p12]
                      · simp [e0, p16, p12]
                  · simp [e0]
end LXM
