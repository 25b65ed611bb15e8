/-! PRINTING: the whole text. -/
section PRN
variable {T : TT} {sc sm x y : Sg} {n k p : Nat} {t : Nat → Int}
def ENd (T : TT) (k : Nat) : Prop := 1 ≤ k ∧ (T.tk (k - 1) = 59 ∨ T.tk (k - 1) = 125) ∧ dpt T k = 0
/-- p is the last lexeme before k that stays -/
def PV (T : TT) (p k : Nat) : Prop := p + 1 = k ∨ (p < k ∧ T.tk p ∈ opA ∧ T.tk (k - 1) = 40 ∧ T.tk k ≠ 41) ∨ (p < k ∧ T.tk p ≠ 40 ∧ PRQ (T.tk p) 41 ∧ T.tk (k - 1) = 41)
theorem PV.lt (h : PV T p k) : p < k := by
  rcases h with h | h | h
  · omega
  · exact h.1
  · exact h.1
theorem PV.drop (h : PV T p k) (hd : DR T k) (hq : PRQ (T.tk (k - 1)) (T.tk k)) : PV T p (k + 1) := by
  have lt := h.lt
  have e1 : k + 1 - 1 = k := by omega
  unfold PV
  rw [e1]
  rcases h with h | h | h
  · have e : k - 1 = p := by omega
    unfold DR at hd
    rw [e] at hd hq
    rcases hd with ⟨d1, d2, d3⟩ | ⟨d1, d2⟩
    · exact Or.inr (Or.inl ⟨by omega, d2, d1, d3⟩)
    · rw [d1] at hq
      exact Or.inr (Or.inr ⟨by omega, d2, hq, d1⟩)
  · obtain ⟨h1, h2, h3, h4⟩ := h
    rcases hd with ⟨d1, d2, d3⟩ | ⟨d1, d2⟩
    · exact Or.inr (Or.inl ⟨by omega, h2, d1, d3⟩)
    · exact absurd d1 h4
  · obtain ⟨h1, h2, h3, h4⟩ := h
    rcases hd with ⟨d1, d2, d3⟩ | ⟨d1, d2⟩
    · rw [h4] at d2
      exact absurd d2 (by decide)
    · exact Or.inr (Or.inr ⟨by omega, h2, h3, d1⟩)
theorem PV.gp (h : PV T p k) (hq : PRQ (T.tk (k - 1)) (T.tk k)) : gpb (T.tk p) (T.tk k) = true := by
  have hb := prqb_of hq
  unfold gpb
  rcases h with h | ⟨h1, h2, h3, h4⟩ | ⟨h1, h2, h3, h4⟩
  · rw [show k - 1 = p by omega] at hb
    rw [hb]; rfl
  · rw [h3] at hb
    simp [hb, h2, h4]
  · rw [h4] at hb
    simp [hb, h2, prqb_of h3]
theorem dpt_b (T : TT) (k : Nat) : -(k : Int) ≤ dpt T k ∧ dpt T k ≤ (k : Int) := by
  induction k with
  | zero => exact ⟨by simp [dpt], by simp [dpt]⟩
  | succ k ih =>
    rw [dpt]
    split
    · omega
    · split <;> omega
/-- all that printing asks of what was read -/
def PRI (T : TT) (sc sm : Sg) (n : Nat) (t : Nat → Int) : Prop := TWF T ∧ POS T ∧ XO T sc ∧ TX T sc sm n t ∧ CC T sc ∧ MC T sm ∧ (∀ k, k < T.z → LF T sc sm k) ∧ (∀ k, 1 ≤ k → k < T.z → PRQ (T.tk (k - 1)) (T.tk k)) ∧ (∀ k, k < T.z → STT T k) ∧ ENd T T.z
theorem km_7 : ∀ q ∈ kvl, (km q = 7 ↔ q = 59) ∧ (km q = 13 ↔ q = 123) ∧ (km q = 14 ↔ q = 125) := by decide +kernel
theorem m202s (H : PRI T sc sm n t) (hk : k < T.z) (hy : AM sm y) (hl : 0 ≤ y 84 9) (hb : y 84 9 + ((lxb T sc t k).length : Int) ≤ 16384) (K : Int → Int → Int → Sg → Option (Int × Sg)) :
    (ENd T (k + 1) → j_202_65 K (dpt T k) (k : Int) y = K (-1) (dpt T (k + 1)) ((k + 1 : Nat) : Int) (mwr y (lxb T sc t k ++ [10]))) ∧
    (¬ ENd T (k + 1) → j_202_65 K (dpt T k) (k : Int) y = K (k : Int) (dpt T (k + 1)) ((k + 1 : Nat) : Int) (mwr y (lxb T sc t k))) := by
  obtain ⟨hT, hP, hO, hX, hc, hm, hL, hQ, hS, hE⟩ := H
  have h8 := hT.1
  have db := dpt_b T k
  obtain ⟨k7, k13, k14⟩ := km_7 (T.tk k) (hT.2.2.1 k hk).1
  have hy1 := hy.wr (lxb T sc t k)
  have l1 := mwr_len (lxb T sc t k) y hl (by omega)
  have e0 : j_202_65 K (dpt T k) (k : Int) y = j_202_104 K (k : Int) (k : Int) (if T.tk k = 123 then 1 else if T.tk k = 125 then -1 else 0) (dpt T k) (mwr y (lxb T sc t k)) := by
    unfold j_202_65
    rw [m222 hT hm hX hO (hL k hk) hP hk hy hl (by omega), Option.bind_some, gd_pos (by omega), Int.toNat_natCast, hy1.1 88 (by decide) (by decide), hm.2 k (by omega)]
    by_cases a : T.tk k = 123
    · rw [if_neg (fun u => u (k13.mpr a)), if_pos a]
    · rw [if_pos (fun u => a (k13.mp u)), if_neg a, gd_pos (by omega)]
      by_cases b : T.tk k = 125
      · rw [if_neg (fun u => u (k14.mpr b)), if_pos b]
      · rw [if_pos (fun u => b (k14.mp u)), if_neg b]
  have e1 : ax_w32 (dpt T k + (if T.tk k = 123 then 1 else if T.tk k = 125 then -1 else 0)) = dpt T (k + 1) := by
    rw [dpt]
    split
    · rw [w32_id] <;> omega
    · split
      · rw [w32_id] <;> omega
      · rw [w32_id] <;> omega
  have pt : ∀ l2, j_202_137 K (k : Int) l2 (k : Int) 1 (mwr y (lxb T sc t k)) = K (-1) l2 ((k + 1 : Nat) : Int) (mwr y (lxb T sc t k ++ [10])) := fun l2 => by
    unfold j_202_137 j_202_152
    rw [if_neg (by decide), gd_pos (by unfold g_221; exact ⟨⟨by omega, by omega⟩, trivial⟩), Option.bind_some, w32_nat (by omega), mwr_app]
    rfl
  have np : ∀ l2, j_202_137 K (k : Int) l2 (k : Int) 0 (mwr y (lxb T sc t k)) = K (k : Int) l2 ((k + 1 : Nat) : Int) (mwr y (lxb T sc t k)) := fun l2 => by
    unfold j_202_137 j_202_152
    rw [if_pos rfl, w32_nat (by omega)]
  rw [e0]
  unfold j_202_104
  rw [e1, hy1.1 88 (by decide) (by decide), Int.toNat_natCast, hm.2 k (by omega)]
  have en : ENd T (k + 1) ↔ ((T.tk k = 59 ∨ T.tk k = 125) ∧ dpt T (k + 1) = 0) := by
    unfold ENd
    rw [show k + 1 - 1 = k by omega]
    exact ⟨fun u => u.2, fun u => ⟨by omega, u⟩⟩
  rw [en]
  refine ⟨fun u => ?_, fun u => ?_⟩
  · rw [if_neg (fun v => v u.2), gd_pos (by omega)]
    by_cases a : T.tk k = 59
    · rw [if_pos (k7.mpr a)]
      unfold j_202_132
      exact pt _
    · rw [if_neg (fun v => a (k7.mp v)), gd_pos (by omega), if_neg (fun v => v (k14.mpr (u.1.resolve_left a)))]
      exact pt _
  · by_cases d : dpt T (k + 1) = 0
    · have a : ¬ T.tk k = 59 := fun v => u ⟨Or.inl v, d⟩
      have b : ¬ T.tk k = 125 := fun v => u ⟨Or.inr v, d⟩
      rw [if_neg (fun v => v d), gd_pos (by omega), if_neg (fun v => a (k7.mp v)), gd_pos (by omega), if_pos (fun v => b (k14.mp v))]
      exact np _
    · rw [if_pos d]
      unfold j_202_136
      exact np _
def byl (B : List Int) : Prop := ∀ b ∈ B, 0 ≤ b ∧ b < 256
theorem byl.app {A B : List Int} (h : byl A) (k : byl B) : byl (A ++ B) := fun b hb => (List.mem_append.mp hb).elim (h b) (k b)
theorem byl_dgl (v : Int) : ∀ e, byl (dgl v e) := by
  intro e
  induction e with
  | zero => intro b hb; rw [dgl, List.mem_singleton] at hb; omega
  | succ e ih =>
    intro b hb
    rw [dgl, List.mem_cons] at hb
    rcases hb with u | u
    · omega
    · exact ih b u
theorem byl_tbl {sc : Sg} (h : CT sc n t) : ∀ d i, i + d ≤ n → byl (tbl t d i) := by
  intro d
  induction d with
  | zero => intro i _ b hb; rw [tbl] at hb; cases hb
  | succ d ih =>
    intro i hi b hb
    rw [tbl, List.mem_cons] at hb
    rcases hb with u | u
    · rw [u]; exact (h.2.2 i (by omega)).2
    · exact ih (i + 1) (by omega) b u
theorem byl_lxb (hX : TX T sc sm n t) (hk : k < T.z) : byl (lxb T sc t k) := by
  unfold lxb
  obtain ⟨i, j, a1, a2, a3, a4, a5, a6, -⟩ := hX.2.2.2 k hk
  split
  · exact byl_dgl _ _
  · rw [a1, a2, Int.toNat_natCast]
    exact byl_tbl hX.1 _ _ (by omega)
theorem byl_1 {v : Int} (h : 0 ≤ v ∧ v < 256) : byl [v] := fun b hb => by rw [List.mem_singleton] at hb; omega
theorem byl_gpl (b : Bool) : byl (gpl b) := by
  unfold gpl
  split
  · exact byl_1 (by decide)
  · intro b hb; cases hb
theorem prn (H : PRI T sc sm n t) {x0 y0 : Sg} (hx0 : AC sc x0) (hx2 : x0 82 2 = 0) (hy0 : AM sm y0) (hy2 : y0 84 9 = 0) : ∀ (d k Fc Fm : Nat) (B B' : List Int) (l l' : Int), k + d = T.z → byl B → (B.length : Int) ≤ T.fm k + ((k - 1 : Nat) : Int) →
    ((ENd T k ∧ B' = B ++ [10] ∧ l = ((k - 1 : Nat) : Int) ∧ l' = -1) ∨ (¬ ENd T k ∧ B' = B ∧ l' = l ∧ (l = -1 ∨ ∃ p : Nat, l = (p : Int) ∧ PV T p k))) →
    ∃ R : List Int, j_128_9 (Fc + d + 1) l (k : Int) (cwr x0 B) = some (cwr x0 R) ∧ j_202_29 (Fm + d + 1) l' (dpt T k) (k : Int) (mwr y0 B') = some ((R.length : Int), mwr y0 R) ∧ R.length ≤ 16384 ∧ byl R := by
  obtain ⟨hT, hP, hO, hX, hc, hm, hL, hQ, hS, hE⟩ := id H
  have h8 := hT.1
  have fz := hP.2.2.2
  have fmz : ∀ k, k ≤ T.z → T.fm k + ((T.z - k : Nat) : Int) ≤ T.fm T.z := fun k hk => by
    have := hP.add (T.z - k) (k := k) (by omega)
    rw [show k + (T.z - k) = T.z by omega] at this
    exact this
  intro d
  induction d with
  | zero =>
    intro k Fc Fm B B' l l' hk hy hB hI
    have kz : k = T.z := by omega
    subst kz
    rcases hI with ⟨i1, i2, i3, i4⟩ | ⟨i1, -⟩
    · have hxB := hx0.wr B
      have hyB := hy0.wr B'
      have z1 := hE.1
      have len : (B'.length : Int) = (B.length : Int) + 1 := by rw [i2, List.length_append]; simp
      refine ⟨B ++ [10], ?_, ?_, ?_, hy.app (byl_1 (by decide))⟩
      · rw [j_128_9, hxB.1 39 (by decide) (by decide), hc.1, if_pos (by omega)]
        unfold j_128_51
        rw [gd_pos (hxB.2.g _), Option.bind_some, cwr_app]
        rfl
      · rw [j_202_29, hyB.2 11 (by decide) (by decide), hm.1, if_pos (by omega), mwr_len B' y0 (by omega) (by omega), hy2, i2]
        simp
      · rw [List.length_append]
        simp only [List.length_cons, List.length_nil]
        omega
    · exact absurd hE i1
  | succ d ih =>
    intro k Fc Fm B B' l l' hk hy hB hI
    have kz : k < T.z := by omega
    have hLk := hL k kz
    have hSk := hS k kz
    have f1 := hP.1 k kz
    have f2 := fmz (k + 1) (by omega)
    have hxB := hx0.wr B
    obtain ⟨s1, s2⟩ := c84 hT (hxB.cc hc) kz
    rw [hxB.1 45 (by decide) (by decide)] at s1
    have stk : ENd T k ↔ 17 ≤ T.tk k ∧ T.tk k ≤ 20 := ⟨fun u => hSk.mpr u, fun u => hSk.mp u⟩
    have lB' : (B'.length : Int) ≤ (B.length : Int) + 1 := by
      rcases hI with ⟨-, i2, -⟩ | ⟨-, i2, -⟩
      · rw [i2, List.length_append]; simp
      · rw [i2]; omega
    have bl1 : y0 84 9 + (B'.length : Int) ≤ 25000 := by clear hI; omega
    have ylen := mwr_len B' y0 (by clear hI; omega) bl1
    rw [hy2] at ylen
    have hyB := hy0.wr B'
    have EC : j_128_9 ((Fc + d + 1) + 1) l (k : Int) (cwr x0 B) = if sc 45 k = 2 then j_128_45 (j_128_9 (Fc + d + 1)) l (k : Int) (cwr x0 B) else (f_132 l (k : Int) (cwr x0 B)).bind fun q2 => (f_133 (k : Int) q2).bind fun q3 => j_128_45 (j_128_9 (Fc + d + 1)) (k : Int) (k : Int) q3 := by
      clear hI
      rw [j_128_9, hxB.1 39 (by decide) (by decide), hc.1, if_neg (by omega), gd_pos s2, s1]
    have EM : j_202_29 ((Fm + d + 1) + 1) l' (dpt T k) (k : Int) (mwr y0 B') = if ¬ ((if sc 45 k = 2 then 1 else 0 : Int) = 0) then j_202_152 (j_202_29 (Fm + d + 1)) l' (dpt T k) (k : Int) (mwr y0 B') else (if l' < 0 then j_202_65 (j_202_29 (Fm + d + 1)) (dpt T k) (k : Int) (mwr y0 B') else (f_220 l' (k : Int) (mwr y0 B')).bind fun q3 => if q3 = 0 then j_202_65 (j_202_29 (Fm + d + 1)) (dpt T k) (k : Int) (mwr y0 B') else gd (g_221 32 (mwr y0 B')) ((some (f_221 32 (mwr y0 B'))).bind fun q4 => j_202_65 (j_202_29 (Fm + d + 1)) (dpt T k) (k : Int) q4)) := by
      clear hI
      rw [j_202_29, hyB.2 11 (by decide) (by decide), hm.1, if_neg (by omega), gd_pos (by omega), Int.toNat_natCast, hyB.1 91 (by decide) (by decide), hLk.1]
    rw [show Fc + (d + 1) + 1 = (Fc + d + 1) + 1 by omega, show Fm + (d + 1) + 1 = (Fm + d + 1) + 1 by omega, EC, EM]
    by_cases dr : sc 45 k = 2
    · -- dropped
      have hD := hLk.2.2.2.1 dr
      have tk4 : T.tk k = 40 ∨ T.tk k = 41 := by
        rcases hD with u | u
        · exact Or.inl u.1
        · exact Or.inr u.1
      rw [if_pos dr, if_pos dr, if_pos (by decide)]
      unfold j_128_45 j_202_152
      rw [w32_nat (by omega)]
      rcases hI with ⟨i1, -⟩ | ⟨i1, i2, i3, i4⟩
      · have := stk.mp i1
        omega
      · have de : dpt T (k + 1) = dpt T k := by rw [dpt, if_neg (by omega), if_neg (by omega)]; omega
        rw [← de]
        refine ih (k + 1) Fc Fm B B' l l' (by omega) hy (by omega) (Or.inr ⟨?_, i2, i3, ?_⟩)
        · intro u
          have := u.2.1
          rw [show k + 1 - 1 = k by clear i4; omega] at this
          clear i4
          omega
        · rcases i4 with u | ⟨p, u, v⟩
          · exact Or.inl u
          · have := v.lt
            exact Or.inr ⟨p, u, v.drop hD (hQ k (by omega) kz)⟩
    · rw [if_neg dr, if_neg dr, if_neg (by decide)]
      -- the gap
      have gap : ∃ C : List Int, f_132 l (k : Int) (cwr x0 B) = some (cwr x0 C) ∧ (if l' < 0 then j_202_65 (j_202_29 (Fm + d + 1)) (dpt T k) (k : Int) (mwr y0 B') else (f_220 l' (k : Int) (mwr y0 B')).bind fun q3 => if q3 = 0 then j_202_65 (j_202_29 (Fm + d + 1)) (dpt T k) (k : Int) (mwr y0 B') else gd (g_221 32 (mwr y0 B')) ((some (f_221 32 (mwr y0 B'))).bind fun q4 => j_202_65 (j_202_29 (Fm + d + 1)) (dpt T k) (k : Int) q4)) = j_202_65 (j_202_29 (Fm + d + 1)) (dpt T k) (k : Int) (mwr y0 C) ∧ (C.length : Int) ≤ T.fm k + (k : Int) ∧ byl C := by
        rcases hI with ⟨i1, i2, i3, i4⟩ | ⟨i1, i2, i3, i4⟩
        · refine ⟨B ++ [10], ?_, ?_, ?_, hy.app (byl_1 (by decide))⟩
          · rw [i3, c132n hT hc kz (stk.mp i1) hxB, cwr_app]
          · rw [i4, if_pos (by decide), i2]
          · rw [List.length_append]
            simp only [List.length_cons, List.length_nil]
            have := i1.1
            omega
        · rcases i4 with u | ⟨p, u, v⟩
          · refine ⟨B, ?_, ?_, by omega, hy⟩
            · rw [u]
              unfold f_132
              rw [if_neg (by decide)]
            · rw [i3, u, if_pos (by decide), i2]
          · have plt := v.lt
            have hs : ¬ (17 ≤ T.tk k ∧ T.tk k ≤ 20) := fun w => i1 (stk.mpr w)
            have hLp := hL p (by omega)
            have ge := gap_eq (a := decide (sc 45 p = 1)) (b := decide (sc 45 k = 1)) (hT.2.2.1 p (by omega)).1 (hT.2.2.1 k kz).1 (v.gp (hQ k (by omega) kz)) hs (fun w => hLp.2.2.2.2 (of_decide_eq_true w)) (fun w => hLk.2.2.2.2 (of_decide_eq_true w))
            have e1 := c132 (p := p) hT hc (by omega) kz hs hxB
            have e2 := m220 (p := p) (sc := sc) hT hm (by omega) kz hLp hLk hyB
            rw [← ge] at e2
            refine ⟨B ++ gpl (gpC (decide (sc 45 p = 1)) (decide (sc 45 k = 1)) (T.tk p) (T.tk k)), ?_, ?_, ?_, hy.app (byl_gpl _)⟩
            · rw [u, e1, cwr_app]
            · rw [i3, u, if_neg (by omega), e2, Option.bind_some, mwr_app, i2]
              unfold gpl
              cases gpC (decide (sc 45 p = 1)) (decide (sc 45 k = 1)) (T.tk p) (T.tk k) with
              | true =>
                rw [if_pos rfl, if_neg (by decide), if_pos rfl, gd_pos (by rw [← i2]; unfold g_221; exact ⟨⟨by omega, by omega⟩, trivial⟩), Option.bind_some]
                rfl
              | false =>
                rfl
            · rw [List.length_append]
              have : (gpl (gpC (decide (sc 45 p = 1)) (decide (sc 45 k = 1)) (T.tk p) (T.tk k))).length ≤ 1 := by
                unfold gpl
                split <;> simp
              omega
      obtain ⟨C, g1, g2, g3, g4⟩ := gap
      have hyC2 := g4.app (byl_lxb hX kz)
      have hxC := hx0.wr C
      have hyC := hy0.wr C
      have ll := lxb_len hT hX hO kz
      have clen := mwr_len C y0 (by omega) (by omega)
      rw [hy2] at clen
      rw [g1, Option.bind_some, c133 hT hc hX kz hxC, Option.bind_some, g2, ← cwr_app]
      unfold j_128_45
      rw [w32_nat (by omega)]
      obtain ⟨m1, m2⟩ := m202s H kz hyC (by omega) (by omega) (j_202_29 (Fm + d + 1))
      have le : ((C ++ lxb T sc t k).length : Int) ≤ T.fm (k + 1) + ((k + 1 - 1 : Nat) : Int) := by
        rw [List.length_append, show k + 1 - 1 = k by omega]
        omega
      by_cases en : ENd T (k + 1)
      · rw [m1 en, ← mwr_app, ← List.append_assoc]
        exact ih (k + 1) Fc Fm (C ++ lxb T sc t k) (C ++ lxb T sc t k ++ [10]) (k : Int) (-1) (by omega) hyC2 le (Or.inl ⟨en, rfl, by rw [show k + 1 - 1 = k by omega], rfl⟩)
      · rw [m2 en, ← mwr_app]
        exact ih (k + 1) Fc Fm (C ++ lxb T sc t k) (C ++ lxb T sc t k) (k : Int) (k : Int) (by omega) hyC2 le (Or.inr ⟨en, rfl, rfl, Or.inr ⟨k, rfl, Or.inl rfl⟩⟩)
/-- both print the same bytes -/
theorem print_sim (H : PRI T sc sm n t) : ∃ R : List Int, f_128 sc = some (cwr (ax_u2 sc 82 2 0) R) ∧ (sm 84 5 ≠ 0 → f_202 sm = some ((R.length : Int), mwr (ax_u2 (ax_u2 sm 84 0 0) 84 9 0) R)) ∧ R.length ≤ 16384 ∧ byl R := by
  have h8 := H.1.1
  obtain ⟨F, hF⟩ := FU_split (k := T.z + 1) (by omega)
  have ac : AC sc (ax_u2 sc 82 2 0) := ⟨fun c a b => u2_row _ _ _ a, by unfold WC; rw [u2_at, if_pos rfl]; exact ⟨by decide, by decide⟩⟩
  have am : AM sm (ax_u2 (ax_u2 sm 84 0 0) 84 9 0) := ⟨fun c a b => by rw [u2_row _ _ _ a, u2_row _ _ _ a], fun j a b => by rw [u2_col _ _ _ b, u2_col _ _ _ a]⟩
  have f0 := H.1.2.2.2.1 0 (by omega)
  obtain ⟨R, r1, r2, r3⟩ := prn H ac (by rw [u2_at, if_pos rfl]) am (by rw [u2_at, if_pos rfl]) T.z 0 F F [] [] (-1) (-1) (by omega) (fun b hb => by cases hb) (by simpa using f0) (Or.inr ⟨fun u => absurd u.1 (by omega), rfl, rfl, Or.inl rfl⟩)
  rw [show F + T.z + 1 = FU by omega] at r1 r2
  refine ⟨R, ?_, fun h5 => ?_, r3⟩
  · unfold f_128
    exact r1
  · unfold f_202
    rw [if_pos h5]
    exact r2
end PRN
