/-! WIDTHS: a node's, on both sides. -/
section WND
variable {T : TT} {sc sm s s' : Sg} {n' S P A N K C w i n c q x : Nat} {t : Nat → Int} {r v : Int}
/-- what is known of a node -/
theorem CKX.nkd (h : CKX T sc sm n' t S P A N K C w) (hn : n < N) : ∃ c q : Nat, sm 120 n = (c : Int) ∧ sm 121 n = (q : Int) ∧ q + c ≤ K ∧ NKD sc sm N n c q ∧ sc 47 n = sm 116 n ∧ sc 50 n = sm 117 n ∧ AR (sm 116 n) c ∧ NV T sc sm n ∧ 0 ≤ sm 116 n ∧ sm 116 n ≤ 21 := by
  obtain ⟨hT, hX, hC, hD, hN, h19, h31, h34, h30, wz, tw, S8, P8, A8, N8⟩ := h
  obtain ⟨c, q, n1, n2, n3, n4, n5, n6, n7, n8, n9, n10, n11, n12, n13⟩ := hN.2.2.2 n hn
  exact ⟨c, q, n1, n2, n3, ⟨hn, N8, hN.1, n4, n11, n12⟩, n5, n9, n8, n13, n6, n7⟩
/-- whose a name is, on both sides -/
theorem CKX.who (h : CKX T sc sm n' t S P A N K C w) (g : GOOD T sc sm S A N w) (n6 : ¬ BD6 T sm S A N) (n7 : ¬ BD7 T sm S A N) (hn : n < N) (hk : 1 ≤ sm 116 n ∧ sm 116 n ≤ 3) : ∃ i x : Nat, sm 118 n = (x : Int) ∧ sc 50 n = (x : Int) ∧ x < T.z ∧ T.tk x = 1 ∧ (sc 48 n = 0 → SO1 T sm S (T.vl x) i ∧ sc 36 (T.vl x).toNat = (i : Int) ∧ FIT sm (sm 116 n) i (sm 120 n)) ∧ (sm 116 n ≠ 1 → sc 48 n = 0) := by
  obtain ⟨si, b1, b2, b3, b4, b5⟩ := h.nod hn
  obtain ⟨x, x1, x0, x2, x3⟩ := b5 hk
  obtain ⟨hT, hX, hC, hD, hN, h19, h31, h34, h30, wz, tw, S8, P8, A8, N8⟩ := h
  obtain ⟨cnt, q, e1, e2, e3, e4, e5, e6, e7, e8, e9, -⟩ := hN.2.2.2 n hn
  have cn := hD.2.2.2.2.2.2.1.mpr g
  have ev := hD.2.2.2.2.1 cn n hn hk.1 hk.2
  have v1 := hT.2.2.2.2.1 x x2
  have v2 := hT.2.2.2.2.2.1 x x2 x3
  have vi : (((T.vl x).toNat : Nat) : Int) = T.vl x := by omega
  have g4 := (g.2.2.2 n hn).2.2.2
  have z48 : sm 116 n ≠ 1 → sc 48 n = 0 := fun e => by
    apply Decidable.byContradiction
    intro hne
    exact g4 (by omega) (ev.1.mp hne)
  by_cases c0 : sc 48 n = 0
  · have no : ¬ OWN T sm (sm 123 n).toNat (sm 124 n) (T.vl (sm 118 n).toNat) := fun z => ev.1.mpr z c0
    have ns : ¬ NOS T sm S (T.vl x) := fun z => n6 (Or.inl ⟨n, hn, hk, no, by rw [x1, Int.toNat_natCast]; exact z⟩)
    rcases hD.2.2.2.2.2.1 (T.vl x).toNat (IDN.at hT x2 x3) with ⟨u1, u2⟩ | ⟨j, u1, u2, u3⟩
    · rw [vi] at u2
      exact absurd u2 ns
    · rw [vi] at u3
      have uq : ∀ i j, i < S → j < S → T.vl (sm 95 i).toNat = T.vl (sm 95 j).toNat → i = j := fun i j hi hj e => by
        by_cases c1 : i < j
        · exact absurd e ((g.2.1 j hj).2.2.2.1 i c1)
        · by_cases c2 : j < i
          · exact absurd e.symm ((g.2.1 i hi).2.2.2.1 j c2)
          · omega
      have so : SO1 T sm S (T.vl x) j := ⟨u1, u3, fun l hl e => by
        have := uq l j (by omega) u1 (by rw [e, u3])
        omega⟩
      refine ⟨j, x, x1, by rw [e9, x0], x2, x3, fun _ => ⟨so, u2, ?_⟩, z48⟩
      exact Classical.byContradiction (fun z => n7 (Or.inl ⟨n, hn, hk, Or.inr ⟨no, j, by rw [x1, Int.toNat_natCast]; exact so, z⟩⟩))
  · exact ⟨0, x, x1, by rw [e9, x0], x2, x3, fun e => absurd e c0, z48⟩
theorem c26 (hT : TWF T) (hc : CC T s) (hx : x < T.z) (tx : T.tk x = 1) : g_26 (x : Int) s ∧ f_26 (x : Int) s = s 36 (T.vl x).toNat := by
  obtain ⟨c1, c2⟩ := c97 hc hT (a := x) (by omega)
  rw [if_pos tx] at c1
  obtain ⟨d1, d2, -⟩ := c109 hT hc hx tx
  unfold g_26 f_26
  rw [c1, d2]
  exact ⟨⟨c2, d1, trivial⟩, rfl⟩
theorem c183 (hS : s 54 6 = (S : Int)) (hi : i < S) (hS8 : S ≤ 1171) : g_183 (i : Int) s ∧ f_183 (i : Int) s = s 57 i ∧ g_182 (i : Int) s ∧ f_182 (i : Int) s = s 55 i ∧ g_184 (i : Int) s ∧ f_184 (i : Int) s = s 58 i ∧ g_187 (i : Int) s ∧ f_187 (i : Int) s = s 56 i := by
  have e1 : f_181 (i : Int) s = 1 := by unfold f_181; rw [hS, if_neg (by omega), if_neg (by omega)]
  have gg : (f_181 (i : Int) s = 0 → True) ∧ (¬ (f_181 (i : Int) s = 0) → ((0 ≤ (i : Int) ∧ (i : Int) < 1171) ∧ True)) := ⟨fun _ => trivial, fun _ => ⟨by omega, trivial⟩⟩
  refine ⟨gg, ?_, gg, ?_, gg, ?_, gg, ?_⟩
  · unfold f_183; rw [e1, if_neg (by decide), Int.toNat_natCast]
  · unfold f_182; rw [e1, if_neg (by decide), Int.toNat_natCast]
  · unfold f_184; rw [e1, if_neg (by decide), Int.toNat_natCast]
  · unfold f_187; rw [e1, if_neg (by decide), Int.toNat_natCast]
theorem c28 (h : CKX T sc sm n' t S P A N K C w) (g : GOOD T sc sm S A N w) (y : ∀ b, b ≠ 30 → b ≠ 48 → s b = sc b) (h54 : sc 54 6 = (S : Int)) (hS8 : S ≤ 1171) (hi : i < S) (hf : sm 94 i = 1 ∨ sm 94 i = 0 ∧ 0 ≤ sm 96 i) : f_28 (i : Int) s = some (iw T sm i) := by
  obtain ⟨-, -, c9, d1, d2, d3, d4⟩ := m256 h g (s := sm) ⟨fun _ _ _ => rfl, fun _ _ => rfl⟩ hi hf
  obtain ⟨p1, p2, p3, p4, p5, p6, -⟩ := c183 (s := s) (by rw [y 54 (by decide) (by decide)]; exact h54) hi hS8
  obtain ⟨hT, hX, hC, hD, -⟩ := h
  obtain ⟨hd, p0, pc, n0, b1, b2, b3, b4, b5, -⟩ := hD.1 i hi
  have v0 := hT.2.2.2.2.1 c9 d2
  unfold f_28 iw
  rw [gd_pos p5, gd_pos p3, p4, p6, y 55 (by decide) (by decide), y 58 (by decide) (by decide), b5, d3, d1, Int.toNat_natCast]
  by_cases c1 : sm 94 i = 1
  · rw [if_neg (fun e : ¬ sm 94 i = 1 => e c1), if_neg (by decide), if_pos c1]
  · have pw := d4 c1
    have hb : T.vl c9 ≤ 64 := by unfold pw2 at pw; omega
    have ld := lg_d (T.vl c9).toNat (by omega) (by rw [Int.toNat_of_nonneg v0.1]; exact pw) s
    rw [Int.toNat_of_nonneg v0.1] at ld
    rw [if_pos c1, if_pos rfl, if_neg c1, ld.2]
/-- a call -/
theorem c29 (h : CKX T sc sm n' t S P A N K C w) (g : GOOD T sc sm S A N w) (y : ∀ b, b ≠ 30 → b ≠ 48 → s b = sc b) (hc : CC T s) (h54 : sc 54 6 = (S : Int)) (hS8 : S ≤ 1171) (k : NKD sc sm N n c q) (hc8 : c ≤ 8192) (hi : i < S) (e94 : sm 94 i = 2) (e99 : sm 99 i = (c : Int)) (hx : x < T.z) (tx : T.tk x = 1) (e50 : sc 50 n = (x : Int)) (e36 : sc 36 (T.vl x).toNat = (i : Int)) : f_29 (n : Int) s = some (cite (∀ j, j < c → s 48 (kd sm q j) = T.vl (sm 105 ((sm 98 i).toNat + j)).toNat) (T.vl (sm 97 i).toNat) 0) := by
  obtain ⟨c9, w1, w2, w3, w4, w5, w6⟩ := m97 h g (s := sm) ⟨fun _ _ _ => rfl, fun _ _ => rfl⟩ hi (by omega)
  obtain ⟨hT, hX, hC, hD, -⟩ := h
  obtain ⟨hd, p0, pc, n0, b1, b2, b3, b4, b5, b6, b7, b8, b9, b10, b11⟩ := hD.1 i hi
  have hpc : pc = c := by omega
  subst hpc
  have prm : ∀ j, j < pc → sm 105 (p0 + j) = ((hd + 3 + 3 * j : Nat) : Int) ∧ hd + 3 + 3 * j < T.z := by
    rcases b11 with ⟨u, -⟩ | ⟨u, -⟩ | ⟨_, _, _, u⟩ | ⟨u, -⟩
    · omega
    · omega
    · obtain ⟨st, e, m0, m1, d1, d2, d3, d4, d5, d6, d7, d8, d9, d10, d11, d12, d13⟩ := u
      intro j hj
      obtain ⟨z1, z2, z3, z4, z5⟩ := d13 j hj
      exact ⟨z2, z3⟩
    · omega
  obtain ⟨k1, k2, k3, k4⟩ := k.cnt y
  obtain ⟨v1, v2, -, -, -, -, v7, v8⟩ := c183 (s := s) (by rw [y 54 (by decide) (by decide)]; exact h54) hi hS8
  obtain ⟨u1, u2⟩ := c26 hT hc hx tx
  obtain ⟨q1, q2, q3, q4, q5, q6, q7, q8, q9, q10, q11, q12, -⟩ := nd117 (s := s) k.2.2.1 k.1 k.2.1 (by rw [y 46 (by decide) (by decide)])
  have z8 := hT.1
  have lp : ∀ (r l F : Nat), l + r = pc → j_29_37 (F + r + 1) (n : Int) (i : Int) ((hd + 3 + 3 * l : Nat) : Int) (cp sm q pc l) (l : Int) s = some (cite (∀ j, l ≤ j → j < pc → s 48 (kd sm q j) = T.vl (sm 105 (p0 + j)).toNat) (T.vl c9) 0) := by
    intro r
    induction r with
    | zero =>
      intro l F hl
      rw [j_29_37, gd_pos k1, k2, if_pos (by omega)]
      unfold j_29_94
      rw [gd_pos v1, v2, y 57 (by decide) (by decide), w6, cite_y (fun j x z => absurd z (by omega))]
    | succ r ih =>
      intro l F hl
      obtain ⟨m1, m2, m3, m4⟩ := k.next y (j := l) (by omega)
      obtain ⟨z1, z2⟩ := prm l (by omega)
      obtain ⟨o1, o2⟩ := c81 hc hT z2
      rw [show F + (r + 1) + 1 = (F + r + 1) + 1 by omega, j_29_37, gd_pos k1, k2, if_neg (by omega), gd_pos m1, m2, gd_pos o2, o1]
      by_cases d : s 48 (kd sm q l) = T.vl (hd + 3 + 3 * l)
      · rw [if_pos (cmp_eq.mpr d), gd_pos m3, m4, w32_nat (by omega), show ax_w32 (((hd + 3 + 3 * l : Nat) : Int) + 3) = ((hd + 3 + 3 * (l + 1) : Nat) : Int) from by rw [w32_id (by omega) (by omega)]; omega, ih (l + 1) F (by omega)]
        congr 1
        by_cases e : ∀ j, l + 1 ≤ j → j < pc → s 48 (kd sm q j) = T.vl (sm 105 (p0 + j)).toNat
        · rw [cite_y e, cite_y (fun j x z => by
            by_cases u : j = l
            · rw [u, z1, Int.toNat_natCast]; exact d
            · exact e j (by omega) z)]
        · rw [cite_n e, cite_n (fun u => e (fun j x z => u j (by omega) z))]
      · rw [if_neg (fun e => d (cmp_eq.mp e)), cite_n (fun u => d (by
          have := u l (Nat.le_refl _) (by omega)
          rw [z1, Int.toNat_natCast] at this
          exact this))]
  unfold f_29
  obtain ⟨F, hF⟩ := FU_split (k := pc + 1) (by omega)
  have e0 := lp pc 0 F (by omega)
  rw [show F + pc + 1 = FU by omega] at e0
  rw [gd_pos q11, q12, y 50 (by decide) (by decide), e50, gd_pos u1, u2, y 36 (by decide) (by decide), e36, gd_pos v7, v8, y 56 (by decide) (by decide), b1, gd_pos k3, k4, show ax_w32 ((hd : Int) + 3) = ((hd + 3 + 3 * 0 : Nat) : Int) from by rw [w32_id (by omega) (by omega)]; omega]
  have e1 : j_29_37 FU (n : Int) (i : Int) ((hd + 3 + 3 * 0 : Nat) : Int) (cp sm q pc 0) 0 s = _ := e0
  rw [e1, b6, w1, Int.toNat_natCast, Int.toNat_natCast]
  congr 1
  by_cases e : ∀ j, j < pc → s 48 (kd sm q j) = T.vl (sm 105 (p0 + j)).toNat
  · rw [cite_y e, cite_y (fun j _ z => e j z)]
  · rw [cite_n e, cite_n (fun u => e (fun j z => u j (Nat.zero_le _) z))]
theorem wv_n (v : Int) (h : v = -2) : wv v = 0 := by unfold wv; rw [if_pos h]
theorem wv_y (v : Int) (h : 1 ≤ v) : wv v = v := by unfold wv; rw [if_neg (by omega)]
/-- a node's width, the class's -/
theorem c23 (h : CKX T sc sm n' t S P A N K C w) (g : GOOD T sc sm S A N w) (n6 : ¬ BD6 T sm S A N) (n7 : ¬ BD7 T sm S A N) (y : ∀ b, b ≠ 30 → b ≠ 48 → s b = sc b) (hc : CC T s) (h54 : sc 54 6 = (S : Int)) (hS8 : S ≤ 1171) (hn : n < N) (e120 : sm 120 n = (c : Int)) (e121 : sm 121 n = (q : Int)) (s48 : s 48 n = sc 48 n) (hK8 : K ≤ 8192) (hb : ∀ j, j < c → 1 ≤ s 48 (kd sm q j) ∧ s 48 (kd sm q j) ≤ 32) :
    ∃ i : Nat, (1 ≤ sm 116 n ∧ sm 116 n ≤ 3 → ∃ x : Nat, sm 118 n = (x : Int) ∧ x < T.z ∧ T.tk x = 1 ∧ (sc 48 n = 0 → SO1 T sm S (T.vl x) i ∧ FIT sm (sm 116 n) i (sm 120 n)) ∧ (sm 116 n ≠ 1 → sc 48 n = 0)) ∧ f_23 (n : Int) s = some (wv (WSP T sc sm n i c (fun j => s 48 (kd sm q j)))) ∧ (WSP T sc sm n i c (fun j => s 48 (kd sm q j)) = -2 ∨ 1 ≤ WSP T sc sm n i c (fun j => s 48 (kd sm q j)) ∧ WSP T sc sm n i c (fun j => s 48 (kd sm q j)) ≤ 32) := by
  obtain ⟨c', q', a1, a2, a3, kk, a5, a6, a7, nv, a9, a10⟩ := h.nkd hn
  have ec : c' = c := by omega
  have eq' : q' = q := by omega
  subst ec
  subst eq'
  obtain ⟨hT, hX, hC, hD, hN, h19, h31, h34, h30, wz, tw, S8, P8, A8, N8⟩ := id h
  have z8 := hT.1
  obtain ⟨ar1, ar2, ar3, ar4, ar5⟩ := a7
  obtain ⟨v1, v2, v3, v4, v5⟩ := nv
  obtain ⟨q1, q2, q3, q4, q5, q6, q7, q8, q9, q10, q11, q12, q13, q14, -⟩ := nd117 (s := s) kk.2.2.1 kk.1 kk.2.1 (by rw [y 46 (by decide) (by decide)])
  have f116 : f_116 (n : Int) s = sm 116 n := by rw [q4, y 47 (by decide) (by decide), a5]
  have f117 : f_117 (n : Int) s = sc 48 n := by rw [q2, s48]
  have f120 := (kk.cnt y).2.2.2
  have g117 : g_117 (f_120 (n : Int) s) s := by
    rw [f120]
    unfold cp
    by_cases d : 0 < c'
    · have := (kk.next y d).1
      unfold cp at this
      rw [if_pos d] at this ⊢
      exact this
    · rw [if_neg d]; exact nd117n.1
  have w0 : 0 < c' → f_117 (f_120 (n : Int) s) s = s 48 (kd sm q' 0) := fun d => by rw [f120]; exact (kk.next y d).2.1
  have gn := g.2.2.2 n hn
  have body : f_23 (n : Int) s = (if sm 116 n = 0 then some (sc 48 n) else if sm 116 n = 1 then (if sc 48 n = 0 then gd (g_122 (n : Int) s) (gd (g_26 (f_122 (n : Int) s) s) (gd (g_183 (f_26 (f_122 (n : Int) s) s) s) (some (f_183 (f_26 (f_122 (n : Int) s) s) s)))) else some (sc 48 n)) else if sm 116 n = 2 then gd (g_122 (n : Int) s) (gd (g_26 (f_122 (n : Int) s) s) ((f_28 (f_26 (f_122 (n : Int) s) s) s).bind fun q1 => (if ¬ (f_117 (f_120 (n : Int) s) s) = q1 then some 0 else gd (g_183 (f_26 (f_122 (n : Int) s) s) s) (some (f_183 (f_26 (f_122 (n : Int) s) s) s))))) else if sm 116 n = 3 then ((f_29 (n : Int) s).bind fun q2 => some q2) else if sm 116 n = 4 ∨ sm 116 n = 5 then (if sc 48 n < f_117 (f_120 (n : Int) s) s then some 0 else some (sc 48 n)) else if sm 116 n = 6 then ((f_30 (n : Int) s).bind fun q3 => some q3) else if sm 116 n = 7 then gd (g_115 (n : Int) s) (if f_117 (f_120 (n : Int) s) s ≤ ax_w32 ((ax_w32 ((f_115 (n : Int) s) + (sc 48 n))) - 1) then some 0 else some (sc 48 n)) else if sm 116 n = 8 ∨ sm 116 n = 9 ∨ sm 116 n = 13 ∨ sm 116 n = 14 then some (f_117 (f_120 (n : Int) s) s) else if sm 116 n = 21 then ((f_119 (n : Int) 1 s).bind fun q4 => gd (g_117 q4 s) (if ¬ (f_117 (f_120 (n : Int) s) s) = 1 then some 0 else ((f_119 (n : Int) 2 s).bind fun q5 => gd (g_117 q5 s) (if ¬ (f_117 q4 s) = f_117 q5 s then some 0 else some (f_117 q4 s))))) else ((f_31 (n : Int) s).bind fun q6 => some q6)) := by
    unfold f_23
    rw [gd_pos q1, gd_pos q7, gd_pos g117, gd_pos q3, f116, f117]
  by_cases k13 : 1 ≤ sm 116 n ∧ sm 116 n ≤ 3
  · obtain ⟨i, x, x1, x0, x2, x3, x4, x5⟩ := h.who g n6 n7 hn k13
    refine ⟨i, fun _ => ⟨x, x1, x2, x3, fun e => ⟨(x4 e).1, (x4 e).2.2⟩, x5⟩, ?_⟩
    obtain ⟨u1, u2⟩ := c26 hT hc x2 x3
    have f122 : f_122 (n : Int) s = (x : Int) := by rw [q12, y 50 (by decide) (by decide), x0]
    rw [body, f122, if_neg (by omega)]
    unfold WSP
    rw [if_neg (show ¬ sm 116 n = 0 by omega)]
    by_cases k1 : sm 116 n = 1
    · rw [if_pos k1, if_pos k1]
      by_cases z : sc 48 n = 0
      · obtain ⟨so, e36, ft⟩ := x4 z
        have hf : sm 94 i = 0 := by
          rcases ft with y | ⟨y, _⟩ | ⟨y, _⟩
          · exact y.2.1
          · omega
          · omega
        obtain ⟨c9, w1, w2, w3, w4, w5, w6⟩ := m97 h g (s := sm) ⟨fun _ _ _ => rfl, fun _ _ => rfl⟩ so.1 (by omega)
        obtain ⟨p1, p2, -⟩ := c183 (s := s) (by rw [y 54 (by decide) (by decide)]; exact h54) so.1 hS8
        rw [if_pos z, if_pos z, gd_pos q11, gd_pos u1, u2, y 36 (by decide) (by decide), e36, gd_pos p1, p2, y 57 (by decide) (by decide), w6, w1, Int.toNat_natCast, wv_y _ w4]
        exact ⟨rfl, Or.inr ⟨w4, w5⟩⟩
      · have ev := hD.2.2.2.2.1 (hD.2.2.2.2.2.2.1.mpr g) n hn k13.1 k13.2
        have bnd : 1 ≤ sc 48 n ∧ sc 48 n ≤ 32 := by
          obtain ⟨si, b1, b2, b3, b4, b5⟩ := h.nod hn
          have ow := ev.2 z
          rw [b1, Int.toNat_natCast] at ow
          rcases ow with ⟨_, e⟩ | ⟨_, p, p1, p2, p3, p4, p5⟩
          · omega
          · have gp := ((g.2.1 si b2).2.2.2.2 p p1 p2).1 p3
            rw [p5]
            unfold mn
            rw [if_neg (show ¬ 1073741824 < T.vl (sm 105 p).toNat by omega), if_neg (by omega)]
            exact gp
        rw [if_neg z, if_neg z, wv_y _ bnd.1]
        exact ⟨rfl, Or.inr bnd⟩
    · obtain ⟨so, e36, ft⟩ := x4 (x5 k1)
      rw [if_neg k1, if_neg k1]
      by_cases k2 : sm 116 n = 2
      · have hf : sm 94 i = 1 ∨ sm 94 i = 0 ∧ 0 ≤ sm 96 i := by
          rcases ft with ⟨y, _⟩ | y | ⟨y, _⟩
          · omega
          · exact y.2
          · omega
        have c1 : 0 < c' := by have := ar2 (Or.inl k2); omega
        obtain ⟨c9, w1, w2, w3, w4, w5, w6⟩ := m97 h g (s := sm) ⟨fun _ _ _ => rfl, fun _ _ => rfl⟩ so.1 (by omega)
        obtain ⟨p1, p2, -⟩ := c183 (s := s) (by rw [y 54 (by decide) (by decide)]; exact h54) so.1 hS8
        rw [if_pos k2, if_pos k2, gd_pos q11, gd_pos u1, u2, y 36 (by decide) (by decide), e36, c28 h g y h54 hS8 so.1 hf, Option.bind_some, w0 c1]
        by_cases d : s 48 (kd sm q' 0) = iw T sm i
        · rw [if_neg (fun e => e d), if_pos d, gd_pos p1, p2, y 57 (by decide) (by decide), w6, w1, Int.toNat_natCast, wv_y _ w4]
          exact ⟨rfl, Or.inr ⟨w4, w5⟩⟩
        · rw [if_pos d, if_neg d, wv_n _ rfl]
          exact ⟨rfl, Or.inl rfl⟩
      · have k3 : sm 116 n = 3 := by omega
        have hf : sm 94 i = 2 ∧ sm 99 i = sm 120 n := by
          rcases ft with ⟨y, _⟩ | ⟨y, _⟩ | y
          · omega
          · omega
          · exact y.2
        have i8 := so.1
        obtain ⟨c9, w1, w2, w3, w4, w5, w6⟩ := m97 h g (s := sm) ⟨fun _ _ _ => rfl, fun _ _ => rfl⟩ so.1 (by omega)
        obtain ⟨hd, p0, pc, n0, b1, b2, b3, b4, b5, b6, b7, b8, -⟩ := hD.1 i so.1
        rw [if_neg k2, if_neg k2, if_pos k3, if_pos k3, c29 h g y hc h54 hS8 kk (by omega) so.1 hf.1 (by rw [hf.2, a1]) x2 x3 x0 e36, Option.bind_some]
        by_cases d : ∀ j, j < c' → s 48 (kd sm q' j) = T.vl (sm 105 ((sm 98 i).toNat + j)).toNat
        · rw [cite_y d, cite_y d, w1, Int.toNat_natCast, wv_y _ w4]
          exact ⟨rfl, Or.inr ⟨w4, w5⟩⟩
        · rw [cite_n d, cite_n d, wv_n _ rfl]
          exact ⟨rfl, Or.inl rfl⟩
  · refine ⟨0, fun e => absurd e k13, ?_⟩
    rw [body]
    unfold WSP
    by_cases k0 : sm 116 n = 0
    · obtain ⟨xa, xb, g1, g2, g3, g4, g5, g6, g7, g8⟩ := v1 k0
      have gv := gn.1 k0
      rw [g2, Int.toNat_natCast] at gv
      rw [if_pos k0, if_pos k0, g8, g2, Int.toNat_natCast, wv_y _ gv.1]
      unfold mn
      rw [if_neg (show ¬ 1073741824 < T.vl xb by omega)]
      exact ⟨rfl, Or.inr ⟨gv.1, gv.2.1⟩⟩
    rw [if_neg k0, if_neg k0, if_neg (show ¬ sm 116 n = 1 by omega), if_neg (show ¬ sm 116 n = 1 by omega), if_neg (show ¬ sm 116 n = 2 by omega), if_neg (show ¬ sm 116 n = 2 by omega), if_neg (show ¬ sm 116 n = 3 by omega), if_neg (show ¬ sm 116 n = 3 by omega)]
    by_cases k4 : sm 116 n = 4 ∨ sm 116 n = 5
    · obtain ⟨xb, g2, g4, g6, g7, g8⟩ := v2 k4
      have gv := gn.2.1 k4
      rw [g2, Int.toNat_natCast] at gv
      have c1 : 0 < c' := by have := ar2 (by omega); omega
      have em : mn (T.vl xb) = T.vl xb := by unfold mn; rw [if_neg (by omega)]
      rw [if_pos k4, if_pos k4, g8, em, w0 c1, g2, Int.toNat_natCast]
      by_cases d : s 48 (kd sm q' 0) ≤ T.vl xb
      · rw [if_neg (by omega), if_pos d, wv_y _ gv.1]
        exact ⟨rfl, Or.inr gv⟩
      · rw [if_pos (by omega), if_neg d, wv_n _ rfl]
        exact ⟨rfl, Or.inl rfl⟩
    rw [if_neg k4, if_neg k4]
    by_cases k6 : sm 116 n = 6
    · have c2 := ar5 k6
      have hc8 : c' ≤ 8192 := by omega
      have ob := osum_b (ω := fun j => s 48 (kd sm q' j)) c' hb
      rw [if_pos k6, if_pos k6, c30 kk hc8 y hb, Option.bind_some]
      by_cases d : osum (fun j => s 48 (kd sm q' j)) c' ≤ 32
      · rw [if_pos d, if_pos d, wv_y _ (by omega)]
        exact ⟨rfl, Or.inr ⟨by omega, d⟩⟩
      · rw [if_neg d, if_neg d, wv_n _ rfl]
        exact ⟨rfl, Or.inl rfl⟩
    rw [if_neg k6, if_neg k6]
    by_cases k7 : sm 116 n = 7
    · obtain ⟨xa, xb, g1, g2, g3, g4, g5, g6, g7, g8⟩ := v3 k7
      have gv := gn.2.2.1 k7
      rw [g1, g2, Int.toNat_natCast, Int.toNat_natCast] at gv
      have va := hT.2.2.2.2.1 xa g3
      have vb := hT.2.2.2.2.1 xb g4
      have c1 : 0 < c' := by have := ar2 (by omega); omega
      have ea : mn (T.vl xa) = T.vl xa := by unfold mn; rw [if_neg (by omega)]
      have eb : mn (T.vl xb) = T.vl xb := by unfold mn; rw [if_neg (by omega)]
      have e48 : sc 48 n = T.vl xa - T.vl xb + 1 := by rw [g8, ea, eb, w32_id (z := T.vl xa - T.vl xb) (by omega) (by omega), w32_id (by omega) (by omega)]
      have e49 : f_115 (n : Int) s = T.vl xb := by rw [q14, y 49 (by decide) (by decide), g7, eb]
      rw [if_pos k7, if_pos k7, gd_pos q13, e49, e48, w0 c1, g1, g2, Int.toNat_natCast, Int.toNat_natCast, w32_id (z := T.vl xb + (T.vl xa - T.vl xb + 1)) (by omega) (by omega), w32_id (by omega) (by omega)]
      by_cases d : T.vl xa < s 48 (kd sm q' 0)
      · rw [if_neg (by omega), if_pos d, wv_y _ (by omega)]
        exact ⟨rfl, Or.inr ⟨by omega, by omega⟩⟩
      · rw [if_pos (by omega), if_neg d, wv_n _ rfl]
        exact ⟨rfl, Or.inl rfl⟩
    rw [if_neg k7, if_neg k7]
    by_cases k8 : sm 116 n = 8 ∨ sm 116 n = 9 ∨ sm 116 n = 13 ∨ sm 116 n = 14
    · have c1 : 0 < c' := by
        by_cases e : sm 116 n = 8 ∨ sm 116 n = 9
        · have := ar2 (by omega); omega
        · have := ar3 (by omega); omega
      have b0 := hb 0 c1
      rw [if_pos k8, if_pos k8, w0 c1, wv_y _ b0.1]
      exact ⟨rfl, Or.inr b0⟩
    rw [if_neg k8, if_neg k8]
    by_cases k21 : sm 116 n = 21
    · have c3 := ar4 k21
      have b0 := hb 0 (by omega)
      have b1 := hb 1 (by omega)
      have e1 : f_119 (n : Int) 1 s = some ((kd sm q' 1 : Nat) : Int) := c119 kk y (j := 1) (by omega) (by omega)
      have e2 : f_119 (n : Int) 2 s = some ((kd sm q' 2 : Nat) : Int) := c119 kk y (j := 2) (by omega) (by omega)
      have l1 := (kk.at (j := 1) (by omega)).2.1
      have l2 := (kk.at (j := 2) (by omega)).2.1
      obtain ⟨o1, o2, -⟩ := nd117 (s := s) kk.2.2.1 (n := kd sm q' 1) (by omega) kk.2.1 (by rw [y 46 (by decide) (by decide)])
      obtain ⟨o3, o4, -⟩ := nd117 (s := s) kk.2.2.1 (n := kd sm q' 2) (by omega) kk.2.1 (by rw [y 46 (by decide) (by decide)])
      rw [if_pos k21, if_pos k21, e1, Option.bind_some, gd_pos o1, o2, w0 (by omega), e2, Option.bind_some, gd_pos o3, o4]
      by_cases d : s 48 (kd sm q' 0) = 1
      · rw [if_neg (fun e => e d)]
        by_cases e : s 48 (kd sm q' 1) = s 48 (kd sm q' 2)
        · rw [if_neg (fun z => z e), if_pos ⟨d, e⟩, wv_y _ b1.1]
          exact ⟨rfl, Or.inr b1⟩
        · rw [if_pos e, if_neg (fun z => e z.2), wv_n _ rfl]
          exact ⟨rfl, Or.inl rfl⟩
      · rw [if_pos d, if_neg (fun z => d z.1), wv_n _ rfl]
        exact ⟨rfl, Or.inl rfl⟩
    rw [if_neg k21, if_neg k21]
    have c2 := ar3 (by omega)
    have b0 := hb 0 (by omega)
    have e1 : f_119 (n : Int) 1 s = some ((kd sm q' 1 : Nat) : Int) := c119 kk y (j := 1) (by omega) (by omega)
    have l1 := (kk.at (j := 1) (by omega)).2.1
    obtain ⟨o1, o2, -⟩ := nd117 (s := s) kk.2.2.1 (n := kd sm q' 1) (by omega) kk.2.1 (by rw [y 46 (by decide) (by decide)])
    have e31 : f_31 (n : Int) s = some (if s 48 (kd sm q' 0) = s 48 (kd sm q' 1) then (if sm 116 n < 18 then s 48 (kd sm q' 0) else 1) else 0) := by
      unfold f_31
      rw [gd_pos q7, gd_pos g117, e1, Option.bind_some, gd_pos o1, o2, w0 (by omega), gd_pos q3, f116]
      by_cases d : s 48 (kd sm q' 0) = s 48 (kd sm q' 1)
      · rw [if_pos d, if_pos d]
        by_cases e : sm 116 n < 18
        · rw [if_pos e, if_pos e]
        · rw [if_neg e, if_neg e]
      · rw [if_neg d, if_neg d]
    rw [e31, Option.bind_some]
    by_cases d : s 48 (kd sm q' 0) = s 48 (kd sm q' 1)
    · rw [if_pos d, if_pos d]
      by_cases e : sm 116 n < 18
      · rw [if_pos e, wv_y _ b0.1]
        exact ⟨rfl, Or.inr b0⟩
      · rw [if_neg e, wv_y _ (by decide)]
        exact ⟨rfl, Or.inr ⟨by decide, by decide⟩⟩
    · rw [if_neg d, if_neg d, wv_n _ rfl]
      exact ⟨rfl, Or.inl rfl⟩
end WND
