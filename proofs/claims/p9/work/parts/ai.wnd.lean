/-! WIDTHS: a node's, on both sides. -/
section WND
variable {T : TT} {sc sm s s' : Sg} {n' S P A N K C w i n c q x : Nat} {t : Nat → Int} {r v : Int}
/-- what is known of a node -/
theorem CKX.nkd (h : CKX T sc sm n' t S P A N K C w) (hn : n < N) : ∃ c q : Nat, sm 120 n = (c : Int) ∧ sm 121 n = (q : Int) ∧ q + c ≤ K ∧ NKD sc sm N n c q ∧ sc 47 n = sm 116 n ∧ sc 50 n = sm 117 n ∧ AR (sm 116 n) c ∧ NV T sc sm n ∧ 0 ≤ sm 116 n ∧ sm 116 n ≤ 21 := by
  obtain ⟨hT, hX, hC, hD, hN, h19, h31, h34, h30, wz, tw, S8, P8, A8, N8⟩ := h
  obtain ⟨c, q, n1, n2, n3, n4, n5, n6, n7, n8, n9, n10, n11, n12, n13⟩ := hN.2.2.2 n hn
  exact ⟨c, q, n1, n2, n3, ⟨hn, N8, hN.1, n4, n11, n12⟩, n5, n9, n8, n13, n6, n7⟩
/-- whose a name is, on both sides -/
theorem CKX.who (h : CKX T sc sm n' t S P A N K C w) (g : GOOD T sc sm S A N w) (n6 : ¬ BD6 T sm S A N) (n7 : ¬ BD7 T sm S A N) (hn : n < N) (hk : 1 ≤ sm 116 n ∧ sm 116 n ≤ 3) : ∃ i x : Nat, sm 118 n = (x : Int) ∧ sc 50 n = (x : Int) ∧ x < T.z ∧ T.tk x = 1 ∧ (sc 48 n = 0 → SO1 T sm S (T.vl x) i ∧ sc 36 (T.vl x).toNat = (i : Int) ∧ FIT sm (sm 116 n) i (sm 120 n)) ∧ (sm 116 n ≠ 1 → sc 48 n = 0) := by
  obtain ⟨si, b1, b2, b3, b4, b5⟩ := h.nod hn
  obtain ⟨x, x1, x0, x2, x3⟩ := b5 hk
  obtain ⟨hT, hX, hC, hD, hN, h19, h31, h34, h30, wz, tw, S8, P8, A8, N8⟩ := h
  obtain ⟨cnt, q, e1, e2, e3, e4, e5, e6, e7, e8, e9, -⟩ := hN.2.2.2 n hn
  have cn := hD.2.2.2.2.2.2.1.mpr g
  have ev := hD.2.2.2.2.1 cn n hn hk.1 hk.2
  have v1 := hT.2.2.2.2.1 x x2
  have v2 := hT.2.2.2.2.2.1 x x2 x3
  have vi : (((T.vl x).toNat : Nat) : Int) = T.vl x := by omega
  have g4 := (g.2.2.2 n hn).2.2.2
  have z48 : sm 116 n ≠ 1 → sc 48 n = 0 := fun e => by
    apply Decidable.byContradiction
    intro hne
    exact g4 (by omega) (ev.1.mp hne)
  by_cases c0 : sc 48 n = 0
  · have no : ¬ OWN T sm (sm 123 n).toNat (sm 124 n) (T.vl (sm 118 n).toNat) := fun z => ev.1.mpr z c0
    have ns : ¬ NOS T sm S (T.vl x) := fun z => n6 (Or.inl ⟨n, hn, hk, no, by rw [x1, Int.toNat_natCast]; exact z⟩)
    rcases hD.2.2.2.2.2.1 (T.vl x).toNat (IDN.at hT x2 x3) with ⟨u1, u2⟩ | ⟨j, u1, u2, u3⟩
    · rw [vi] at u2
      exact absurd u2 ns
    · rw [vi] at u3
      have uq : ∀ i j, i < S → j < S → T.vl (sm 95 i).toNat = T.vl (sm 95 j).toNat → i = j := fun i j hi hj e => by
        by_cases c1 : i < j
        · exact absurd e ((g.2.1 j hj).2.2.2.1 i c1)
        · by_cases c2 : j < i
          · exact absurd e.symm ((g.2.1 i hi).2.2.2.1 j c2)
          · omega
      have so : SO1 T sm S (T.vl x) j := ⟨u1, u3, fun l hl e => by
        have := uq l j (by omega) u1 (by rw [e, u3])
        omega⟩
      refine ⟨j, x, x1, by rw [e9, x0], x2, x3, fun _ => ⟨so, u2, ?_⟩, z48⟩
      exact Classical.byContradiction (fun z => n7 (Or.inl ⟨n, hn, hk, Or.inr ⟨no, j, by rw [x1, Int.toNat_natCast]; exact so, z⟩⟩))
  · exact ⟨0, x, x1, by rw [e9, x0], x2, x3, fun e => absurd e c0, z48⟩
theorem c26 (hT : TWF T) (hc : CC T s) (hx : x < T.z) (tx : T.tk x = 1) : g_26 (x : Int) s ∧ f_26 (x : Int) s = s 36 (T.vl x).toNat := by
  obtain ⟨c1, c2⟩ := c97 hc hT (a := x) (by omega)
  rw [if_pos tx] at c1
  obtain ⟨d1, d2, -⟩ := c109 hT hc hx tx
  unfold g_26 f_26
  rw [c1, d2]
  exact ⟨⟨c2, d1, trivial⟩, rfl⟩
theorem c183 (hS : s 54 6 = (S : Int)) (hi : i < S) (hS8 : S ≤ 1171) : g_183 (i : Int) s ∧ f_183 (i : Int) s = s 57 i ∧ g_182 (i : Int) s ∧ f_182 (i : Int) s = s 55 i ∧ g_184 (i : Int) s ∧ f_184 (i : Int) s = s 58 i ∧ g_187 (i : Int) s ∧ f_187 (i : Int) s = s 56 i := by
  have e1 : f_181 (i : Int) s = 1 := by unfold f_181; rw [hS, if_neg (by omega), if_neg (by omega)]
  have gg : (f_181 (i : Int) s = 0 → True) ∧ (¬ (f_181 (i : Int) s = 0) → ((0 ≤ (i : Int) ∧ (i : Int) < 1171) ∧ True)) := ⟨fun _ => trivial, fun _ => ⟨by omega, trivial⟩⟩
  refine ⟨gg, ?_, gg, ?_, gg, ?_, gg, ?_⟩
  · unfold f_183; rw [e1, if_neg (by decide), Int.toNat_natCast]
  · unfold f_182; rw [e1, if_neg (by decide), Int.toNat_natCast]
  · unfold f_184; rw [e1, if_neg (by decide), Int.toNat_natCast]
  · unfold f_187; rw [e1, if_neg (by decide), Int.toNat_natCast]
theorem c28 (h : CKX T sc sm n' t S P A N K C w) (g : GOOD T sc sm S A N w) (y : ∀ b, b ≠ 30 → b ≠ 48 → s b = sc b) (h54 : sc 54 6 = (S : Int)) (hS8 : S ≤ 1171) (hi : i < S) (hf : sm 94 i = 1 ∨ sm 94 i = 0 ∧ 0 ≤ sm 96 i) : f_28 (i : Int) s = some (iw T sm i) := by
  obtain ⟨-, -, c9, d1, d2, d3, d4⟩ := m256 h g (s := sm) ⟨fun _ _ _ => rfl, fun _ _ => rfl⟩ hi hf
  obtain ⟨p1, p2, p3, p4, p5, p6, -⟩ := c183 (s := s) (by rw [y 54 (by decide) (by decide)]; exact h54) hi hS8
  obtain ⟨hT, hX, hC, hD, -⟩ := h
  obtain ⟨hd, p0, pc, n0, b1, b2, b3, b4, b5, -⟩ := hD.1 i hi
  have v0 := hT.2.2.2.2.1 c9 d2
  unfold f_28 iw
  rw [gd_pos p5, gd_pos p3, p4, p6, y 55 (by decide) (by decide), y 58 (by decide) (by decide), b5, d3, d1, Int.toNat_natCast]
  by_cases c1 : sm 94 i = 1
  · rw [if_neg (fun e : ¬ sm 94 i = 1 => e c1), if_neg (by decide), if_pos c1]
  · have pw := d4 c1
    have hb : T.vl c9 ≤ 64 := by unfold pw2 at pw; omega
    have ld := lg_d (T.vl c9).toNat (by omega) (by rw [Int.toNat_of_nonneg v0.1]; exact pw) s
    rw [Int.toNat_of_nonneg v0.1] at ld
    rw [if_pos c1, if_pos rfl, if_neg c1, ld.2]
/-- a call -/
theorem c29 (h : CKX T sc sm n' t S P A N K C w) (g : GOOD T sc sm S A N w) (y : ∀ b, b ≠ 30 → b ≠ 48 → s b = sc b) (hc : CC T s) (h54 : sc 54 6 = (S : Int)) (hS8 : S ≤ 1171) (k : NKD sc sm N n c q) (hc8 : c ≤ 8192) (hi : i < S) (e94 : sm 94 i = 2) (e99 : sm 99 i = (c : Int)) (hx : x < T.z) (tx : T.tk x = 1) (e50 : sc 50 n = (x : Int)) (e36 : sc 36 (T.vl x).toNat = (i : Int)) : f_29 (n : Int) s = some (cite (∀ j, j < c → s 48 (kd sm q j) = T.vl (sm 105 ((sm 98 i).toNat + j)).toNat) (T.vl (sm 97 i).toNat) 0) := by
  obtain ⟨c9, w1, w2, w3, w4, w5, w6⟩ := m97 h g (s := sm) ⟨fun _ _ _ => rfl, fun _ _ => rfl⟩ hi (by omega)
  obtain ⟨hT, hX, hC, hD, -⟩ := h
  obtain ⟨hd, p0, pc, n0, b1, b2, b3, b4, b5, b6, b7, b8, b9, b10, b11⟩ := hD.1 i hi
  have hpc : pc = c := by omega
  subst hpc
  have prm : ∀ j, j < pc → sm 105 (p0 + j) = ((hd + 3 + 3 * j : Nat) : Int) ∧ hd + 3 + 3 * j < T.z := by
    rcases b11 with ⟨u, -⟩ | ⟨u, -⟩ | ⟨_, _, _, u⟩ | ⟨u, -⟩
    · omega
    · omega
    · obtain ⟨st, e, m0, m1, d1, d2, d3, d4, d5, d6, d7, d8, d9, d10, d11, d12, d13⟩ := u
      intro j hj
      obtain ⟨z1, z2, z3, z4, z5⟩ := d13 j hj
      exact ⟨z2, z3⟩
    · omega
  obtain ⟨k1, k2, k3, k4⟩ := k.cnt y
  obtain ⟨v1, v2, -, -, -, -, v7, v8⟩ := c183 (s := s) (by rw [y 54 (by decide) (by decide)]; exact h54) hi hS8
  obtain ⟨u1, u2⟩ := c26 hT hc hx tx
  obtain ⟨q1, q2, q3, q4, q5, q6, q7, q8, q9, q10, q11, q12, -⟩ := nd117 (s := s) k.2.2.1 k.1 k.2.1 (by rw [y 46 (by decide) (by decide)])
  have z8 := hT.1
  have lp : ∀ (r l F : Nat), l + r = pc → j_29_37 (F + r + 1) (n : Int) (i : Int) ((hd + 3 + 3 * l : Nat) : Int) (cp sm q pc l) (l : Int) s = some (cite (∀ j, l ≤ j → j < pc → s 48 (kd sm q j) = T.vl (sm 105 (p0 + j)).toNat) (T.vl c9) 0) := by
    intro r
    induction r with
    | zero =>
      intro l F hl
      rw [j_29_37, gd_pos k1, k2, if_pos (by omega)]
      unfold j_29_94
      rw [gd_pos v1, v2, y 57 (by decide) (by decide), w6, cite_y (fun j x z => absurd z (by omega))]
    | succ r ih =>
      intro l F hl
      obtain ⟨m1, m2, m3, m4⟩ := k.next y (j := l) (by omega)
      obtain ⟨z1, z2⟩ := prm l (by omega)
      obtain ⟨o1, o2⟩ := c81 hc hT z2
      rw [show F + (r + 1) + 1 = (F + r + 1) + 1 by omega, j_29_37, gd_pos k1, k2, if_neg (by omega), gd_pos m1, m2, gd_pos o2, o1]
      by_cases d : s 48 (kd sm q l) = T.vl (hd + 3 + 3 * l)
      · rw [if_pos (cmp_eq.mpr d), gd_pos m3, m4, w32_nat (by omega), show ax_w32 (((hd + 3 + 3 * l : Nat) : Int) + 3) = ((hd + 3 + 3 * (l + 1) : Nat) : Int) from by rw [w32_id (by omega) (by omega)]; omega, ih (l + 1) F (by omega)]
        congr 1
        by_cases e : ∀ j, l + 1 ≤ j → j < pc → s 48 (kd sm q j) = T.vl (sm 105 (p0 + j)).toNat
        · rw [cite_y e, cite_y (fun j x z => by
            by_cases u : j = l
            · rw [u, z1, Int.toNat_natCast]; exact d
            · exact e j (by omega) z)]
        · rw [cite_n e, cite_n (fun u => e (fun j x z => u j (by omega) z))]
      · rw [if_neg (fun e => d (cmp_eq.mp e)), cite_n (fun u => d (by
          have := u l (Nat.le_refl _) (by omega)
          rw [z1, Int.toNat_natCast] at this
          exact this))]
  unfold f_29
  obtain ⟨F, hF⟩ := FU_split (k := pc + 1) (by omega)
  have e0 := lp pc 0 F (by omega)
  rw [show F + pc + 1 = FU by omega] at e0
  rw [gd_pos q11, q12, y 50 (by decide) (by decide), e50, gd_pos u1, u2, y 36 (by decide) (by decide), e36, gd_pos v7, v8, y 56 (by decide) (by decide), b1, gd_pos k3, k4, show ax_w32 ((hd : Int) + 3) = ((hd + 3 + 3 * 0 : Nat) : Int) from by rw [w32_id (by omega) (by omega)]; omega]
  have e1 : j_29_37 FU (n : Int) (i : Int) ((hd + 3 + 3 * 0 : Nat) : Int) (cp sm q pc 0) 0 s = _ := e0
  rw [e1, b6, w1, Int.toNat_natCast, Int.toNat_natCast]
  congr 1
  by_cases e : ∀ j, j < pc → s 48 (kd sm q j) = T.vl (sm 105 (p0 + j)).toNat
  · rw [cite_y e, cite_y (fun j _ z => e j z)]
  · rw [cite_n e, cite_n (fun u => e (fun j z => u j (Nat.zero_le _) z))]
theorem wv_n (v : Int) (h : v = -2) : wv v = 0 := by unfold wv; rw [if_pos h]
theorem wv_y (v : Int) (h : 1 ≤ v) : wv v = v := by unfold wv; rw [if_neg (by omega)]
/-- a node's width, the class's -/
theorem c23 (h : CKX T sc sm n' t S P A N K C w) (g : GOOD T sc sm S A N w) (n6 : ¬ BD6 T sm S A N) (n7 : ¬ BD7 T sm S A N) (y : ∀ b, b ≠ 30 → b ≠ 48 → s b = sc b) (hc : CC T s) (h54 : sc 54 6 = (S : Int)) (hS8 : S ≤ 1171) (hn : n < N) (e120 : sm 120 n = (c : Int)) (e121 : sm 121 n = (q : Int)) (s48 : s 48 n = sc 48 n) (hK8 : K ≤ 8192) (hb : ∀ j, j < c → 1 ≤ s 48 (kd sm q j) ∧ s 48 (kd sm q j) ≤ 32) :
    ∃ i : Nat, (1 ≤ sm 116 n ∧ sm 116 n ≤ 3 → ∃ x : Nat, sm 118 n = (x : Int) ∧ x < T.z ∧ T.tk x = 1 ∧ (sc 48 n = 0 → SO1 T sm S (T.vl x) i ∧ FIT sm (sm 116 n) i (sm 120 n)) ∧ (sm 116 n ≠ 1 → sc 48 n = 0)) ∧ f_23 (n : Int) s = some (wv (WSP T sc sm n i c (fun j => s 48 (kd sm q j)))) ∧ (WSP T sc sm n i c (fun j => s 48 (kd sm q j)) = -2 ∨ 1 ≤ WSP T sc sm n i c (fun j => s 48 (kd sm q j)) ∧ WSP T sc sm n i c (fun j => s 48 (kd sm q j)) ≤ 32) := by
  obtain ⟨c', q', a1, a2, a3, kk, a5, a6, a7, nv, a9, a10⟩ := h.nkd hn
  have ec : c' = c := by omega
  have eq' : q' = q := by omega
  subst ec
  subst eq'
  obtain ⟨hT, hX, hC, hD, hN, h19, h31, h34, h30, wz, tw, S8, P8, A8, N8⟩ := id h
  have z8 := hT.1
  obtain ⟨ar1, ar2, ar3, ar4, ar5⟩ := a7
  obtain ⟨v1, v2, v3, v4, v5⟩ := nv
  obtain ⟨q1, q2, q3, q4, q5, q6, q7, q8, q9, q10, q11, q12, q13, q14, -⟩ := nd117 (s := s) kk.2.2.1 kk.1 kk.2.1 (by rw [y 46 (by decide) (by decide)])
  have f116 : f_116 (n : Int) s = sm 116 n := by rw [q4, y 47 (by decide) (by decide), a5]
  have f117 : f_117 (n : Int) s = sc 48 n := by rw [q2, s48]
  have f120 := (kk.cnt y).2.2.2
  have g117 : g_117 (f_120 (n : Int) s) s := by
    rw [f120]
    unfold cp
    by_cases d : 0 < c'
    · have := (kk.next y d).1
      unfold cp at this
      rw [if_pos d] at this ⊢
      exact this
    · rw [if_neg d]; exact nd117n.1
  have w0 : 0 < c' → f_117 (f_120 (n : Int) s) s = s 48 (kd sm q' 0) := fun d => by rw [f120]; exact (kk.next y d).2.1
  have gn := g.2.2.2 n hn
  have body : f_23 (n : Int) s = (if sm 116 n = 0 then some (sc 48 n) else if sm 116 n = 1 then (if sc 48 n = 0 then gd (g_122 (n : Int) s) (gd (g_26 (f_122 (n : Int) s) s) (gd (g_183 (f_26 (f_122 (n : Int) s) s) s) (some (f_183 (f_26 (f_122 (n : Int) s) s) s)))) else some (sc 48 n)) else if sm 116 n = 2 then gd (g_122 (n : Int) s) (gd (g_26 (f_122 (n : Int) s) s) ((f_28 (f_26 (f_122 (n : Int) s) s) s).bind fun q1 => (if ¬ (f_117 (f_120 (n : Int) s) s) = q1 then some 0 else gd (g_183 (f_26 (f_122 (n : Int) s) s) s) (some (f_183 (f_26 (f_122 (n : Int) s) s) s))))) else if sm 116 n = 3 then ((f_29 (n : Int) s).bind fun q2 => some q2) else if sm 116 n = 4 ∨ sm 116 n = 5 then (if sc 48 n < f_117 (f_120 (n : Int) s) s then some 0 else some (sc 48 n)) else if sm 116 n = 6 then ((f_30 (n : Int) s).bind fun q3 => some q3) else if sm 116 n = 7 then gd (g_115 (n : Int) s) (if f_117 (f_120 (n : Int) s) s ≤ ax_w32 ((ax_w32 ((f_115 (n : Int) s) + (sc 48 n))) - 1) then some 0 else some (sc 48 n)) else if sm 116 n = 8 ∨ sm 116 n = 9 ∨ sm 116 n = 13 ∨ sm 116 n = 14 then some (f_117 (f_120 (n : Int) s) s) else if sm 116 n = 21 then ((f_119 (n : Int) 1 s).bind fun q4 => gd (g_117 q4 s) (if ¬ (f_117 (f_120 (n : Int) s) s) = 1 then some 0 else ((f_119 (n : Int) 2 s).bind fun q5 => gd (g_117 q5 s) (if ¬ (f_117 q4 s) = f_117 q5 s then some 0 else some (f_117 q4 s))))) else ((f_31 (n : Int) s).bind fun q6 => some q6)) := by
    unfold f_23
    rw [gd_pos q1, gd_pos q7, gd_pos g117, gd_pos q3, f116, f117]
  by_cases k13 : 1 ≤ sm 116 n ∧ sm 116 n ≤ 3
  · obtain ⟨i, x, x1, x0, x2, x3, x4, x5⟩ := h.who g n6 n7 hn k13
    refine ⟨i, fun _ => ⟨x, x1, x2, x3, fun e => ⟨(x4 e).1, (x4 e).2.2⟩, x5⟩, ?_⟩
    obtain ⟨u1, u2⟩ := c26 hT hc x2 x3
    have f122 : f_122 (n : Int) s = (x : Int) := by rw [q12, y 50 (by decide) (by decide), x0]
    rw [body, f122, if_neg (by omega)]
    unfold WSP
    rw [if_neg (show ¬ sm 116 n = 0 by omega)]
    by_cases k1 : sm 116 n = 1
    · rw [if_pos k1, if_pos k1]
      by_cases z : sc 48 n = 0
      · obtain ⟨so, e36, ft⟩ := x4 z
        have hf : sm 94 i = 0 := by
          rcases ft with y | ⟨y, _⟩ | ⟨y, _⟩
          · exact y.2.1
          · omega
          · omega
        obtain ⟨c9, w1, w2, w3, w4, w5, w6⟩ := m97 h g (s := sm) ⟨fun _ _ _ => rfl, fun _ _ => rfl⟩ so.1 (by omega)
        obtain ⟨p1, p2, -⟩ := c183 (s := s) (by rw [y 54 (by decide) (by decide)]; exact h54) so.1 hS8
        rw [if_pos z, if_pos z, gd_pos q11, gd_pos u1, u2, y 36 (by decide) (by decide), e36, gd_pos p1, p2, y 57 (by decide) (by decide), w6, w1, Int.toNat_natCast, wv_y _ w4]
        exact ⟨rfl, Or.inr ⟨w4, w5⟩⟩
      · have ev := hD.2.2.2.2.1 (hD.2.2.2.2.2.2.1.mpr g) n hn k13.1 k13.2
        have bnd : 1 ≤ sc 48 n ∧ sc 48 n ≤ 32 := by
          obtain ⟨si, b1, b2, b3, b4, b5⟩ := h.nod hn
          have ow := ev.2 z
          rw [b1, Int.toNat_natCast] at ow
          rcases ow with ⟨_, e⟩ | ⟨_, p, p1, p2, p3, p4, p5⟩
          · omega
          · have gp := ((g.2.1 si b2).2.2.2.2 p p1 p2).1 p3
            rw [p5]
            unfold mn
            rw [if_neg (show ¬ 1073741824 < T.vl (sm 105 p).toNat by omega), if_neg (by omega)]
            exact gp
        rw [if_neg z, if_neg z, wv_y _ bnd.1]
        exact ⟨rfl, Or.inr bnd⟩
    · obtain ⟨so, e36, ft⟩ := x4 (x5 k1)
      rw [if_neg k1, if_neg k1]
      by_cases k2 : sm 116 n = 2
      · have hf : sm 94 i = 1 ∨ sm 94 i = 0 ∧ 0 ≤ sm 96 i := by
          rcases ft with ⟨y, _⟩ | y | ⟨y, _⟩
          · omega
          · exact y.2
          · omega
        have c1 : 0 < c' := by have := ar2 (Or.inl k2); omega
        obtain ⟨c9, w1, w2, w3, w4, w5, w6⟩ := m97 h g (s := sm) ⟨fun _ _ _ => rfl, fun _ _ => rfl⟩ so.1 (by omega)
        obtain ⟨p1, p2, -⟩ := c183 (s := s) (by rw [y 54 (by decide) (by decide)]; exact h54) so.1 hS8
        rw [if_pos k2, if_pos k2, gd_pos q11, gd_pos u1, u2, y 36 (by decide) (by decide), e36, c28 h g y h54 hS8 so.1 hf, Option.bind_some, w0 c1]
        by_cases d : s 48 (kd sm q' 0) = iw T sm i
        · rw [if_neg (fun e => e d), if_pos d, gd_pos p1, p2, y 57 (by decide) (by decide), w6, w1, Int.toNat_natCast, wv_y _ w4]
          exact ⟨rfl, Or.inr ⟨w4, w5⟩⟩
        · rw [if_pos d, if_neg d, wv_n _ rfl]
          exact ⟨rfl, Or.inl rfl⟩
      · have k3 : sm 116 n = 3 := by omega
        have hf : sm 94 i = 2 ∧ sm 99 i = sm 120 n := by
          rcases ft with ⟨y, _⟩ | ⟨y, _⟩ | y
          · omega
          · omega
          · exact y.2
        have i8 := so.1
        obtain ⟨c9, w1, w2, w3, w4, w5, w6⟩ := m97 h g (s := sm) ⟨fun _ _ _ => rfl, fun _ _ => rfl⟩ so.1 (by omega)
        obtain ⟨hd, p0, pc, n0, b1, b2, b3, b4, b5, b6, b7, b8, -⟩ := hD.1 i so.1
        rw [if_neg k2, if_neg k2, if_pos k3, if_pos k3, c29 h g y hc h54 hS8 kk (by omega) so.1 hf.1 (by rw [hf.2, a1]) x2 x3 x0 e36, Option.bind_some]
        by_cases d : ∀ j, j < c' → s 48 (kd sm q' j) = T.vl (sm 105 ((sm 98 i).toNat + j)).toNat
        · rw [cite_y d, cite_y d, w1, Int.toNat_natCast, wv_y _ w4]
          exact ⟨rfl, Or.inr ⟨w4, w5⟩⟩
        · rw [cite_n d, cite_n d, wv_n _ rfl]
          exact ⟨rfl, Or.inl rfl⟩
  · refine ⟨0, fun e => absurd e k13, ?_⟩
    rw [body]
    unfold WSP
    by_cases k0 : sm 116 n = 0
    · obtain ⟨xa, xb, g1, g2, g3, g4, g5, g6, g7, g8⟩ := v1 k0
      have gv := gn.1 k0
      rw [g2, Int.toNat_natCast] at gv
      rw [if_pos k0, if_pos k0, g8, g2, Int.toNat_natCast, wv_y _ gv.1]
      unfold mn
      rw [if_neg (show ¬ 1073741824 < T.vl xb by omega)]
      exact ⟨rfl, Or.inr ⟨gv.1, gv.2.1⟩⟩
    rw [if_neg k0, if_neg k0, if_neg (show ¬ sm 116 n = 1 by omega), if_neg (show ¬ sm 116 n = 1 by omega), if_neg (show ¬ sm 116 n = 2 by omega), if_neg (show ¬ sm 116 n = 2 by omega), if_neg (show ¬ sm 116 n = 3 by omega), if_neg (show ¬ sm 116 n = 3 by omega)]
    by_cases k4 : sm 116 n = 4 ∨ sm 116 n = 5
    · obtain ⟨xb, g2, g4, g6, g7, g8⟩ := v2 k4
      have gv := gn.2.1 k4
      rw [g2, Int.toNat_natCast] at gv
      have c1 : 0 < c' := by have := ar2 (by omega); omega
      have em : mn (T.vl xb) = T.vl xb := by unfold mn; rw [if_neg (by omega)]
      rw [if_pos k4, if_pos k4, g8, em, w0 c1, g2, Int.toNat_natCast]
      by_cases d : s 48 (kd sm q' 0) ≤ T.vl xb
      · rw [if_neg (by omega), if_pos d, wv_y _ gv.1]
        exact ⟨rfl, Or.inr gv⟩
      · rw [if_pos (by omega), if_neg d, wv_n _ rfl]
        exact ⟨rfl, Or.inl rfl⟩
    rw [if_neg k4, if_neg k4]
    by_cases k6 : sm 116 n = 6
    · have c2 := ar5 k6
      have hc8 : c' ≤ 8192 := by omega
      have ob := osum_b (ω := fun j => s 48 (kd sm q' j)) c' hb
      rw [if_pos k6, if_pos k6, c30 kk hc8 y hb, Option.bind_some]
      by_cases d : osum (fun j => s 48 (kd sm q' j)) c' ≤ 32
      · rw [if_pos d, if_pos d, wv_y _ (by omega)]
        exact ⟨rfl, Or.inr ⟨by omega, d⟩⟩
      · rw [if_neg d, if_neg d, wv_n _ rfl]
        exact ⟨rfl, Or.inl rfl⟩
    rw [if_neg k6, if_neg k6]
    by_cases k7 : sm 116 n = 7
    · obtain ⟨xa, xb, g1, g2, g3, g4, g5, g6, g7, g8⟩ := v3 k7
      have gv := gn.2.2.1 k7
      rw [g1, g2, Int.toNat_natCast, Int.toNat_natCast] at gv
      have va := hT.2.2.2.2.1 xa g3
      have vb := hT.2.2.2.2.1 xb g4
      have c1 : 0 < c' := by have := ar2 (by omega); omega
      have ea : mn (T.vl xa) = T.vl xa := by unfold mn; rw [if_neg (by omega)]
      have eb : mn (T.vl xb) = T.vl xb := by unfold mn; rw [if_neg (by omega)]
      have e48 : sc 48 n = T.vl xa - T.vl xb + 1 := by rw [g8, ea, eb, w32_id (z := T.vl xa - T.vl xb) (by omega) (by omega), w32_id (by omega) (by omega)]
      have e49 : f_115 (n : Int) s = T.vl xb := by rw [q14, y 49 (by decide) (by decide), g7, eb]
      rw [if_pos k7, if_pos k7, gd_pos q13, e49, e48, w0 c1, g1, g2, Int.toNat_natCast, Int.toNat_natCast, w32_id (z := T.vl xb + (T.vl xa - T.vl xb + 1)) (by omega) (by omega), w32_id (by omega) (by omega)]
      by_cases d : T.vl xa < s 48 (kd sm q' 0)
      · rw [if_neg (by omega), if_pos d, wv_y _ (by omega)]
        exact ⟨rfl, Or.inr ⟨by omega, by omega⟩⟩
      · rw [if_pos (by omega), if_neg d, wv_n _ rfl]
        exact ⟨rfl, Or.inl rfl⟩
    rw [if_neg k7, if_neg k7]
    by_cases k8 : sm 116 n = 8 ∨ sm 116 n = 9 ∨ sm 116 n = 13 ∨ sm 116 n = 14
    · have c1 : 0 < c' := by
        by_cases e : sm 116 n = 8 ∨ sm 116 n = 9
        · have := ar2 (by omega); omega
        · have := ar3 (by omega); omega
      have b0 := hb 0 c1
      rw [if_pos k8, if_pos k8, w0 c1, wv_y _ b0.1]
      exact ⟨rfl, Or.inr b0⟩
    rw [if_neg k8, if_neg k8]
    by_cases k21 : sm 116 n = 21
    · have c3 := ar4 k21
      have b0 := hb 0 (by omega)
      have b1 := hb 1 (by omega)
      have e1 : f_119 (n : Int) 1 s = some ((kd sm q' 1 : Nat) : Int) := c119 kk y (j := 1) (by omega) (by omega)
      have e2 : f_119 (n : Int) 2 s = some ((kd sm q' 2 : Nat) : Int) := c119 kk y (j := 2) (by omega) (by omega)
      have l1 := (kk.at (j := 1) (by omega)).2.1
      have l2 := (kk.at (j := 2) (by omega)).2.1
      obtain ⟨o1, o2, -⟩ := nd117 (s := s) kk.2.2.1 (n := kd sm q' 1) (by omega) kk.2.1 (by rw [y 46 (by decide) (by decide)])
      obtain ⟨o3, o4, -⟩ := nd117 (s := s) kk.2.2.1 (n := kd sm q' 2) (by omega) kk.2.1 (by rw [y 46 (by decide) (by decide)])
      rw [if_pos k21, if_pos k21, e1, Option.bind_some, gd_pos o1, o2, w0 (by omega), e2, Option.bind_some, gd_pos o3, o4]
      by_cases d : s 48 (kd sm q' 0) = 1
      · rw [if_neg (fun e => e d)]
        by_cases e : s 48 (kd sm q' 1) = s 48 (kd sm q' 2)
        · rw [if_neg (fun z => z e), if_pos ⟨d, e⟩, wv_y _ b1.1]
          exact ⟨rfl, Or.inr b1⟩
        · rw [if_pos e, if_neg (fun z => e z.2), wv_n _ rfl]
          exact ⟨rfl, Or.inl rfl⟩
      · rw [if_pos d, if_neg (fun z => d z.1), wv_n _ rfl]
        exact ⟨rfl, Or.inl rfl⟩
    rw [if_neg k21, if_neg k21]
    have c2 := ar3 (by omega)
    have b0 := hb 0 (by omega)
    have e1 : f_119 (n : Int) 1 s = some ((kd sm q' 1 : Nat) : Int) := c119 kk y (j := 1) (by omega) (by omega)
    have l1 := (kk.at (j := 1) (by omega)).2.1
    obtain ⟨o1, o2, -⟩ := nd117 (s := s) kk.2.2.1 (n := kd sm q' 1) (by omega) kk.2.1 (by rw [y 46 (by decide) (by decide)])
    have e31 : f_31 (n : Int) s = some (if s 48 (kd sm q' 0) = s 48 (kd sm q' 1) then (if sm 116 n < 18 then s 48 (kd sm q' 0) else 1) else 0) := by
      unfold f_31
      rw [gd_pos q7, gd_pos g117, e1, Option.bind_some, gd_pos o1, o2, w0 (by omega), gd_pos q3, f116]
      by_cases d : s 48 (kd sm q' 0) = s 48 (kd sm q' 1)
      · rw [if_pos d, if_pos d]
        by_cases e : sm 116 n < 18
        · rw [if_pos e, if_pos e]
        · rw [if_neg e, if_neg e]
      · rw [if_neg d, if_neg d]
    rw [e31, Option.bind_some]
    by_cases d : s 48 (kd sm q' 0) = s 48 (kd sm q' 1)
    · rw [if_pos d, if_pos d]
      by_cases e : sm 116 n < 18
      · rw [if_pos e, wv_y _ b0.1]
        exact ⟨rfl, Or.inr b0⟩
      · rw [if_neg e, wv_y _ (by decide)]
        exact ⟨rfl, Or.inr ⟨by decide, by decide⟩⟩
    · rw [if_neg d, if_neg d, wv_n _ rfl]
      exact ⟨rfl, Or.inl rfl⟩
end WND
/-! WIDTHS: a node's, the reference's. -/
section WMN
variable {T : TT} {sc sm s s' : Sg} {n' S P A N K C w i n c q x : Nat} {t : Nat → Int} {r v : Int}
theorem m246 (h : CKX T sc sm n' t S P A N K C w) (ha : AGw sm s) (kk : NKD sc sm N n c q) (e121 : sm 121 n = (q : Int)) (hK : q + c ≤ K) (hK8 : K ≤ 8192) {j : Nat} (hj : j < c) : g_246 (n : Int) (j : Int) s ∧ f_246 (n : Int) (j : Int) s = s 122 (kd sm q j) := by
  obtain ⟨a1, a2, -⟩ := kk.at hj
  have n8 := kk.2.1
  have nn := kk.1
  unfold g_246 f_246
  rw [Int.toNat_natCast, ha.1 121 (by decide) (by decide), ha.1 125 (by decide) (by decide), e121, w32_add (by omega), Int.toNat_natCast, a1, Int.toNat_natCast]
  exact ⟨⟨by omega, by omega, by omega, trivial⟩, rfl⟩
theorem mwk (h : CKX T sc sm n' t S P A N K C w) (g : GOOD T sc sm S A N w) (ha : AGw sm s) (hn : n < N) (e120 : sm 120 n = (c : Int)) (e121 : sm 121 n = (q : Int)) (hK8 : K ≤ 8192) (hb : ∀ j, j < c → 1 ≤ s 122 (kd sm q j) ∧ s 122 (kd sm q j) ≤ 32)
    (wh : 1 ≤ sm 116 n ∧ sm 116 n ≤ 3 → ∃ x : Nat, sm 118 n = (x : Int) ∧ x < T.z ∧ T.tk x = 1 ∧ (sc 48 n = 0 → SO1 T sm S (T.vl x) i ∧ FIT sm (sm 116 n) i (sm 120 n)) ∧ (sm 116 n ≠ 1 → sc 48 n = 0)) : f_247 (n : Int) s = some (WSP T sc sm n i c (fun j => s 122 (kd sm q j))) := by
  obtain ⟨c', q', a1, a2, a3, kk, a5, a6, a7, nv, a9, a10⟩ := h.nkd hn
  have ec : c' = c := by omega
  have eq' : q' = q := by omega
  subst ec
  subst eq'
  obtain ⟨hT, hX, hC, hD, hN, h19, h31, h34, h30, wz, tw, S8, P8, A8, N8⟩ := id h
  have z8 := hT.1
  obtain ⟨ar1, ar2, ar3, ar4, ar5⟩ := a7
  obtain ⟨v1, v2, v3, v4, v5⟩ := nv
  have gn := g.2.2.2 n hn
  have kw := fun j (hj : j < c') => m246 h ha kk a2 a3 hK8 hj
  have r : ∀ b, b ≠ 84 → b ≠ 122 → s b = sm b := ha.1
  have w0 : f_247 (n : Int) s = j_247_47 (n : Int) (sm 116 n) (if c' = 0 then 0 else s 122 (kd sm q' 0)) (if c' ≤ 1 then 0 else s 122 (kd sm q' 1)) s := by
    unfold f_247 j_247_26
    rw [gd_pos (by omega), gd_pos (by omega), Int.toNat_natCast, r 120 (by decide) (by decide), r 116 (by decide) (by decide), a1]
    by_cases c0 : c' = 0
    · rw [if_pos (by omega), gd_pos (by omega), if_pos (by omega), if_pos c0, if_pos (by omega)]
    · obtain ⟨k1, k2⟩ := kw 0 (by omega)
      rw [if_neg (by omega), gd_pos (show g_246 (n : Int) 0 s from k1), show f_246 (n : Int) 0 s = s 122 (kd sm q' 0) from k2, if_neg c0, gd_pos (by omega)]
      by_cases c1 : c' ≤ 1
      · rw [if_pos (by omega), if_pos c1]
      · obtain ⟨k3, k4⟩ := kw 1 (by omega)
        rw [if_neg (by omega), if_neg c1, gd_pos (show g_246 (n : Int) 1 s from k3), show f_246 (n : Int) 1 s = s 122 (kd sm q' 1) from k4]
  rw [w0]
  have vw : ∀ x : Nat, x < T.z → T.tk x = 2 → f_218 (x : Int) s = some (T.vl x) := fun x y z => m218 hT (ha.tx hX) y z
  unfold j_247_47 WSP
  by_cases k0 : sm 116 n = 0
  · obtain ⟨xa, xb, g1, g2, g3, g4, g5, g6, -⟩ := v1 k0
    have gv := gn.1 k0
    rw [g2, Int.toNat_natCast] at gv
    rw [if_neg (fun e => e k0), if_pos k0, gd_pos (by omega), Int.toNat_natCast, r 119 (by decide) (by decide), g2, vw xb g4 g6, Option.bind_some, Int.toNat_natCast, w32_id (by omega) (by omega)]
  rw [if_pos k0, if_neg k0]
  by_cases k1 : sm 116 n = 1
  · obtain ⟨x, x1, x2, x3, x4, x5⟩ := wh (by omega)
    obtain ⟨si, b1, b2, b3, b4, b5⟩ := h.nod hn
    have ev := hD.2.2.2.2.1 (hD.2.2.2.2.2.2.1.mpr g) n hn (by omega) (by omega)
    rw [b1, x1, Int.toNat_natCast, Int.toNat_natCast] at ev
    obtain ⟨u, u1, u2, u3, u4, u5⟩ := m255 (i := i) h g ha x2 x3 b2 b3 b4 ev.1 ev.2 (fun z => ⟨(x4 z).1, by
      rcases (x4 z).2 with y | ⟨y, _⟩ | ⟨y, _⟩
      · omega
      · omega
      · omega⟩)
    rw [if_neg (fun e => e k1), if_pos k1, gd_pos (by omega), gd_pos (by omega), gd_pos (by omega), Int.toNat_natCast, r 123 (by decide) (by decide), r 124 (by decide) (by decide), r 118 (by decide) (by decide), b1, x1, u1, Option.bind_some]
    by_cases z : sc 48 n = 0
    · rw [if_pos z, u5 z]
    · rw [if_neg z, u4 z]
  rw [if_pos k1, if_neg k1]
  by_cases k2 : sm 116 n = 2
  · obtain ⟨x, x1, x2, x3, x4, x5⟩ := wh (by omega)
    obtain ⟨so, ft⟩ := x4 (x5 k1)
    have hf : sm 94 i = 1 ∨ sm 94 i = 0 ∧ 0 ≤ sm 96 i := by
      rcases ft with ⟨y, _⟩ | y | ⟨y, _⟩
      · omega
      · exact y.2
      · omega
    have c1 := ar2 (Or.inl k2)
    have i8 := so.1
    obtain ⟨c9, w1, w2, w3, w4, w5, w6⟩ := m97 h g ha so.1 (by omega)
    obtain ⟨p1, -⟩ := m256 h g ha so.1 hf
    rw [if_neg (fun e => e k2), if_pos k2, gd_pos (by omega), Int.toNat_natCast, r 118 (by decide) (by decide), x1, m238w h ha x2 x3 so, Option.bind_some, p1, Option.bind_some, if_neg (show ¬ c' = 0 by omega)]
    by_cases d : s 122 (kd sm q' 0) = iw T sm i
    · rw [if_neg (fun e => e d), if_pos d, gd_pos (by omega), Int.toNat_natCast, r 97 (by decide) (by decide), w1, w2, Option.bind_some, w3, Int.toNat_natCast]
    · rw [if_pos d, if_neg d]
  rw [if_pos k2, if_neg k2]
  by_cases k3 : sm 116 n = 3
  · obtain ⟨x, x1, x2, x3, x4, x5⟩ := wh (by omega)
    obtain ⟨so, ft⟩ := x4 (x5 k1)
    have hf : sm 94 i = 2 ∧ sm 99 i = sm 120 n := by
      rcases ft with ⟨y, _⟩ | ⟨y, _⟩ | y
      · omega
      · omega
      · exact y.2
    have i8 := so.1
    obtain ⟨c9, w1, w2, w3, w4, w5, w6⟩ := m97 h g ha so.1 (by omega)
    obtain ⟨hd, p0, pc, n0, b1, b2, b3, b4, b5, b6, b7, b8, -⟩ := hD.1 i so.1
    have hpc : pc = c' := by omega
    have lp : ∀ (r l F : Nat), l + r = c' → j_247_158 (F + r + 1) (n : Int) (i : Int) (l : Int) s = some (cite (∀ j, l ≤ j → j < c' → s 122 (kd sm q' j) = T.vl (sm 105 (p0 + j)).toNat) (T.vl c9) (-2)) := by
      intro r'
      induction r' with
      | zero =>
        intro l F hl
        rw [j_247_158, gd_pos (by omega), Int.toNat_natCast, r 120 (by decide) (by decide), a1, if_pos (by omega)]
        unfold j_247_208
        rw [gd_pos (by omega), Int.toNat_natCast, r 97 (by decide) (by decide), w1, w2, Option.bind_some, w3, cite_y (fun j x z => absurd z (by omega))]
      | succ r' ih =>
        intro l F hl
        obtain ⟨m1, m2⟩ := kw l (by omega)
        obtain ⟨y, y1, y2, y3, y4⟩ := hD.prt (p := p0 + l) (by omega)
        have gp := (g.2.1 i so.1).2.2.2.2 (p0 + l) (by rw [b6, Int.toNat_natCast]; omega) (by rw [b6, b7, Int.toNat_natCast, Int.toNat_natCast]; omega)
        have pos : 0 ≤ sm 104 (p0 + l) := by
          obtain ⟨hd', p0', pc', n0', c1, c2, c3, c4, c5, c6, c7, c8, c9', c10, c11⟩ := hD.1 i so.1
          rcases c11 with ⟨u, -⟩ | ⟨u, -⟩ | ⟨_, _, _, u⟩ | ⟨u, -⟩
          · omega
          · omega
          · obtain ⟨st, e, m0, mm1, d1, d2, d3, d4, d5, d6, d7, d8, d9, d10, d11, d12, d13⟩ := u
            have e0 : p0' = p0 := by omega
            obtain ⟨z1, _⟩ := d13 l (by omega)
            rw [e0] at z1
            omega
          · omega
        have gv := gp.1 pos
        rw [y1, Int.toNat_natCast] at gv
        rw [show F + (r' + 1) + 1 = (F + r' + 1) + 1 by omega, j_247_158, gd_pos (by omega), Int.toNat_natCast, Int.toNat_natCast, r 120 (by decide) (by decide), a1, if_neg (by omega), gd_pos m1, m2, gd_pos (by omega), r 98 (by decide) (by decide), b6, w32_add (by omega), gd_pos (by omega), Int.toNat_natCast, r 105 (by decide) (by decide), y1, vw y y2 y3, Option.bind_some, w32_id (z := T.vl y) (by omega) (by omega)]
        by_cases d : s 122 (kd sm q' l) = T.vl y
        · rw [if_pos d, w32_nat (by omega), ih (l + 1) F (by omega)]
          congr 1
          by_cases e : ∀ j, l + 1 ≤ j → j < c' → s 122 (kd sm q' j) = T.vl (sm 105 (p0 + j)).toNat
          · rw [cite_y e, cite_y (fun j x z => by
              by_cases u : j = l
              · rw [u, y1, Int.toNat_natCast]; exact d
              · exact e j (by omega) z)]
          · rw [cite_n e, cite_n (fun u => e (fun j x z => u j (by omega) z))]
        · rw [if_neg d, cite_n (fun u => d (by
            have := u l (Nat.le_refl _) (by omega)
            rw [y1, Int.toNat_natCast] at this
            exact this))]
    obtain ⟨F, hF⟩ := FU_split (k := c' + 1) (by omega)
    have e0 := lp c' 0 F (by omega)
    rw [show F + c' + 1 = FU by omega] at e0
    have e1 : j_247_158 FU (n : Int) (i : Int) 0 s = _ := e0
    rw [if_neg (fun e => e k3), if_pos k3, gd_pos (by omega), Int.toNat_natCast, r 118 (by decide) (by decide), x1, m238w h ha x2 x3 so, Option.bind_some, e1, b6, w1, Int.toNat_natCast, Int.toNat_natCast]
    congr 1
    by_cases e : ∀ j, j < c' → s 122 (kd sm q' j) = T.vl (sm 105 (p0 + j)).toNat
    · rw [cite_y e, cite_y (fun j _ z => e j z)]
    · rw [cite_n e, cite_n (fun u => e (fun j z => u j (Nat.zero_le _) z))]
  rw [if_pos k3, if_neg k3]
  have e231 : sm 116 n = 4 ∨ sm 116 n = 5 → j_247_231 (n : Int) (if c' = 0 then 0 else s 122 (kd sm q' 0)) s = some (if s 122 (kd sm q' 0) ≤ T.vl (sm 119 n).toNat then T.vl (sm 119 n).toNat else -2) := fun k4 => by
    obtain ⟨xb, g2, g4, g6, -⟩ := v2 k4
    have gv := gn.2.1 k4
    rw [g2, Int.toNat_natCast] at gv
    have c1 := ar2 (by omega)
    unfold j_247_231
    rw [gd_pos (by omega), Int.toNat_natCast, r 119 (by decide) (by decide), g2, vw xb g4 g6, Option.bind_some, if_neg (show ¬ c' = 0 by omega), gd_pos (by omega), Int.toNat_natCast]
    by_cases d : s 122 (kd sm q' 0) ≤ T.vl xb
    · rw [if_neg (fun e => by have := cmp_lt.mp e; omega), if_pos d, Option.bind_some, w32_id (by omega) (by omega)]
    · rw [if_pos (cmp_lt.mpr (by omega)), if_neg d]
  by_cases k4 : sm 116 n = 4
  · rw [if_pos k4, if_pos (Or.inl k4), e231 (Or.inl k4)]
  rw [if_neg k4]
  by_cases k5 : sm 116 n = 5
  · rw [if_neg (fun e => e k5), if_pos (Or.inr k5), e231 (Or.inr k5)]
  rw [if_pos k5, if_neg (show ¬ (sm 116 n = 4 ∨ sm 116 n = 5) by omega)]
  by_cases k6 : sm 116 n = 6
  · have c2 := ar5 k6
    have lp : ∀ (r l F : Nat), l + r = c' → j_247_276 (F + r + 1) (n : Int) (osum (fun j => s 122 (kd sm q' j)) l) (l : Int) s = j_247_305 (osum (fun j => s 122 (kd sm q' j)) c') s := by
      intro r'
      induction r' with
      | zero =>
        intro l F hl
        rw [j_247_276, gd_pos (by omega), Int.toNat_natCast, r 120 (by decide) (by decide), a1, if_pos (by omega), show l = c' by omega]
      | succ r' ih =>
        intro l F hl
        obtain ⟨m1, m2⟩ := kw l (by omega)
        have ob := osum_b (ω := fun j => s 122 (kd sm q' j)) l (fun j hj => hb j (by omega))
        have hl2 := hb l (by omega)
        rw [show F + (r' + 1) + 1 = (F + r' + 1) + 1 by omega, j_247_276, gd_pos (by omega), Int.toNat_natCast, r 120 (by decide) (by decide), a1, if_neg (by omega), gd_pos m1, m2, w32_nat (by omega), w32_id (by omega) (by omega)]
        exact ih (l + 1) F (by omega)
    obtain ⟨F, hF⟩ := FU_split (k := c' + 1) (by omega)
    have e0 := lp c' 0 F (by omega)
    rw [show F + c' + 1 = FU by omega] at e0
    have e1 : j_247_276 FU (n : Int) 0 0 s = _ := e0
    rw [if_neg (fun e => e k6), if_pos k6, e1]
    unfold j_247_305
    by_cases d : osum (fun j => s 122 (kd sm q' j)) c' ≤ 32
    · rw [if_neg (by omega), if_pos d]
    · rw [if_pos (by omega), if_neg d]
  rw [if_pos k6, if_neg k6]
  by_cases k7 : sm 116 n = 7
  · obtain ⟨xa, xb, g1, g2, g3, g4, g5, g6, -⟩ := v3 k7
    have gv := gn.2.2.1 k7
    rw [g1, g2, Int.toNat_natCast, Int.toNat_natCast] at gv
    have va := hT.2.2.2.2.1 xa g3
    have vb := hT.2.2.2.2.1 xb g4
    have c1 := ar2 (by omega)
    rw [if_neg (fun e => e k7), if_pos k7, gd_pos (by omega), Int.toNat_natCast, r 118 (by decide) (by decide), r 119 (by decide) (by decide), g1, g2, vw xa g3 g5, Option.bind_some, if_neg (show ¬ c' = 0 by omega), Int.toNat_natCast, Int.toNat_natCast]
    by_cases d : T.vl xa < s 122 (kd sm q' 0)
    · rw [if_neg (fun e => by have := cmp_lt.mpr d; omega), if_pos d, gd_pos (by omega), Option.bind_some, gd_pos (by omega), vw xb g4 g6, Option.bind_some, w64_id (by omega) (by omega), w32_id (z := T.vl xa - T.vl xb) (by omega) (by omega), w32_id (by omega) (by omega)]
    · rw [if_pos (by
        apply Decidable.byContradiction
        intro hn
        exact d (cmp_lt.mp (by omega))), if_neg d]
  rw [if_pos k7, if_neg k7]
  by_cases k21 : sm 116 n = 21
  · have c3 := ar4 k21
    obtain ⟨k8, k9⟩ := kw 2 (by omega)
    rw [if_neg (fun e => e k21), if_neg (show ¬ (sm 116 n = 8 ∨ sm 116 n = 9 ∨ sm 116 n = 13 ∨ sm 116 n = 14) by omega), if_pos k21, if_neg (show ¬ c' = 0 by omega), if_neg (show ¬ c' ≤ 1 by omega), gd_pos (show g_246 (n : Int) 2 s from k8), show f_246 (n : Int) 2 s = s 122 (kd sm q' 2) from k9]
    by_cases d : s 122 (kd sm q' 0) = 1
    · rw [if_neg (fun e => e d)]
      by_cases e : s 122 (kd sm q' 1) = s 122 (kd sm q' 2)
      · rw [if_neg (fun z => z e), if_pos ⟨d, e⟩]
      · rw [if_pos e, if_neg (fun z => e z.2)]
    · rw [if_pos d, if_neg (fun z => d z.1)]
  rw [if_pos k21]
  by_cases k8 : sm 116 n = 8 ∨ sm 116 n = 9 ∨ sm 116 n = 13 ∨ sm 116 n = 14
  · have c1 : c' ≠ 0 := by
      by_cases e : sm 116 n = 8 ∨ sm 116 n = 9
      · have := ar2 (by omega); omega
      · have := ar3 (by omega); omega
    rw [if_pos k8, if_neg c1]
    by_cases e8 : sm 116 n = 8
    · rw [if_pos e8]
    · by_cases e9 : sm 116 n = 9
      · rw [if_neg e8, if_pos e9]
      · by_cases e13 : sm 116 n = 13
        · rw [if_neg e8, if_neg e9, if_pos e13]
        · rw [if_neg e8, if_neg e9, if_neg e13, if_neg (fun e => e (by omega))]
  have c2 := ar3 (by omega)
  rw [if_neg k8, if_neg k21, if_neg (show ¬ sm 116 n = 8 by omega), if_neg (show ¬ sm 116 n = 9 by omega), if_neg (show ¬ sm 116 n = 13 by omega), if_pos (show ¬ sm 116 n = 14 by omega), if_neg (show ¬ c' = 0 by omega), if_neg (show ¬ c' ≤ 1 by omega)]
  by_cases d : s 122 (kd sm q' 0) = s 122 (kd sm q' 1)
  · rw [if_pos d, if_pos d]
    by_cases e : sm 116 n < 18
    · rw [if_pos e, if_pos e]
    · rw [if_neg e, if_neg e]
  · rw [if_neg d, if_neg d]
end WMN
/-! WIDTHS: all nodes, on both sides. -/
def WIN (sc sm : Sg) (l : Nat) (x y : Sg) : Prop := (∀ b, b ≠ 30 → b ≠ 48 → x b = sc b) ∧ (∀ j, j ≠ 9 → x 30 j = sc 30 j) ∧ (∀ k, l ≤ k → x 48 k = sc 48 k) ∧ AGw sm y ∧ (∀ k, k < l → (y 122 k = -2 ∧ x 48 k = 0) ∨ (1 ≤ y 122 k ∧ y 122 k ≤ 32 ∧ x 48 k = y 122 k)) ∧ (x 30 9 ≠ -1 ↔ 0 ≤ y 84 8)
section WLP
variable {T : TT} {sc sm x y : Sg} {n' S P A N K C w l c q : Nat} {t : Nat → Int}
theorem WSP_c {ω ω' : Nat → Int} {n i : Nat} (ar : AR (sm 116 n) c) (h0 : 0 ≤ sm 116 n ∧ sm 116 n ≤ 21) (h : ∀ j, j < c → ω j = ω' j) : WSP T sc sm n i c ω = WSP T sc sm n i c ω' := by
  obtain ⟨ar1, ar2, ar3, ar4, ar5⟩ := ar
  unfold WSP
  by_cases k0 : sm 116 n = 0
  · rw [if_pos k0, if_pos k0]
  rw [if_neg k0, if_neg k0]
  by_cases k1 : sm 116 n = 1
  · rw [if_pos k1, if_pos k1]
  rw [if_neg k1, if_neg k1]
  by_cases k2 : sm 116 n = 2
  · rw [if_pos k2, if_pos k2, h 0 (by have := ar2 (by omega); omega)]
  rw [if_neg k2, if_neg k2]
  by_cases k3 : sm 116 n = 3
  · rw [if_pos k3, if_pos k3]
    by_cases d : ∀ j, j < c → ω j = T.vl (sm 105 ((sm 98 i).toNat + j)).toNat
    · rw [cite_y d, cite_y (fun j hj => by rw [← h j hj]; exact d j hj)]
    · rw [cite_n d, cite_n (fun u => d (fun j hj => by rw [h j hj]; exact u j hj))]
  rw [if_neg k3, if_neg k3]
  by_cases k4 : sm 116 n = 4 ∨ sm 116 n = 5
  · rw [if_pos k4, if_pos k4, h 0 (by have := ar2 (by omega); omega)]
  rw [if_neg k4, if_neg k4]
  by_cases k6 : sm 116 n = 6
  · rw [if_pos k6, if_pos k6, osum_c c h]
  rw [if_neg k6, if_neg k6]
  by_cases k7 : sm 116 n = 7
  · rw [if_pos k7, if_pos k7, h 0 (by have := ar2 (by omega); omega)]
  rw [if_neg k7, if_neg k7]
  by_cases k8 : sm 116 n = 8 ∨ sm 116 n = 9 ∨ sm 116 n = 13 ∨ sm 116 n = 14
  · rw [if_pos k8, if_pos k8, h 0 (by
      by_cases e : sm 116 n = 8 ∨ sm 116 n = 9
      · have := ar2 (by omega); omega
      · have := ar3 (by omega); omega)]
  rw [if_neg k8, if_neg k8]
  by_cases k21 : sm 116 n = 21
  · have c3 := ar4 k21
    rw [if_pos k21, if_pos k21, h 0 (by omega), h 1 (by omega), h 2 (by omega)]
  have c2 := ar3 (by omega)
  rw [if_neg k21, if_neg k21, h 0 (by omega), h 1 (by omega)]
theorem wnode (h : CKX T sc sm n' t S P A N K C w) (g : GOOD T sc sm S A N w) (n6 : ¬ BD6 T sm S A N) (n7 : ¬ BD7 T sm S A N) (h54 : sc 54 6 = (S : Int)) (hS8 : S ≤ 1171) (hK8 : K ≤ 8192) (hl : l < N) (wi : WIN sc sm l x y) (F G : Nat) :
    ∃ x' y' : Sg, j_19_2 (F + 1) (l : Int) x = j_19_2 F ((l + 1 : Nat) : Int) x' ∧ j_215_2 (G + 1) (l : Int) y = j_215_2 G ((l + 1 : Nat) : Int) y' ∧ WIN sc sm (l + 1) x' y' := by
  obtain ⟨c, q, a1, a2, a3, kk, a5, a6, a7, nv, a9, a10⟩ := h.nkd hl
  obtain ⟨i1, i2, i3, i4, i5, i6⟩ := wi
  obtain ⟨hT, hX, hC, hD, hN, h19, h31, h34, h30, wz, tw, S8, P8, A8, N8⟩ := id h
  have z8 := hT.1
  have hc : CC T x := hC.row (by rw [i1 39 (by decide) (by decide)]) (i1 41 (by decide) (by decide)) (i1 42 (by decide) (by decide)) (i1 44 (by decide) (by decide)) (by rw [i1 31 (by decide) (by decide)]) (i1 1 (by decide) (by decide))
  have kdl : ∀ j, j < c → kd sm q j < l := fun j hj => (kk.at hj).2.1
  have rel : ∀ j, j < c → (y 122 (kd sm q j) = -2 ∧ x 48 (kd sm q j) = 0) ∨ (1 ≤ y 122 (kd sm q j) ∧ y 122 (kd sm q j) ≤ 32 ∧ x 48 (kd sm q j) = y 122 (kd sm q j)) := fun j hj => i5 _ (kdl j hj)
  obtain ⟨q1, q2, q3, q4, q5, q6, q7, q8, q9, q10, q11, q12, q13, q14, q15⟩ := nd117 (s := x) kk.2.2.1 kk.1 kk.2.1 (by rw [i1 46 (by decide) (by decide)])
  have k74 : ∀ z : Sg, j_19_74 (j_19_2 F) (l : Int) z = j_19_2 F ((l + 1 : Nat) : Int) z := fun z => by
    unfold j_19_74
    rw [w32_nat (by omega)]
  have k99 : ∀ z : Sg, j_215_99 (j_215_2 G) (l : Int) z = j_215_2 G ((l + 1 : Nat) : Int) z := fun z => by
    unfold j_215_99
    rw [w32_nat (by omega)]
  -- the reference's question whether the parts are right
  have lp : ∀ (r m H : Nat) (p : Prop), m + r = c → j_215_14 (j_215_2 G) (H + r + 1) (l : Int) (p01 p) (m : Int) y = j_215_49 (j_215_2 G) (l : Int) (p01 (p ∧ ∀ j, m ≤ j → j < c → 0 < y 122 (kd sm q j))) y := by
    intro r
    induction r with
    | zero =>
      intro m H p hm
      rw [j_215_14, gd_pos (by omega), Int.toNat_natCast, i4.1 120 (by decide) (by decide), a1, if_pos (by omega)]
      congr 1
      exact p01_c ⟨fun u => ⟨u, fun j u v => absurd v (by omega)⟩, fun u => u.1⟩
    | succ r ih =>
      intro m H p hm
      rw [show H + (r + 1) + 1 = (H + r + 1) + 1 by omega, j_215_14, gd_pos (by omega), Int.toNat_natCast, i4.1 120 (by decide) (by decide), a1, if_neg (by omega)]
      unfold j_215_41 j_215_42
      rw [w32_nat (by omega)]
      by_cases d : p
      · obtain ⟨k1, k2⟩ := m246 h i4 kk a2 a3 hK8 (j := m) (by omega)
        rw [p01_y d, if_neg (by decide), gd_pos k1, k2]
        have e : ((if y 122 (kd sm q m) ≤ 0 then 0 else 1) : Int) = p01 (0 < y 122 (kd sm q m)) := by
          by_cases u : 0 < y 122 (kd sm q m)
          · rw [if_neg (by omega), p01_y u]
          · rw [if_pos (by omega), p01_n u]
        rw [e, ih (m + 1) H (0 < y 122 (kd sm q m)) (by omega)]
        congr 1
        exact p01_c ⟨fun u => ⟨d, fun j u1 u2 => by
          by_cases e : j = m
          · rw [e]; exact u.1
          · exact u.2 j (by omega) u2⟩, fun u => ⟨u.2 m (Nat.le_refl _) (by omega), fun j u1 u2 => u.2 j (by omega) u2⟩⟩
      · rw [p01_n d, if_pos rfl]
        have e := ih (m + 1) H False (by omega)
        rw [p01_n (fun u => u)] at e
        rw [e]
        congr 1
        exact p01_c ⟨fun u => u.1.elim, fun u => absurd u.1 d⟩
  have r215 : j_215_2 (G + 1) (l : Int) y = j_215_49 (j_215_2 G) (l : Int) (p01 (∀ j, j < c → 0 < y 122 (kd sm q j))) y := by
    rw [j_215_2, i4.2 47 (by decide), hN.2.1, if_neg (by omega)]
    obtain ⟨H, hH⟩ := FU_split (k := c + 1) (by omega)
    have e := lp c 0 H True (by omega)
    rw [show H + c + 1 = FU by omega, p01_y trivial] at e
    have e' : j_215_14 (j_215_2 G) FU (l : Int) 1 0 y = _ := e
    rw [e']
    congr 1
    exact p01_c ⟨fun u j hj => u.2 j (Nat.zero_le _) hj, fun u => ⟨trivial, fun j _ hj => u j hj⟩⟩
  have r19 : j_19_2 (F + 1) (l : Int) x = ((f_22 (l : Int) x).bind fun q3 => (if q3 = 0 then j_19_32 (j_19_2 F) (l : Int) q3 0 x else ((f_23 (l : Int) x).bind fun q6 => j_19_32 (j_19_2 F) (l : Int) q3 q6 x))) := by
    rw [j_19_2, i1 46 (by decide) (by decide), hN.1, if_neg (by omega)]
  rw [r19, r215, c22 kk (by omega) i1, Option.bind_some]
  have u48 : ∀ (v : Int), (∀ b, b ≠ 30 → b ≠ 48 → (ax_u2 x 48 l v) b = sc b) ∧ (∀ j, (ax_u2 x 48 l v) 30 j = x 30 j) ∧ (∀ k, l + 1 ≤ k → (ax_u2 x 48 l v) 48 k = sc 48 k) ∧ (∀ k, k < l → (ax_u2 x 48 l v) 48 k = x 48 k) ∧ (ax_u2 x 48 l v) 48 l = v := fun v => ⟨fun b u z => by rw [u2_row _ _ _ z]; exact i1 b u z, fun j => by rw [u2_row _ _ _ (by decide)], fun k hk => by rw [u2_col _ _ _ (by omega)]; exact i3 k (by omega), fun k hk => u2_col _ _ _ (by omega), u2_same _ _ _ _⟩
  have u122 : ∀ (v : Int), AGw sm (ax_u2 y 122 l v) ∧ (∀ k, k < l → (ax_u2 y 122 l v) 122 k = y 122 k) ∧ (ax_u2 y 122 l v) 122 l = v ∧ (ax_u2 y 122 l v) 84 8 = y 84 8 := fun v => ⟨⟨fun b u z => by rw [u2_row _ _ _ z]; exact i4.1 b u z, fun j u => by rw [u2_row _ _ _ (by decide)]; exact i4.2 j u⟩, fun k hk => u2_col _ _ _ (by omega), u2_same _ _ _ _, by rw [u2_row _ _ _ (by decide)]⟩
  have mkW : ∀ (v v' : Int), (v' = -2 ∧ v = 0) ∨ (1 ≤ v' ∧ v' ≤ 32 ∧ v = v') → WIN sc sm (l + 1) (ax_u2 x 48 l v) (ax_u2 y 122 l v') := fun v v' hv => by
    obtain ⟨p1, p2, p3, p4, p5⟩ := u48 v
    obtain ⟨p6, p7, p8, p9⟩ := u122 v'
    refine ⟨p1, fun j hj => by rw [p2 j]; exact i2 j hj, p3, p6, fun k hk => ?_, by rw [p2 9, p9]; exact i6⟩
    by_cases e : k = l
    · rw [e, p8, p5]; exact hv
    · rw [p7 k (by omega), p4 k (by omega)]; exact i5 k (by omega)
  have e32 : ∀ (f v : Int), j_19_32 (j_19_2 F) (l : Int) f v x = (if f = 0 then j_19_2 F ((l + 1 : Nat) : Int) (ax_u2 x 48 l v) else if ¬ v = 0 then j_19_2 F ((l + 1 : Nat) : Int) (ax_u2 x 48 l v) else gd (g_122 (l : Int) (ax_u2 x 48 l v)) (gd (g_80 (f_122 (l : Int) (ax_u2 x 48 l v)) (ax_u2 x 48 l v)) (gd (g_71 9 (f_80 (f_122 (l : Int) (ax_u2 x 48 l v)) (ax_u2 x 48 l v)) (ax_u2 x 48 l v)) (j_19_2 F ((l + 1 : Nat) : Int) (f_71 9 (f_80 (f_122 (l : Int) (ax_u2 x 48 l v)) (ax_u2 x 48 l v)) (ax_u2 x 48 l v)))))) := fun f v => by
    unfold j_19_32
    rw [gd_pos (q15 v).1, (q15 v).2, Option.bind_some, k74, Option.bind_some, k74]
  have e68 : ∀ (f v : Int), j_215_68 (j_215_2 G) (l : Int) f v (l : Int) y = (if f = 0 then j_215_2 G ((l + 1 : Nat) : Int) (ax_u2 y 122 l v) else if ¬ v = -2 then j_215_2 G ((l + 1 : Nat) : Int) (ax_u2 y 122 l v) else gd (0 ≤ (l : Int) ∧ (l : Int) < 8200) (gd (0 ≤ sm 117 l ∧ sm 117 l < 8200) (j_215_2 G ((l + 1 : Nat) : Int) (f_235 (sm 89 (sm 117 l).toNat) (ax_u2 y 122 l v))))) := fun f v => by
    unfold j_215_68
    rw [gd_pos (by omega), Int.toNat_natCast, k99, gd_pos (by omega), u2_same, i4.1 117 (by decide) (by decide), i4.1 89 (by decide) (by decide), Option.bind_some, k99]
  unfold j_215_49
  by_cases R : ∀ j, j < c → 0 < y 122 (kd sm q j)
  · have Rc : ∀ j, j < c → x 48 (kd sm q j) ≠ 0 := fun j hj => by
      have := R j hj
      rcases rel j hj with u | u
      · omega
      · omega
    have eqw : ∀ j, j < c → x 48 (kd sm q j) = y 122 (kd sm q j) := fun j hj => by
      have := R j hj
      rcases rel j hj with u | u
      · omega
      · exact u.2.2
    have bnd : ∀ j, j < c → 1 ≤ y 122 (kd sm q j) ∧ y 122 (kd sm q j) ≤ 32 := fun j hj => by
      have := R j hj
      rcases rel j hj with u | u
      · omega
      · exact ⟨u.1, u.2.1⟩
    obtain ⟨i, wh, e23, wb⟩ := c23 h g n6 n7 i1 hc h54 hS8 hl a1 a2 (i3 l (Nat.le_refl _)) hK8 (fun j hj => by rw [eqw j hj]; exact bnd j hj)
    have e247 := mwk (i := i) h g i4 hl a1 a2 hK8 bnd wh
    have ew : WSP T sc sm l i c (fun j => x 48 (kd sm q j)) = WSP T sc sm l i c (fun j => y 122 (kd sm q j)) := WSP_c a7 ⟨a9, a10⟩ eqw
    rw [ew] at e23 wb
    obtain ⟨W, hW⟩ : ∃ W : Int, W = WSP T sc sm l i c (fun j => y 122 (kd sm q j)) := ⟨_, rfl⟩
    rw [← hW] at e23 wb e247
    rw [p01_y Rc, if_neg (by decide), e23, Option.bind_some, p01_y R, if_neg (by decide), e247, Option.bind_some, e32, e68, if_neg (show ¬ (1 : Int) = 0 by decide), if_neg (show ¬ (1 : Int) = 0 by decide)]
    rcases wb with wb | wb
    · -- wrong: both tell
      rw [wv_n _ wb, if_neg (fun e => e rfl), if_neg (fun e => e wb), wb]
      obtain ⟨p1, p2, p3, p4, p5⟩ := u48 0
      obtain ⟨p6, p7, p8, p9⟩ := u122 (-2)
      obtain ⟨st, s1, s2⟩ : ∃ st : Nat, sm 117 l = (st : Int) ∧ st < T.z := by
        obtain ⟨_, _, _, _, _, _, _, _, _, _, _, u, _⟩ := hN.2.2.2 l hl
        exact u
      obtain ⟨o1, o2, o3, o4, o5, o6, o7, o8, o9, o10, o11, o12, -⟩ := nd117 (s := ax_u2 x 48 l 0) kk.2.2.1 kk.1 kk.2.1 (by rw [p1 46 (by decide) (by decide)])
      have hc2 : CC T (ax_u2 x 48 l 0) := hC.row (by rw [p1 39 (by decide) (by decide)]) (p1 41 (by decide) (by decide)) (p1 42 (by decide) (by decide)) (p1 44 (by decide) (by decide)) (by rw [p1 31 (by decide) (by decide)]) (p1 1 (by decide) (by decide))
      have e122 : f_122 (l : Int) (ax_u2 x 48 l 0) = (st : Int) := by rw [o12, p1 50 (by decide) (by decide), a6, s1]
      obtain ⟨t1, t2⟩ := c80 (a := st) hc2 hT (by omega)
      have f0 := hT.2.2.2.1 st (by omega)
      obtain ⟨k1, k2⟩ := c71k (s := ax_u2 x 48 l 0) (k := 9) (x := T.fm st) (by decide) (by decide) f0
      have k1' : g_71 9 (T.fm st) (ax_u2 x 48 l 0) := k1
      have k2' : NTk 9 (ax_u2 x 48 l 0) (f_71 9 (T.fm st) (ax_u2 x 48 l 0)) True := k2
      obtain ⟨ii, jj, -, -, d3, -⟩ := hX.2.2.2 st s2
      have fd : FD (ax_u2 y 122 l (-2)) (f_235 (sm 89 st) (ax_u2 y 122 l (-2))) True := m235 (by omega)
      rw [gd_pos o11, e122, gd_pos t2, t1, gd_pos k1', gd_pos (by omega), gd_pos (by omega), s1, Int.toNat_natCast]
      refine ⟨_, _, rfl, rfl, ?_⟩
      have w1 := mkW 0 (-2) (Or.inl ⟨rfl, rfl⟩)
      obtain ⟨j1, j2, j3, j4, j5, j6⟩ := w1
      refine ⟨fun b u z => by rw [k2'.1 b u]; exact j1 b u z, fun j hj => by rw [k2'.2.1 j hj]; exact j2 j hj, fun k hk => by rw [k2'.1 48 (by decide)]; exact j3 k hk, FD.agw j4 fd, fun k hk => by rw [k2'.1 48 (by decide), fd.1 122 (by decide)]; exact j5 k hk, ?_⟩
      rw [k2'.2.2, fd.2.2]
      exact ⟨fun _ => Or.inr trivial, fun _ => Or.inr trivial⟩
    · rw [wv_y _ wb.1, if_pos (by omega), if_pos (by omega)]
      exact ⟨_, _, rfl, rfl, mkW W W (Or.inr ⟨wb.1, wb.2, rfl⟩)⟩
  · have Rc : ¬ ∀ j, j < c → x 48 (kd sm q j) ≠ 0 := fun u => R (fun j hj => by
      have := u j hj
      rcases rel j hj with v | v
      · exact absurd v.2 this
      · omega)
    rw [p01_n Rc, if_pos rfl, p01_n R, if_pos rfl, e32, e68, if_pos rfl, if_pos rfl]
    exact ⟨_, _, rfl, rfl, mkW 0 (-2) (Or.inl ⟨rfl, rfl⟩)⟩
theorem wnodes (h : CKX T sc sm n' t S P A N K C w) (g : GOOD T sc sm S A N w) (n6 : ¬ BD6 T sm S A N) (n7 : ¬ BD7 T sm S A N) (h54 : sc 54 6 = (S : Int)) (hS8 : S ≤ 1171) (hK8 : K ≤ 8192) (h9 : sc 30 9 = -1) (h8 : sm 84 8 = -1) : ∃ x y : Sg, f_19 sc = j_19_80 x ∧ f_215 sm = j_215_105 y ∧ WIN sc sm N x y := by
  obtain ⟨hT, hX, hC, hD, hN, h19, h31, h34, h30, wz, tw, S8, P8, A8, N8⟩ := id h
  have go : ∀ (r l F G : Nat) (x y : Sg), l + r = N → WIN sc sm l x y → ∃ x' y' : Sg, j_19_2 (F + r + 1) (l : Int) x = j_19_80 x' ∧ j_215_2 (G + r + 1) (l : Int) y = j_215_105 y' ∧ WIN sc sm N x' y' := by
    intro r
    induction r with
    | zero =>
      intro l F G x y hl wi
      rw [show l = N by omega] at wi ⊢
      exact ⟨x, y, by rw [j_19_2, wi.1 46 (by decide) (by decide), hN.1, if_pos (by omega)], by rw [j_215_2, wi.2.2.2.1.2 47 (by decide), hN.2.1, if_pos (by omega)], wi⟩
    | succ r ih =>
      intro l F G x y hl wi
      obtain ⟨x1, y1, e1, e2, w1⟩ := wnode h g n6 n7 h54 hS8 hK8 (l := l) (by omega) wi (F + r + 1) (G + r + 1)
      obtain ⟨x', y', e3, e4, w2⟩ := ih (l + 1) F G x1 y1 (by omega) w1
      exact ⟨x', y', by rw [show F + (r + 1) + 1 = (F + r + 1) + 1 by omega, e1, e3], by rw [show G + (r + 1) + 1 = (G + r + 1) + 1 by omega, e2, e4], w2⟩
  obtain ⟨F, hF⟩ := FU_split (k := N + 1) (by omega)
  obtain ⟨x, y, e1, e2, w1⟩ := go N 0 F F sc sm (by omega) ⟨fun _ _ _ => rfl, fun _ _ => rfl, fun _ _ => rfl, ⟨fun _ _ _ => rfl, fun _ _ => rfl⟩, fun k hk => absurd hk (by omega), by rw [h9, h8]; decide⟩
  rw [show F + N + 1 = FU by omega] at e1 e2
  exact ⟨x, y, e1, e2, w1⟩
end WLP
/-! WIDTHS: what is claimed of them. -/
def TWR (W : Nat → Int) (iv wd ix : Int) (v : Nat) : Prop := (0 ≤ ix ∧ W ix.toNat ≠ 0 ∧ W ix.toNat ≠ iv) ∨ ((ix < 0 ∨ W ix.toNat ≠ 0 ∧ W ix.toNat = iv) ∧ W v ≠ 0 ∧ W v ≠ wd)
def bwS (T : TT) (W : Nat → Int) (sm : Sg) (i : Nat) : Prop := sm 94 i = 2 ∧ W (sm 100 i).toNat ≠ 0 ∧ W (sm 100 i).toNat ≠ T.vl (sm 97 i).toNat
def bwA (T : TT) (W : Nat → Int) (sm : Sg) (S a : Nat) : Prop := (sm 106 a = 1 ∧ W (sm 110 a).toNat ≠ 0 ∧ W (sm 110 a).toNat ≠ 1) ∨ (sm 106 a = 0 ∧ ∃ i, SO1 T sm S (T.vl (sm 107 a).toNat) i ∧ TWR W (iw T sm i) (T.vl (sm 97 i).toNat) (sm 109 a) (sm 110 a).toNat)
def bcW (T : TT) (W : Nat → Int) (sc sm : Sg) (S c : Nat) : Prop := (sc 65 c = 0 ∧ ∃ i, SO1 T sm S (T.vl (sc 62 c).toNat) i ∧ TWR W (iw T sm i) (T.vl (sm 97 i).toNat) (sc 63 c) (sc 64 c).toNat) ∨ (sc 65 c ≠ 0 ∧ W (sc 64 c).toNat ≠ 0 ∧ W (sc 64 c).toNat ≠ sc 65 c)
section WCM
variable {T : TT} {sc sm s s' x y : Sg} {n' S P A N K C w i n c q a : Nat} {t : Nat → Int}
/-- an assignment's target -/
theorem CKX.tgt (h : CKX T sc sm n' t S P A N K C w) (g : GOOD T sc sm S A N w) (n6 : ¬ BD6 T sm S A N) (n7 : ¬ BD7 T sm S A N) (ha : a < A) (hk : sm 106 a = 0) : ∃ i x v : Nat, sm 107 a = (x : Int) ∧ x < T.z ∧ T.tk x = 1 ∧ SO1 T sm S (T.vl x) i ∧ sc 36 (T.vl x).toNat = (i : Int) ∧ FIT sm (if sm 109 a < 0 then 1 else 2) i 0 ∧ (sm 109 a = -1 ∨ ∃ m : Nat, sm 109 a = (m : Int) ∧ m < N) ∧ sm 110 a = (v : Int) ∧ v < N := by
  obtain ⟨hT, hX, hC, hD, hN, h19, h31, h34, h30, wz, tw, S8, P8, A8, N8⟩ := h
  obtain ⟨si, b1, b2, b3, b4, b5⟩ := hD.act ha
  obtain ⟨x, x1, x2, x3⟩ := b5 (Or.inl hk)
  have no := (g.2.2.1 a ha).2.2 hk
  have v1 := hT.2.2.2.2.1 x x2
  have v2 := hT.2.2.2.2.2.1 x x2 x3
  have vi : (((T.vl x).toNat : Nat) : Int) = T.vl x := by omega
  have ns : ¬ NOS T sm S (T.vl x) := fun z => n6 (Or.inr ⟨a, ha, hk, no, by rw [x1, Int.toNat_natCast]; exact z⟩)
  obtain ⟨sa, _, _, _, _, _, _, b7⟩ := hD.2.1 a ha
  have b8 : (sm 109 a = -1 ∨ ∃ m : Nat, sm 109 a = (m : Int) ∧ m < N) ∧ ∃ m : Nat, sm 110 a = (m : Int) ∧ m < N := by
    rcases b7 with ⟨_, _, u, u'⟩ | ⟨u, -⟩ | ⟨u, -⟩ | ⟨u, -⟩
    · exact ⟨u, u'⟩
    · omega
    · omega
    · omega
  obtain ⟨b8, v, b9, b10⟩ := b8
  rcases hD.2.2.2.2.2.1 (T.vl x).toNat (IDN.at hT x2 x3) with ⟨u1, u2⟩ | ⟨j, u1, u2, u3⟩
  · rw [vi] at u2
    exact absurd u2 ns
  · rw [vi] at u3
    have so : SO1 T sm S (T.vl x) j := ⟨u1, u3, fun l hl e => (g.2.1 j u1).2.2.2.1 l hl (by rw [e, u3])⟩
    refine ⟨j, x, v, x1, x2, x3, so, u2, ?_, b8, b9, b10⟩
    exact Classical.byContradiction (fun z => n7 (Or.inr ⟨a, ha, hk, Or.inr ⟨no, j, by rw [x1, Int.toNat_natCast]; exact so, z⟩⟩))
/-- both sides claim the same -/
theorem cl_iff (h : CKX T sc sm n' t S P A N K C w) (g : GOOD T sc sm S A N w) {W : Nat → Int} : (∃ c, c < C ∧ bcW T W sc sm S c) ↔ ((∃ i, i < S ∧ bwS T W sm i) ∨ (∃ a, a < A ∧ bwA T W sm S a)) := by
  have hm97 := fun i (hi : i < S) (hk : sm 94 i < 3) => m97 h g (s := sm) ⟨fun _ _ _ => rfl, fun _ _ => rfl⟩ hi hk
  obtain ⟨hT, hX, hC, hD, hN, -⟩ := h
  have cn := hD.2.2.2.2.2.2.1.mpr g
  obtain ⟨l1, l2, l3, l4⟩ := hD.2.2.1
  have w65 : ∀ i, i < S → sm 94 i = 2 → (if sc 57 i < 1 then 1 else sc 57 i) = T.vl (sm 97 i).toNat ∧ T.vl (sm 97 i).toNat ≠ 0 := fun i hi e => by
    obtain ⟨c9, w1, w2, w3, w4, w5, w6⟩ := hm97 i hi (by omega)
    rw [w6, w1, Int.toNat_natCast, if_neg (by omega)]
    exact ⟨rfl, by omega⟩
  constructor
  · intro ⟨c, hc, b⟩
    rcases l1 c hc with ⟨a, ha, a2, a3, a4, a5, a6⟩ | ⟨a, ha, a2, a3, a4, a5, a6⟩ | ⟨i, hi, a2, a3, a4, a5, a6⟩
    · rcases b with ⟨_, j, so, tw⟩ | ⟨b, _⟩
      · right
        rw [a3] at so
        rw [a4, a5] at tw
        exact ⟨a, ha, Or.inr ⟨a2, j, so, tw⟩⟩
      · exact absurd a6 b
    · rcases b with ⟨b, _⟩ | ⟨_, b1, b2⟩
      · omega
      · right
        rw [a5] at b1 b2
        rw [a6] at b2
        exact ⟨a, ha, Or.inl ⟨a2, b1, b2⟩⟩
    · obtain ⟨w1, w2⟩ := w65 i hi a2
      rw [w1] at a6
      rcases b with ⟨b, _⟩ | ⟨_, b1, b2⟩
      · exact absurd (a6.symm.trans b) w2
      · left
        rw [a5] at b1 b2
        rw [a6] at b2
        exact ⟨i, hi, a2, b1, b2⟩
  · intro b
    rcases b with ⟨i, hi, a2, b1, b2⟩ | ⟨a, ha, b⟩
    · obtain ⟨c, hc, c1, c2, c3, c4⟩ := l4 i hi a2
      obtain ⟨w1, w2⟩ := w65 i hi a2
      rw [w1] at c4
      exact ⟨c, hc, Or.inr ⟨by rw [c4]; exact w2, by rw [c3]; exact b1, by rw [c3, c4]; exact b2⟩⟩
    · rcases b with ⟨a2, b1, b2⟩ | ⟨a2, j, so, tw⟩
      · obtain ⟨c, hc, c1, c2, c3, c4⟩ := l3 a ha a2
        exact ⟨c, hc, Or.inr ⟨by rw [c4]; decide, by rw [c3]; exact b1, by rw [c3, c4]; exact b2⟩⟩
      · obtain ⟨c, hc, c1, c2, c3, c4⟩ := l2 cn a ha a2
        exact ⟨c, hc, Or.inl ⟨c4, j, by rw [c1]; exact so, by rw [c2, c3]; exact tw⟩⟩
/-- the class's claims -/
theorem c19c (h : CKX T sc sm n' t S P A N K C w) (g : GOOD T sc sm S A N w) (n6 : ¬ BD6 T sm S A N) (n7 : ¬ BD7 T sm S A N) (h54 : sc 54 6 = (S : Int)) (hS8 : S ≤ 1171) (h61 : sc 61 4 = (C : Int)) (hC8 : C ≤ 2049) (wi : WIN sc sm N x y) : ∃ x' : Sg, j_19_80 x = some x' ∧ NTk 9 x x' (∃ c, c < C ∧ bcW T (x 48) sc sm S c) := by
  have htgt := fun a (ha : a < A) (hk : sm 106 a = 0) => h.tgt g n6 n7 ha hk
  have hm97 := fun i (hi : i < S) (hk : sm 94 i < 3) => m97 h g (s := sm) ⟨fun _ _ _ => rfl, fun _ _ => rfl⟩ hi hk
  obtain ⟨hT, hX, hC, hD, hN, h19, h31, h34, h30, wz, tw, S8, P8, A8, N8⟩ := id h
  obtain ⟨i1, i2, i3, i4, i5, i6⟩ := wi
  have z8 := hT.1
  have step : ∀ F c s, c < C → (∀ b, b ≠ 30 → s b = x b) → ∃ s' : Sg, j_19_82 (F + 1) (c : Int) s = j_19_82 F ((c + 1 : Nat) : Int) s' ∧ NTk 9 s s' (bcW T (x 48) sc sm S c) := by
    intro F c s hc y0
    have y1 : ∀ b, b ≠ 30 → b ≠ 48 → s b = sc b := fun b u v => by rw [y0 b u]; exact i1 b u v
    have hcc : CC T s := hC.row (by rw [y1 39 (by decide) (by decide)]) (y1 41 (by decide) (by decide)) (y1 42 (by decide) (by decide)) (y1 44 (by decide) (by decide)) (by rw [y1 31 (by decide) (by decide)]) (y1 1 (by decide) (by decide))
    have r61 : s 61 4 = (C : Int) := by rw [y1 61 (by decide) (by decide)]; exact h61
    have e39 : f_39 (c : Int) s = 1 := by unfold f_39; rw [r61, if_neg (by omega), if_neg (by omega)]
    have gg : (f_39 (c : Int) s = 0 → True) ∧ (¬ (f_39 (c : Int) s = 0) → ((0 ≤ (c : Int) ∧ (c : Int) < 2049) ∧ True)) := ⟨fun _ => trivial, fun _ => ⟨by omega, trivial⟩⟩
    have g34 : g_34 (c : Int) s := gg
    have g35 : g_35 (c : Int) s := gg
    have g36 : g_36 (c : Int) s := gg
    have g40 : g_40 (c : Int) s := gg
    have g41 : g_41 (c : Int) s := gg
    have f34 : f_34 (c : Int) s = p01 (sc 65 c = 0) := by
      unfold f_34
      rw [e39, if_neg (by decide), Int.toNat_natCast, y1 65 (by decide) (by decide)]
      by_cases d : sc 65 c = 0
      · rw [if_neg (fun e => e d), p01_y d]
      · rw [if_pos d, p01_n d]
    have f35 : f_35 (c : Int) s = sc 62 c := by unfold f_35; rw [e39, if_neg (by decide), Int.toNat_natCast, y1 62 (by decide) (by decide)]
    have f36 : f_36 (c : Int) s = sc 63 c := by unfold f_36; rw [e39, if_neg (by decide), Int.toNat_natCast, y1 63 (by decide) (by decide)]
    have f40 : f_40 (c : Int) s = sc 64 c := by unfold f_40; rw [e39, if_neg (by decide), Int.toNat_natCast, y1 64 (by decide) (by decide)]
    have f41 : f_41 (c : Int) s = sc 65 c := by unfold f_41; rw [e39, if_neg (by decide), Int.toNat_natCast, y1 65 (by decide) (by decide)]
    have k146 : ∀ z : Sg, j_19_146 (j_19_82 F) (c : Int) z = j_19_82 F ((c + 1 : Nat) : Int) z := fun z => by
      unfold j_19_146
      rw [w32_nat (by omega)]
    have w117 : ∀ m : Nat, m < N → g_117 (m : Int) s ∧ f_117 (m : Int) s = x 48 m := fun m hm => by
      obtain ⟨o1, o2, -⟩ := nd117 (s := s) hN.1 hm N8 (by rw [y1 46 (by decide) (by decide)])
      exact ⟨o1, by rw [o2, y0 48 (by decide)]⟩
    have lexb : ∃ lx : Nat, sc 62 c = (lx : Int) ∧ lx < T.z := by
      rcases hD.2.2.1.1 c hc with ⟨a, ha, a2, a3, _⟩ | ⟨a, ha, a2, a3, _⟩ | ⟨i, hi, a2, a3, _⟩
      · obtain ⟨i, xx, v, t1, t2, _⟩ := htgt a ha a2
        exact ⟨xx, by rw [a3]; exact t1, t2⟩
      · obtain ⟨sa, _, _, _, _, _, _, b7⟩ := hD.2.1 a ha
        rcases b7 with ⟨u, -⟩ | ⟨_, _, xx, u1, u2⟩ | ⟨u, -⟩ | ⟨u, -⟩
        · omega
        · exact ⟨xx, by rw [a3]; exact u1, u2⟩
        · omega
        · omega
      · obtain ⟨hd, p0, pc, n0, b1, b2, b3, b4, b5, b6, b7, b8, b9, b10, b11⟩ := hD.1 i hi
        rcases b11 with ⟨u, -⟩ | ⟨u, -⟩ | ⟨_, _, _, u⟩ | ⟨u, -⟩
        · omega
        · omega
        · obtain ⟨st, e, m0, m1, d1, d2, d3, d4, d5, d6, d7, d8, -⟩ := u
          exact ⟨st, by rw [a3]; exact d5, by omega⟩
        · omega
    obtain ⟨lx, lx1, lx2⟩ := lexb
    have fin : ∀ p : Prop, ∃ s' : Sg, j_19_117 (j_19_82 F) (c : Int) (p01 (¬ p)) s = j_19_82 F ((c + 1 : Nat) : Int) s' ∧ NTk 9 s s' p := by
      intro p
      unfold j_19_117
      by_cases d : p
      · obtain ⟨o1, o2⟩ := c80 (a := lx) hcc hT (by omega)
        have f0 := hT.2.2.2.1 lx (by omega)
        obtain ⟨k1, k2⟩ := c71k (s := s) (k := 9) (x := T.fm lx) (by decide) (by decide) f0
        have k1' : g_71 9 (T.fm lx) s := k1
        rw [p01_n (fun u => u d), if_neg (by decide), gd_pos g35, f35, lx1, gd_pos o2, o1, gd_pos k1', Option.bind_some, k146]
        exact ⟨_, rfl, NTk.iff (p := True) k2 ⟨fun _ => d, fun _ => trivial⟩⟩
      · rw [p01_y d, if_pos (by decide), k146]
        exact ⟨s, rfl, (NTk.refl s).iff ⟨fun u => u.elim, fun u => d u⟩⟩
    rw [j_19_82, r61, if_neg (by omega), gd_pos g34, f34]
    by_cases d : sc 65 c = 0
    · rw [p01_y d, if_neg (by decide)]
      rcases hD.2.2.1.1 c hc with ⟨a, ha, a2, a3, a4, a5, a6⟩ | ⟨a, ha, a2, a3, a4, a5, a6⟩ | ⟨j, hj, a2, a3, a4, a5, a6⟩
      · obtain ⟨j, xx, v, t1, t2, t3, so, e36, ft, t4, t5, t6⟩ := htgt a ha a2
        have i8 := so.1
        have h94 : sm 94 j < 3 := by
          rcases ft with u | u | u
          · omega
          · omega
          · omega
        obtain ⟨c9, w1, w2, w3, w4, w5, w6⟩ := hm97 j so.1 h94
        obtain ⟨p1, p2, -⟩ := c183 (s := s) (by rw [y1 54 (by decide) (by decide)]; exact h54) so.1 hS8
        have e62 : sc 62 c = (xx : Int) := by rw [a3]; exact t1
        obtain ⟨u1, u2⟩ := c26 hT hcc t2 t3
        obtain ⟨v1, v2⟩ := w117 v t6
        have e56 : j_24_56 (c : Int) (j : Int) s = some (p01 (¬ (x 48 v ≠ 0 ∧ x 48 v ≠ T.vl c9))) := by
          unfold j_24_56
          rw [gd_pos g40, f40, a5, t5, gd_pos v1, v2]
          by_cases k1 : x 48 v = 0
          · rw [if_pos k1, p01_y (fun u => u.1 k1)]
          · rw [if_neg k1, gd_pos p1, p2, y1 57 (by decide) (by decide), w6]
            by_cases k2 : x 48 v = T.vl c9
            · rw [if_neg (fun e => e k2), p01_y (fun u => u.2 k2)]
            · rw [if_pos k2, p01_n (fun u => u ⟨k1, k2⟩)]
        have e24 : f_24 (c : Int) s = some (p01 (¬ TWR (x 48) (iw T sm j) (T.vl c9) (sm 109 a) v)) := by
          unfold f_24
          rw [gd_pos g35, f35, e62, gd_pos u1, gd_pos g36, f36, a4, u2, y1 36 (by decide) (by decide), e36]
          rcases t4 with t4 | ⟨m, t4, t7⟩
          · rw [if_pos t4, e56]
            congr 1
            refine p01_c (not_congr ?_)
            unfold TWR
            exact ⟨fun u => Or.inr ⟨Or.inl (by omega), u⟩, fun u => by
              rcases u with u | u
              · omega
              · exact u.2⟩
          · obtain ⟨m1, m2⟩ := w117 m t7
            have hf : sm 94 j = 1 ∨ sm 94 j = 0 ∧ 0 ≤ sm 96 j := by
              rw [if_neg (by omega)] at ft
              rcases ft with ⟨u, _⟩ | u | ⟨u, _⟩
              · exact absurd u (by decide)
              · exact u.2
              · exact absurd u (by decide)
            rw [if_neg (by omega), t4, gd_pos m1, m2]
            by_cases k1 : x 48 m = 0
            · rw [if_neg (fun e => e k1), p01_y]
              intro u
              unfold TWR at u
              rw [Int.toNat_natCast] at u
              rcases u with u | u
              · exact u.2.1 k1
              · rcases u.1 with u1 | u1
                · omega
                · exact u1.1 k1
            · rw [if_pos k1, c28 h g y1 h54 hS8 so.1 hf, Option.bind_some]
              by_cases k2 : x 48 m = iw T sm j
              · rw [if_pos k2, e56]
                congr 1
                refine p01_c (not_congr ?_)
                unfold TWR
                rw [Int.toNat_natCast]
                exact ⟨fun u => Or.inr ⟨Or.inr ⟨k1, k2⟩, u⟩, fun u => by
                  rcases u with u | u
                  · exact absurd k2 u.2.2
                  · exact u.2⟩
              · rw [if_neg k2, p01_n (fun u => u (Or.inl ⟨by omega, by rw [Int.toNat_natCast]; exact k1, by rw [Int.toNat_natCast]; exact k2⟩))]
        rw [e24, Option.bind_some]
        obtain ⟨s', f1, f2⟩ := fin (TWR (x 48) (iw T sm j) (T.vl c9) (sm 109 a) v)
        refine ⟨s', f1, f2.iff ?_⟩
        unfold bcW
        rw [e62, Int.toNat_natCast, a4, a5, t5, Int.toNat_natCast]
        exact ⟨fun u => Or.inl ⟨d, j, so, by rw [w1, Int.toNat_natCast]; exact u⟩, fun u => by
          rcases u with ⟨_, j', so', u⟩ | ⟨u, _⟩
          · rw [← so.uniq so', w1, Int.toNat_natCast] at u
            exact u
          · exact absurd d u⟩
      · omega
      · rw [a6] at d
        exfalso
        split at d <;> omega
    · rw [p01_n d, if_pos rfl]
      have vb : ∃ v : Nat, sc 64 c = (v : Int) ∧ v < N := by
        rcases hD.2.2.1.1 c hc with ⟨a, ha, a2, a3, a4, a5, a6⟩ | ⟨a, ha, a2, a3, a4, a5, a6⟩ | ⟨j, hj, a2, a3, a4, a5, a6⟩
        · exact absurd a6 d
        · obtain ⟨sa, _, _, _, _, _, _, b7⟩ := hD.2.1 a ha
          rcases b7 with ⟨u, -⟩ | ⟨_, ⟨v, u1, u2⟩, _⟩ | ⟨u, -⟩ | ⟨u, -⟩
          · omega
          · exact ⟨v, by rw [a5]; exact u1, u2⟩
          · omega
          · omega
        · obtain ⟨hd, p0, pc, n0, b1, b2, b3, b4, b5, b6, b7, b8, b9, b10, b11⟩ := hD.1 j hj
          rcases b11 with ⟨u, -⟩ | ⟨u, -⟩ | ⟨_, _, _, u⟩ | ⟨u, -⟩
          · omega
          · omega
          · obtain ⟨st, e, m0, m1, d1, d2, d3, d4, -⟩ := u
            exact ⟨m1 - 1, by rw [a5, d1]; omega, by omega⟩
          · omega
      obtain ⟨v, v1, v2⟩ := vb
      obtain ⟨o1, o2⟩ := w117 v v2
      have e25 : g_25 (c : Int) s ∧ f_25 (c : Int) s = p01 (¬ (x 48 v ≠ 0 ∧ x 48 v ≠ sc 65 c)) := by
        unfold g_25 f_25
        rw [f40, v1, o2, f41]
        refine ⟨⟨g40, o1, fun _ => trivial, fun _ => ⟨g41, trivial⟩⟩, ?_⟩
        by_cases k1 : x 48 v = 0
        · rw [if_pos k1, p01_y (fun u => u.1 k1)]
        · rw [if_neg k1]
          by_cases k2 : x 48 v = sc 65 c
          · rw [if_neg (fun e => e k2), p01_y (fun u => u.2 k2)]
          · rw [if_pos k2, p01_n (fun u => u ⟨k1, k2⟩)]
      rw [gd_pos e25.1, e25.2]
      obtain ⟨s', f1, f2⟩ := fin (x 48 v ≠ 0 ∧ x 48 v ≠ sc 65 c)
      refine ⟨s', f1, f2.iff ?_⟩
      unfold bcW
      rw [v1, Int.toNat_natCast]
      exact ⟨fun u => Or.inr ⟨d, u⟩, fun u => by
        rcases u with ⟨u, _⟩ | u
        · exact absurd u d
        · exact u.2⟩
  obtain ⟨s', e1, e2⟩ := loop_k (k := 9) (s0 := x) (j := j_19_82) (tl := fun z => some z) (M := C) step (fun F s y0 => by rw [j_19_82, y0 61 (by decide), i1 61 (by decide) (by decide), h61, if_pos (by omega)]) (by omega) (fun _ _ => rfl)
  exact ⟨s', by unfold j_19_80; rw [e1], e2⟩
end WCM
/-! WIDTHS: both sides find the same. -/
section WFI
variable {T : TT} {sc sm s s' x y : Sg} {n' S P A N K C w i n c q a : Nat} {t : Nat → Int}
theorem m237w {k : Int} (h6 : s 84 6 = 0) : ∃ s' : Sg, f_237 k s = some s' ∧ (∀ c, c ≠ 84 → s' c = s c) ∧ (∀ j, j ≠ 6 → j ≠ 7 → j ≠ 8 → s' 84 j = s 84 j) ∧ s' 84 8 = -1 ∧ (0 ≤ s 84 8 → s' 84 6 = k) ∧ (¬ 0 ≤ s 84 8 → s' 84 6 = 0) := by
  unfold f_237 j_237_16
  by_cases c : s 84 8 < 0
  · rw [if_pos c]
    exact ⟨_, rfl, fun c x => u2_row _ _ _ x, fun j x y z => u2_col _ _ _ z, u2_same _ _ _ _, fun u => absurd u (by omega), fun _ => by rw [u2_col _ _ _ (by decide)]; exact h6⟩
  · rw [if_neg c, Option.bind_some]
    unfold f_227
    rw [if_pos (by omega)]
    refine ⟨_, rfl, fun c x => by rw [u2_row _ _ _ x, u2_row _ _ _ x, u2_row _ _ _ x], fun j x y z => by rw [u2_col _ _ _ z, u2_col _ _ _ y, u2_col _ _ _ x], u2_same _ _ _ _, fun _ => ?_, fun u => absurd (show 0 ≤ s 84 8 by omega) u⟩
    rw [u2_col _ _ _ (by decide), u2_col _ _ _ (by decide)]
    exact u2_same _ _ _ _
theorem m215c (h : CKX T sc sm n' t S P A N K C w) (g : GOOD T sc sm S A N w) (n6 : ¬ BD6 T sm S A N) (n7 : ¬ BD7 T sm S A N) (wi : WIN sc sm N x y) (h6 : sm 84 6 = 0) : ∃ s' : Sg, j_215_105 y = some s' ∧ (∀ c, c ≠ 84 → s' c = y c) ∧ (∀ j, j ≠ 6 → j ≠ 7 → j ≠ 8 → s' 84 j = sm 84 j) ∧ s' 84 8 = -1 ∧ ((0 ≤ y 84 8 ∨ (∃ i, i < S ∧ bwS T (x 48) sm i) ∨ (∃ a, a < A ∧ bwA T (x 48) sm S a)) → s' 84 6 = 9) ∧ (¬ (0 ≤ y 84 8 ∨ (∃ i, i < S ∧ bwS T (x 48) sm i) ∨ (∃ a, a < A ∧ bwA T (x 48) sm S a)) → s' 84 6 = 0) := by
  have htgt := fun a (ha : a < A) (hk : sm 106 a = 0) => h.tgt g n6 n7 ha hk
  obtain ⟨hT, hX, hC, hD, hN, h19, h31, h34, h30, wz, tw, S8, P8, A8, N8⟩ := id h
  obtain ⟨i1, i2, i3, i4, i5, i6⟩ := wi
  have z8 := hT.1
  have agw : ∀ s, AG y s → AGw sm s := fun s ha => ⟨fun c u v => by rw [ha.1 c u]; exact i4.1 c u v, fun j u => by rw [ha.2 j u]; exact i4.2 j u⟩
  -- statements
  have st1 : ∀ F i s, i < S → AG y s → ∃ s' : Sg, j_215_107 (F + 1) (i : Int) s = j_215_107 F ((i + 1 : Nat) : Int) s' ∧ FD s s' (bwS T (x 48) sm i) := by
    intro F i s hi ha
    have aw := agw s ha
    have r := aw.1
    have k179 : ∀ z : Sg, j_215_179 (j_215_107 F) (i : Int) z = j_215_107 F ((i + 1 : Nat) : Int) z := fun z => by
      unfold j_215_179
      rw [w32_nat (by omega)]
    rw [j_215_107, aw.2 19 (by decide), h19, if_neg (by omega), gd_pos (by omega), Int.toNat_natCast, r 94 (by decide) (by decide)]
    unfold bwS
    by_cases c : sm 94 i = 2
    · obtain ⟨c9, w1, w2, w3, w4, w5, w6⟩ := m97 h g aw hi (by omega)
      have dx : ∃ m st : Nat, sm 100 i = (m : Int) ∧ m < N ∧ sm 101 i = (st : Int) ∧ st < T.z := by
        obtain ⟨hd, p0, pc, n0, b1, b2, b3, b4, b5, b6, b7, b8, b9, b10, b11⟩ := hD.1 i hi
        rcases b11 with ⟨u, -⟩ | ⟨u, -⟩ | ⟨_, _, _, u⟩ | ⟨u, -⟩
        · omega
        · omega
        · obtain ⟨st, e, m0, m1, d1, d2, d3, d4, d5, d6, d7, d8, -⟩ := u
          exact ⟨m1 - 1, st, by omega, by omega, d5, by omega⟩
        · omega
      obtain ⟨m, st, m1, m2, m3, m4⟩ := dx
      rw [if_neg (fun e => e c), gd_pos (by omega), r 100 (by decide) (by decide), m1, gd_pos (by omega), Int.toNat_natCast, ha.1 122 (by decide)]
      rcases i5 m m2 with ⟨k1, k2⟩ | ⟨k1, k2, k3⟩
      · rw [if_pos (by omega), k179]
        exact ⟨s, rfl, (FD.refl s).iff ⟨fun u => u.elim, fun u => u.2.1 k2⟩⟩
      · rw [if_neg (by omega), gd_pos (by omega), gd_pos (by omega), gd_pos (by omega), r 97 (by decide) (by decide), w1, w2, Option.bind_some, w3, Int.toNat_natCast]
        by_cases d : y 122 m = T.vl c9
        · rw [if_pos d, k179]
          exact ⟨s, rfl, (FD.refl s).iff ⟨fun u => u.elim, fun u => u.2.2 (by rw [k3]; exact d)⟩⟩
        · obtain ⟨ii, jj, -, -, d3, -⟩ := hX.2.2.2 st m4
          rw [if_neg d, gd_pos (by omega), r 101 (by decide) (by decide), m3, gd_pos (by omega), Int.toNat_natCast, r 89 (by decide) (by decide), d3, Option.bind_some, k179]
          exact ⟨_, rfl, (m235 (by omega)).iff ⟨fun _ => ⟨c, by rw [k3]; omega, by rw [k3]; exact d⟩, fun _ => trivial⟩⟩
    · rw [if_pos c, k179]
      exact ⟨s, rfl, (FD.refl s).iff ⟨fun u => u.elim, fun u => c u.1⟩⟩
  -- actions
  have st2 : ∀ F a s, a < A → AG y s → ∃ s' : Sg, j_215_187 (F + 1) (a : Int) s = j_215_187 F ((a + 1 : Nat) : Int) s' ∧ FD s s' (bwA T (x 48) sm S a) := by
    intro F a s hA ha
    have aw := agw s ha
    have r := aw.1
    have k249 : ∀ z : Sg, j_215_249 (j_215_187 F) (a : Int) z = j_215_187 F ((a + 1 : Nat) : Int) z := fun z => by
      unfold j_215_249
      rw [w32_nat (by omega)]
    rw [j_215_187, aw.2 34 (by decide), h34, if_neg (by omega), gd_pos (by omega), Int.toNat_natCast, r 106 (by decide) (by decide)]
    unfold bwA
    by_cases c1 : sm 106 a = 1
    · obtain ⟨sa, _, _, _, _, _, _, b7⟩ := hD.2.1 a hA
      have : ∃ v lx : Nat, sm 110 a = (v : Int) ∧ v < N ∧ sm 111 a = (lx : Int) ∧ lx < T.z := by
        rcases b7 with ⟨u, -⟩ | ⟨_, ⟨v, u1, u2⟩, lx, u3, u4⟩ | ⟨u, -⟩ | ⟨u, -⟩
        · omega
        · exact ⟨v, lx, u1, u2, u3, u4⟩
        · omega
        · omega
      obtain ⟨v, lx, v1, v2, v3, v4⟩ := this
      have e235 : ∀ z : Sg, AG y z → j_215_235 (j_215_187 F) (a : Int) z = j_215_187 F ((a + 1 : Nat) : Int) z := fun z hz => by
        unfold j_215_235
        rw [gd_pos (by omega), Int.toNat_natCast, (agw z hz).1 106 (by decide) (by decide), if_pos (by omega), k249]
      rw [if_neg (fun e => e c1), gd_pos (by omega), r 110 (by decide) (by decide), v1, gd_pos (by omega), Int.toNat_natCast, ha.1 122 (by decide)]
      rcases i5 v v2 with ⟨k1, k2⟩ | ⟨k1, k2, k3⟩
      · rw [if_pos (by omega), e235 s ha]
        exact ⟨s, rfl, (FD.refl s).iff ⟨fun u => u.elim, fun u => by
          rcases u with u | u
          · exact u.2.1 k2
          · omega⟩⟩
      · by_cases d : y 122 v ≤ 1
        · rw [if_pos d, e235 s ha]
          exact ⟨s, rfl, (FD.refl s).iff ⟨fun u => u.elim, fun u => by
            rcases u with u | u
            · exact u.2.2 (by rw [k3]; omega)
            · omega⟩⟩
        · obtain ⟨ii, jj, -, -, d3, -⟩ := hX.2.2.2 lx v4
          have fd : FD s (f_235 ((ii : Nat) : Int) s) True := m235 (by omega)
          rw [if_neg d, gd_pos (by omega), r 111 (by decide) (by decide), v3, gd_pos (by omega), Int.toNat_natCast, r 89 (by decide) (by decide), d3, Option.bind_some, e235 _ (ha.fd fd)]
          exact ⟨_, rfl, fd.iff ⟨fun _ => Or.inl ⟨c1, by rw [k3]; omega, by rw [k3]; omega⟩, fun _ => trivial⟩⟩
    · rw [if_pos c1]
      unfold j_215_235
      rw [gd_pos (by omega), Int.toNat_natCast, r 106 (by decide) (by decide)]
      by_cases c0 : sm 106 a = 0
      · obtain ⟨j, xx, v, t1, t2, t3, so, e36, ft, t4, t5, t6⟩ := htgt a hA c0
        have i8 := so.1
        have h94 : sm 94 j < 3 := by
          rcases ft with u | u | u
          · omega
          · omega
          · omega
        obtain ⟨c9, w1, w2, w3, w4, w5, w6⟩ := m97 h g aw so.1 h94
        obtain ⟨ii, jj, d3, -⟩ := hX.nm t2 t3
        have fd : FD s (f_235 ((ii : Nat) : Int) s) True := m235 (by omega)
        have e64 : ∃ s' : Sg, j_248_64 (a : Int) (j : Int) s = some s' ∧ FD s s' (x 48 v ≠ 0 ∧ x 48 v ≠ T.vl c9) := by
          unfold j_248_64
          rw [gd_pos (by omega), Int.toNat_natCast, Int.toNat_natCast, r 110 (by decide) (by decide), t5, gd_pos (by omega), Int.toNat_natCast, ha.1 122 (by decide)]
          rcases i5 v t6 with ⟨k1, k2⟩ | ⟨k1, k2, k3⟩
          · rw [if_pos (by omega)]
            exact ⟨s, rfl, (FD.refl s).iff ⟨fun u => u.elim, fun u => u.1 k2⟩⟩
          · rw [if_neg (by omega), gd_pos (by omega), gd_pos (by omega), gd_pos (by omega), r 97 (by decide) (by decide), w1, w2, Option.bind_some, w3]
            by_cases d : y 122 v = T.vl c9
            · rw [if_pos d]
              exact ⟨s, rfl, (FD.refl s).iff ⟨fun u => u.elim, fun u => u.2 (by rw [k3]; exact d)⟩⟩
            · rw [if_neg d, gd_pos (by omega), r 107 (by decide) (by decide), t1, gd_pos (by omega), Int.toNat_natCast, r 89 (by decide) (by decide), d3, Option.bind_some]
              exact ⟨_, rfl, fd.iff ⟨fun _ => ⟨by rw [k3]; omega, by rw [k3]; exact d⟩, fun _ => trivial⟩⟩
        have e248 : ∃ s' : Sg, f_248 (a : Int) s = some s' ∧ FD s s' (TWR (x 48) (iw T sm j) (T.vl c9) (sm 109 a) v) := by
          unfold f_248
          rw [gd_pos (by omega), Int.toNat_natCast, r 107 (by decide) (by decide), t1, m238w h aw t2 t3 so, Option.bind_some, gd_pos (by omega), r 109 (by decide) (by decide)]
          rcases t4 with t4 | ⟨m, t4, t7⟩
          · rw [if_pos (by omega)]
            obtain ⟨s', f1, f2⟩ := e64
            refine ⟨s', f1, f2.iff ?_⟩
            unfold TWR
            exact ⟨fun u => Or.inr ⟨Or.inl (by omega), u⟩, fun u => by
              rcases u with u | u
              · omega
              · exact u.2⟩
          · have hf : sm 94 j = 1 ∨ sm 94 j = 0 ∧ 0 ≤ sm 96 j := by
              rw [if_neg (by omega)] at ft
              rcases ft with ⟨u, _⟩ | u | ⟨u, _⟩
              · exact absurd u (by decide)
              · exact u.2
              · exact absurd u (by decide)
            obtain ⟨p1, -⟩ := m256 h g aw so.1 hf
            rw [if_neg (by omega), gd_pos (by omega), t4, gd_pos (by omega), Int.toNat_natCast, ha.1 122 (by decide)]
            unfold TWR
            rw [Int.toNat_natCast m]
            rcases i5 m t7 with ⟨k1, k2⟩ | ⟨k1, k2, k3⟩
            · rw [if_neg (fun e => e k1)]
              exact ⟨s, rfl, (FD.refl s).iff ⟨fun u => u.elim, fun u => by
                rcases u with u | u
                · exact u.2.1 k2
                · rcases u.1 with u1 | u1
                  · omega
                  · exact u1.1 k2⟩⟩
            · rw [if_pos (by omega), p1, Option.bind_some]
              by_cases d : y 122 m = iw T sm j
              · rw [if_pos d]
                obtain ⟨s', f1, f2⟩ := e64
                refine ⟨s', f1, f2.iff ⟨fun u => Or.inr ⟨Or.inr ⟨by rw [k3]; omega, by rw [k3]; exact d⟩, u⟩, fun u => ?_⟩⟩
                rcases u with u | u
                · exact absurd (by rw [k3]; exact d) u.2.2
                · exact u.2
              · rw [if_neg d, gd_pos (by omega), gd_pos (by omega), r 89 (by decide) (by decide), Int.toNat_natCast xx, d3, Option.bind_some]
                exact ⟨_, rfl, fd.iff ⟨fun _ => Or.inl ⟨by omega, by rw [k3]; omega, by rw [k3]; exact d⟩, fun _ => trivial⟩⟩
        obtain ⟨s', f1, f2⟩ := e248
        rw [if_neg (fun e => e c0), f1, Option.bind_some, k249]
        refine ⟨s', rfl, f2.iff ⟨fun u => Or.inr ⟨c0, j, by rw [t1, Int.toNat_natCast]; exact so, by rw [w1, t5, Int.toNat_natCast, Int.toNat_natCast]; exact u⟩, fun u => ?_⟩⟩
        rcases u with u | ⟨_, j', so', u⟩
        · omega
        · rw [t1, Int.toNat_natCast] at so'
          rw [← so.uniq so', w1, t5, Int.toNat_natCast, Int.toNat_natCast] at u
          exact u
      · rw [if_pos c0, k249]
        exact ⟨s, rfl, (FD.refl s).iff ⟨fun u => u.elim, fun u => by
          rcases u with u | u
          · exact c1 u.1
          · exact c0 u.1⟩⟩
  obtain ⟨s2, e2, f2, a2⟩ := loop_fu (j := j_215_107) (tl := j_215_185) (s0 := y) (M := S) st1 (fun F s ha => by rw [j_215_107, (agw s ha).2 19 (by decide), h19, if_pos (by omega)]) (by omega) (AG.refl y)
  obtain ⟨s3, e3, f3, a3⟩ := loop_fu (j := j_215_187) (tl := j_215_255) (s0 := y) (M := A) st2 (fun F s ha => by rw [j_215_187, (agw s ha).2 34 (by decide), h34, if_pos (by omega)]) (by omega) a2
  have f23 := f2.trans f3
  obtain ⟨s6, e6, t1, t2, t3, t4, t5⟩ := m237w (s := s3) (k := 9) (by rw [a3.2 6 (by decide), i4.2 6 (by decide)]; exact h6)
  refine ⟨s6, ?_, fun c u => by rw [t1 c u, a3.1 c u], fun j u v z => by rw [t2 j u v z, a3.2 j z, i4.2 j z], t3, fun u => t4 (f23.2.2.mpr u), fun u => t5 (fun z => u (f23.2.2.mp z))⟩
  show j_215_107 FU 0 y = _
  rw [e2]
  show j_215_187 FU 0 s2 = _
  rw [e3]
  unfold j_215_255
  rw [e6, Option.bind_some]
theorem wid_sim (h : CKX T sc sm n' t S P A N K C w) (g : GOOD T sc sm S A N w) (n6 : ¬ BD6 T sm S A N) (n7 : ¬ BD7 T sm S A N) (h54 : sc 54 6 = (S : Int)) (hS8 : S ≤ 1171) (h61 : sc 61 4 = (C : Int)) (hC8 : C ≤ 2049) (hK8 : K ≤ 8192) (h9 : sc 30 9 = -1) (h8 : sm 84 8 = -1) (h6 : sm 84 6 = 0) :
    ∃ x y : Sg, f_19 sc = some x ∧ f_215 sm = some y ∧ (∀ b, b ≠ 30 → b ≠ 48 → x b = sc b) ∧ (∀ j, j ≠ 9 → x 30 j = sc 30 j) ∧ (∀ b, b ≠ 84 → b ≠ 122 → y b = sm b) ∧ (∀ j, j ≠ 6 → j ≠ 7 → j ≠ 8 → y 84 j = sm 84 j) ∧ y 84 8 = -1 ∧ (x 30 9 ≠ -1 ↔ y 84 6 = 9) ∧ (x 30 9 = -1 → y 84 6 = 0) ∧ (∀ k, k < N → (y 122 k = -2 ∧ x 48 k = 0) ∨ (1 ≤ y 122 k ∧ y 122 k ≤ 32 ∧ x 48 k = y 122 k)) := by
  obtain ⟨x, y, e1, e2, wi⟩ := wnodes h g n6 n7 h54 hS8 hK8 h9 h8
  obtain ⟨x', e3, n1, n2, n3⟩ := c19c h g n6 n7 h54 hS8 h61 hC8 wi
  obtain ⟨y', e4, m1, m2, m3, m4, m5⟩ := m215c h g n6 n7 wi h6
  obtain ⟨i1, i2, i3, i4, i5, i6⟩ := wi
  have ci := cl_iff h g (W := x 48)
  have key : x' 30 9 ≠ -1 ↔ (0 ≤ y 84 8 ∨ (∃ i, i < S ∧ bwS T (x 48) sm i) ∨ (∃ a, a < A ∧ bwA T (x 48) sm S a)) := by rw [n3, i6, ci]
  refine ⟨x', y', by rw [e1, e3], by rw [e2, e4], fun b u v => by rw [n1 b u]; exact i1 b u v, fun j u => by rw [n2 j u]; exact i2 j u, fun b u v => by rw [m1 b u]; exact i4.1 b u v, m2, m3, ⟨fun u => m4 (key.mp u), fun u => ?_⟩, fun u => m5 (fun z => key.mpr z u), fun k hk => by rw [n1 48 (by decide), m1 122 (by decide)]; exact i5 k hk⟩
  apply Decidable.byContradiction
  intro hn
  have := m5 (fun z => hn (key.mpr z))
  omega
end WFI
/-! RINGS: counting, ways. -/
noncomputable def cnt (p : Nat → Prop) : Nat → Nat
  | 0 => 0
  | n + 1 => cnt p n + (p01 (p n)).toNat
section CNT
variable {p p' : Nat → Prop} {n x : Nat}
theorem cnt_y (h : p n) : cnt p (n + 1) = cnt p n + 1 := by
  show cnt p n + (p01 (p n)).toNat = _
  rw [p01_y h]
  rfl
theorem cnt_n (h : ¬ p n) : cnt p (n + 1) = cnt p n := by
  show cnt p n + (p01 (p n)).toNat = _
  rw [p01_n h]
  rfl
theorem cnt_le : ∀ n, cnt p n ≤ n := by
  intro n
  induction n with
  | zero => exact Nat.le_refl _
  | succ n ih =>
    by_cases h : p n
    · rw [cnt_y h]; omega
    · rw [cnt_n h]; omega
theorem cnt_c : ∀ n, (∀ i, i < n → (p i ↔ p' i)) → cnt p n = cnt p' n := by
  intro n
  induction n with
  | zero => intro _; rfl
  | succ n ih =>
    intro h
    have a := ih (fun i hi => h i (by omega))
    by_cases c : p n
    · rw [cnt_y c, cnt_y ((h n (by omega)).mp c), a]
    · rw [cnt_n c, cnt_n (fun y => c ((h n (by omega)).mpr y)), a]
theorem cnt_u : ∀ n, x < n → ¬ p x → p' x → (∀ i, i < n → i ≠ x → (p i ↔ p' i)) → cnt p' n = cnt p n + 1 := by
  intro n
  induction n with
  | zero => intro h; omega
  | succ n ih =>
    intro hx h1 h2 h
    by_cases e : x = n
    · subst e
      rw [cnt_y h2, cnt_n h1, cnt_c x (p := p) (p' := p') (fun i hi => h i (by omega) (by omega))]
    · have a := ih (by omega) h1 h2 (fun i hi hi2 => h i (by omega) hi2)
      by_cases c : p n
      · rw [cnt_y c, cnt_y ((h n (by omega) (by omega)).mp c), a]
      · rw [cnt_n c, cnt_n (fun y => c ((h n (by omega) (by omega)).mpr y)), a]
theorem cnt_all : ∀ n, cnt p n = n → ∀ i, i < n → p i := by
  intro n
  induction n with
  | zero => intro _ i hi; omega
  | succ n ih =>
    intro h i hi
    have l := cnt_le (p := p) n
    by_cases c : p n
    · rw [cnt_y c] at h
      by_cases e : i = n
      · rw [e]; exact c
      · exact ih (by omega) i (by omega)
    · rw [cnt_n c] at h
      omega
theorem cnt_lt (hx : x < n) (h : ¬ p x) : cnt p n < n := by
  have l := cnt_le (p := p) n
  by_cases e : cnt p n = n
  · exact absurd (cnt_all n e x hx) h
  · omega
theorem cnt_0 : ∀ n, cnt p n = 0 → ∀ i, i < n → ¬ p i := by
  intro n
  induction n with
  | zero => intro _ i hi; omega
  | succ n ih =>
    intro h i hi
    by_cases c : p n
    · rw [cnt_y c] at h; omega
    · rw [cnt_n c] at h
      by_cases e : i = n
      · rw [e]; exact c
      · exact ih h i (by omega)
theorem cnt_z : ∀ n, (∀ i, i < n → ¬ p i) → cnt p n = 0 := by
  intro n
  induction n with
  | zero => intro _; rfl
  | succ n ih =>
    intro h
    rw [cnt_n (h n (by omega))]
    exact ih (fun i hi => h i (by omega))
end CNT
/-- a way of k calls from a to b -/
def WYK (E : Nat → Nat → Prop) : Nat → Nat → Nat → Prop
  | 0, a, b => a = b
  | k + 1, a, b => ∃ c, E a c ∧ WYK E k c b
def WAY (E : Nat → Nat → Prop) (a b : Nat) : Prop := ∃ k, WYK E k a b
/-- a calls itself by way of any -/
def CYC (E : Nat → Nat → Prop) (a : Nat) : Prop := ∃ b, E a b ∧ WAY E b a
section RPS
variable {E : Nat → Nat → Prop} {a b c : Nat}
theorem WAY.refl (a : Nat) : WAY E a a := ⟨0, rfl⟩
theorem WAY.step (h : E a c) (k : WAY E c b) : WAY E a b := by
  obtain ⟨n, k⟩ := k
  exact ⟨n + 1, c, h, k⟩
/-- what is closed under callers has all that come there -/
theorem WAY.clos {P : Nat → Prop} (h : WAY E a b) (hb : P b) (hc : ∀ x y, E x y → P y → P x) : P a := by
  obtain ⟨n, h⟩ := h
  induction n generalizing a with
  | zero => rw [show a = b from h]; exact hb
  | succ n ih =>
    obtain ⟨c, h1, h2⟩ := h
    exact hc a c h1 (ih h2)
/-- what each call leads further down has no ring -/
theorem CYC.no {f : Nat → Nat} (hf : ∀ x y, E x y → f y < f x) : ¬ CYC E a := by
  intro ⟨b, h1, n, h2⟩
  have key : ∀ n x y, WYK E n x y → f y ≤ f x := by
    intro n
    induction n with
    | zero => intro x y h; rw [show x = y from h]; exact Nat.le_refl _
    | succ n ih =>
      intro x y ⟨z, g1, g2⟩
      have := hf x z g1
      have := ih z y g2
      omega
  have := hf a b h1
  have := key n b a h2
  omega
end RPS
/-- the last one below lo with a mark -/
def LN (tr : Nat → Nat) (b lo : Nat) (q : Int) : Prop := (q = -1 ∧ ∀ c, c < lo → tr c ≠ b) ∨ (∃ c : Nat, c < lo ∧ q = (c : Int) ∧ tr c = b ∧ ∀ d, c < d → d < lo → tr d ≠ b)
theorem LN.put {tr : Nat → Nat} {b : Nat} (lo : Nat) (h : tr lo = b) : LN tr b (lo + 1) (lo : Int) := Or.inr ⟨lo, by omega, rfl, h, fun d h1 h2 => by omega⟩
theorem LN.keep {tr tr' : Nat → Nat} {b lo : Nat} {q : Int} (h : LN tr b lo q) (h1 : ∀ c, c < lo → tr' c = tr c) : LN tr' b lo q := by
  rcases h with ⟨h2, h3⟩ | ⟨c, h2, h3, h4, h5⟩
  · exact Or.inl ⟨h2, fun c hc => by rw [h1 c hc]; exact h3 c hc⟩
  · exact Or.inr ⟨c, h2, h3, by rw [h1 c h2]; exact h4, fun d y z => by rw [h1 d z]; exact h5 d y z⟩
theorem LN.up {tr : Nat → Nat} {b lo : Nat} {q : Int} (h : LN tr b lo q) (h1 : tr lo ≠ b) : LN tr b (lo + 1) q := by
  rcases h with ⟨h2, h3⟩ | ⟨c, h2, h3, h4, h5⟩
  · exact Or.inl ⟨h2, fun c hc => by
      by_cases e : c = lo
      · rw [e]; exact h1
      · exact h3 c (by omega)⟩
  · exact Or.inr ⟨c, by omega, h3, h4, fun d y z => by
      by_cases e : d = lo
      · rw [e]; exact h1
      · exact h5 d y (by omega)⟩
/-! RINGS: who calls whom. -/
def CLL (T : TT) (k : Nat) : Prop := T.tk k = 1 ∧ T.tk (k + 1) = 40
/-- a helper's lexemes -/
def HLR (T : TT) (sc sm : Sg) (a hd st e : Nat) : Prop := sc 56 a = (hd : Int) ∧ sm 95 a = (hd : Int) ∧ sm 94 a = 2 ∧ hd < st ∧ st < e ∧ e < T.z ∧ EOH T hd e ∧ (∀ k, hd < k → k < st → ¬ CLL T k) ∧ 3 * lcT T st (e - st) ≤ e - st
def EDG (T : TT) (sc sm : Sg) (S a b : Nat) : Prop := a < S ∧ b < S ∧ ∃ hd st e k : Nat, HLR T sc sm a hd st e ∧ hd < k ∧ k < e ∧ CLL T k ∧ sc 36 (T.vl k).toNat = (b : Int)
section EDS
variable {T : TT} {sc sm s : Sg} {n' S P A N K C w a b : Nat} {t : Nat → Int}
theorem EOH.uniq {h e e' : Nat} (x : EOH T h e) (y : EOH T h e') : e = e' := by
  obtain ⟨x1, x2, x3⟩ := x
  obtain ⟨y1, y2, y3⟩ := y
  by_cases c : e < e'
  · exact absurd x2 (y3 e x1 c)
  · by_cases d : e' < e
    · exact absurd y2 (x3 e' y1 d)
    · omega
theorem CKX.hlp (h : CKX T sc sm n' t S P A N K C w) (g : GOOD T sc sm S A N w) (n6 : ¬ BD6 T sm S A N) (n7 : ¬ BD7 T sm S A N) (ha : a < S) (h2 : sm 94 a = 2) : ∃ hd st e : Nat, HLR T sc sm a hd st e ∧ (∀ k, hd < k → k < e → CLL T k → ∃ b m : Nat, b < S ∧ sc 36 (T.vl k).toNat = (b : Int) ∧ sm 94 b = 2 ∧ SO1 T sm S (T.vl k) b ∧ m < N ∧ sm 116 m = 3 ∧ sm 118 m = (k : Int) ∧ sm 123 m = (a : Int)) ∧ (∀ m, m < N → sm 116 m = 3 → sm 123 m = (a : Int) → ∃ k : Nat, sm 118 m = (k : Int) ∧ hd < k ∧ k < e ∧ CLL T k) := by
  have hwho := fun n (hn : n < N) (hk : 1 ≤ sm 116 n ∧ sm 116 n ≤ 3) => h.who g n6 n7 hn hk
  obtain ⟨hT, hX, hC, hD, hN, h19, h31, h34, h30, wz, tw, S8, P8, A8, N8⟩ := id h
  obtain ⟨hd, p0, pc, n0, b1, b2, b3, b4, b5, b6, b7, b8, b9, b10, b11⟩ := hD.1 a ha
  have dx : DEFX T sc sm N a hd p0 pc := by
    rcases b11 with ⟨u, -⟩ | ⟨u, -⟩ | ⟨_, _, _, u⟩ | ⟨u, -⟩
    · omega
    · omega
    · exact u
    · omega
  obtain ⟨st, e, m0, m1, d1, d2, d3, d4, d5, d6, d7, d8, d9, d10, d11, ⟨g1, g2, g3, g4, g5⟩, d13⟩ := dx
  have eoh : EOH T hd e := ⟨by omega, d9, d10⟩
  refine ⟨hd, st, e, ⟨b1, b2, h2, d6, d7, d8, eoh, d11, g5⟩, fun k k1 k2 k3 => ?_, fun m hm k3 km => ?_⟩
  · have ks : st ≤ k := by
      apply Decidable.byContradiction
      intro hn
      exact d11 k k1 (by omega) k3
    obtain ⟨m, q1, q2, q3, q4⟩ := g3 k ks k2 k3.1 k3.2
    have hm : m < N := by omega
    obtain ⟨i, x, x1, x0, x2, x3, x4, x5⟩ := hwho m hm (by omega)
    have ek : x = k := by omega
    subst ek
    obtain ⟨so, e36, ft⟩ := x4 (x5 (by omega))
    have f2 : sm 94 i = 2 := by
      rcases ft with ⟨u, _⟩ | ⟨u, _⟩ | u
      · omega
      · omega
      · exact u.2.1
    exact ⟨i, m, so.1, e36, f2, so, hm, q3, q4, g1 m q1 q2⟩
  · obtain ⟨si, s1, s2, s3, s4, s5, s6, s7⟩ := hD.2.2.2.1 m hm
    have es : si = a := by omega
    subst es
    have lo : m0 ≤ m := by omega
    have hi : m < m1 := by
      obtain ⟨q1, q2⟩ := hD.2.2.2.2.2.2.2.1.2 si ha h2
      by_cases c : si + 1 < S
      · have := s7 (si + 1) (by omega) c
        have := q1 c
        omega
      · have := q2 (by omega)
        omega
    obtain ⟨k, k1, k2, k3', k4, k5⟩ := g2 m lo hi k3
    exact ⟨k, k3', by omega, k2, k4, k5⟩
/-- bounds of what rings hold -/
def RB (s : Sg) : Prop := 0 ≤ s 74 13 ∧ s 74 13 ≤ 1171
def RM (s : Sg) : Prop := 0 ≤ s 84 72 ∧ s 84 72 ≤ 4100
/-- the class's rows -/
def RGF (sc s : Sg) : Prop := ∀ b, b < 74 ∨ 81 < b → s b = sc b
theorem RGF.cc (h : RGF sc s) (k : CC T sc) : CC T s := k.row (by rw [h 39 (by decide)]) (h 41 (by decide)) (h 42 (by decide)) (h 44 (by decide)) (by rw [h 31 (by decide)]) (h 1 (by decide))
theorem c173 (hs : RGF sc s) (h54 : sc 54 6 = (S : Int)) (hS8 : S ≤ 1171) (ha : a < S) : f_173 (a : Int) s = 1 := by
  unfold f_173
  rw [hs 54 (by decide), h54, if_neg (by omega), if_neg (by omega), if_neg (by omega)]
theorem c173n : f_173 (-1) s = 0 := by
  unfold f_173
  rw [if_pos (by decide)]
/-- what is called at a lexeme -/
theorem c171 (hT : TWF T) (hs : RGF sc s) (hC : CC T sc) {k : Nat} (hk : k < T.z) : g_171 (k : Int) s ∧ (CLL T k → f_171 (k : Int) s = sc 36 (T.vl k).toNat) ∧ (¬ CLL T k → f_171 (k : Int) s = -1) := by
  have z8 := hT.1
  have hc := hs.cc hC
  obtain ⟨c1, c2⟩ := c79 hc hT (a := k + 1) (by omega)
  obtain ⟨c3, c4⟩ := c97 hc hT (a := k) (by omega)
  have g109 : g_109 (f_97 (k : Int) s) s := by
    rw [c3]
    by_cases e : T.tk k = 1
    · rw [if_pos e]
      obtain ⟨d1, -⟩ := c109 hT hc hk e
      exact d1
    · rw [if_neg e]
      unfold g_109
      exact ⟨fun _ => trivial, fun u => absurd (by decide) u⟩
  refine ⟨?_, fun u => ?_, fun u => ?_⟩
  · unfold g_171
    rw [w32_nat (by omega)]
    exact ⟨c2, fun _ => trivial, fun _ => ⟨c4, g109, trivial⟩⟩
  · unfold f_171
    rw [w32_nat (by omega), c1, if_neg (fun e => e u.2), c3, if_pos u.1]
    obtain ⟨d1, d2, -⟩ := c109 hT hc hk u.1
    rw [d2, hs 36 (by decide)]
  · unfold f_171
    rw [w32_nat (by omega), c1]
    by_cases e : T.tk (k + 1) = 40
    · rw [if_neg (fun q => q e), c3, if_neg (fun q => u ⟨q, e⟩)]
      unfold f_109
      rw [if_pos (by decide)]
    · rw [if_pos e]
/-- where a statement's lexemes end -/
theorem c170 (h : CKX T sc sm n' t S P A N K C w) (hs : RGF sc s) (h54 : sc 54 6 = (S : Int)) (hS8 : S ≤ 1171) (ha : a < S) : ∃ hd : Nat, sc 56 a = (hd : Int) ∧ hd < T.z ∧ g_187 (a : Int) s ∧ f_187 (a : Int) s = (hd : Int) ∧ (∀ st e, HLR T sc sm a hd st e → f_170 (a : Int) s = some (e : Int)) ∧ (sm 94 a ≠ 2 → f_170 (a : Int) s = some (hd : Int)) := by
  obtain ⟨hT, hX, hC, hD, -⟩ := h
  obtain ⟨hd, p0, pc, n0, b1, b2, b3, b4, b5, -⟩ := hD.1 a ha
  have z8 := hT.1
  have hc := hs.cc hC
  obtain ⟨-, -, p3, p4, -, -, p7, p8⟩ := c183 (s := s) (by rw [hs 54 (by decide)]; exact h54) ha hS8
  have e56 : f_187 (a : Int) s = (hd : Int) := by rw [p8, hs 56 (by decide), b1]
  have e55 : f_182 (a : Int) s = sm 94 a := by rw [p4, hs 55 (by decide), b5]
  refine ⟨hd, b1, b3, p7, e56, fun st e hl => ?_, fun u => ?_⟩
  · obtain ⟨l1, l2, l3, l4, l5, l6, ⟨l7, l8, l9⟩, -⟩ := hl
    have go : ∀ (r l F : Nat), l + r = e → hd ≤ l → j_170_25 (F + r + 1) (l : Int) s = some (e : Int) := by
      intro r
      induction r with
      | zero =>
        intro l F hl hh
        obtain ⟨c1, c2⟩ := c79 hc hT (a := l) (by omega)
        rw [j_170_25, hc.1, if_neg (by omega), gd_pos c2, c1, if_neg (fun q => q (by rw [show l = e by omega]; exact l8)), show l = e by omega]
      | succ r ih =>
        intro l F hl hh
        obtain ⟨c1, c2⟩ := c79 hc hT (a := l) (by omega)
        rw [show F + (r + 1) + 1 = (F + r + 1) + 1 by omega, j_170_25, hc.1, if_neg (by omega), gd_pos c2, c1, if_pos (l9 l hh (by omega)), w32_nat (by omega)]
        exact ih (l + 1) F (by omega) (by omega)
    obtain ⟨F, hF⟩ := FU_split (k := (e - hd) + 1) (by omega)
    have e0 := go (e - hd) hd F (by omega) (Nat.le_refl _)
    rw [show F + (e - hd) + 1 = FU by omega] at e0
    unfold f_170
    rw [gd_pos p7, gd_pos p3, e55, if_pos l3, e56, e0]
  · unfold f_170
    rw [gd_pos p7, gd_pos p3, e55, if_neg u, e56]
theorem lcT_0 (T : TT) (l0 : Nat) : ∀ n, (∀ k, l0 ≤ k → k < l0 + n → ¬ CLL T k) → lcT T l0 n = 0 := by
  intro n
  induction n with
  | zero => intro _; rfl
  | succ n ih =>
    intro h
    show lcT T l0 n + _ = 0
    rw [ih (fun k x y => h k x (by omega)), if_neg (show ¬ (T.tk (l0 + n) = 1 ∧ T.tk (l0 + n + 1) = 40) from h (l0 + n) (by omega) (by omega))]
end EDS
/-! RINGS: the class collects the calls. -/
def CGR (S : Nat) (s : Sg) (M : Nat) (tr : Nat → Nat) : Prop := s 74 7 = (M : Int) ∧ (∀ c, c < M → ∃ a : Nat, s 76 c = (a : Int) ∧ a < S ∧ tr c < S ∧ LN tr (tr c) c (s 77 c)) ∧ (∀ b, b < S → LN tr b M (s 75 b)) ∧ (∀ a, a < S → s 78 a = ((cnt (fun c => s 76 c = (a : Int)) M : Nat) : Int))
/-- the calls are the edges -/
def CGE (T : TT) (sc sm : Sg) (S : Nat) (s : Sg) (M : Nat) (tr : Nat → Nat) : Prop := CGR S s M tr ∧ M ≤ 2730 ∧ RGF sc s ∧ (∀ c, c < M → ∃ a : Nat, s 76 c = (a : Int) ∧ EDG T sc sm S a (tr c)) ∧ (∀ a b, EDG T sc sm S a b → ∃ c, c < M ∧ s 76 c = (a : Int) ∧ tr c = b)
section COL
variable {T : TT} {sc sm s : Sg} {n' S P A N K C w a b M : Nat} {t : Nat → Int} {tr : Nat → Nat}
theorem c172 (hs : RGF sc s) (h54 : sc 54 6 = (S : Int)) (hS8 : S ≤ 1171) (h : CGR S s M tr) (hM : M < 2731) (ha : a < S) (hb : b < S) : ∃ s' : Sg, g_172 (a : Int) (b : Int) s ∧ f_172 (a : Int) (b : Int) s = s' ∧ RGF sc s' ∧ CGR S s' (M + 1) (fun c => if c = M then b else tr c) ∧ s' 76 M = (a : Int) ∧ (∀ c, c ≠ M → s' 76 c = s 76 c) := by
  obtain ⟨h1, h2, h3, h4⟩ := h
  have f1 := c173 hs h54 hS8 ha
  have f2 := c173 hs h54 hS8 hb
  obtain ⟨s', hs'⟩ : ∃ s' : Sg, s' = ax_u2 (ax_u2 (ax_u2 (ax_u2 (ax_u2 s 76 M (a : Int)) 77 M (s 75 b)) 75 b (M : Int)) 74 7 ((M + 1 : Nat) : Int)) 78 a (s 78 a + 1) := ⟨_, rfl⟩
  have c4 := cnt_le (p := fun c => s 76 c = (a : Int)) M
  have e78 := h4 a ha
  have hf : f_172 (a : Int) (b : Int) s = s' := by
    unfold f_172
    rw [f1, f2, if_neg (by decide), if_neg (by decide), h1, if_pos (by omega), Int.toNat_natCast, Int.toNat_natCast, Int.toNat_natCast, w32_nat (by omega), w32_id (z := s 78 a + 1) (by omega) (by omega), hs']
  have r : ∀ c, c < 74 ∨ 78 < c → s' c = s c := fun c x => by rw [hs', u2_row _ _ _ (by omega), u2_row _ _ _ (by omega), u2_row _ _ _ (by omega), u2_row _ _ _ (by omega), u2_row _ _ _ (by omega)]
  have v76 : s' 76 M = (a : Int) := by rw [hs']; simp [ax_u2]
  have v76' : ∀ c, c ≠ M → s' 76 c = s 76 c := fun c x => by rw [hs']; simp [ax_u2, x]
  have v77 : s' 77 M = s 75 b := by rw [hs']; simp [ax_u2]
  have v77' : ∀ c, c ≠ M → s' 77 c = s 77 c := fun c x => by rw [hs']; simp [ax_u2, x]
  have v75 : s' 75 b = (M : Int) := by rw [hs']; simp [ax_u2]
  have v75' : ∀ c, c ≠ b → s' 75 c = s 75 c := fun c x => by rw [hs']; simp [ax_u2, x]
  have v78 : s' 78 a = s 78 a + 1 := by rw [hs']; simp [ax_u2]
  have v78' : ∀ c, c ≠ a → s' 78 c = s 78 c := fun c x => by rw [hs']; simp [ax_u2, x]
  have v74 : s' 74 7 = ((M + 1 : Nat) : Int) := by rw [hs']; simp [ax_u2]
  have keep : ∀ c, c < M → (fun c => if c = M then b else tr c) c = tr c := fun c hc => if_neg (by omega)
  refine ⟨s', ?_, hf, fun c x => by rw [r c (by omega)]; exact hs c x, ⟨v74, fun c hc => ?_, fun d hd => ?_, fun d hd => ?_⟩, v76, v76'⟩
  · unfold g_172
    rw [h1]
    exact ⟨fun _ => trivial, fun _ => ⟨fun _ => trivial, fun _ => ⟨fun _ => ⟨by omega, by omega, by omega, by omega, by omega, by omega, trivial⟩, fun _ => trivial⟩⟩⟩
  · by_cases e : c = M
    · subst e
      refine ⟨a, v76, ha, by show (if c = c then b else tr c) < S; rw [if_pos rfl]; exact hb, ?_⟩
      rw [v77]
      show LN _ (if c = c then b else tr c) c _
      rw [if_pos rfl]
      exact (h3 b hb).keep keep
    · obtain ⟨a', k1, k2, k3, k4⟩ := h2 c (by omega)
      refine ⟨a', by rw [v76' c e]; exact k1, k2, by show (if c = M then b else tr c) < S; rw [if_neg e]; exact k3, ?_⟩
      rw [v77' c e]
      show LN _ (if c = M then b else tr c) c _
      rw [if_neg e]
      exact k4.keep (fun d hd => keep d (by omega))
  · by_cases e : d = b
    · subst e
      rw [v75]
      exact LN.put M (if_pos rfl)
    · rw [v75' d e]
      exact ((h3 d hd).keep keep).up (by show (if M = M then b else tr M) ≠ d; rw [if_pos rfl]; exact fun u => e u.symm)
  · by_cases e : d = a
    · subst e
      rw [v78, h4 d hd, cnt_y (p := fun c => s' 76 c = (d : Int)) v76, cnt_c M (p := fun c => s' 76 c = (d : Int)) (p' := fun c => s 76 c = (d : Int)) (fun i hi => by rw [v76' i (by omega)])]
      omega
    · rw [v78' d e, h4 d hd, cnt_n (p := fun c => s' 76 c = (d : Int)) (by rw [v76]; omega), cnt_c M (p := fun c => s' 76 c = (d : Int)) (p' := fun c => s 76 c = (d : Int)) (fun i hi => by rw [v76' i (by omega)])]
theorem c172n (hb : f_173 (-1) s = 0) : g_172 (a : Int) (-1) s ∧ f_172 (a : Int) (-1) s = s := by
  unfold g_172 f_172
  rw [hb]
  refine ⟨⟨fun _ => trivial, fun _ => ⟨fun _ => trivial, fun u => absurd rfl u⟩⟩, ?_⟩
  by_cases c : f_173 (a : Int) s = 0
  · rw [if_pos c]
  · rw [if_neg c, if_pos rfl]
/-- all calls of the statements before k -/
def CLN (T : TT) (sc sm : Sg) (S k : Nat) (s : Sg) (M : Nat) (tr : Nat → Nat) (X : Nat) : Prop := CGR S s M tr ∧ RGF sc s ∧ (∀ c, c < M → ∃ a : Nat, s 76 c = (a : Int) ∧ EDG T sc sm S a (tr c)) ∧ (∀ a b, a < k → EDG T sc sm S a b → ∃ c, c < M ∧ s 76 c = (a : Int) ∧ tr c = b) ∧ 3 * M ≤ X ∧ X ≤ T.z ∧ (∀ j, k ≤ j → j < S → sm 94 j = 2 → (X : Int) ≤ sm 95 j)
theorem col_step (h : CKX T sc sm n' t S P A N K C w) (g : GOOD T sc sm S A N w) (n6 : ¬ BD6 T sm S A N) (n7 : ¬ BD7 T sm S A N) (h54 : sc 54 6 = (S : Int)) (hS8 : S ≤ 1171) {k X F : Nat} (hk : k < S) (cl : CLN T sc sm S k s M tr X) : ∃ (s' : Sg) (M' : Nat) (tr' : Nat → Nat) (X' : Nat), j_165_47 (F + 1) (k : Int) s = j_165_47 F ((k + 1 : Nat) : Int) s' ∧ CLN T sc sm S (k + 1) s' M' tr' X' := by
  obtain ⟨hd, b1, hdz, p7, e187, e170, e170n⟩ := c170 h cl.2.1 h54 hS8 hk
  have hhlp := fun h2 => h.hlp g n6 n7 hk h2
  obtain ⟨hT, hX, hC, hD, -⟩ := id h
  have z8 := hT.1
  have lor := hD.2.2.2.2.2.2.2.2.2
  have k96 : ∀ z : Sg, j_165_96 (j_165_47 F) (k : Int) z = j_165_47 F ((k + 1 : Nat) : Int) z := fun z => by
    unfold j_165_96
    rw [w32_nat (by omega)]
  obtain ⟨c1, c2, c3, c4, c5, c6, c7⟩ := cl
  rw [j_165_47, c2 54 (by decide), h54, if_neg (by omega)]
  by_cases h2 : sm 94 k = 2
  · obtain ⟨hd', st, e, hl, ca, -⟩ := hhlp h2
    have ehd : hd' = hd := by have := hl.1; omega
    subst ehd
    obtain ⟨l1, l2, l3, l4, l5, l6, l7, l8, l9⟩ := id hl
    have hX0 := c7 k (Nat.le_refl _) hk h2
    have lcb : ∀ i, hd' + 1 ≤ i → i ≤ e → 3 * lcT T (hd' + 1) (i - (hd' + 1)) ≤ e - st := fun i x y => by
      have a1 := lcT_add T (hd' + 1) (i - (hd' + 1)) (e - i)
      rw [show i - (hd' + 1) + (e - i) = (st - (hd' + 1)) + (e - st) by omega, lcT_add T (hd' + 1) (st - (hd' + 1)) (e - st), lcT_0 T (hd' + 1) (st - (hd' + 1)) (fun k u v => l8 k (by omega) (by omega)), show hd' + 1 + (st - (hd' + 1)) = st by omega] at a1
      omega
    have go : ∀ (r i G : Nat) (s : Sg) (M : Nat) (tr : Nat → Nat), i + r = e → hd' + 1 ≤ i → CGR S s M tr → RGF sc s → (∀ c, c < M → ∃ a : Nat, s 76 c = (a : Int) ∧ EDG T sc sm S a (tr c)) → (∀ a b, a < k → EDG T sc sm S a b → ∃ c, c < M ∧ s 76 c = (a : Int) ∧ tr c = b) → (∀ q b, hd' < q → q < i → CLL T q → sc 36 (T.vl q).toNat = ((b : Nat) : Int) → ∃ c, c < M ∧ s 76 c = (k : Int) ∧ tr c = b) → 3 * M ≤ X + 3 * lcT T (hd' + 1) (i - (hd' + 1)) →
        ∃ (s' : Sg) (M' : Nat) (tr' : Nat → Nat), j_165_75 (j_165_47 F) (G + r + 1) (k : Int) (e : Int) (i : Int) s = j_165_47 F ((k + 1 : Nat) : Int) s' ∧ CGR S s' M' tr' ∧ RGF sc s' ∧ (∀ c, c < M' → ∃ a : Nat, s' 76 c = (a : Int) ∧ EDG T sc sm S a (tr' c)) ∧ (∀ a b, a < k → EDG T sc sm S a b → ∃ c, c < M' ∧ s' 76 c = (a : Int) ∧ tr' c = b) ∧ (∀ q b, hd' < q → q < e → CLL T q → sc 36 (T.vl q).toNat = ((b : Nat) : Int) → ∃ c, c < M' ∧ s' 76 c = (k : Int) ∧ tr' c = b) ∧ 3 * M' ≤ X + (e - st) := by
      intro r
      induction r with
      | zero =>
        intro i G s M tr hi h1 q1 q2 q3 q4 q5 q6
        refine ⟨s, M, tr, ?_, q1, q2, q3, q4, fun q b u v => q5 q b u (by omega), ?_⟩
        · rw [j_165_75, if_pos (by omega), k96]
        · have := lcb i h1 (by omega)
          omega
      | succ r ih =>
        intro i G s M tr hi h1 q1 q2 q3 q4 q5 q6
        obtain ⟨w1, w2, w3⟩ := c171 hT q2 hC (k := i) (by omega)
        have lb := lcb i h1 (by omega)
        rw [show G + (r + 1) + 1 = (G + r + 1) + 1 by omega, j_165_75, if_neg (by omega), gd_pos w1, w32_nat (by omega)]
        have lsucc : lcT T (hd' + 1) (i + 1 - (hd' + 1)) = lcT T (hd' + 1) (i - (hd' + 1)) + (if T.tk i = 1 ∧ T.tk (i + 1) = 40 then 1 else 0) := by
          rw [show i + 1 - (hd' + 1) = (i - (hd' + 1)) + 1 by omega]
          show lcT T (hd' + 1) (i - (hd' + 1)) + (if T.tk (hd' + 1 + (i - (hd' + 1))) = 1 ∧ T.tk (hd' + 1 + (i - (hd' + 1)) + 1) = 40 then 1 else 0) = _
          rw [show hd' + 1 + (i - (hd' + 1)) = i by omega]
        by_cases cc : CLL T i
        · obtain ⟨b, m, bS, e36, -⟩ := ca i (by omega) (by omega) cc
          obtain ⟨s', g1, g2, g3, g4, g5, g6⟩ := c172 (a := k) (b := b) q2 h54 hS8 q1 (by omega) hk bS
          rw [w2 cc, e36, gd_pos g1, g2, Option.bind_some]
          have ed : EDG T sc sm S k b := ⟨hk, bS, hd', st, e, i, hl, by omega, by omega, cc, e36⟩
          refine ih (i + 1) G s' (M + 1) (fun c => if c = M then b else tr c) (by omega) (by omega) g4 g3 (fun c hc => ?_) (fun a' b' u v => ?_) (fun q b' u v z z2 => ?_) (by rw [lsucc, if_pos (show T.tk i = 1 ∧ T.tk (i + 1) = 40 from cc)]; omega)
          · by_cases e1 : c = M
            · exact ⟨k, by rw [e1]; exact g5, by show EDG T sc sm S k (if c = M then b else tr c); rw [if_pos e1]; exact ed⟩
            · obtain ⟨a', x1, x2⟩ := q3 c (by omega)
              exact ⟨a', by rw [g6 c e1]; exact x1, by show EDG T sc sm S a' (if c = M then b else tr c); rw [if_neg e1]; exact x2⟩
          · obtain ⟨c, x1, x2, x3⟩ := q4 a' b' u v
            exact ⟨c, by omega, by rw [g6 c (by omega)]; exact x2, by show (if c = M then b else tr c) = b'; rw [if_neg (by omega)]; exact x3⟩
          · by_cases e1 : q = i
            · subst e1
              refine ⟨M, by omega, g5, ?_⟩
              show (if M = M then b else tr M) = b'
              rw [if_pos rfl]
              omega
            · obtain ⟨c, x1, x2, x3⟩ := q5 q b' u (by omega) z z2
              exact ⟨c, by omega, by rw [g6 c (by omega)]; exact x2, by show (if c = M then b else tr c) = b'; rw [if_neg (by omega)]; exact x3⟩
        · obtain ⟨g1, g2⟩ := c172n (s := s) (a := k) c173n
          rw [w3 cc, gd_pos g1, g2, Option.bind_some]
          refine ih (i + 1) G s M tr (by omega) (by omega) q1 q2 q3 q4 (fun q b' u v z z2 => ?_) (by rw [lsucc, if_neg (show ¬ (T.tk i = 1 ∧ T.tk (i + 1) = 40) from cc)]; omega)
          by_cases e1 : q = i
          · rw [e1] at z; exact absurd z cc
          · exact q5 q b' u (by omega) z z2
    obtain ⟨G, hG⟩ := FU_split (k := (e - (hd' + 1)) + 1) (by omega)
    obtain ⟨s', M', tr', x1, x2, x3, x4, x5, x6, x7⟩ := go (e - (hd' + 1)) (hd' + 1) G s M tr (by omega) (Nat.le_refl _) c1 c2 c3 c4 (fun q b u v => absurd v (by omega)) (by omega)
    rw [show G + (e - (hd' + 1)) + 1 = FU by omega] at x1
    rw [e170 st e hl, Option.bind_some, gd_pos p7, e187, w32_nat (by omega), x1]
    refine ⟨s', M', tr', e, rfl, x2, x3, x4, fun a' b' u ed => ?_, by omega, by omega, fun j u v z => ?_⟩
    · by_cases e1 : a' = k
      · subst e1
        obtain ⟨_, _, hd2, st2, e2, q, hl2, k1, k2, k3, k4⟩ := ed
        have eh : hd2 = hd' := by have := hl2.1; omega
        subst eh
        have ee : e2 = e := hl2.2.2.2.2.2.2.1.uniq l7
        subst ee
        exact x6 q b' k1 k2 k3 k4
      · exact x5 a' b' (by omega) ed
    · have := (lor k hk h2 e (by rw [l2, Int.toNat_natCast]; exact l7)).2 j (by omega) v
      omega
  · obtain ⟨G, hG⟩ := FU_split (k := 1) (by omega)
    rw [e170n h2, Option.bind_some, gd_pos p7, e187, w32_nat (by omega), hG, j_165_75, if_pos (by omega), k96]
    refine ⟨s, M, tr, X, rfl, c1, c2, c3, fun a' b' u ed => ?_, c5, c6, fun j u v z => c7 j (by omega) v z⟩
    by_cases e1 : a' = k
    · subst e1
      obtain ⟨_, _, hd2, st2, e2, q, hl2, -⟩ := ed
      exact absurd hl2.2.2.1 h2
    · exact c4 a' b' (by omega) ed
theorem c165 (h : CKX T sc sm n' t S P A N K C w) (g : GOOD T sc sm S A N w) (n6 : ¬ BD6 T sm S A N) (n7 : ¬ BD7 T sm S A N) (h54 : sc 54 6 = (S : Int)) (hS8 : S ≤ 1171) : ∃ (s' : Sg) (M : Nat) (tr : Nat → Nat), f_165 sc = some s' ∧ CGE T sc sm S s' M tr := by
  have hT := h.1
  have hD := h.2.2.2.1
  have z8 := hT.1
  -- rows are cleared
  have clr : ∀ (r l F : Nat) (s : Sg), l + r = S → RGF sc s → s 74 7 = 0 → (∀ i, i < l → s 75 i = -1 ∧ s 78 i = 0) → ∃ s' : Sg, j_165_7 (F + r + 1) (l : Int) s = j_165_45 s' ∧ RGF sc s' ∧ s' 74 7 = 0 ∧ (∀ i, i < S → s' 75 i = -1 ∧ s' 78 i = 0) := by
    intro r
    induction r with
    | zero =>
      intro l F s hl q1 q2 q3
      exact ⟨s, by rw [j_165_7, q1 54 (by decide), h54, if_pos (by omega)], q1, q2, fun i hi => q3 i (by omega)⟩
    | succ r ih =>
      intro l F s hl q1 q2 q3
      rw [show F + (r + 1) + 1 = (F + r + 1) + 1 by omega, j_165_7, q1 54 (by decide), h54, if_neg (by omega), if_neg (by omega), gd_pos (by omega), gd_pos (by omega), w32_nat (by omega), Int.toNat_natCast]
      refine ih (l + 1) F _ (by omega) (fun c x => by rw [u2_row _ _ _ (by omega), u2_row _ _ _ (by omega)]; exact q1 c x) (by rw [u2_row _ _ _ (by decide), u2_row _ _ _ (by decide)]; exact q2) (fun i hi => ?_)
      by_cases e : i = l
      · rw [e]
        exact ⟨by rw [u2_row _ _ _ (by decide)]; exact u2_same _ _ _ _, u2_same _ _ _ _⟩
      · obtain ⟨x1, x2⟩ := q3 i (by omega)
        exact ⟨by rw [u2_row _ _ _ (by decide), u2_col _ _ _ e]; exact x1, by rw [u2_col _ _ _ e, u2_row _ _ _ (by decide)]; exact x2⟩
  obtain ⟨F, hF⟩ := FU_split (k := S + 1) (by omega)
  obtain ⟨s1, e1, r1, r2, r3⟩ := clr S 0 F (ax_u2 sc 74 7 0) (by omega) (fun c x => u2_row _ _ _ (by omega)) (u2_same _ _ _ _) (fun i hi => absurd hi (by omega))
  rw [show F + S + 1 = FU by omega] at e1
  have go : ∀ (r k G : Nat) (s : Sg) (M : Nat) (tr : Nat → Nat) (X : Nat), k + r = S → CLN T sc sm S k s M tr X → ∃ (s' : Sg) (M' : Nat) (tr' : Nat → Nat) (X' : Nat), j_165_47 (G + r + 1) (k : Int) s = some s' ∧ CLN T sc sm S S s' M' tr' X' := by
    intro r
    induction r with
    | zero =>
      intro k G s M tr X hk cl
      rw [show k = S by omega] at cl ⊢
      exact ⟨s, M, tr, X, by rw [j_165_47, cl.2.1 54 (by decide), h54, if_pos (by omega)], cl⟩
    | succ r ih =>
      intro k G s M tr X hk cl
      obtain ⟨s', M', tr', X', x1, x2⟩ := col_step (F := G + r + 1) h g n6 n7 h54 hS8 (k := k) (by omega) cl
      rw [show G + (r + 1) + 1 = (G + r + 1) + 1 by omega, x1]
      exact ih (k + 1) G s' M' tr' X' (by omega) x2
  have cl0 : CLN T sc sm S 0 s1 0 (fun _ => 0) 0 := by
    refine ⟨⟨r2, fun c hc => absurd hc (by omega), fun b hb => Or.inl ⟨(r3 b hb).1, fun c hc => absurd hc (by omega)⟩, fun a ha => (r3 a ha).2⟩, r1, fun c hc => absurd hc (by omega), fun a b ha => absurd ha (by omega), by omega, by omega, fun j _ hj z => ?_⟩
    obtain ⟨hd, p0, pc, n0, b1, b2, -⟩ := hD.1 j hj
    omega
  obtain ⟨s', M, tr, X, x1, c1, c2, c3, c4, c5, c6, c7⟩ := go S 0 F s1 0 _ 0 (by omega) cl0
  rw [show F + S + 1 = FU by omega] at x1
  refine ⟨s', M, tr, ?_, c1, by omega, c2, c3, fun a b ed => c4 a b ed.1 ed⟩
  unfold f_165
  have e1' : j_165_7 FU 0 (ax_u2 sc 74 7 0) = _ := e1
  rw [e1']
  exact x1
end COL
/-! RINGS: the class takes away what calls none that is left. -/
/-- the queue: Q of them, ST the calls that are settled -/
def KQ (S M : Nat) (tr : Nat → Nat) (s : Sg) (Q : Nat) (ST : Nat → Prop) : Prop := s 74 11 = (Q : Int) ∧ (∀ j, j < Q → ∃ a : Nat, s 80 j = (a : Int) ∧ a < S) ∧ (∀ j j', j < Q → j' < Q → s 80 j = s 80 j' → j = j') ∧ Q = cnt (fun a => ∃ j, j < Q ∧ s 80 j = (a : Int)) S ∧ (∀ a, a < S → s 78 a = ((cnt (fun c => s 76 c = (a : Int) ∧ ¬ ST c) M : Nat) : Int)) ∧ (∀ j c, j < Q → c < M → s 76 c = s 80 j → ∃ j', j' < j ∧ s 80 j' = ((tr c : Nat) : Int))
def INQ (s : Sg) (Q a : Nat) : Prop := ∃ j, j < Q ∧ s 80 j = (a : Int)
/-- what the queue leaves alone -/
def KFR (s s' : Sg) : Prop := (∀ b, ¬ (b = 74 ∨ b = 78 ∨ b = 80) → s' b = s b) ∧ (∀ j, j ≠ 11 → s' 74 j = s 74 j)
section KAH
variable {T : TT} {sc sm s s' : Sg} {S M Q a b : Nat} {tr : Nat → Nat} {ST ST' : Nat → Prop}
theorem KFR.refl (s : Sg) : KFR s s := ⟨fun _ _ => rfl, fun _ _ => rfl⟩
theorem KFR.trans {s2 : Sg} (h : KFR s s') (k : KFR s' s2) : KFR s s2 := ⟨fun b x => (k.1 b x).trans (h.1 b x), fun j x => (k.2 j x).trans (h.2 j x)⟩
theorem KQ.sub (h : KQ S M tr s Q ST) (e : ∀ c, c < M → (ST c ↔ ST' c)) : KQ S M tr s Q ST' := by
  obtain ⟨h1, h2, h3, h4, h5, h6⟩ := h
  refine ⟨h1, h2, h3, h4, fun a ha => ?_, h6⟩
  rw [h5 a ha, cnt_c M (p := fun c => s 76 c = (a : Int) ∧ ¬ ST c) (p' := fun c => s 76 c = (a : Int) ∧ ¬ ST' c) (fun c hc => by rw [e c hc])]
/-- one more is put there -/
theorem kq_enq (h : KQ S M tr s Q ST) (hS8 : S ≤ 1171) (ha : a < S) (hn : ¬ INQ s Q a) (hc : ∀ c, c < M → s 76 c = (a : Int) → ∃ j, j < Q ∧ s 80 j = ((tr c : Nat) : Int)) : ∃ s' : Sg, g_174 (a : Int) s ∧ f_174 (a : Int) s = s' ∧ KQ S M tr s' (Q + 1) ST ∧ KFR s s' ∧ s' 78 = s 78 ∧ (∀ j, j < Q → s' 80 j = s 80 j) ∧ s' 80 Q = (a : Int) := by
  obtain ⟨h1, h2, h3, h4, h5, h6⟩ := h
  have q8 : Q < S := by
    have := cnt_lt (p := fun a => ∃ j, j < Q ∧ s 80 j = (a : Int)) ha hn
    omega
  obtain ⟨s', hs'⟩ : ∃ s' : Sg, s' = ax_u2 (ax_u2 s 80 Q (a : Int)) 74 11 ((Q + 1 : Nat) : Int) := ⟨_, rfl⟩
  have r : ∀ c, c ≠ 74 → c ≠ 80 → s' c = s c := fun c x y => by rw [hs', u2_row _ _ _ x, u2_row _ _ _ y]
  have v80 : s' 80 Q = (a : Int) := by rw [hs', u2_row _ _ _ (by decide)]; exact u2_same _ _ _ _
  have v80' : ∀ j, j ≠ Q → s' 80 j = s 80 j := fun j x => by rw [hs', u2_row _ _ _ (by decide), u2_col _ _ _ x]
  have inq : ∀ x : Nat, (∃ j, j < Q + 1 ∧ s' 80 j = (x : Int)) ↔ (∃ j, j < Q ∧ s 80 j = (x : Int)) ∨ x = a := fun x => by
    constructor
    · intro ⟨j, y1, y2⟩
      by_cases e : j = Q
      · rw [e, v80] at y2; exact Or.inr (by omega)
      · rw [v80' j e] at y2; exact Or.inl ⟨j, by omega, y2⟩
    · intro y
      rcases y with ⟨j, y1, y2⟩ | y
      · exact ⟨j, by omega, by rw [v80' j (by omega)]; exact y2⟩
      · exact ⟨Q, by omega, by rw [v80, y]⟩
  refine ⟨s', ?_, ?_, ⟨by rw [hs']; exact u2_same _ _ _ _, fun j hj => ?_, fun j j' hj hj' e => ?_, ?_, fun x hx => ?_, fun j c hj hc' e => ?_⟩, ⟨fun b x => r b (by omega) (by omega), fun j x => by rw [hs', u2_col _ _ _ x, u2_row _ _ _ (by decide)]⟩, r 78 (by decide) (by decide), fun j hj => v80' j (by omega), v80⟩
  · unfold g_174
    rw [h1]
    exact ⟨fun _ => trivial, fun _ => ⟨by omega, trivial⟩⟩
  · unfold f_174
    rw [h1, if_neg (by omega), Int.toNat_natCast, w32_nat (by omega), hs']
  · by_cases e : j = Q
    · exact ⟨a, by rw [e]; exact v80, ha⟩
    · obtain ⟨x, x1, x2⟩ := h2 j (by omega)
      exact ⟨x, by rw [v80' j e]; exact x1, x2⟩
  · by_cases e1 : j = Q
    · by_cases e2 : j' = Q
      · omega
      · rw [e1, v80, v80' j' e2] at e
        exact absurd ⟨j', by omega, e.symm⟩ hn
    · by_cases e2 : j' = Q
      · rw [e2, v80, v80' j e1] at e
        exact absurd ⟨j, by omega, e⟩ hn
      · rw [v80' j e1, v80' j' e2] at e
        exact h3 j j' (by omega) (by omega) e
  · rw [cnt_u S ha (p := fun x => ∃ j, j < Q ∧ s 80 j = ((x : Nat) : Int)) (p' := fun x => ∃ j, j < Q + 1 ∧ s' 80 j = ((x : Nat) : Int)) hn ((inq a).mpr (Or.inr rfl)) (fun x _ hx => by rw [inq x]; exact ⟨fun y => Or.inl y, fun y => by rcases y with y | y; exact y; exact absurd y hx⟩), ← h4]
  · rw [r 78 (by decide) (by decide), r 76 (by decide) (by decide)]
    exact h5 x hx
  · rw [r 76 (by decide) (by decide)] at e
    by_cases e1 : j = Q
    · rw [e1, v80] at e
      obtain ⟨j', y1, y2⟩ := hc c hc' e
      exact ⟨j', by omega, by rw [v80' j' (by omega)]; exact y2⟩
    · rw [v80' j e1] at e
      obtain ⟨j', y1, y2⟩ := h6 j c (by omega) hc' e
      exact ⟨j', y1, by rw [v80' j' (by omega)]; exact y2⟩
/-- one call is settled -/
theorem c177 (h : KQ S M tr s Q ST) (hs : RGF sc s) (h54 : sc 54 6 = (S : Int)) (hS8 : S ≤ 1171) (hM : M ≤ 2730) (iq : ∀ x, x < S → (INQ s Q x ↔ s 78 x = 0)) {c0 : Nat} (hc0 : c0 < M) (e0 : s 76 c0 = (a : Int)) (ha : a < S) (ns : ¬ ST c0) (hST : ∀ c, c < M → (ST' c ↔ ST c ∨ c = c0)) (hq : ∀ c, c < M → ST' c → ∃ j, j < Q ∧ s 80 j = ((tr c : Nat) : Int)) : ∃ (s' : Sg) (Q' : Nat), f_177 (a : Int) s = some s' ∧ KQ S M tr s' Q' ST' ∧ KFR s s' ∧ Q ≤ Q' ∧ (∀ j, j < Q → s' 80 j = s 80 j) ∧ (∀ x, x < S → (INQ s' Q' x ↔ s' 78 x = 0)) := by
  obtain ⟨h1, h2, h3, h4, h5, h6⟩ := id h
  have f1 := c173 hs h54 hS8 ha
  have cu : cnt (fun c => s 76 c = (a : Int) ∧ ¬ ST c) M = cnt (fun c => s 76 c = (a : Int) ∧ ¬ ST' c) M + 1 := cnt_u M hc0 (p := fun c => s 76 c = (a : Int) ∧ ¬ ST' c) (p' := fun c => s 76 c = (a : Int) ∧ ¬ ST c) (fun y => y.2 ((hST c0 hc0).mpr (Or.inr rfl))) ⟨e0, ns⟩ (fun i hi hne => by
    constructor
    · intro y; exact ⟨y.1, fun z => y.2 ((hST i hi).mpr (Or.inl z))⟩
    · intro y; exact ⟨y.1, fun z => by rcases (hST i hi).mp z with u | u; exact y.2 u; exact hne u⟩)
  have cl := cnt_le (p := fun c => s 76 c = (a : Int) ∧ ¬ ST c) M
  have e78 := h5 a ha
  obtain ⟨s1, hs1⟩ : ∃ s1 : Sg, s1 = ax_u2 s 78 a (s 78 a - 1) := ⟨_, rfl⟩
  have r1 : ∀ c, c ≠ 78 → s1 c = s c := fun c x => by rw [hs1, u2_row _ _ _ x]
  have v78 : s1 78 a = s 78 a - 1 := by rw [hs1]; exact u2_same _ _ _ _
  have v78' : ∀ x, x ≠ a → s1 78 x = s 78 x := fun x y => by rw [hs1, u2_col _ _ _ y]
  have k1 : KQ S M tr s1 Q ST' := by
    refine ⟨by rw [r1 74 (by decide)]; exact h1, fun j hj => by rw [r1 80 (by decide)]; exact h2 j hj, fun j j' x y => by rw [r1 80 (by decide)]; exact h3 j j' x y, by rw [r1 80 (by decide)]; exact h4, fun x hx => ?_, fun j c x y => by rw [r1 76 (by decide), r1 80 (by decide)]; exact h6 j c x y⟩
    rw [r1 76 (by decide)]
    by_cases e : x = a
    · subst e
      rw [v78]
      omega
    · rw [v78' x e, h5 x hx, cnt_c M (p := fun c => s 76 c = (x : Int) ∧ ¬ ST c) (p' := fun c => s 76 c = (x : Int) ∧ ¬ ST' c) (fun c hc => ?_)]
      constructor
      · intro y; exact ⟨y.1, fun z => by
          rcases (hST c hc).mp z with u | u
          · exact y.2 u
          · rw [u, e0] at y
            have := y.1
            omega⟩
      · intro y; exact ⟨y.1, fun z => y.2 ((hST c hc).mpr (Or.inl z))⟩
  have fr1 : KFR s s1 := ⟨fun b x => r1 b (by omega), fun j _ => by rw [r1 74 (by decide)]⟩
  have e177 : f_177 (a : Int) s = (if ¬ (s1 78 a) = 0 then some s1 else gd (g_174 (a : Int) s1) ((some (f_174 (a : Int) s1)).bind fun q1 => some q1)) := by
    unfold f_177
    rw [f1, if_neg (by decide), gd_pos (by omega), gd_pos (by omega), gd_pos (by omega), Int.toNat_natCast, w32_id (by omega) (by omega), ← hs1]
  rw [e177]
  have na : ¬ INQ s Q a := fun y => by
    have := (iq a ha).mp y
    omega
  by_cases d : s1 78 a = 0
  · obtain ⟨s', g1, g2, g3, g4, g5, g6, g7⟩ := kq_enq k1 hS8 ha (fun ⟨j, y1, y2⟩ => na ⟨j, y1, by rw [r1 80 (by decide)] at y2; exact y2⟩) (fun c hc e => by
      rw [r1 76 (by decide)] at e
      have z := k1.2.2.2.2.1 a ha
      rw [d, r1 76 (by decide)] at z
      have st : ST' c := Classical.byContradiction (fun u => cnt_0 M (p := fun c => s 76 c = (a : Int) ∧ ¬ ST' c) (by omega) c hc ⟨e, u⟩)
      obtain ⟨j, y1, y2⟩ := hq c hc st
      exact ⟨j, y1, by rw [r1 80 (by decide)]; exact y2⟩)
    rw [if_neg (fun e => e d), gd_pos g1, g2, Option.bind_some]
    refine ⟨s', Q + 1, rfl, g3, fr1.trans g4, by omega, fun j hj => by rw [g6 j hj, r1 80 (by decide)], fun x hx => ?_⟩
    rw [g5]
    by_cases e : x = a
    · rw [e]
      exact ⟨fun _ => d, fun _ => ⟨Q, by omega, g7⟩⟩
    · rw [v78' x e, ← iq x hx]
      constructor
      · intro ⟨j, y1, y2⟩
        by_cases e2 : j = Q
        · rw [e2, g7] at y2; omega
        · rw [g6 j (by omega), r1 80 (by decide)] at y2
          exact ⟨j, by omega, y2⟩
      · intro ⟨j, y1, y2⟩
        exact ⟨j, by omega, by rw [g6 j y1, r1 80 (by decide)]; exact y2⟩
  · rw [if_pos d]
    refine ⟨s1, Q, rfl, k1, fr1, Nat.le_refl _, fun j _ => by rw [r1 80 (by decide)], fun x hx => ?_⟩
    unfold INQ
    rw [r1 80 (by decide)]
    by_cases e : x = a
    · rw [e]
      exact ⟨fun y => absurd y na, fun y => absurd y d⟩
    · rw [v78' x e]
      exact iq x hx
end KAH
/-! RINGS: is the class's graph free? -/
section FRE
variable {T : TT} {sc sm s s' s0 : Sg} {n' S P A N K C w M Q a b : Nat} {t : Nat → Int} {tr : Nat → Nat}
theorem c176 (h7 : s 74 7 = (M : Int)) (hM : M ≤ 2730) {c : Nat} (hc : c < M) : f_176 (c : Int) s = 1 := by
  unfold f_176
  rw [h7, if_neg (by omega), if_neg (by omega), if_neg (by omega)]
theorem c176n : f_176 (-1) s = 0 := by
  unfold f_176
  rw [if_pos (by decide)]
theorem c175 (hs : RGF sc s) (h54 : sc 54 6 = (S : Int)) (hS8 : S ≤ 1171) (hb : b < S) : g_175 (b : Int) s ∧ f_175 (b : Int) s = s 75 b := by
  have f1 := c173 hs h54 hS8 hb
  unfold g_175 f_175
  rw [f1, if_neg (by decide), Int.toNat_natCast]
  exact ⟨⟨fun _ => trivial, fun _ => ⟨by omega, trivial⟩⟩, rfl⟩
/-- the calls of one that is taken away -/
theorem kah_in (h54 : sc 54 6 = (S : Int)) (hS8 : S ≤ 1171) (hM : M ≤ 2730) (hs0 : RGF sc s0) (hg : CGR S s0 M tr) {i Q0 : Nat} (hi : i < Q0) {q0 : Nat → Int} (hb : b < S) (qb : q0 i = (b : Int)) (qd : ∀ j, j < i → q0 j ≠ (b : Int)) (k48 : Int → Sg → Option (Int × Sg)) (hi8 : i < 1171) :
    ∀ (lo l3 F : Nat) (p : Int) (s : Sg) (Q : Nat), lo + l3 ≤ M → LN tr b lo p → KQ S M tr s Q (fun c => (∃ j, j < i ∧ q0 j = ((tr c : Nat) : Int)) ∨ (tr c = b ∧ lo ≤ c)) → (∀ x, x < S → (INQ s Q x ↔ s 78 x = 0)) → KFR s0 s → Q0 ≤ Q → (∀ j, j < Q0 → s 80 j = q0 j) →
      ∃ (s' : Sg) (Q' : Nat), j_166_76 k48 (F + lo + 1) (i : Int) p (l3 : Int) s = k48 ((i + 1 : Nat) : Int) s' ∧ KQ S M tr s' Q' (fun c => ∃ j, j < i + 1 ∧ q0 j = ((tr c : Nat) : Int)) ∧ (∀ x, x < S → (INQ s' Q' x ↔ s' 78 x = 0)) ∧ KFR s0 s' ∧ Q ≤ Q' ∧ (∀ j, j < Q → s' 80 j = s 80 j) := by
  intro lo
  induction lo using Nat.strongRecOn with
  | _ lo ih =>
  intro l3 F p s Q hl ln kq iq fr hQ h80
  have k115 : ∀ z : Sg, j_166_115 k48 (i : Int) z = k48 ((i + 1 : Nat) : Int) z := fun z => by
    unfold j_166_115
    rw [w32_nat (by omega)]
  rcases ln with ⟨e1, e2⟩ | ⟨c0, c1, c2, c3, c4⟩
  · refine ⟨s, Q, ?_, kq.sub (fun c hc => ?_), iq, fr, Nat.le_refl _, fun _ _ => rfl⟩
    · rw [j_166_76, e1, c176n, if_pos rfl, k115]
    · constructor
      · intro y
        rcases y with ⟨j, y1, y2⟩ | ⟨y1, _⟩
        · exact ⟨j, by omega, y2⟩
        · exact ⟨i, by omega, by rw [qb, y1]⟩
      · intro ⟨j, y1, y2⟩
        by_cases e : j = i
        · rw [e, qb] at y2
          have e3 : tr c = b := by omega
          exact Or.inr ⟨e3, by
            apply Decidable.byContradiction
            intro hn
            exact e2 c (by omega) e3⟩
        · exact Or.inl ⟨j, by omega, y2⟩
  · subst c2
    have h7 : s 74 7 = (M : Int) := by rw [fr.2 7 (by decide)]; exact hg.1
    have hs : RGF sc s := fun b x => by rw [fr.1 b (by omega)]; exact hs0 b x
    obtain ⟨a, a1, a2, a3, a4⟩ := hg.2.1 c0 (by omega)
    have a1' : s 76 c0 = (a : Int) := by rw [fr.1 76 (by decide)]; exact a1
    obtain ⟨s1, Q1, x1, x2, x3, x4, x5, x6⟩ := c177 (ST' := fun c => (∃ j, j < i ∧ q0 j = ((tr c : Nat) : Int)) ∨ (tr c = b ∧ c0 ≤ c)) kq hs h54 hS8 hM iq (c0 := c0) (by omega) a1' a2 (fun y => by
        rcases y with ⟨j, y1, y2⟩ | ⟨_, y2⟩
        · rw [c3] at y2
          exact qd j y1 y2
        · omega) (fun c hc => by
        constructor
        · intro y
          rcases y with y | ⟨y1, y2⟩
          · exact Or.inl (Or.inl y)
          · by_cases e : c = c0
            · exact Or.inr e
            · refine Or.inl (Or.inr ⟨y1, ?_⟩)
              apply Decidable.byContradiction
              intro hn
              exact c4 c (by omega) (by omega) y1
        · intro y
          rcases y with (y | ⟨y1, y2⟩) | y
          · exact Or.inl y
          · exact Or.inr ⟨y1, by omega⟩
          · rw [y]; exact Or.inr ⟨c3, Nat.le_refl _⟩) (fun c hc y => by
        rcases y with ⟨j, y1, y2⟩ | ⟨y1, _⟩
        · exact ⟨j, by omega, by rw [h80 j (by omega)]; exact y2⟩
        · exact ⟨i, by omega, by rw [h80 i hi, qb, y1]⟩)
    have e77 : s1 77 c0 = s0 77 c0 := by rw [x3.1 77 (by decide), fr.1 77 (by decide)]
    obtain ⟨s', Q', y1, y2, y3, y4, y5, y6⟩ := ih c0 (by omega) (l3 + 1) (F + (lo - c0 - 1)) (s0 77 c0) s1 Q1 (by omega) (by rw [c3] at a4; exact a4) x2 x6 (fr.trans x3) (by omega) (fun j hj => by rw [x5 j (by omega)]; exact h80 j hj)
    refine ⟨s', Q', ?_, y2, y3, y4, by omega, fun j hj => by rw [y6 j (by omega)]; exact x5 j hj⟩
    rw [show F + lo + 1 = (F + (lo - c0 - 1) + c0 + 1) + 1 by omega, j_166_76, c176 h7 hM (by omega), if_neg (by decide), h7, if_neg (by omega), gd_pos (by omega), Int.toNat_natCast, a1', x1, Option.bind_some, gd_pos (by omega), e77, w32_nat (by omega), y1]
theorem c166 (h54 : sc 54 6 = (S : Int)) (hS8 : S ≤ 1171) (hM : M ≤ 2730) (hs0 : RGF sc s0) (hg : CGR S s0 M tr) : ∃ (s' : Sg) (Q : Nat), f_166 s0 = some ((if Q < S then 0 else 1 : Int), s') ∧ (S ≤ Q → ∃ f : Nat → Nat, ∀ c, c < M → ∀ a : Nat, s0 76 c = (a : Int) → f (tr c) < f a) ∧ (∀ b, ¬ (b = 74 ∨ b = 78 ∨ b = 80) → s' b = s0 b) ∧ (∀ j, j ≠ 11 → s' 74 j = s0 74 j) := by
  obtain ⟨s1, hs1⟩ : ∃ s1 : Sg, s1 = ax_u2 s0 74 11 0 := ⟨_, rfl⟩
  have fr0 : KFR s0 s1 := ⟨fun b x => by rw [hs1, u2_row _ _ _ (by omega)], fun j x => by rw [hs1, u2_col _ _ _ x]⟩
  have r78 : s1 78 = s0 78 := by rw [hs1, u2_row _ _ _ (by decide)]
  have r76 : s1 76 = s0 76 := by rw [hs1, u2_row _ _ _ (by decide)]
  have k0 : KQ S M tr s1 0 (fun _ => False) := by
    refine ⟨by rw [hs1]; exact u2_same _ _ _ _, fun j hj => absurd hj (by omega), fun j j' hj => absurd hj (by omega), (cnt_z S (fun i _ ⟨j, y, _⟩ => by omega)).symm, fun a ha => ?_, fun j c hj => absurd hj (by omega)⟩
    rw [r78, r76, hg.2.2.2 a ha, cnt_c M (p := fun c => s0 76 c = (a : Int)) (p' := fun c => s0 76 c = (a : Int) ∧ ¬ False) (fun c _ => ⟨fun y => ⟨y, fun z => z⟩, fun y => y.1⟩)]
  -- those that call none
  have ph1 : ∀ (r l F : Nat) (s : Sg) (Q : Nat), l + r = S → KQ S M tr s Q (fun _ => False) → KFR s0 s → s 78 = s0 78 → (∀ x, x < S → (INQ s Q x ↔ x < l ∧ s 78 x = 0)) → ∃ (s' : Sg) (Q' : Nat), j_166_7 (F + r + 1) (l : Int) s = j_166_46 s' ∧ KQ S M tr s' Q' (fun _ => False) ∧ KFR s0 s' ∧ (∀ x, x < S → (INQ s' Q' x ↔ s' 78 x = 0)) := by
    intro r
    induction r with
    | zero =>
      intro l F s Q hl kq fr e78 iq
      refine ⟨s, Q, ?_, kq, fr, fun x hx => by rw [iq x hx]; exact ⟨fun y => y.2, fun y => ⟨by omega, y⟩⟩⟩
      rw [j_166_7, fr.1 54 (by decide), hs0 54 (by decide), h54, if_pos (by omega)]
    | succ r ih =>
      intro l F s Q hl kq fr e78 iq
      have hs : RGF sc s := fun b x => by rw [fr.1 b (by omega)]; exact hs0 b x
      have k40 : ∀ z : Sg, j_166_40 (j_166_7 (F + r + 1)) (l : Int) z = j_166_7 (F + r + 1) ((l + 1 : Nat) : Int) z := fun z => by
        unfold j_166_40
        rw [w32_nat (by omega)]
      rw [show F + (r + 1) + 1 = (F + r + 1) + 1 by omega, j_166_7, hs 54 (by decide), h54, if_neg (by omega), c173 hs h54 hS8 (a := l) (by omega), if_neg (by decide), gd_pos (by omega), Int.toNat_natCast]
      by_cases d : s 78 l = 0
      · have z : (0 : Int) = ((cnt (fun c => s 76 c = (l : Int) ∧ ¬ False) M : Nat) : Int) := by rw [← d]; exact kq.2.2.2.2.1 l (by omega)
        obtain ⟨s', g1, g2, g3, g4, g5, g6, g7⟩ := kq_enq kq hS8 (a := l) (by omega) (fun y => by
          have := (iq l (by omega)).mp y
          omega) (fun c hc e => absurd ⟨e, fun u => u⟩ (cnt_0 M (p := fun c => s 76 c = (l : Int) ∧ ¬ False) (by omega) c hc))
        rw [if_neg (fun e => e d), gd_pos g1, g2, Option.bind_some, k40]
        refine ih (l + 1) F s' (Q + 1) (by omega) g3 (fr.trans g4) (by rw [g5, e78]) (fun x hx => ?_)
        rw [g5]
        constructor
        · intro ⟨j, y1, y2⟩
          by_cases e : j = Q
          · rw [e, g7] at y2
            have ex : x = l := by omega
            rw [ex]
            exact ⟨by omega, d⟩
          · rw [g6 j (by omega)] at y2
            have := (iq x hx).mp ⟨j, by omega, y2⟩
            exact ⟨by omega, this.2⟩
        · intro ⟨y1, y2⟩
          by_cases e : x = l
          · exact ⟨Q, by omega, by rw [g7, e]⟩
          · obtain ⟨j, u1, u2⟩ := (iq x hx).mpr ⟨by omega, y2⟩
            exact ⟨j, by omega, by rw [g6 j u1]; exact u2⟩
      · rw [if_pos d, k40]
        refine ih (l + 1) F s Q (by omega) kq fr e78 (fun x hx => ?_)
        rw [iq x hx]
        constructor
        · intro y; exact ⟨by omega, y.2⟩
        · intro y
          refine ⟨?_, y.2⟩
          by_cases e : x = l
          · rw [e] at y; exact absurd y.2 d
          · omega
  obtain ⟨F, hF⟩ := FU_split (k := S + 1) (by omega)
  obtain ⟨s2, Q2, e2, kq2, fr2, iq2⟩ := ph1 S 0 F s1 0 (by omega) k0 fr0 r78 (fun x hx => ⟨fun ⟨j, y, _⟩ => by omega, fun y => by omega⟩)
  rw [show F + S + 1 = FU by omega] at e2
  -- and those that call only such
  have ph2 : ∀ (r i G : Nat) (s : Sg) (Q : Nat), i + r = S → i ≤ Q → KQ S M tr s Q (fun c => ∃ j, j < i ∧ s 80 j = ((tr c : Nat) : Int)) → (∀ x, x < S → (INQ s Q x ↔ s 78 x = 0)) → KFR s0 s → ∃ (s' : Sg) (Q' : Nat) (ST : Nat → Prop), j_166_48 (G + r + 1) (i : Int) s = j_166_121 s' ∧ KQ S M tr s' Q' ST ∧ KFR s0 s' := by
    intro r
    induction r with
    | zero =>
      intro i G s Q hr hi kq iq fr
      have qS : Q ≤ S := by rw [kq.2.2.2.1]; exact cnt_le S
      refine ⟨s, Q, _, ?_, kq, fr⟩
      rw [j_166_48, kq.1, if_pos (by omega)]
    | succ r ih =>
      intro i G s Q hr hi kq iq fr
      have qS : Q ≤ S := by rw [kq.2.2.2.1]; exact cnt_le S
      have hs : RGF sc s := fun b x => by rw [fr.1 b (by omega)]; exact hs0 b x
      by_cases d : Q ≤ i
      · refine ⟨s, Q, _, ?_, kq, fr⟩
        rw [j_166_48, kq.1, if_pos (by omega)]
      · obtain ⟨b, b1, b2⟩ := kq.2.1 i (by omega)
        obtain ⟨p1, p2⟩ := c175 hs h54 hS8 b2
        have e75 : s 75 b = s0 75 b := by rw [fr.1 75 (by decide)]
        obtain ⟨H, hH⟩ := FU_split (k := M + 1) (by omega)
        obtain ⟨s', Q', y1, y2, y3, y4, y5, y6⟩ := kah_in h54 hS8 hM hs0 hg (i := i) (Q0 := Q) (by omega) (q0 := s 80) b2 b1 (fun j hj e => by
          have := kq.2.2.1 j i (by omega) (by omega) (by rw [e, b1])
          omega) (j_166_48 (G + r + 1)) (by omega) M 0 H (s0 75 b) s Q (by omega) (hg.2.2.1 b b2) (kq.sub (fun c hc => ⟨fun y => Or.inl y, fun y => by
            rcases y with y | y
            · exact y
            · omega⟩)) iq fr (Nat.le_refl _) (fun _ _ => rfl)
        rw [show H + M + 1 = FU by omega] at y1
        have y1' : j_166_76 (j_166_48 (G + r + 1)) FU (i : Int) (s0 75 b) 0 s = _ := y1
        obtain ⟨s3, Q3, ST, z1, z2, z3⟩ := ih (i + 1) G s' Q' (by omega) (by omega) (y2.sub (fun c hc => ⟨fun ⟨j, u1, u2⟩ => ⟨j, u1, by rw [y6 j (by omega)]; exact u2⟩, fun ⟨j, u1, u2⟩ => ⟨j, u1, by rw [y6 j (by omega)] at u2; exact u2⟩⟩)) y3 y4
        refine ⟨s3, Q3, ST, ?_, z2, z3⟩
        rw [show G + (r + 1) + 1 = (G + r + 1) + 1 by omega, j_166_48, kq.1, if_neg (by omega), if_neg (by omega), gd_pos (by omega), Int.toNat_natCast, b1, gd_pos p1, p2, e75, y1', z1]
  obtain ⟨s3, Q3, ST, e3, kq3, fr3⟩ := ph2 S 0 F s2 Q2 (by omega) (Nat.zero_le _) (kq2.sub (fun c hc => ⟨fun y => y.elim, fun ⟨j, y, _⟩ => by omega⟩)) iq2 fr2
  rw [show F + S + 1 = FU by omega] at e3
  refine ⟨s3, Q3, ?_, fun hQ => ?_, fr3.1, fr3.2⟩
  · unfold f_166
    rw [← hs1]
    have e2' : j_166_7 FU 0 s1 = _ := e2
    rw [e2']
    unfold j_166_46
    have e3' : j_166_48 FU 0 s2 = _ := e3
    rw [e3']
    unfold j_166_121
    rw [kq3.1, fr3.1 54 (by decide), hs0 54 (by decide), h54]
    by_cases d : Q3 < S
    · rw [if_pos (by omega), if_pos d]
    · rw [if_neg (by omega), if_neg d]
  · obtain ⟨q1, q2, q3, q4, q5, q6⟩ := kq3
    have all : ∀ x, x < S → ∃ j, j < Q3 ∧ s3 80 j = ((x : Nat) : Int) := cnt_all S (by have := cnt_le (p := fun a => ∃ j, j < Q3 ∧ s3 80 j = ((a : Nat) : Int)) S; omega)
    have ex : ∀ x : Nat, ∃ j : Nat, x < S → j < Q3 ∧ s3 80 j = (x : Int) := fun x => by
      by_cases c : x < S
      · obtain ⟨j, y⟩ := all x c
        exact ⟨j, fun _ => y⟩
      · exact ⟨0, fun y => absurd y c⟩
    refine ⟨fun x => (ex x).choose, fun c hc a ha => ?_⟩
    obtain ⟨a', a1, a2, a3, a4⟩ := hg.2.1 c hc
    have ea : a' = a := by omega
    subst ea
    obtain ⟨j1, j2⟩ := (ex a').choose_spec a2
    obtain ⟨k1, k2⟩ := (ex (tr c)).choose_spec a3
    obtain ⟨j', y1, y2⟩ := q6 (ex a').choose c j1 hc (by rw [fr3.1 76 (by decide), ha, j2])
    have : j' = (ex (tr c)).choose := q3 j' _ (by omega) k1 (by rw [y2, k2])
    show (ex (tr c)).choose < (ex a').choose
    omega
end FRE
/-! RINGS: the class measures, and looks for the nearest. -/
/-- the calls, without what is pending -/
def CGW (S : Nat) (s : Sg) (M : Nat) (tr : Nat → Nat) : Prop := s 74 7 = (M : Int) ∧ (∀ c, c < M → ∃ a : Nat, s 76 c = (a : Int) ∧ a < S ∧ tr c < S ∧ LN tr (tr c) c (s 77 c)) ∧ (∀ b, b < S → LN tr b M (s 75 b))
/-- how far each is, as far as is known -/
def DQ (E : Nat → Nat → Prop) (S told : Nat) (s : Sg) (Q : Nat) : Prop := s 74 11 = (Q : Int) ∧ (∀ j, j < Q → ∃ a : Nat, s 80 j = (a : Int) ∧ a < S) ∧ Q = cnt (fun a => s 79 a ≠ -1) S ∧ (∀ a, a < S → s 79 a ≠ -1 → (0 ≤ s 79 a ∧ s 79 a ≤ (Q : Int)) ∧ WAY E a told ∧ ∃ j, j < Q ∧ s 80 j = (a : Int)) ∧ told < S ∧ s 79 told ≠ -1 ∧ (∀ j, j < Q → ∀ a : Nat, s 80 j = (a : Int) → s 79 a ≠ -1)
def MFR (s s' : Sg) : Prop := (∀ b, ¬ (b = 74 ∨ b = 79 ∨ b = 80) → s' b = s b) ∧ (∀ j, j ≠ 11 → s' 74 j = s 74 j)
section MEA
variable {T : TT} {sc sm s s' s0 : Sg} {n' S P A N K C w M Q a b told : Nat} {t : Nat → Int} {tr : Nat → Nat} {E : Nat → Nat → Prop}
theorem MFR.trans {s2 : Sg} (h : MFR s s') (k : MFR s' s2) : MFR s s2 := ⟨fun b x => (k.1 b x).trans (h.1 b x), fun j x => (k.2 j x).trans (h.2 j x)⟩
theorem c178 (h : DQ E S told s Q) (hs : RGF sc s) (h54 : sc 54 6 = (S : Int)) (hS8 : S ≤ 1171) (ha : a < S) (hb : b < S) (b79 : s 79 b ≠ -1) (ed : E a b) : ∃ (s' : Sg) (Q' : Nat), f_178 (a : Int) (b : Int) s = some s' ∧ DQ E S told s' Q' ∧ MFR s s' ∧ Q ≤ Q' ∧ (∀ j, j < Q → s' 80 j = s 80 j) ∧ (∀ x, s 79 x ≠ -1 → s' 79 x ≠ -1) ∧ s' 79 a ≠ -1 := by
  obtain ⟨h1, h2, h3, h4, h5, h6, h7⟩ := id h
  have f1 := c173 hs h54 hS8 ha
  have f2 := c173 hs h54 hS8 hb
  unfold f_178
  rw [f1, f2, if_neg (by decide), if_neg (by decide), gd_pos (by omega), Int.toNat_natCast, Int.toNat_natCast]
  by_cases d : s 79 a = -1
  · have q8 : Q < S := by
      have := cnt_lt (p := fun a => s 79 a ≠ -1) ha (fun y => y d)
      omega
    obtain ⟨k1, k2, k3⟩ := h4 b hb b79
    obtain ⟨s1, hs1⟩ : ∃ s1 : Sg, s1 = ax_u2 s 79 a (s 79 b + 1) := ⟨_, rfl⟩
    obtain ⟨s2, hs2⟩ : ∃ s2 : Sg, s2 = ax_u2 (ax_u2 s1 80 Q (a : Int)) 74 11 ((Q + 1 : Nat) : Int) := ⟨_, rfl⟩
    have e11 : s1 74 11 = (Q : Int) := by rw [hs1, u2_row _ _ _ (by decide)]; exact h1
    have g174 : g_174 (a : Int) s1 := by
      unfold g_174
      rw [e11]
      exact ⟨fun _ => trivial, fun _ => ⟨by omega, trivial⟩⟩
    have f174 : f_174 (a : Int) s1 = s2 := by
      unfold f_174
      rw [e11, if_neg (by omega), Int.toNat_natCast, w32_nat (by omega), hs2]
    have v79 : s2 79 a = s 79 b + 1 := by rw [hs2, u2_row _ _ _ (by decide), u2_row _ _ _ (by decide), hs1]; exact u2_same _ _ _ _
    have v79' : ∀ x, x ≠ a → s2 79 x = s 79 x := fun x y => by rw [hs2, u2_row _ _ _ (by decide), u2_row _ _ _ (by decide), hs1, u2_col _ _ _ y]
    have v80 : s2 80 Q = (a : Int) := by rw [hs2, u2_row _ _ _ (by decide)]; exact u2_same _ _ _ _
    have v80' : ∀ j, j ≠ Q → s2 80 j = s 80 j := fun j y => by rw [hs2, u2_row _ _ _ (by decide), u2_col _ _ _ y, hs1, u2_row _ _ _ (by decide)]
    have mono : ∀ x, s 79 x ≠ -1 → s2 79 x ≠ -1 := fun x y => by
      by_cases e : x = a
      · rw [e] at y; exact absurd d y
      · rw [v79' x e]; exact y
    rw [if_neg (fun e => e d), gd_pos (by omega), gd_pos (by omega), w32_id (z := s 79 b + 1) (by omega) (by omega), ← hs1, gd_pos g174, f174, Option.bind_some]
    refine ⟨s2, Q + 1, rfl, ⟨by rw [hs2]; exact u2_same _ _ _ _, fun j hj => ?_, ?_, fun x hx y => ?_, h5, mono told h6, fun j hj x y => ?_⟩, ⟨fun b x => by rw [hs2, u2_row _ _ _ (by omega), u2_row _ _ _ (by omega), hs1, u2_row _ _ _ (by omega)], fun j x => by rw [hs2, u2_col _ _ _ x, u2_row _ _ _ (by decide), hs1, u2_row _ _ _ (by decide)]⟩, by omega, fun j hj => v80' j (by omega), mono, by rw [v79]; omega⟩
    · by_cases e : j = Q
      · exact ⟨a, by rw [e]; exact v80, ha⟩
      · obtain ⟨x, x1, x2⟩ := h2 j (by omega)
        exact ⟨x, by rw [v80' j e]; exact x1, x2⟩
    · rw [cnt_u S ha (p := fun a => s 79 a ≠ -1) (p' := fun a => s2 79 a ≠ -1) (fun y => y d) (by show s2 79 a ≠ -1; rw [v79]; omega) (fun i _ hi => by rw [v79' i hi]), ← h3]
    · by_cases e : x = a
      · rw [e, v79]
        exact ⟨by omega, WAY.step ed k2, Q, by omega, v80⟩
      · rw [v79' x e] at y ⊢
        obtain ⟨m1, m2, j, m3, m4⟩ := h4 x hx y
        exact ⟨by omega, m2, j, by omega, by rw [v80' j (by omega)]; exact m4⟩
    · by_cases e : j = Q
      · rw [e, v80] at y
        have : x = a := by omega
        rw [this, v79]
        omega
      · rw [v80' j e] at y
        exact mono x (h7 j (by omega) x y)
  · rw [if_pos d]
    exact ⟨s, Q, rfl, h, ⟨fun _ _ => rfl, fun _ _ => rfl⟩, Nat.le_refl _, fun _ _ => rfl, fun _ y => y, d⟩
theorem mea_in (h54 : sc 54 6 = (S : Int)) (hS8 : S ≤ 1171) (hM : M ≤ 2730) (hs0 : RGF sc s0) (hg : CGW S s0 M tr) (hE : ∀ c, c < M → ∀ a : Nat, s0 76 c = (a : Int) → E a (tr c)) {i : Nat} (hb : b < S) (k61 : Int → Sg → Option Sg) (hi8 : i < 1171) :
    ∀ (lo l5 F : Nat) (p : Int) (s : Sg) (Q : Nat), lo + l5 ≤ M → LN tr b lo p → DQ E S told s Q → MFR s0 s → s 79 b ≠ -1 → (∀ c, lo ≤ c → c < M → tr c = b → ∀ a : Nat, s0 76 c = (a : Int) → s 79 a ≠ -1) →
      ∃ (s' : Sg) (Q' : Nat), j_167_93 k61 (F + lo + 1) (i : Int) (b : Int) p (l5 : Int) s = k61 ((i + 1 : Nat) : Int) s' ∧ DQ E S told s' Q' ∧ MFR s0 s' ∧ Q ≤ Q' ∧ (∀ j, j < Q → s' 80 j = s 80 j) ∧ (∀ x, s 79 x ≠ -1 → s' 79 x ≠ -1) ∧ (∀ c, c < M → tr c = b → ∀ a : Nat, s0 76 c = (a : Int) → s' 79 a ≠ -1) := by
  intro lo
  induction lo using Nat.strongRecOn with
  | _ lo ih =>
  intro l5 F p s Q hl ln dq fr b79 vis
  have k138 : ∀ z : Sg, j_167_138 k61 (i : Int) z = k61 ((i + 1 : Nat) : Int) z := fun z => by
    unfold j_167_138
    rw [w32_nat (by omega)]
  rcases ln with ⟨e1, e2⟩ | ⟨c0, c1, c2, c3, c4⟩
  · refine ⟨s, Q, ?_, dq, fr, Nat.le_refl _, fun _ _ => rfl, fun _ y => y, fun c hc e a ha => vis c ?_ hc e a ha⟩
    · rw [j_167_93, e1, c176n, if_pos rfl, k138]
    · apply Decidable.byContradiction
      intro hn
      exact e2 c (by omega) e
  · subst c2
    have h7 : s 74 7 = (M : Int) := by rw [fr.2 7 (by decide)]; exact hg.1
    have hs : RGF sc s := fun b x => by rw [fr.1 b (by omega)]; exact hs0 b x
    obtain ⟨a, a1, a2, a3, a4⟩ := hg.2.1 c0 (by omega)
    have a1' : s 76 c0 = (a : Int) := by rw [fr.1 76 (by decide)]; exact a1
    obtain ⟨s1, Q1, x1, x2, x3, x4, x5, x6, x7⟩ := c178 dq hs h54 hS8 a2 hb b79 (by rw [← c3]; exact hE c0 (by omega) a a1)
    have e77 : s1 77 c0 = s0 77 c0 := by rw [x3.1 77 (by decide), fr.1 77 (by decide)]
    obtain ⟨s', Q', y1, y2, y3, y4, y5, y6, y7⟩ := ih c0 (by omega) (l5 + 1) (F + (lo - c0 - 1)) (s0 77 c0) s1 Q1 (by omega) (by rw [c3] at a4; exact a4) x2 (fr.trans x3) (x6 b b79) (fun c u v e a' ha' => by
      by_cases e3 : c = c0
      · rw [e3, a1] at ha'
        have : a' = a := by omega
        rw [this]; exact x7
      · exact x6 a' (vis c (by
          apply Decidable.byContradiction
          intro hn
          exact c4 c (by omega) (by omega) e) v e a' ha'))
    refine ⟨s', Q', ?_, y2, y3, by omega, fun j hj => by rw [y5 j (by omega)]; exact x5 j hj, fun x u => y6 x (x6 x u), y7⟩
    rw [show F + lo + 1 = (F + (lo - c0 - 1) + c0 + 1) + 1 by omega, j_167_93, c176 h7 hM (by omega), if_neg (by decide), h7, if_neg (by omega), gd_pos (by omega), Int.toNat_natCast, a1', x1, Option.bind_some, gd_pos (by omega), e77, w32_nat (by omega), y1]
theorem c167 (h54 : sc 54 6 = (S : Int)) (hS8 : S ≤ 1171) (hM : M ≤ 2730) (hs0 : RGF sc s0) (hg : CGW S s0 M tr) (hE : ∀ c, c < M → ∀ a : Nat, s0 76 c = (a : Int) → E a (tr c)) (hE2 : ∀ a b, E a b → ∃ c, c < M ∧ s0 76 c = (a : Int) ∧ tr c = b) (hEb : ∀ a b, E a b → a < S ∧ b < S) (ht : told < S) : ∃ s' : Sg, f_167 (told : Int) s0 = some s' ∧ MFR s0 s' ∧ (∀ a, a < S → (s' 79 a ≠ -1 ↔ WAY E a told)) ∧ (∀ a, a < S → s' 79 a ≠ -1 → 0 ≤ s' 79 a) := by
  -- rows are cleared
  have clr : ∀ (r l F : Nat) (s : Sg), l + r = S → MFR s0 s → (∀ i, i < l → s 79 i = -1) → ∃ s' : Sg, j_167_2 (F + r + 1) (told : Int) (l : Int) s = j_167_33 (told : Int) s' ∧ MFR s0 s' ∧ (∀ i, i < S → s' 79 i = -1) := by
    intro r
    induction r with
    | zero =>
      intro l F s hl fr q
      exact ⟨s, by rw [j_167_2, fr.1 54 (by decide), hs0 54 (by decide), h54, if_pos (by omega)], fr, fun i hi => q i (by omega)⟩
    | succ r ih =>
      intro l F s hl fr q
      rw [show F + (r + 1) + 1 = (F + r + 1) + 1 by omega, j_167_2, fr.1 54 (by decide), hs0 54 (by decide), h54, if_neg (by omega), if_neg (by omega), gd_pos (by omega), w32_nat (by omega), Int.toNat_natCast]
      refine ih (l + 1) F _ (by omega) ⟨fun b x => by rw [u2_row _ _ _ (by omega)]; exact fr.1 b x, fun j x => by rw [u2_row _ _ _ (by decide)]; exact fr.2 j x⟩ (fun i hi => ?_)
      by_cases e : i = l
      · rw [e]; exact u2_same _ _ _ _
      · rw [u2_col _ _ _ e]; exact q i (by omega)
  obtain ⟨F, hF⟩ := FU_split (k := S + 2) (by omega)
  obtain ⟨s1, e1, fr1, q1⟩ := clr S 0 (F + 1) s0 (by omega) ⟨fun _ _ => rfl, fun _ _ => rfl⟩ (fun i hi => absurd hi (by omega))
  rw [show F + 1 + S + 1 = FU by omega] at e1
  obtain ⟨s2, hs2⟩ : ∃ s2 : Sg, s2 = ax_u2 (ax_u2 (ax_u2 (ax_u2 s1 74 11 0) 79 told 0) 80 0 (told : Int)) 74 11 1 := ⟨_, rfl⟩
  have v79 : s2 79 told = 0 := by rw [hs2, u2_row _ _ _ (by decide), u2_row _ _ _ (by decide)]; exact u2_same _ _ _ _
  have v79' : ∀ x, x ≠ told → s2 79 x = s1 79 x := fun x y => by rw [hs2, u2_row _ _ _ (by decide), u2_row _ _ _ (by decide), u2_col _ _ _ y, u2_row _ _ _ (by decide)]
  have v80 : s2 80 0 = (told : Int) := by rw [hs2, u2_row _ _ _ (by decide)]; exact u2_same _ _ _ _
  have fr2 : MFR s0 s2 := ⟨fun b x => by rw [hs2, u2_row _ _ _ (by omega), u2_row _ _ _ (by omega), u2_row _ _ _ (by omega), u2_row _ _ _ (by omega)]; exact fr1.1 b x, fun j x => by rw [hs2, u2_col _ _ _ x, u2_row _ _ _ (by decide), u2_row _ _ _ (by decide), u2_col _ _ _ x]; exact fr1.2 j x⟩
  have dq : DQ E S told s2 1 := by
    refine ⟨by rw [hs2]; exact u2_same _ _ _ _, fun j hj => ⟨told, by rw [show j = 0 by omega]; exact v80, ht⟩, ?_, fun a ha y => ?_, ht, by rw [v79]; decide, fun j hj x y => by
      rw [show j = 0 by omega, v80] at y
      rw [show x = told by omega, v79]
      decide⟩
    · rw [cnt_u S ht (p := fun a => s1 79 a ≠ -1) (p' := fun a => s2 79 a ≠ -1) (fun y => y (q1 told ht)) (by show s2 79 told ≠ -1; rw [v79]; decide) (fun i _ hi => by rw [v79' i hi]), cnt_z S (fun i hi y => y (q1 i hi))]
    · by_cases e : a = told
      · rw [e, v79]
        exact ⟨by decide, WAY.refl told, 0, by omega, v80⟩
      · rw [v79' a e] at y
        exact absurd (q1 a ha) y
  have e33 : j_167_33 (told : Int) s1 = j_167_61 FU 0 s2 := by
    unfold j_167_33
    have f1 : f_173 (told : Int) (ax_u2 s1 74 11 0) = 1 := c173 (sc := sc) (fun b x => by rw [u2_row _ _ _ (by omega), fr1.1 b (by omega)]; exact hs0 b x) h54 hS8 ht
    have e11 : (ax_u2 (ax_u2 s1 74 11 0) 79 told 0) 74 11 = 0 := by rw [u2_row _ _ _ (by decide)]; exact u2_same _ _ _ _
    have g174 : g_174 (told : Int) (ax_u2 (ax_u2 s1 74 11 0) 79 told 0) := by
      unfold g_174
      rw [e11]
      exact ⟨fun _ => trivial, fun _ => ⟨by decide, trivial⟩⟩
    have f174 : f_174 (told : Int) (ax_u2 (ax_u2 s1 74 11 0) 79 told 0) = s2 := by
      unfold f_174
      rw [e11, if_neg (by decide), hs2]
      rfl
    rw [f1, if_pos (by decide), gd_pos (by omega), Int.toNat_natCast, gd_pos g174, f174, Option.bind_some]
  -- the callers of each
  have go : ∀ (r i G : Nat) (s : Sg) (Q : Nat), i + r = S → i ≤ Q → DQ E S told s Q → MFR s0 s → (∀ j, j < i → ∀ c, c < M → s 80 j = ((tr c : Nat) : Int) → ∀ a : Nat, s0 76 c = (a : Int) → s 79 a ≠ -1) → ∃ (s' : Sg) (Q' : Nat), j_167_61 (G + r + 1) (i : Int) s = some s' ∧ DQ E S told s' Q' ∧ MFR s0 s' ∧ (∀ j, j < Q' → ∀ c, c < M → s' 80 j = ((tr c : Nat) : Int) → ∀ a : Nat, s0 76 c = (a : Int) → s' 79 a ≠ -1) := by
    intro r
    induction r with
    | zero =>
      intro i G s Q hr hi dq fr pr
      have qS : Q ≤ S := by rw [dq.2.2.1]; exact cnt_le S
      exact ⟨s, Q, by rw [j_167_61, dq.1, if_pos (by omega)], dq, fr, fun j hj => pr j (by omega)⟩
    | succ r ih =>
      intro i G s Q hr hi dq fr pr
      have hs : RGF sc s := fun b x => by rw [fr.1 b (by omega)]; exact hs0 b x
      by_cases d : Q ≤ i
      · exact ⟨s, Q, by rw [j_167_61, dq.1, if_pos (by omega)], dq, fr, fun j hj => pr j (by omega)⟩
      · obtain ⟨b, b1, b2⟩ := dq.2.1 i (by omega)
        have b79 : s 79 b ≠ -1 := by
          exact dq.2.2.2.2.2.2 i (by omega) b b1
        obtain ⟨p1, p2⟩ := c175 hs h54 hS8 b2
        have e75 : s 75 b = s0 75 b := by rw [fr.1 75 (by decide)]
        obtain ⟨H, hH⟩ := FU_split (k := M + 1) (by omega)
        obtain ⟨s', Q', y1, y2, y3, y4, y5, y6, y7⟩ := mea_in h54 hS8 hM hs0 hg hE (i := i) b2 (j_167_61 (G + r + 1)) (by omega) M 0 H (s0 75 b) s Q (by omega) (hg.2.2 b b2) dq fr b79 (fun c u v => absurd v (by omega))
        rw [show H + M + 1 = FU by omega] at y1
        have y1' : j_167_93 (j_167_61 (G + r + 1)) FU (i : Int) (b : Int) (s0 75 b) 0 s = _ := y1
        obtain ⟨s3, Q3, z1, z2, z3, z4⟩ := ih (i + 1) G s' Q' (by omega) (by omega) y2 y3 (fun j hj c hc e a ha => by
          rw [y5 j (by omega)] at e
          by_cases e2 : j = i
          · rw [e2, b1] at e
            exact y7 c hc (by omega) a ha
          · exact y6 a (pr j (by omega) c hc e a ha))
        refine ⟨s3, Q3, ?_, z2, z3, z4⟩
        rw [show G + (r + 1) + 1 = (G + r + 1) + 1 by omega, j_167_61, dq.1, if_neg (by omega), if_neg (by omega), gd_pos (by omega), Int.toNat_natCast, b1, gd_pos p1, p2, e75, y1', z1]
  obtain ⟨s3, Q3, e3, dq3, fr3, pr3⟩ := go S 0 (F + 1) s2 1 (by omega) (by omega) dq fr2 (fun j hj => absurd hj (by omega))
  rw [show F + 1 + S + 1 = FU by omega] at e3
  refine ⟨s3, ?_, fr3, fun a ha => ⟨fun y => (dq3.2.2.2.1 a ha y).2.1, fun y => ?_⟩, fun a ha y => (dq3.2.2.2.1 a ha y).1.1⟩
  · unfold f_167
    have e1' : j_167_2 FU (told : Int) 0 s0 = _ := e1
    rw [e1', e33]
    exact e3
  · have := WAY.clos (P := fun x => x < S → s3 79 x ≠ -1) y (fun _ => dq3.2.2.2.2.2.1) (fun x z ed h _ => by
      obtain ⟨xS, zS⟩ := hEb x z ed
      obtain ⟨c, c1, c2, c3⟩ := hE2 x z ed
      obtain ⟨_, _, j, j1, j2⟩ := dq3.2.2.2.1 z zS (h zS)
      exact pr3 j j1 c c1 (by rw [j2, c3]) x c2)
    exact this ha
end MEA
/-! RINGS: the class's search. -/
section SEA
variable {T : TT} {sc sm s s' s0 : Sg} {n' S P A N K C w M Q k told : Nat} {t : Nat → Int} {tr : Nat → Nat}
theorem c168 (h : CKX T sc sm n' t S P A N K C w) (g : GOOD T sc sm S A N w) (n6 : ¬ BD6 T sm S A N) (n7 : ¬ BD7 T sm S A N) (h54 : sc 54 6 = (S : Int)) (hS8 : S ≤ 1171) (hs : RGF sc s) (hk : k < S) : ∃ r : Int, f_168 (k : Int) s = some r ∧ ((r = -1 ∧ ∀ b, EDG T sc sm S k b → s 79 b = -1) ∨ (∃ b : Nat, r = (b : Int) ∧ EDG T sc sm S k b ∧ s 79 b ≠ -1)) := by
  obtain ⟨hd, b1, hdz, p7, e187, e170, e170n⟩ := c170 h hs h54 hS8 hk
  have hhlp := fun h2 => h.hlp g n6 n7 hk h2
  obtain ⟨hT, hX, hC, hD, -⟩ := id h
  have z8 := hT.1
  unfold f_168
  by_cases h2 : sm 94 k = 2
  · obtain ⟨hd', st, e, hl, ca, -⟩ := hhlp h2
    have ehd : hd' = hd := by have := hl.1; omega
    subst ehd
    obtain ⟨l1, l2, l3, l4, l5, l6, l7, l8, l9⟩ := id hl
    have go : ∀ (r i G : Nat) (bs : Int), i + r = e → hd' + 1 ≤ i → ((bs = -1 ∧ ∀ q b, hd' < q → q < i → CLL T q → sc 36 (T.vl q).toNat = ((b : Nat) : Int) → s 79 b = -1) ∨ (∃ b : Nat, bs = (b : Int) ∧ EDG T sc sm S k b ∧ s 79 b ≠ -1)) → ∃ r' : Int, j_168_20 (G + r + 1) bs (e : Int) (i : Int) s = some r' ∧ ((r' = -1 ∧ ∀ q b, hd' < q → q < e → CLL T q → sc 36 (T.vl q).toNat = ((b : Nat) : Int) → s 79 b = -1) ∨ (∃ b : Nat, r' = (b : Int) ∧ EDG T sc sm S k b ∧ s 79 b ≠ -1)) := by
      intro r
      induction r with
      | zero =>
        intro i G bs hi h1 inv
        refine ⟨bs, by rw [j_168_20, if_pos (by omega)], ?_⟩
        rw [show i = e by omega] at inv
        exact inv
      | succ r ih =>
        intro i G bs hi h1 inv
        obtain ⟨w1, w2, w3⟩ := c171 hT hs hC (k := i) (by omega)
        rw [show G + (r + 1) + 1 = (G + r + 1) + 1 by omega, j_168_20, if_neg (by omega), gd_pos w1]
        have k90 : ∀ v : Int, j_168_90 (j_168_20 (G + r + 1)) v (e : Int) (i : Int) s = j_168_20 (G + r + 1) v (e : Int) ((i + 1 : Nat) : Int) s := fun v => by
          unfold j_168_90
          rw [w32_nat (by omega)]
        have skip : (∀ b : Nat, CLL T i → sc 36 (T.vl i).toNat = (b : Int) → s 79 b = -1) → ∃ r' : Int, j_168_90 (j_168_20 (G + r + 1)) bs (e : Int) (i : Int) s = some r' ∧ ((r' = -1 ∧ ∀ q b, hd' < q → q < e → CLL T q → sc 36 (T.vl q).toNat = ((b : Nat) : Int) → s 79 b = -1) ∨ (∃ b : Nat, r' = (b : Int) ∧ EDG T sc sm S k b ∧ s 79 b ≠ -1)) := fun hno => by
          rw [k90]
          refine ih (i + 1) G bs (by omega) (by omega) ?_
          rcases inv with ⟨v1, v2⟩ | v
          · refine Or.inl ⟨v1, fun q b u1 u2 u3 u4 => ?_⟩
            by_cases e1 : q = i
            · subst e1; exact hno b u3 u4
            · exact v2 q b u1 (by omega) u3 u4
          · exact Or.inr v
        by_cases cc : CLL T i
        · obtain ⟨b, m, bS, e36, -⟩ := ca i (by omega) (by omega) cc
          have ed : EDG T sc sm S k b := ⟨hk, bS, hd', st, e, i, hl, by omega, by omega, cc, e36⟩
          rw [w2 cc, e36, c173 hs h54 hS8 bS, if_neg (by decide), gd_pos (by omega), Int.toNat_natCast]
          unfold j_168_59
          by_cases d : s 79 b = -1
          · rw [if_pos d, if_pos rfl]
            exact skip (fun b' _ u => by
              have : b' = b := by omega
              rw [this]; exact d)
          · rw [if_neg d, if_neg (by decide)]
            rcases inv with ⟨v1, v2⟩ | ⟨b0, v1, v2, v3⟩
            · rw [if_pos v1]
              unfold j_168_87
              rw [k90]
              exact ih (i + 1) G (b : Int) (by omega) (by omega) (Or.inr ⟨b, rfl, ed, d⟩)
            · have b0S := v2.2.1
              rw [if_neg (by omega), gd_pos (by omega), v1, gd_pos (by omega), k90, Int.toNat_natCast b0, Int.toNat_natCast b]
              by_cases c : s 79 b0 ≤ s 79 b
              · rw [if_pos c]
                exact ih (i + 1) G (b0 : Int) (by omega) (by omega) (Or.inr ⟨b0, rfl, v2, v3⟩)
              · rw [if_neg c]
                exact ih (i + 1) G (b : Int) (by omega) (by omega) (Or.inr ⟨b, rfl, ed, d⟩)
        · rw [w3 cc, c173n, if_pos rfl]
          unfold j_168_58 j_168_59
          rw [if_pos rfl]
          exact skip (fun b u => absurd u cc)
    obtain ⟨G, hG⟩ := FU_split (k := (e - (hd' + 1)) + 1) (by omega)
    obtain ⟨r', x1, x2⟩ := go (e - (hd' + 1)) (hd' + 1) G (-1) (by omega) (Nat.le_refl _) (Or.inl ⟨rfl, fun q b u v => absurd v (by omega)⟩)
    rw [show G + (e - (hd' + 1)) + 1 = FU by omega] at x1
    refine ⟨r', ?_, ?_⟩
    · rw [e170 st e hl, Option.bind_some, gd_pos p7, e187, w32_nat (by omega), x1]
    · rcases x2 with ⟨y1, y2⟩ | y
      · refine Or.inl ⟨y1, fun b ed => ?_⟩
        obtain ⟨_, _, hd2, st2, e2, q, hl2, k1, k2, k3, k4⟩ := ed
        have eh : hd2 = hd' := by have := hl2.1; omega
        subst eh
        have ee : e2 = e := hl2.2.2.2.2.2.2.1.uniq l7
        subst ee
        exact y2 q b k1 k2 k3 k4
      · exact Or.inr y
  · obtain ⟨G, hG⟩ := FU_split (k := 1) (by omega)
    refine ⟨-1, ?_, Or.inl ⟨rfl, fun b ed => ?_⟩⟩
    · rw [e170n h2, Option.bind_some, gd_pos p7, e187, w32_nat (by omega), hG, j_168_20, if_pos (by omega)]
    · obtain ⟨_, _, hd2, st2, e2, q, hl2, -⟩ := ed
      exact absurd hl2.2.2.1 h2
/-- collecting leaves the ring alone -/
theorem k172 (a b : Int) (s : Sg) : f_172 a b s 74 13 = s 74 13 := by
  unfold f_172
  split
  · rfl
  · split
    · rfl
    · split
      · simp [ax_u2]
      · rfl
theorem k165a {k47 : Int → Sg → Option Sg} (hk : ∀ l s q, k47 l s = some q → q 74 13 = s 74 13) : ∀ (F : Nat) (l1 l2 l3 : Int) (s q : Sg), j_165_75 k47 F l1 l2 l3 s = some q → q 74 13 = s 74 13 := by
  intro F
  induction F with
  | zero => intro l1 l2 l3 s q h; rw [j_165_75] at h; cases h
  | succ F ih =>
    intro l1 l2 l3 s q h
    rw [j_165_75] at h
    by_cases c : l2 ≤ l3
    · rw [if_pos c] at h
      exact hk _ _ _ h
    · rw [if_neg c] at h
      obtain ⟨_, h⟩ := gd_some h
      obtain ⟨_, h⟩ := gd_some h
      rw [Option.bind_some] at h
      rw [ih _ _ _ _ _ h, k172]
theorem k165b : ∀ (F : Nat) (l1 : Int) (s q : Sg), j_165_47 F l1 s = some q → q 74 13 = s 74 13 := by
  intro F
  induction F with
  | zero => intro l1 s q h; rw [j_165_47] at h; cases h
  | succ F ih =>
    intro l1 s q h
    rw [j_165_47] at h
    by_cases c : s 54 6 ≤ l1
    · rw [if_pos c] at h
      cases h; rfl
    · rw [if_neg c] at h
      obtain ⟨_, _, h⟩ := bd_some h
      obtain ⟨_, h⟩ := gd_some h
      exact k165a (fun l s q u => ih l s q u) _ _ _ _ _ _ h
theorem k165c : ∀ (F : Nat) (l1 : Int) (s q : Sg), j_165_7 F l1 s = some q → q 74 13 = s 74 13 := by
  intro F
  induction F with
  | zero => intro l1 s q h; rw [j_165_7] at h; cases h
  | succ F ih =>
    intro l1 s q h
    rw [j_165_7] at h
    by_cases c : s 54 6 ≤ l1
    · rw [if_pos c] at h
      exact k165b _ _ _ _ h
    · rw [if_neg c] at h
      by_cases d : 1171 ≤ l1
      · rw [if_pos d] at h
        exact k165b _ _ _ _ h
      · rw [if_neg d] at h
        obtain ⟨_, h⟩ := gd_some h
        obtain ⟨_, h⟩ := gd_some h
        rw [ih _ _ _ h, u2_row _ _ _ (by decide), u2_row _ _ _ (by decide)]
theorem k165 {s q : Sg} (h : f_165 s = some q) : q 74 13 = s 74 13 := by
  unfold f_165 at h
  rw [k165c _ _ _ _ h, u2_col _ _ _ (by decide)]
/-- what tracing changes -/
theorem c169 (h : CKX T sc sm n' t S P A N K C w) (g : GOOD T sc sm S A N w) (n6 : ¬ BD6 T sm S A N) (n7 : ¬ BD7 T sm S A N) (h54 : sc 54 6 = (S : Int)) (hS8 : S ≤ 1171) (hs : RGF sc s) (ht : told < S) : ∃ s' : Sg, f_169 (told : Int) s = some s' ∧ RGF sc s' ∧ (RB s → RB s') := by
  obtain ⟨hT, hX, hC, hD, -⟩ := id h
  have z8 := hT.1
  have go : ∀ (r l F : Nat) (k : Nat) (s : Sg), l + r = 1171 → k < S → RGF sc s → ∃ s' : Sg, j_169_4 (F + r + 1) (told : Int) (k : Int) (l : Int) s = some s' ∧ RGF sc s' ∧ (RB s → RB s') := by
    intro r
    induction r with
    | zero =>
      intro l F k s hl hk hs
      exact ⟨s, by rw [j_169_4, if_pos (by omega)], hs, id⟩
    | succ r ih =>
      intro l F k s hl hk hs
      obtain ⟨hd, b1, hdz, p7, e187, -⟩ := c170 h hs h54 hS8 hk
      obtain ⟨o1, o2⟩ := c80 (a := hd) (hs.cc hC) hT (by omega)
      have hs2 : RGF sc (ax_u2 (ax_u2 s 81 l (T.fm hd)) 74 13 ((l + 1 : Nat) : Int)) := fun b x => by rw [u2_row _ _ _ (by omega), u2_row _ _ _ (by omega)]; exact hs b x
      have rb2 : RB (ax_u2 (ax_u2 s 81 l (T.fm hd)) 74 13 ((l + 1 : Nat) : Int)) := by
        unfold RB
        rw [u2_at, if_pos rfl]
        omega
      obtain ⟨r', x1, x2⟩ := c168 h g n6 n7 h54 hS8 hs2 hk
      rw [show F + (r + 1) + 1 = (F + r + 1) + 1 by omega, j_169_4, if_neg (by omega), gd_pos p7, e187, gd_pos o2, o1, gd_pos (by omega), Int.toNat_natCast, w32_nat (by omega), x1, Option.bind_some]
      by_cases d : r' = (told : Int)
      · rw [if_pos d]
        exact ⟨_, rfl, hs2, fun _ => rb2⟩
      · rw [if_neg d]
        rcases x2 with ⟨y, _⟩ | ⟨b, y1, y2, _⟩
        · rw [if_neg (fun e => e y)]
          exact ⟨_, rfl, hs2, fun _ => rb2⟩
        · rw [if_pos (by omega), y1]
          obtain ⟨s', z1, z2, z3⟩ := ih (l + 1) F b _ (by omega) y2.2.1 hs2
          exact ⟨s', z1, z2, fun _ => z3 rb2⟩
  obtain ⟨F, hF⟩ := FU_split (k := 1172) (by omega)
  obtain ⟨s', x1, x2⟩ := go 1171 0 F told s (by omega) ht hs
  rw [show F + 1171 + 1 = FU by omega] at x1
  exact ⟨s', x1, x2⟩
theorem c164 (h : CKX T sc sm n' t S P A N K C w) (g : GOOD T sc sm S A N w) (n6 : ¬ BD6 T sm S A N) (n7 : ¬ BD7 T sm S A N) (h54 : sc 54 6 = (S : Int)) (hS8 : S ≤ 1171) (h8 : sc 30 8 = -1) : ∃ s' : Sg, f_164 sc = some s' ∧ (∀ b, b ≠ 30 → b < 74 ∨ 81 < b → s' b = sc b) ∧ (∀ j, j ≠ 8 → s' 30 j = sc 30 j) ∧ (s' 30 8 ≠ -1 ↔ ∃ k, k < S ∧ CYC (EDG T sc sm S) k) ∧ (RB sc → RB s') := by
  obtain ⟨s1, M, tr, e1, cg, hM, hs1, hE, hE2⟩ := c165 h g n6 n7 h54 hS8
  obtain ⟨s2, Q, e2, fr, r1, r2⟩ := c166 h54 hS8 hM hs1 cg
  have hs2 : RGF sc s2 := fun b x => by rw [r1 b (by omega)]; exact hs1 b x
  have rbs : ∀ s, MFR s2 s → RB sc → RB s := fun s fr h => by
    unfold RB at *
    rw [fr.2 13 (by decide), r2 13 (by decide), k165 e1]
    exact h
  have cg2 : ∀ s, MFR s2 s → s 74 7 = s1 74 7 ∧ s 75 = s1 75 ∧ s 76 = s1 76 ∧ s 77 = s1 77 := fun s fr => ⟨by rw [fr.2 7 (by decide), r2 7 (by decide)], by rw [fr.1 75 (by decide), r1 75 (by decide)], by rw [fr.1 76 (by decide), r1 76 (by decide)], by rw [fr.1 77 (by decide), r1 77 (by decide)]⟩
  obtain ⟨hT, hX, hC, hD, -⟩ := id h
  have z8 := hT.1
  have hEe : ∀ c, c < M → ∀ a : Nat, s1 76 c = (a : Int) → EDG T sc sm S a (tr c) := fun c hc a ha => by
    obtain ⟨a', y1, y2⟩ := hE c hc
    have : a' = a := by omega
    rw [← this]; exact y2
  unfold f_164
  rw [e1, Option.bind_some, e2, Option.bind_some]
  by_cases d : Q < S
  · rw [if_pos d, if_pos rfl]
    -- the search
    have go : ∀ (r k F : Nat) (s : Sg), k + r = S → MFR s2 s → (∀ j, j < k → ¬ CYC (EDG T sc sm S) j) → ∃ s' : Sg, j_164_14 (F + r + 1) (k : Int) s = some s' ∧ (∀ b, b ≠ 30 → b < 74 ∨ 81 < b → s' b = sc b) ∧ (∀ j, j ≠ 8 → s' 30 j = sc 30 j) ∧ (s' 30 8 ≠ -1 ↔ ∃ k, k < S ∧ CYC (EDG T sc sm S) k) ∧ (RB sc → RB s') := by
      intro r
      induction r with
      | zero =>
        intro k F s hk fr no
        have hs : RGF sc s := fun b x => by rw [fr.1 b (by omega)]; exact hs2 b x
        refine ⟨s, by rw [j_164_14, hs 54 (by decide), h54, if_pos (by omega)], fun b _ x => hs b x, fun j _ => by rw [hs 30 (by decide)], ?_⟩
        rw [hs 30 (by decide), h8]
        exact ⟨⟨fun y => absurd rfl y, fun ⟨j, y1, y2⟩ => absurd y2 (no j (by omega))⟩, rbs s fr⟩
      | succ r ih =>
        intro k F s hk fr no
        have hs : RGF sc s := fun b x => by rw [fr.1 b (by omega)]; exact hs2 b x
        obtain ⟨q1, q2, q3, q4⟩ := cg2 s fr
        have kS : k < S := by omega
        -- the calls are there still
        have cgl : ∀ c, c < M → ∃ a : Nat, s 76 c = (a : Int) ∧ a < S ∧ tr c < S ∧ LN tr (tr c) c (s 77 c) := by rw [q3, q4]; exact cg.2.1
        obtain ⟨s', x1, x2, x3, x4⟩ := c167 h54 hS8 hM hs (tr := tr) ⟨by rw [q1]; exact cg.1, cgl, by rw [q2]; exact cg.2.2.1⟩ (E := EDG T sc sm S) (by rw [q3]; exact hEe) (by rw [q3]; exact hE2) (fun a b ed => ⟨ed.1, ed.2.1⟩) kS
        have hs' : RGF sc s' := fun b x => by rw [x2.1 b (by omega)]; exact hs b x
        obtain ⟨r', y1, y2⟩ := c168 h g n6 n7 h54 hS8 hs' kS
        have cyc : CYC (EDG T sc sm S) k ↔ ∃ b, EDG T sc sm S k b ∧ s' 79 b ≠ -1 := by
          constructor
          · intro ⟨b, u1, u2⟩
            exact ⟨b, u1, (x3 b u1.2.1).mpr u2⟩
          · intro ⟨b, u1, u2⟩
            exact ⟨b, u1, (x3 b u1.2.1).mp u2⟩
        rw [show F + (r + 1) + 1 = (F + r + 1) + 1 by omega, j_164_14, hs 54 (by decide), h54, if_neg (by omega), x1, Option.bind_some, y1, Option.bind_some]
        rcases y2 with ⟨y2, y3⟩ | ⟨b, y2, y3, y4⟩
        · rw [if_pos y2, w32_nat (by omega)]
          refine ih (k + 1) F s' (by omega) (fr.trans x2) (fun j hj => ?_)
          by_cases e : j = k
          · rw [e, cyc]
            exact fun ⟨b, u1, u2⟩ => u2 (y3 b u1)
          · exact no j (by omega)
        · rw [if_neg (by omega)]
          obtain ⟨s3, z1, z2, z3⟩ := c169 h g n6 n7 h54 hS8 hs' kS
          obtain ⟨hd, b1, hdz, p7, e187, -⟩ := c170 h z2 h54 hS8 kS
          obtain ⟨o1, o2⟩ := c80 (a := hd) (z2.cc hC) hT (by omega)
          have f0 := hT.2.2.2.1 hd (by omega)
          obtain ⟨k1, k2⟩ := c71k (s := s3) (k := 8) (x := T.fm hd) (by decide) (by decide) f0
          have k1' : g_71 8 (T.fm hd) s3 := k1
          have k2' : NTk 8 s3 (f_71 8 (T.fm hd) s3) True := k2
          refine ⟨f_71 8 (T.fm hd) s3, ?_, fun b u x => by rw [k2'.1 b u]; exact z2 b x, fun j u => by rw [k2'.2.1 j u, z2 30 (by decide)], ⟨fun _ => ⟨k, kS, cyc.mpr ⟨b, y3, y4⟩⟩, fun _ => k2'.2.2.mpr (Or.inr trivial)⟩, fun u => by unfold RB; rw [k2'.1 74 (by decide)]; exact z3 (rbs s' (fr.trans x2) u)⟩
          unfold j_164_39
          rw [z1, Option.bind_some, gd_pos p7, e187, gd_pos o2, o1, gd_pos k1', Option.bind_some]
    obtain ⟨F, hF⟩ := FU_split (k := S + 1) (by omega)
    obtain ⟨s', x1, x2⟩ := go S 0 F s2 (by omega) ⟨fun _ _ => rfl, fun _ _ => rfl⟩ (fun j hj => absurd hj (by omega))
    rw [show F + S + 1 = FU by omega] at x1
    exact ⟨s', x1, x2⟩
  · rw [if_neg d, if_neg (show ¬ (1 : Int) = 0 by decide)]
    refine ⟨s2, rfl, fun b _ x => hs2 b x, fun j _ => by rw [hs2 30 (by decide)], ?_⟩
    rw [hs2 30 (by decide), h8]
    refine ⟨⟨fun y => absurd rfl y, fun ⟨k, k1, k2⟩ => ?_⟩, rbs s2 ⟨fun _ _ => rfl, fun _ _ => rfl⟩⟩
    obtain ⟨f, hf⟩ := fr (by omega)
    exact absurd k2 (CYC.no (f := f) (fun x y ed => by
      obtain ⟨c, c1, c2, c3⟩ := hE2 x y ed
      have := hf c c1 x c2
      rw [c3] at this
      exact this))
end SEA
/-! RINGS: the reference measures. -/
def AGr (s0 s : Sg) : Prop := (∀ c, c ≠ 84 → c < 133 ∨ 135 < c → s c = s0 c) ∧ (∀ j, j ≠ 8 → j ≠ 72 → s 84 j = s0 84 j)
section RMS
variable {T : TT} {sc sm s s' : Sg} {n' S P A N K C w a b x k : Nat} {t : Nat → Int}
theorem AGr.tx (h : AGr sm s) (k : TX T sc sm n' t) : TX T sc s n' t := k.mrow (h.2 3 (by decide) (by decide)) (h.1 86 (by decide) (by decide)) (h.1 89 (by decide) (by decide)) (h.1 90 (by decide) (by decide))
theorem AGr.owk (h : AGr sm s) (k : OWK T sm S A) : OWK T s S A := by
  unfold OWK NMD at *
  rw [h.2 19 (by decide) (by decide), h.1 95 (by decide) (by decide), h.1 98 (by decide) (by decide), h.1 99 (by decide) (by decide), h.1 104 (by decide) (by decide), h.1 113 (by decide) (by decide), h.1 106 (by decide) (by decide), h.1 107 (by decide) (by decide)]
  exact k
/-- an edge is a call's node -/
theorem edg_node (h : CKX T sc sm n' t S P A N K C w) (g : GOOD T sc sm S A N w) (n6 : ¬ BD6 T sm S A N) (n7 : ¬ BD7 T sm S A N) {y c : Nat} : EDG T sc sm S y c ↔ ∃ n, n < N ∧ sm 116 n = 3 ∧ sm 123 n = (y : Int) ∧ y < S ∧ sm 94 y = 2 ∧ SO1 T sm S (T.vl (sm 118 n).toNat) c := by
  constructor
  · intro ⟨yS, cS, hd, st, e, q, hl, k1, k2, k3, k4⟩
    obtain ⟨hd', st', e', hl', ca, -⟩ := h.hlp g n6 n7 yS hl.2.2.1
    have eh : hd' = hd := by have := hl.1; have := hl'.1; omega
    subst eh
    have ee : e' = e := hl'.2.2.2.2.2.2.1.uniq hl.2.2.2.2.2.2.1
    subst ee
    obtain ⟨b, m, bS, e36, b94, so, mN, m3, m18, m23⟩ := ca q k1 k2 k3
    have eb : b = c := by omega
    subst eb
    exact ⟨m, mN, m3, m23, yS, hl.2.2.1, by rw [m18, Int.toNat_natCast]; exact so⟩
  · intro ⟨n, nN, n3, n23, yS, y94, so⟩
    obtain ⟨hd, st, e, hl, ca, cb⟩ := h.hlp g n6 n7 yS y94
    obtain ⟨q, q1, q2, q3, q4⟩ := cb n nN n3 n23
    obtain ⟨b, m, bS, e36, b94, so', -⟩ := ca q q2 q3 q4
    rw [q1, Int.toNat_natCast] at so
    rw [so'.uniq so] at e36
    exact ⟨yS, so.1, hd, st, e, q, hl, q2, q3, q4, e36⟩
/-- a call's node -/
theorem call_at (h : CKX T sc sm n' t S P A N K C w) (g : GOOD T sc sm S A N w) (n6 : ¬ BD6 T sm S A N) (n7 : ¬ BD7 T sm S A N) (ha : AGr sm s) {n : Nat} (hn : n < N) (h3 : sm 116 n = 3) : ∃ x y c : Nat, sm 118 n = (x : Int) ∧ x < T.z ∧ sm 123 n = (y : Int) ∧ y < S ∧ f_238 (x : Int) s = some (c : Int) ∧ c < S ∧ SO1 T sm S (T.vl x) c := by
  have ok := h.owk
  obtain ⟨si, b1, b2, -⟩ := h.nod hn
  obtain ⟨i, x, x1, x0, x2, x3, x4, x5⟩ := h.who g n6 n7 hn (by omega)
  obtain ⟨so, -, -⟩ := x4 (x5 (by omega))
  obtain ⟨hT, hX, -⟩ := h
  obtain ⟨r, e1, e2⟩ := m238 hT (ha.tx hX) (ha.owk ok) x2 x3
  have e3 : SOF T sm S (T.vl x) r := by unfold SOF at *; rw [ha.1 95 (by decide) (by decide)] at e2; exact e2
  rcases e3 with ⟨_, e4⟩ | ⟨f, e4, e5, e6, e7⟩
  · exact absurd so.2.1 (e4 i so.1)
  · have : f = i := SO1.uniq ⟨e5, e6, e7⟩ so
    exact ⟨x, si, i, x1, x2, b1, b2, by rw [e1, e4, this], so.1, so⟩
/-- far as it stands before round d -/
def GI (E : Nat → Nat → Prop) (S a d : Nat) (f : Nat → Int) : Prop := f a = 0 ∧ (∀ b, b < S → -1 ≤ f b ∧ f b < (d : Int)) ∧ (∀ b, b < S → 0 ≤ f b → WAY E b a) ∧ (∀ b, b < S → b ≠ a → 0 ≤ f b → ∃ c, c < S ∧ E b c ∧ 0 ≤ f c ∧ f c < f b) ∧ (∀ x c, E x c → 0 ≤ f c → f c + 1 < (d : Int) → 0 ≤ f x)
/-- within round d, up to node m -/
def RI (E : Nat → Nat → Prop) (sm : Sg) (T : TT) (S d : Nat) (f0 f : Nat → Int) (m : Nat) (l2 : Int) : Prop := (∀ b, b < S → f b = f0 b ∨ (f0 b < 0 ∧ f b = (d : Int) ∧ ∃ c, c < S ∧ E b c ∧ f0 c = (d : Int) - 1)) ∧ (∀ n, n < m → sm 116 n = 3 → ∀ x c : Nat, sm 123 n = (x : Int) → sm 94 x = 2 → SO1 T sm S (T.vl (sm 118 n).toNat) c → f0 c = (d : Int) - 1 → 0 ≤ f x) ∧ ((l2 = 0 ∧ ∀ b, b < S → f b = f0 b) ∨ (l2 = 1 ∧ ∃ b, b < S ∧ f0 b < 0 ∧ 0 ≤ f b))
theorem m244i (h : CKX T sc sm n' t S P A N K C w) (g : GOOD T sc sm S A N w) (n6 : ¬ BD6 T sm S A N) (n7 : ¬ BD7 T sm S A N) {d : Nat} (hd1 : 1 ≤ d) (hd8 : d ≤ 5000) {f0 : Nat → Int} (hf0 : ∀ b, b < S → -1 ≤ f0 b ∧ f0 b < (d : Int)) (k36 : Int → Int → Sg → Option Sg) :
    ∀ (r m F : Nat) (l2 : Int) (s : Sg), m + r = N → AGr sm s → RI (EDG T sc sm S) sm T S d f0 (s 133) m l2 → ∃ (l2' : Int) (s' : Sg), j_244_45 k36 (F + r + 1) l2 (d : Int) (m : Int) s = k36 l2' ((d + 1 : Nat) : Int) s' ∧ AGr sm s' ∧ RI (EDG T sc sm S) sm T S d f0 (s' 133) N l2' ∧ (∀ c, c ≠ 133 → s' c = s c) := by
  have hN := h.2.2.2.2.1
  have S8 := h.2.2.2.2.2.2.2.2.2.2.2.1
  have N8 := h.2.2.2.2.2.2.2.2.2.2.2.2.2.2
  intro r
  induction r with
  | zero =>
    intro m F l2 s hm ha ri
    rw [show m = N by omega] at ri ⊢
    refine ⟨l2, s, ?_, ha, ri, fun _ _ => rfl⟩
    rw [j_244_45, ha.2 47 (by decide) (by decide), hN.2.1, if_pos (by omega)]
    unfold j_244_139
    rw [w32_nat (by omega)]
  | succ r ih =>
    intro m F l2 s hm ha ri
    have rr : ∀ c, c ≠ 84 → c < 133 → s c = sm c := fun c u v => ha.1 c u (Or.inl v)
    obtain ⟨r1, r2, r3⟩ := ri
    have k133 : ∀ (v : Int) (z : Sg), j_244_133 k36 (j_244_45 k36 (F + r + 1)) v (d : Int) (m : Int) z = j_244_45 k36 (F + r + 1) v (d : Int) ((m + 1 : Nat) : Int) z := fun v z => by
      unfold j_244_133
      rw [w32_nat (by omega)]
    have skip : (sm 116 m = 3 → ∀ x c : Nat, sm 123 m = (x : Int) → sm 94 x = 2 → SO1 T sm S (T.vl (sm 118 m).toNat) c → f0 c = (d : Int) - 1 → 0 ≤ s 133 x) → ∃ (l2' : Int) (s' : Sg), j_244_45 k36 (F + r + 1) l2 (d : Int) ((m + 1 : Nat) : Int) s = k36 l2' ((d + 1 : Nat) : Int) s' ∧ AGr sm s' ∧ RI (EDG T sc sm S) sm T S d f0 (s' 133) N l2' ∧ (∀ c, c ≠ 133 → s' c = s c) := fun hno => ih (m + 1) F l2 s (by omega) ha ⟨r1, fun n hn h3 x c e1 e2 e3 e4 => by
      by_cases e : n = m
      · subst e; exact hno h3 x c e1 e2 e3 e4
      · exact r2 n (by omega) h3 x c e1 e2 e3 e4, r3⟩
    rw [show F + (r + 1) + 1 = (F + r + 1) + 1 by omega, j_244_45, ha.2 47 (by decide) (by decide), hN.2.1, if_neg (by omega), gd_pos (by omega), Int.toNat_natCast, rr 116 (by decide) (by decide)]
    by_cases c3 : sm 116 m = 3
    · obtain ⟨x, y, c, x1, x2, y1, y2, e238, cS, so⟩ := call_at h g n6 n7 ha (n := m) (by omega) c3
      rw [if_neg (fun e => e c3), gd_pos (by omega), rr 123 (by decide) (by decide), y1, gd_pos (by omega), Int.toNat_natCast, rr 94 (by decide) (by decide)]
      by_cases c2 : sm 94 y = 2
      · rw [if_neg (fun e => e c2), gd_pos (by omega), gd_pos (by omega)]
        by_cases cf : 0 ≤ s 133 y
        · rw [if_pos cf, k133]
          exact skip (fun _ x' c' e1 _ _ _ => by
            have : x' = y := by omega
            rw [this]; exact cf)
        · rw [if_neg cf, gd_pos (by omega), rr 118 (by decide) (by decide), x1, e238, Option.bind_some, gd_pos (by omega), Int.toNat_natCast, w32_id (z := (d : Int) - 1) (by omega) (by omega)]
          have fc : s 133 c = (d : Int) - 1 ↔ f0 c = (d : Int) - 1 := by
            rcases r1 c cS with e | ⟨e1, e2, _⟩
            · rw [e]
            · omega
          by_cases ce : s 133 c = (d : Int) - 1
          · have ed : EDG T sc sm S y c := (edg_node h g n6 n7).mpr ⟨m, by omega, c3, y1, y2, c2, by rw [x1, Int.toNat_natCast]; exact so⟩
            have f0y : f0 y < 0 := by
              rcases r1 y y2 with e | ⟨e1, _⟩
              · rw [e] at cf; omega
              · exact e1
            rw [if_neg (fun e => e ce), gd_pos (by omega), gd_pos (by omega), k133]
            have v133 : (ax_u2 s 133 y (d : Int)) 133 y = (d : Int) := u2_same _ _ _ _
            have v133' : ∀ z, z ≠ y → (ax_u2 s 133 y (d : Int)) 133 z = s 133 z := fun z u => u2_col _ _ _ u
            obtain ⟨l2', s', z1, z2, z3, z4⟩ := ih (m + 1) F 1 (ax_u2 s 133 y (d : Int)) (by omega) ⟨fun c u v => by rw [u2_row _ _ _ (by omega)]; exact ha.1 c u v, fun j u v => by rw [u2_row _ _ _ (by decide)]; exact ha.2 j u v⟩ ⟨fun b hb => by
              by_cases e : b = y
              · rw [e, v133]
                exact Or.inr ⟨f0y, rfl, c, cS, ed, fc.mp ce⟩
              · rw [v133' b e]; exact r1 b hb, fun n hn h3 x' c' e1 e2 e3 e4 => by
              by_cases e : x' = y
              · rw [e, v133]; omega
              · rw [v133' x' e]
                by_cases en : n = m
                · rw [en, y1] at e1; omega
                · exact r2 n (by omega) h3 x' c' e1 e2 e3 e4, Or.inr ⟨rfl, y, y2, f0y, by rw [v133]; omega⟩⟩
            exact ⟨l2', s', z1, z2, z3, fun c u => by rw [z4 c u, u2_row _ _ _ u]⟩
          · rw [if_pos ce, k133]
            exact skip (fun _ x' c' e1 e2 e3 e4 => by
              rw [x1, Int.toNat_natCast] at e3
              rw [e3.uniq so] at e4
              exact absurd (fc.mpr e4) ce)
      · rw [if_pos c2, k133]
        exact skip (fun _ x' c' e1 e2 _ _ => by
          have : x' = y := by omega
          rw [this] at e2
          exact absurd e2 c2)
    · rw [if_pos c3, k133]
      exact skip (fun u => absurd u c3)
/-- how far all are from a, by calls -/
theorem m244 (h : CKX T sc sm n' t S P A N K C w) (g : GOOD T sc sm S A N w) (n6 : ¬ BD6 T sm S A N) (n7 : ¬ BD7 T sm S A N) (ha : AGr sm s) (aS : a < S) : ∃ s' : Sg, f_244 (a : Int) s = some s' ∧ AGr sm s' ∧ (∀ c, c ≠ 133 → s' c = s c) ∧ (∀ b, b < S → (0 ≤ s' 133 b ↔ WAY (EDG T sc sm S) b a)) ∧ s' 133 a = 0 ∧ (∀ b, b < S → s' 133 b ≤ (S : Int)) ∧ (∀ b, b < S → b ≠ a → 0 ≤ s' 133 b → ∃ c, c < S ∧ EDG T sc sm S b c ∧ 0 ≤ s' 133 c ∧ s' 133 c < s' 133 b) := by
  have S8 := h.2.2.2.2.2.2.2.2.2.2.2.1
  have h19 := h.2.2.2.2.2.1
  have N8 := h.2.2.2.2.2.2.2.2.2.2.2.2.2.2
  have enode := fun y c => edg_node h g n6 n7 (y := y) (c := c)
  have ini : ∀ (r l F : Nat) (s1 : Sg), l + r = S → AGr sm s1 → (∀ c, c ≠ 133 → s1 c = s c) → (∀ b, b < l → s1 133 b = (if b = a then 0 else -1)) → ∃ s' : Sg, j_244_2 (F + r + 1) (a : Int) (l : Int) s1 = j_244_32 s' ∧ AGr sm s' ∧ (∀ c, c ≠ 133 → s' c = s c) ∧ (∀ b, b < S → s' 133 b = (if b = a then 0 else -1)) := by
    intro r
    induction r with
    | zero =>
      intro l F s1 hl q1 q2 q3
      exact ⟨s1, by rw [j_244_2, q1.2 19 (by decide) (by decide), h19, if_pos (by omega)], q1, q2, fun b hb => q3 b (by omega)⟩
    | succ r ih =>
      intro l F s1 hl q1 q2 q3
      rw [show F + (r + 1) + 1 = (F + r + 1) + 1 by omega, j_244_2, q1.2 19 (by decide) (by decide), h19, if_neg (by omega), gd_pos (by omega), w32_nat (by omega), Int.toNat_natCast]
      refine ih (l + 1) F _ (by omega) ⟨fun c u v => by rw [u2_row _ _ _ (by omega)]; exact q1.1 c u v, fun j u v => by rw [u2_row _ _ _ (by decide)]; exact q1.2 j u v⟩ (fun c u => by rw [u2_row _ _ _ u]; exact q2 c u) (fun b hb => ?_)
      by_cases e : b = l
      · rw [e, u2_same]
        by_cases e2 : l = a
        · rw [if_pos e2, if_neg (fun u => u (by omega))]
        · rw [if_neg e2, if_pos (by omega)]
      · rw [u2_col _ _ _ e]; exact q3 b (by omega)
  obtain ⟨F, hF⟩ := FU_split (k := S + 3) (by omega)
  obtain ⟨s1, e1, ag1, fr1, v1⟩ := ini S 0 (F + 2) s (by omega) ha (fun _ _ => rfl) (fun b hb => absurd hb (by omega))
  rw [show F + 2 + S + 1 = FU by omega] at e1
  have gi1 : GI (EDG T sc sm S) S a 1 (s1 133) := by
    refine ⟨by rw [v1 a aS, if_pos rfl], fun b hb => ?_, fun b hb u => ?_, fun b hb u v => ?_, fun x c ed u v => by omega⟩
    · rw [v1 b hb]
      split <;> omega
    · rw [v1 b hb] at u
      by_cases e : b = a
      · rw [e]; exact WAY.refl a
      · rw [if_neg e] at u; omega
    · rw [v1 b hb, if_neg u] at v
      omega
  -- rounds
  have rnd : ∀ (q d G : Nat) (s2 : Sg), S ≤ cnt (fun b => 0 ≤ s2 133 b) S + q → 1 ≤ d → d ≤ cnt (fun b => 0 ≤ s2 133 b) S → AGr sm s2 → GI (EDG T sc sm S) S a d (s2 133) → ∃ (s' : Sg) (d' : Nat), j_244_36 (G + q + 2) 1 (d : Int) s2 = some s' ∧ AGr sm s' ∧ (∀ c, c ≠ 133 → s' c = s2 c) ∧ GI (EDG T sc sm S) S a d' (s' 133) ∧ (∀ b, b < S → s' 133 b + 1 < (d' : Int)) ∧ d' ≤ S + 1 := by
    intro q
    induction q with
    | zero =>
      intro d G s2 hc hd1 hd2 ag gi
      have dS := cnt_le (p := fun b => 0 ≤ s2 133 b) S
      obtain ⟨H, hH⟩ := FU_split (k := N + 1) (by omega)
      obtain ⟨l2', s', z1, z2, z3, z4⟩ := m244i h g n6 n7 hd1 (by omega) gi.2.1 (j_244_36 (G + 1)) N 0 H 0 s2 (by omega) ag ⟨fun b hb => Or.inl rfl, fun n hn => absurd hn (by omega), Or.inl ⟨rfl, fun b _ => rfl⟩⟩
      rw [show H + N + 1 = FU by omega] at z1
      have z1' : j_244_45 (j_244_36 (G + 1)) FU 0 (d : Int) 0 s2 = _ := z1
      obtain ⟨t1, t2, t3⟩ := z3
      have all : ∀ b, b < S → 0 ≤ s2 133 b := cnt_all S (by omega)
      rcases t3 with ⟨u1, u2⟩ | ⟨_, b, u1, u2, _⟩
      · refine ⟨s', d + 1, ?_, z2, z4, ?_, fun b hb => ?_, by omega⟩
        · rw [show G + 0 + 2 = (G + 1) + 1 by omega, j_244_36, if_neg (by decide), z1', j_244_36, if_pos u1]
        · obtain ⟨g1, g2, g3, g4, g5⟩ := gi
          refine ⟨by rw [u2 a aS]; exact g1, fun b hb => by rw [u2 b hb]; have := g2 b hb; omega, fun b hb v => by rw [u2 b hb] at v; exact g3 b hb v, fun b hb v1 v2 => ?_, fun x c ed v1 v2 => ?_⟩
          · rw [u2 b hb] at v2 ⊢
            obtain ⟨c, c1, c2, c3, c4⟩ := g4 b hb v1 v2
            exact ⟨c, c1, c2, by rw [u2 c c1]; exact c3, by rw [u2 c c1]; exact c4⟩
          · rw [u2 x ed.1]
            exact all x ed.1
        · rw [u2 b hb]
          have := (gi.2.1 b hb).2
          omega
      · exact absurd (all b u1) (by omega)
    | succ q ih =>
      intro d G s2 hc hd1 hd2 ag gi
      have dS := cnt_le (p := fun b => 0 ≤ s2 133 b) S
      obtain ⟨H, hH⟩ := FU_split (k := N + 1) (by omega)
      obtain ⟨l2', s', z1, z2, z3, z4⟩ := m244i h g n6 n7 hd1 (by omega) gi.2.1 (j_244_36 (G + q + 2)) N 0 H 0 s2 (by omega) ag ⟨fun b hb => Or.inl rfl, fun n hn => absurd hn (by omega), Or.inl ⟨rfl, fun b _ => rfl⟩⟩
      rw [show H + N + 1 = FU by omega] at z1
      have z1' : j_244_45 (j_244_36 (G + q + 2)) FU 0 (d : Int) 0 s2 = _ := z1
      obtain ⟨t1, t2, t3⟩ := z3
      obtain ⟨g1, g2, g3, g4, g5⟩ := id gi
      have keep : ∀ b, b < S → 0 ≤ s2 133 b → s' 133 b = s2 133 b := fun b hb v => by
        rcases t1 b hb with e | ⟨e, _⟩
        · exact e
        · omega
      have gi' : GI (EDG T sc sm S) S a (d + 1) (s' 133) := by
        refine ⟨by rw [keep a aS (by omega)]; exact g1, fun b hb => ?_, fun b hb v => ?_, fun b hb v1 v2 => ?_, fun x c ed v1 v2 => ?_⟩
        · have := g2 b hb
          rcases t1 b hb with e | ⟨_, e, _⟩
          · rw [e]; omega
          · rw [e]; omega
        · rcases t1 b hb with e | ⟨_, _, c, c1, c2, c3⟩
          · rw [e] at v; exact g3 b hb v
          · exact WAY.step c2 (g3 c c1 (by omega))
        · rcases t1 b hb with e | ⟨_, e, c, c1, c2, c3⟩
          · rw [e] at v2 ⊢
            obtain ⟨c, c1, c2, c3, c4⟩ := g4 b hb v1 v2
            exact ⟨c, c1, c2, by rw [keep c c1 c3]; exact c3, by rw [keep c c1 c3]; exact c4⟩
          · refine ⟨c, c1, c2, ?_, ?_⟩
            · rw [keep c c1 (by omega)]; omega
            · rw [keep c c1 (by omega), e]; omega
        · have fc : s' 133 c = s2 133 c := by
            rcases t1 c ed.2.1 with e | ⟨_, e, _⟩
            · exact e
            · omega
          rw [fc] at v1 v2
          by_cases e : s2 133 c + 1 < (d : Int)
          · rw [keep x ed.1 (g5 x c ed v1 e)]
            exact g5 x c ed v1 e
          · obtain ⟨n, nN, n3, n23, _, n94, so⟩ := (enode x c).mp ed
            exact t2 n nN n3 x c n23 n94 so (by omega)
      rcases t3 with ⟨u1, u2⟩ | ⟨u1, b, u2, u3, u4⟩
      · refine ⟨s', d + 1, ?_, z2, z4, gi', fun b hb => ?_, by omega⟩
        · rw [show G + (q + 1) + 2 = (G + q + 2) + 1 by omega, j_244_36, if_neg (by decide), z1', show G + q + 2 = (G + q + 1) + 1 by omega, j_244_36, if_pos u1]
        · rw [u2 b hb]
          have := (g2 b hb).2
          omega
      · have cgt : cnt (fun b => 0 ≤ s2 133 b) S + 1 ≤ cnt (fun b => 0 ≤ s' 133 b) S := by
          have key : ∀ m, m ≤ S → cnt (fun b => 0 ≤ s2 133 b) m + (if b < m then 1 else 0) ≤ cnt (fun b => 0 ≤ s' 133 b) m := by
            intro m
            induction m with
            | zero => intro _; rw [if_neg (by omega)]; exact Nat.le_refl _
            | succ m ihm =>
              intro hm
              have i1 := ihm (by omega)
              by_cases e : m = b
              · subst e
                rw [cnt_n (p := fun b => 0 ≤ s2 133 b) (by omega), cnt_y (p := fun b => 0 ≤ s' 133 b) u4, if_pos (by omega)]
                rw [if_neg (by omega)] at i1
                omega
              · by_cases c : 0 ≤ s2 133 m
                · rw [cnt_y (p := fun b => 0 ≤ s2 133 b) c, cnt_y (p := fun b => 0 ≤ s' 133 b) (by show 0 ≤ s' 133 m; rw [keep m (by omega) c]; exact c)]
                  by_cases l : b < m
                  · rw [if_pos l] at i1; rw [if_pos (by omega)]; omega
                  · rw [if_neg l] at i1; rw [if_neg (by omega)]; omega
                · rw [cnt_n (p := fun b => 0 ≤ s2 133 b) c]
                  have up : cnt (fun b => 0 ≤ s' 133 b) m ≤ cnt (fun b => 0 ≤ s' 133 b) (m + 1) := by
                    by_cases c' : 0 ≤ s' 133 m
                    · rw [cnt_y (p := fun b => 0 ≤ s' 133 b) c']; omega
                    · rw [cnt_n (p := fun b => 0 ≤ s' 133 b) c']; exact Nat.le_refl _
                  by_cases l : b < m
                  · rw [if_pos l] at i1; rw [if_pos (by omega)]; omega
                  · rw [if_neg l] at i1; rw [if_neg (by omega)]; omega
          have := key S (Nat.le_refl _)
          rw [if_pos u2] at this
          exact this
        obtain ⟨s3, d3, y1, y2, y3, y4, y5, y6⟩ := ih (d + 1) G s' (by omega) (by omega) (by omega) z2 gi'
        refine ⟨s3, d3, ?_, y2, fun c u => by rw [y3 c u, z4 c u], y4, y5, y6⟩
        rw [show G + (q + 1) + 2 = (G + q + 2) + 1 by omega, j_244_36, if_neg (by decide), z1', u1, y1]
  have c1 : 1 ≤ cnt (fun b => 0 ≤ s1 133 b) S := by
    apply Decidable.byContradiction
    intro hn
    exact cnt_0 S (p := fun b => 0 ≤ s1 133 b) (by omega) a aS (by show 0 ≤ s1 133 a; rw [v1 a aS, if_pos rfl]; decide)
  obtain ⟨s', d', y1, y2, y3, ⟨k1, k2, k3, k4, k5⟩, y5, y6⟩ := rnd S 1 (F + 1) s1 (by omega) (Nat.le_refl _) c1 ag1 gi1
  rw [show F + 1 + S + 2 = FU by omega] at y1
  refine ⟨s', ?_, y2, fun c u => by rw [y3 c u, fr1 c u], fun b hb => ⟨k3 b hb, fun u => ?_⟩, k1, fun b hb => by have := y5 b hb; omega, k4⟩
  · unfold f_244
    have e1' : j_244_2 FU (a : Int) 0 s = _ := e1
    rw [e1']
    exact y1
  · have := WAY.clos (P := fun x => x < S → 0 ≤ s' 133 x) u (fun _ => by rw [k1]; decide) (fun x z ed hz _ => k5 x z ed (hz ed.2.1) (y5 z ed.2.1))
    exact this hb
end RMS
