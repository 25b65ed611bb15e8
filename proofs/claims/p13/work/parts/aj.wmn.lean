/-! WIDTHS: a node's, the reference's. -/
section WMN
variable {T : TT} {sc sm s s' : Sg} {n' S P A N K C w i n c q x : Nat} {t : Nat → Int} {r v : Int}
theorem m246 (h : CKX T sc sm n' t S P A N K C w) (ha : AGw sm s) (kk : NKD sc sm N n c q) (e121 : sm 121 n = (q : Int)) (hK : q + c ≤ K) (hK8 : K ≤ 8192) {j : Nat} (hj : j < c) : g_246 (n : Int) (j : Int) s ∧ f_246 (n : Int) (j : Int) s = s 122 (kd sm q j) := by
  obtain ⟨a1, a2, -⟩ := kk.at hj
  have n8 := kk.2.1
  have nn := kk.1
  unfold g_246 f_246
  rw [Int.toNat_natCast, ha.1 121 (by decide) (by decide), ha.1 125 (by decide) (by decide), e121, w32_add (by omega), Int.toNat_natCast, a1, Int.toNat_natCast]
  exact ⟨⟨by omega, by omega, by omega, trivial⟩, rfl⟩
theorem mwk (h : CKX T sc sm n' t S P A N K C w) (g : GOOD T sc sm S A N w) (ha : AGw sm s) (hn : n < N) (e120 : sm 120 n = (c : Int)) (e121 : sm 121 n = (q : Int)) (hK8 : K ≤ 8192) (hb : ∀ j, j < c → 1 ≤ s 122 (kd sm q j) ∧ s 122 (kd sm q j) ≤ 32)
    (wh : 1 ≤ sm 116 n ∧ sm 116 n ≤ 3 → ∃ x : Nat, sm 118 n = (x : Int) ∧ x < T.z ∧ T.tk x = 1 ∧ (sc 48 n = 0 → SO1 T sm S (T.vl x) i ∧ FIT sm (sm 116 n) i (sm 120 n)) ∧ (sm 116 n ≠ 1 → sc 48 n = 0)) : f_247 (n : Int) s = some (WSP T sc sm n i c (fun j => s 122 (kd sm q j))) := by
  obtain ⟨c', q', a1, a2, a3, kk, a5, a6, a7, nv, a9, a10⟩ := h.nkd hn
  have ec : c' = c := by omega
  have eq' : q' = q := by omega
  subst ec
  subst eq'
  obtain ⟨hT, hX, hC, hD, hN, h19, h31, h34, h30, wz, tw, S8, P8, A8, N8⟩ := id h
  have z8 := hT.1
  obtain ⟨ar1, ar2, ar3, ar4, ar5⟩ := a7
  obtain ⟨v1, v2, v3, v4, v5⟩ := nv
  have gn := g.2.2.2 n hn
  have kw := fun j (hj : j < c') => m246 h ha kk a2 a3 hK8 hj
  have r : ∀ b, b ≠ 84 → b ≠ 122 → s b = sm b := ha.1
  have w0 : f_247 (n : Int) s = j_247_47 (n : Int) (sm 116 n) (if c' = 0 then 0 else s 122 (kd sm q' 0)) (if c' ≤ 1 then 0 else s 122 (kd sm q' 1)) s := by
    unfold f_247 j_247_26
    rw [gd_pos (by omega), gd_pos (by omega), Int.toNat_natCast, r 120 (by decide) (by decide), r 116 (by decide) (by decide), a1]
    by_cases c0 : c' = 0
    · rw [if_pos (by omega), gd_pos (by omega), if_pos (by omega), if_pos c0, if_pos (by omega)]
    · obtain ⟨k1, k2⟩ := kw 0 (by omega)
      rw [if_neg (by omega), gd_pos (show g_246 (n : Int) 0 s from k1), show f_246 (n : Int) 0 s = s 122 (kd sm q' 0) from k2, if_neg c0, gd_pos (by omega)]
      by_cases c1 : c' ≤ 1
      · rw [if_pos (by omega), if_pos c1]
      · obtain ⟨k3, k4⟩ := kw 1 (by omega)
        rw [if_neg (by omega), if_neg c1, gd_pos (show g_246 (n : Int) 1 s from k3), show f_246 (n : Int) 1 s = s 122 (kd sm q' 1) from k4]
  rw [w0]
  have vw : ∀ x : Nat, x < T.z → T.tk x = 2 → f_218 (x : Int) s = some (T.vl x) := fun x y z => m218 hT (ha.tx hX) y z
  unfold j_247_47 WSP
  by_cases k0 : sm 116 n = 0
  · obtain ⟨xa, xb, g1, g2, g3, g4, g5, g6, -⟩ := v1 k0
    have gv := gn.1 k0
    rw [g2, Int.toNat_natCast] at gv
    rw [if_neg (fun e => e k0), if_pos k0, gd_pos (by omega), Int.toNat_natCast, r 119 (by decide) (by decide), g2, vw xb g4 g6, Option.bind_some, Int.toNat_natCast, w32_id (by omega) (by omega)]
  rw [if_pos k0, if_neg k0]
  by_cases k1 : sm 116 n = 1
  · obtain ⟨x, x1, x2, x3, x4, x5⟩ := wh (by omega)
    obtain ⟨si, b1, b2, b3, b4, b5⟩ := h.nod hn
    have ev := hD.2.2.2.2.1 (hD.2.2.2.2.2.2.1.mpr g) n hn (by omega) (by omega)
    rw [b1, x1, Int.toNat_natCast, Int.toNat_natCast] at ev
    obtain ⟨u, u1, u2, u3, u4, u5⟩ := m255 (i := i) h g ha x2 x3 b2 b3 b4 ev.1 ev.2 (fun z => ⟨(x4 z).1, by
      rcases (x4 z).2 with y | ⟨y, _⟩ | ⟨y, _⟩
      · omega
      · omega
      · omega⟩)
    rw [if_neg (fun e => e k1), if_pos k1, gd_pos (by omega), gd_pos (by omega), gd_pos (by omega), Int.toNat_natCast, r 123 (by decide) (by decide), r 124 (by decide) (by decide), r 118 (by decide) (by decide), b1, x1, u1, Option.bind_some]
    by_cases z : sc 48 n = 0
    · rw [if_pos z, u5 z]
    · rw [if_neg z, u4 z]
  rw [if_pos k1, if_neg k1]
  by_cases k2 : sm 116 n = 2
  · obtain ⟨x, x1, x2, x3, x4, x5⟩ := wh (by omega)
    obtain ⟨so, ft⟩ := x4 (x5 k1)
    have hf : sm 94 i = 1 ∨ sm 94 i = 0 ∧ 0 ≤ sm 96 i := by
      rcases ft with ⟨y, _⟩ | y | ⟨y, _⟩
      · omega
      · exact y.2
      · omega
    have c1 := ar2 (Or.inl k2)
    have i8 := so.1
    obtain ⟨c9, w1, w2, w3, w4, w5, w6⟩ := m97 h g ha so.1 (by omega)
    obtain ⟨p1, -⟩ := m256 h g ha so.1 hf
    rw [if_neg (fun e => e k2), if_pos k2, gd_pos (by omega), Int.toNat_natCast, r 118 (by decide) (by decide), x1, m238w h ha x2 x3 so, Option.bind_some, p1, Option.bind_some, if_neg (show ¬ c' = 0 by omega)]
    by_cases d : s 122 (kd sm q' 0) = iw T sm i
    · rw [if_neg (fun e => e d), if_pos d, gd_pos (by omega), Int.toNat_natCast, r 97 (by decide) (by decide), w1, w2, Option.bind_some, w3, Int.toNat_natCast]
    · rw [if_pos d, if_neg d]
  rw [if_pos k2, if_neg k2]
  by_cases k3 : sm 116 n = 3
  · obtain ⟨x, x1, x2, x3, x4, x5⟩ := wh (by omega)
    obtain ⟨so, ft⟩ := x4 (x5 k1)
    have hf : sm 94 i = 2 ∧ sm 99 i = sm 120 n := by
      rcases ft with ⟨y, _⟩ | ⟨y, _⟩ | y
      · omega
      · omega
      · exact y.2
    have i8 := so.1
    obtain ⟨c9, w1, w2, w3, w4, w5, w6⟩ := m97 h g ha so.1 (by omega)
    obtain ⟨hd, p0, pc, n0, b1, b2, b3, b4, b5, b6, b7, b8, -⟩ := hD.1 i so.1
    have hpc : pc = c' := by omega
    have lp : ∀ (r l F : Nat), l + r = c' → j_247_158 (F + r + 1) (n : Int) (i : Int) (l : Int) s = some (cite (∀ j, l ≤ j → j < c' → s 122 (kd sm q' j) = T.vl (sm 105 (p0 + j)).toNat) (T.vl c9) (-2)) := by
      intro r'
      induction r' with
      | zero =>
        intro l F hl
        rw [j_247_158, gd_pos (by omega), Int.toNat_natCast, r 120 (by decide) (by decide), a1, if_pos (by omega)]
        unfold j_247_208
        rw [gd_pos (by omega), Int.toNat_natCast, r 97 (by decide) (by decide), w1, w2, Option.bind_some, w3, cite_y (fun j x z => absurd z (by omega))]
      | succ r' ih =>
        intro l F hl
        obtain ⟨m1, m2⟩ := kw l (by omega)
        obtain ⟨y, y1, y2, y3, y4⟩ := hD.prt (p := p0 + l) (by omega)
        have gp := (g.2.1 i so.1).2.2.2.2 (p0 + l) (by rw [b6, Int.toNat_natCast]; omega) (by rw [b6, b7, Int.toNat_natCast, Int.toNat_natCast]; omega)
        have pos : 0 ≤ sm 104 (p0 + l) := by
          obtain ⟨hd', p0', pc', n0', c1, c2, c3, c4, c5, c6, c7, c8, c9', c10, c11⟩ := hD.1 i so.1
          rcases c11 with ⟨u, -⟩ | ⟨u, -⟩ | ⟨_, _, _, u⟩ | ⟨u, -⟩
          · omega
          · omega
          · obtain ⟨st, e, m0, mm1, d1, d2, d3, d4, d5, d6, d7, d8, d9, d10, d11, d12, d13⟩ := u
            have e0 : p0' = p0 := by omega
            obtain ⟨z1, _⟩ := d13 l (by omega)
            rw [e0] at z1
            omega
          · omega
        have gv := gp.1 pos
        rw [y1, Int.toNat_natCast] at gv
        rw [show F + (r' + 1) + 1 = (F + r' + 1) + 1 by omega, j_247_158, gd_pos (by omega), Int.toNat_natCast, Int.toNat_natCast, r 120 (by decide) (by decide), a1, if_neg (by omega), gd_pos m1, m2, gd_pos (by omega), r 98 (by decide) (by decide), b6, w32_add (by omega), gd_pos (by omega), Int.toNat_natCast, r 105 (by decide) (by decide), y1, vw y y2 y3, Option.bind_some, w32_id (z := T.vl y) (by omega) (by omega)]
        by_cases d : s 122 (kd sm q' l) = T.vl y
        · rw [if_pos d, w32_nat (by omega), ih (l + 1) F (by omega)]
          congr 1
          by_cases e : ∀ j, l + 1 ≤ j → j < c' → s 122 (kd sm q' j) = T.vl (sm 105 (p0 + j)).toNat
          · rw [cite_y e, cite_y (fun j x z => by
              by_cases u : j = l
              · rw [u, y1, Int.toNat_natCast]; exact d
              · exact e j (by omega) z)]
          · rw [cite_n e, cite_n (fun u => e (fun j x z => u j (by omega) z))]
        · rw [if_neg d, cite_n (fun u => d (by
            have := u l (Nat.le_refl _) (by omega)
            rw [y1, Int.toNat_natCast] at this
            exact this))]
    obtain ⟨F, hF⟩ := FU_split (k := c' + 1) (by omega)
    have e0 := lp c' 0 F (by omega)
    rw [show F + c' + 1 = FU by omega] at e0
    have e1 : j_247_158 FU (n : Int) (i : Int) 0 s = _ := e0
    rw [if_neg (fun e => e k3), if_pos k3, gd_pos (by omega), Int.toNat_natCast, r 118 (by decide) (by decide), x1, m238w h ha x2 x3 so, Option.bind_some, e1, b6, w1, Int.toNat_natCast, Int.toNat_natCast]
    congr 1
    by_cases e : ∀ j, j < c' → s 122 (kd sm q' j) = T.vl (sm 105 (p0 + j)).toNat
    · rw [cite_y e, cite_y (fun j _ z => e j z)]
    · rw [cite_n e, cite_n (fun u => e (fun j z => u j (Nat.zero_le _) z))]
  rw [if_pos k3, if_neg k3]
  have e231 : sm 116 n = 4 ∨ sm 116 n = 5 → j_247_231 (n : Int) (if c' = 0 then 0 else s 122 (kd sm q' 0)) s = some (if s 122 (kd sm q' 0) ≤ T.vl (sm 119 n).toNat then T.vl (sm 119 n).toNat else -2) := fun k4 => by
    obtain ⟨xb, g2, g4, g6, -⟩ := v2 k4
    have gv := gn.2.1 k4
    rw [g2, Int.toNat_natCast] at gv
    have c1 := ar2 (by omega)
    unfold j_247_231
    rw [gd_pos (by omega), Int.toNat_natCast, r 119 (by decide) (by decide), g2, vw xb g4 g6, Option.bind_some, if_neg (show ¬ c' = 0 by omega), gd_pos (by omega), Int.toNat_natCast]
    by_cases d : s 122 (kd sm q' 0) ≤ T.vl xb
    · rw [if_neg (fun e => by have := cmp_lt.mp e; omega), if_pos d, Option.bind_some, w32_id (by omega) (by omega)]
    · rw [if_pos (cmp_lt.mpr (by omega)), if_neg d]
  by_cases k4 : sm 116 n = 4
  · rw [if_pos k4, if_pos (Or.inl k4), e231 (Or.inl k4)]
  rw [if_neg k4]
  by_cases k5 : sm 116 n = 5
  · rw [if_neg (fun e => e k5), if_pos (Or.inr k5), e231 (Or.inr k5)]
  rw [if_pos k5, if_neg (show ¬ (sm 116 n = 4 ∨ sm 116 n = 5) by omega)]
  by_cases k6 : sm 116 n = 6
  · have c2 := ar5 k6
    have lp : ∀ (r l F : Nat), l + r = c' → j_247_276 (F + r + 1) (n : Int) (osum (fun j => s 122 (kd sm q' j)) l) (l : Int) s = j_247_305 (osum (fun j => s 122 (kd sm q' j)) c') s := by
      intro r'
      induction r' with
      | zero =>
        intro l F hl
        rw [j_247_276, gd_pos (by omega), Int.toNat_natCast, r 120 (by decide) (by decide), a1, if_pos (by omega), show l = c' by omega]
      | succ r' ih =>
        intro l F hl
        obtain ⟨m1, m2⟩ := kw l (by omega)
        have ob := osum_b (ω := fun j => s 122 (kd sm q' j)) l (fun j hj => hb j (by omega))
        have hl2 := hb l (by omega)
        rw [show F + (r' + 1) + 1 = (F + r' + 1) + 1 by omega, j_247_276, gd_pos (by omega), Int.toNat_natCast, r 120 (by decide) (by decide), a1, if_neg (by omega), gd_pos m1, m2, w32_nat (by omega), w32_id (by omega) (by omega)]
        exact ih (l + 1) F (by omega)
    obtain ⟨F, hF⟩ := FU_split (k := c' + 1) (by omega)
    have e0 := lp c' 0 F (by omega)
    rw [show F + c' + 1 = FU by omega] at e0
    have e1 : j_247_276 FU (n : Int) 0 0 s = _ := e0
    rw [if_neg (fun e => e k6), if_pos k6, e1]
    unfold j_247_305
    by_cases d : osum (fun j => s 122 (kd sm q' j)) c' ≤ 32
    · rw [if_neg (by omega), if_pos d]
    · rw [if_pos (by omega), if_neg d]
  rw [if_pos k6, if_neg k6]
  by_cases k7 : sm 116 n = 7
  · obtain ⟨xa, xb, g1, g2, g3, g4, g5, g6, -⟩ := v3 k7
    have gv := gn.2.2.1 k7
    rw [g1, g2, Int.toNat_natCast, Int.toNat_natCast] at gv
    have va := hT.2.2.2.2.1 xa g3
    have vb := hT.2.2.2.2.1 xb g4
    have c1 := ar2 (by omega)
    rw [if_neg (fun e => e k7), if_pos k7, gd_pos (by omega), Int.toNat_natCast, r 118 (by decide) (by decide), r 119 (by decide) (by decide), g1, g2, vw xa g3 g5, Option.bind_some, if_neg (show ¬ c' = 0 by omega), Int.toNat_natCast, Int.toNat_natCast]
    by_cases d : T.vl xa < s 122 (kd sm q' 0)
    · rw [if_neg (fun e => by have := cmp_lt.mpr d; omega), if_pos d, gd_pos (by omega), Option.bind_some, gd_pos (by omega), vw xb g4 g6, Option.bind_some, w64_id (by omega) (by omega), w32_id (z := T.vl xa - T.vl xb) (by omega) (by omega), w32_id (by omega) (by omega)]
    · rw [if_pos (by
        apply Decidable.byContradiction
        intro hn
        exact d (cmp_lt.mp (by omega))), if_neg d]
  rw [if_pos k7, if_neg k7]
  by_cases k21 : sm 116 n = 21
  · have c3 := ar4 k21
    obtain ⟨k8, k9⟩ := kw 2 (by omega)
    rw [if_neg (fun e => e k21), if_neg (show ¬ (sm 116 n = 8 ∨ sm 116 n = 9 ∨ sm 116 n = 13 ∨ sm 116 n = 14) by omega), if_pos k21, if_neg (show ¬ c' = 0 by omega), if_neg (show ¬ c' ≤ 1 by omega), gd_pos (show g_246 (n : Int) 2 s from k8), show f_246 (n : Int) 2 s = s 122 (kd sm q' 2) from k9]
    by_cases d : s 122 (kd sm q' 0) = 1
    · rw [if_neg (fun e => e d)]
      by_cases e : s 122 (kd sm q' 1) = s 122 (kd sm q' 2)
      · rw [if_neg (fun z => z e), if_pos ⟨d, e⟩]
      · rw [if_pos e, if_neg (fun z => e z.2)]
    · rw [if_pos d, if_neg (fun z => d z.1)]
  rw [if_pos k21]
  by_cases k8 : sm 116 n = 8 ∨ sm 116 n = 9 ∨ sm 116 n = 13 ∨ sm 116 n = 14
  · have c1 : c' ≠ 0 := by
      by_cases e : sm 116 n = 8 ∨ sm 116 n = 9
      · have := ar2 (by omega); omega
      · have := ar3 (by omega); omega
    rw [if_pos k8, if_neg c1]
    by_cases e8 : sm 116 n = 8
    · rw [if_pos e8]
    · by_cases e9 : sm 116 n = 9
      · rw [if_neg e8, if_pos e9]
      · by_cases e13 : sm 116 n = 13
        · rw [if_neg e8, if_neg e9, if_pos e13]
        · rw [if_neg e8, if_neg e9, if_neg e13, if_neg (fun e => e (by omega))]
  have c2 := ar3 (by omega)
  rw [if_neg k8, if_neg k21, if_neg (show ¬ sm 116 n = 8 by omega), if_neg (show ¬ sm 116 n = 9 by omega), if_neg (show ¬ sm 116 n = 13 by omega), if_pos (show ¬ sm 116 n = 14 by omega), if_neg (show ¬ c' = 0 by omega), if_neg (show ¬ c' ≤ 1 by omega)]
  by_cases d : s 122 (kd sm q' 0) = s 122 (kd sm q' 1)
  · rw [if_pos d, if_pos d]
    by_cases e : sm 116 n < 18
    · rw [if_pos e, if_pos e]
    · rw [if_neg e, if_neg e]
  · rw [if_neg d, if_neg d]
end WMN
